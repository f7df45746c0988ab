/-! moves don't look at the stores -/
def SI (s a b : Nat) (c c2 : Nat → Nat) : Prop := (∀ x, x < 12 → c2 x = c x) ∧ c2 (12 + s) + a = c (12 + s) + b
theorem SI_p {s a b j v : Nat} {c c2 : Nat → Nat} (h : SI s a b c c2) (hj : j < 12) : SI s a b (ups c j v) (ups c2 j v) := by
  refine ⟨fun x hx => ?_, ?_⟩
  · by_cases q : x = j
    · rw [q, ups_a, ups_a]
    · rw [ups_b q, ups_b q, h.1 x hx]
  · rw [ups_b (by omega), ups_b (by omega)]
    exact h.2
theorem SI_s {s a b v : Nat} {c c2 : Nat → Nat} (h : SI s a b c c2) : SI s a b (ups c (12 + s) (c (12 + s) + v)) (ups c2 (12 + s) (c2 (12 + s) + v)) := by
  refine ⟨fun x hx => ?_, ?_⟩
  · rw [ups_b (by omega), ups_b (by omega), h.1 x hx]
  · rw [ups_a, ups_a]
    have := h.2
    omega
theorem SI_in {T : Nat → Nat} {s a b j : Nat} {c c2 : Nat → Nat} (b6 : T 1 < 7) (b1 : 1 ≤ T 1) (hs : s < 2) (hj : j < 2 * T 1 + 1) (h : SI s a b c c2) : SI s a b (ups c (cI (T 1) s j) (c (cI (T 1) s j) + 1)) (ups c2 (cI (T 1) s j) (c2 (cI (T 1) s j) + 1)) := by
  by_cases q : j = T 1
  · rw [q, (cI_lt (T 1) b6 b1 s hs (T 1) (by omega)).2.2]
    exact SI_s h
  · have hp := (cI_12 b6 b1 hs hj).mpr q
    rw [h.1 _ hp]
    exact SI_p h hp
theorem scC_i {T : Nat → Nat} {s w a b : Nat} (b6 : T 1 < 7) (b1 : 1 ≤ T 1) (hs : s < 2) (hw : w < 2 * T 1 + 1) (onw : onI T s w = true) (hst : stk T s w = false) : ∀ k i c c2, i < 2 * T 1 + 1 → SI s a b c c2 → (scC T s w k i c2).1 = (scC T s w k i c).1 ∧ SI s a b (scC T s w k i c).2 (scC T s w k i c2).2 := by
  intro k
  induction k with
  | zero => intro i c c2 _ h; exact ⟨rfl, h⟩
  | succ k ih =>
    intro i c c2 hi h
    obtain ⟨j, hN, e, hj, onj, -, -⟩ := nx_step hw onw hi hst
    rw [scC, scC, e]
    exact ih j _ _ hj (SI_in b6 b1 hs hj h)
theorem sow_i {T : Nat → Nat} {s a b : Nat} (b6 : T 1 < 7) (b1 : 1 ≤ T 1) (hs : s < 2) : ∀ f k w c c2, w < 2 * T 1 + 1 → w ≠ T 1 → onI T s w = true → SI s a b c c2 → (sowC T s f k w c = none ∧ sowC T s f k w c2 = none) ∨ (∃ l r c1 c3, sowC T s f k w c = some (l, r, c1) ∧ sowC T s f k w c2 = some (l, r, c3) ∧ SI s a b c1 c3 ∧ l < 2 * T 1 + 1) := by
  intro f
  induction f with
  | zero => intro k w c c2 _ _ _ _; exact Or.inl ⟨rfl, rfl⟩
  | succ f ih =>
    intro k w c c2 hw hw2 on h
    cases hst : stk T s w with
    | true => exact Or.inl ⟨by rw [sowC, hst]; rfl, by rw [sowC, hst]; rfl⟩
    | false =>
      have u1 : ∀ c, sowC T s (f + 1) k w c = if T 6 = 0 ∨ (scW T s w c).1 = T 1 ∨ (scW T s w c).2 (cI (T 1) s (scW T s w c).1) = 1 then some ((scW T s w c).1, k, (scW T s w c).2) else sowC T s f (k + 1) (scW T s w c).1 (scW T s w c).2 := fun c => by rw [sowC, hst, if_neg (by decide)]
      rw [u1, u1]
      have hp := (cI_12 b6 b1 hs hw).mpr hw2
      have e : scW T s w c2 = scC T s w (c (cI (T 1) s w)) w (ups c2 (cI (T 1) s w) 0) := by unfold scW; rw [h.1 _ hp]
      obtain ⟨e1, e2⟩ := scC_i b6 b1 hs hw on hst (c (cI (T 1) s w)) w _ _ hw (SI_p (v := 0) h hp)
      rw [← e] at e1 e2
      rw [show scC T s w (c (cI (T 1) s w)) w (ups c (cI (T 1) s w) 0) = scW T s w c from rfl] at e1 e2
      obtain ⟨p1, p2, -⟩ := scC_p b6 b1 hs hw on hst (c (cI (T 1) s w)) w (ups c (cI (T 1) s w) 0) hw on
      rw [show scC T s w (c (cI (T 1) s w)) w (ups c (cI (T 1) s w) 0) = scW T s w c from rfl] at p1 p2
      rw [e1]
      by_cases q : (scW T s w c).1 = T 1
      · rw [if_pos (Or.inr (Or.inl q)), if_pos (Or.inr (Or.inl q))]
        exact Or.inr ⟨_, _, _, _, rfl, rfl, e2, p1⟩
      · rw [e2.1 _ ((cI_12 b6 b1 hs p1).mpr q)]
        by_cases z : T 6 = 0 ∨ (scW T s w c).1 = T 1 ∨ (scW T s w c).2 (cI (T 1) s (scW T s w c).1) = 1
        · rw [if_pos z, if_pos z]
          exact Or.inr ⟨_, _, _, _, rfl, rfl, e2, p1⟩
        · rw [if_neg z, if_neg z]
          exact ih (k + 1) _ _ _ p1 q p2 e2
theorem gsm_cg {ok ok2 : Nat → Bool} {c c2 : Nat → Nat} {lo : Nat} : ∀ e, (∀ x, x < e → ok2 x = ok x ∧ c2 x = c x) → gsm ok2 c2 lo e = gsm ok c lo e ∧ gnd ok2 lo e = gnd ok lo e := by
  intro e
  induction e with
  | zero => intro _; exact ⟨rfl, rfl⟩
  | succ e ih =>
    intro h
    obtain ⟨i1, i2⟩ := ih (fun x hx => h x (by omega))
    obtain ⟨h1, h2⟩ := h e (by omega)
    rw [gsm, gsm, gnd, gnd, h1, h2, i1, i2]
    exact ⟨rfl, rfl⟩
theorem row_cg {c c2 : Nat → Nat} {b k : Nat} (h : ∀ x, x < b + k → c2 x = c x) : rowN c2 b k = rowN c b k := sum_cg _ (fun i hi => h _ (by omega))
theorem tk_i {T : Nat → Nat} {s a b l : Nat} {c c2 : Nat → Nat} (b6 : T 1 < 7) (b1 : 1 ≤ T 1) (hs : s < 2) (hl : l < 2 * T 1 + 1) (h : SI s a b c c2) : (tkR T s c2 l).1 = (tkR T s c l).1 ∧ SI s a b (tkR T s c l).2 (tkR T s c2 l).2 := by
  unfold tkR
  by_cases q : l = T 1
  · rw [if_pos q, if_pos q]; exact ⟨rfl, h⟩
  · rw [if_neg q, if_neg q]
    have hcl := (cI_lt (T 1) b6 b1 s hs l hl).1 q
    have hoff := off_le (T 1) (1 - s)
    by_cases q2 : l < T 1
    · rw [if_pos q2, if_pos q2]
      unfold tkO
      generalize cI (T 1) s l = p at *
      rw [h.1 p (by omega), h.1 (2 * T 1 - 1 - p) (by omega)]
      by_cases z : T 7 = 1 ∧ c p = 1 ∧ c (2 * T 1 - 1 - p) ≠ 0
      · rw [if_pos z, if_pos z]
        refine ⟨rfl, ?_⟩
        have s1 := SI_p (v := 0) (SI_p (v := 0) h (show 2 * T 1 - 1 - p < 12 by omega)) (show p < 12 by omega)
        have s2 := SI_s (v := c (2 * T 1 - 1 - p) + 1) s1
        rw [ups_b (show 12 + s ≠ p by omega), ups_b (show 12 + s ≠ 2 * T 1 - 1 - p by omega), ups_b (show 12 + s ≠ p by omega), ups_b (show 12 + s ≠ 2 * T 1 - 1 - p by omega)] at s2
        exact s2
      · rw [if_neg z, if_neg z]
        exact ⟨rfl, h⟩
    · rw [if_neg q2, if_neg q2]
      unfold tkG
      generalize cI (T 1) s l = p at *
      obtain ⟨g1, g2⟩ := gsm_cg (ok := gok T c) (ok2 := gok T c2) (c := c) (c2 := c2) (lo := offN (T 1) (1 - s)) (p + 1) (fun x hx => ⟨by unfold gok; rw [h.1 x (by omega)], h.1 x (by omega)⟩)
      rw [g1, g2, row_cg (c := c) (c2 := c2) (fun x hx => h.1 x (by omega))]
      by_cases z7 : T 7 = 2
      · rw [if_pos z7, if_pos z7]
        by_cases z8 : T 8 = 1 ∧ gsm (gok T c) c (offN (T 1) (1 - s)) (p + 1) = rowN c (offN (T 1) (1 - s)) (T 1)
        · rw [if_pos z8, if_pos z8]; exact ⟨rfl, h⟩
        · rw [if_neg z8, if_neg z8]
          refine ⟨rfl, fun x hx => ?_, ?_⟩
          · dsimp only
            rw [ups_b (by omega), ups_b (by omega)]
            unfold clr
            rw [h.1 x hx]
          · dsimp only
            rw [ups_a, ups_a]
            have := h.2
            omega
      · rw [if_neg z7, if_neg z7]; exact ⟨rfl, h⟩
theorem mv_i {T : Nat → Nat} {s w a b : Nat} {c c2 : Nat → Nat} (b6 : T 1 < 7) (b1 : 1 ≤ T 1) (hs : s < 2) (hw : w < T 1) (on : onI T s w = true) (h : SI s a b c c2) : (mvC T s c w = none ∧ mvC T s c2 w = none) ∨ (∃ l k t c1 c3, mvC T s c w = some (l, k, t, c1) ∧ mvC T s c2 w = some (l, k, t, c3) ∧ SI s a b c1 c3) := by
  unfold mvC
  rcases sow_i (a := a) (b := b) b6 b1 hs (T 6 + 1) 0 w c c2 (by omega) (by omega) on h with ⟨h1, h2⟩ | ⟨l, r, c1, c3, h1, h2, h3, h4⟩
  · rw [h1, h2]; exact Or.inl ⟨rfl, rfl⟩
  · obtain ⟨t1, t2⟩ := tk_i b6 b1 hs h4 h3
    rw [h1, h2]
    refine Or.inr ⟨l, r, (tkR T s c1 l).1, (tkR T s c1 l).2, (tkR T s c3 l).2, rfl, ?_, t2⟩
    show some (l, r, (tkR T s c3 l).1, (tkR T s c3 l).2) = _
    rw [t1]
/-- two boards alike but for the stores -/
def SB (T T2 : Nat → Nat) : Prop := RE T T2 ∧ T2 2 = T 2 ∧ ∀ p, p < 12 → cT T2 p = cT T p
theorem SB_w {T T2 : Nat → Nat} {w : Nat} (hW : WF T) (h : SB T T2) (hw : w < T 1) (hf : fulW T w = true) : (mvW T w = none ∧ mvW T2 w = none) ∨ (∃ l k t c1 c3, mvW T w = some (l, k, t, c1) ∧ mvW T2 w = some (l, k, t, c3) ∧ (∀ x, x < 12 → c3 x = c1 x) ∧ c3 (12 + T 2) - cT T2 (12 + T 2) = c1 (12 + T 2) - cT T (12 + T 2)) := by
  have hB := hW.1
  obtain ⟨b1, b6, b3, bb⟩ := hB
  obtain ⟨on, hne⟩ := ful_t.mp hf
  obtain ⟨r, e2, ec⟩ := h
  have eT : ∀ c, mvC T2 (T2 2) c w = mvC T (T 2) c w := by
    intro c
    have e1 := r 1 (by decide) (by decide)
    have e3 := r 3 (by decide) (by decide)
    have e5 := r 5 (by decide) (by decide)
    have e6 := r 6 (by decide) (by decide)
    have e7 := r 7 (by decide) (by decide)
    have e8 := r 8 (by decide) (by decide)
    have eo : ∀ s, onI T2 s = onI T s := fun s => onI_re r
    have ePw : ∀ s w, Pw T2 s w = Pw T s w := fun s w => by unfold Pw; rw [e5, eo]
    have enx : ∀ s w i, nxR T2 s w i = nxR T s w i := fun s w i => by unfold nxR; rw [ePw, e1]
    have est : ∀ s w, stk T2 s w = stk T s w := fun s w => by unfold stk; rw [ePw, e1, e5]
    have esc : ∀ s w k i c, scC T2 s w k i c = scC T s w k i c := by
      intro s w k
      induction k with
      | zero => intro i c; rfl
      | succ k ih => intro i c; rw [scC, scC, enx, e1, ih]
    have esW : ∀ s w c, scW T2 s w c = scW T s w c := fun s w c => by unfold scW; rw [esc, e1]
    have eso : ∀ s f k w c, sowC T2 s f k w c = sowC T s f k w c := by
      intro s f
      induction f with
      | zero => intro k w c; rfl
      | succ f ih => intro k w c; rw [sowC, sowC, est, esW, e1, e6, ih]
    have etk : ∀ s c l, tkR T2 s c l = tkR T s c l := by
      intro s c l
      unfold tkR tkO tkG
      rw [e1, e7, e8]
      have : gok T2 c = gok T c := by funext x; unfold gok; rw [e3]
      rw [this]
    unfold mvC
    rw [e2, e6, eso]
    cases sowC T (T 2) (T 6 + 1) 0 w c with
    | none => rfl
    | some x => show some _ = some _; rw [etk]
  unfold mvW
  rw [eT]
  have hsi : SI (T 2) (cT T (12 + T 2)) (cT T2 (12 + T 2)) (cT T) (cT T2) := ⟨ec, Nat.add_comm _ _⟩
  rcases mv_i b6 b1 hW.2.1 hw on hsi with ⟨h1, h2⟩ | ⟨l, k, t, c1, c3, h1, h2, h3⟩
  · exact Or.inl ⟨h1, h2⟩
  · refine Or.inr ⟨l, k, t, c1, c3, h1, h2, h3.1, ?_⟩
    obtain ⟨-, -, -, m4, -⟩ := mv_p b6 b1 hW.2.1 hw on hne h1
    have := h3.2
    omega
theorem SB_f {T T2 : Nat → Nat} {w : Nat} (hW : WF T) (h : SB T T2) (hw : w < T 1) : fulW T2 w = fulW T w := by
  obtain ⟨r, e2, ec⟩ := h
  have b6 := hW.1.2.1
  unfold fulW
  rw [onI_re r, e2, r 1 (by decide) (by decide), ec _ ((cI_12 b6 hW.1.1 hW.2.1 (by omega)).mpr (by omega))]
theorem SB_fed {T T2 : Nat → Nat} {w : Nat} (hW : WF T) (h : SB T T2) (hw : w < T 1) (hf : fulW T w = true) : fedW T2 w = fedW T w ∧ (mvW T2 w).isNone = (mvW T w).isNone := by
  have b6 := hW.1.2.1
  have hoff := off_le (T 1) (1 - T 2)
  rcases SB_w hW h hw hf with ⟨h1, h2⟩ | ⟨l, k, t, c1, c3, h1, h2, h3, h4⟩
  · unfold fedW
    rw [h1, h2]
    exact ⟨rfl, rfl⟩
  · unfold fedW
    rw [h1, h2]
    refine ⟨?_, rfl⟩
    dsimp only
    rw [h.1 1 (by decide) (by decide), h.2.1, row_cg (c := c1) (c2 := c3) (fun x hx => h3 x (by omega))]
theorem SB_o {T T2 : Nat → Nat} (hW : WF T) (h : SB T T2) : overT T2 = overT T := by
  unfold overT
  rw [h.1 1 (by decide) (by decide)]
  refine decide_eq_decide.mpr ⟨fun z w hw hf => ?_, fun z w hw hf => ?_⟩
  · rw [← (SB_fed hW h hw hf).2]
    exact z w hw (by rw [SB_f hW h hw]; exact hf)
  · rw [SB_f hW h hw] at hf
    rw [(SB_fed hW h hw hf).2]
    exact z w hw hf
theorem SB_c {T T2 : Nat → Nat} {w : Nat} (hW : WF T) (h : SB T T2) (hw : w < T 1) : canW T2 w = canW T w := by
  have ecf : canFd T2 = canFd T := by
    unfold canFd
    rw [h.1 1 (by decide) (by decide)]
    refine decide_eq_decide.mpr ⟨?_, ?_⟩
    · rintro ⟨w, a, b, c⟩
      rw [SB_f hW h a] at b
      rw [(SB_fed hW h a b).1] at c
      exact ⟨w, a, b, c⟩
    · rintro ⟨w, a, b, c⟩
      exact ⟨w, a, by rw [SB_f hW h a]; exact b, by rw [(SB_fed hW h a b).1]; exact c⟩
  unfold canW
  rw [h.1 10 (by decide) (by decide), ecf, SB_f hW h hw]
  cases hf : fulW T w with
  | false => rfl
  | true =>
    obtain ⟨e1, e2⟩ := SB_fed hW h hw hf
    rw [e1]
    have : (mvW T2 w).isSome = (mvW T w).isSome := by
      cases h1 : mvW T2 w <;> cases h2 : mvW T w <;> rw [h1, h2] at e2 <;> first | rfl | exact Bool.noConfusion e2
    rw [this]
