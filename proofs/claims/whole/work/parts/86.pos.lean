/-! what a move keeps; positions as told -/
theorem gsm_gnd {ok : Nat → Bool} {c : Nat → Nat} {lo : Nat} : ∀ e, gsm ok c lo e + sumF c (gnd ok lo e) = sumF c e := by
  intro e
  induction e with
  | zero => rfl
  | succ e ih =>
    rw [gsm, gnd]
    by_cases q : lo ≤ e ∧ ok e = true
    · rw [if_pos q, if_pos q, sumF]; omega
    · rw [if_neg q, if_neg q]; omega
theorem gnd_ge {ok : Nat → Bool} {lo : Nat} : ∀ e, lo ≤ e → lo ≤ gnd ok lo e := by
  intro e
  induction e with
  | zero => intro h; rw [gnd]; exact h
  | succ e ih =>
    intro h
    rw [gnd]
    by_cases q : lo ≤ e ∧ ok e = true
    · rw [if_pos q]; exact ih q.1
    · rw [if_neg q]; exact h
theorem clr_sum {c : Nat → Nat} {e l : Nat} (he : e ≤ l + 1) : ∀ n, l < n → sumF (clr c e l) n + sumF c (l + 1) = sumF c n + sumF c e := by
  have h1 : ∀ n, n ≤ e → sumF (clr c e l) n = sumF c n := by
    intro n
    induction n with
    | zero => intro _; rfl
    | succ n ih => intro h; rw [sumF, sumF, ih (by omega)]; unfold clr; rw [if_neg (by omega)]
  have h2 : ∀ k, e + k ≤ l + 1 → sumF (clr c e l) (e + k) = sumF c e := by
    intro k
    induction k with
    | zero => intro _; exact h1 e (Nat.le_refl _)
    | succ k ih => intro h; rw [← Nat.add_assoc, sumF, ih (by omega)]; unfold clr; rw [if_pos (by omega)]; rfl
  intro n
  induction n with
  | zero => intro h; omega
  | succ n ih =>
    intro h
    by_cases q : n = l
    · subst q
      have := h2 (n + 1 - e) (by omega)
      rw [show e + (n + 1 - e) = n + 1 by omega] at this
      omega
    · have := ih (by omega)
      have s1 : sumF (clr c e l) (n + 1) = sumF (clr c e l) n + clr c e l n := rfl
      have s2 : sumF c (n + 1) = sumF c n + c n := rfl
      have e2 : clr c e l n = c n := by unfold clr; rw [if_neg (by omega)]
      omega
theorem tk_p {T : Nat → Nat} {s : Nat} {c : Nat → Nat} {l : Nat} (b6 : T 1 < 7) (b1 : 1 ≤ T 1) (hs : s < 2) (hl : l < 2 * T 1 + 1) : sumF (tkR T s c l).2 14 = sumF c 14 ∧ (tkR T s c l).2 (13 - s) = c (13 - s) ∧ (∀ x, x < 12 → (tkR T s c l).2 x ≤ c x) := by
  unfold tkR
  by_cases q : l = T 1
  · rw [if_pos q]; exact ⟨rfl, rfl, fun _ _ => Nat.le_refl _⟩
  · rw [if_neg q]
    have hcl := (cI_lt (T 1) b6 b1 s hs l hl).1 q
    by_cases q2 : l < T 1
    · rw [if_pos q2]
      unfold tkO
      generalize cI (T 1) s l = p at *
      by_cases q3 : T 7 = 1 ∧ c p = 1 ∧ c (2 * T 1 - 1 - p) ≠ 0
      · rw [if_pos q3]
        dsimp only
        refine ⟨?_, ?_, fun x hx => ?_⟩
        · have s1 := sum_ups (c := c) (j := 2 * T 1 - 1 - p) (v := 0) 14 (by omega)
          have s2 := sum_ups (c := ups c (2 * T 1 - 1 - p) 0) (j := p) (v := 0) 14 (by omega)
          have s3 := sum_ups (c := ups (ups c (2 * T 1 - 1 - p) 0) p 0) (j := 12 + s) (v := c (12 + s) + (c (2 * T 1 - 1 - p) + 1)) 14 (by omega)
          rw [ups_b (show p ≠ 2 * T 1 - 1 - p by omega)] at s2
          rw [ups_b (show 12 + s ≠ p by omega), ups_b (show 12 + s ≠ 2 * T 1 - 1 - p by omega)] at s3
          omega
        · rw [ups_b (by omega), ups_b (by omega), ups_b (by omega)]
        · rw [ups_b (by omega)]
          by_cases z : x = p
          · rw [z, ups_a]; omega
          · rw [ups_b z]
            by_cases z2 : x = 2 * T 1 - 1 - p
            · rw [z2, ups_a]; omega
            · rw [ups_b z2]; exact Nat.le_refl _
      · rw [if_neg q3]; exact ⟨rfl, rfl, fun _ _ => Nat.le_refl _⟩
    · rw [if_neg q2]
      unfold tkG
      generalize cI (T 1) s l = p at *
      by_cases q7 : T 7 = 2
      · rw [if_pos q7]
        by_cases q8 : T 8 = 1 ∧ gsm (gok T c) c (offN (T 1) (1 - s)) (p + 1) = rowN c (offN (T 1) (1 - s)) (T 1)
        · rw [if_pos q8]; exact ⟨rfl, rfl, fun _ _ => Nat.le_refl _⟩
        · rw [if_neg q8]
          dsimp only
          have g1 := gsm_gnd (ok := gok T c) (c := c) (lo := offN (T 1) (1 - s)) (p + 1)
          have g2 := gnd_le (ok := gok T c) (lo := offN (T 1) (1 - s)) (p + 1)
          have g3 := clr_sum (c := c) g2 14 (by omega)
          refine ⟨?_, ?_, fun x hx => ?_⟩
          · have s3 := sum_ups (c := clr c (gnd (gok T c) (offN (T 1) (1 - s)) (p + 1)) p) (j := 12 + s) (v := c (12 + s) + gsm (gok T c) c (offN (T 1) (1 - s)) (p + 1)) 14 (by omega)
            have e : clr c (gnd (gok T c) (offN (T 1) (1 - s)) (p + 1)) p (12 + s) = c (12 + s) := by unfold clr; rw [if_neg (by omega)]
            omega
          · rw [ups_b (by omega)]
            unfold clr
            rw [if_neg (by omega)]
          · rw [ups_b (by omega)]
            unfold clr
            split
            · omega
            · exact Nat.le_refl _
      · rw [if_neg q7]; exact ⟨rfl, rfl, fun _ _ => Nat.le_refl _⟩
/-- a cell that isn't on the way of a side -/
def offW (T : Nat → Nat) (s x : Nat) : Prop := ∀ j, j < 2 * T 1 + 1 → onI T s j = true → x ≠ cI (T 1) s j
theorem sow_p {T : Nat → Nat} {s : Nat} (b6 : T 1 < 7) (b1 : 1 ≤ T 1) (hs : s < 2) : ∀ f k w c l r c1, w < 2 * T 1 + 1 → onI T s w = true → 1 ≤ c (cI (T 1) s w) → sowC T s f k w c = some (l, r, c1) → l < 2 * T 1 + 1 ∧ onI T s l = true ∧ r < k + f ∧ sumF c1 14 = sumF c 14 ∧ (w ≠ T 1 → c (12 + s) ≤ c1 (12 + s)) ∧ (∀ x, offW T s x → c1 x = c x) ∧ 1 ≤ c1 (cI (T 1) s l) := by
  intro f
  induction f with
  | zero => intro k w c l r c1 _ _ _ h; exact nomatch h
  | succ f ih =>
    intro k w c l r c1 hw on hne h
    rw [sowC] at h
    cases hst : stk T s w with
    | true => rw [hst, if_pos rfl] at h; exact nomatch h
    | false =>
      rw [hst, if_neg (by decide)] at h
      have hcw := (cI_lt (T 1) b6 b1 s hs w hw).2.1
      have hss := sum_ups (c := c) (j := cI (T 1) s w) (v := 0) 14 hcw
      obtain ⟨p1, p2, p3, p4, p5, p6⟩ := scC_p b6 b1 hs hw on hst (c (cI (T 1) s w)) w (ups c (cI (T 1) s w) 0) hw on
      have q3 : sumF (scW T s w c).2 14 = sumF c 14 := by unfold scW; omega
      have q4 : w ≠ T 1 → c (12 + s) ≤ (scW T s w c).2 (12 + s) := by
        intro hw2
        refine Nat.le_trans ?_ (p4 _)
        rw [ups_b (fun z => absurd ((cI_12 b6 b1 hs hw).mpr hw2) (by omega))]
        exact Nat.le_refl _
      have q5 : ∀ x, offW T s x → (scW T s w c).2 x = c x := by
        intro x hx
        unfold scW
        rw [p5 x hx, ups_b (hx w hw on)]
      have q6 : 1 ≤ (scW T s w c).2 (cI (T 1) s (scW T s w c).1) := p6 (by omega)
      by_cases z : T 6 = 0 ∨ (scW T s w c).1 = T 1 ∨ (scW T s w c).2 (cI (T 1) s (scW T s w c).1) = 1
      · rw [if_pos z] at h
        injection h with h
        injection h with h1 h
        injection h with h2 h3
        subst h1 h2 h3
        exact ⟨p1, p2, by omega, q3, q4, q5, q6⟩
      · rw [if_neg z] at h
        have z2 : (scW T s w c).1 ≠ T 1 := fun e => z (Or.inr (Or.inl e))
        obtain ⟨i1, i2, i3, i4, i5, i6, i7⟩ := ih (k + 1) _ _ l r c1 p1 p2 q6 h
        exact ⟨i1, i2, by omega, by omega, fun hw2 => Nat.le_trans (q4 hw2) (i5 z2), fun x hx => by rw [i6 x hx, q5 x hx], i7⟩
theorem mv_p {T : Nat → Nat} {s : Nat} {c : Nat → Nat} {w l k t : Nat} {c' : Nat → Nat} (b6 : T 1 < 7) (b1 : 1 ≤ T 1) (hs : s < 2) (hw : w < T 1) (on : onI T s w = true) (hne : 1 ≤ c (cI (T 1) s w)) (h : mvC T s c w = some (l, k, t, c')) : l < 2 * T 1 + 1 ∧ k ≤ T 6 ∧ sumF c' 14 = sumF c 14 ∧ c (12 + s) + t ≤ c' (12 + s) ∧ c' (13 - s) = c (13 - s) ∧ (∀ x, x < 12 → offW T s x → c x = 0 → c' x = 0) := by
  unfold mvC at h
  cases e : sowC T s (T 6 + 1) 0 w c with
  | none => rw [e] at h; exact nomatch h
  | some x =>
    obtain ⟨l0, k0, c1⟩ := x
    rw [e] at h
    injection h with h
    injection h with h1 h
    injection h with h2 h
    injection h with h3 h4
    dsimp only at h1 h2 h3 h4
    subst h1 h2 h3 h4
    obtain ⟨i1, i2, i3, i4, i5, i6, i7⟩ := sow_p b6 b1 hs (T 6 + 1) 0 w c l0 k0 c1 (by omega) on hne e
    obtain ⟨j1, j2, j3⟩ := tk_p (c := c1) b6 b1 hs i1
    refine ⟨i1, by omega, by omega, ?_, ?_, fun x hx hoff h0 => ?_⟩
    · rw [tkR_s2]
      have := i5 (by omega)
      omega
    · rw [j2]
      refine i6 _ (fun j hj _ e => ?_)
      by_cases z : j = T 1
      · rw [z, (cI_lt (T 1) b6 b1 s hs (T 1) (by omega)).2.2] at e; omega
      · have := (cI_lt (T 1) b6 b1 s hs j hj).1 z; omega
    · have := j3 x hx
      rw [i6 x hoff, h0] at this
      omega
/-! told boards -/
def cT (T : Nat → Nat) : Nat → Nat := fun k => if k < 12 then T (13 + k) else T (k - 1)
def upT (T c : Nat → Nat) (th : Nat) : Nat → Nat := fun k => if k = 2 then th else if k = 11 then c 12 else if k = 12 then c 13 else if 13 ≤ k ∧ k < 25 then c (k - 13) else T k
theorem cT_up {T c : Nat → Nat} {th k : Nat} (hk : k < 14) : cT (upT T c th) k = c k := by
  unfold cT upT
  by_cases q : k < 12
  · rw [if_pos q, if_neg (by omega), if_neg (by omega), if_neg (by omega), if_pos (by omega), Nat.add_sub_cancel_left]
  · rw [if_neg q]
    obtain rfl | rfl : k = 12 ∨ k = 13 := by omega
    · rfl
    · rfl
theorem upT_r {T c : Nat → Nat} {th k : Nat} (h2 : k ≠ 2) (h11 : k < 11) : upT T c th k = T k := by
  unfold upT
  rw [if_neg h2, if_neg (by omega), if_neg (by omega), if_neg (by omega)]
theorem upT_2 {T c : Nat → Nat} {th : Nat} : upT T c th 2 = th := rfl
/-- a told board is sound -/
def WF (T : Nat → Nat) : Prop := BD T ∧ T 2 < 2 ∧ T 3 < 2 ^ (2 * T 1) ∧ sumF (cT T) 12 ≤ 40 ∧ sumF (cT T) 12 + T 11 ≤ 400 ∧ sumF (cT T) 12 + T 12 ≤ 400 ∧ ∀ p, p < 12 → ((T 3).testBit p = true ∨ 2 * T 1 ≤ p) → T (13 + p) = 0
theorem sum14 {c : Nat → Nat} : sumF c 14 = sumF c 12 + c 12 + c 13 := rfl
theorem WF_b {T : Nat → Nat} (h : WF T) : sumF (cT T) 14 < 1000 := by
  obtain ⟨hB, h2, h3, h4, h5, h6, h7⟩ := h
  rw [sum14]
  have e1 : cT T 12 = T 11 := rfl
  have e2 : cT T 13 = T 12 := rfl
  omega
theorem offW_l {T : Nat → Nat} {s p : Nat} (b6 : T 1 < 7) (b1 : 1 ≤ T 1) (hs : s < 2) (hp : p < 12) (h : (T 3).testBit p = true ∨ 2 * T 1 ≤ p) : offW T s p := by
  intro j hj on e
  by_cases z : j = T 1
  · rw [z, (cI_lt (T 1) b6 b1 s hs (T 1) (by omega)).2.2] at e; omega
  · have h1 := (cI_lt (T 1) b6 b1 s hs j hj).1 z
    unfold onI at on
    rw [if_neg z, ← e] at on
    rcases h with h | h
    · rw [h] at on; exact absurd on (by decide)
    · omega
/-- where the mover's place w has seeds -/
def fulW (T : Nat → Nat) (w : Nat) : Bool := onI T (T 2) w && decide (0 < cT T (cI (T 1) (T 2) w))
def mvW (T : Nat → Nat) (w : Nat) : Option (Nat × Nat × Nat × (Nat → Nat)) := mvC T (T 2) (cT T) w
theorem ful_t {T : Nat → Nat} {w : Nat} : fulW T w = true ↔ onI T (T 2) w = true ∧ 1 ≤ cT T (cI (T 1) (T 2) w) := by
  unfold fulW
  rw [Bool.and_eq_true, decide_eq_true_iff]
  exact Iff.rfl
theorem thN_lt {T : Nat → Nat} {s l : Nat} (hs : s < 2) : thN T s l < 2 := by unfold thN; split <;> omega
theorem WF_mv {T : Nat → Nat} {w l k t : Nat} {c' : Nat → Nat} (h : WF T) (hw : w < T 1) (hf : fulW T w = true) (hm : mvW T w = some (l, k, t, c')) : WF (upT T c' (thN T (T 2) l)) := by
  have hb := WF_b h
  obtain ⟨hB, h2, h3, h4, h5, h6, h7⟩ := h
  obtain ⟨on, hne⟩ := ful_t.mp hf
  obtain ⟨b1, b6, b3, bb⟩ := hB
  obtain ⟨m1, m2, m3, m4, m5, m6⟩ := mv_p b6 b1 h2 hw on hne hm
  have e0 : ∀ k, k ≠ 2 → k < 11 → upT T c' (thN T (T 2) l) k = T k := fun k a b => upT_r a b
  have ec : sumF (cT (upT T c' (thN T (T 2) l))) 12 = sumF c' 12 := sum_cg 12 (fun k hk => cT_up (by omega))
  have e11 : upT T c' (thN T (T 2) l) 11 = c' 12 := rfl
  have e12 : upT T c' (thN T (T 2) l) 12 = c' 13 := rfl
  have a1 : cT T 12 = T 11 := rfl
  have a2 : cT T 13 = T 12 := rfl
  rw [sum14, sum14] at m3
  have key : (cT T 12 ≤ c' 12 ∧ c' 13 = cT T 13) ∨ (cT T 13 ≤ c' 13 ∧ c' 12 = cT T 12) := by
    obtain z | z : T 2 = 0 ∨ T 2 = 1 := by omega
    · rw [z] at m4 m5
      have q1 : cT T 12 + t ≤ c' 12 := m4
      have q2 : c' 13 = cT T 13 := m5
      exact Or.inl ⟨by omega, q2⟩
    · rw [z] at m4 m5
      have q1 : cT T 13 + t ≤ c' 13 := m4
      have q2 : c' 12 = cT T 12 := m5
      exact Or.inr ⟨by omega, q2⟩
  refine ⟨?_, ?_, ?_, ?_, ?_, ?_, fun p hp hq => ?_⟩
  · unfold BD
    rw [e0 1 (by decide) (by decide), e0 3 (by decide) (by decide), e0 4 (by decide) (by decide), e0 5 (by decide) (by decide), e0 6 (by decide) (by decide), e0 7 (by decide) (by decide), e0 8 (by decide) (by decide), e0 9 (by decide) (by decide), e0 10 (by decide) (by decide)]
    exact ⟨b1, b6, b3, bb⟩
  · rw [upT_2]; exact thN_lt h2
  · rw [e0 1 (by decide) (by decide), e0 3 (by decide) (by decide)]; exact h3
  · rw [ec]
    omega
  · rw [ec, e11]
    omega
  · rw [ec, e12]
    omega
  · rw [e0 1 (by decide) (by decide), e0 3 (by decide) (by decide)] at hq
    have e13 : upT T c' (thN T (T 2) l) (13 + p) = c' p := by
      unfold upT
      rw [if_neg (by omega), if_neg (by omega), if_neg (by omega), if_pos (by omega), Nat.add_sub_cancel_left]
    rw [e13]
    refine m6 p hp (offW_l b6 b1 h2 hp hq) ?_
    unfold cT
    rw [if_pos hp]
    exact h7 p hp hq
