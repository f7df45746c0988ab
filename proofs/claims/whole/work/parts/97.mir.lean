/-! both sides alike: what one side sees, the other sees -/
theorem pS_pS {sz x : Nat} (h : x < 2 * sz) : pS sz 1 (pS sz 1 x) = x := by
  by_cases c : x < sz
  · rw [pS_1a c, pS_1b (by omega), Nat.add_sub_cancel_left]
  · rw [pS_1b (i := x) (by omega), pS_1a (by omega)]
    omega
def ALK (T : Nat → Nat) : Prop := ∀ x, x < 2 * T 1 → (T 3).testBit (pS (T 1) 1 x) = (T 3).testBit x
theorem alk_t {T : Nat → Nat} : alkT T = true ↔ ALK T := by
  unfold alkT alkI
  rw [decide_eq_true_iff]
  exact Iff.rfl
def RM (sz : Nat) (c0 c1 : Nat → Nat) : Prop := ∀ j, j < 2 * sz + 1 → c1 (cI sz 1 j) = c0 (cI sz 0 j)
theorem RM_u {sz i v : Nat} {c0 c1 : Nat → Nat} (b6 : sz < 7) (b1 : 1 ≤ sz) (h : RM sz c0 c1) (hi : i < 2 * sz + 1) : RM sz (ups c0 (cI sz 0 i) v) (ups c1 (cI sz 1 i) v) := by
  intro j hj
  by_cases q : j = i
  · rw [q, ups_a, ups_a]
  · rw [ups_b (fun z => q (cI_in sz b6 b1 1 (by decide) j hj i hi z)), ups_b (fun z => q (cI_in sz b6 b1 0 (by decide) j hj i hi z)), h j hj]
theorem RM_p {sz : Nat} {c0 c1 : Nat → Nat} : RM sz c0 c1 ↔ (∀ x, x < 2 * sz → c1 (pS sz 1 x) = c0 x) ∧ c1 13 = c0 12 := by
  have e : ∀ s, cI sz s sz = 12 + s := fun s => by unfold cI; rw [if_neg (by omega), if_pos rfl]
  constructor
  · intro h
    refine ⟨fun x hx => ?_, ?_⟩
    · by_cases c : x < sz
      · have := h x (by omega)
        rw [cI_pS (by omega), cI_pS (by omega), if_pos c, pS_0 hx] at this
        exact this
      · have := h (x + 1) (by omega)
        rw [cI_pS (by omega), cI_pS (by omega), if_neg (by omega), Nat.add_sub_cancel, pS_0 hx] at this
        exact this
    · have := h sz (by omega)
      rw [e, e] at this
      exact this
  · rintro ⟨h1, h2⟩ j hj
    by_cases c : j = sz
    · rw [c, e, e]; exact h2
    · rw [cI_pS c, cI_pS c]
      by_cases d : j < sz
      · rw [if_pos d, pS_0 (by omega), h1 j (by omega)]
      · rw [if_neg d, pS_0 (by omega), h1 (j - 1) (by omega)]
theorem onI_m {T : Nat → Nat} (hA : ALK T) : ∀ j, j < 2 * T 1 + 1 → onI T 1 j = onI T 0 j := by
  intro j hj
  unfold onI
  by_cases c : j = T 1
  · rw [if_pos c, if_pos c]
  · rw [if_neg c, if_neg c, cI_pS c, cI_pS c]
    by_cases d : j < T 1
    · rw [if_pos d, hA j (by omega), pS_0 (by omega)]
    · rw [if_neg d, hA (j - 1) (by omega), pS_0 (by omega)]
theorem fd_cg {P P' : Nat → Bool} {m i : Nat} (hm : 0 < m) (h : ∀ x, x < m → P x = P' x) : ∀ f t, fd P m i f t = fd P' m i f t := by
  intro f
  induction f with
  | zero => intro t; rfl
  | succ f ih => intro t; rw [fd, fd, h _ (Nat.mod_lt _ hm), ih]
theorem Pw_m {T : Nat → Nat} {w : Nat} (hA : ALK T) : ∀ j, j < 2 * T 1 + 1 → Pw T 1 w j = Pw T 0 w j := by
  intro j hj
  unfold Pw
  by_cases c : T 5 = 1
  · rw [if_pos c, if_pos c]
    unfold pw
    rw [onI_m hA j hj]
  · rw [if_neg c, if_neg c, onI_m hA j hj]
theorem nxR_m {T : Nat → Nat} {w i : Nat} (hA : ALK T) : nxR T 1 w i = nxR T 0 w i := by
  unfold nxR
  rw [fd_cg (by omega) (Pw_m hA)]
theorem stk_m {T : Nat → Nat} {w : Nat} (hA : ALK T) : stk T 1 w = stk T 0 w := by
  unfold stk
  rw [fd_cg (by omega) (Pw_m hA)]
theorem scC_m {T : Nat → Nat} {w : Nat} (hA : ALK T) (b6 : T 1 < 7) (b1 : 1 ≤ T 1) (hw : w < 2 * T 1 + 1) (onw : onI T 0 w = true) (hst : stk T 0 w = false) : ∀ k i c0 c1, i < 2 * T 1 + 1 → RM (T 1) c0 c1 → (scC T 1 w k i c1).1 = (scC T 0 w k i c0).1 ∧ RM (T 1) (scC T 0 w k i c0).2 (scC T 1 w k i c1).2 := by
  intro k
  induction k with
  | zero => intro i c0 c1 _ h; exact ⟨rfl, h⟩
  | succ k ih =>
    intro i c0 c1 hi h
    obtain ⟨j, hN, e, hj, onj, -, -⟩ := nx_step hw onw hi hst
    rw [scC, scC, nxR_m hA, e, h j hj]
    exact ih j _ _ hj (RM_u b6 b1 h hj)
theorem sow_m {T : Nat → Nat} (hA : ALK T) (b6 : T 1 < 7) (b1 : 1 ≤ T 1) : ∀ f k w c0 c1, w < 2 * T 1 + 1 → onI T 0 w = true → RM (T 1) c0 c1 → (sowC T 0 f k w c0 = none ∧ sowC T 1 f k w c1 = none) ∨ (∃ l r d0 d1, sowC T 0 f k w c0 = some (l, r, d0) ∧ sowC T 1 f k w c1 = some (l, r, d1) ∧ RM (T 1) d0 d1 ∧ l < 2 * T 1 + 1) := by
  intro f
  induction f with
  | zero => intro k w c0 c1 _ _ _; exact Or.inl ⟨rfl, rfl⟩
  | succ f ih =>
    intro k w c0 c1 hw on h
    cases hst : stk T 0 w with
    | true => exact Or.inl ⟨by rw [sowC, hst]; rfl, by rw [sowC, stk_m hA, hst]; rfl⟩
    | false =>
      have u1 : ∀ s c, stk T s w = false → sowC T s (f + 1) k w c = if T 6 = 0 ∨ (scW T s w c).1 = T 1 ∨ (scW T s w c).2 (cI (T 1) s (scW T s w c).1) = 1 then some ((scW T s w c).1, k, (scW T s w c).2) else sowC T s f (k + 1) (scW T s w c).1 (scW T s w c).2 := fun s c hs => by rw [sowC, hs, if_neg (by decide)]
      rw [u1 0 c0 hst, u1 1 c1 (by rw [stk_m hA, hst])]
      have e : scW T 1 w c1 = scC T 1 w (c0 (cI (T 1) 0 w)) w (ups c1 (cI (T 1) 1 w) 0) := by unfold scW; rw [h w hw]
      obtain ⟨e1, e2⟩ := scC_m hA b6 b1 hw on hst (c0 (cI (T 1) 0 w)) w _ _ hw (RM_u (v := 0) b6 b1 h hw)
      rw [← e] at e1 e2
      rw [show scC T 0 w (c0 (cI (T 1) 0 w)) w (ups c0 (cI (T 1) 0 w) 0) = scW T 0 w c0 from rfl] at e1 e2
      obtain ⟨p1, p2, -⟩ := scC_p b6 b1 (s := 0) (by decide) hw on hst (c0 (cI (T 1) 0 w)) w (ups c0 (cI (T 1) 0 w) 0) hw on
      rw [show scC T 0 w (c0 (cI (T 1) 0 w)) w (ups c0 (cI (T 1) 0 w) 0) = scW T 0 w c0 from rfl] at p1 p2
      rw [e1, e2 _ p1]
      by_cases z : T 6 = 0 ∨ (scW T 0 w c0).1 = T 1 ∨ (scW T 0 w c0).2 (cI (T 1) 0 (scW T 0 w c0).1) = 1
      · rw [if_pos z, if_pos z]
        exact Or.inr ⟨_, _, _, _, rfl, rfl, e2, p1⟩
      · rw [if_neg z, if_neg z]
        exact ih (k + 1) _ _ _ p1 p2 e2
theorem g_m {T c0 c1 : Nat → Nat} (hA : ALK T) (h : RM (T 1) c0 c1) : ∀ e, e ≤ T 1 → gsm (gok T c0) c0 (T 1) (T 1 + e) = gsm (gok T c1) c1 0 e ∧ gnd (gok T c0) (T 1) (T 1 + e) = T 1 + gnd (gok T c1) 0 e := by
  have hp := (RM_p.mp h).1
  intro e
  induction e with
  | zero => intro _; exact ⟨gsm_lo (Nat.le_refl _), gnd_lo (Nat.le_refl _)⟩
  | succ e ih =>
    intro he
    obtain ⟨i1, i2⟩ := ih (by omega)
    have ec : c1 e = c0 (T 1 + e) := by
      have := hp (T 1 + e) (by omega)
      rw [pS_1b (by omega), Nat.add_sub_cancel_left] at this
      exact this
    have eo : gok T c0 (T 1 + e) = gok T c1 e := by
      unfold gok
      have := hA e (by omega)
      rw [pS_1a (by omega)] at this
      rw [this, ec]
    rw [← Nat.add_assoc, gsm, gsm, gnd, gnd, eo, i1, i2, ec]
    by_cases z : gok T c1 e = true
    · rw [if_pos ⟨by omega, z⟩, if_pos ⟨by omega, z⟩, if_pos ⟨by omega, z⟩, if_pos ⟨by omega, z⟩]
      exact ⟨rfl, rfl⟩
    · rw [if_neg (fun q => z q.2), if_neg (fun q => z q.2), if_neg (fun q => z q.2), if_neg (fun q => z q.2)]
      exact ⟨rfl, by omega⟩
theorem row_m {sz : Nat} {c0 c1 : Nat → Nat} (h : RM sz c0 c1) : rowN c1 (offN sz 0) sz = rowN c0 (offN sz 1) sz ∧ rowN c1 (offN sz 1) sz = rowN c0 (offN sz 0) sz := by
  have hp := (RM_p.mp h).1
  constructor
  · refine sum_cg _ (fun i hi => ?_)
    show c1 (0 + i) = c0 (sz + i)
    have := hp (sz + i) (by omega)
    rw [pS_1b (by omega), Nat.add_sub_cancel_left] at this
    rw [Nat.zero_add]
    exact this
  · refine sum_cg _ (fun i hi => ?_)
    show c1 (sz + i) = c0 (0 + i)
    have := hp i (by omega)
    rw [pS_1a hi] at this
    rw [Nat.zero_add]
    exact this
theorem tk_m {T c0 c1 : Nat → Nat} {l : Nat} (hA : ALK T) (b6 : T 1 < 7) (b1 : 1 ≤ T 1) (hl : l < 2 * T 1 + 1) (h : RM (T 1) c0 c1) : (tkR T 1 c1 l).1 = (tkR T 0 c0 l).1 ∧ RM (T 1) (tkR T 0 c0 l).2 (tkR T 1 c1 l).2 := by
  have e : ∀ s, cI (T 1) s (T 1) = 12 + s := fun s => by unfold cI; rw [if_neg (by omega), if_pos rfl]
  unfold tkR
  by_cases q : l = T 1
  · rw [if_pos q, if_pos q]; exact ⟨rfl, h⟩
  · rw [if_neg q, if_neg q]
    by_cases q2 : l < T 1
    · rw [if_pos q2, if_pos q2]
      unfold tkO
      have f0 : 2 * T 1 - 1 - cI (T 1) 0 l = cI (T 1) 0 (2 * T 1 - l) := by
        unfold cI
        rw [if_pos q2, if_neg (by omega), if_neg (by omega)]
        show 2 * T 1 - 1 - (0 + l) = T 1 + (2 * T 1 - l - T 1 - 1)
        omega
      have f1 : 2 * T 1 - 1 - cI (T 1) 1 l = cI (T 1) 1 (2 * T 1 - l) := by
        unfold cI
        rw [if_pos q2, if_neg (by omega), if_neg (by omega)]
        show 2 * T 1 - 1 - (T 1 + l) = 0 + (2 * T 1 - l - T 1 - 1)
        omega
      rw [f0, f1, h l hl, h (2 * T 1 - l) (by omega)]
      by_cases z : T 7 = 1 ∧ c0 (cI (T 1) 0 l) = 1 ∧ c0 (cI (T 1) 0 (2 * T 1 - l)) ≠ 0
      · rw [if_pos z, if_pos z]
        refine ⟨rfl, ?_⟩
        have s1 := RM_u (v := 0) b6 b1 (RM_u (v := 0) b6 b1 h (show 2 * T 1 - l < 2 * T 1 + 1 by omega)) hl
        have s2 := RM_u (v := c0 (12 + 0) + (c0 (cI (T 1) 0 (2 * T 1 - l)) + 1)) b6 b1 s1 (show T 1 < 2 * T 1 + 1 by omega)
        rw [e, e] at s2
        have e13 : c1 (12 + 1) = c0 (12 + 0) := (RM_p.mp h).2
        rw [e13]
        exact s2
      · rw [if_neg z, if_neg z]
        exact ⟨rfl, h⟩
    · rw [if_neg q2, if_neg q2]
      have p0 : cI (T 1) 0 l = T 1 + (l - T 1 - 1) := by
        unfold cI
        rw [if_neg q2, if_neg q]
        rfl
      have p1 : cI (T 1) 1 l = l - T 1 - 1 := by
        unfold cI
        rw [if_neg q2, if_neg q]
        show 0 + (l - T 1 - 1) = _
        omega
      obtain ⟨y, hy⟩ : ∃ y, y = l - T 1 - 1 := ⟨_, rfl⟩
      obtain ⟨g1, g2⟩ := g_m hA h (y + 1) (by omega)
      obtain ⟨r1, r2⟩ := row_m h
      have e13 : c1 (12 + 1) = c0 (12 + 0) := (RM_p.mp h).2
      unfold tkG
      rw [p0, p1, ← hy]
      have o0 : offN (T 1) (1 - 0) = T 1 := rfl
      have o1 : offN (T 1) (1 - 1) = 0 := rfl
      have o2 : offN (T 1) 0 = 0 := rfl
      have o3 : offN (T 1) 1 = T 1 := rfl
      rw [o2, o3] at r1
      rw [o0, o1, Nat.add_assoc, g1, g2, r1, e13]
      by_cases z7 : T 7 = 2
      · rw [if_pos z7, if_pos z7]
        by_cases z8 : T 8 = 1 ∧ gsm (gok T c1) c1 0 (y + 1) = rowN c0 (T 1) (T 1)
        · rw [if_pos z8, if_pos z8]; exact ⟨rfl, h⟩
        · rw [if_neg z8, if_neg z8]
          refine ⟨rfl, RM_p.mpr ⟨fun x hx => ?_, ?_⟩⟩
          · have hx2 := pS_lt (sz := T 1) (s := 1) (by decide) hx
            have hh := (RM_p.mp h).1 x hx
            dsimp only
            rw [ups_b (by omega), ups_b (by omega)]
            unfold clr
            by_cases d : x < T 1
            · rw [pS_1a d] at hh ⊢
              rw [if_neg (by omega), if_neg (by omega)]
              exact hh
            · rw [pS_1b (by omega)] at hh ⊢
              by_cases z : T 1 + gnd (gok T c1) 0 (y + 1) ≤ x ∧ x ≤ T 1 + y
              · rw [if_pos z, if_pos (by omega)]
              · rw [if_neg z, if_neg (by omega)]
                exact hh
          · dsimp only
            rw [show (13 : Nat) = 12 + 1 from rfl, ups_a, show (12 : Nat) = 12 + 0 from rfl, ups_a]
      · rw [if_neg z7, if_neg z7]; exact ⟨rfl, h⟩
theorem mv_m {T c0 c1 : Nat → Nat} {w : Nat} (hA : ALK T) (b6 : T 1 < 7) (b1 : 1 ≤ T 1) (hw : w < T 1) (on : onI T 0 w = true) (h : RM (T 1) c0 c1) : (mvC T 0 c0 w = none ∧ mvC T 1 c1 w = none) ∨ (∃ l k t d0 d1, mvC T 0 c0 w = some (l, k, t, d0) ∧ mvC T 1 c1 w = some (l, k, t, d1) ∧ RM (T 1) d0 d1) := by
  unfold mvC
  rcases sow_m hA b6 b1 (T 6 + 1) 0 w c0 c1 (by omega) on h with ⟨h1, h2⟩ | ⟨l, r, d0, d1, h1, h2, h3, h4⟩
  · rw [h1, h2]; exact Or.inl ⟨rfl, rfl⟩
  · obtain ⟨t1, t2⟩ := tk_m hA b6 b1 h4 h3
    rw [h1, h2]
    refine Or.inr ⟨l, r, (tkR T 0 d0 l).1, (tkR T 0 d0 l).2, (tkR T 1 d1 l).2, rfl, ?_, t2⟩
    show some (l, r, (tkR T 1 d1 l).1, (tkR T 1 d1 l).2) = _
    rw [t1]
theorem lk_m {T : Nat → Nat} {x : Nat} (hA : ALK T) (hx : x < 2 * T 1) : lkS T 1 x = lkS T 0 x := by
  unfold lkS
  rw [hA x hx, pS_0 hx]
theorem op_m {T : Nat → Nat} (hA : ALK T) : ∀ i, i ≤ 2 * T 1 → opS T 1 i = opS T 0 i := fun i hi => sum_cg _ (fun x hx => by rw [lk_m hA (by omega)])
theorem sqF_m {T : Nat → Nat} (hA : ALK T) : ∀ i, i ≤ 2 * T 1 → ∀ j, j < opS T 0 i → sqF T 1 i j = pS (T 1) 1 (sqF T 0 i j) := by
  intro i
  induction i with
  | zero => intro _ j h; exact absurd h (by unfold opS sumF; omega)
  | succ i ih =>
    intro hi j h
    rw [opS_s] at h
    rw [sqF, sqF, lk_m hA (by omega), op_m hA i (by omega)]
    cases e : lkS T 0 i with
    | true =>
      rw [e, if_pos rfl, Nat.add_zero] at h
      rw [if_pos rfl, if_pos rfl]
      exact ih (by omega) j h
    | false =>
      rw [e, if_neg (by decide)] at h
      rw [if_neg (by decide), if_neg (by decide)]
      by_cases q : j = opS T 0 i
      · rw [q, ups_a, ups_a, pS_0 (by omega)]
      · rw [ups_b q, ups_b q]
        exact ih (by omega) j (by omega)
theorem sq_m {T : Nat → Nat} (hA : ALK T) {j : Nat} (hj : j < opnN T) : sqN T 1 j = pS (T 1) 1 (sqN T 0 j) := sqF_m hA (2 * T 1) (Nat.le_refl _) j (by rw [opS_all (by decide)]; exact hj)
theorem nb_cg {a a2 : Nat → Nat} {m : Nat} : ∀ r rest, r ≤ m → (∀ j, j < m → a j = a2 j) → nbR a m r rest = nbR a2 m r rest := by
  intro r
  induction r with
  | zero => intro rest _ _; rfl
  | succ r ih => intro rest hr h; rw [nbR, nbR, h (m - (r + 1)) (by omega), ih _ (by omega) h]
theorem nb_m {T c0 c1 : Nat → Nat} (hA : ALK T) (h : RM (T 1) c0 c1) : nbT T c1 1 = nbT T c0 0 ∧ nbT T c1 0 = nbT T c0 1 ∧ sumF c1 (2 * T 1) = sumF c0 (2 * T 1) := by
  have hp := (RM_p.mp h).1
  have es : sumF c1 (2 * T 1) = sumF c0 (2 * T 1) := by
    rw [← sum_pS (s := 1) (by decide) c1]
    exact sum_cg _ (fun x hx => hp x hx)
  refine ⟨?_, ?_, es⟩
  · unfold nbT
    rw [es]
    refine nb_cg _ _ (Nat.le_refl _) (fun j hj => ?_)
    rw [sq_m hA hj, hp _ (sq_lt (by decide) hj).1]
  · unfold nbT
    rw [es]
    refine nb_cg _ _ (Nat.le_refl _) (fun j hj => ?_)
    have hx := (sq_lt (T := T) (s := 0) (by decide) hj).1
    have := hp (pS (T 1) 1 (sqN T 0 j)) (pS_lt (by decide) hx)
    rw [pS_pS hx] at this
    rw [this, sq_m hA hj]
theorem la_m {sz m : Nat} {q0 q1 : Nat → Nat} (hq : ∀ j, j < m → q0 j < 2 * sz ∧ q1 j = pS sz 1 (q0 j)) : ∀ r rest n c0 c1, r ≤ m → (∀ x, x < 2 * sz → c1 (pS sz 1 x) = c0 x) → ∀ x, x < 2 * sz → laR q1 m r rest n c1 (pS sz 1 x) = laR q0 m r rest n c0 x := by
  intro r
  induction r with
  | zero => intro rest n c0 c1 _ h x hx; exact h x hx
  | succ r ih =>
    intro rest n c0 c1 hr h x hx
    rw [laR, laR]
    refine ih _ _ _ _ (by omega) (fun y hy => ?_) x hx
    obtain ⟨a, b⟩ := hq (m - (r + 1)) (by omega)
    by_cases z : y = q0 (m - (r + 1))
    · rw [z, ups_a, ← b, ups_a]
    · rw [ups_b z, ups_b (fun z2 => z (pS_in (s := 1) (by decide) hy a (by rw [z2, b]))), h y hy]
theorem laC_m {T : Nat → Nat} {s k : Nat} (hA : ALK T) (b6 : T 1 < 7) (hk : k < Wn (opnN T) s) : RM (T 1) (laC T 0 s k) (laC T 1 s k) := by
  refine RM_p.mpr ⟨fun x hx => ?_, ?_⟩
  · exact la_m (fun j hj => ⟨(sq_lt (by decide) hj).1, sq_m hA hj⟩) (opnN T) s k _ _ (Nat.le_refl _) (fun _ _ => rfl) x hx
  · rw [(laC_p (sd := 0) (by decide) hk).2 12 (Or.inl (by omega)), (laC_p (sd := 1) (by decide) hk).2 13 (Or.inl (by omega))]
