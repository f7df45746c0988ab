/-! one slot of the board that is read -/
theorem BC_r0 {μ : Mu} {T : Nat → Nat} {v : Nat} (h : BC μ T) : BC (si μ 13 0 (nI v)) (ups T 0 v) := by
  obtain ⟨⟨r0, r1, r2, r3, r4, r5, r6, r7, r8⟩, hS⟩ := h
  refine ⟨⟨?_, ?_, ?_, ?_, ?_, ?_, ?_, ?_, ?_⟩, ?_, fun k hk => ?_⟩
  · rw [si_a, ups_a]
  · rw [si_c (by decide), ups_b (by decide)]; exact r1
  · rw [si_c (by decide), ups_b (by decide)]; exact r2
  · rw [si_c (by decide), ups_b (by decide)]; exact r3
  · unfold tkC
    rw [si_c (by decide), ups_b (by decide), ups_b (by decide)]; exact r4
  · rw [si_c (by decide), ups_b (by decide)]; exact r5
  · rw [si_c (by decide), ups_b (by decide)]; exact r6
  · rw [si_c (by decide), ups_b (by decide)]; exact r7
  · rw [si_c (by decide), ups_b (by decide)]; exact r8
  · rw [si_b (by decide), ups_b (by decide)]; exact hS.1
  · have e : cT (ups T 0 v) k = cT T k := by
      unfold cT
      by_cases z : k < 12
      · rw [if_pos z, if_pos z, ups_b (by omega)]
      · rw [if_neg z, if_neg z, ups_b (by omega)]
    rw [si_b (by decide), e]; exact hS.2 k hk
theorem BC_r1 {μ : Mu} {T : Nat → Nat} {v : Nat} (h : BC μ T) : BC (si μ 13 1 (nI v)) (ups T 1 v) := by
  obtain ⟨⟨r0, r1, r2, r3, r4, r5, r6, r7, r8⟩, hS⟩ := h
  refine ⟨⟨?_, ?_, ?_, ?_, ?_, ?_, ?_, ?_, ?_⟩, ?_, fun k hk => ?_⟩
  · rw [si_c (by decide), ups_b (by decide)]; exact r0
  · rw [si_a, ups_a]
  · rw [si_c (by decide), ups_b (by decide)]; exact r2
  · rw [si_c (by decide), ups_b (by decide)]; exact r3
  · unfold tkC
    rw [si_c (by decide), ups_b (by decide), ups_b (by decide)]; exact r4
  · rw [si_c (by decide), ups_b (by decide)]; exact r5
  · rw [si_c (by decide), ups_b (by decide)]; exact r6
  · rw [si_c (by decide), ups_b (by decide)]; exact r7
  · rw [si_c (by decide), ups_b (by decide)]; exact r8
  · rw [si_b (by decide), ups_b (by decide)]; exact hS.1
  · have e : cT (ups T 1 v) k = cT T k := by
      unfold cT
      by_cases z : k < 12
      · rw [if_pos z, if_pos z, ups_b (by omega)]
      · rw [if_neg z, if_neg z, ups_b (by omega)]
    rw [si_b (by decide), e]; exact hS.2 k hk
theorem BC_r3 {μ : Mu} {T : Nat → Nat} {v : Nat} (h : BC μ T) : BC (si μ 13 2 (nI v)) (ups T 3 v) := by
  obtain ⟨⟨r0, r1, r2, r3, r4, r5, r6, r7, r8⟩, hS⟩ := h
  refine ⟨⟨?_, ?_, ?_, ?_, ?_, ?_, ?_, ?_, ?_⟩, ?_, fun k hk => ?_⟩
  · rw [si_c (by decide), ups_b (by decide)]; exact r0
  · rw [si_c (by decide), ups_b (by decide)]; exact r1
  · rw [si_a, ups_a]
  · rw [si_c (by decide), ups_b (by decide)]; exact r3
  · unfold tkC
    rw [si_c (by decide), ups_b (by decide), ups_b (by decide)]; exact r4
  · rw [si_c (by decide), ups_b (by decide)]; exact r5
  · rw [si_c (by decide), ups_b (by decide)]; exact r6
  · rw [si_c (by decide), ups_b (by decide)]; exact r7
  · rw [si_c (by decide), ups_b (by decide)]; exact r8
  · rw [si_b (by decide), ups_b (by decide)]; exact hS.1
  · have e : cT (ups T 3 v) k = cT T k := by
      unfold cT
      by_cases z : k < 12
      · rw [if_pos z, if_pos z, ups_b (by omega)]
      · rw [if_neg z, if_neg z, ups_b (by omega)]
    rw [si_b (by decide), e]; exact hS.2 k hk
theorem BC_r6 {μ : Mu} {T : Nat → Nat} {v : Nat} (h : BC μ T) : BC (si μ 13 3 (nI v)) (ups T 6 v) := by
  obtain ⟨⟨r0, r1, r2, r3, r4, r5, r6, r7, r8⟩, hS⟩ := h
  refine ⟨⟨?_, ?_, ?_, ?_, ?_, ?_, ?_, ?_, ?_⟩, ?_, fun k hk => ?_⟩
  · rw [si_c (by decide), ups_b (by decide)]; exact r0
  · rw [si_c (by decide), ups_b (by decide)]; exact r1
  · rw [si_c (by decide), ups_b (by decide)]; exact r2
  · rw [si_a, ups_a]
  · unfold tkC
    rw [si_c (by decide), ups_b (by decide), ups_b (by decide)]; exact r4
  · rw [si_c (by decide), ups_b (by decide)]; exact r5
  · rw [si_c (by decide), ups_b (by decide)]; exact r6
  · rw [si_c (by decide), ups_b (by decide)]; exact r7
  · rw [si_c (by decide), ups_b (by decide)]; exact r8
  · rw [si_b (by decide), ups_b (by decide)]; exact hS.1
  · have e : cT (ups T 6 v) k = cT T k := by
      unfold cT
      by_cases z : k < 12
      · rw [if_pos z, if_pos z, ups_b (by omega)]
      · rw [if_neg z, if_neg z, ups_b (by omega)]
    rw [si_b (by decide), e]; exact hS.2 k hk
theorem BC_r4 {μ : Mu} {T : Nat → Nat} {v : Nat} (h : BC μ T) : BC (si μ 13 5 (nI v)) (ups T 4 v) := by
  obtain ⟨⟨r0, r1, r2, r3, r4, r5, r6, r7, r8⟩, hS⟩ := h
  refine ⟨⟨?_, ?_, ?_, ?_, ?_, ?_, ?_, ?_, ?_⟩, ?_, fun k hk => ?_⟩
  · rw [si_c (by decide), ups_b (by decide)]; exact r0
  · rw [si_c (by decide), ups_b (by decide)]; exact r1
  · rw [si_c (by decide), ups_b (by decide)]; exact r2
  · rw [si_c (by decide), ups_b (by decide)]; exact r3
  · unfold tkC
    rw [si_c (by decide), ups_b (by decide), ups_b (by decide)]; exact r4
  · rw [si_a, ups_a]
  · rw [si_c (by decide), ups_b (by decide)]; exact r6
  · rw [si_c (by decide), ups_b (by decide)]; exact r7
  · rw [si_c (by decide), ups_b (by decide)]; exact r8
  · rw [si_b (by decide), ups_b (by decide)]; exact hS.1
  · have e : cT (ups T 4 v) k = cT T k := by
      unfold cT
      by_cases z : k < 12
      · rw [if_pos z, if_pos z, ups_b (by omega)]
      · rw [if_neg z, if_neg z, ups_b (by omega)]
    rw [si_b (by decide), e]; exact hS.2 k hk
theorem BC_r5 {μ : Mu} {T : Nat → Nat} {v : Nat} (h : BC μ T) : BC (si μ 13 6 (nI v)) (ups T 5 v) := by
  obtain ⟨⟨r0, r1, r2, r3, r4, r5, r6, r7, r8⟩, hS⟩ := h
  refine ⟨⟨?_, ?_, ?_, ?_, ?_, ?_, ?_, ?_, ?_⟩, ?_, fun k hk => ?_⟩
  · rw [si_c (by decide), ups_b (by decide)]; exact r0
  · rw [si_c (by decide), ups_b (by decide)]; exact r1
  · rw [si_c (by decide), ups_b (by decide)]; exact r2
  · rw [si_c (by decide), ups_b (by decide)]; exact r3
  · unfold tkC
    rw [si_c (by decide), ups_b (by decide), ups_b (by decide)]; exact r4
  · rw [si_c (by decide), ups_b (by decide)]; exact r5
  · rw [si_a, ups_a]
  · rw [si_c (by decide), ups_b (by decide)]; exact r7
  · rw [si_c (by decide), ups_b (by decide)]; exact r8
  · rw [si_b (by decide), ups_b (by decide)]; exact hS.1
  · have e : cT (ups T 5 v) k = cT T k := by
      unfold cT
      by_cases z : k < 12
      · rw [if_pos z, if_pos z, ups_b (by omega)]
      · rw [if_neg z, if_neg z, ups_b (by omega)]
    rw [si_b (by decide), e]; exact hS.2 k hk
theorem BC_r9 {μ : Mu} {T : Nat → Nat} {v : Nat} (h : BC μ T) : BC (si μ 13 7 (nI v)) (ups T 9 v) := by
  obtain ⟨⟨r0, r1, r2, r3, r4, r5, r6, r7, r8⟩, hS⟩ := h
  refine ⟨⟨?_, ?_, ?_, ?_, ?_, ?_, ?_, ?_, ?_⟩, ?_, fun k hk => ?_⟩
  · rw [si_c (by decide), ups_b (by decide)]; exact r0
  · rw [si_c (by decide), ups_b (by decide)]; exact r1
  · rw [si_c (by decide), ups_b (by decide)]; exact r2
  · rw [si_c (by decide), ups_b (by decide)]; exact r3
  · unfold tkC
    rw [si_c (by decide), ups_b (by decide), ups_b (by decide)]; exact r4
  · rw [si_c (by decide), ups_b (by decide)]; exact r5
  · rw [si_c (by decide), ups_b (by decide)]; exact r6
  · rw [si_a, ups_a]
  · rw [si_c (by decide), ups_b (by decide)]; exact r8
  · rw [si_b (by decide), ups_b (by decide)]; exact hS.1
  · have e : cT (ups T 9 v) k = cT T k := by
      unfold cT
      by_cases z : k < 12
      · rw [if_pos z, if_pos z, ups_b (by omega)]
      · rw [if_neg z, if_neg z, ups_b (by omega)]
    rw [si_b (by decide), e]; exact hS.2 k hk
theorem BC_r10 {μ : Mu} {T : Nat → Nat} {v : Nat} (h : BC μ T) : BC (si μ 13 8 (nI v)) (ups T 10 v) := by
  obtain ⟨⟨r0, r1, r2, r3, r4, r5, r6, r7, r8⟩, hS⟩ := h
  refine ⟨⟨?_, ?_, ?_, ?_, ?_, ?_, ?_, ?_, ?_⟩, ?_, fun k hk => ?_⟩
  · rw [si_c (by decide), ups_b (by decide)]; exact r0
  · rw [si_c (by decide), ups_b (by decide)]; exact r1
  · rw [si_c (by decide), ups_b (by decide)]; exact r2
  · rw [si_c (by decide), ups_b (by decide)]; exact r3
  · unfold tkC
    rw [si_c (by decide), ups_b (by decide), ups_b (by decide)]; exact r4
  · rw [si_c (by decide), ups_b (by decide)]; exact r5
  · rw [si_c (by decide), ups_b (by decide)]; exact r6
  · rw [si_c (by decide), ups_b (by decide)]; exact r7
  · rw [si_a, ups_a]
  · rw [si_b (by decide), ups_b (by decide)]; exact hS.1
  · have e : cT (ups T 10 v) k = cT T k := by
      unfold cT
      by_cases z : k < 12
      · rw [if_pos z, if_pos z, ups_b (by omega)]
      · rw [if_neg z, if_neg z, ups_b (by omega)]
    rw [si_b (by decide), e]; exact hS.2 k hk
theorem BC_first {μ : Mu} {T : Nat → Nat} {v : Nat} (h : BC μ T) : BC (si μ 149 1 (nI v)) (ups T 2 v) := by
  refine ⟨RUL_cg (RUL_o h.1 (by rw [si_o (by decide)])) (fun k _ h2 => ups_b h2), by rw [si_a, ups_a], fun k hk => ?_⟩
  have e : cT (ups T 2 v) k = cT T k := by
    unfold cT
    by_cases z : k < 12
    · rw [if_pos z, if_pos z, ups_b (by omega)]
    · rw [if_neg z, if_neg z, ups_b (by omega)]
  rw [si_b (by decide), e]; exact h.2.2 k hk
theorem BC_store {μ : Mu} {T : Nat → Nat} {v j : Nat} (hj : j = 12 ∨ j = 13) (h : BC μ T) : BC (si μ 150 j (nI v)) (ups T (j - 1) v) := by
  refine ⟨RUL_cg (RUL_o h.1 (by rw [si_o (by decide)])) (fun k hk h2 => ups_b (by omega)), by rw [si_b (by decide), ups_b (by omega)]; exact h.2.1, fun k hk => ?_⟩
  have h2 : μ.1 150 k = nI (cT T k) := h.2.2 k hk
  show (si μ 150 j (nI v)).1 150 k = nI (cT (ups T (j - 1) v) k)
  unfold cT
  unfold cT at h2
  by_cases z : k < 12
  · rw [if_pos z]
    rw [if_pos z] at h2
    rw [si_c (by omega), ups_b (by omega)]; exact h2
  · rw [if_neg z]
    rw [if_neg z] at h2
    by_cases e : k = j
    · rw [e, si_a, ups_a]
    · rw [si_c e, ups_b (by omega)]; exact h2
theorem FTC_o {μ μ' : Mu} {c pl : Nat} (h : FTC μ c pl) (e : μ'.1 12 = μ.1 12) : FTC μ' c pl := by
  unfold FTC
  rw [e]
  exact h
theorem FTR_o {μ μ' : Mu} {c pl : Nat} (h : FTR μ c pl) (e : μ'.1 171 = μ.1 171) : FTR μ' c pl := by
  unfold FTR
  rw [e]
  exact h
/-- a line of one number -/
def mpN (x : (Nat × Nat) ⊕ (Nat × Nat)) (g : Nat → Nat → Nat) : (Nat × Nat) ⊕ ((Nat → Nat) × Nat) := match x with
  | .inl f => .inl f
  | .inr r => .inr (g r.1, r.2)
theorem mp_l {x : (Nat × Nat) ⊕ (Nat × Nat)} {g : Nat → Nat → Nat} {f : Nat × Nat} (h : x = .inl f) : mpN x g = .inl f := by rw [h]; rfl
theorem mp_r {x : (Nat × Nat) ⊕ (Nat × Nat)} {g : Nat → Nat → Nat} {r : Nat × Nat} (h : x = .inr r) : mpN x g = .inr (g r.1, r.2) := by rw [h]; rfl
