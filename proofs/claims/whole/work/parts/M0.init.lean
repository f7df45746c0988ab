/-! the world as it is made is a good one -/
theorem W1_i : W1 iT := by
  refine W1_bb iT_b.1 (by rw [iT_b.2.2]; decide) ?_
  have hz : ∀ k, iT (13 + k) = 0 := fun k => if_neg (by omega)
  rintro (⟨k, _, _, h⟩ | h)
  · rw [hz] at h; omega
  · have : sT iT = 0 := by
      show sumF (cT iT) 12 = 0
      rw [sum_cg (d := fun _ => 0) 12 (fun k hk => by rw [cT_p hk]; exact hz k), sum_z]
    omega
theorem mI_n {o k : Nat} (h : o ≠ 1 ∧ o ≠ 12 ∧ o ≠ 13 ∧ o ≠ 15 ∧ o ≠ 33 ∧ o ≠ 35 ∧ o ≠ 37 ∧ o ≠ 39 ∧ o ≠ 42 ∧ o ≠ 46 ∧ o ≠ 50 ∧ o ≠ 171 ∧ o ≠ 172 ∧ o ≠ 198) : mI.1 o k = 0 := by
  unfold mI
  dsimp only
  obtain ⟨h1, h2, h3, h4, h5, h6, h7, h8, h9, h10, h11, h12, h13, h14⟩ := h
  rw [if_neg h1, if_neg h2, if_neg h3, if_neg h4, if_neg h5, if_neg h6, if_neg h7, if_neg h8, if_neg h9, if_neg h10, if_neg h11, if_neg h12, if_neg h13, if_neg h14]
theorem made (n : Nat) (hn : 1000 < n) : ∃ r1 r2 : Unit × Mu, X1_countWays n mI = some r1 ∧ X1_build n r1.2 = some r2 ∧ (∀ o, ¬ (2 ≤ o ∧ o ≤ 5) → r2.2.1 o = mI.1 o) ∧ r2.2.2 = mI.2 ∧ INV r2.2 := by
  obtain ⟨u1, μ1, e1, w1, k1⟩ := countWays_s n mI (fun k _ => mI_n (by decide)) hn
  have rr : RR μ1 iT := by
    unfold RR
    rw [k1.1 1 (by decide)]
    exact ⟨rfl, rfl, rfl, rfl, rfl, rfl, rfl, rfl⟩
  obtain ⟨u2, μ2, e2, g2, k2⟩ := build_s n μ1 rr W1_i.1.1 hn
  have ke : ∀ o, ¬ (2 ≤ o ∧ o ≤ 5) → μ2.1 o = mI.1 o := fun o h => by rw [k2.1 o (by omega), k1.1 o (by omega)]
  have kl : μ2.2 = mI.2 := by rw [k2.2, k1.2]
  refine ⟨(u1, μ1), (u2, μ2), e1, e2, ke, kl, iT, W1_i, fun k hk => ?_, ⟨⟨g2, fun p hp s hs => ?_⟩, ?_, ?_, fun k hk => ?_⟩, Or.inl ?_, Or.inl ?_, ?_, ?_, Or.inl ?_, fun t ht => ?_, fun i hi => Or.inl ⟨?_, ?_⟩⟩
  · show μ2.1 172 k = nI (iT k)
    rw [ke 172 (by decide)]
    by_cases c : k = 1
    · rw [c]; rfl
    · rw [show iT k = 0 from if_neg c]
      exact if_neg c
  · rw [k2.1 5 (by decide)]; exact w1 p hp s hs
  · show μ2.1 1 0 = _
    rw [ke 1 (by decide)]; rfl
  · show μ2.1 53 1 = _
    rw [ke 53 (by decide)]; rfl
  · show μ2.1 54 k = nI (cT iT k)
    have hc : cT iT k = 0 := by
      unfold cT
      by_cases c : k < 12
      · rw [if_pos c]; exact if_neg (by omega)
      · rw [if_neg c]; exact if_neg (by omega)
    rw [ke 54 (by decide), hc]; rfl
  · show μ2.1 15 7 = iv (-1)
    rw [ke 15 (by decide)]; rfl
  · show μ2.1 191 1 = _
    rw [ke 191 (by decide)]; rfl
  · exact PAST_0 (st := 0) (by decide) (by rw [ke 9 (by decide)]; rfl) (by rw [ke 9 (by decide)]; rfl) (by rw [ke 9 (by decide)]; rfl) (by rw [ke 171 (by decide)]; rfl) (by rw [ke 171 (by decide)]; rfl)
  · exact ⟨⟨0, by decide, by rw [ke 12 (by decide)]; rfl, by rw [ke 171 (by decide)]; rfl, fun i q => by omega⟩, by rw [ke 12 (by decide), ke 171 (by decide)]; rfl, by rw [ke 12 (by decide), ke 171 (by decide)]; rfl⟩
  · rw [ke 25 (by decide)]; rfl
  · obtain rfl | rfl | rfl | rfl : t = 0 ∨ t = 1 ∨ t = 2 ∨ t = 3 := by omega
    all_goals
      refine ⟨?_, Or.inl ?_, ⟨0, by decide, ?_, ?_⟩, fun k _ => ?_⟩
      · rw [ke _ (by decide), ke _ (by decide)]; rfl
      · rw [ke _ (by decide)]; rfl
      · rw [ke _ (by decide)]; rfl
      · rw [ke _ (by decide)]; rfl
      · rw [kl]; rfl
  · rw [ke _ (by omega), mI_n (by omega)]; rfl
  · rw [ke _ (by omega), mI_n (by omega)]; rfl
theorem ce_cg {g : Gw} {μ μ' : Mu} {i : Nat} (h1 : μ'.1 i = μ.1 i) (h2 : μ'.2 i = μ.2 i) : ce g μ' i = ce g μ i := by
  unfold ce fvl
  rw [h1, h2]
