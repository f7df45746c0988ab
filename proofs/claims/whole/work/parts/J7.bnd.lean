/-! bounds: one slot -/
theorem BB_u2 {T : Nat → Nat} {v : Nat} (hT : BB T) (hv : v < 2) : BB (ups T 2 v) ∧ ups T 2 v 0 = T 0 := by
  obtain ⟨h1, h2, h3, h4, h5, h6, h7, h8, h9, h10, h11, h12, h13, h14, h15, h16⟩ := hT
  have g : ∀ k, k ≠ 2 → ups T 2 v k = T k := fun k hk => ups_b hk
  refine ⟨?_, g 0 (by decide)⟩
  unfold BB
  rw [g 1 (by decide), g 3 (by decide), g 4 (by decide), g 5 (by decide), g 6 (by decide), g 7 (by decide), g 8 (by decide), g 9 (by decide), g 10 (by decide), g 11 (by decide), g 12 (by decide), ups_a]
  exact ⟨h1, h2, hv, h4, h5, h6, h7, h8, h9, h10, h11, h12, h13, h14, fun k hk => by rw [g _ (by omega)]; exact h15 k hk, fun k hk q => by rw [g _ (by omega)]; exact h16 k hk q⟩
theorem BB_u4 {T : Nat → Nat} {v : Nat} (hT : BB T) (hv : v < 2) : BB (ups T 4 v) ∧ ups T 4 v 0 = T 0 := by
  obtain ⟨h1, h2, h3, h4, h5, h6, h7, h8, h9, h10, h11, h12, h13, h14, h15, h16⟩ := hT
  have g : ∀ k, k ≠ 4 → ups T 4 v k = T k := fun k hk => ups_b hk
  refine ⟨?_, g 0 (by decide)⟩
  unfold BB
  rw [g 1 (by decide), g 2 (by decide), g 3 (by decide), g 5 (by decide), g 6 (by decide), g 7 (by decide), g 8 (by decide), g 9 (by decide), g 10 (by decide), g 11 (by decide), g 12 (by decide), ups_a]
  exact ⟨h1, h2, h3, h4, hv, h6, h7, h8, h9, h10, h11, h12, h13, h14, fun k hk => by rw [g _ (by omega)]; exact h15 k hk, fun k hk q => by rw [g _ (by omega)]; exact h16 k hk q⟩
theorem BB_u5 {T : Nat → Nat} {v : Nat} (hT : BB T) (hv : v < 2) : BB (ups T 5 v) ∧ ups T 5 v 0 = T 0 := by
  obtain ⟨h1, h2, h3, h4, h5, h6, h7, h8, h9, h10, h11, h12, h13, h14, h15, h16⟩ := hT
  have g : ∀ k, k ≠ 5 → ups T 5 v k = T k := fun k hk => ups_b hk
  refine ⟨?_, g 0 (by decide)⟩
  unfold BB
  rw [g 1 (by decide), g 2 (by decide), g 3 (by decide), g 4 (by decide), g 6 (by decide), g 7 (by decide), g 8 (by decide), g 9 (by decide), g 10 (by decide), g 11 (by decide), g 12 (by decide), ups_a]
  exact ⟨h1, h2, h3, h4, h5, hv, h7, h8, h9, h10, h11, h12, h13, h14, fun k hk => by rw [g _ (by omega)]; exact h15 k hk, fun k hk q => by rw [g _ (by omega)]; exact h16 k hk q⟩
theorem BB_u6 {T : Nat → Nat} {v : Nat} (hT : BB T) (hv : v ≤ 20) : BB (ups T 6 v) ∧ ups T 6 v 0 = T 0 := by
  obtain ⟨h1, h2, h3, h4, h5, h6, h7, h8, h9, h10, h11, h12, h13, h14, h15, h16⟩ := hT
  have g : ∀ k, k ≠ 6 → ups T 6 v k = T k := fun k hk => ups_b hk
  refine ⟨?_, g 0 (by decide)⟩
  unfold BB
  rw [g 1 (by decide), g 2 (by decide), g 3 (by decide), g 4 (by decide), g 5 (by decide), g 7 (by decide), g 8 (by decide), g 9 (by decide), g 10 (by decide), g 11 (by decide), g 12 (by decide), ups_a]
  exact ⟨h1, h2, h3, h4, h5, h6, hv, h8, h9, h10, h11, h12, h13, h14, fun k hk => by rw [g _ (by omega)]; exact h15 k hk, fun k hk q => by rw [g _ (by omega)]; exact h16 k hk q⟩
theorem BB_u9 {T : Nat → Nat} {v : Nat} (hT : BB T) (hv : v < 2) : BB (ups T 9 v) ∧ ups T 9 v 0 = T 0 := by
  obtain ⟨h1, h2, h3, h4, h5, h6, h7, h8, h9, h10, h11, h12, h13, h14, h15, h16⟩ := hT
  have g : ∀ k, k ≠ 9 → ups T 9 v k = T k := fun k hk => ups_b hk
  refine ⟨?_, g 0 (by decide)⟩
  unfold BB
  rw [g 1 (by decide), g 2 (by decide), g 3 (by decide), g 4 (by decide), g 5 (by decide), g 6 (by decide), g 7 (by decide), g 8 (by decide), g 10 (by decide), g 11 (by decide), g 12 (by decide), ups_a]
  exact ⟨h1, h2, h3, h4, h5, h6, h7, h8, h9, hv, h11, h12, h13, h14, fun k hk => by rw [g _ (by omega)]; exact h15 k hk, fun k hk q => by rw [g _ (by omega)]; exact h16 k hk q⟩
theorem BB_u10 {T : Nat → Nat} {v : Nat} (hT : BB T) (hv : v < 2) : BB (ups T 10 v) ∧ ups T 10 v 0 = T 0 := by
  obtain ⟨h1, h2, h3, h4, h5, h6, h7, h8, h9, h10, h11, h12, h13, h14, h15, h16⟩ := hT
  have g : ∀ k, k ≠ 10 → ups T 10 v k = T k := fun k hk => ups_b hk
  refine ⟨?_, g 0 (by decide)⟩
  unfold BB
  rw [g 1 (by decide), g 2 (by decide), g 3 (by decide), g 4 (by decide), g 5 (by decide), g 6 (by decide), g 7 (by decide), g 8 (by decide), g 9 (by decide), g 11 (by decide), g 12 (by decide), ups_a]
  exact ⟨h1, h2, h3, h4, h5, h6, h7, h8, h9, h10, hv, h12, h13, h14, fun k hk => by rw [g _ (by omega)]; exact h15 k hk, fun k hk q => by rw [g _ (by omega)]; exact h16 k hk q⟩
theorem BB_u11 {T : Nat → Nat} {v : Nat} (hT : BB T) (hv : v ≤ 99) : BB (ups T 11 v) ∧ ups T 11 v 0 = T 0 := by
  obtain ⟨h1, h2, h3, h4, h5, h6, h7, h8, h9, h10, h11, h12, h13, h14, h15, h16⟩ := hT
  have g : ∀ k, k ≠ 11 → ups T 11 v k = T k := fun k hk => ups_b hk
  refine ⟨?_, g 0 (by decide)⟩
  unfold BB
  rw [g 1 (by decide), g 2 (by decide), g 3 (by decide), g 4 (by decide), g 5 (by decide), g 6 (by decide), g 7 (by decide), g 8 (by decide), g 9 (by decide), g 10 (by decide), g 12 (by decide), ups_a]
  exact ⟨h1, h2, h3, h4, h5, h6, h7, h8, h9, h10, h11, h12, hv, h14, fun k hk => by rw [g _ (by omega)]; exact h15 k hk, fun k hk q => by rw [g _ (by omega)]; exact h16 k hk q⟩
theorem BB_u12 {T : Nat → Nat} {v : Nat} (hT : BB T) (hv : v ≤ 99) : BB (ups T 12 v) ∧ ups T 12 v 0 = T 0 := by
  obtain ⟨h1, h2, h3, h4, h5, h6, h7, h8, h9, h10, h11, h12, h13, h14, h15, h16⟩ := hT
  have g : ∀ k, k ≠ 12 → ups T 12 v k = T k := fun k hk => ups_b hk
  refine ⟨?_, g 0 (by decide)⟩
  unfold BB
  rw [g 1 (by decide), g 2 (by decide), g 3 (by decide), g 4 (by decide), g 5 (by decide), g 6 (by decide), g 7 (by decide), g 8 (by decide), g 9 (by decide), g 10 (by decide), g 11 (by decide), ups_a]
  exact ⟨h1, h2, h3, h4, h5, h6, h7, h8, h9, h10, h11, h12, h13, hv, fun k hk => by rw [g _ (by omega)]; exact h15 k hk, fun k hk q => by rw [g _ (by omega)]; exact h16 k hk q⟩
