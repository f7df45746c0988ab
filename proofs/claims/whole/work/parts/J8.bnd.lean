/-! bounds: take, stored, lacking, pits -/
theorem BB_st {T : Nat → Nat} {a s : Nat} (hT : BB T) (ha : a ≤ 2) (hs : s < 2) (h : s = 1 → a = 2) : BB (stT T a s) ∧ stT T a s 0 = T 0 := by
  obtain ⟨h1, h2, h3, h4, h5, h6, h7, h8, h9, h10, h11, h12, h13, h14, h15, h16⟩ := hT
  have g : ∀ k, k ≠ 7 → k ≠ 8 → stT T a s k = T k := fun k h7 h8 => by unfold stT; rw [ups_b h8, ups_b h7]
  have g7 : stT T a s 7 = a := by unfold stT; rw [ups_b (by decide), ups_a]
  have g8 : stT T a s 8 = s := by unfold stT; rw [ups_a]
  refine ⟨?_, g 0 (by decide) (by decide)⟩
  unfold BB
  rw [g 1 (by decide) (by decide), g 2 (by decide) (by decide), g 3 (by decide) (by decide), g 4 (by decide) (by decide), g 5 (by decide) (by decide), g 6 (by decide) (by decide), g7, g8, g 9 (by decide) (by decide), g 10 (by decide) (by decide), g 11 (by decide) (by decide), g 12 (by decide) (by decide)]
  exact ⟨h1, h2, h3, h4, h5, h6, h7, ha, hs, h10, h11, h, h13, h14, fun k hk => by rw [g _ (by omega) (by omega)]; exact h15 k hk, fun k hk q => by rw [g _ (by omega) (by omega)]; exact h16 k hk q⟩
theorem BB_lack {T : Nat → Nat} {v : Nat} (hT : BB T) (hv : v ≤ 2 * T 1 - 1) : BB (ups T 3 (T 3 ||| 2 ^ v)) ∧ ups T 3 (T 3 ||| 2 ^ v) 0 = T 0 := by
  obtain ⟨h1, h2, h3, h4, h5, h6, h7, h8, h9, h10, h11, h12, h13, h14, h15, h16⟩ := hT
  have g : ∀ k, k ≠ 3 → ups T 3 (T 3 ||| 2 ^ v) k = T k := fun k hk => ups_b hk
  refine ⟨?_, g 0 (by decide)⟩
  unfold BB
  rw [g 1 (by decide), g 2 (by decide), g 4 (by decide), g 5 (by decide), g 6 (by decide), g 7 (by decide), g 8 (by decide), g 9 (by decide), g 10 (by decide), g 11 (by decide), g 12 (by decide), ups_a]
  exact ⟨h1, h2, h3, Nat.or_lt_two_pow h4 (Nat.pow_lt_pow_right (by decide) (by omega)), h5, h6, h7, h8, h9, h10, h11, h12, h13, h14, fun k hk => by rw [g _ (by omega)]; exact h15 k hk, fun k hk q => by rw [g _ (by omega)]; exact h16 k hk q⟩
theorem BB_pits {T : Nat → Nat} {v : Nat} (hT : BB T) (hF : FLn T) (h0 : T 0 = 0) (v1 : 1 ≤ v) (v2 : v ≤ 6) : BB (ups T 1 v) ∧ ups T 1 v 0 = T 0 := by
  obtain ⟨h1, h2, h3, h4, h5, h6, h7, h8, h9, h10, h11, h12, h13, h14, h15, h16⟩ := hT
  obtain ⟨f1, f2⟩ := hF h0
  have g : ∀ k, k ≠ 1 → ups T 1 v k = T k := fun k hk => ups_b hk
  refine ⟨?_, g 0 (by decide)⟩
  unfold BB
  rw [g 2 (by decide), g 3 (by decide), g 4 (by decide), g 5 (by decide), g 6 (by decide), g 7 (by decide), g 8 (by decide), g 9 (by decide), g 10 (by decide), g 11 (by decide), g 12 (by decide), ups_a, f1]
  exact ⟨v1, v2, h3, Nat.two_pow_pos _, h5, h6, h7, h8, h9, h10, h11, h12, h13, h14, fun k hk => by rw [g _ (by omega)]; exact h15 k hk, fun k hk _ => by rw [g _ (by omega)]; exact f2 k hk⟩
