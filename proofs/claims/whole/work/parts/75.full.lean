/-! the reference: a pit with seeds of who is to move -/
theorem isFull_no (n : Nat) (μ : Mu) {sz : Nat} (p : Int32) (hz : μ.1 172 1 = nI sz) (h1 : 1 ≤ sz) (h6 : sz ≤ 6) (hp : ¬ (0 ≤ p ∧ p < nI (2 * sz))) : X12_isFull n p μ = some (0, μ) := by
  unfold X12_isFull X12_isFull_46 X12_isFull_47
  rw [bS (isPit_s n μ p hz h1 h6)]
  dsimp only
  rw [if_pos (b2i_0.mpr (decide_eq_false hp)), bz_0]
theorem isFull_s (n : Nat) (μ : Mu) {sz lac mv p : Nat} {pt : Nat → Nat} (hz : μ.1 172 1 = nI sz) (h1 : 1 ≤ sz) (h6 : sz ≤ 6) (hl : μ.1 172 3 = nI lac) (h31 : lac < 2 ^ 31) (hm : μ.1 172 2 = nI mv) (hm2 : mv < 2) (hp : p < 2 * sz) (ht : μ.1 172 (13 + p) = nI (pt p)) (hs : pt p < 2 ^ 31) :
    X12_isFull n (nI p) μ = some (b2i (decide (sdN sz p = mv ∧ lac.testBit p = false ∧ 0 < pt p)), μ) := by
  unfold X12_isFull X12_isFull_46 X12_isFull_47
  rw [bS (isPit_s n μ (nI p) hz h1 h6)]
  dsimp only
  rw [if_neg (fun q => absurd (b2i_0.mp q) (by rw [decide_eq_true (show 0 ≤ nI p ∧ nI p < nI (2 * sz) from ⟨nI_pos' (by omega), nI_lt hp (by omega)⟩)]; decide)), bS (sideOf_d n μ hz h6 (show p < 2 ^ 31 by omega))]
  dsimp only
  rw [hm]
  by_cases c1 : sdN sz p = mv
  · rw [if_pos (show nI (sdN sz p) = nI mv by rw [c1]), bS (isLacking_s n μ hl h31 (by omega))]
    dsimp only
    by_cases c2 : lac.testBit p = false
    · rw [if_pos (b2i_0.mpr c2), show (13 : Int32) = nI 13 from rfl, nI_add, gd_n (by omega) (by decide), nI_clamp (by omega), ht]
      by_cases c3 : 0 < pt p
      · rw [if_neg (nI_nle c3 hs), bz_1, decide_eq_true ⟨c1, c2, c3⟩]
        rfl
      · rw [if_pos (show nI (pt p) ≤ 0 by rw [show pt p = 0 by omega]; decide), bz_0, decide_eq_false (fun q => c3 q.2.2)]
        rfl
    · rw [if_neg (fun q => c2 (b2i_0.mp q)), bz_0, decide_eq_false (fun q => c2 q.2.1)]
      rfl
  · rw [if_neg (show ¬ nI (sdN sz p) = nI mv from fun z => c1 ((nI_eq (Nat.lt_trans (sdN_lt sz p) (by decide)) (by omega)).mp z)), bz_0, decide_eq_false (fun q => c1 q.1)]
    rfl
