/-! the reference: the pit ahead that isn't lacking, on the same side -/
def ahN (sz lac p : Nat) : Nat → Option Nat
  | 0 => none
  | q + 1 => if sdN sz q = sdN sz p then (if lac.testBit q = true then ahN sz lac p q else some q) else none
theorem ahead_s (n : Nat) (μ : Mu) {sz lac p : Nat} (hz : μ.1 172 1 = nI sz) (h6 : sz ≤ 6) (hl : μ.1 172 3 = nI lac) (h31 : lac < 2 ^ 31) (hp : p < 12) (hn : 12 < n) : X12_ahead n (nI p) μ = some (oI (ahN sz lac p p), μ) := by
  have e35 : ∀ q, q < 12 → X12_ahead_35 n (nI p) (nI q) μ = some (if sdN sz q = sdN sz p then nI q else -1, μ) := by
    intro q hq
    unfold X12_ahead_35 X12_ahead_56 X12_ahead_57
    rw [if_neg (nI_pos (by omega)), bS (sideOf_d n μ hz h6 (show q < 2 ^ 31 by omega))]
    dsimp only
    rw [bS (sideOf_d n μ hz h6 (show p < 2 ^ 31 by omega))]
    dsimp only
    by_cases c : sdN sz q = sdN sz p
    · rw [if_pos (show nI (sdN sz q) = nI (sdN sz p) by rw [c]), if_pos c]
    · rw [if_neg (show ¬ nI (sdN sz q) = nI (sdN sz p) from fun z => c ((nI_eq (Nat.lt_trans (sdN_lt sz q) (by decide)) (Nat.lt_trans (sdN_lt sz p) (by decide))).mp z)), if_neg c]
  have key : ∀ c, c < 13 → ∀ m, lpF (fun _ _ => none) (X12_ahead_4b n (nI p)) (c + 1 + m) (nI c - 1) μ = some (oI (ahN sz lac p c), μ) := by
    intro c
    induction c with
    | zero =>
      intro _ m
      rw [show 0 + 1 + m = m + 1 by omega, lpF_s, X12_ahead_4b, if_pos (by decide)]
      unfold X12_ahead_35
      rw [if_pos (by decide)]
      rfl
    | succ q ih =>
      intro hq m
      rw [show q + 1 + 1 + m = (q + 1 + m) + 1 by omega, lpF_s, nI_pred, X12_ahead_4b, if_neg (nI_pos (by omega)), bS (sideOf_d n μ hz h6 (show q < 2 ^ 31 by omega))]
      dsimp only
      rw [bS (sideOf_d n μ hz h6 (show p < 2 ^ 31 by omega))]
      dsimp only
      rw [ahN]
      by_cases c : sdN sz q = sdN sz p
      · rw [if_pos (show nI (sdN sz q) = nI (sdN sz p) by rw [c]), if_pos c, bS (isLacking_s n μ hl h31 (by omega))]
        dsimp only
        by_cases b : lac.testBit q = true
        · rw [if_neg (fun z => absurd (b2i_0.mp z) (by rw [b]; decide)), if_pos b, ← Int32.sub_eq_add_neg]
          exact ih (by omega) m
        · rw [if_pos (b2i_0.mpr (by simpa using b)), if_neg b, e35 q (by omega), if_pos c]
          rfl
      · rw [if_neg (show ¬ nI (sdN sz q) = nI (sdN sz p) from fun z => c ((nI_eq (Nat.lt_trans (sdN_lt sz q) (by decide)) (Nat.lt_trans (sdN_lt sz p) (by decide))).mp z)), if_neg c, e35 q (by omega), if_neg c]
        rfl
  unfold X12_ahead X12_ahead_4
  obtain ⟨m, rfl⟩ : ∃ m, n = p + 1 + m := ⟨n - (p + 1), by omega⟩
  exact key p (by omega) m
