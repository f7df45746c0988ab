/-! a board that is told: sound or not -/
def WR (T : Nat → Nat) : Prop := (∃ k, k < 12 ∧ (T 3).testBit k = true ∧ 0 < T (13 + k)) ∨ 40 < sT T
theorem cT_p {T : Nat → Nat} {k : Nat} (h : k < 12) : cT T k = T (13 + k) := by unfold cT; rw [if_pos h]
theorem BB_3 {T : Nat → Nat} (h : BB T) : T 3 < 4096 := by
  have : 2 ^ (2 * T 1) ≤ 2 ^ 12 := Nat.pow_le_pow_right (by decide) (by have := h.2.1; omega)
  have := h.2.2.2.1
  omega
theorem sT_20 {T : Nat → Nat} (h : BB T) : ∀ i, i ≤ 12 → sumF (cT T) i ≤ 20 * i := by
  intro i
  induction i with
  | zero => intro _; show 0 ≤ 20 * 0; decide
  | succ i ih =>
    intro hi
    have := ih (by omega)
    have h2 := h.2.2.2.2.2.2.2.2.2.2.2.2.2.2.1 i (by omega)
    rw [sumF, cT_p (by omega)]
    omega
theorem soundC_s (n : Nat) (μ : Mu) {T : Nat → Nat} (hT : BC μ T) (hB : BB T) (hn : 1000 < n) : Ok (X4_isSound n μ) (fun a μ' => μ' = μ ∧ (¬ WR T → a = 1) ∧ (WR T → a = 0)) := by
  have hs : sT T ≤ 240 := sT_20 hB 12 (Nat.le_refl _)
  have h3 := BB_3 hB
  unfold X4_isSound X4_isSound_2
  refine Ok_lp1 (fun c x μ' => ∃ i, c = 12 - i ∧ i ≤ 12 ∧ x = nI i ∧ μ' = μ ∧ ∀ k, k < i → ¬ ((T 3).testBit k = true ∧ 0 < T (13 + k))) ?_ 12 (by omega) ⟨0, rfl, by decide, rfl, rfl, fun k q => by omega⟩
  rintro K c x μ1 ⟨i, rfl, hi, rfl, rfl, hall⟩ hK
  unfold X4_isSound_2b X4_isSound_33 X4_isSound_56
  rw [i_12, ifLe (by decide) (by omega)]
  by_cases z : 12 ≤ i
  · rw [if_pos z, bS (inP_s n μ1 (by decide) hT.2 hn)]
    dsimp only
    rw [i_40, ifLt (by decide) (by omega)]
    by_cases y : 40 < sT T
    · rw [if_pos y]
      exact Ok_r ⟨rfl, fun q => absurd (Or.inr y) q, fun _ => rfl⟩
    · rw [if_neg y]
      refine Ok_r ⟨rfl, fun _ => rfl, fun q => ?_⟩
      rcases q with ⟨k, k1, k2⟩ | q
      · exact absurd k2 (hall k (by omega))
      · exact absurd q y
  · rw [if_neg z, bS (lackO_s n μ1 (by decide) hT.1.2.2.1 (by omega) (by omega))]
    dsimp only
    have h20 := hB.2.2.2.2.2.2.2.2.2.2.2.2.2.2.1 i (by omega)
    have nxt : ¬ ((T 3).testBit i = true ∧ 0 < T (13 + i)) → Ok (K (nI i + 1) μ1) (fun a μ' => μ' = μ1 ∧ (¬ WR T → a = 1) ∧ (WR T → a = 0)) := fun q => by
      rw [i_1, nI_add]
      refine hK (12 - (i + 1)) _ _ (by omega) ⟨i + 1, rfl, by omega, rfl, rfl, fun k hk => ?_⟩
      by_cases e : k = i
      · rw [e]; exact q
      · exact hall k (by omega)
    cases e : (T 3).testBit i with
    | false =>
      rw [if_pos (show b2i false = 0 from rfl)]
      exact nxt (fun q => by rw [e] at q; exact Bool.noConfusion q.1)
    | true =>
      rw [if_neg (show ¬ b2i true = 0 by decide), gd_n (by omega) (by decide), nI_clamp (by omega), hT.2.2 i (by omega), cT_p (by omega)]
      by_cases y : T (13 + i) = 0
      · rw [if_pos (show nI (T (13 + i)) ≤ 0 by rw [y]; decide)]
        exact nxt (fun q => by omega)
      · rw [if_neg (nI_nle (by omega) (by omega))]
        exact Ok_r ⟨rfl, fun q => absurd (Or.inl ⟨i, by omega, e, by omega⟩) q, fun _ => rfl⟩
theorem wrongR_s (n : Nat) (μ : Mu) {T : Nat → Nat} (hT : BR μ T) (hB : BB T) (hn : 1000 < n) : Ok (X12_isWrong n μ) (fun a μ' => μ' = μ ∧ (¬ WR T → a = 0) ∧ (WR T → ¬ a = 0)) := by
  have h3 := BB_3 hB
  have h6 := hB.2.1
  have hs : sT T = sumF (cT T) (2 * T 1) := sum_12 (by omega) (fun x q1 q2 => by rw [cT_p q2]; exact hB.2.2.2.2.2.2.2.2.2.2.2.2.2.2.2 x q2 q1)
  have out : ∀ k, 2 * T 1 ≤ k → k < 12 → ¬ ((T 3).testBit k = true ∧ 0 < T (13 + k)) := fun k q1 q2 q => by
    have := hB.2.2.2.2.2.2.2.2.2.2.2.2.2.2.2 k q2 q1
    omega
  unfold X12_isWrong X12_isWrong_6
  refine Ok_lp3 (fun c x y w μ' => ∃ i, c = 2 * T 1 - i ∧ i ≤ 2 * T 1 ∧ x = nI (sumF (cT T) i) ∧ w = nI i ∧ μ' = μ ∧ ((y = 0 ∧ ∀ k, k < i → ¬ ((T 3).testBit k = true ∧ 0 < T (13 + k))) ∨ (y = 1 ∧ ∃ k, k < i ∧ (T 3).testBit k = true ∧ 0 < T (13 + k)))) ?_ (2 * T 1) (by omega) ⟨0, rfl, by omega, rfl, rfl, rfl, Or.inl ⟨rfl, fun k q => by omega⟩⟩
  rintro K c x y w μ1 ⟨i, rfl, hi, rfl, rfl, rfl, hy⟩ hK
  have hsi := sT_20 hB i (by omega)
  unfold X12_isWrong_6b
  rw [hT 1 (by decide), i_2, pk_mul, ifLe (by omega) (by omega)]
  by_cases z : 2 * T 1 ≤ i
  · obtain rfl : i = 2 * T 1 := by omega
    rw [if_pos (Nat.le_refl _)]
    rcases hy with ⟨rfl, hall⟩ | ⟨rfl, k, k1, k2⟩
    · rw [if_pos rfl, i_40, ifLe (by omega) (by decide)]
      by_cases y : sumF (cT T) (2 * T 1) ≤ 40
      · rw [if_pos y]
        refine Ok_r ⟨rfl, fun _ => rfl, fun q => ?_⟩
        rcases q with ⟨k, k1, k2⟩ | q
        · by_cases c : k < 2 * T 1
          · exact absurd k2 (hall k c)
          · exact absurd k2 (out k (by omega) k1)
        · omega
      · rw [if_neg y]
        exact Ok_r ⟨rfl, fun q => absurd (Or.inr (by omega)) q, fun _ => by decide⟩
    · rw [if_neg (show ¬ (1 : Int32) = 0 by decide)]
      exact Ok_r ⟨rfl, fun q => absurd (Or.inl ⟨k, by omega, k2⟩) q, fun _ => by decide⟩
  · have h20 := hB.2.2.2.2.2.2.2.2.2.2.2.2.2.2.1 i (by omega)
    have e1 : (13 : Int32) + nI i = nI (13 + i) := by rw [i_13, nI_add]
    have e2 : nI (sumF (cT T) i) + nI (T (13 + i)) = nI (sumF (cT T) (i + 1)) := by rw [nI_add, sumF, cT_p (by omega)]
    rw [if_neg z, e1, gd_n (by omega) (by decide), nI_clamp (by omega), hT (13 + i) (by omega), hT 3 (by decide), e2]
    unfold X12_isWrong_60 X12_isWrong_64 X12_isWrong_65
    have e3 : nI i + 1 = nI (i + 1) := by rw [i_1, nI_add]
    rw [e3]
    have no : (∀ k, k < i + 1 → ¬ ((T 3).testBit k = true ∧ 0 < T (13 + k))) → Ok (K (nI (sumF (cT T) (i + 1))) 0 (nI (i + 1)) μ1) (fun a μ' => μ' = μ1 ∧ (¬ WR T → a = 0) ∧ (WR T → ¬ a = 0)) := fun q =>
      hK (2 * T 1 - (i + 1)) _ _ _ _ (by omega) ⟨i + 1, rfl, by omega, rfl, rfl, rfl, Or.inl ⟨rfl, q⟩⟩
    have ye : (∃ k, k < i + 1 ∧ (T 3).testBit k = true ∧ 0 < T (13 + k)) → Ok (K (nI (sumF (cT T) (i + 1))) 1 (nI (i + 1)) μ1) (fun a μ' => μ' = μ1 ∧ (¬ WR T → a = 0) ∧ (WR T → ¬ a = 0)) := fun q =>
      hK (2 * T 1 - (i + 1)) _ _ _ _ (by omega) ⟨i + 1, rfl, by omega, rfl, rfl, rfl, Or.inr ⟨rfl, q⟩⟩
    rcases hy with ⟨rfl, hall⟩ | ⟨rfl, k, k1, k2⟩
    · rw [if_pos rfl]
      have nx : ¬ ((T 3).testBit i = true ∧ 0 < T (13 + i)) → ∀ k, k < i + 1 → ¬ ((T 3).testBit k = true ∧ 0 < T (13 + k)) := fun q k hk => by
        by_cases e : k = i
        · rw [e]; exact q
        · exact hall k (by omega)
      by_cases y : T (13 + i) = 0
      · rw [if_pos (show nI (T (13 + i)) ≤ 0 by rw [y]; decide)]
        exact no (nx (fun q => by omega))
      · rw [if_neg (nI_nle (by omega) (by omega))]
        by_cases e : (T 3).testBit i = true
        · rw [if_pos ((bit_s (by omega) (by omega)).mpr e)]
          exact ye ⟨i, by omega, e, by omega⟩
        · rw [if_neg (fun q => e ((bit_s (by omega) (by omega)).mp q))]
          exact no (nx (fun q => e q.1))
    · rw [if_neg (show ¬ (1 : Int32) = 0 by decide)]
      exact ye ⟨k, by omega, k2⟩
theorem W1_bb {T : Nat → Nat} (hB : BB T) (h0 : T 0 ≤ 500) (hw : ¬ WR T) : W1 T := by
  have h3 := BB_3 hB
  have hs : sT T ≤ 40 := Nat.le_of_not_lt (fun q => hw (Or.inr q))
  obtain ⟨h1, h2, a3, h4, h5, h6, h7, h8, h9, h10, h11, h12, h13, h14, h15, h16⟩ := hB
  refine ⟨⟨⟨h1, by omega, h3, h5, h6, h7, by omega, h9, h10, h11, h12⟩, a3, h4, hs, by show sT T + T 11 ≤ 400; omega, by show sT T + T 12 ≤ 400; omega, fun p hp q => ?_⟩, by omega, by omega, by omega⟩
  rcases q with q | q
  · exact Nat.eq_zero_of_not_pos (fun y => hw (Or.inl ⟨p, hp, q, y⟩))
  · exact h16 p hp q
