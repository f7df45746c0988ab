/-! words -/
theorem tS_b {b : Nat → Nat} {m p : Nat} (hp : p ≤ m) : p ≤ tS b m p ∧ tS b m p ≤ m := by
  obtain ⟨a1, a2, _⟩ := sc_e (g := fun x => isS (b x)) hp
  exact ⟨a1, a2⟩
theorem tE_b {b : Nat → Nat} {m p : Nat} (hp : p ≤ m) : tS b m p ≤ tE b m p ∧ tE b m p ≤ m := by
  obtain ⟨a1, a2⟩ := tS_b (b := b) hp
  obtain ⟨d1, d2, _⟩ := sc_e (g := fun x => isD (b x)) a2
  obtain ⟨l1, l2, _⟩ := sc_e (g := fun x => isL (b x)) a2
  unfold tE
  by_cases c : m ≤ tS b m p
  · rw [if_pos c]; exact ⟨Nat.le_refl _, a2⟩
  · rw [if_neg c]
    by_cases c1 : isD (b (tS b m p)) = true
    · rw [if_pos c1]; exact ⟨d1, d2⟩
    · rw [if_neg c1]
      by_cases c2 : isL (b (tS b m p)) = true
      · rw [if_pos c2]; exact ⟨l1, l2⟩
      · rw [if_neg c2]; omega
theorem tK_le {b : Nat → Nat} {m p : Nat} : tK b m p ≤ 4 := by
  unfold tK
  repeat' split
  all_goals omega
def isW (b : Nat → Nat) (m p i : Nat) : Bool := decide (tK b m p = 1 ∧ tE b m p - tS b m p = sL i ∧ ∀ j, j < sL i → nI (b (tS b m p + j)) = sB i j)
theorem isW_t {b : Nat → Nat} {m p i : Nat} : isW b m p i = true ↔ tK b m p = 1 ∧ tE b m p - tS b m p = sL i ∧ ∀ j, j < sL i → nI (b (tS b m p + j)) = sB i j := decide_eq_true_iff
theorem len_s (n : Nat) (μ : Mu) {i : Nat} (hi : i < 47) : J0_length_8abf5 n (1000 + i) μ = some (nI (sL i), μ) := by
  have k : ∀ i, i < 47 → oK (1000 + i) = 130 := by decide +kernel
  unfold J0_length_8abf5
  rw [kd_of (k i hi), Nat.add_sub_cancel_left]
theorem chr_s (n : Nat) (μ : Mu) {i j : Nat} (hi : i < 47) (hj : j < sL i) : J0_charAt_5068e n (1000 + i) (nI j) μ = some (sB i j, μ) := by
  have k : ∀ i, i < 47 → oK (1000 + i) = 130 := by decide +kernel
  have hl := sL_le i hi
  unfold J0_charAt_5068e
  rw [kd_of (k i hi), Nat.add_sub_cancel_left, gd_n hj (by omega), nI_clamp (by omega)]
theorem wordIsC_s (n : Nat) (μ : Mu) {b : Nat → Nat} {m p i : Nat} (h : TXC μ b m) (hp : p ≤ m) (ht : TKC μ b m p) (hi : i < 47) (hn : 1000 < n) : Ok (X4_isWord n (1000 + i) μ) (fun a μ' => a = b2i (isW b m p i) ∧ μ' = μ) := by
  have k : ∀ i, i < 47 → oK (1000 + i) = 130 := by decide +kernel
  have h500 := h.1
  have hl := sL_le i hi
  obtain ⟨s1, s2⟩ := tS_b (b := b) hp
  obtain ⟨e1, e2⟩ := tE_b (b := b) hp
  have hk4 := tK_le (b := b) (m := m) (p := p)
  have no : ¬ (tK b m p = 1 ∧ tE b m p - tS b m p = sL i ∧ ∀ j, j < sL i → nI (b (tS b m p + j)) = sB i j) → isW b m p i = false := fun z => decide_eq_false z
  unfold X4_isWord X4_isWord_24
  rw [kd_of (k i hi), ht.1, i_1, ifEq (by omega) (by decide)]
  by_cases z1 : tK b m p = 1
  · rw [if_pos z1, bS (len_s n μ hi)]
    dsimp only
    rw [ht.2.1, ht.2.2.1 (by omega), pk_sub e1, ifEq (by omega) (by omega)]
    by_cases z2 : tE b m p - tS b m p = sL i
    · rw [if_pos z2]
      unfold X4_isWord_28
      rw [i_0]
      refine Ok_lp1 (fun f x2 μ' => ∃ j, j ≤ sL i ∧ f = sL i - j ∧ x2 = nI j ∧ μ' = μ ∧ ∀ j', j' < j → nI (b (tS b m p + j')) = sB i j') ?_ (sL i) (by omega) ⟨0, by omega, rfl, rfl, rfl, fun j' q => by omega⟩
      rintro K f x2 μ1 ⟨j, hj, rfl, rfl, rfl, hq⟩ hK
      unfold X4_isWord_28b
      rw [bS (len_s n μ1 hi)]
      dsimp only
      rw [ifLe (by omega) (by omega)]
      by_cases c : sL i ≤ j
      · rw [if_pos c, isW_t.mpr ⟨z1, z2, fun j' q => hq j' (by omega)⟩]
        exact Ok_r ⟨rfl, rfl⟩
      · rw [if_neg c, ht.2.1, nI_add, gd_n (by omega) (by decide), nI_clamp (by omega), bS (chr_s n μ1 hi (show j < sL i by omega))]
        dsimp only
        rw [(h.2.2 _ (show tS b m p + j < m by omega)).2]
        by_cases z : nI (b (tS b m p + j)) = sB i j
        · rw [if_pos z, i_1, nI_add]
          refine hK (sL i - (j + 1)) _ _ (by omega) ⟨j + 1, by omega, rfl, rfl, rfl, fun j' q => ?_⟩
          by_cases zz : j' = j
          · rw [zz]; exact z
          · exact hq j' (by omega)
        · rw [if_neg z, no (fun w => z (w.2.2 j (by omega)))]
          exact Ok_r ⟨rfl, rfl⟩
    · rw [if_neg z2, no (fun w => z2 w.2.1)]
      exact Ok_r ⟨rfl, rfl⟩
  · rw [if_neg z1, no (fun w => z1 w.1)]
    exact Ok_r ⟨rfl, rfl⟩
theorem wordIsR_s (n : Nat) (μ : Mu) {b : Nat → Nat} {m p i : Nat} (h : TXR μ b m) (hp : p ≤ m) (ht : TKR μ b m p) (h0 : μ.1 171 13 = 0) (hi : i < 47) (hn : 1000 < n) : Ok (X12_isWord n (1000 + i) μ) (fun a μ' => a = b2i (isW b m p i) ∧ μ' = μ) := by
  have k : ∀ i, i < 47 → oK (1000 + i) = 130 := by decide +kernel
  have h500 := h.1
  have hl := sL_le i hi
  obtain ⟨s1, s2⟩ := tS_b (b := b) hp
  obtain ⟨e1, e2⟩ := tE_b (b := b) hp
  have hk4 := tK_le (b := b) (m := m) (p := p)
  have no : ¬ (tK b m p = 1 ∧ tE b m p - tS b m p = sL i ∧ ∀ j, j < sL i → nI (b (tS b m p + j)) = sB i j) → isW b m p i = false := fun z => decide_eq_false z
  have L0 : isW b m p i = false → Ok (X12_isWord_39 n (1000 + i) 0 0 μ) (fun a μ' => a = b2i (isW b m p i) ∧ μ' = μ) := by
    intro e
    unfold X12_isWord_39
    refine Ok_lp2 (fun f x2 x3 μ' => x2 = 0 ∧ μ' = μ) ?_ 0 (by omega) ⟨rfl, rfl⟩
    rintro K f x2 x3 μ1 ⟨rfl, rfl⟩ hK
    unfold X12_isWord_39b X12_isWord_82
    rw [if_pos rfl, e]
    exact Ok_r ⟨rfl, rfl⟩
  unfold X12_isWord X12_isWord_35 X12_isWord_36
  rw [kd_of (k i hi), h0, if_pos rfl, ht.1, i_1, ifEq (by omega) (by decide)]
  by_cases z1 : tK b m p = 1
  · rw [if_pos z1, bS (len_s n μ hi)]
    dsimp only
    rw [ht.2.1, ht.2.2.1 (by omega), pk_sub e1, ifEq (by omega) (by omega)]
    by_cases z2 : tE b m p - tS b m p = sL i
    · rw [if_pos z2]
      unfold X12_isWord_39
      rw [i_0]
      refine Ok_lp2 (fun f x2 x3 μ' => ∃ j, j ≤ sL i ∧ f = sL i - j ∧ x3 = nI j ∧ μ' = μ ∧ ((x2 = 1 ∧ ∀ j', j' < j → nI (b (tS b m p + j')) = sB i j') ∨ (x2 = 0 ∧ isW b m p i = false))) ?_ (sL i) (by omega) ⟨0, by omega, rfl, rfl, rfl, Or.inl ⟨rfl, fun j' q => by omega⟩⟩
      rintro K f x2 x3 μ1 ⟨j, hj, rfl, rfl, rfl, hor⟩ hK
      unfold X12_isWord_39b X12_isWord_82 X12_isWord_75
      rcases hor with ⟨rfl, hq⟩ | ⟨rfl, e⟩
      · rw [if_neg (show ¬ (1 : Int32) = 0 by decide), bS (len_s n μ1 hi)]
        dsimp only
        rw [ifLe (by omega) (by omega)]
        by_cases c : sL i ≤ j
        · rw [if_pos c, isW_t.mpr ⟨z1, z2, fun j' q => hq j' (by omega)⟩]
          exact Ok_r ⟨rfl, rfl⟩
        · rw [if_neg c, ht.2.1, nI_add, gd_n (by omega) (by decide), nI_clamp (by omega), bS (chr_s n μ1 hi (show j < sL i by omega))]
          dsimp only
          rw [(h.2.2 _ (show tS b m p + j < m by omega)).2]
          by_cases z : nI (b (tS b m p + j)) = sB i j
          · rw [if_pos z]
            refine hK (sL i - (j + 1)) _ _ _ (by omega) ⟨j + 1, by omega, rfl, by rw [i_1, nI_add], rfl, Or.inl ⟨rfl, fun j' q => ?_⟩⟩
            by_cases zz : j' = j
            · rw [zz]; exact z
            · exact hq j' (by omega)
          · rw [if_neg z]
            exact hK (sL i - (j + 1)) _ _ _ (by omega) ⟨j + 1, by omega, rfl, by rw [i_1, nI_add], rfl, Or.inr ⟨rfl, no (fun w => z (w.2.2 j (by omega)))⟩⟩
      · rw [if_pos rfl, e]
        exact Ok_r ⟨rfl, rfl⟩
    · rw [if_neg z2]
      exact L0 (no (fun w => z2 w.2.1))
  · rw [if_neg z1]
    exact L0 (no (fun w => z1 w.1))
/-- the constants of both sides are the same words -/
def sEq (i j : Nat) : Bool := decide (sL i = sL j) && (List.range (sL i)).all (fun k => decide (sB i k = sB j k))
theorem isW_eq {b : Nat → Nat} {m p i j : Nat} (h : sEq i j = true) : isW b m p i = isW b m p j := by
  unfold sEq at h
  rw [Bool.and_eq_true] at h
  have h1 := of_decide_eq_true h.1
  have h2 : ∀ k, k < sL i → sB i k = sB j k := fun k hk => of_decide_eq_true (List.all_eq_true.mp h.2 k (List.mem_range.mpr hk))
  cases e : isW b m p j with
  | true =>
    obtain ⟨a1, a2, a3⟩ := isW_t.mp e
    exact isW_t.mpr ⟨a1, by rw [h1]; exact a2, fun k hk => by rw [h2 k hk]; exact a3 k (by omega)⟩
  | false =>
    cases e2 : isW b m p i with
    | false => rfl
    | true =>
      obtain ⟨a1, a2, a3⟩ := isW_t.mp e2
      rw [isW_t.mpr ⟨a1, by rw [← h1]; exact a2, fun k hk => by rw [← h2 k (by omega)]; exact a3 k (by omega)⟩] at e
      exact Bool.noConfusion e
