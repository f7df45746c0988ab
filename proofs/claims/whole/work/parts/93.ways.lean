/-! how many ways seeds lie in pits -/
def Wn : Nat → Nat → Nat
  | 0, s => if s = 0 then 1 else 0
  | p + 1, s => sumF (Wn p) (s + 1)
theorem Wn_s (p s : Nat) : Wn (p + 1) (s + 1) = Wn p (s + 1) + Wn (p + 1) s := by
  show sumF (Wn p) (s + 1) + Wn p (s + 1) = Wn p (s + 1) + sumF (Wn p) (s + 1)
  rw [Nat.add_comm]
theorem Wn_0 : ∀ p, Wn p 0 = 1 := by
  intro p
  induction p with
  | zero => rfl
  | succ p ih =>
    show 0 + Wn p 0 = 1
    rw [ih]
theorem Wn_00 {s : Nat} (h : s ≠ 0) : Wn 0 s = 0 := if_neg h
theorem Wn_1 : ∀ s, Wn 1 s = 1 := by
  intro s
  induction s with
  | zero => exact Wn_0 1
  | succ s ih => rw [Wn_s, ih, Wn_00 (by omega)]
theorem Wn_AB : ∀ p, 1 ≤ p → (∀ s, (s + p) * Wn p s = (s + 1) * Wn p (s + 1)) ∧ (∀ s, p * Wn (p + 1) s = (s + p) * Wn p s) := by
  intro p
  induction p with
  | zero => intro h; omega
  | succ p ih =>
    intro _
    have hB : ∀ s, (s + (p + 1)) * Wn (p + 1) s = (s + 1) * Wn (p + 1) (s + 1) := by
      intro s
      by_cases q : p = 0
      · subst q; rw [Wn_1, Wn_1]
      · obtain ⟨B, A⟩ := ih (by omega)
        rw [Wn_s, Nat.mul_add, ← B s, ← A s, ← Nat.add_mul]
        congr 1
        omega
    refine ⟨hB, fun s => ?_⟩
    induction s with
    | zero => rw [Wn_0, Wn_0, Nat.zero_add]
    | succ s ih2 =>
      rw [Wn_s (p + 1) s, Nat.mul_add, ih2, hB s, ← Nat.add_mul]
      congr 1
      omega
theorem Wn_b : ∀ p s, Wn (p + 1) s ≤ (s + 1) ^ p := by
  intro p
  induction p with
  | zero => intro s; rw [Wn_1]; exact Nat.le_refl _
  | succ p ih =>
    intro s
    induction s with
    | zero => rw [Wn_0]; exact Nat.one_le_pow _ _ (by omega)
    | succ s ih2 =>
      rw [Wn_s]
      have h1 := ih (s + 1)
      have h2 : (s + 1) ^ (p + 1) ≤ (s + 1) * (s + 1 + 1) ^ p := by
        rw [Nat.pow_succ, Nat.mul_comm]
        exact Nat.mul_le_mul_left _ (Nat.pow_le_pow_left (by omega) _)
      have h3 : (s + 1 + 1) ^ (p + 1) = (s + 1 + 1) ^ p + (s + 1) * (s + 1 + 1) ^ p := by
        rw [Nat.pow_succ, Nat.mul_comm, Nat.add_mul, Nat.one_mul, Nat.add_comm]
      omega
theorem Wn_big : ∀ k s, k ≤ 11 → s ≤ 40 → k * Wn (k + 1) s < 2 ^ 63 := by
  intro k s hk hs
  have h1 := Wn_b k s
  have h2 : (s + 1) ^ k ≤ 41 ^ k := Nat.pow_le_pow_left (by omega) _
  have h3 : 41 ^ k ≤ 41 ^ 11 := Nat.pow_le_pow_right (by decide) hk
  have h4 : k * Wn (k + 1) s ≤ 11 * 41 ^ 11 := Nat.mul_le_mul hk (by omega)
  have h5 : 11 * 41 ^ 11 < 2 ^ 63 := by decide
  omega
/-- the reference's ways -/
theorem ways_s (n : Nat) (μ : Mu) {s p : Nat} (hs : s ≤ 40) (hp : p ≤ 12) (hn : 1000 < n) : X12_ways n (nI s) (nI p) μ = some (lN (Wn p s), μ) := by
  unfold X12_ways X12_ways_13
  rw [i_0, ifEq (by omega) (by decide), ifEq (by omega) (by decide)]
  by_cases c : p = 0
  · subst c
    rw [if_pos rfl]
    by_cases c2 : s = 0
    · subst c2
      rfl
    · rw [if_neg c2, Wn_00 c2]
      rfl
  · rw [if_neg c, i_1]
    unfold X12_ways_19
    have st : ∀ i, i < p - 1 → ∀ k : Int64 → Int32 → Mu → Option (Int64 × Mu), X12_ways_19b n (nI s) (nI p) k (lN (Wn (i + 1) s)) (nI (i + 1)) μ = k (lN (Wn (i + 1 + 1) s)) (nI (i + 1 + 1)) μ := by
      intro i hi k
      rw [X12_ways_19b, if_neg (fun q => absurd ((nI_leI (by omega) (by omega)).mp q) (by omega)), nI_add, nI_l (by omega), nI_l (by omega)]
      have hA := (Wn_AB (i + 1) (by omega)).2 s
      have hb := Wn_big (i + 1) s (by omega) hs
      have hd : ∀ x : Option (Int64 × Mu), dvl (lN (i + 1)) x = x := by
        intro x
        unfold dvl
        rw [if_neg]
        intro z
        have := (pk_lEQ (b := 0) (show i + 1 < 2 ^ 63 by omega) (by decide)).mp z
        omega
      rw [hd, lN_mul, Nat.mul_comm (Wn (i + 1) s), ← hA, pk_lDiv (by omega) (by omega) (by omega), Nat.mul_div_cancel_left _ (by omega), nI_1]
    have h := lpF_run (fun _ _ _ => none) (X12_ways_19b n (nI s) (nI p)) (fun k (x : Int64 × Int32) => k x.1 x.2 μ) (fun i => (lN (Wn (i + 1) s), nI (i + 1))) (p - 1) (some (lN (Wn p s), μ)) st (fun k => by
      dsimp only
      rw [X12_ways_19b, show p - 1 + 1 = p by omega, if_pos ((nI_leI (by omega) (by omega)).mpr (Nat.le_refl _))]) n (by omega)
    dsimp only at h
    rw [Wn_1] at h
    exact h
/-- the class's table -/
def WT (μ : Mu) : Prop := ∀ p, p < 14 → ∀ s, s ≤ 40 → μ.1 5 (p * 41 + s) = nI (min 6001 (Wn p s))
theorem Wn_mp (p s : Nat) : Wn p s ≤ Wn (p + 1) s := by
  cases s with
  | zero => rw [Wn_0, Wn_0]; exact Nat.le_refl _
  | succ s => rw [Wn_s]; omega
theorem Wn_ms (p s : Nat) : Wn (p + 1) s ≤ Wn (p + 1) (s + 1) := by rw [Wn_s]; omega
theorem Wn_ms2 {p s : Nat} : ∀ t, s ≤ t → Wn (p + 1) s ≤ Wn (p + 1) t := by
  intro t
  induction t with
  | zero => intro h; rw [show s = 0 by omega]; exact Nat.le_refl _
  | succ t ih =>
    intro h
    by_cases q : s = t + 1
    · rw [q]; exact Nat.le_refl _
    · exact Nat.le_trans (ih (by omega)) (Wn_ms p t)
theorem countWays_s (n : Nat) (μ : Mu) (h0 : ∀ k, k < 574 → μ.1 5 k = nI 0) (hn : 1000 < n) : Ok (X1_countWays n μ) (fun _ μ' => WT μ' ∧ KP (fun x => x = 5) μ μ') := by
  unfold X1_countWays X1_countWays_9
  rw [i_1]
  refine Ok_lp1 (fun k x1 μ' => ∃ p, 1 ≤ p ∧ p ≤ 14 ∧ k = 14 - p ∧ x1 = nI p ∧ (∀ q, q < p → ∀ s, s ≤ 40 → μ'.1 5 (q * 41 + s) = nI (min 6001 (Wn q s))) ∧ KP (fun x => x = 5) μ μ') ?_ 13 (by omega) ⟨1, by omega, by omega, rfl, rfl, fun q hq s hs => ?_, KP.rf.si rfl⟩
  · rintro K k x1 μ' ⟨p, hp1, hp, rfl, rfl, hw, hk⟩ hK
    unfold X1_countWays_9b
    rw [i_14, ifLe (by decide) (by omega)]
    by_cases c : 14 ≤ p
    · rw [if_pos c]
      exact Ok_r ⟨fun q hq => hw q (by omega), hk⟩
    · rw [if_neg c]
      unfold X1_countWays_17
      rw [i_0]
      refine Ok_lp2 (fun k x1 x2 μ2 => ∃ t, t ≤ 41 ∧ k = 41 - t ∧ x1 = nI p ∧ x2 = nI t ∧ (∀ q, q < p → ∀ s, s ≤ 40 → μ2.1 5 (q * 41 + s) = nI (min 6001 (Wn q s))) ∧ (∀ s, s < t → μ2.1 5 (p * 41 + s) = nI (min 6001 (Wn p s))) ∧ KP (fun x => x = 5) μ μ2) ?_ 41 (by omega) ⟨0, by omega, rfl, rfl, rfl, hw, fun s h => by omega, hk⟩
      rintro K2 k x1 x2 μ2 ⟨t, ht, rfl, rfl, rfl, hw2, hp2, hk2⟩ hK2
      obtain ⟨p, rfl⟩ : ∃ q, p = q + 1 := ⟨p - 1, by omega⟩
      unfold X1_countWays_17b X1_countWays_58
      rw [i_40, ifLt (by decide) (by omega)]
      by_cases c2 : 40 < t
      · obtain rfl : t = 41 := by omega
        rw [if_pos c2, i_1, nI_add]
        refine hK (14 - (p + 1 + 1)) _ _ (by omega) ⟨p + 1 + 1, by omega, by omega, rfl, rfl, fun q hq s hs => ?_, hk2⟩
        by_cases z : q = p + 1
        · rw [z]; exact hp2 s (by omega)
        · exact hw2 q (by omega) s hs
      · have hlast : ∀ (v : Int32), v = nI (min 6001 (Wn (p + 1) t)) → Ok (K2 (nI (p + 1)) (nI (t + 1)) (si μ2 5 ((p + 1) * 41 + t) v)) (fun _ μ' => WT μ' ∧ KP (fun x => x = 5) μ μ') := by
          intro v hv
          refine hK2 (41 - (t + 1)) _ _ _ (by omega) ⟨t + 1, by omega, rfl, rfl, rfl, fun q hq s hs => ?_, fun s hs => ?_, hk2.si rfl⟩
          · rw [si_c (by omega)]; exact hw2 q hq s hs
          · by_cases z : s = t
            · rw [z, si_a, hv]
            · rw [si_c (by omega)]; exact hp2 s (by omega)
        rw [if_neg c2, i_41, i_1, pk_sub (by omega), Nat.add_sub_cancel, pk_mul, pk_mul, nI_add, nI_add, gd_n (by omega) (by decide), i_0, ifEq (by omega) (by decide), nI_add]
        simp only [nI_clamp (show p * 41 + t < 2 ^ 31 by omega), nI_clamp (show (p + 1) * 41 + t < 2 ^ 31 by omega), hw2 p (by omega) t (by omega)]
        by_cases c3 : t = 0
        · subst c3
          rw [if_pos rfl, gd_n (by omega) (by decide), nI_add, i_6001]
          refine hlast _ ?_
          rw [Wn_0, Wn_0]
          rfl
        · obtain ⟨t, rfl⟩ : ∃ u, t = u + 1 := ⟨t - 1, by omega⟩
          rw [if_neg c3, pk_sub (by omega), show (p + 1) * 41 + (t + 1) - 1 = (p + 1) * 41 + t by omega, gd_n (by omega) (by decide), nI_clamp (by omega), hp2 t (by omega), nI_add, i_6001, gd_n (by omega) (by decide)]
          refine hlast _ ?_
          rw [ifLt (by omega) (by decide), Wn_s]
          by_cases z : min 6001 (Wn p (t + 1)) + min 6001 (Wn (p + 1) t) < 6001
          · rw [if_pos z]
            congr 1
            omega
          · rw [if_neg z]
            congr 1
            omega
  · obtain rfl : q = 0 := by omega
    cases s with
    | zero => rw [Nat.zero_mul, Nat.zero_add, si_a]; rfl
    | succ s => rw [si_c (by omega), h0 _ (by omega), Wn_00 (by omega)]; rfl
