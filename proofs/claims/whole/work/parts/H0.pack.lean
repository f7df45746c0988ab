/-! boards packed into two longs -/
def paN (c : Nat → Nat) (a : Nat) : Nat → Nat
  | 0 => 0
  | m + 1 => paN c a m * 256 + c (a + m)
theorem pa_in {c c2 : Nat → Nat} {a : Nat} : ∀ m, (∀ k, k < m → c (a + k) < 256 ∧ c2 (a + k) < 256) → paN c a m = paN c2 a m → ∀ k, k < m → c (a + k) = c2 (a + k) := by
  intro m
  induction m with
  | zero => intro _ _ k hk; omega
  | succ m ih =>
    intro h e k hk
    have h1 := h m (by omega)
    rw [paN, paN] at e
    have e1 : paN c a m = paN c2 a m := by omega
    have e2 : c (a + m) = c2 (a + m) := by omega
    by_cases z : k = m
    · rw [z]; exact e2
    · exact ih (fun k q => h k (by omega)) e1 k (by omega)
theorem pa_cg {c c2 : Nat → Nat} {a : Nat} : ∀ m, (∀ k, k < m → c (a + k) = c2 (a + k)) → paN c a m = paN c2 a m := by
  intro m
  induction m with
  | zero => intro _; rfl
  | succ m ih => intro h; rw [paN, paN, ih (fun k q => h k (by omega)), h m (by omega)]
theorem pa_lt {c : Nat → Nat} {a : Nat} : ∀ m, (∀ k, k < m → c (a + k) < 256) → paN c a m < 256 ^ m := by
  intro m
  induction m with
  | zero => intro _; show 0 < 1; decide
  | succ m ih =>
    intro h
    have h1 := h m (by omega)
    have h2 := ih (fun k q => h k (by omega))
    rw [paN, Nat.pow_succ]
    omega
theorem lN_or {a b : Nat} (ha : a < 2 ^ 56) (hb : b < 256) : (lN a <<< ((8 : Int32).toInt64 &&& 63)) ||| lN b = lN (a * 256 + b) := by
  apply Int64.toBitVec_inj.mp
  apply BitVec.eq_of_toNat_eq
  show ((lN a <<< ((8 : Int32).toInt64 &&& 63)).toBitVec ||| (lN b).toBitVec).toNat = _
  rw [BitVec.toNat_or, l_shl _ _ 8 (by decide)]
  have e1 : ∀ x, (lN x).toBitVec.toNat = x % 2 ^ 64 := fun x => BitVec.toNat_ofNat x 64
  rw [e1, e1, e1, Nat.mod_eq_of_lt (show a < 2 ^ 64 by omega), Nat.mod_eq_of_lt (show b < 2 ^ 64 by omega), Nat.mod_eq_of_lt (show a * 2 ^ 8 < 2 ^ 64 by omega), Nat.mod_eq_of_lt (show a * 256 + b < 2 ^ 64 by omega)]
  exact or_add 8 a b hb
theorem nI_lN {a : Nat} (h : a < 2 ^ 31) : (nI a).toInt64 = lN a := by
  apply Int64.toInt_inj.mp
  rw [Int32.toInt_toInt64, nI_toInt h, pk_lT (by omega)]
theorem packed_s (n : Nat) (μ : Mu) {o a b : Nat} {c : Nat → Nat} (ho : oK o = 20) (hN : oN o = 14) (hab : a ≤ b) (h7 : b ≤ a + 7) (hb : b ≤ 14) (hc : ∀ k, k < 14 → μ.1 o k = nI (c k) ∧ c k < 256) (hn : 1000 < n) : X0_packed n o (nI a) (nI b) μ = some (lN (paN c a (b - a)), μ) := by
  have hlt : ∀ m, m ≤ b - a → paN c a m < 2 ^ 56 := by
    intro m hm
    have h1 := pa_lt (c := c) (a := a) m (fun k q => (hc (a + k) (by omega)).2)
    have h2 : (256 : Nat) ^ m ≤ 256 ^ 7 := Nat.pow_le_pow_right (by decide) (by omega)
    omega
  unfold X0_packed X0_packed_5
  rw [kd_of ho]
  have := Ok_lp2 (z := fun _ _ _ => none) (b := X0_packed_5b n o (nI a) (nI b)) (n := n) (x0 := (0 : Int64)) (x1 := nI a) (μ := μ) (fun f x3 x5 μ' => ∃ m, m ≤ b - a ∧ f = b - a - m ∧ x3 = lN (paN c a m) ∧ x5 = nI (a + m) ∧ μ' = μ) (Q := fun x μ' => x = lN (paN c a (b - a)) ∧ μ' = μ) (by
    rintro K f x3 x5 μ1 ⟨m, hm, rfl, rfl, rfl, rfl⟩ hK
    unfold X0_packed_5b
    rw [ifLe (by omega) (by omega)]
    by_cases z : b ≤ a + m
    · obtain rfl : m = b - a := by omega
      rw [if_pos z]
      exact Ok_r ⟨rfl, rfl⟩
    · obtain ⟨c1, c2⟩ := hc (a + m) (by omega)
      rw [if_neg z, gd_n (by rw [hN]; omega) (by rw [hN]; decide), nI_clamp (by omega), c1, nI_lN (by omega), lN_or (by have := hlt m hm; omega) c2, i_1, nI_add]
      exact hK (b - a - (m + 1)) _ _ _ (by omega) ⟨m + 1, by omega, rfl, rfl, rfl, rfl⟩) (b - a) (by omega) ⟨0, by omega, rfl, rfl, rfl, rfl⟩
  obtain ⟨x, μ', e, rfl, rfl⟩ := this
  exact e
theorem hs_e (y : Int64) : (y.toUInt64 >>> ((52 : Int32).toInt64.toUInt64 &&& Int64.toUInt64 63)).toInt64.toInt32 = nI (y.toBitVec.toNat / 2 ^ 52) := by
  have hlt := y.toBitVec.isLt
  apply Int32.toInt_inj.mp
  have e : (y.toUInt64 >>> ((52 : Int32).toInt64.toUInt64 &&& Int64.toUInt64 63)).toInt64.toBitVec.toNat = y.toBitVec.toNat / 2 ^ 52 := by
    show (y.toUInt64 >>> ((52 : Int32).toInt64.toUInt64 &&& Int64.toUInt64 63)).toNat = _
    rw [UInt64.toNat_shiftRight, show ((52 : Int32).toInt64.toUInt64 &&& Int64.toUInt64 63).toNat % 64 = 52 by decide, Nat.shiftRight_eq_div_pow]
    rfl
  rw [Int64.toInt_toInt32, l_bm, e, nI_toInt (by omega)]
  generalize y.toBitVec.toNat = N at *
  simp only [Int.bmod_def]
  split <;> split <;> omega
/-! a board's key, its place in the table -/
def kyA (T : Nat → Nat) : Nat := paN (cT T) 0 7
def kyB (T : Nat → Nat) : Nat := paN (cT T) 7 7 * 2 + T 2
def hsN (a b : Nat) : Nat := ((((lN a * (31 : Int64)) + lN b) * ((-7046029254386353131) : Int64)).toBitVec.toNat) / 2 ^ 52
theorem hs_lt (a b : Nat) : hsN a b < 4096 := by
  unfold hsN
  have := (((lN a * (31 : Int64)) + lN b) * ((-7046029254386353131) : Int64)).toBitVec.isLt
  omega
theorem cT_256 {T : Nat → Nat} (hT : W1 T) {k : Nat} (hk : k < 14) : cT T k < 256 := by
  have h1 := hT.2.1
  have h2 := hT.2.2.1
  by_cases z : k < 12
  · have : cT T k ≤ sT T := sum_le (c := cT T) 12 k z
    omega
  · have e : cT T k = T (k - 1) := by unfold cT; rw [if_neg z]
    obtain rfl | rfl : k = 12 ∨ k = 13 := by omega
    · rw [e]; show T 11 < _; omega
    · rw [e]; show T 12 < _; omega
theorem ky_lt {T : Nat → Nat} (hT : W1 T) : kyA T < 2 ^ 56 ∧ kyB T < 2 ^ 58 := by
  have h1 := pa_lt (c := cT T) (a := 0) 7 (fun k q => cT_256 hT (by omega))
  have h2 := pa_lt (c := cT T) (a := 7) 7 (fun k q => cT_256 hT (by omega))
  have h3 := hT.1.2.1
  unfold kyA kyB
  have : (256 : Nat) ^ 7 = 2 ^ 56 := by decide
  omega
def EB (T T2 : Nat → Nat) : Prop := T2 2 = T 2 ∧ ∀ k, k < 14 → cT T2 k = cT T k
theorem ky_eb {T T2 : Nat → Nat} (hT : W1 T) (hT2 : W1 T2) : (kyA T2 = kyA T ∧ kyB T2 = kyB T) ↔ EB T T2 := by
  have h3 := hT.1.2.1
  have h4 := hT2.1.2.1
  constructor
  · rintro ⟨a, b⟩
    unfold kyA at a
    unfold kyB at b
    have e1 : paN (cT T2) 7 7 = paN (cT T) 7 7 := by omega
    refine ⟨by omega, fun k hk => ?_⟩
    by_cases z : k < 7
    · have := pa_in 7 (fun k q => ⟨cT_256 hT2 (by omega), cT_256 hT (by omega)⟩) a k z
      rw [Nat.zero_add] at this
      exact this
    · have := pa_in 7 (fun k q => ⟨cT_256 hT2 (by omega), cT_256 hT (by omega)⟩) e1 (k - 7) (by omega)
      rw [show 7 + (k - 7) = k by omega] at this
      exact this
  · rintro ⟨a, b⟩
    unfold kyA kyB
    exact ⟨pa_cg 7 (fun k q => b _ (by omega)), by rw [a, pa_cg 7 (fun k q => b _ (by omega))]⟩
