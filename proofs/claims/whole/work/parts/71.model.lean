/-! the reference: bits, sums, the hand -/
theorem sh_l : ∀ n, n < 32 → ((nI n &&& 31).toBitVec.smod 32).toNat = n := by decide
theorem bit_s {lac p : Nat} (hl : lac < 2 ^ 31) (hp : p < 32) : ((nI lac >>> (nI p &&& 31)) &&& (1 : Int32)) = 1 ↔ lac.testBit p = true := by
  rw [pk_shrN hl _ p (sh_l p hp), pk_andN (Nat.lt_of_le_of_lt (Nat.div_le_self _ _) (by omega)) 1 (by decide), show (1 : Int32) = nI 1 from rfl, nI_eq (by omega) (by decide), Nat.testBit_eq_decide_div_mod_eq, decide_eq_true_iff]
theorem isLacking_s (n : Nat) (μ : Mu) {lac p : Nat} (hl : μ.1 172 3 = nI lac) (h31 : lac < 2 ^ 31) (hp : p < 32) : X12_isLacking n (nI p) μ = some (b2i (lac.testBit p), μ) := by
  unfold X12_isLacking X12_isLacking_19
  rw [hl]
  by_cases h : lac.testBit p = true
  · rw [if_pos ((bit_s h31 hp).mpr h), bz_1, h]
    rfl
  · rw [if_neg (fun q => h ((bit_s h31 hp).mp q)), bz_0, show lac.testBit p = false by simpa using h]
    rfl
def sumF (f : Nat → Nat) : Nat → Nat
  | 0 => 0
  | n + 1 => sumF f n + f n
def sdN (sz p : Nat) : Nat := if p < sz then 0 else 1
theorem sdN_lt (sz p : Nat) : sdN sz p < 2 := by
  unfold sdN
  by_cases h : p < sz
  · rw [if_pos h]; decide
  · rw [if_neg h]; decide
theorem sideOf_d (n : Nat) (μ : Mu) {sz p : Nat} (hz : μ.1 172 1 = nI sz) (h6 : sz ≤ 6) (hp : p < 2 ^ 31) : X12_sideOf n (nI p) μ = some (nI (sdN sz p), μ) := sideOf_s n μ hz h6 hp
theorem sum_s (n : Nat) (μ : Mu) {sz side : Nat} {hd : Nat → Nat} (hz : μ.1 172 1 = nI sz) (h6 : sz ≤ 6) (hs : side < 2) (hh : ∀ p, p < 12 → μ.1 178 p = nI (hd p)) (hn : 2 * sz < n) :
    X12_sum n (nI side) μ = some (nI (sumF (fun p => if sdN sz p = side then hd p else 0) (2 * sz)), μ) := by
  unfold X12_sum X12_sum_4
  refine lpF_run (fun _ _ _ => none) (X12_sum_4b n (nI side)) (fun k (x : Int32 × Int32) => k x.1 x.2 μ) (fun i => (nI (sumF (fun p => if sdN sz p = side then hd p else 0) i), nI i)) (2 * sz) _ (fun i hi k => ?_) (fun k => ?_) n hn
  · dsimp only
    rw [X12_sum_4b, bS (pitMany_s n μ hz)]
    dsimp only
    rw [if_neg (fun q => absurd ((nI_leI (by omega) (by omega)).mp q) (by omega)), bS (sideOf_d n μ hz h6 (show i < 2 ^ 31 by omega))]
    dsimp only
    unfold X12_sum_32
    by_cases h : sdN sz i = side
    · rw [if_pos (by rw [← h]), gd_n (by omega) (by decide), nI_clamp (by omega), hh i (by omega), nI_add, nI_1]
      simp only [sumF, if_pos h]
    · rw [if_neg (fun q => h ((nI_eq (a := sdN sz i) (Nat.lt_trans (sdN_lt sz i) (by decide)) (by omega)).mp q)), show (0 : Int32) = nI 0 from rfl, nI_add, nI_1]
      simp only [sumF, if_neg h]
  · dsimp only
    rw [X12_sum_4b, bS (pitMany_s n μ hz)]
    dsimp only
    rw [if_pos ((nI_leI (by omega) (by omega)).mpr (Nat.le_refl _))]
def tuF (μ : Mu) : Nat → Mu
  | 0 => μ
  | i + 1 => si (tuF μ i) 178 i (μ.1 172 (13 + i))
theorem tuF_o (μ : Mu) {o k : Nat} (h : o ≠ 178) : ∀ i, (tuF μ i).1 o k = μ.1 o k := by
  intro i
  induction i with
  | zero => rfl
  | succ i ih => rw [tuF, si_b h, ih]
theorem tuF_h (μ : Mu) {k : Nat} : ∀ i, (tuF μ i).1 178 k = if k < i then μ.1 172 (13 + k) else μ.1 178 k := by
  intro i
  induction i with
  | zero => rw [if_neg (by omega)]; rfl
  | succ i ih =>
    rw [tuF]
    by_cases h : k = i
    · subst h
      rw [si_a, if_pos (by omega)]
    · rw [si_c h, ih]
      by_cases h2 : k < i
      · rw [if_pos h2, if_pos (by omega)]
      · rw [if_neg h2, if_neg (by omega)]
theorem takesUp_s (n : Nat) (μ : Mu) {sz : Nat} (hz : μ.1 172 1 = nI sz) (h6 : sz ≤ 6) (hn : 2 * sz < n) : X12_takesUp n μ = some ((), tuF μ (2 * sz)) := by
  unfold X12_takesUp X12_takesUp_2
  refine lpF_run (fun _ _ => none) (X12_takesUp_2b n) (fun k (x : Int32 × Mu) => k x.1 x.2) (fun i => (nI i, tuF μ i)) (2 * sz) _ (fun i hi k => ?_) (fun k => ?_) n hn
  · dsimp only
    rw [X12_takesUp_2b, bS (pitMany_s n (tuF μ i) (by rw [tuF_o μ (by decide), hz]))]
    dsimp only
    rw [if_neg (fun q => absurd ((nI_leI (by omega) (by omega)).mp q) (by omega)), show (13 : Int32) = nI 13 from rfl, nI_add, gd_n (by omega) (by decide), gd_n (by omega) (by decide), nI_clamp (by omega), nI_clamp (by omega), nI_1, tuF_o μ (by decide)]
    rfl
  · dsimp only
    rw [X12_takesUp_2b, bS (pitMany_s n (tuF μ (2 * sz)) (by rw [tuF_o μ (by decide), hz]))]
    dsimp only
    rw [if_pos ((nI_leI (by omega) (by omega)).mpr (Nat.le_refl _))]
/-- an int between two others, as the reference asks it over longs -/
theorem wide_le {a b : Int32} : a.toInt64 ≤ b.toInt64 ↔ a ≤ b := by
  rw [Int64.le_iff_toInt_le, Int32.le_iff_toInt_le, Int32.toInt_toInt64, Int32.toInt_toInt64]
theorem isPit_s (n : Nat) (μ : Mu) {sz : Nat} (p : Int32) (hz : μ.1 172 1 = nI sz) (h1 : 1 ≤ sz) (h6 : sz ≤ 6) : X12_isPit n p μ = some (b2i (decide (0 ≤ p ∧ p < nI (2 * sz))), μ) := by
  unfold X12_isPit
  rw [bS (pitMany_s n μ hz)]
  dsimp only
  rw [bS (within_s n _ _ _ μ)]
  dsimp only
  rw [bz_b]
  have e : (0 : Int64) = (0 : Int32).toInt64 := by decide
  have e2 : nI (2 * sz) - 1 = nI (2 * sz - 1) := by
    rw [show (1 : Int32) = nI 1 from rfl, pk_sub (by omega)]
  have e3 : (p ≤ nI (2 * sz - 1)) ↔ p < nI (2 * sz) := by
    rw [Int32.le_iff_toInt_le, Int32.lt_iff_toInt_lt, nI_toInt (by omega), nI_toInt (by omega)]
    omega
  rw [e2, e]
  simp only [wide_le, e3]
