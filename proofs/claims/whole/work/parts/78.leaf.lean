/-! the class's leaves: bits, pits as seen, cells on the way, rows -/
theorem ush_l : ∀ n, n < 32 → (((nI n).toUInt32 &&& Int32.toUInt32 31).toBitVec % 32).toNat = n := by decide
theorem ubit_s {lac p : Nat} (hl : lac < 2 ^ 31) (hp : p < 32) : ((((nI lac).toUInt32 >>> ((nI p).toUInt32 &&& Int32.toUInt32 31)).toInt32) &&& nI 1) = nI 1 ↔ lac.testBit p = true := by
  rw [pk_ushrN (by omega) _ p (ush_l p hp), pk_andN (Nat.lt_of_le_of_lt (Nat.div_le_self _ _) (by omega)) 1 (by decide), nI_eq (by omega) (by decide), Nat.testBit_eq_decide_div_mod_eq, decide_eq_true_iff]
theorem lackC_s (n : Nat) (μ : Mu) {lac p : Nat} (hl : μ.1 1 2 = nI lac) (h31 : lac < 2 ^ 31) (hp : p < 32) : X5_isLacking n 1 (nI p) μ = some (b2i (lac.testBit p), μ) := by
  unfold X5_isLacking X5_isLacking_17
  rw [kd_of (by decide), hl, i_1]
  by_cases h : lac.testBit p = true
  · rw [if_pos ((ubit_s h31 hp).mpr h), h]
    rfl
  · rw [if_neg (fun q => h ((ubit_s h31 hp).mp q)), show lac.testBit p = false by simpa using h]
    rfl
theorem lackO_s (n : Nat) (μ : Mu) {o lac p : Nat} (ho : oK o = 5) (hl : μ.1 o 2 = nI lac) (h31 : lac < 2 ^ 31) (hp : p < 32) : X5_isLacking n o (nI p) μ = some (b2i (lac.testBit p), μ) := by
  unfold X5_isLacking X5_isLacking_17
  rw [kd_of ho, hl, i_1]
  by_cases h : lac.testBit p = true
  · rw [if_pos ((ubit_s h31 hp).mpr h), h]
    rfl
  · rw [if_neg (fun q => h ((ubit_s h31 hp).mp q)), show lac.testBit p = false by simpa using h]
    rfl
theorem mul_off {sz s : Nat} (hs : s < 2) : s * sz = offN sz s := by
  obtain rfl | rfl : s = 0 ∨ s = 1 := by omega
  · rw [Nat.zero_mul]; rfl
  · rw [Nat.one_mul]; rfl
theorem off_le (sz s : Nat) : offN sz s ≤ sz := by unfold offN; split <;> omega
theorem off_2 {sz s : Nat} (hs : s < 2) : offN sz s + offN sz (1 - s) = sz := by unfold offN; split <;> split <;> omega
/-- the pit that a side sees as its i-th -/
def pS (sz s i : Nat) : Nat := if i < sz then offN sz s + i else offN sz (1 - s) + (i - sz)
theorem pS_lt {sz s i : Nat} (hs : s < 2) (hi : i < 2 * sz) : pS sz s i < 2 * sz := by
  unfold pS offN
  split <;> split <;> omega
theorem seen_s (n : Nat) (μ : Mu) {sz s i : Nat} (hz : μ.1 1 1 = nI sz) (h6 : sz < 7) (hs : s < 2) (hi : i < 2 * sz) : X1_pitAsSeen n (nI s) (nI i) μ = some (nI (pS sz s i), μ) := by
  unfold X1_pitAsSeen X1_pitAsSeen_40
  have ho := off_le sz s
  simp only [hz, i_2, pk_mul, nI_add, mul_off hs]
  by_cases c : 2 * sz ≤ offN sz s + i
  · rw [if_pos ((nI_leI (by omega) (by omega)).mpr c), pk_sub c]
    have : pS sz s i = offN sz s + i - 2 * sz := by
      unfold pS offN at *
      split at c <;> split <;> (try split) <;> omega
    rw [this]
  · rw [if_neg (fun q => c ((nI_leI (by omega) (by omega)).mp q))]
    have : pS sz s i = offN sz s + i := by
      unfold pS offN at *
      split at c <;> split <;> (try split) <;> omega
    rw [this]
theorem cI_pS {sz s i : Nat} (hi : i ≠ sz) : cI sz s i = pS sz s (if i < sz then i else i - 1) := by
  unfold cI pS
  by_cases c : i < sz
  · rw [if_pos c, if_pos c, if_pos c]
  · rw [if_neg c, if_neg hi, if_neg c, if_neg (by omega), show i - sz - 1 = i - 1 - sz by omega]
/-- the cell at a place of the way, or -1 -/
def oC (x : Bool) (c : Nat) : Int32 := if x = true then nI c else -nI 1
theorem onWay_s (n : Nat) (μ : Mu) {T : Nat → Nat} {s i : Nat} (h1 : μ.1 1 1 = nI (T 1)) (h2 : μ.1 1 2 = nI (T 3)) (h5 : μ.1 1 5 = nI (T 4)) (b6 : T 1 < 7) (b1 : 1 ≤ T 1) (bl : T 3 < 4096) (b4 : T 4 < 2) (hs : s < 2) (hi : i < 2 * T 1 + 1) : X1_cellOnWay n (nI s) (nI i) μ = some (oC (onI T s i) (cI (T 1) s i), μ) := by
  unfold X1_cellOnWay X1_cellOnWay_29
  rw [h1, h5]
  by_cases c : i = T 1
  · rw [if_pos (by rw [c])]
    unfold onI oC
    rw [if_pos c, c, (cI_lt (T 1) b6 b1 s hs (T 1) (by omega)).2.2]
    by_cases c4 : T 4 = 0
    · rw [if_pos (by rw [c4]; rfl), if_neg (by rw [decide_eq_true_iff]; omega)]
      rfl
    · rw [if_neg (nI_ne0 (by omega) (by omega)), if_pos (by rw [decide_eq_true_iff]; omega), i_12, nI_add]
  · rw [if_neg (fun q => c ((nI_eq (by omega) (by omega)).mp q))]
    have L : ∀ k, k < 2 * T 1 → X1_cellOnWay_50 n (nI s) (nI i) (nI s) (nI k) μ = some (oC (!(T 3).testBit (pS (T 1) s k)) (pS (T 1) s k), μ) := by
      intro k hk
      have hp := pS_lt hs hk
      unfold X1_cellOnWay_50 X1_cellOnWay_70
      rw [bS (seen_s n μ h1 b6 hs hk)]
      dsimp only
      rw [bS (lackC_s n μ h2 (by omega) (by omega))]
      dsimp only
      unfold oC
      by_cases c : (T 3).testBit (pS (T 1) s k) = true
      · rw [c]; rfl
      · rw [show (T 3).testBit (pS (T 1) s k) = false by simpa using c]; rfl
    unfold onI
    rw [if_neg c, cI_pS c]
    by_cases c2 : i < T 1
    · rw [if_neg (fun q => absurd ((nI_leI (by omega) (by omega)).mp q) (by omega)), L i (by omega), if_pos c2]
    · rw [if_pos ((nI_leI (by omega) (by omega)).mpr (by omega)), i_1, pk_sub (by omega), L (i - 1) (by omega), if_neg c2]
/-- a row's seeds -/
def rowN (c : Nat → Nat) (b k : Nat) : Nat := sumF (fun i => c (b + i)) k
theorem inRow_s (n : Nat) (μ : Mu) {o sz s : Nat} {c : Nat → Nat} (ho : oK o = 6) (h6 : sz < 7) (hs : s < 2) (hc : ∀ k, k < 14 → μ.1 (o + 1) k = nI (c k)) (hn : 7 < n) : X6_inRow n o (nI s) (nI sz) μ = some (nI (rowN c (offN sz s) sz), μ) := by
  have ho2 := off_le sz s
  unfold X6_inRow X6_inRow_7
  rw [kd_of ho, pk_mul, mul_off hs]
  refine lpF_run (fun _ _ _ => none) (X6_inRow_7b n o (nI s) (nI sz)) (fun k (x : Int32 × Int32) => k x.1 x.2 μ) (fun i => (nI (rowN c (offN sz s) i), nI (offN sz s + i))) sz _ (fun i hi k => ?_) (fun k => ?_) n (by omega)
  · dsimp only
    rw [X6_inRow_7b, i_1, nI_add, pk_mul, Nat.add_mul, Nat.one_mul, mul_off hs, if_neg (fun q => absurd ((nI_leI (by omega) (by omega)).mp q) (by omega)), gd_n (by omega) (by decide), nI_clamp (by omega), hc _ (by omega), nI_add, nI_add]
    rfl
  · dsimp only
    rw [X6_inRow_7b, i_1, nI_add, pk_mul, Nat.add_mul, Nat.one_mul, mul_off hs, if_pos ((nI_leI (by omega) (by omega)).mpr (Nat.le_refl _))]
theorem inPits_s (n : Nat) (μ : Mu) {o : Nat} {c : Nat → Nat} (ho : oK o = 6) (hc : ∀ k, k < 14 → μ.1 (o + 1) k = nI (c k)) (hn : 12 < n) : X6_inPits n o μ = some (nI (sumF c 12), μ) := by
  unfold X6_inPits X6_inPits_4
  rw [kd_of ho]
  refine lpF_run (fun _ _ _ => none) (X6_inPits_4b n o) (fun k (x : Int32 × Int32) => k x.1 x.2 μ) (fun i => (nI (sumF c i), nI i)) 12 _ (fun i hi k => ?_) (fun k => ?_) n (by omega)
  · dsimp only
    rw [X6_inPits_4b, i_12, i_1, if_neg (fun q => absurd ((nI_leI (by omega) (by omega)).mp q) (by omega)), gd_n (by omega) (by decide), nI_clamp (by omega), hc _ (by omega), nI_add, nI_add]
    rfl
  · dsimp only
    rw [X6_inPits_4b, i_12, if_pos ((nI_leI (by omega) (by omega)).mpr (Nat.le_refl _))]
