/-! the reference: rows copied, put and got: dst's places d .. d + i - 1 become src's places p .. -/
def mvF (μ : Mu) (src p dst d : Nat) : Nat → Mu
  | 0 => μ
  | i + 1 => si (mvF μ src p dst d i) dst (d + i) (μ.1 src (p + i))
theorem mvF_o (μ : Mu) {src p dst d o k : Nat} (h : o ≠ dst) : ∀ i, (mvF μ src p dst d i).1 o k = μ.1 o k := by
  intro i
  induction i with
  | zero => rfl
  | succ i ih => rw [mvF, si_b h, ih]
theorem mvF_2 (μ : Mu) {src p dst d : Nat} : ∀ i, (mvF μ src p dst d i).2 = μ.2 := by
  intro i
  induction i with
  | zero => rfl
  | succ i ih => rw [mvF, si_d, ih]
theorem mvF_d (μ : Mu) {src p dst d k : Nat} : ∀ i, (mvF μ src p dst d i).1 dst k = if d ≤ k ∧ k < d + i then μ.1 src (p + (k - d)) else μ.1 dst k := by
  intro i
  induction i with
  | zero => rw [if_neg (by omega)]; rfl
  | succ i ih =>
    rw [mvF]
    by_cases h : k = d + i
    · subst h
      rw [si_a, if_pos (by omega), Nat.add_sub_cancel_left]
    · rw [si_c h, ih]
      by_cases h2 : d ≤ k ∧ k < d + i
      · rw [if_pos h2, if_pos (by omega)]
      · rw [if_neg h2, if_neg (by omega)]
theorem copies_s (n : Nat) (μ : Mu) {a b : Nat} (ha : oK a = 20) (hb : oK b = 20) (na : 25 ≤ oN a) (nb : 25 ≤ oN b) (na2 : oN a < 2 ^ 31) (nb2 : oN b < 2 ^ 31) (hab : a ≠ b) (hn : 25 < n) : X12_copies n a b μ = some ((), mvF μ a 0 b 0 25) := by
  unfold X12_copies X12_copies_2
  rw [kd_of ha, kd_of hb]
  refine lpF_run (fun _ _ => none) (X12_copies_2b n a b) (fun k (x : Int32 × Mu) => k x.1 x.2) (fun i => (nI i, mvF μ a 0 b 0 i)) 25 _ (fun i hi k => ?_) (fun k => ?_) n hn
  · dsimp only
    rw [X12_copies_2b, show (25 : Int32) = nI 25 from rfl, if_neg (fun q => absurd ((nI_leI (by omega) (by omega)).mp q) (by omega)), gd_n (by omega) na2, gd_n (by omega) nb2, nI_clamp (by omega), nI_1, mvF_o μ hab]
    rw [mvF, Nat.zero_add]
  · dsimp only
    rw [X12_copies_2b, show (25 : Int32) = nI 25 from rfl, if_pos ((nI_leI (by omega) (by omega)).mpr (Nat.le_refl _))]
theorem puts_s (n : Nat) (μ : Mu) {a b j : Nat} (ha : oK a = 20) (hb : oK b = 20) (na : 25 * j + 25 ≤ oN a) (nb : 25 ≤ oN b) (na2 : oN a < 2 ^ 31) (nb2 : oN b < 2 ^ 31) (hab : b ≠ a) (hn : 25 < n) : X12_puts n a (nI j) b μ = some ((), mvF μ b 0 a (25 * j) 25) := by
  unfold X12_puts X12_puts_2
  rw [kd_of ha, kd_of hb]
  refine lpF_run (fun _ _ => none) (X12_puts_2b n a (nI j) b) (fun k (x : Int32 × Mu) => k x.1 x.2) (fun i => (nI i, mvF μ b 0 a (25 * j) i)) 25 _ (fun i hi k => ?_) (fun k => ?_) n hn
  · dsimp only
    rw [X12_puts_2b, show (25 : Int32) = nI 25 from rfl, if_neg (fun q => absurd ((nI_leI (by omega) (by omega)).mp q) (by omega)), pk_mul, nI_add, gd_n (by omega) nb2, gd_n (by omega) na2, nI_clamp (by omega), nI_clamp (by omega), nI_1, mvF_o μ hab]
    rw [mvF, Nat.zero_add]
  · dsimp only
    rw [X12_puts_2b, show (25 : Int32) = nI 25 from rfl, if_pos ((nI_leI (by omega) (by omega)).mpr (Nat.le_refl _))]
theorem gets_s (n : Nat) (μ : Mu) {a b j : Nat} (ha : oK a = 20) (hb : oK b = 20) (na : 25 * j + 25 ≤ oN a) (nb : 25 ≤ oN b) (na2 : oN a < 2 ^ 31) (nb2 : oN b < 2 ^ 31) (hab : a ≠ b) (hn : 25 < n) : X12_gets n a (nI j) b μ = some ((), mvF μ a (25 * j) b 0 25) := by
  unfold X12_gets X12_gets_2
  rw [kd_of ha, kd_of hb]
  refine lpF_run (fun _ _ => none) (X12_gets_2b n a (nI j) b) (fun k (x : Int32 × Mu) => k x.1 x.2) (fun i => (nI i, mvF μ a (25 * j) b 0 i)) 25 _ (fun i hi k => ?_) (fun k => ?_) n hn
  · dsimp only
    rw [X12_gets_2b, show (25 : Int32) = nI 25 from rfl, if_neg (fun q => absurd ((nI_leI (by omega) (by omega)).mp q) (by omega)), pk_mul, nI_add, gd_n (by omega) na2, gd_n (by omega) nb2, nI_clamp (by omega), nI_clamp (by omega), nI_1, mvF_o μ hab]
    rw [mvF, Nat.zero_add]
  · dsimp only
    rw [X12_gets_2b, show (25 : Int32) = nI 25 from rfl, if_pos ((nI_leI (by omega) (by omega)).mpr (Nat.le_refl _))]
