/-! numbers of positions -/
def nbR (a : Nat → Nat) (m : Nat) : Nat → Nat → Nat
  | 0, _ => 0
  | r + 1, rest => (if 0 < rest - a (m - (r + 1)) then Wn (r + 1) (rest - a (m - (r + 1)) - 1) else 0) + nbR a m r (rest - a (m - (r + 1)))
def nbT (T c : Nat → Nat) (s : Nat) : Nat := nbR (fun j => c (sqN T s j)) (opnN T) (opnN T) (sumF c (2 * T 1))
theorem nbR_0 {a : Nat → Nat} {m : Nat} : ∀ r, nbR a m r 0 = 0 := by
  intro r
  induction r with
  | zero => rfl
  | succ r ih => rw [nbR, Nat.zero_sub, if_neg (by omega), ih]
theorem Wn_mono {p q s t : Nat} (hp : 1 ≤ p) (hpq : p ≤ q) (hst : s ≤ t) : Wn p s ≤ Wn q t := by
  have h1 : ∀ q, p ≤ q → Wn p s ≤ Wn q s := by
    intro q
    induction q with
    | zero => intro h; omega
    | succ q ih =>
      intro h
      by_cases z : p = q + 1
      · rw [z]; exact Nat.le_refl _
      · exact Nat.le_trans (ih (by omega)) (Wn_mp q s)
  obtain ⟨q, rfl⟩ : ∃ k, q = k + 1 := ⟨q - 1, by omega⟩
  exact Nat.le_trans (h1 (q + 1) hpq) (Wn_ms2 t hst)
theorem sum_sf {a : Nat → Nat} {m j : Nat} (hj : j < m) : sumF a j + a j ≤ sumF a m := by
  have := sum_mo (c := a) m (show j + 1 ≤ m by omega)
  rw [sumF] at this
  exact this
theorem nb_lt {a : Nat → Nat} {m : Nat} : ∀ r rest, r ≤ m → sumF a (m - r) + rest = sumF a m → nbR a m r rest < Wn r rest := by
  intro r
  induction r with
  | zero =>
    intro rest _ h
    rw [Nat.sub_zero] at h
    rw [show rest = 0 by omega, Wn_0]
    exact Nat.lt_succ_self 0
  | succ r ih =>
    intro rest hr h
    have hj := sum_sf (a := a) (m := m) (j := m - (r + 1)) (by omega)
    have e : sumF a (m - r) = sumF a (m - (r + 1)) + a (m - (r + 1)) := by
      rw [show m - r = m - (r + 1) + 1 by omega, sumF]
    have ih2 := ih (rest - a (m - (r + 1))) (by omega) (by omega)
    rw [nbR]
    by_cases c : 0 < rest - a (m - (r + 1))
    · rw [if_pos c]
      obtain ⟨x, hx⟩ : ∃ x, rest - a (m - (r + 1)) = x + 1 := ⟨rest - a (m - (r + 1)) - 1, by omega⟩
      rw [hx] at ih2 ⊢
      rw [Nat.add_sub_cancel]
      have h1 := Wn_s r x
      have h2 := Wn_ms2 (p := r) rest (show x + 1 ≤ rest by omega)
      omega
    · rw [if_neg c]
      rw [show rest - a (m - (r + 1)) = 0 by omega, Wn_0] at ih2
      have := Wn_ms2 (p := r) rest (show 0 ≤ rest by omega)
      rw [Wn_0] at this
      rw [show rest - a (m - (r + 1)) = 0 by omega]
      omega
theorem numberOf_s (n : Nat) (μ : Mu) {T c : Nat → Nat} {o sd : Nat} (ho : oK o = 6) (b6 : T 1 < 7) (hs : sd < 2) (hsd : μ.1 o 1 = nI sd) (hc : CE μ o c) (hS : SN μ T sd) (hO : μ.1 2 1 = nI (opnN T)) (hw : WT μ) (hz : ∀ p, p < 2 * T 1 → (T 3).testBit p = true → c p = 0) (h40 : sumF c (2 * T 1) ≤ 40) (h6 : Wn (opnN T) (sumF c (2 * T 1)) ≤ 6000) (hn : 1000 < n) :
    X1_numberOf n o (nI (sumF c (2 * T 1))) μ = some (nI (nbT T c sd), μ) := by
  have hopl := opn_le (T := T)
  have hsum := sq_sum (T := T) (c := c) hs hz
  suffices h : Ok (X1_numberOf n o (nI (sumF c (2 * T 1))) μ) (fun a μ' => a = nI (nbT T c sd) ∧ μ' = μ) by
    obtain ⟨a, μ', e, rfl, rfl⟩ := h
    exact e
  unfold X1_numberOf X1_numberOf_17
  rw [kd_of ho, hsd, i_12, pk_mul, i_0]
  refine Ok_lp4 (fun k x3 x4 x5 x6 μ' => ∃ j rest num, x3 = nI (sd * 12) ∧ x4 = nI rest ∧ x5 = nI num ∧ x6 = nI j ∧ μ' = μ ∧ j ≤ opnN T ∧ k = opnN T - j ∧ sumF (fun j => c (sqN T sd j)) j + rest = sumF c (2 * T 1) ∧ num + nbR (fun j => c (sqN T sd j)) (opnN T) (opnN T - j) rest = nbT T c sd) ?_ (opnN T) (by omega) ⟨0, sumF c (2 * T 1), 0, rfl, rfl, rfl, rfl, rfl, by omega, rfl, Nat.zero_add _, by rw [Nat.zero_add]; rfl⟩
  rintro K k x3 x4 x5 x6 μ' ⟨j, rest, num, rfl, rfl, rfl, rfl, rfl, hj, rfl, hsm, hnum⟩ hK
  unfold X1_numberOf_17b X1_numberOf_80 X1_numberOf_86
  rw [hO, ifLe (by omega) (by omega), i_0, ifLe (by omega) (by decide)]
  by_cases q : opnN T ≤ j
  · rw [if_pos q]
    rw [show opnN T - j = 0 by omega] at hnum
    exact Ok_r ⟨by rw [← hnum]; rfl, rfl⟩
  · rw [if_neg q]
    by_cases q0 : rest ≤ 0
    · rw [if_pos q0]
      rw [show rest = 0 by omega, nbR_0] at hnum
      exact Ok_r ⟨by rw [← hnum]; rfl, rfl⟩
    · have hq := sq_lt (T := T) hs (show j < opnN T by omega)
      have hle := sum_sf (a := fun j => c (sqN T sd j)) (m := opnN T) (j := j) (by omega)
      rw [if_neg q0, nI_add, gd_n (by omega) (by decide), nI_clamp (by omega), hS j (by omega), gd_n (by omega) (by decide), nI_clamp (by omega), hc _ (by omega), pk_sub (by omega), ifLe (by omega) (by decide), i_1, nI_add]
      obtain ⟨r, hr⟩ : ∃ r, opnN T - j = r + 1 := ⟨opnN T - j - 1, by omega⟩
      rw [hr, nbR, show opnN T - (r + 1) = j by omega] at hnum
      by_cases qx : rest - c (sqN T sd j) ≤ 0
      · rw [if_pos qx]
        rw [if_neg (by omega), Nat.zero_add] at hnum
        exact hK (opnN T - (j + 1)) _ _ _ _ _ (by omega) ⟨j + 1, rest - c (sqN T sd j), num, rfl, rfl, rfl, rfl, rfl, by omega, rfl, by rw [sumF]; omega, by rw [show opnN T - (j + 1) = r by omega]; exact hnum⟩
      · rw [if_neg qx]
        rw [if_pos (by omega)] at hnum
        have hW : Wn (r + 1) (rest - c (sqN T sd j) - 1) ≤ 6000 := Nat.le_trans (Wn_mono (by omega) (by omega) (by omega)) h6
        rw [i_41, pk_sub (by omega), hr, pk_mul, nI_add, pk_sub (by omega), show (r + 1) * 41 + (rest - c (sqN T sd j)) - 1 = (r + 1) * 41 + (rest - c (sqN T sd j) - 1) by omega, gd_n (by omega) (by decide), nI_clamp (by omega), hw (r + 1) (by omega) _ (by omega), nI_add, Nat.min_eq_right (by omega)]
        exact hK (opnN T - (j + 1)) _ _ _ _ _ (by omega) ⟨j + 1, rest - c (sqN T sd j), num + Wn (r + 1) (rest - c (sqN T sd j) - 1), rfl, rfl, rfl, rfl, rfl, by omega, rfl, by rw [sumF]; omega, by rw [show opnN T - (j + 1) = r by omega]; omega⟩
/-! the reference -/
def OD (μ : Mu) (T : Nat → Nat) (s : Nat) : Prop := μ.1 171 31 = nI (opnN T) ∧ ∀ j, j < opnN T → μ.1 183 j = nI (sqN T s j)
def KO (μ μ' : Mu) : Prop := (∀ o, o ≠ 171 → o ≠ 183 → μ'.1 o = μ.1 o) ∧ μ'.2 = μ.2 ∧ (∀ k, k ≠ 31 → μ'.1 171 k = μ.1 171 k)
theorem seN_pS {sz s i : Nat} (hs : s < 2) (hi : i < 2 * sz) : (i + offN sz s) % (2 * sz) = pS sz s i := by
  obtain rfl | rfl : s = 0 ∨ s = 1 := by omega
  · rw [pS_0 hi]
    exact Nat.mod_eq_of_lt hi
  · show (i + sz) % (2 * sz) = pS sz 1 i
    by_cases c : i < sz
    · rw [pS_1a c, Nat.mod_eq_of_lt (by omega), Nat.add_comm]
    · rw [pS_1b (by omega), Nat.mod_eq_sub_mod (by omega), Nat.mod_eq_of_lt (by omega)]
      omega
theorem sees_s (n : Nat) (μ : Mu) {T : Nat → Nat} {s : Nat} (hB : BD T) (hT : TD μ T) (hs : s < 2) (hn : 1000 < n) : Ok (X12_sees n (nI s) μ) (fun _ μ' => OD μ' T s ∧ KO μ μ') := by
  obtain ⟨b1, b6, b3, bb⟩ := hB
  unfold X12_sees X12_sees_7
  rw [i_0]
  refine Ok_lp1 (fun k x2 μ' => ∃ i, i ≤ 2 * T 1 ∧ k = 2 * T 1 - i ∧ x2 = nI i ∧ μ'.1 171 31 = nI (opS T s i) ∧ (∀ j, j < opS T s i → μ'.1 183 j = nI (sqF T s i j)) ∧ KO μ μ') ?_ (2 * T 1) (by omega) ⟨0, by omega, by omega, rfl, si_a, fun j hj => absurd hj (by unfold opS sumF; omega), fun o o1 _ => si_o o1, rfl, fun k hk => si_c hk⟩
  rintro K k x2 μ' ⟨i, hi, rfl, rfl, ho, hq, k1, k2, k3⟩ hK
  have hT' : TD μ' T := TD_o hT (k1 172 (by decide) (by decide))
  unfold X12_sees_7b
  rw [bS (pitMany_s n μ' (hT' 1 (by decide)))]
  dsimp only
  rw [ifLe (by omega) (by omega)]
  by_cases q : 2 * T 1 ≤ i
  · obtain rfl : i = 2 * T 1 := by omega
    rw [if_pos q]
    rw [opS_all hs] at ho hq
    exact Ok_r ⟨⟨ho, hq⟩, k1, k2, k3⟩
  · have hol := opS_le (T := T) (s := s) i
    have hp := pS_lt (sz := T 1) (i := i) hs (by omega)
    have hoff := off_le (T 1) s
    have L30 : Ok (X12_sees_30 n (nI s) K (nI i) (nI i) (nI (offN (T 1) s)) μ') (fun _ μ' => OD μ' T s ∧ KO μ μ') := by
      unfold X12_sees_30 X12_sees_68
      rw [bS (pitMany_s n μ' (hT' 1 (by decide)))]
      dsimp only
      rw [dv_of (nI_ne0 (by omega) (by omega)), rem_s (nI_add _ _) (by omega) (by omega) (by omega), seN_pS hs (by omega), bS (isLacking_s n μ' (hT' 3 (by decide)) (by omega) (by omega)), i_1, nI_add]
      dsimp only
      cases e : (T 3).testBit (pS (T 1) s i) with
      | true =>
        have el : lkS T s i = true := e
        rw [if_neg (show ¬ b2i true = 0 by decide)]
        exact hK (2 * T 1 - (i + 1)) _ _ (by omega) ⟨i + 1, by omega, rfl, rfl, by rw [opS_s, el, if_pos rfl, Nat.add_zero]; exact ho, by rw [opS_s, sqF, el, if_pos rfl, if_pos rfl, Nat.add_zero]; exact hq, k1, k2, k3⟩
      | false =>
        have el : lkS T s i = false := e
        rw [if_pos (show b2i false = 0 from rfl), ho, gd_n (by omega) (by decide), nI_clamp (by omega), si_b (by decide), ho, nI_add]
        refine hK (2 * T 1 - (i + 1)) _ _ (by omega) ⟨i + 1, by omega, rfl, rfl, ?_, fun j hj => ?_, fun o o1 o2 => by rw [si_o o1, si_o o2, k1 o o1 o2], k2, fun k hk => by rw [si_c hk, si_b (by decide), k3 k hk]⟩
        · rw [si_a, opS_s, el, if_neg (by decide)]
        · rw [opS_s, el, if_neg (by decide)] at hj
          rw [sqF, el, if_neg (by decide), si_b (by decide)]
          by_cases z : j = opS T s i
          · rw [z, si_a, ups_a]
          · rw [si_c (by omega), ups_b z, hq j (by omega)]
    rw [if_neg q, i_0, ifEq (by omega) (by decide), hT' 1 (by decide)]
    by_cases c : s = 0
    · rw [if_pos c]
      rw [c] at L30 ⊢
      exact L30
    · rw [if_neg c]
      have : offN (T 1) s = T 1 := by unfold offN; rw [if_neg c]
      rw [this] at L30
      exact L30
theorem numberOfR_s (n : Nat) (μ : Mu) {T c : Nat → Nat} {s : Nat} (hB : BD T) (hT : TD μ T) (hs : s < 2) (hc : HD (T 1) μ c) (hz : ∀ p, p < 2 * T 1 → (T 3).testBit p = true → c p = 0) (h40 : sumF c (2 * T 1) ≤ 40) (hn : 1000 < n) : Ok (X12_numberOf n (nI s) μ) (fun a μ' => a = nI (nbT T c s) ∧ KO μ μ') := by
  have b6 := hB.2.1
  have hopl := opn_le (T := T)
  have hsum := sq_sum (T := T) (c := c) hs hz
  unfold X12_numberOf
  refine Ok_b (sees_s n μ hB hT hs hn) ?_
  rintro _ μ1 ⟨⟨ho, hq⟩, hk⟩
  dsimp only
  have hc1 : HD (T 1) μ1 c := fun p hp => by rw [hk.1 178 (by decide) (by decide)]; exact hc p hp
  unfold X12_numberOf_9
  rw [i_0]
  refine Ok_lp2 (fun k x2 x3 μ' => ∃ j, x2 = nI (sumF (fun j => c (sqN T s j)) j) ∧ x3 = nI j ∧ μ' = μ1 ∧ j ≤ opnN T ∧ k = opnN T - j) ?_ (opnN T) (by omega) ⟨0, rfl, rfl, rfl, by omega, rfl⟩
  rintro K k x2 x3 μ' ⟨j, rfl, rfl, rfl, hj, rfl⟩ hK
  unfold X12_numberOf_9b
  rw [ho, ifLe (by omega) (by omega)]
  by_cases q : opnN T ≤ j
  · obtain rfl : j = opnN T := by omega
    rw [if_pos q, hsum]
    unfold X12_numberOf_42
    rw [i_0]
    refine Ok_lp3 (fun k x2 x3 x5 μ2 => ∃ j rest num, x2 = nI rest ∧ x3 = lN num ∧ x5 = nI j ∧ μ2 = μ' ∧ j ≤ opnN T ∧ k = opnN T - j ∧ sumF (fun j => c (sqN T s j)) j + rest = sumF c (2 * T 1) ∧ num + nbR (fun j => c (sqN T s j)) (opnN T) (opnN T - j) rest = nbT T c s) ?_ (opnN T) (by omega) ⟨0, sumF c (2 * T 1), 0, rfl, rfl, rfl, rfl, by omega, rfl, Nat.zero_add _, by rw [Nat.zero_add]; rfl⟩
    rintro K2 k x2 x3 x5 μ2 ⟨j, rest, num, rfl, rfl, rfl, rfl, hj, rfl, hsm, hnum⟩ hK2
    unfold X12_numberOf_42b
    rw [ho, ifLe (by omega) (by omega)]
    by_cases q : opnN T ≤ j
    · rw [if_pos q, lN_i]
      rw [show opnN T - j = 0 by omega] at hnum
      exact Ok_r ⟨by rw [← hnum]; rfl, hk⟩
    · have hqj := sq_lt (T := T) hs (show j < opnN T by omega)
      have hle := sum_sf (a := fun j => c (sqN T s j)) (m := opnN T) (j := j) (by omega)
      obtain ⟨r, hr⟩ : ∃ r, opnN T - j = r + 1 := ⟨opnN T - j - 1, by omega⟩
      rw [hr, nbR, show opnN T - (r + 1) = j by omega] at hnum
      rw [if_neg q]
      unfold X12_numberOf_54
      refine Ok_lp4 (fun k x2 x3 x5 x6 μ3 => ∃ v, x2 = nI rest ∧ x3 = lN (num + sumF (Wn r) (rest - v)) ∧ x5 = nI j ∧ x6 = nI v ∧ μ3 = μ2 ∧ c (sqN T s j) ≤ v ∧ v ≤ rest ∧ k = v) ?_ rest (by omega) ⟨rest, rfl, by rw [Nat.sub_self]; rfl, rfl, rfl, rfl, by omega, by omega, rfl⟩
      rintro K3 k x2 x3 x5 x6 μ3 ⟨v, rfl, rfl, rfl, rfl, rfl, hv1, hv2, rfl⟩ hK3
      unfold X12_numberOf_54b
      rw [gd_n (by omega) (by decide), nI_clamp (by omega), hq j (by omega), gd_n (by omega) (by decide), nI_clamp (by omega), hc1 _ hqj.1, ifLe (by omega) (by omega), ho]
      by_cases qv : k ≤ c (sqN T s j)
      · obtain rfl : k = c (sqN T s j) := by omega
        rw [if_pos qv, pk_sub (by omega), i_1, nI_add]
        refine hK2 (opnN T - (j + 1)) _ _ _ _ (by omega) ⟨j + 1, rest - c (sqN T s j), num + sumF (Wn r) (rest - c (sqN T s j)), rfl, rfl, rfl, rfl, by omega, rfl, by rw [sumF]; omega, ?_⟩
        rw [show opnN T - (j + 1) = r by omega]
        by_cases z : 0 < rest - c (sqN T s j)
        · rw [if_pos z] at hnum
          obtain ⟨x, hx⟩ : ∃ x, rest - c (sqN T s j) = x + 1 := ⟨rest - c (sqN T s j) - 1, by omega⟩
          rw [hx, Nat.add_sub_cancel] at hnum
          rw [hx]
          have : Wn (r + 1) x = sumF (Wn r) (x + 1) := rfl
          omega
        · rw [if_neg z] at hnum
          rw [show rest - c (sqN T s j) = 0 by omega] at hnum ⊢
          have : sumF (Wn r) 0 = 0 := rfl
          omega
      · rw [if_neg qv, pk_sub (by omega), pk_sub (by omega), i_1, pk_sub (by omega), show opnN T - j - 1 = r by omega, bS (ways_s n μ3 (by omega) (by omega) hn)]
        dsimp only
        rw [lN_add, m1_add (by omega)]
        refine hK3 (k - 1) _ _ _ _ _ (by omega) ⟨k - 1, rfl, ?_, rfl, rfl, rfl, by omega, by omega, rfl⟩
        rw [show rest - (k - 1) = rest - k + 1 by omega, sumF, Nat.add_assoc]
  · have hqj := sq_lt (T := T) hs (show j < opnN T by omega)
    rw [if_neg q, gd_n (by omega) (by decide), nI_clamp (by omega), hq j (by omega), gd_n (by omega) (by decide), nI_clamp (by omega), hc1 _ hqj.1, nI_add, i_1, nI_add]
    exact hK (opnN T - (j + 1)) _ _ _ (by omega) ⟨j + 1, by rw [sumF], rfl, rfl, by omega, rfl⟩
