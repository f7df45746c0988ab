/-! the reference reads the next token -/
def TXR (μ : Mu) (b : Nat → Nat) (m : Nat) : Prop := m ≤ 500 ∧ μ.1 171 8 = nI m ∧ ∀ i, i < m → b i < 256 ∧ μ.1 177 i = nI (b i)
def KX2 (μ μ' : Mu) : Prop := (∀ o, o ≠ 171 → μ'.1 o = μ.1 o) ∧ μ'.2 = μ.2 ∧ ∀ k, (k < 9 ∨ 12 < k) → μ'.1 171 k = μ.1 171 k
theorem KX2.rf {μ : Mu} : KX2 μ μ := ⟨fun _ _ => rfl, rfl, fun _ _ => rfl⟩
theorem KX2.tr {μ μ1 μ2 : Mu} (h : KX2 μ μ1) (g : KX2 μ1 μ2) : KX2 μ μ2 := ⟨fun o q => by rw [g.1 o q, h.1 o q], by rw [g.2.1, h.2.1], fun k q => by rw [g.2.2 k q, h.2.2 k q]⟩
theorem KX2.s {μ μ1 : Mu} (h : KX2 μ μ1) {k : Nat} {v : Int32} (h9 : 9 ≤ k) (h12 : k ≤ 12) : KX2 μ (si μ1 171 k v) := ⟨fun o q => by rw [si_o q]; exact h.1 o q, h.2.1, fun j q => by rw [si_c (by omega)]; exact h.2.2 j q⟩
theorem TXR_k {μ μ' : Mu} {b : Nat → Nat} {m : Nat} (h : TXR μ b m) (k : KX2 μ μ') : TXR μ' b m := ⟨h.1, by rw [k.2.2 8 (by omega)]; exact h.2.1, fun i hi => by rw [k.1 177 (by decide)]; exact h.2.2 i hi⟩
theorem see_s (n : Nat) (μ : Mu) {b : Nat → Nat} {m i : Nat} (h : TXR μ b m) (hi : i ≤ m) : X12_see n (nI i) μ = some (nI (if i < m then b i else 0), μ) := by
  have h500 := h.1
  unfold X12_see X12_see_18
  rw [h.2.1, ifLe (by omega) (by omega)]
  by_cases c : m ≤ i
  · rw [if_pos c, if_neg (by omega)]; rfl
  · rw [if_neg c, gd_n (by omega) (by decide), nI_clamp (by omega), (h.2.2 i (by omega)).2, if_pos (by omega)]
theorem digR_s (n : Nat) (μ : Mu) {x : Nat} (hx : x < 256) : X12_isDigit n (nI x) μ = some (b2i (isD x), μ) := by
  unfold X12_isDigit X12_isDigit_16 X12_isDigit_17
  rw [i_48, i_57, ifLt (by omega) (by decide), ifLt (by decide) (by omega)]
  by_cases z : x < 48
  · rw [if_pos z, show isD x = false from decide_eq_false (by omega)]; rfl
  · rw [if_neg z]
    by_cases z2 : 57 < x
    · rw [if_pos z2, show isD x = false from decide_eq_false (by omega)]; rfl
    · rw [if_neg z2, show isD x = true from decide_eq_true (by omega)]; rfl
theorem letR_s (n : Nat) (μ : Mu) {x : Nat} (hx : x < 256) : X12_isLetter n (nI x) μ = some (b2i (isL x), μ) := by
  unfold X12_isLetter X12_isLetter_16 X12_isLetter_17
  rw [i_97, i_122, ifLt (by omega) (by decide), ifLt (by decide) (by omega)]
  by_cases z : x < 97
  · rw [if_pos z, show isL x = false from decide_eq_false (by omega)]; rfl
  · rw [if_neg z]
    by_cases z2 : 122 < x
    · rw [if_pos z2, show isL x = false from decide_eq_false (by omega)]; rfl
    · rw [if_neg z2, show isL x = true from decide_eq_true (by omega)]; rfl
theorem see_lt {μ : Mu} {b : Nat → Nat} {m i : Nat} (h : TXR μ b m) : (if i < m then b i else 0) < 256 := by
  by_cases c : i < m
  · rw [if_pos c]; exact (h.2.2 i c).1
  · rw [if_neg c]; decide
theorem see_g {b : Nat → Nat} {m q : Nat} {g : Nat → Bool} (h0 : g 0 = false) (e : g (if q < m then b q else 0) = true) : q < m ∧ g (b q) = true := by
  by_cases c : q < m
  · rw [if_pos c] at e; exact ⟨c, e⟩
  · rw [if_neg c, h0] at e; exact Bool.noConfusion e
theorem see_f {b : Nat → Nat} {m q : Nat} {g : Nat → Bool} (e : g (if q < m then b q else 0) = false) : q < m → g (b q) = false := by
  intro c
  rw [if_pos c] at e; exact e
theorem wordR_s (n : Nat) (μ : Mu) {b : Nat → Nat} {m s : Nat} (h : TXR μ b m) (hs : s ≤ m) (h9 : μ.1 171 9 = nI s) (hn : 1000 < n) : Ok (X12_reads_94 n μ) (fun _ μ' => KX2 μ μ' ∧ μ'.1 171 10 = μ.1 171 10 ∧ μ'.1 171 11 = nI 1 ∧ μ'.1 171 9 = nI (scE (fun x => isL (b x)) m s)) := by
  have h500 := h.1
  unfold X12_reads_94
  refine Ok_lp0 (fun f μ' => ∃ q, s ≤ q ∧ q ≤ m ∧ f = m - q ∧ KX2 μ μ' ∧ μ'.1 171 10 = μ.1 171 10 ∧ μ'.1 171 9 = nI q ∧ ∀ x, s ≤ x → x < q → isL (b x) = true) ?_ (m - s) (by omega) ⟨s, Nat.le_refl _, hs, rfl, KX2.rf, rfl, h9, fun x a c => by omega⟩
  rintro K f μ1 ⟨q, q1, q2, rfl, k1, a10, a9, hall⟩ hK
  have t1 := TXR_k h k1
  unfold X12_reads_94b X12_reads_262
  rw [a9, bS (see_s n μ1 t1 q2)]
  dsimp only
  rw [bS (letR_s n μ1 (see_lt t1))]
  dsimp only
  cases e : isL (if q < m then b q else 0) with
  | false =>
    have e1 : scE (fun x => isL (b x)) m s = q := sc_u q1 q2 hall (see_f (g := isL) e)
    rw [if_pos (show b2i false = 0 from rfl), e1]
    exact Ok_r ⟨k1.s (by decide) (by decide), by rw [si_c (by decide)]; exact a10, si_a, by rw [si_c (by decide)]; exact a9⟩
  | true =>
    obtain ⟨c, e2⟩ := see_g (g := isL) rfl e
    rw [if_neg (show ¬ b2i true = 0 by decide), a9, i_1, nI_add]
    refine hK (m - (q + 1)) _ (by omega) ⟨q + 1, by omega, by omega, rfl, k1.s (by decide) (by decide), by rw [si_c (by decide)]; exact a10, si_a, fun x x1 x2 => ?_⟩
    by_cases zz : x = q
    · rw [zz]; exact e2
    · exact hall x x1 (by omega)
theorem numR_s (n : Nat) (μ : Mu) {b : Nat → Nat} {m s : Nat} (h : TXR μ b m) (hs : s ≤ m) (h9 : μ.1 171 9 = nI s) (h10 : μ.1 171 10 = nI s) (h12 : μ.1 171 12 = 0) (hn : 1000 < n) : Ok (X12_reads_141 n μ) (fun _ μ' => KX2 μ μ' ∧ μ'.1 171 10 = nI s ∧ μ'.1 171 9 = nI (scE (fun x => isD (b x)) m s) ∧ (scE (fun x => isD (b x)) m s - s ≤ 3 → μ'.1 171 11 = nI 2 ∧ μ'.1 171 12 = nI (vlN b s (scE (fun x => isD (b x)) m s - s))) ∧ (¬ scE (fun x => isD (b x)) m s - s ≤ 3 → μ'.1 171 11 = nI 4)) := by
  have h500 := h.1
  unfold X12_reads_141
  refine Ok_lp0 (fun f μ' => ∃ q, s ≤ q ∧ q ≤ m ∧ f = m - q ∧ KX2 μ μ' ∧ μ'.1 171 10 = nI s ∧ μ'.1 171 9 = nI q ∧ (q - s ≤ 3 → μ'.1 171 12 = nI (vlN b s (q - s))) ∧ ∀ x, s ≤ x → x < q → isD (b x) = true) ?_ (m - s) (by omega) ⟨s, Nat.le_refl _, hs, rfl, KX2.rf, h10, h9, fun _ => by rw [Nat.sub_self]; exact h12, fun x a c => by omega⟩
  rintro K f μ1 ⟨q, q1, q2, rfl, k1, a10, a9, a12, hall⟩ hK
  have t1 := TXR_k h k1
  unfold X12_reads_141b X12_reads_196 X12_reads_231 X12_reads_262
  rw [a9, bS (see_s n μ1 t1 q2)]
  dsimp only
  rw [bS (digR_s n μ1 (see_lt t1))]
  dsimp only
  rw [a9, a10, pk_sub q1, i_3, ifLe (by omega) (by decide), ifLe (by decide) (by omega)]
  cases e : isD (if q < m then b q else 0) with
  | false =>
    have e1 : scE (fun x => isD (b x)) m s = q := sc_u q1 q2 hall (see_f (g := isD) e)
    rw [if_pos (show b2i false = 0 from rfl), e1]
    by_cases c : q - s ≤ 3
    · rw [if_pos c]
      exact Ok_r ⟨k1.s (by decide) (by decide), by rw [si_c (by decide)]; exact a10, by rw [si_c (by decide)]; exact a9, fun z => ⟨si_a, by rw [si_c (by decide)]; exact a12 z⟩, fun z => absurd c z⟩
    · rw [if_neg c]
      exact Ok_r ⟨k1.s (by decide) (by decide), by rw [si_c (by decide)]; exact a10, by rw [si_c (by decide)]; exact a9, fun z => absurd z c, fun _ => si_a⟩
  | true =>
    obtain ⟨c, e2⟩ := see_g (g := isD) rfl e
    have e3 := isD_t.mp e2
    have nx : ∀ x, s ≤ x → x < q + 1 → isD (b x) = true := fun x x1 x2 => by
      by_cases zz : x = q
      · rw [zz]; exact e2
      · exact hall x x1 (by omega)
    rw [if_neg (show ¬ b2i true = 0 by decide)]
    by_cases c3 : 3 ≤ q - s
    · rw [if_pos c3, si_c (by decide), a9, i_1, nI_add]
      exact hK (m - (q + 1)) _ (by omega) ⟨q + 1, by omega, by omega, rfl, (k1.s (by decide) (by decide)).s (by decide) (by decide), by rw [si_c (by decide), si_c (by decide)]; exact a10, si_a, fun z => by omega, nx⟩
    · rw [if_neg c3, gd_n (by omega) (by decide), nI_clamp (by omega), a12 (by omega), (t1.2.2 q c).2, i_10, pk_mul, nI_add, i_48, pk_sub (by omega), si_c (by decide), a9, i_1, nI_add]
      refine hK (m - (q + 1)) _ (by omega) ⟨q + 1, by omega, by omega, rfl, (k1.s (by decide) (by decide)).s (by decide) (by decide), by rw [si_c (by decide), si_c (by decide)]; exact a10, si_a, fun _ => ?_, nx⟩
      rw [si_c (by decide), si_a, show q + 1 - s = q - s + 1 by omega, vlN, show s + (q - s) = q by omega]
      congr 1
      omega
/-- the token at p is loaded in the reference -/
def TKR (μ : Mu) (b : Nat → Nat) (m p : Nat) : Prop := μ.1 171 11 = nI (tK b m p) ∧ μ.1 171 10 = nI (tS b m p) ∧ (tK b m p ≠ 4 → μ.1 171 9 = nI (tE b m p)) ∧ (tK b m p = 2 → μ.1 171 12 = nI (tV b m p))
theorem readsR_s (n : Nat) (μ : Mu) {b : Nat → Nat} {m p : Nat} (h : TXR μ b m) (hp : p ≤ m) (h9 : μ.1 171 9 = nI p) (hn : 1000 < n) : Ok (X12_reads n μ) (fun _ μ' => KX2 μ μ' ∧ TKR μ' b m p) := by
  have h500 := h.1
  unfold X12_reads X12_reads_0
  refine Ok_lp0 (fun f μ' => ∃ q, p ≤ q ∧ q ≤ m ∧ f = m - q ∧ KX2 μ μ' ∧ μ'.1 171 9 = nI q ∧ ∀ x, p ≤ x → x < q → isS (b x) = true) ?_ (m - p) (by omega) ⟨p, Nat.le_refl _, hp, rfl, KX2.rf, h9, fun x a c => by omega⟩
  rintro K f μ1 ⟨q, q1, q2, rfl, k1, a9, hall⟩ hK
  have t1 := TXR_k h k1
  have fin : (q < m → isS (b q) = false) → Ok (X12_reads_52 n μ1) (fun _ μ' => KX2 μ μ' ∧ TKR μ' b m p) := by
    intro hq
    have eS : tS b m p = q := sc_u q1 q2 hall hq
    have k2 : KX2 μ (si μ1 171 10 (nI q)) := k1.s (by decide) (by decide)
    have t2 := TXR_k h k2
    have b9 : (si μ1 171 10 (nI q)).1 171 9 = nI q := by rw [si_c (by decide)]; exact a9
    have b10 : (si μ1 171 10 (nI q)).1 171 10 = nI q := si_a
    unfold X12_reads_52 X12_reads_249 X12_reads_262
    rw [a9]
    generalize si μ1 171 10 (nI q) = μ2 at *
    rw [b9, t2.2.1, ifLt (by omega) (by omega)]
    by_cases c : q < m
    · obtain ⟨d1, d2⟩ := t2.2.2 q c
      rw [if_pos c, gd_n (by omega) (by decide), nI_clamp (by omega), d2, bS (letR_s n μ2 d1)]
      dsimp only
      cases eL : isL (b q) with
      | true =>
        have eD : isD (b q) = false := by
          cases e : isD (b q) with
          | false => rfl
          | true => rw [isDL e] at eL; exact Bool.noConfusion eL
        rw [if_neg (show ¬ b2i true = 0 by decide)]
        refine Ok_m (wordR_s n μ2 t2 (by omega) b9 hn) ?_
        rintro _ μ3 ⟨k3, c10, c11, c9⟩
        have ek : tK b m p = 1 := by unfold tK; rw [eS, if_neg (by omega), eD, if_neg (by decide), eL, if_pos rfl]
        have ee : tE b m p = scE (fun x => isL (b x)) m q := by unfold tE tW; rw [eS, if_neg (by omega), eD, if_neg (by decide), eL, if_pos rfl]
        exact ⟨k2.tr k3, by rw [ek]; exact c11, by rw [eS, c10]; exact b10, fun _ => by rw [ee]; exact c9, fun z4 => by rw [ek] at z4; omega⟩
      | false =>
        rw [if_pos (show b2i false = 0 from rfl), bS (digR_s n μ2 d1)]
        dsimp only
        cases eD : isD (b q) with
        | true =>
          rw [if_neg (show ¬ b2i true = 0 by decide)]
          have k3 : KX2 μ (si μ2 171 12 0) := k2.s (by decide) (by decide)
          refine Ok_m (numR_s n (si μ2 171 12 0) (TXR_k h k3) (s := q) (by omega) (by rw [si_c (by decide)]; exact b9) (by rw [si_c (by decide)]; exact b10) si_a hn) ?_
          rintro _ μ4 ⟨k4, c10, c9, c1, c2⟩
          have ek : tK b m p = if tD b m p - tS b m p ≤ 3 then 2 else 4 := by unfold tK; rw [eS, if_neg (by omega), eD, if_pos rfl]
          have ed : tD b m p = scE (fun x => isD (b x)) m q := by unfold tD; rw [eS]
          have ee : tE b m p = tD b m p := by unfold tE; rw [eS, if_neg (by omega), eD, if_pos rfl]
          rw [ed, eS] at ek
          by_cases z : scE (fun x => isD (b x)) m q - q ≤ 3
          · obtain ⟨e1, e2⟩ := c1 z
            rw [if_pos z] at ek
            exact ⟨k3.tr k4, by rw [ek]; exact e1, by rw [eS]; exact c10, fun _ => by rw [ee, ed]; exact c9, fun _ => by unfold tV; rw [ed, eS]; exact e2⟩
          · rw [if_neg z] at ek
            exact ⟨k3.tr k4, by rw [ek]; exact c2 z, by rw [eS]; exact c10, fun z4 => absurd ek z4, fun z4 => by rw [ek] at z4; omega⟩
        | false =>
          have ee : tE b m p = q + 1 := by unfold tE; rw [eS, if_neg (by omega), eD, if_neg (by decide), eL, if_neg (by decide)]
          rw [if_pos (show b2i false = 0 from rfl), i_59, ifEq (by omega) (by decide)]
          by_cases z : b q = 59
          · have ek : tK b m p = 3 := by unfold tK; rw [eS, if_neg (by omega), eD, if_neg (by decide), eL, if_neg (by decide), if_pos z]
            rw [if_pos z, si_c (by decide), b9, i_1, nI_add]
            exact Ok_r ⟨(k2.s (by decide) (by decide)).s (by decide) (by decide), by rw [ek, si_c (by decide), si_a]; rfl, by rw [eS, si_c (by decide), si_c (by decide)]; exact b10, fun _ => by rw [ee, si_a], fun z4 => by rw [ek] at z4; omega⟩
          · have ek : tK b m p = 4 := by unfold tK; rw [eS, if_neg (by omega), eD, if_neg (by decide), eL, if_neg (by decide), if_neg z]
            rw [if_neg z]
            exact Ok_r ⟨(k2.s (by decide) (by decide)).s (by decide) (by decide), by rw [ek, si_c (by decide), si_a]; rfl, by rw [eS, si_c (by decide), si_c (by decide)]; exact b10, fun z4 => absurd ek z4, fun z4 => by rw [ek] at z4; omega⟩
    · have ek : tK b m p = 0 := by unfold tK; rw [eS, if_pos (by omega)]
      have ee : tE b m p = q := by unfold tE; rw [eS, if_pos (by omega)]
      rw [if_neg c]
      exact Ok_r ⟨k2.s (by decide) (by decide), by rw [ek, si_a]; rfl, by rw [eS, si_c (by decide)]; exact b10, fun _ => by rw [ee, si_c (by decide)]; exact b9, fun z4 => by rw [ek] at z4; omega⟩
  unfold X12_reads_0b X12_reads_39
  rw [t1.2.1, a9, ifLe (by omega) (by omega)]
  by_cases c : m ≤ q
  · rw [if_pos c]; exact fin (fun z => by omega)
  · obtain ⟨d1, d2⟩ := t1.2.2 q (by omega)
    rw [if_neg c, gd_n (by omega) (by decide), nI_clamp (by omega), d2, i_32, i_10, ifEq (by omega) (by decide), ifEq (by omega) (by decide)]
    have nxt : isS (b q) = true → Ok (K (si μ1 171 9 (nI q + (1 : Int32)))) (fun _ μ' => KX2 μ μ' ∧ TKR μ' b m p) := by
      intro e
      rw [i_1, nI_add]
      refine hK (m - (q + 1)) _ (by omega) ⟨q + 1, by omega, by omega, rfl, k1.s (by decide) (by decide), si_a, fun x x1 x2 => ?_⟩
      by_cases zz : x = q
      · rw [zz]; exact e
      · exact hall x x1 (by omega)
    by_cases z1 : b q = 32
    · rw [if_pos z1]; exact nxt (isS_t.mpr (Or.inr z1))
    · rw [if_neg z1]
      by_cases z2 : b q = 10
      · rw [if_pos z2]; exact nxt (isS_t.mpr (Or.inl z2))
      · rw [if_neg z2]
        exact fin (fun _ => by
          cases e : isS (b q) with
          | false => rfl
          | true => rcases isS_t.mp e with w | w
                    · exact absurd w z2
                    · exact absurd w z1)
