/-! the reference's taking -/
def HD (sz : Nat) (μ : Mu) (c : Nat → Nat) : Prop := ∀ p, p < 2 * sz → μ.1 178 p = nI (c p)
def TD (μ : Mu) (T : Nat → Nat) : Prop := ∀ k, k < 25 → μ.1 172 k = nI (T k)
theorem HD_si {sz : Nat} {μ : Mu} {k v : Nat} {c : Nat → Nat} (h : HD sz μ c) : HD sz (si μ 178 k (nI v)) (ups c k v) := by
  intro x hx
  by_cases q : x = k
  · rw [q, si_a, ups_a]
  · rw [si_c q, ups_b q, h x hx]
theorem HD_so {sz : Nat} {μ : Mu} {o k : Nat} {v : Int32} {c : Nat → Nat} (h : HD sz μ c) (ho : 178 ≠ o) : HD sz (si μ o k v) c := by
  intro x hx
  rw [si_b ho, h x hx]
theorem HD_cg {sz : Nat} {μ : Mu} {c c' : Nat → Nat} (h : HD sz μ c) (e : ∀ p, p < 2 * sz → c p = c' p) : HD sz μ c' := by
  intro x hx
  rw [h x hx, e x hx]
theorem sum_d (n : Nat) (μ : Mu) {sz side : Nat} {hd : Nat → Nat} (hz : μ.1 172 1 = nI sz) (h6 : sz ≤ 6) (hs : side < 2) (hh : HD sz μ hd) (hn : 2 * sz < n) :
    X12_sum n (nI side) μ = some (nI (sumF (fun p => if sdN sz p = side then hd p else 0) (2 * sz)), μ) := by
  unfold X12_sum X12_sum_4
  refine lpF_run (fun _ _ _ => none) (X12_sum_4b n (nI side)) (fun k (x : Int32 × Int32) => k x.1 x.2 μ) (fun i => (nI (sumF (fun p => if sdN sz p = side then hd p else 0) i), nI i)) (2 * sz) _ (fun i hi k => ?_) (fun k => ?_) n hn
  · dsimp only
    rw [X12_sum_4b, bS (pitMany_s n μ hz)]
    dsimp only
    rw [if_neg (fun q => absurd ((nI_leI (by omega) (by omega)).mp q) (by omega)), bS (sideOf_d n μ hz h6 (show i < 2 ^ 31 by omega))]
    dsimp only
    unfold X12_sum_32
    by_cases h : sdN sz i = side
    · rw [if_pos (by rw [← h]), gd_n (by omega) (by decide), nI_clamp (by omega), hh i (by omega), nI_add, nI_1]
      simp only [sumF, if_pos h]
    · rw [if_neg (fun q => h ((nI_eq (a := sdN sz i) (Nat.lt_trans (sdN_lt sz i) (by decide)) (by omega)).mp q)), show (0 : Int32) = nI 0 from rfl, nI_add, nI_1]
      simp only [sumF, if_neg h]
  · dsimp only
    rw [X12_sum_4b, bS (pitMany_s n μ hz)]
    dsimp only
    rw [if_pos ((nI_leI (by omega) (by omega)).mpr (Nat.le_refl _))]
theorem gnd_sk {ok : Nat → Bool} {c : Nat → Nat} {lo a : Nat} : ∀ b, a ≤ b → (∀ x, a ≤ x → x < b → lo ≤ x ∧ ok x = true ∧ c x = 0) → gnd ok lo b = gnd ok lo a ∧ gsm ok c lo b = gsm ok c lo a := by
  intro b
  induction b with
  | zero => intro h _; rw [show a = 0 by omega]; exact ⟨rfl, rfl⟩
  | succ b ih =>
    intro h hx
    by_cases q : a = b + 1
    · rw [q]; exact ⟨rfl, rfl⟩
    · obtain ⟨z1, z2, z3⟩ := hx b (by omega) (by omega)
      obtain ⟨i1, i2⟩ := ih (by omega) (fun x x1 x2 => hx x x1 (by omega))
      rw [gnd, gsm, if_pos ⟨z1, z2⟩, if_pos ⟨z1, z2⟩, z3, Nat.zero_add]
      exact ⟨i1, i2⟩
theorem sd_off {sz s p : Nat} (hs : s < 2) (hp : p < 2 * sz) : sdN sz p = s ↔ offN sz s ≤ p ∧ p < offN sz s + sz := by
  unfold sdN offN
  split <;> split <;> omega
/-- the pit ahead: all between are lacking -/
theorem ahN_p {sz lac p : Nat} : ∀ q, q ≤ p → (∃ a, ahN sz lac p q = some a ∧ a < q ∧ sdN sz a = sdN sz p ∧ lac.testBit a = false ∧ ∀ x, a < x → x < q → lac.testBit x = true ∧ sdN sz x = sdN sz p) ∨ (ahN sz lac p q = none ∧ ∀ x, x < q → sdN sz x = sdN sz p → lac.testBit x = true ∨ ∃ y, x < y ∧ y < q ∧ sdN sz y ≠ sdN sz p) := by
  intro q
  induction q with
  | zero => intro _; exact Or.inr ⟨rfl, fun x hx => by omega⟩
  | succ q ih =>
    intro hq
    rw [ahN]
    by_cases c : sdN sz q = sdN sz p
    · rw [if_pos c]
      cases e : lac.testBit q with
      | true =>
        rw [if_pos rfl]
        rcases ih (by omega) with ⟨a, a1, a2, a3, a4, a5⟩ | ⟨a1, a2⟩
        · refine Or.inl ⟨a, a1, by omega, a3, a4, fun x x1 x2 => ?_⟩
          by_cases z : x = q
          · rw [z]; exact ⟨e, c⟩
          · exact a5 x x1 (by omega)
        · refine Or.inr ⟨a1, fun x x1 x2 => ?_⟩
          by_cases z : x = q
          · rw [z]; exact Or.inl e
          · rcases a2 x (by omega) x2 with w | ⟨y, y1, y2, y3⟩
            · exact Or.inl w
            · exact Or.inr ⟨y, y1, by omega, y3⟩
      | false =>
        rw [if_neg (by decide)]
        exact Or.inl ⟨q, rfl, by omega, c, e, fun x x1 x2 => by omega⟩
    · rw [if_neg c]
      refine Or.inr ⟨rfl, fun x x1 x2 => ?_⟩
      by_cases z : x = q
      · rw [z] at x2; exact absurd x2 c
      · exact Or.inr ⟨q, by omega, by omega, c⟩
theorem fa_or (a b : Nat) : nI a ||| nI b = nI (a ||| b) := by
  apply Int32.toBitVec_inj.1
  show BitVec.ofNat 32 a ||| BitVec.ofNat 32 b = BitVec.ofNat 32 (a ||| b)
  apply BitVec.eq_of_getLsbD_eq
  intro i hi
  simp [hi]
theorem set_bit {S p : Nat} (hp : p < 12) : nI S ||| (nI 1 <<< (nI p &&& (31 : Int32))) = nI (S ||| 2 ^ p) := by
  rw [pk_shlN _ p (sh_l p (by omega)) (by rw [Nat.one_mul]; exact Nat.lt_of_lt_of_le (Nat.pow_lt_pow_right (by decide) hp) (by decide)), Nat.one_mul, fa_or]
theorem sum_row (n : Nat) (μ : Mu) {sz s : Nat} {c : Nat → Nat} (t1 : μ.1 172 1 = nI sz) (b6 : sz < 7) (hs : s < 2) (hc : HD sz μ c) (hn : 12 < n) : X12_sum n (nI s) μ = some (nI (rowN c (offN sz s) sz), μ) := by
  have hlo := off_le sz s
  rw [sum_d n μ t1 (by omega) hs hc (by omega)]
  refine congrArg (fun x => some (nI x, μ)) ?_
  have key : ∀ k, k ≤ sz → sumF (fun p => if sdN sz p = s then c p else 0) (offN sz s + k) = rowN c (offN sz s) k := by
    intro k
    induction k with
    | zero =>
      intro _
      have z : ∀ m, m ≤ offN sz s → sumF (fun p => if sdN sz p = s then c p else 0) m = 0 := by
        intro m
        induction m with
        | zero => intro _; rfl
        | succ m ih => intro hm; rw [sumF, ih (by omega), if_neg (fun q => absurd ((sd_off hs (by omega)).mp q) (by omega))]
      exact z _ (Nat.le_refl _)
    | succ k ih =>
      intro hk
      rw [← Nat.add_assoc, sumF, ih (by omega), if_pos ((sd_off hs (by omega)).mpr (by omega))]
      rfl
  have key2 : ∀ k, offN sz s + sz + k ≤ 2 * sz → sumF (fun p => if sdN sz p = s then c p else 0) (offN sz s + sz + k) = rowN c (offN sz s) sz := by
    intro k
    induction k with
    | zero => intro _; exact key sz (Nat.le_refl _)
    | succ k ih => intro hk; rw [← Nat.add_assoc, sumF, ih (by omega), if_neg (fun q => absurd ((sd_off hs (by omega)).mp q) (by omega))]; rfl
  have := key2 (2 * sz - (offN sz s + sz)) (by omega)
  rw [show offN sz s + sz + (2 * sz - (offN sz s + sz)) = 2 * sz by omega] at this
  exact this
def cls (c : Nat → Nat) (S x : Nat) : Nat → Nat := fun p => if p < x ∧ S.testBit p = true then 0 else c p
theorem cls_t {c : Nat → Nat} {S x p : Nat} (h : p < x ∧ S.testBit p = true) : cls c S x p = 0 := if_pos h
theorem cls_f {c : Nat → Nat} {S x p : Nat} (h : ¬ (p < x ∧ S.testBit p = true)) : cls c S x p = c p := if_neg h
theorem takes_s (n : Nat) (μ : Mu) {T c : Nat → Nat} {s l b : Nat} (hB : BD T) (hT : TD μ T) (hs : s < 2) (hl : l < 2 * T 1) (hlk : (T 3).testBit l = false) (h18 : μ.1 171 18 = nI l) (h20 : μ.1 171 20 = nI 0) (hc : HD (T 1) μ c) (hb : c l = b + 1) (hb2 : sumF c 14 < 1000) (hz : ∀ p, p < 12 → (T 3).testBit p = true → c p = 0) (hn : 1000 < n) :
    Ok (X12_takes n (nI s) (nI b) μ) (fun _ μ' => (∀ o, o ≠ 171 → o ≠ 178 → μ'.1 o = μ.1 o) ∧ μ'.2 = μ.2 ∧ (∀ k, k ≠ 20 → μ'.1 171 k = μ.1 171 k) ∧ μ'.1 171 20 = nI (if sdN (T 1) l = s then tkO T s c l else tkG T s c l).1 ∧ HD (T 1) μ' (if sdN (T 1) l = s then tkO T s c l else tkG T s c l).2) := by
  have hB' := hB
  obtain ⟨b1, b6, b3, b4, b5, bR, b7, b8, b9, b10, b87⟩ := hB'
  have t1 : μ.1 172 1 = nI (T 1) := hT 1 (by decide)
  have t3 : μ.1 172 3 = nI (T 3) := hT 3 (by decide)
  have t7 : μ.1 172 7 = nI (T 7) := hT 7 (by decide)
  have t8 : μ.1 172 8 = nI (T 8) := hT 8 (by decide)
  have hcl := sum_le (c := c) 14 l (by omega)
  have hcf := sum_le (c := c) 14 (2 * T 1 - 1 - l) (by omega)
  have hlo := off_le (T 1) (1 - s)
  have hsd2 := sdN_lt (T 1) l
  have noth : ∀ x : Nat × (Nat → Nat), x = (0, c) → (∀ o, o ≠ 171 → o ≠ 178 → μ.1 o = μ.1 o) ∧ μ.2 = μ.2 ∧ (∀ k, k ≠ 20 → μ.1 171 k = μ.1 171 k) ∧ μ.1 171 20 = nI x.1 ∧ HD (T 1) μ x.2 := by
    intro x e
    rw [e]
    exact ⟨fun _ _ _ => rfl, rfl, fun _ _ => rfl, h20, hc⟩
  unfold X12_takes X12_takes_56 X12_takes_253
  rw [t7, h18, i_1, i_2, ifEq (by omega) (by decide), ifEq (by omega) (by decide)]
  by_cases c7 : T 7 = 1
  · rw [if_pos c7, bS (pitMany_s n μ t1)]
    dsimp only
    rw [h18, bS (sideOf_d n μ t1 (by omega) (show l < 2 ^ 31 by omega))]
    dsimp only
    rw [ifEq (by omega) (by omega), i_0, ifLt (by decide) (by omega), pk_sub (by omega), pk_sub (by omega)]
    by_cases co : sdN (T 1) l = s
    · rw [if_pos co, if_pos co]
      by_cases c0 : 0 < b
      · rw [if_pos c0]
        exact Ok_r (noth _ (by unfold tkO; rw [if_neg (by omega)]))
      · rw [if_neg c0, bS (isLacking_s n μ t3 (by omega) (by omega))]
        dsimp only
        cases ek : (T 3).testBit (2 * T 1 - 1 - l) with
        | true =>
          rw [if_neg (by decide)]
          exact Ok_r (noth _ (by unfold tkO; rw [if_neg (fun q => q.2.2 (hz _ (by omega) ek))]))
        | false =>
          rw [if_pos (show b2i false = nI 0 from rfl), gd_n (by omega) (by decide), nI_clamp (by omega), hc _ (by omega), ifEq (by omega) (by decide), h18]
          by_cases cf : c (2 * T 1 - 1 - l) = 0
          · rw [if_pos cf]
            exact Ok_r (noth _ (by unfold tkO; rw [if_neg (fun q => q.2.2 cf)]))
          · rw [if_neg cf, gd_n (by omega) (by decide), nI_clamp (by omega), hc l (by omega), nI_add, si_b (by decide), si_c (by decide), h18, gd_n (by omega) (by decide), nI_clamp (by omega)]
            refine Ok_r ⟨fun o o1 o2 => by rw [si_o o2, si_o o2, si_o o1], rfl, fun k hk => by rw [si_b (by decide), si_b (by decide), si_c hk], ?_, ?_⟩
            · rw [si_b (by decide), si_b (by decide), si_a]
              unfold tkO
              rw [if_pos ⟨c7, by omega, cf⟩, show c l = 1 by omega]
            · refine HD_cg (HD_si (HD_si (HD_so hc (by decide)))) (fun p hp => ?_)
              unfold tkO
              rw [if_pos ⟨c7, by omega, cf⟩]
              dsimp only
              rw [ups_b (j := 12 + s) (by omega)]
    · rw [if_neg co, if_neg co]
      exact Ok_r (noth _ (by unfold tkG; rw [if_neg (by omega)]))
  · rw [if_neg c7]
    by_cases c2 : T 7 = 2
    · rw [if_pos c2]
      -- the end: what is taken
      have L187 : ∀ (S a : Nat), a < 1000 → S < 2 ^ 31 → ((T 8 = 1 ∧ a = rowN c (offN (T 1) (1 - s)) (T 1)) → (if sdN (T 1) l = s then tkO T s c l else tkG T s c l) = (0, c)) → (¬ (T 8 = 1 ∧ a = rowN c (offN (T 1) (1 - s)) (T 1)) → (if sdN (T 1) l = s then tkO T s c l else tkG T s c l).1 = a ∧ ∀ p, p < 2 * T 1 → (if sdN (T 1) l = s then tkO T s c l else tkG T s c l).2 p = cls c S (2 * T 1) p) → Ok (X12_takes_187 n (nI s) (nI b) (nI S) (nI a) μ) (fun _ μ' => (∀ o, o ≠ 171 → o ≠ 178 → μ'.1 o = μ.1 o) ∧ μ'.2 = μ.2 ∧ (∀ k, k ≠ 20 → μ'.1 171 k = μ.1 171 k) ∧ μ'.1 171 20 = nI (if sdN (T 1) l = s then tkO T s c l else tkG T s c l).1 ∧ HD (T 1) μ' (if sdN (T 1) l = s then tkO T s c l else tkG T s c l).2) := by
        intro S a ha hS hyes hno
        have hsum := sum_row n μ t1 b6 (show 1 - s < 2 by omega) hc (by omega)
        have hrow : rowN c (offN (T 1) (1 - s)) (T 1) < 1000 := by
          have q1 := row_b (c := c) (b := offN (T 1) (1 - s)) (T 1)
          have q2 := sum_mo (c := c) 14 (show offN (T 1) (1 - s) + T 1 ≤ 14 by omega)
          omega
        have L211 : ¬ (T 8 = 1 ∧ a = rowN c (offN (T 1) (1 - s)) (T 1)) → Ok (X12_takes_211 n (nI s) (nI b) (nI S) (nI a) μ) (fun _ μ' => (∀ o, o ≠ 171 → o ≠ 178 → μ'.1 o = μ.1 o) ∧ μ'.2 = μ.2 ∧ (∀ k, k ≠ 20 → μ'.1 171 k = μ.1 171 k) ∧ μ'.1 171 20 = nI (if sdN (T 1) l = s then tkO T s c l else tkG T s c l).1 ∧ HD (T 1) μ' (if sdN (T 1) l = s then tkO T s c l else tkG T s c l).2) := by
          intro hne
          obtain ⟨e1, e2⟩ := hno hne
          unfold X12_takes_211 X12_takes_220
          rw [i_0]
          refine Ok_lp2 (fun k x3 x5 μ' => ∃ x, x ≤ 2 * T 1 ∧ k = 2 * T 1 - x ∧ x3 = nI S ∧ x5 = nI x ∧ (∀ o, o ≠ 171 → o ≠ 178 → μ'.1 o = μ.1 o) ∧ μ'.2 = μ.2 ∧ (∀ k, k ≠ 20 → μ'.1 171 k = μ.1 171 k) ∧ μ'.1 171 20 = nI a ∧ HD (T 1) μ' (cls c S x)) ?_ (2 * T 1) (by omega) ⟨0, by omega, by omega, rfl, rfl, fun o o1 o2 => si_o o1, rfl, fun k hk => si_c hk, si_a, HD_cg (HD_so hc (by decide)) (fun p hp => by rw [cls_f (by omega)])⟩
          rintro K k x3 x5 μ' ⟨x, hx, rfl, rfl, rfl, k1, k2, k3, k4, k5⟩ hK
          have t1' : μ'.1 172 1 = nI (T 1) := by rw [k1 172 (by decide) (by decide), t1]
          unfold X12_takes_220b X12_takes_253 X12_takes_247
          rw [bS (pitMany_s n μ' t1')]
          dsimp only
          rw [ifLe (by omega) (by omega)]
          by_cases q : 2 * T 1 ≤ x
          · obtain rfl : x = 2 * T 1 := by omega
            rw [if_pos q]
            exact Ok_r ⟨k1, k2, k3, by rw [k4, e1], HD_cg k5 (fun p hp => (e2 p hp).symm)⟩
          · rw [if_neg q, i_1, nI_add]
            have bs := bit_s (lac := S) (p := x) hS (by omega)
            rw [i_1] at bs
            by_cases qb : S.testBit x = true
            · rw [if_pos (bs.mpr qb), gd_n (by omega) (by decide), nI_clamp (by omega), i_0]
              refine hK (2 * T 1 - (x + 1)) _ _ _ (by omega) ⟨x + 1, by omega, rfl, rfl, rfl, fun o o1 o2 => by rw [si_o o2, k1 o o1 o2], k2, fun k hk => by rw [si_b (by decide), k3 k hk], by rw [si_b (by decide), k4], HD_cg (HD_si k5) (fun p hp => ?_)⟩
              by_cases z : p = x
              · rw [z, ups_a, cls_t ⟨by omega, qb⟩]
              · rw [ups_b z]
                by_cases z2 : p < x ∧ S.testBit p = true
                · rw [cls_t z2, cls_t ⟨by omega, z2.2⟩]
                · rw [cls_f z2, cls_f (fun z3 => z2 ⟨by omega, z3.2⟩)]
            · rw [if_neg (fun z => qb (bs.mp z))]
              refine hK (2 * T 1 - (x + 1)) _ _ _ (by omega) ⟨x + 1, by omega, rfl, rfl, rfl, k1, k2, k3, k4, HD_cg k5 (fun p hp => ?_)⟩
              by_cases z2 : p < x ∧ S.testBit p = true
              · rw [cls_t z2, cls_t ⟨by omega, z2.2⟩]
              · rw [cls_f z2, cls_f (fun z3 => z2 ⟨by
                  by_cases z4 : p = x
                  · rw [z4] at z3; exact absurd z3.2 qb
                  · omega, z3.2⟩)]
        unfold X12_takes_187
        rw [t8, i_1, ifEq (by omega) (by decide), pk_sub (by omega)]
        by_cases q8 : T 8 = 1
        · rw [if_pos q8, bS hsum]
          dsimp only
          rw [ifEq (by omega) (by omega)]
          by_cases qa : a = rowN c (offN (T 1) (1 - s)) (T 1)
          · rw [if_pos qa]
            exact Ok_r (noth _ (hyes ⟨q8, qa⟩))
          · rw [if_neg qa]
            exact L211 (fun z => qa z.2)
        · rw [if_neg q8]
          exact L211 (fun z => q8 z.1)
      unfold X12_takes_119
      by_cases co : sdN (T 1) l = s
      · obtain ⟨m, rfl⟩ : ∃ m, n = m + 1 := ⟨n - 1, by omega⟩
        rw [lpF_s]
        unfold X12_takes_119b
        rw [i_1, if_neg (fun q => (eq_m1 (by omega)).mp q), bS (sideOf_d (m + 1) μ t1 (by omega) (show l < 2 ^ 31 by omega))]
        dsimp only
        rw [if_pos (by rw [co]), i_0]
        have tk0 : tkO T s c l = (0, c) := by unfold tkO; rw [if_neg (by omega)]
        refine L187 0 0 (by omega) (by decide) (fun _ => by rw [if_pos co, tk0]) (fun _ => by rw [if_pos co, tk0]; exact ⟨rfl, fun p hp => by rw [cls_f (by simp)]⟩)
      · -- the walk backward
        have hopp : sdN (T 1) l = 1 - s := by omega
        have hrow := (sd_off (show 1 - s < 2 by omega) hl).mp hopp
        have hok : ∀ x, (T 3).testBit x = true → gok T c x = true := fun x hx => by unfold gok; rw [hx]; rfl
        have hno : ∀ x, (T 3).testBit x = false → c x ≠ 2 → c x ≠ 3 → gok T c x = false := fun x h1 h2 h3 => by unfold gok; rw [h1, decide_eq_false h2, decide_eq_false h3]; rfl
        have fin : ∀ q S a, q ≤ l + 1 → offN (T 1) (1 - s) ≤ q → S < 2 ^ 12 → a + gsm (gok T c) c (offN (T 1) (1 - s)) q = gsm (gok T c) c (offN (T 1) (1 - s)) (l + 1) → gnd (gok T c) (offN (T 1) (1 - s)) q = gnd (gok T c) (offN (T 1) (1 - s)) (l + 1) → (∀ x, S.testBit x = true ↔ q ≤ x ∧ x ≤ l ∧ (T 3).testBit x = false) → gnd (gok T c) (offN (T 1) (1 - s)) q = q → gsm (gok T c) c (offN (T 1) (1 - s)) q = 0 → Ok (X12_takes_187 n (nI s) (nI b) (nI S) (nI a) μ) (fun _ μ' => (∀ o, o ≠ 171 → o ≠ 178 → μ'.1 o = μ.1 o) ∧ μ'.2 = μ.2 ∧ (∀ k, k ≠ 20 → μ'.1 171 k = μ.1 171 k) ∧ μ'.1 171 20 = nI (if sdN (T 1) l = s then tkO T s c l else tkG T s c l).1 ∧ HD (T 1) μ' (if sdN (T 1) l = s then tkO T s c l else tkG T s c l).2) := by
          intro q S a hq hq2 hS ha hg hbits he hsm0
          have hsm : gsm (gok T c) c (offN (T 1) (1 - s)) (l + 1) < 1000 := by
            have q1 := gsm_b (ok := gok T c) (c := c) (lo := offN (T 1) (1 - s)) (l + 1)
            have q2 := sum_mo (c := c) 14 (show l + 1 ≤ 14 by omega)
            omega
          refine L187 S a (by omega) (by omega) (fun z => ?_) (fun z => ?_)
          · rw [if_neg co]
            unfold tkG
            rw [if_pos c2, if_pos ⟨z.1, by rw [← ha, hsm0, Nat.add_zero]; exact z.2⟩]
          · rw [if_neg co]
            unfold tkG
            rw [if_pos c2, if_neg (fun z2 => z ⟨z2.1, by rw [← ha, hsm0, Nat.add_zero] at z2; exact z2.2⟩)]
            refine ⟨by dsimp only; omega, fun p hp => ?_⟩
            dsimp only
            rw [ups_b (by omega), ← hg, he]
            unfold clr
            by_cases z2 : q ≤ p ∧ p ≤ l
            · rw [if_pos z2]
              cases ek : (T 3).testBit p with
              | false => rw [cls_t ⟨by omega, (hbits p).mpr ⟨z2.1, z2.2, ek⟩⟩]
              | true =>
                rw [cls_f (fun z3 => by
                  have := ((hbits p).mp z3.2).2.2
                  rw [ek] at this
                  exact absurd this (by decide)), hz p (by omega) ek]
            · rw [if_neg z2, cls_f (fun z3 => z2 ⟨((hbits p).mp z3.2).1, ((hbits p).mp z3.2).2.1⟩)]
        rw [i_0]
        refine Ok_lp3 (fun k x3 x4 x5 μ' => ∃ q S a, μ' = μ ∧ x3 = nI S ∧ x4 = nI a ∧ k = q ∧ q ≤ l + 1 ∧ offN (T 1) (1 - s) ≤ q ∧ S < 2 ^ 12 ∧ a + gsm (gok T c) c (offN (T 1) (1 - s)) q = gsm (gok T c) c (offN (T 1) (1 - s)) (l + 1) ∧ gnd (gok T c) (offN (T 1) (1 - s)) q = gnd (gok T c) (offN (T 1) (1 - s)) (l + 1) ∧ (∀ x, S.testBit x = true ↔ q ≤ x ∧ x ≤ l ∧ (T 3).testBit x = false) ∧ ((x5 = -nI 1 ∧ q = offN (T 1) (1 - s)) ∨ (offN (T 1) (1 - s) < q ∧ x5 = nI (q - 1) ∧ (T 3).testBit (q - 1) = false))) ?_ (l + 1) (by omega) ⟨l + 1, 0, 0, rfl, rfl, rfl, rfl, Nat.le_refl _, by omega, by decide, Nat.zero_add _, rfl, fun x => ⟨fun z => by simp at z, fun z => by omega⟩, Or.inr ⟨by omega, rfl, hlk⟩⟩
        rintro K k x3 x4 x5 μ' ⟨q, S, a, rfl, rfl, rfl, rfl, hq, hq2, hS, ha, hg, hbits, h5⟩ hK
        unfold X12_takes_119b
        rw [i_1]
        rcases h5 with ⟨rfl, rfl⟩ | ⟨q3, rfl, q4⟩
        · rw [if_pos rfl]
          exact fin _ S a hq hq2 hS ha hg hbits (gnd_lo (Nat.le_refl _)) (gsm_lo (Nat.le_refl _))
        · obtain ⟨p, rfl⟩ : ∃ p, k = p + 1 := ⟨k - 1, by omega⟩
          rw [Nat.add_sub_cancel] at q4 ⊢
          have hsp : sdN (T 1) p = 1 - s := (sd_off (by omega) (by omega)).mpr (by omega)
          have hcp := sum_le (c := c) 14 p (by omega)
          rw [if_neg (fun z => (eq_m1 (by omega)).mp z), bS (sideOf_d n μ' t1 (by omega) (show p < 2 ^ 31 by omega))]
          dsimp only
          rw [ifEq (by omega) (by omega), if_neg (by omega), gd_n (by omega) (by decide), nI_clamp (by omega), hc p (by omega), i_2, i_3, ifEq (by omega) (by decide), ifEq (by omega) (by decide)]
          have go : gok T c p = true → Ok (X12_takes_157 n (nI s) (nI b) K (nI S) (nI a) (nI p) μ') (fun _ μ'' => (∀ o, o ≠ 171 → o ≠ 178 → μ''.1 o = μ'.1 o) ∧ μ''.2 = μ'.2 ∧ (∀ k, k ≠ 20 → μ''.1 171 k = μ'.1 171 k) ∧ μ''.1 171 20 = nI (if sdN (T 1) l = s then tkO T s c l else tkG T s c l).1 ∧ HD (T 1) μ'' (if sdN (T 1) l = s then tkO T s c l else tkG T s c l).2) := by
            intro hokp
            unfold X12_takes_157
            rw [gd_n (by omega) (by decide), bS (ahead_s n μ' t1 (by omega) t3 (by omega) (show p < 12 by omega) (by omega))]
            dsimp only
            rw [nI_clamp (by omega), hc p (by omega), nI_add, i_1, set_bit (by omega)]
            rw [gsm, if_pos ⟨by omega, hokp⟩] at ha
            rw [gnd, if_pos ⟨by omega, hokp⟩] at hg
            have hS2 : S ||| 2 ^ p < 2 ^ 12 := Nat.or_lt_two_pow hS (Nat.pow_lt_pow_right (by decide) (by omega))
            have bits2 : ∀ q', q' ≤ p → (∀ x, q' ≤ x → x < p → (T 3).testBit x = true) → ∀ x, (S ||| 2 ^ p).testBit x = true ↔ q' ≤ x ∧ x ≤ l ∧ (T 3).testBit x = false := by
              intro q' hq' hlac x
              rw [Nat.testBit_or, Bool.or_eq_true, hbits x, Nat.testBit_two_pow, decide_eq_true_iff]
              constructor
              · rintro (z | z)
                · exact ⟨by omega, z.2⟩
                · subst z; exact ⟨hq', by omega, q4⟩
              · intro z
                by_cases z1 : x = p
                · exact Or.inr z1.symm
                · by_cases z2 : x < p
                  · rw [hlac x z.1 z2] at z
                    exact absurd z.2.2 (by decide)
                  · exact Or.inl ⟨by omega, z.2⟩
            have skip : ∀ q', q' ≤ p → offN (T 1) (1 - s) ≤ q' → (∀ x, q' ≤ x → x < p → (T 3).testBit x = true) → gnd (gok T c) (offN (T 1) (1 - s)) p = gnd (gok T c) (offN (T 1) (1 - s)) q' ∧ gsm (gok T c) c (offN (T 1) (1 - s)) p = gsm (gok T c) c (offN (T 1) (1 - s)) q' := fun q' h1 h2 h3 => gnd_sk p h1 (fun x x1 x2 => ⟨by omega, hok x (h3 x x1 x2), hz x (by omega) (h3 x x1 x2)⟩)
            rcases ahN_p (sz := T 1) (lac := T 3) (p := p) p (Nat.le_refl _) with ⟨y, y1, y2, y3, y4, y5⟩ | ⟨y1, y2⟩
            · have hy : offN (T 1) (1 - s) ≤ y := ((sd_off (show 1 - s < 2 by omega) (by omega)).mp (y3.trans hsp)).1
              obtain ⟨k1, k2⟩ := skip (y + 1) (by omega) (by omega) (fun x x1 x2 => (y5 x (by omega) x2).1)
              rw [y1]
              exact hK (y + 1) _ _ _ _ (by omega) ⟨y + 1, S ||| 2 ^ p, a + c p, rfl, rfl, rfl, rfl, by omega, by omega, hS2, by omega, by omega, bits2 (y + 1) (by omega) (fun x x1 x2 => (y5 x (by omega) x2).1), Or.inr ⟨by omega, rfl, by rw [Nat.add_sub_cancel]; exact y4⟩⟩
            · have hall : ∀ x, offN (T 1) (1 - s) ≤ x → x < p → (T 3).testBit x = true := by
                intro x x1 x2
                rcases y2 x x2 ((sd_off (show 1 - s < 2 by omega) (by omega)).mpr (by omega) |>.trans hsp.symm) with z | ⟨y, z1, z2, z3⟩
                · exact z
                · exact absurd (((sd_off (show 1 - s < 2 by omega) (by omega)).mpr (by omega)).trans hsp.symm) z3
              obtain ⟨k1, k2⟩ := skip (offN (T 1) (1 - s)) (by omega) (Nat.le_refl _) hall
              rw [y1]
              exact hK (offN (T 1) (1 - s)) _ _ _ _ (by omega) ⟨offN (T 1) (1 - s), S ||| 2 ^ p, a + c p, rfl, rfl, rfl, rfl, by omega, Nat.le_refl _, hS2, by omega, by omega, bits2 _ (by omega) hall, Or.inl ⟨rfl, rfl⟩⟩
          by_cases z2 : c p = 2
          · rw [if_pos z2]
            exact go (by unfold gok; rw [decide_eq_true z2, Bool.or_true]; rfl)
          · rw [if_neg z2]
            by_cases z3 : c p = 3
            · rw [if_pos z3]
              exact go (by unfold gok; rw [decide_eq_true z3, Bool.or_true])
            · rw [if_neg z3]
              have hf := hno p q4 z2 z3
              refine fin (p + 1) S a hq hq2 hS ha hg hbits ?_ ?_
              · rw [gnd, if_neg (fun z => by rw [hf] at z; exact absurd z.2 (by decide))]
              · rw [gsm, if_neg (fun z => by rw [hf] at z; exact absurd z.2 (by decide))]
    · rw [if_neg c2]
      refine Ok_r (noth _ ?_)
      by_cases co : sdN (T 1) l = s
      · rw [if_pos co]; unfold tkO; rw [if_neg (by omega)]
      · rw [if_neg co]; unfold tkG; rw [if_neg c2]
