/-! the class's taking -/
def tkC (T : Nat → Nat) : Nat := if T 8 = 1 then 3 else T 7
theorem m1_p1 (e : Nat) : nI e + -nI 1 + nI 1 = nI e := by
  cases e with
  | zero => decide
  | succ e => rw [m1_add (by omega), nI_add, show e + 1 - 1 + 1 = e + 1 by omega]
theorem m1_int2 {e : Nat} (h : e < 2 ^ 31) : (nI e + -nI 1).toInt = (e : Int) - 1 := by
  cases e with
  | zero => decide
  | succ e => rw [m1_add (by omega), nI_toInt (by omega)]; omega
theorem m1_ltI {e lo : Nat} (h : e < 2 ^ 31) (h2 : lo < 2 ^ 31) : nI e + -nI 1 < nI lo ↔ e ≤ lo := by
  rw [Int32.lt_iff_toInt_lt, m1_int2 h, nI_toInt h2]
  omega
theorem takeO_s (n : Nat) (μ : Mu) {T c : Nat → Nat} {o s l : Nat} (ho : oK o = 6) (ho2 : 40 < o) (b6 : T 1 < 7) (b1 : 1 ≤ T 1) (hs : s < 2) (b7 : T 7 < 3) (b8 : T 8 = 1 → T 7 = 2) (h1 : μ.1 1 1 = nI (T 1)) (h4 : μ.1 1 4 = nI (tkC T)) (hsd : μ.1 o 1 = nI s) (hl : μ.1 6 0 = nI l) (hl2 : l < 2 * T 1) (hc : CE μ o c) (hb : sumF c 14 < 1000) :
    Ok (X8_takeOpposite n o μ) (fun a μ' => a = nI (tkO T s c l).1 ∧ CE μ' o (tkO T s c l).2 ∧ KP (fun x => x = o + 1) μ μ') := by
  have ht3 : tkC T < 4 := by unfold tkC; split <;> omega
  have ht : tkC T = 1 ↔ T 7 = 1 := by unfold tkC; split <;> omega
  have hcl := sum_le (c := c) 14 l (by omega)
  have hcf := sum_le (c := c) 14 (2 * T 1 - 1 - l) (by omega)
  have n1 : ∀ f, (si μ (o + 1) f (nI 0)).1 6 0 = nI l := fun f => by rw [si_b (by omega), hl]
  have n2 : ∀ f g, (si (si μ (o + 1) f (nI 0)) (o + 1) g (nI 0)).1 o 1 = nI s := fun f g => by rw [si_b (by omega), si_b (by omega), hsd]
  have n3 : 2 * T 1 - 1 - l ≠ 12 + s := by omega
  have n4 : l ≠ 12 + s := by omega
  unfold X8_takeOpposite X8_takeOpposite_50
  rw [kd_of ho]
  simp only [h4, hl, h1, i_0, i_1, i_2, i_12, pk_mul, pk_sub (show 1 ≤ 2 * T 1 by omega), pk_sub (show l ≤ 2 * T 1 - 1 by omega), nI_clamp (show l < 2 ^ 31 by omega), nI_clamp (show 2 * T 1 - 1 - l < 2 ^ 31 by omega), n1, n2, nI_add, nI_clamp (show 12 + s < 2 ^ 31 by omega), hc l (by omega), hc (2 * T 1 - 1 - l) (by omega), gd_n (show l < 14 by omega) (show 14 < 2 ^ 31 by decide), gd_n (show 2 * T 1 - 1 - l < 14 by omega) (show 14 < 2 ^ 31 by decide), gd_n (show 12 + s < 14 by omega) (show 14 < 2 ^ 31 by decide), si_c (Ne.symm n4), si_c (Ne.symm n3), hc (12 + s) (by omega), nI_eq (show tkC T < 2 ^ 31 by omega) (show 1 < 2 ^ 31 by decide), nI_eq (show c l < 2 ^ 31 by omega) (show 1 < 2 ^ 31 by decide), nI_eq (show c (2 * T 1 - 1 - l) < 2 ^ 31 by omega) (show 0 < 2 ^ 31 by decide), ht]
  unfold tkO
  by_cases c1 : T 7 = 1
  · rw [if_pos c1]
    by_cases c2 : c l = 1
    · rw [if_pos c2]
      by_cases c3 : c (2 * T 1 - 1 - l) = 0
      · rw [if_pos c3, if_neg (fun q => q.2.2 c3)]
        exact Ok_r ⟨rfl, hc, KP.rf⟩
      · rw [if_neg c3, if_pos ⟨c1, c2, c3⟩]
        exact Ok_r ⟨rfl, CE_si (CE_si (CE_si hc)), by refine KP.si (KP.si (KP.si KP.rf ?_) ?_) ?_ <;> rfl⟩
    · rw [if_neg c2, if_neg (fun q => c2 q.2.1)]
      exact Ok_r ⟨rfl, hc, KP.rf⟩
  · rw [if_neg c1, if_neg (fun q => c1 q.1)]
    exact Ok_r ⟨rfl, hc, KP.rf⟩
theorem gnd_le {ok : Nat → Bool} {lo : Nat} : ∀ e, gnd ok lo e ≤ e := by
  intro e
  induction e with
  | zero => exact Nat.le_refl _
  | succ e ih =>
    rw [gnd]
    by_cases q : lo ≤ e ∧ ok e = true
    · rw [if_pos q]; omega
    · rw [if_neg q]; exact Nat.le_refl _
theorem gnd_lo {ok : Nat → Bool} {lo e : Nat} (h : e ≤ lo) : gnd ok lo e = e := by
  cases e with
  | zero => rfl
  | succ e => rw [gnd, if_neg (by omega)]
theorem gsm_lo {ok : Nat → Bool} {c : Nat → Nat} {lo e : Nat} (h : e ≤ lo) : gsm ok c lo e = 0 := by
  cases e with
  | zero => rfl
  | succ e => rw [gsm, if_neg (by omega)]
theorem gsm_b {ok : Nat → Bool} {c : Nat → Nat} {lo : Nat} : ∀ e, gsm ok c lo e ≤ sumF c e := by
  intro e
  induction e with
  | zero => exact Nat.le_refl _
  | succ e ih =>
    rw [gsm, sumF]
    by_cases q : lo ≤ e ∧ ok e = true
    · rw [if_pos q]; omega
    · rw [if_neg q]; omega
theorem sum_mo {c : Nat → Nat} {a : Nat} : ∀ b, a ≤ b → sumF c a ≤ sumF c b := by
  intro b
  induction b with
  | zero => intro h; rw [show a = 0 by omega]; exact Nat.le_refl _
  | succ b ih =>
    intro h
    by_cases q : a = b + 1
    · rw [q]; exact Nat.le_refl _
    · rw [sumF]; have := ih (by omega); omega
theorem row_b {c : Nat → Nat} {b : Nat} : ∀ k, sumF c b + rowN c b k = sumF c (b + k) := by
  intro k
  induction k with
  | zero => rfl
  | succ k ih =>
    unfold rowN at *
    rw [sumF, ← Nat.add_assoc, ih]
    rfl
def clx (c : Nat → Nat) (e x : Nat) : Nat → Nat := fun y => if e ≤ y ∧ y < x then 0 else c y
theorem clx_t {c : Nat → Nat} {e x y : Nat} (h : e ≤ y ∧ y < x) : clx c e x y = 0 := if_pos h
theorem clx_f {c : Nat → Nat} {e x y : Nat} (h : ¬ (e ≤ y ∧ y < x)) : clx c e x y = c y := if_neg h
theorem takeG_s (n : Nat) (μ : Mu) {T c : Nat → Nat} {o s l : Nat} (ho : oK o = 6) (ho2 : 40 < o) (b6 : T 1 < 7) (b1 : 1 ≤ T 1) (hs : s < 2) (b3 : T 3 < 4096) (b7 : T 7 < 3) (b8 : T 8 = 1 → T 7 = 2) (h1 : μ.1 1 1 = nI (T 1)) (h2 : μ.1 1 2 = nI (T 3)) (h4 : μ.1 1 4 = nI (tkC T)) (hsd : μ.1 o 1 = nI s) (hl : μ.1 6 0 = nI l) (hl2 : l < 2 * T 1) (hc : CE μ o c) (hb : sumF c 14 < 1000) (hn : 1000 < n) :
    Ok (X8_takeGrand n o μ) (fun a μ' => a = nI (tkG T s c l).1 ∧ CE μ' o (tkG T s c l).2 ∧ KP (fun x => x = o + 1) μ μ') := by
  have ht4 : tkC T < 4 := by unfold tkC; split <;> omega
  have ht2 : tkC T = 2 ↔ T 7 = 2 ∧ T 8 ≠ 1 := by unfold tkC; split <;> omega
  have ht3 : tkC T = 3 ↔ T 8 = 1 := by unfold tkC; split <;> omega
  have hlo := off_le (T 1) (1 - s)
  have hEl := gnd_le (ok := gok T c) (lo := offN (T 1) (1 - s)) (l + 1)
  have hsm : gsm (gok T c) c (offN (T 1) (1 - s)) (l + 1) < 1000 := by
    have q1 := gsm_b (ok := gok T c) (c := c) (lo := offN (T 1) (1 - s)) (l + 1)
    have q2 := sum_mo (c := c) 14 (show l + 1 ≤ 14 by omega)
    omega
  have hrow : rowN c (offN (T 1) (1 - s)) (T 1) < 1000 := by
    have q1 := row_b (c := c) (b := offN (T 1) (1 - s)) (T 1)
    have q2 := sum_mo (c := c) 14 (show offN (T 1) (1 - s) + T 1 ≤ 14 by omega)
    omega
  -- the clearing
  have L137 : ¬ (T 8 = 1 ∧ gsm (gok T c) c (offN (T 1) (1 - s)) (l + 1) = rowN c (offN (T 1) (1 - s)) (T 1)) → T 7 = 2 → Ok (X8_takeGrand_137 n o (nI (gsm (gok T c) c (offN (T 1) (1 - s)) (l + 1))) (nI (gnd (gok T c) (offN (T 1) (1 - s)) (l + 1)) + -nI 1) μ) (fun a μ' => a = nI (tkG T s c l).1 ∧ CE μ' o (tkG T s c l).2 ∧ KP (fun x => x = o + 1) μ μ') := by
    intro hne h7
    unfold X8_takeGrand_137 X8_takeGrand_143
    rw [i_1, m1_p1]
    refine Ok_lp2 (fun k x3 x5 μ' => ∃ x, gnd (gok T c) (offN (T 1) (1 - s)) (l + 1) ≤ x ∧ x ≤ l + 1 ∧ k = l + 1 - x ∧ x3 = nI (gsm (gok T c) c (offN (T 1) (1 - s)) (l + 1)) ∧ x5 = nI x ∧ CE μ' o (clx c (gnd (gok T c) (offN (T 1) (1 - s)) (l + 1)) x) ∧ KP (fun x => x = o + 1) μ μ') ?_ (l + 1 - gnd (gok T c) (offN (T 1) (1 - s)) (l + 1)) (by omega) ⟨_, Nat.le_refl _, hEl, rfl, rfl, rfl, fun y hy => by rw [clx_f (by omega)]; exact hc y hy, KP.rf⟩
    rintro K k x3 x5 μ' ⟨x, hx1, hx2, rfl, rfl, rfl, hc', hkp⟩ hK
    have hl' : μ'.1 6 0 = nI l := by rw [hkp.1 6 (by omega), hl]
    have hsd' : μ'.1 o 1 = nI s := by rw [hkp.1 o (by omega), hsd]
    unfold X8_takeGrand_143b
    rw [hl', hsd', i_12, nI_add, ifLt (by omega) (by omega), nI_clamp (by omega), gd_n (by omega) (by decide)]
    by_cases q : l < x
    · obtain rfl : x = l + 1 := by omega
      rw [if_pos q, hc' (12 + s) (by omega), clx_f (by omega), nI_add]
      refine Ok_r ⟨?_, ?_, hkp.si rfl⟩
      · unfold tkG
        rw [if_pos h7, if_neg hne]
      · unfold tkG
        rw [if_pos h7, if_neg hne]
        have e : ups (clx c (gnd (gok T c) (offN (T 1) (1 - s)) (l + 1)) (l + 1)) (12 + s) (c (12 + s) + gsm (gok T c) c (offN (T 1) (1 - s)) (l + 1)) = ups (clr c (gnd (gok T c) (offN (T 1) (1 - s)) (l + 1)) l) (12 + s) (c (12 + s) + gsm (gok T c) c (offN (T 1) (1 - s)) (l + 1)) := by
          congr 1
          funext y
          unfold clr
          by_cases z : gnd (gok T c) (offN (T 1) (1 - s)) (l + 1) ≤ y ∧ y ≤ l
          · rw [if_pos z, clx_t (by omega)]
          · rw [if_neg z, clx_f (by omega)]
        exact e ▸ CE_si hc'
    · rw [if_neg q, gd_n (by omega) (by decide), nI_clamp (by omega), i_0, i_1, nI_add]
      refine hK (l + 1 - (x + 1)) _ _ _ (by omega) ⟨x + 1, by omega, by omega, rfl, rfl, rfl, fun y hy => ?_, hkp.si rfl⟩
      by_cases z : y = x
      · rw [z, si_a, clx_t (by omega)]
      · rw [si_c z, hc' y hy]
        by_cases z2 : gnd (gok T c) (offN (T 1) (1 - s)) (l + 1) ≤ y ∧ y < x
        · rw [clx_t z2, clx_t (by omega)]
        · rw [clx_f z2, clx_f (by omega)]
  have L103 : T 7 = 2 → Ok (X8_takeGrand_103 n o (nI (gsm (gok T c) c (offN (T 1) (1 - s)) (l + 1))) (nI (gnd (gok T c) (offN (T 1) (1 - s)) (l + 1)) + -nI 1) μ) (fun a μ' => a = nI (tkG T s c l).1 ∧ CE μ' o (tkG T s c l).2 ∧ KP (fun x => x = o + 1) μ μ') := by
    intro h7
    unfold X8_takeGrand_103
    rw [h4, h1, hsd, i_3, i_1, i_0, pk_sub (by omega), ifEq (by omega) (by decide)]
    by_cases q : T 8 = 1
    · rw [if_pos (ht3.mpr q), bS (inRow_s n μ ho b6 (by omega) hc (by omega))]
      dsimp only
      rw [ifEq (by omega) (by omega)]
      by_cases q2 : gsm (gok T c) c (offN (T 1) (1 - s)) (l + 1) = rowN c (offN (T 1) (1 - s)) (T 1)
      · rw [if_pos q2]
        unfold tkG
        rw [if_pos h7, if_pos ⟨q, q2⟩]
        exact Ok_r ⟨rfl, hc, KP.rf⟩
      · rw [if_neg q2]
        exact L137 (fun z => q2 z.2) h7
    · rw [if_neg (fun z => q (ht3.mp z))]
      exact L137 (fun z => q z.1) h7
  have L24 : T 7 = 2 → Ok (X8_takeGrand_24 n o μ) (fun a μ' => a = nI (tkG T s c l).1 ∧ CE μ' o (tkG T s c l).2 ∧ KP (fun x => x = o + 1) μ μ') := by
    intro h7
    unfold X8_takeGrand_24 X8_takeGrand_47
    rw [hsd, h1, hl, i_1, i_0, pk_sub (by omega), pk_mul, mul_off (by omega)]
    refine Ok_lp3 (fun k x2 x3 x4 μ' => ∃ a, x2 = nI (offN (T 1) (1 - s)) ∧ x3 = nI a ∧ x4 = nI k + -nI 1 ∧ μ' = μ ∧ k ≤ l + 1 ∧ a + gsm (gok T c) c (offN (T 1) (1 - s)) k = gsm (gok T c) c (offN (T 1) (1 - s)) (l + 1) ∧ gnd (gok T c) (offN (T 1) (1 - s)) k = gnd (gok T c) (offN (T 1) (1 - s)) (l + 1)) ?_ (l + 1) (by omega) ⟨0, rfl, rfl, by rw [m1_add (by omega), Nat.add_sub_cancel], rfl, Nat.le_refl _, Nat.zero_add _, rfl⟩
    rintro K k x2 x3 x4 μ' ⟨a, rfl, rfl, rfl, rfl, hk, ha, hg⟩ hK
    unfold X8_takeGrand_47b
    rw [ifIff (m1_ltI (by omega) (by omega))]
    by_cases q : k ≤ offN (T 1) (1 - s)
    · rw [if_pos q]
      rw [gsm_lo q, Nat.add_zero] at ha
      rw [gnd_lo q] at hg
      rw [ha, hg]
      exact L103 h7
    · rw [if_neg q]
      obtain ⟨e, rfl⟩ : ∃ e, k = e + 1 := ⟨k - 1, by omega⟩
      rw [m1_add (by omega), Nat.add_sub_cancel, bS (lackC_s n μ' h2 (by omega) (by omega))]
      dsimp only
      have hce := sum_le (c := c) 14 e (by omega)
      rw [gsm] at ha
      rw [gnd] at hg
      have go : gok T c e = true → Ok (X8_takeGrand_87 n o K (nI (offN (T 1) (1 - s))) (nI a) (nI e) μ') (fun a μ'' => a = nI (tkG T s c l).1 ∧ CE μ'' o (tkG T s c l).2 ∧ KP (fun x => x = o + 1) μ' μ'') := by
        intro hok
        rw [if_pos ⟨by omega, hok⟩] at ha hg
        unfold X8_takeGrand_87
        rw [gd_n (by omega) (by decide), nI_clamp (by omega), hc e (by omega), nI_add, i_1]
        exact hK e _ _ _ _ (by omega) ⟨a + c e, rfl, rfl, rfl, rfl, by omega, by omega, hg⟩
      have stop : gok T c e = false → Ok (X8_takeGrand_103 n o (nI a) (nI e) μ') (fun a μ'' => a = nI (tkG T s c l).1 ∧ CE μ'' o (tkG T s c l).2 ∧ KP (fun x => x = o + 1) μ' μ'') := by
        intro hok
        rw [if_neg (fun z => by rw [hok] at z; exact absurd z.2 (by decide))] at ha hg
        have := L103 h7
        rw [← ha, ← hg, m1_add (by omega), Nat.add_sub_cancel, Nat.add_zero] at this
        exact this
      rw [gd_n (by omega) (by decide), nI_clamp (by omega), hc e (by omega), i_2, i_3, ifEq (by omega) (by decide), ifEq (by omega) (by decide)]
      by_cases z1 : (T 3).testBit e = true
      · rw [z1, if_neg (by decide)]
        exact go (by unfold gok; rw [z1]; rfl)
      · have z1' : (T 3).testBit e = false := by simpa using z1
        rw [z1', if_pos (show b2i false = 0 from rfl)]
        by_cases z2 : c e = 2
        · rw [if_pos z2]
          exact go (by unfold gok; rw [z1', decide_eq_true z2]; rfl)
        · rw [if_neg z2]
          by_cases z3 : c e = 3
          · rw [if_pos z3]
            exact go (by unfold gok; rw [z1', decide_eq_true z3, decide_eq_false z2]; rfl)
          · rw [if_neg z3]
            exact stop (by unfold gok; rw [z1', decide_eq_false z3, decide_eq_false z2]; rfl)
  unfold X8_takeGrand
  rw [kd_of ho, h4, i_2, i_3, ifEq (by omega) (by decide), ifEq (by omega) (by decide)]
  by_cases q : tkC T = 2
  · rw [if_pos q]
    exact L24 (ht2.mp q).1
  · rw [if_neg q]
    by_cases q2 : tkC T = 3
    · rw [if_pos q2]
      exact L24 (b8 (ht3.mp q2))
    · rw [if_neg q2]
      unfold tkG
      rw [if_neg (fun z => q (ht2.mpr ⟨z, fun z2 => q2 (ht3.mpr z2)⟩))]
      exact Ok_r ⟨rfl, hc, KP.rf⟩
