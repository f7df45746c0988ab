/-! the class: choices, reasons, the score; the reference's score -/
theorem has_s (n : Nat) (μ : Mu) {B p : Nat} (hB : B < 2 ^ 31) (hp : p < 32) : X11_has n (nI B) (nI p) μ = some (b2i (B.testBit p), μ) := by
  unfold X11_has X11_has_14
  rw [i_1]
  by_cases h : B.testBit p = true
  · rw [if_pos ((ubit_s hB hp).mpr h), h]
    rfl
  · rw [if_neg (fun q => h ((ubit_s hB hp).mp q)), show B.testBit p = false by simpa using h]
    rfl
theorem filled_s (n : Nat) (μ : Mu) {T : Nat → Nat} {o : Nat} (ho : oK o = 6) (hW : WF T) (hS : SC μ o T) (hn : 1000 < n) :
    Ok (X6_filled n o (nI (T 1)) μ) (fun a μ' => μ' = μ ∧ ∃ B, a = nI B ∧ B < 4096 ∧ ∀ p, B.testBit p = true ↔ ∃ w, w < T 1 ∧ p = offN (T 1) (T 2) + w ∧ fulW T w = true) := by
  have b6 := hW.1.2.1
  have hs := hW.2.1
  have hoff := off_le (T 1) (T 2)
  have hb := WF_b hW
  unfold X6_filled X6_filled_9
  rw [kd_of ho, hS.1, pk_mul, mul_off hs, i_0]
  refine Ok_lp2 (fun k x2 x3 μ' => ∃ i B, i ≤ T 1 ∧ k = T 1 - i ∧ x2 = nI B ∧ x3 = nI (offN (T 1) (T 2) + i) ∧ μ' = μ ∧ B < 4096 ∧ ∀ p, B.testBit p = true ↔ ∃ w, w < i ∧ p = offN (T 1) (T 2) + w ∧ fulW T w = true) ?_ (T 1) (by omega) ⟨0, 0, by omega, by omega, rfl, rfl, rfl, by decide, fun p => ⟨fun h => by simp at h, fun ⟨w, h, _⟩ => by omega⟩⟩
  rintro K k x2 x3 μ' ⟨i, B, hi, rfl, rfl, rfl, rfl, hB, bB⟩ hK
  unfold X6_filled_9b X6_filled_36
  rw [hS.1, i_1, nI_add, pk_mul, Nat.add_mul, Nat.one_mul, mul_off hs, ifLe (by omega) (by omega)]
  by_cases q : offN (T 1) (T 2) + T 1 ≤ offN (T 1) (T 2) + i
  · obtain rfl : i = T 1 := by omega
    rw [if_pos q]
    exact Ok_r ⟨rfl, B, rfl, hB, bB⟩
  · have hle := sum_le (c := cT T) 14 (offN (T 1) (T 2) + i) (by omega)
    have hpl : 2 ^ (offN (T 1) (T 2) + i) < 2 ^ 12 := Nat.pow_lt_pow_right (by decide) (by omega)
    rw [if_neg q, gd_n (by omega) (by decide), nI_clamp (by omega), hS.2 _ (by omega), i_0, ifLe (by omega) (by decide), nI_add, set_bit (by omega)]
    by_cases c0 : cT T (offN (T 1) (T 2) + i) ≤ 0
    · rw [if_pos c0]
      exact hK (T 1 - (i + 1)) _ _ _ (by omega) ⟨i + 1, B, by omega, rfl, rfl, by rw [Nat.add_assoc], rfl, hB, no_bits bB (fun z => absurd ((ful_0 hW (by omega)).mp z) (by omega))⟩
    · rw [if_neg c0]
      exact hK (T 1 - (i + 1)) _ _ _ (by omega) ⟨i + 1, _, by omega, rfl, rfl, by rw [Nat.add_assoc], rfl, Nat.or_lt_two_pow (n := 12) hB hpl, or_bits bB rfl ((ful_0 hW (by omega)).mpr (by omega))⟩
theorem choices_s (n : Nat) (μ : Mu) {T : Nat → Nat} {o : Nat} (ho : OS o) (hW : WF T) (hG : GE μ T) (hS : SC μ o T) (hn : 1000 < n) :
    Ok (X8_choices n o μ) (fun a μ' => KP RS μ μ' ∧ ∃ B, a = nI B ∧ CB T B) := by
  have h10 : T 10 < 2 := hW.1.2.2.2.2.2.2.2.2.2.1
  have L20 : Ok (X8_choices_20 n o μ) (fun a μ' => KP RS μ μ' ∧ ∃ B, a = nI B ∧ CB T B) := by
    unfold X8_choices_20 X8_choices_39
    refine Ok_b (tryAll_s n μ ho hW hG hS hn) ?_
    rintro a μ2 ⟨k2, -, h⟩
    exact Ok_r ⟨k2, h⟩
  unfold X8_choices X8_choices_39
  rw [kd_of ho.1, hG.1.2.2.2.2.2.2.2, hG.2.2.2, hG.1.1, i_0, ifEq (by omega) (by decide)]
  by_cases c : T 10 = 0
  · rw [if_pos c]
    cases hl : lonO T with
    | true =>
      rw [if_neg (show ¬ b2i true = nI 0 by decide)]
      exact L20
    | false =>
      rw [if_pos (show b2i false = nI 0 from rfl)]
      refine Ok_b (filled_s n μ ho.1 hW hS hn) ?_
      rintro a μ2 ⟨rfl, B, rfl, hB, bB⟩
      refine Ok_r ⟨KP.rf, B, rfl, hB, fun p => ?_⟩
      rw [bB p]
      constructor
      · rintro ⟨w, a, b, d⟩
        obtain ⟨l, k, t, c', hm⟩ := nolong hW hl a d
        refine ⟨w, a, b, ?_⟩
        unfold canW
        rw [d, hm, decide_eq_false (show ¬ T 10 = 1 by omega)]
        rfl
      · rintro ⟨w, a, b, d⟩
        unfold canW at d
        simp only [Bool.and_eq_true] at d
        exact ⟨w, a, b, d.1.1⟩
  · rw [if_neg c]
    exact L20
theorem can_fs {T : Nat → Nat} {w : Nat} (h : canW T w = true) : fulW T w = true ∧ ∃ l k t c', mvW T w = some (l, k, t, c') := by
  unfold canW at h
  simp only [Bool.and_eq_true] at h
  refine ⟨h.1.1, ?_⟩
  rcases mvW_c (T := T) w with hm | z
  · have := h.1.2
    rw [hm] at this
    exact absurd this (by decide)
  · exact z
theorem over_no {T : Nat → Nat} : overT T = true ↔ ∀ w, w < T 1 → canW T w = false := by
  constructor
  · intro h w hw
    cases e : canW T w with
    | false => rfl
    | true =>
      obtain ⟨hf, l, k, t, c', hm⟩ := can_fs e
      unfold overT at h
      rw [decide_eq_true_iff] at h
      have := h w hw hf
      rw [hm] at this
      exact nomatch this
  · intro h
    unfold overT
    rw [decide_eq_true_iff]
    intro w hw hf
    rcases mvW_c (T := T) w with hm | ⟨l, k, t, c', hm⟩
    · rw [hm]; rfl
    · exfalso
      by_cases z : T 10 = 1 ∧ canFd T = true
      · have z2 := z.2
        unfold canFd at z2
        rw [decide_eq_true_iff] at z2
        obtain ⟨w2, a, b, d⟩ := z2
        have := h w2 a
        unfold canW at this
        rw [b, fed_some d, d] at this
        simp at this
      · have := h w hw
        unfold canW at this
        have e : (decide (T 10 = 1) && canFd T) = false := by
          cases e2 : (decide (T 10 = 1) && canFd T) with
          | false => rfl
          | true =>
            rw [Bool.and_eq_true, decide_eq_true_iff] at e2
            exact absurd e2 z
        rw [hf, hm, e] at this
        simp at this
theorem CB_0 {T : Nat → Nat} {B : Nat} (h : CB T B) : B = 0 ↔ overT T = true := by
  rw [over_no]
  constructor
  · intro z w hw
    cases e : canW T w with
    | false => rfl
    | true =>
      have := (h.2 (offN (T 1) (T 2) + w)).mpr ⟨w, hw, rfl, e⟩
      rw [z] at this
      simp at this
  · intro z
    refine Nat.eq_of_testBit_eq (fun p => ?_)
    rw [Nat.zero_testBit]
    cases e : B.testBit p with
    | false => rfl
    | true =>
      obtain ⟨w, a, b, d⟩ := (h.2 p).mp e
      rw [z w a] at d
      exact absurd d (by decide)
theorem CB_w {T : Nat → Nat} {B w : Nat} (h : CB T B) (hw : w < T 1) : B.testBit (offN (T 1) (T 2) + w) = canW T w := by
  cases e : canW T w with
  | true => exact (h.2 _).mpr ⟨w, hw, rfl, e⟩
  | false =>
    cases e2 : B.testBit (offN (T 1) (T 2) + w) with
    | false => rfl
    | true =>
      obtain ⟨w2, a, b, d⟩ := (h.2 _).mp e2
      rw [show w2 = w by omega, e] at d
      exact absurd d (by decide)
theorem why_0 {T : Nat → Nat} {w : Nat} (hw : w < T 1) : whyW T w = 0 ↔ canW T w = true := by
  unfold whyW
  cases ho : overT T with
  | true =>
    rw [if_pos rfl, over_no.mp ho w hw]
    exact ⟨fun z => by omega, fun z => by exact absurd z (by decide)⟩
  | false =>
    rw [if_neg (show ¬ false = true by decide)]
    unfold canW fulW
    cases onI T (T 2) w with
    | false => rw [if_pos rfl]; exact ⟨fun z => by omega, fun z => by simp at z⟩
    | true =>
      rw [if_neg (show ¬ true = false by decide)]
      by_cases c0 : cT T (cI (T 1) (T 2) w) = 0
      · rw [if_pos c0, decide_eq_false (show ¬ 0 < cT T (cI (T 1) (T 2) w) by omega)]
        exact ⟨fun z => by omega, fun z => by simp at z⟩
      · rw [if_neg c0, decide_eq_true (show 0 < cT T (cI (T 1) (T 2) w) by omega)]
        rcases mvW_c (T := T) w with hm | ⟨l, k, t, c', hm⟩
        · rw [hm, if_pos (show (none : Option (Nat × Nat × Nat × (Nat → Nat))).isNone = true from rfl)]
          exact ⟨fun z => by omega, fun z => by simp at z⟩
        · rw [hm, if_neg (show ¬ (some (l, k, t, c')).isNone = true from fun h => Bool.noConfusion h)]
          by_cases c10 : T 10 = 1
          · rw [decide_eq_true c10]
            cases fedW T w <;> cases canFd T <;> simp [c10]
          · rw [decide_eq_false c10, if_neg (fun z => c10 z.1)]
            simp
theorem reason_w (n : Nat) (μ : Mu) {T : Nat → Nat} {o w : Nat} (ho : OS o) (hW : WF T) (hG : GE μ T) (hS : SC μ o T) (hw : w < T 1) (hn : 1000 < n) :
    Ok (X8_reason n o (lN (offN (T 1) (T 2) + w)) μ) (fun a μ' => KP RS μ μ' ∧ a = nI (whyW T w)) := by
  have ho' := ho
  obtain ⟨o1, o2, o3, o4⟩ := ho'
  have b6 := hW.1.2.1
  have hs := hW.2.1
  have hoff := off_le (T 1) (T 2)
  have hb := WF_b hW
  have hle := sum_le (c := cT T) 14 (offN (T 1) (T 2) + w) (by omega)
  unfold X8_reason X8_reason_81
  rw [kd_of o1]
  refine Ok_b (choices_s n μ ho hW hG hS hn) ?_
  rintro a μ2 ⟨k2, B, rfl, hC⟩
  have hB := hC.1
  have kR : ∀ x, x = 1 ∨ x = 2 ∨ x = 3 ∨ x = o ∨ x = o + 1 → μ2.1 x = μ.1 x := fun x hx => k2.1 x (by unfold RS; omega)
  have hG2 : GE μ2 T := GE_o hG (kR 1 (by omega)) (kR 2 (by omega)) (kR 3 (by omega))
  have hS2 : SC μ2 o T := SC_o hS (kR o (by omega)) (kR (o + 1) (by omega))
  dsimp only
  rw [i_0, ifEq (by omega) (by decide)]
  by_cases c : B = 0
  · rw [if_pos c]
    unfold whyW
    rw [(CB_0 hC).mp c, if_pos rfl]
    exact Ok_r ⟨k2, rfl⟩
  · have hov : overT T = false := by
      cases e : overT T with
      | false => rfl
      | true => exact absurd ((CB_0 hC).mpr e) c
    rw [if_neg c, bS (isOwn_n n μ2 o1 hG2.1.1 hG2.1.2.1 hS2.1 b6 hW.1.2.2.1 hs (by omega))]
    dsimp only
    have eon : onI T (T 2) w = !(T 3).testBit (offN (T 1) (T 2) + w) := by unfold onI; rw [if_neg (by omega), cI_own2 hw]
    have eow : ownB (T 1) (T 3) (T 2) (offN (T 1) (T 2) + w) = onI T (T 2) w := by
      unfold ownB
      rw [eon, decide_eq_true (by omega), Bool.true_and]
    have hwhy : whyW T w = if onI T (T 2) w = false then 1 else if cT T (cI (T 1) (T 2) w) = 0 then 2 else if (mvW T w).isNone = true then 3 else if T 10 = 1 ∧ fedW T w = false ∧ canFd T = true then 4 else 0 := by
      unfold whyW
      rw [hov, if_neg (show ¬ false = true by decide)]
    rw [eow]
    cases on : onI T (T 2) w with
    | false =>
      rw [if_pos (show b2i false = nI 0 from rfl), hwhy, on, if_pos rfl]
      exact Ok_r ⟨k2, rfl⟩
    | true =>
      rw [on, if_neg (show ¬ true = false by decide), cI_own2 hw] at hwhy
      rw [if_neg (show ¬ b2i true = nI 0 by decide), lN_i, gd_n (by omega) (by decide), nI_clamp (by omega), hS2.2 _ (by omega), ifEq (by omega) (by decide)]
      by_cases c0 : cT T (offN (T 1) (T 2) + w) = 0
      · rw [if_pos c0, hwhy, if_pos c0]
        exact Ok_r ⟨k2, rfl⟩
      · rw [if_neg c0, bS (has_s n μ2 (show B < 2 ^ 31 by omega) (by omega))]
        dsimp only
        rw [CB_w hC hw]
        cases hc : canW T w with
        | true =>
          rw [if_neg (show ¬ b2i true = nI 0 by decide), (why_0 hw).mpr hc]
          exact Ok_r ⟨k2, rfl⟩
        | false =>
          have hne : whyW T w ≠ 0 := fun z => by rw [(why_0 hw).mp z] at hc; exact absurd hc (by decide)
          rw [if_pos (show b2i false = nI 0 from rfl), hS2.1, hG2.1.1, pk_mul, mul_off hs, pk_sub (by omega), Nat.add_sub_cancel_left]
          refine Ok_b (isLong_s n μ2 ho hW hG2 hS2 hw ((ful_0 hW hw).mpr c0) hn) ?_
          rintro a μ3 ⟨k3, rfl⟩
          dsimp only
          rw [if_neg c0] at hwhy
          rcases mvW_c (T := T) w with hm | ⟨l, k, t, c', hm⟩
          · rw [hm, if_neg (show ¬ b2i (none : Option (Nat × Nat × Nat × (Nat → Nat))).isNone = nI 0 by decide), hwhy, hm, if_pos (show (none : Option (Nat × Nat × Nat × (Nat → Nat))).isNone = true from rfl)]
            exact Ok_r ⟨k2.tr k3 (fun _ h => h), rfl⟩
          · rw [hm, if_neg (show ¬ (some (l, k, t, c')).isNone = true from fun h => Bool.noConfusion h)] at hwhy
            rw [hm, if_pos (show b2i (some (l, k, t, c')).isNone = nI 0 from rfl)]
            refine Ok_r ⟨k2.tr k3 (fun _ h => h), ?_⟩
            by_cases z : T 10 = 1 ∧ fedW T w = false ∧ canFd T = true
            · rw [hwhy, if_pos z]; rfl
            · rw [if_neg z] at hwhy
              exact absurd hwhy hne
theorem reason_x (n : Nat) (μ : Mu) {T : Nat → Nat} {o : Nat} {v : Int64} (ho : OS o) (hW : WF T) (hG : GE μ T) (hS : SC μ o T) (hv : ∀ w, w < T 1 → v ≠ lN (offN (T 1) (T 2) + w)) (hn : 1000 < n) :
    Ok (X8_reason n o v μ) (fun a μ' => KP RS μ μ' ∧ a = nI (whyN T)) := by
  have ho' := ho
  obtain ⟨o1, o2, o3, o4⟩ := ho'
  have b6 := hW.1.2.1
  have hs := hW.2.1
  unfold X8_reason
  rw [kd_of o1]
  refine Ok_b (choices_s n μ ho hW hG hS hn) ?_
  rintro a μ2 ⟨k2, B, rfl, hC⟩
  have hB := hC.1
  have kR : ∀ x, x = 1 ∨ x = 2 ∨ x = 3 ∨ x = o ∨ x = o + 1 → μ2.1 x = μ.1 x := fun x hx => k2.1 x (by unfold RS; omega)
  have hG2 : GE μ2 T := GE_o hG (kR 1 (by omega)) (kR 2 (by omega)) (kR 3 (by omega))
  have hS2 : SC μ2 o T := SC_o hS (kR o (by omega)) (kR (o + 1) (by omega))
  dsimp only
  rw [i_0, ifEq (by omega) (by decide)]
  unfold whyN
  by_cases c : B = 0
  · rw [if_pos c, (CB_0 hC).mp c, if_pos rfl]
    exact Ok_r ⟨k2, rfl⟩
  · have hov : overT T = false := by
      cases e : overT T with
      | false => rfl
      | true => exact absurd ((CB_0 hC).mpr e) c
    have hown : X8_isOwn n o v μ2 = some (0, μ2) := by
      by_cases z : v.toInt < 0 ∨ 12 ≤ v.toInt
      · exact isOwn_x n μ2 o1 hG2.1.1 hS2.1 b6 hs z
      · obtain ⟨p, hp, rfl⟩ := pk_lOf (x := v) (fun h => by
          rw [Int64.lt_iff_toInt_lt, show (0 : Int64).toInt = 0 from rfl] at h
          omega)
        rw [pk_lT hp] at z
        rw [isOwn_n n μ2 o1 hG2.1.1 hG2.1.2.1 hS2.1 b6 hW.1.2.2.1 hs (show p < 2 ^ 31 by omega)]
        unfold ownB
        rw [decide_eq_false (fun q => hv (p - offN (T 1) (T 2)) (by omega) (by rw [show offN (T 1) (T 2) + (p - offN (T 1) (T 2)) = p by omega]))]
        rfl
    rw [if_neg c, bS hown, hov, if_neg (show ¬ false = true by decide)]
    dsimp only
    rw [if_pos (show (0 : Int32) = nI 0 from rfl)]
    exact Ok_r ⟨k2, rfl⟩
theorem i32_lc (a b c : Int32) : a + (b + c) = b + (a + c) := by rw [← Int32.add_assoc, Int32.add_comm a b, Int32.add_assoc]
def scI (T : Nat → Nat) : Int32 := if overT T = true then nI (T 11) - nI (T 12) + nI (rowN (cT T) (offN (T 1) 0) (T 1)) - nI (rowN (cT T) (offN (T 1) 1) (T 1)) else nI (T 11) - nI (T 12)
theorem scoreOf_s (n : Nat) (μ : Mu) {T : Nat → Nat} {o : Nat} (ho : OS o) (hW : WF T) (hG : GE μ T) (hS : SC μ o T) (hn : 1000 < n) :
    Ok (X8_scoreOf n o μ) (fun a μ' => KP RS μ μ' ∧ a = scI T) := by
  have ho' := ho
  obtain ⟨o1, o2, o3, o4⟩ := ho'
  have b6 := hW.1.2.1
  unfold X8_scoreOf
  rw [kd_of o1]
  refine Ok_b (isOverC_s n μ ho hW hG hS hn) ?_
  rintro a μ2 ⟨k2, rfl⟩
  have kR : ∀ x, x = 1 ∨ x = 2 ∨ x = 3 ∨ x = o ∨ x = o + 1 → μ2.1 x = μ.1 x := fun x hx => k2.1 x (by unfold RS; omega)
  have hG2 : GE μ2 T := GE_o hG (kR 1 (by omega)) (kR 2 (by omega)) (kR 3 (by omega))
  have hS2 : SC μ2 o T := SC_o hS (kR o (by omega)) (kR (o + 1) (by omega))
  dsimp only
  have e12 : μ.1 (o + 1) 12 = nI (T 11) := hS.2 12 (by decide)
  have e13 : μ.1 (o + 1) 13 = nI (T 12) := hS.2 13 (by decide)
  unfold scI
  rw [e12, e13]
  cases overT T with
  | false =>
    rw [if_pos (show b2i false = 0 from rfl), if_neg (show ¬ false = true by decide)]
    exact Ok_r ⟨k2, rfl⟩
  | true =>
    rw [if_neg (show ¬ b2i true = 0 by decide), if_pos rfl, hG2.1.1, i_0, bS (inRow_s n μ2 o1 b6 (by decide) hS2.2 (by omega))]
    dsimp only
    rw [hG2.1.1, i_1, bS (inRow_s n μ2 o1 b6 (by decide) hS2.2 (by omega))]
    exact Ok_r ⟨k2, rfl⟩
theorem scoreNow_s (n : Nat) (μ : Mu) {T : Nat → Nat} (hW : WF T) (hT : TD μ T) (hn : 1000 < n) : Ok (X12_scoreNow n μ) (fun a μ' => KR μ μ' ∧ a = scI T) := by
  obtain ⟨b1, b6, b3, bb⟩ := hW.1
  unfold X12_scoreNow
  refine Ok_b (isOver_s n μ hW hT hn) ?_
  rintro a μ2 ⟨k2, rfl⟩
  have hT2 := KR_TD k2 hT
  dsimp only
  unfold scI
  rw [hT 11 (by decide), hT 12 (by decide)]
  cases overT T with
  | false =>
    rw [if_pos (show b2i false = 0 from rfl), if_neg (show ¬ false = true by decide)]
    exact Ok_r ⟨k2, rfl⟩
  | true =>
    rw [if_neg (show ¬ b2i true = 0 by decide), if_pos rfl]
    unfold X12_scoreNow_27
    rw [i_0]
    have o0 : offN (T 1) 0 = 0 := rfl
    have o1 : offN (T 1) 1 = T 1 := rfl
    rw [o0, o1]
    refine Ok_lp2 (fun k x1 x2 μ' => ∃ p, p ≤ 2 * T 1 ∧ k = 2 * T 1 - p ∧ x2 = nI p ∧ μ' = μ2 ∧ x1 = nI (T 11) - nI (T 12) + nI (rowN (cT T) 0 (min p (T 1))) - nI (rowN (cT T) (T 1) (p - T 1))) ?_ (2 * T 1) (by omega) ⟨0, by omega, by omega, rfl, rfl, ?_⟩
    · rintro K k x1 x2 μ' ⟨p, hp, rfl, rfl, rfl, rfl⟩ hK
      unfold X12_scoreNow_27b X12_scoreNow_66
      rw [bS (pitMany_s n μ' (hT2 1 (by decide)))]
      dsimp only
      rw [ifLe (by omega) (by omega)]
      by_cases q : 2 * T 1 ≤ p
      · obtain rfl : p = 2 * T 1 := by omega
        rw [if_pos q, show min (2 * T 1) (T 1) = T 1 by omega, show 2 * T 1 - T 1 = T 1 by omega]
        exact Ok_r ⟨k2, rfl⟩
      · have e13 : T (13 + p) = cT T p := by unfold cT; rw [if_pos (by omega)]
        rw [if_neg q, bS (sideOf_d n μ' (hT2 1 (by decide)) (by omega) (by omega))]
        dsimp only
        have hsd := sdN_lt (T 1) p
        rw [i_13, nI_add, gd_n (by omega) (by decide), gd_n (by omega) (by decide), nI_clamp (by omega), hT2 _ (by omega), e13, i_0, ifEq (by omega) (by decide), i_1, nI_add]
        by_cases z : p < T 1
        · rw [if_pos (show sdN (T 1) p = 0 by unfold sdN; rw [if_pos z])]
          refine hK (2 * T 1 - (p + 1)) _ _ _ (by omega) ⟨p + 1, by omega, rfl, rfl, rfl, ?_⟩
          rw [show min p (T 1) = p by omega, show min (p + 1) (T 1) = p + 1 by omega, show p - T 1 = 0 by omega, show p + 1 - T 1 = 0 by omega]
          have er : rowN (cT T) 0 (p + 1) = rowN (cT T) 0 p + cT T p := by unfold rowN; rw [sumF, Nat.zero_add]
          rw [er, ← nI_add]
          simp only [Int32.sub_eq_add_neg, Int32.add_assoc, Int32.add_comm, i32_lc]
        · rw [if_neg (show ¬ sdN (T 1) p = 0 by unfold sdN; rw [if_neg z]; decide)]
          refine hK (2 * T 1 - (p + 1)) _ _ _ (by omega) ⟨p + 1, by omega, rfl, rfl, rfl, ?_⟩
          rw [show min p (T 1) = T 1 by omega, show min (p + 1) (T 1) = T 1 by omega, show p + 1 - T 1 = p - T 1 + 1 by omega]
          have er : rowN (cT T) (T 1) (p - T 1 + 1) = rowN (cT T) (T 1) (p - T 1) + cT T p := by unfold rowN; rw [sumF, show T 1 + (p - T 1) = p by omega]
          rw [er, ← nI_add]
          simp only [Int32.sub_eq_add_neg, Int32.neg_add, Int32.add_assoc, Int32.add_comm, i32_lc]
    · rw [show min 0 (T 1) = 0 by omega, show 0 - T 1 = 0 by omega]
      have : ∀ x : Int32, x = x + nI 0 - nI 0 := by
        intro x
        rw [show nI 0 = 0 from rfl, Int32.add_zero, Int32.sub_zero]
      exact this _
