/-! the reference: trying moves, whether it is over, why not -/
def overT (T : Nat → Nat) : Bool := decide (∀ w, w < T 1 → fulW T w = true → (mvW T w).isNone = true)
def fedW (T : Nat → Nat) (w : Nat) : Bool := match mvW T w with
  | none => false
  | some x => decide (0 < rowN x.2.2.2 (offN (T 1) (1 - T 2)) (T 1))
def canFd (T : Nat → Nat) : Bool := decide (∃ w, w < T 1 ∧ fulW T w = true ∧ fedW T w = true)
def whyW (T : Nat → Nat) (w : Nat) : Nat := if overT T = true then 5 else if onI T (T 2) w = false then 1 else if cT T (cI (T 1) (T 2) w) = 0 then 2 else if (mvW T w).isNone = true then 3 else if T 10 = 1 ∧ fedW T w = false ∧ canFd T = true then 4 else 0
def whyN (T : Nat → Nat) : Nat := if overT T = true then 5 else 1
theorem tuF_2 (μ : Mu) : ∀ i, (tuF μ i).2 = μ.2 := by
  intro i
  induction i with
  | zero => rfl
  | succ i ih => rw [tuF, si_d, ih]
theorem cI_own2 {sz s w : Nat} (hw : w < sz) : cI sz s w = offN sz s + w := by unfold cI; rw [if_pos hw]
theorem KR_TD {μ μ' : Mu} {T : Nat → Nat} (h : KR μ μ') (hT : TD μ T) : TD μ' T := TD_o hT (h.1 172 (by decide) (by decide))
theorem WF_z {T : Nat → Nat} (h : WF T) : ∀ p, p < 12 → (T 3).testBit p = true → cT T p = 0 := by
  intro p hp hl
  unfold cT
  rw [if_pos hp]
  exact h.2.2.2.2.2.2 p hp (Or.inl hl)
theorem tries_s (n : Nat) (μ : Mu) {T : Nat → Nat} {w : Nat} (hW : WF T) (hT : TD μ T) (hw : w < T 1) (hf : fulW T w = true) (hn : 1000 < n) :
    Ok (X12_triesFrom n (nI (cI (T 1) (T 2) w)) μ) (fun _ μ' => KR μ μ' ∧ SRQ T (T 2) (cT T) w μ μ') := by
  have hB := hW.1
  obtain ⟨b1, b6, b3, bb⟩ := hB
  obtain ⟨on, hne⟩ := ful_t.mp hf
  unfold X12_triesFrom
  rw [bS (takesUp_s n μ (hT 1 (by decide)) (by omega) (by omega))]
  dsimp only
  have hk : KR μ (tuF μ (2 * T 1)) := ⟨fun o o1 o2 => by funext k; exact tuF_o μ o2 _, tuF_2 μ _, fun k hk => tuF_o μ (by decide) _⟩
  have hT' := KR_TD hk hT
  have hh : HD (T 1) (tuF μ (2 * T 1)) (cT T) := by
    intro p hp
    rw [tuF_h, if_pos hp, hT (13 + p) (by omega)]
    unfold cT
    rw [if_pos (by omega)]
  rw [hT' 2 (by decide)]
  refine Ok_b (sows_s n _ hW.1 hT' hW.2.1 hh hw on hne (WF_b hW) (WF_z hW) hn) ?_
  rintro a μ2 ⟨q1, q2, q3⟩
  dsimp only
  exact Ok_r ⟨hk.tr q1, hk.tr q1, q2, q3⟩
theorem mvW_c {T : Nat → Nat} (w : Nat) : mvW T w = none ∨ ∃ l k t c', mvW T w = some (l, k, t, c') := by
  cases e : mvW T w with
  | none => exact Or.inl rfl
  | some x => exact Or.inr ⟨x.1, x.2.1, x.2.2.1, x.2.2.2, rfl⟩
theorem isFull_w (n : Nat) (μ : Mu) {T : Nat → Nat} {p : Nat} (hW : WF T) (hT : TD μ T) (hp : p < 2 * T 1) : X12_isFull n (nI p) μ = some (b2i (decide (offN (T 1) (T 2) ≤ p ∧ p < offN (T 1) (T 2) + T 1) && fulW T (p - offN (T 1) (T 2))), μ) := by
  have hB := hW.1
  obtain ⟨b1, b6, b3, bb⟩ := hB
  have hb := WF_b hW
  have hle := sum_le (c := cT T) 14 p (by omega)
  have e13 : cT T p = T (13 + p) := by unfold cT; rw [if_pos (by omega)]
  rw [isFull_s n μ (pt := cT T) (hT 1 (by decide)) b1 (by omega) (hT 3 (by decide)) (by omega) (hT 2 (by decide)) hW.2.1 hp (by rw [hT (13 + p) (by omega), e13]) (by omega)]
  refine congrArg (fun x => some (b2i x, μ)) ?_
  by_cases q : offN (T 1) (T 2) ≤ p ∧ p < offN (T 1) (T 2) + T 1
  · have ec : cI (T 1) (T 2) (p - offN (T 1) (T 2)) = p := by rw [cI_own2 (by omega)]; omega
    rw [decide_eq_true q, Bool.true_and]
    unfold fulW onI
    rw [if_neg (by omega), ec]
    have es := (sd_off hW.2.1 hp).mpr q
    cases (T 3).testBit p with
    | true => rw [decide_eq_false (fun z => by simp at z)]; rfl
    | false =>
      rw [Bool.not_false, Bool.true_and]
      exact decide_eq_decide.mpr ⟨fun z => z.2.2, fun z => ⟨es, rfl, z⟩⟩
  · rw [decide_eq_false q, Bool.false_and, decide_eq_false]
    exact fun z => q ((sd_off hW.2.1 hp).mp z.1)
theorem isOver_s (n : Nat) (μ : Mu) {T : Nat → Nat} (hW : WF T) (hT : TD μ T) (hn : 1000 < n) : Ok (X12_isOver n μ) (fun a μ' => KR μ μ' ∧ a = b2i (overT T)) := by
  have hB := hW.1
  obtain ⟨b1, b6, b3, bb⟩ := hB
  have hoff := off_le (T 1) (T 2)
  unfold X12_isOver X12_isOver_2
  rw [i_0]
  refine Ok_lp1 (fun k x1 μ' => ∃ p, p ≤ 2 * T 1 ∧ k = 2 * T 1 - p ∧ x1 = nI p ∧ KR μ μ' ∧ ∀ w, w < T 1 → offN (T 1) (T 2) + w < p → fulW T w = true → (mvW T w).isNone = true) ?_ (2 * T 1) (by omega) ⟨0, by omega, by omega, rfl, KR.rf, fun w _ h => by omega⟩
  rintro K k x1 μ' ⟨p, hp, rfl, rfl, hk, hall⟩ hK
  have hT' := KR_TD hk hT
  unfold X12_isOver_2b X12_isOver_35
  rw [bS (pitMany_s n μ' (hT' 1 (by decide)))]
  dsimp only
  rw [ifLe (by omega) (by omega)]
  by_cases q : 2 * T 1 ≤ p
  · rw [if_pos q]
    refine Ok_r ⟨hk, ?_⟩
    have : overT T = true := by
      unfold overT
      rw [decide_eq_true_iff]
      intro w hw hf
      have := off_2 (sz := T 1) hW.2.1
      exact hall w hw (by omega) hf
    rw [this]
    rfl
  · rw [if_neg q, bS (isFull_w n μ' hW hT' (by omega))]
    dsimp only
    rw [i_1, nI_add]
    have next : ∀ μ2, KR μ μ2 → (∀ w, w < T 1 → offN (T 1) (T 2) + w = p → fulW T w = true → (mvW T w).isNone = true) → Ok (K (nI (p + 1)) μ2) (fun a μ' => KR μ μ' ∧ a = b2i (overT T)) := by
      intro μ2 hk2 hw2
      refine hK (2 * T 1 - (p + 1)) _ _ (by omega) ⟨p + 1, by omega, rfl, rfl, hk2, fun w w1 w2 w3 => ?_⟩
      by_cases z : offN (T 1) (T 2) + w = p
      · exact hw2 w w1 z w3
      · exact hall w w1 (by omega) w3
    by_cases c1 : offN (T 1) (T 2) ≤ p ∧ p < offN (T 1) (T 2) + T 1
    · rw [decide_eq_true c1, Bool.true_and]
      cases hf : fulW T (p - offN (T 1) (T 2)) with
      | false =>
        rw [if_pos (show b2i false = 0 from rfl)]
        refine next μ' hk (fun w w1 w2 w3 => ?_)
        rw [show p - offN (T 1) (T 2) = w by omega, w3] at hf
        exact absurd hf (by decide)
      | true =>
        rw [if_neg (show ¬ b2i true = 0 by decide)]
        have ep : p = cI (T 1) (T 2) (p - offN (T 1) (T 2)) := by rw [cI_own2 (by omega)]; omega
        rw [show X12_triesFrom n (nI p) μ' = X12_triesFrom n (nI (cI (T 1) (T 2) (p - offN (T 1) (T 2)))) μ' by rw [← ep]]
        refine Ok_b (tries_s n μ' hW hT' (by omega) hf hn) ?_
        rintro a μ2 ⟨k2, -, s2, s3⟩
        dsimp only
        rcases mvW_c (T := T) (p - offN (T 1) (T 2)) with hm | ⟨l, kk, t, c', hm⟩
        · rw [s2 hm, if_neg (show ¬ nI 1 = 0 by decide)]
          refine next μ2 (hk.tr k2) (fun w w1 w2 w3 => ?_)
          rw [show w = p - offN (T 1) (T 2) by omega, hm]
          rfl
        · rw [(s3 l kk t c' hm).1, if_pos (show nI 0 = 0 from rfl)]
          refine Ok_r ⟨hk.tr k2, ?_⟩
          have : overT T = false := by
            unfold overT
            rw [decide_eq_false_iff_not]
            intro h
            have := h (p - offN (T 1) (T 2)) (by omega) hf
            rw [hm] at this
            exact nomatch this
          rw [this]
          rfl
    · rw [decide_eq_false c1, Bool.false_and, if_pos (show b2i false = 0 from rfl)]
      exact next μ' hk (fun w w1 w2 w3 => by omega)
theorem canFeed_s (n : Nat) (μ : Mu) {T : Nat → Nat} (hW : WF T) (hT : TD μ T) (hn : 1000 < n) : Ok (X12_canFeed n μ) (fun a μ' => KR μ μ' ∧ a = b2i (canFd T)) := by
  have hB := hW.1
  obtain ⟨b1, b6, b3, bb⟩ := hB
  have hoff := off_le (T 1) (T 2)
  have hs := hW.2.1
  unfold X12_canFeed X12_canFeed_2
  rw [i_0]
  refine Ok_lp1 (fun k x1 μ' => ∃ p, p ≤ 2 * T 1 ∧ k = 2 * T 1 - p ∧ x1 = nI p ∧ KR μ μ' ∧ ∀ w, w < T 1 → offN (T 1) (T 2) + w < p → fulW T w = true → fedW T w = false) ?_ (2 * T 1) (by omega) ⟨0, by omega, by omega, rfl, KR.rf, fun w _ h => by omega⟩
  rintro K k x1 μ' ⟨p, hp, rfl, rfl, hk, hall⟩ hK
  have hT' := KR_TD hk hT
  unfold X12_canFeed_2b X12_canFeed_50
  rw [bS (pitMany_s n μ' (hT' 1 (by decide)))]
  dsimp only
  rw [ifLe (by omega) (by omega)]
  by_cases q : 2 * T 1 ≤ p
  · rw [if_pos q]
    refine Ok_r ⟨hk, ?_⟩
    have : canFd T = false := by
      unfold canFd
      rw [decide_eq_false_iff_not]
      rintro ⟨w, hw, hf, hd⟩
      have := off_2 (sz := T 1) hW.2.1
      rw [hall w hw (by omega) hf] at hd
      exact absurd hd (by decide)
    rw [this]
    rfl
  · rw [if_neg q, bS (isFull_w n μ' hW hT' (by omega))]
    dsimp only
    rw [i_1, nI_add]
    have next : ∀ μ2, KR μ μ2 → (∀ w, w < T 1 → offN (T 1) (T 2) + w = p → fulW T w = true → fedW T w = false) → Ok (K (nI (p + 1)) μ2) (fun a μ' => KR μ μ' ∧ a = b2i (canFd T)) := by
      intro μ2 hk2 hw2
      refine hK (2 * T 1 - (p + 1)) _ _ (by omega) ⟨p + 1, by omega, rfl, rfl, hk2, fun w w1 w2 w3 => ?_⟩
      by_cases z : offN (T 1) (T 2) + w = p
      · exact hw2 w w1 z w3
      · exact hall w w1 (by omega) w3
    by_cases c1 : offN (T 1) (T 2) ≤ p ∧ p < offN (T 1) (T 2) + T 1
    · rw [decide_eq_true c1, Bool.true_and]
      cases hf : fulW T (p - offN (T 1) (T 2)) with
      | false =>
        rw [if_pos (show b2i false = 0 from rfl)]
        refine next μ' hk (fun w w1 w2 w3 => ?_)
        rw [show p - offN (T 1) (T 2) = w by omega, w3] at hf
        exact absurd hf (by decide)
      | true =>
        rw [if_neg (show ¬ b2i true = 0 by decide)]
        have ep : p = cI (T 1) (T 2) (p - offN (T 1) (T 2)) := by rw [cI_own2 (by omega)]; omega
        rw [show X12_triesFrom n (nI p) μ' = X12_triesFrom n (nI (cI (T 1) (T 2) (p - offN (T 1) (T 2)))) μ' by rw [← ep]]
        refine Ok_b (tries_s n μ' hW hT' (by omega) hf hn) ?_
        rintro a μ2 ⟨k2, -, s2, s3⟩
        dsimp only
        rcases mvW_c (T := T) (p - offN (T 1) (T 2)) with hm | ⟨l, kk, t, c', hm⟩
        · rw [s2 hm, if_neg (show ¬ nI 1 = 0 by decide)]
          refine next μ2 (hk.tr k2) (fun w w1 w2 w3 => ?_)
          rw [show w = p - offN (T 1) (T 2) by omega]
          unfold fedW
          rw [hm]
        · obtain ⟨g1, g2, g3, g4, g5, g6, g7⟩ := s3 l kk t c' hm
          have hT2 := KR_TD k2 hT'
          rw [g1, if_pos (show nI 0 = 0 from rfl), hT2 2 (by decide), pk_sub (by omega), bS (sum_row n μ2 (hT2 1 (by decide)) b6 (by omega) g7 (by omega))]
          dsimp only
          obtain ⟨on, hne⟩ := ful_t.mp hf
          have hsum := (mv_p b6 b1 hs (by omega) on hne hm).2.2.1
          have hrow : rowN c' (offN (T 1) (1 - T 2)) (T 1) < 1000 := by
            have q0 := off_le (T 1) (1 - T 2)
            have q1 := row_b (c := c') (b := offN (T 1) (1 - T 2)) (T 1)
            have q2 := sum_mo (c := c') 14 (show offN (T 1) (1 - T 2) + T 1 ≤ 14 by omega)
            have q3 := WF_b hW
            omega
          rw [i_0, ifLe (by omega) (by decide)]
          by_cases q0 : rowN c' (offN (T 1) (1 - T 2)) (T 1) ≤ 0
          · rw [if_pos q0]
            refine next μ2 (hk.tr k2) (fun w w1 w2 w3 => ?_)
            rw [show w = p - offN (T 1) (T 2) by omega]
            unfold fedW
            rw [hm]
            dsimp only
            rw [decide_eq_false (by omega)]
          · rw [if_neg q0]
            refine Ok_r ⟨hk.tr k2, ?_⟩
            have : canFd T = true := by
              unfold canFd
              rw [decide_eq_true_iff]
              refine ⟨p - offN (T 1) (T 2), by omega, hf, ?_⟩
              unfold fedW
              rw [hm]
              dsimp only
              rw [decide_eq_true (by omega)]
            rw [this]
            rfl
    · rw [decide_eq_false c1, Bool.false_and, if_pos (show b2i false = 0 from rfl)]
      exact next μ' hk (fun w w1 w2 w3 => by omega)
theorem whyNot_x (n : Nat) (μ : Mu) {T : Nat → Nat} {v : Int32} (hW : WF T) (hT : TD μ T) (hn : 1000 < n) (hv : ∀ w, w < T 1 → v ≠ nI (offN (T 1) (T 2) + w)) : Ok (X12_whyNot n v μ) (fun a μ' => KR μ μ' ∧ a = nI (whyN T)) := by
  have hB := hW.1
  obtain ⟨b1, b6, b3, bb⟩ := hB
  unfold X12_whyNot X12_whyNot_39
  refine Ok_b (isOver_s n μ hW hT hn) ?_
  rintro a μ2 ⟨k2, rfl⟩
  have hT2 := KR_TD k2 hT
  dsimp only
  unfold whyN
  cases ho : overT T with
  | true => rw [if_neg (show ¬ b2i true = 0 by decide), if_pos rfl]; exact Ok_r ⟨k2, rfl⟩
  | false =>
    rw [if_pos (show b2i false = 0 from rfl), if_neg (by decide), bS (isPit_s n μ2 v (hT2 1 (by decide)) b1 (by omega))]
    dsimp only
    by_cases c : 0 ≤ v ∧ v < nI (2 * T 1)
    · rw [decide_eq_true c, if_neg (show ¬ b2i true = 0 by decide)]
      obtain ⟨p, hp, rfl⟩ := nI_of (Int32.not_lt.mpr c.1)
      have hp2 := (nI_ltI hp (by omega)).mp c.2
      rw [bS (sideOf_d n μ2 (hT2 1 (by decide)) (by omega) hp)]
      dsimp only
      have hsd := sdN_lt (T 1) p
      have h2 := hW.2.1
      rw [hT2 2 (by decide), ifEq (by omega) (by omega), if_neg (fun z => by
        have := (sd_off hW.2.1 hp2).mp z
        exact hv (p - offN (T 1) (T 2)) (by omega) (by rw [show offN (T 1) (T 2) + (p - offN (T 1) (T 2)) = p by omega]))]
      exact Ok_r ⟨k2, rfl⟩
    · rw [decide_eq_false c, if_pos (show b2i false = 0 from rfl)]
      exact Ok_r ⟨k2, rfl⟩
theorem whyNot_w (n : Nat) (μ : Mu) {T : Nat → Nat} {w : Nat} (hW : WF T) (hT : TD μ T) (hn : 1000 < n) (hw : w < T 1) : Ok (X12_whyNot n (nI (offN (T 1) (T 2) + w)) μ) (fun a μ' => KR μ μ' ∧ a = nI (whyW T w)) := by
  have hB := hW.1
  obtain ⟨b1, b6, b3, bb⟩ := hB
  have hs := hW.2.1
  have hoff := off_le (T 1) (T 2)
  have hb := WF_b hW
  unfold X12_whyNot X12_whyNot_39
  refine Ok_b (isOver_s n μ hW hT hn) ?_
  rintro a μ2 ⟨k2, rfl⟩
  have hT2 := KR_TD k2 hT
  dsimp only
  unfold whyW
  cases ho : overT T with
  | true => rw [if_neg (show ¬ b2i true = 0 by decide), if_pos rfl]; exact Ok_r ⟨k2, rfl⟩
  | false =>
    have ec : cI (T 1) (T 2) w = offN (T 1) (T 2) + w := cI_own2 hw
    have e13 : cT T (offN (T 1) (T 2) + w) = T (13 + (offN (T 1) (T 2) + w)) := by unfold cT; rw [if_pos (by omega)]
    have hle := sum_le (c := cT T) 14 (offN (T 1) (T 2) + w) (by omega)
    have eon : onI T (T 2) w = !(T 3).testBit (offN (T 1) (T 2) + w) := by unfold onI; rw [if_neg (by omega), ec]
    have hps : sdN (T 1) (offN (T 1) (T 2) + w) = T 2 := (sd_off hs (by omega)).mpr (by omega)
    rw [if_pos (show b2i false = 0 from rfl), if_neg (show ¬ false = true by decide), bS (isPit_s n μ2 _ (hT2 1 (by decide)) b1 (by omega))]
    dsimp only
    rw [decide_eq_true ⟨nI_pos' (by omega), nI_lt (by omega) (by omega)⟩, if_neg (show ¬ b2i true = 0 by decide), bS (sideOf_d n μ2 (hT2 1 (by decide)) (by omega) (by omega))]
    dsimp only
    rw [hps, hT2 2 (by decide), if_pos rfl, bS (isLacking_s n μ2 (hT2 3 (by decide)) (by omega) (by omega))]
    dsimp only
    rw [eon, ec]
    cases hl : (T 3).testBit (offN (T 1) (T 2) + w) with
    | true =>
      rw [if_neg (show ¬ b2i true = 0 by decide), if_pos (show (!true) = false from rfl)]
      exact Ok_r ⟨k2, rfl⟩
    | false =>
      rw [if_pos (show b2i false = 0 from rfl), if_neg (show ¬ (!false) = false by decide), i_13, nI_add, gd_n (by omega) (by decide), nI_clamp (by omega), hT2 _ (by omega), ← e13, i_0, ifEq (by omega) (by decide)]
      by_cases c0 : cT T (offN (T 1) (T 2) + w) = 0
      · rw [if_pos c0, if_pos c0]
        exact Ok_r ⟨k2, rfl⟩
      · rw [if_neg c0, if_neg c0, ← ec]
        have hf : fulW T w = true := ful_t.mpr ⟨by rw [eon, hl]; rfl, by rw [ec]; omega⟩
        refine Ok_b (tries_s n μ2 hW hT2 hw hf hn) ?_
        rintro a μ3 ⟨k3, -, s2, s3⟩
        have hT3 := KR_TD k3 hT2
        dsimp only
        unfold X12_whyNot_106 X12_whyNot_107
        rcases mvW_c (T := T) w with hm | ⟨l, kk, t, c', hm⟩
        · rw [s2 hm, if_neg (show ¬ nI 1 = nI 0 by decide), hm, if_pos (show (none : Option (Nat × Nat × Nat × (Nat → Nat))).isNone = true from rfl)]
          exact Ok_r ⟨k2.tr k3, rfl⟩
        · obtain ⟨g1, g2, g3, g4, g5, g6, g7⟩ := s3 l kk t c' hm
          obtain ⟨on, hne⟩ := ful_t.mp hf
          have hsum := (mv_p b6 b1 hs hw on hne hm).2.2.1
          have hrow : rowN c' (offN (T 1) (1 - T 2)) (T 1) < 1000 := by
            have q0 := off_le (T 1) (1 - T 2)
            have q1 := row_b (c := c') (b := offN (T 1) (1 - T 2)) (T 1)
            have q2 := sum_mo (c := c') 14 (show offN (T 1) (1 - T 2) + T 1 ≤ 14 by omega)
            omega
          have efed : fedW T w = decide (0 < rowN c' (offN (T 1) (1 - T 2)) (T 1)) := by unfold fedW; rw [hm]
          have h10 : T 10 < 2 := bb.2.2.2.2.2.2.1
          rw [g1, if_pos (show nI 0 = nI 0 from rfl), hT3 10 (by decide), hT3 2 (by decide), i_1, ifEq (by omega) (by decide), pk_sub (by omega), if_neg (show ¬ (mvW T w).isNone = true by rw [hm]; exact fun h => Bool.noConfusion h), efed]
          by_cases c10 : T 10 = 1
          · rw [if_pos c10, bS (sum_row n μ3 (hT3 1 (by decide)) b6 (by omega) g7 (by omega))]
            dsimp only
            rw [ifEq (by omega) (by decide)]
            by_cases cr : rowN c' (offN (T 1) (1 - T 2)) (T 1) = 0
            · rw [if_pos cr]
              refine Ok_b (canFeed_s n μ3 hW hT3 hn) ?_
              rintro a μ4 ⟨k4, rfl⟩
              dsimp only
              cases hcf : canFd T with
              | true =>
                rw [if_neg (show ¬ b2i true = nI 0 by decide), if_pos ⟨c10, decide_eq_false (by omega), rfl⟩]
                exact Ok_r ⟨(k2.tr k3).tr k4, rfl⟩
              | false =>
                rw [if_pos (show b2i false = nI 0 from rfl), if_neg (fun z => absurd z.2.2 (by decide))]
                exact Ok_r ⟨(k2.tr k3).tr k4, rfl⟩
            · rw [if_neg cr, if_neg (fun z => by
                have := of_decide_eq_false z.2.1
                omega)]
              exact Ok_r ⟨k2.tr k3, rfl⟩
          · rw [if_neg c10, if_neg (fun z => c10 z.1)]
            exact Ok_r ⟨k2.tr k3, rfl⟩
