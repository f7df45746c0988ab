/-! moves by their pits; call: pits -/
def canP (T : Nat → Nat) (p : Nat) : Bool := decide (∃ w, w < T 1 ∧ p = offN (T 1) (T 2) + w ∧ canW T w = true)
theorem canP_t {T : Nat → Nat} {p : Nat} : canP T p = true ↔ ∃ w, w < T 1 ∧ p = offN (T 1) (T 2) + w ∧ canW T w = true := decide_eq_true_iff
theorem CB_p {T : Nat → Nat} {B p : Nat} (h : CB T B) : B.testBit p = canP T p := by
  cases e : canP T p with
  | true => exact (h.2 p).mpr (canP_t.mp e)
  | false =>
    cases e2 : B.testBit p with
    | false => rfl
    | true => have := canP_t.mpr ((h.2 p).mp e2); rw [e] at this; exact Bool.noConfusion this
theorem canP_lt {T : Nat → Nat} {p : Nat} (h : canP T p = true) : p < 2 * T 1 := by
  obtain ⟨w, a, b, _⟩ := canP_t.mp h
  have := off_le (T 1) (T 2)
  omega
theorem whyP {T : Nat → Nat} {p : Nat} (b6 : T 1 < 7) (hp : p < 2 ^ 31) : whyI T (nI p) = 0 ↔ canP T p = true := by
  have hol := off_le (T 1) (T 2)
  rw [canP_t]
  constructor
  · intro h
    obtain ⟨w, a, b, c⟩ := whyI_0 b6 h
    exact ⟨w, a, nI_inj hp (by omega) b, c⟩
  · rintro ⟨w, a, rfl, c⟩
    rw [whyI_w b6 a]
    exact (why_0 a).mpr c
/-- asking the reference of a pit -/
theorem ask_s (n : Nat) (μ : Mu) {T : Nat → Nat} {p : Nat} (hW : WF T) (hT : TD μ T) (hp : p < 2 ^ 31) (hn : 1000 < n) : Ok (X12_whyNot n (nI p) μ) (fun a μ' => KR μ μ' ∧ (a = 0 ↔ canP T p = true)) := by
  refine Ok_m (whyNotI n μ (nI p) hW hT hn) ?_
  rintro a μ' ⟨k, rfl⟩
  refine ⟨k, ?_⟩
  rw [← whyP hW.1.2.1 hp]
  have := whyI_lt (T := T) (v := nI p)
  exact ⟨fun q => (nI_eq (by omega) (by decide)).mp q, fun q => by rw [q]; rfl⟩
def ntB (T : Nat → Nat) (what w : Nat) : Bool := match mvW T w with
  | none => false
  | some x => if what = 0 then decide (x.1 = T 1) else if what = 1 then decide (0 < x.2.2.1) else decide (rowN x.2.2.2 (offN (T 1) (1 - T 2)) (T 1) = 0)
def ptN (T : Nat → Nat) (what : Nat) : Nat → Nat
  | 0 => 0
  | p + 1 => if canP T p = true ∧ ntB T what (p - offN (T 1) (T 2)) = true then ptN T what p ||| 2 ^ p else ptN T what p
theorem pt_y {T : Nat → Nat} {what p : Nat} (h : canP T p = true ∧ ntB T what (p - offN (T 1) (T 2)) = true) : ptN T what (p + 1) = ptN T what p ||| 2 ^ p := if_pos h
theorem pt_n {T : Nat → Nat} {what p : Nat} (h : ¬ (canP T p = true ∧ ntB T what (p - offN (T 1) (T 2)) = true)) : ptN T what (p + 1) = ptN T what p := if_neg h
theorem pt_12 {T : Nat → Nat} {what : Nat} : ∀ j, 2 * T 1 ≤ j → ptN T what j = ptN T what (2 * T 1) := by
  intro j
  induction j with
  | zero => intro h; rw [show 2 * T 1 = 0 by omega]
  | succ j ih =>
    intro h
    by_cases z : 2 * T 1 = j + 1
    · rw [z]
    · rw [pt_n (fun q => by have := canP_lt q.1; omega), ih (by omega)]
theorem notable_s (n : Nat) (μ : Mu) {T : Nat → Nat} {p what : Nat} (hT : W1 T) (hN : NOW μ T) (hp : canP T p = true) (hw : what ≤ 2) (hn : 1000 < n) :
    Ok (X11_isNotable n (nI p) (nI what) μ) (fun a μ' => a = b2i (ntB T what (p - offN (T 1) (T 2))) ∧ KP (fun x => x = 6 ∨ x = 55 ∨ x = 56) μ μ') := by
  have hW := hT.1
  have b6 := hW.1.2.1
  have b1 := hW.1.1
  obtain ⟨w, hw1, rfl, hc⟩ := canP_t.mp hp
  obtain ⟨hf, l, k, t, c', hm⟩ := can_fs hc
  obtain ⟨m1, m2, m3, m4, m5, m6⟩ := mv_p b6 b1 hW.2.1 hw1 (ful_t.mp hf).1 (ful_t.mp hf).2 hm
  have cl := cI_lt (T 1) b6 b1 (T 2) hW.2.1 l m1
  obtain ⟨hG, _, hS⟩ := hN
  have hlt := row_lt hW hw1 hf hm (1 - T 2)
  have ht : t < 2 ^ 31 := by
    have := sum_le (c := c') 14 (12 + T 2) (by have := hW.2.1; omega)
    have := WF_b hW
    omega
  unfold X11_isNotable
  refine Ok_b (copy_s n μ (o := 55) (o1 := 53) (by decide) (by decide) (by decide) (by decide) (by decide) hS.1 hS.2) ?_
  rintro _ μ1 ⟨c1, c2, c3⟩
  dsimp only
  refine Ok_b (sowT_s n μ1 (T := T) (o := 55) (by decide) (by decide) hW (GE_o hG.1.1 (c3.1 1 (by omega)) (c3.1 2 (by omega)) (c3.1 3 (by omega))) ⟨c1, c2⟩ hw1 hf hn) ?_
  rintro a μ2 ⟨k2, _, q⟩
  obtain ⟨_, q2, q3, _, q5, _⟩ := q l k t c' hm
  dsimp only
  have kp : KP (fun x => x = 6 ∨ x = 55 ∨ x = 56) μ μ2 := (c3.up (fun o q => by omega)).tr k2 (fun o q => by omega)
  have ent : ntB T what (offN (T 1) (T 2) + w - offN (T 1) (T 2)) = if what = 0 then decide (l = T 1) else if what = 1 then decide (0 < t) else decide (rowN c' (offN (T 1) (1 - T 2)) (T 1) = 0) := by
    rw [Nat.add_sub_cancel_left]
    unfold ntB
    rw [hm]
  unfold X11_isNotable_69 X11_isNotable_85 X11_isNotable_117
  rw [ent, i_0, i_1, i_12, ifEq (by omega) (by decide), ifEq (by omega) (by decide), q3, q5, ifLt (by omega) (by decide)]
  by_cases z0 : what = 0
  · rw [if_pos z0, if_pos z0]
    by_cases zl : l = T 1
    · rw [if_neg (by rw [zl, cl.2.2]; omega), decide_eq_true zl]; exact Ok_r ⟨rfl, kp⟩
    · rw [if_pos (by have := cl.1 zl; omega), decide_eq_false zl]; exact Ok_r ⟨rfl, kp⟩
  · rw [if_neg z0, if_neg z0]
    by_cases z1 : what = 1
    · rw [if_pos z1, if_pos z1, show nI 0 = nI 0 from rfl, ifLe ht (by decide)]
      by_cases zt : t ≤ 0
      · rw [if_pos zt, decide_eq_false (by omega)]; exact Ok_r ⟨rfl, kp⟩
      · rw [if_neg zt, decide_eq_true (by omega)]; exact Ok_r ⟨rfl, kp⟩
    · rw [if_neg z1, if_neg z1, kp.1 53 (by omega), hS.1, kp.1 1 (by omega), hG.1.1.1.1, pk_sub (by have := hW.2.1; omega)]
      have ce : CE μ2 55 c' := fun x hx => by have := q2.2 x hx; rw [cT_up hx] at this; exact this
      rw [bS (inRow_s n μ2 (by decide) b6 (show 1 - T 2 < 2 by omega) ce (by omega))]
      dsimp only
      rw [ifEq (by omega) (by decide)]
      by_cases zr : rowN c' (offN (T 1) (1 - T 2)) (T 1) = 0
      · rw [if_pos zr, decide_eq_true zr]; exact Ok_r ⟨rfl, kp⟩
      · rw [if_neg zr, decide_eq_false zr]; exact Ok_r ⟨rfl, kp⟩
theorem call_pits (n : Nat) (μ : Mu) (v : Int32) (h : INV μ) (hn : 1000 < n) : CBx (L_pits n v μ) (X12_pits n v) := by
  obtain ⟨T, hI⟩ := h
  have hT := hI.1
  have hW := hT.1
  have b6 := hW.1.2.1
  have hN := hI.2.2.1
  by_cases hv : inR v 0 2
  · obtain ⟨what, _, hw, rfl⟩ := inR_d (by decide) (by decide) hv
    refine CB_mk (x := .inl (nI (ptN T what 12))) (k := 0) hI ?_ (fun r e => fr_X11_pits n _ μ r e) (by decide +kernel) (fun μ1 e => ⟨_, by unfold L_pits; rw [e], fun v q => by rw [Sum.inl.inj q], fun e q => nomatch q⟩) (Or.inl ⟨_, rfl⟩) (fun μ1 h1 ag => ?_) (fun μ1 r e => fr_X12_pits n _ μ1 r e) (by decide +kernel)
    · unfold X11_pits
      rw [i_2, wh_yes (by decide) hw]
      refine Ok_b (choices_s n μ os53 hW hN.1.1.1 hN.2.2 hn) ?_
      rintro _ μ1 ⟨k1, B, rfl, cb⟩
      dsimp only
      have n1 : NOW μ1 T := NOW_ag hN (Fr_ag (RS_fr k1) (by decide +kernel))
      unfold X11_pits_36
      rw [i_0]
      refine Ok_lp3 (fun f x2 x3 x4 μ' => ∃ p, p ≤ 12 ∧ f = 12 - p ∧ x2 = nI B ∧ x3 = nI (ptN T what p) ∧ x4 = nI p ∧ NOW μ' T) ?_ 12 (by omega) ⟨0, by omega, rfl, rfl, rfl, rfl, n1⟩
      rintro K f x2 x3 x4 μ2 ⟨p, hp, rfl, rfl, rfl, rfl, n2⟩ hK
      unfold X11_pits_36b X11_pits_69
      rw [i_12, ifLe (by decide) (by omega)]
      by_cases c : 12 ≤ p
      · obtain rfl : p = 12 := by omega
        rw [if_pos c]
        exact Ok_r rfl
      · rw [if_neg c, bS (has_s n μ2 (Nat.lt_trans cb.1 (by decide)) (by omega)), CB_p cb]
        dsimp only
        rw [i_1, nI_add]
        cases hc : canP T p with
        | false =>
          rw [if_pos (show b2i false = 0 from rfl)]
          exact hK (12 - (p + 1)) _ _ _ _ (by omega) ⟨p + 1, by omega, rfl, rfl, by rw [pt_n (fun q => by rw [hc] at q; exact Bool.noConfusion q.1)], rfl, n2⟩
        | true =>
          rw [if_neg (show ¬ b2i true = 0 by decide)]
          refine Ok_b (notable_s n μ2 hT n2 hc hw hn) ?_
          rintro _ μ3 ⟨rfl, k3⟩
          dsimp only
          have n3 : NOW μ3 T := NOW_ag n2 (Fr_ag (L := [(6, 6, 9999), (55, 56, 9999)]) (KP_fr k3 (fun o q => by
            rcases q with rfl | rfl | rfl
            · exact ⟨6, 6, by decide, by decide, by decide⟩
            · exact ⟨55, 56, by decide, by decide, by decide⟩
            · exact ⟨55, 56, by decide, by decide, by decide⟩)) (by decide +kernel))
          cases hb : ntB T what (p - offN (T 1) (T 2)) with
          | false =>
            rw [if_pos (show b2i false = 0 from rfl)]
            exact hK (12 - (p + 1)) _ _ _ _ (by omega) ⟨p + 1, by omega, rfl, rfl, by rw [pt_n (fun q => by rw [hb] at q; exact Bool.noConfusion q.2)], rfl, n3⟩
          | true =>
            rw [if_neg (show ¬ b2i true = 0 by decide), set_bit (by omega)]
            exact hK (12 - (p + 1)) _ _ _ _ (by omega) ⟨p + 1, by omega, rfl, rfl, by rw [pt_y ⟨hc, hb⟩], rfl, n3⟩
    · unfold X12_pits X12_pits_18
      rw [bS (within_l n μ1 (b := 2) (y := 2) (by decide) rfl hv)]
      dsimp only
      rw [if_neg (show ¬ b2i true = 0 by decide)]
      have t1 := td_th (v := 0) h1.2.1
      unfold X12_pits_25
      rw [pt_12 12 (by omega)]
      generalize hμ : si μ1 171 5 0 = μ0 at t1
      have z50 : μ0.1 171 5 = 0 := by rw [← hμ, si_a]
      rw [i_0]
      refine Ok_lp2 (fun f x2 x3 μ' => ∃ p, p ≤ 2 * T 1 ∧ f = 2 * T 1 - p ∧ x2 = nI (ptN T what p) ∧ x3 = nI p ∧ TD μ' T ∧ μ'.1 171 5 = 0) ?_ (2 * T 1) (by omega) ⟨0, by omega, rfl, rfl, rfl, t1, z50⟩
      rintro K f x2 x3 μ2 ⟨p, hp, rfl, rfl, rfl, t2, z5⟩ hK
      unfold X12_pits_25b X12_pits_118 X12_pits_103 X12_pits_109 X12_pits_110 X12_pits_112
      rw [bS (pitMany_s n μ2 (t2 1 (by omega)))]
      dsimp only
      rw [ifLe (by omega) (by omega)]
      by_cases c : 2 * T 1 ≤ p
      · obtain rfl : p = 2 * T 1 := by omega
        rw [if_pos c]
        exact Ok_r ⟨z5, fun v q => Sum.inl.inj q, t2⟩
      · rw [if_neg c, z5, if_pos (show (0 : Int32) = 0 from rfl)]
        refine Ok_b (ask_s n μ2 hW t2 (by omega) hn) ?_
        rintro a μ3 ⟨kr, ha⟩
        dsimp only
        have t3 := KR_TD kr t2
        have z53 : μ3.1 171 5 = 0 := by rw [kr.2.2 5 (by omega)]; exact z5
        cases hc : canP T p with
        | false =>
          rw [if_neg (fun q => by rw [ha.mp q] at hc; exact Bool.noConfusion hc), i_1, nI_add]
          exact hK (2 * T 1 - (p + 1)) _ _ _ (by omega) ⟨p + 1, by omega, rfl, by rw [pt_n (fun q => by rw [hc] at q; exact Bool.noConfusion q.1)], rfl, t3, z53⟩
        | true =>
          obtain ⟨w, hw1, ew, hcw⟩ := canP_t.mp hc
          obtain ⟨hf, l, k, t, c', hm⟩ := can_fs hcw
          have b1 := hW.1.1
          obtain ⟨m1, m2, m3, m4, m5, m6⟩ := mv_p b6 b1 hW.2.1 hw1 (ful_t.mp hf).1 (ful_t.mp hf).2 hm
          have ht : t < 2 ^ 31 := by
            have := sum_le (c := c') 14 (12 + T 2) (by have := hW.2.1; omega)
            have := WF_b hW
            omega
          have hlt := row_lt hW hw1 hf hm (1 - T 2)
          rw [if_pos (ha.mpr hc)]
          have et : nI p = nI (cI (T 1) (T 2) w) := by rw [cI_own2 hw1, ew]
          rw [et]
          refine Ok_b (tries_s n μ3 hW t3 hw1 hf hn) ?_
          rintro _ μ4 ⟨k4, sr⟩
          dsimp only
          rw [← et]
          obtain ⟨s1, s2, s3, s4, s5, s6, s7⟩ := sr.2.2 l k t c' hm
          have t4 := KR_TD k4 t3
          have z54 : μ4.1 171 5 = 0 := by rw [k4.2.2 5 (by omega)]; exact z53
          have ent : ntB T what (p - offN (T 1) (T 2)) = if what = 0 then decide (l = T 1) else if what = 1 then decide (0 < t) else decide (rowN c' (offN (T 1) (1 - T 2)) (T 1) = 0) := by
            rw [ew, Nat.add_sub_cancel_left]
            unfold ntB
            rw [hm]
          have yes : ∀ μ5, TD μ5 T → μ5.1 171 5 = 0 → ntB T what (p - offN (T 1) (T 2)) = true → Ok (K (nI (ptN T what p) ||| (nI 1 <<< (nI p &&& (31 : Int32)))) (nI p + nI 1) μ5) (fun b μ2 => μ2.1 171 5 = 0 ∧ (∀ v, (Sum.inl (nI (ptN T what (2 * T 1))) : Int32 ⊕ Nat) = .inl v → b = v) ∧ TD μ2 T) := by
            intro μ5 t5 z55 hb
            rw [set_bit (by omega), nI_add]
            exact hK (2 * T 1 - (p + 1)) _ _ _ (by omega) ⟨p + 1, by omega, rfl, by rw [pt_y ⟨hc, hb⟩], rfl, t5, z55⟩
          have no : ∀ μ5, TD μ5 T → μ5.1 171 5 = 0 → ntB T what (p - offN (T 1) (T 2)) = false → Ok (K (nI (ptN T what p) ||| nI 0) (nI p + nI 1) μ5) (fun b μ2 => μ2.1 171 5 = 0 ∧ (∀ v, (Sum.inl (nI (ptN T what (2 * T 1))) : Int32 ⊕ Nat) = .inl v → b = v) ∧ TD μ2 T) := by
            intro μ5 t5 z55 hb
            rw [fa_or, Nat.or_zero, nI_add]
            exact hK (2 * T 1 - (p + 1)) _ _ _ (by omega) ⟨p + 1, by omega, rfl, by rw [pt_n (fun q => by rw [hb] at q; exact Bool.noConfusion q.2)], rfl, t5, z55⟩
          have crl := cR_lt (T 1) b6 b1 (T 2) hW.2.1 l m1
          have cl := cI_lt (T 1) b6 b1 (T 2) hW.2.1 l m1
          rw [ent] at yes no
          rw [i_0, i_1, i_100, ifEq (by omega) (by decide), s2, ifEq (by omega) (by decide), ifEq (by omega) (by decide), s4, ifLe ht (by decide)]
          by_cases z0 : what = 0
          · rw [if_pos z0] at yes no
            rw [if_pos z0]
            unfold cR
            by_cases zl : l = T 1
            · rw [if_pos zl, if_pos rfl]; exact yes μ4 t4 z54 (decide_eq_true zl)
            · rw [if_neg zl, if_neg (show ¬ cI (T 1) (T 2) l = 100 by omega)]; exact no μ4 t4 z54 (decide_eq_false zl)
          · rw [if_neg z0] at yes no
            rw [if_neg z0]
            by_cases z1 : what = 1
            · rw [if_pos z1] at yes no
              rw [if_pos z1]
              by_cases zt : t ≤ 0
              · rw [if_pos zt]; exact no μ4 t4 z54 (decide_eq_false (by omega))
              · rw [if_neg zt]; exact yes μ4 t4 z54 (decide_eq_true (by omega))
            · rw [if_neg z1] at yes no
              rw [if_neg z1, t4 2 (by omega), pk_sub (by have := hW.2.1; omega), bS (sum_row n μ4 (t4 1 (by omega)) b6 (show 1 - T 2 < 2 by omega) s7 (by omega))]
              dsimp only
              rw [ifEq (by omega) (by decide)]
              by_cases zr : rowN c' (offN (T 1) (1 - T 2)) (T 1) = 0
              · rw [if_pos zr]; exact yes μ4 t4 z54 (decide_eq_true zr)
              · rw [if_neg zr]; exact no μ4 t4 z54 (decide_eq_false zr)
  · refine CB_mk (x := .inr 1) (k := 1) hI ?_ (fun r e => fr_X11_pits n _ μ r e) (by decide +kernel) (fun μ1 e => ⟨μ1, by unfold L_pits; rw [e]; rfl, fun v q => (nomatch q), fun e q => rfl⟩) (Or.inr (by decide)) (fun μ1 h1 ag => ?_) (fun μ1 r e => fr_X12_pits n _ μ1 r e) (by decide +kernel)
    · unfold X11_pits X11_pits_9
      rw [i_2, wh_no (by decide) hv]
      exact Ok_r rfl
    · unfold X12_pits X12_pits_18
      rw [bS (within_r n μ1 (b := 2) (y := 2) (by decide) rfl hv)]
      dsimp only
      rw [if_pos (show b2i false = 0 from rfl)]
      have t1 := td_th (v := 1) h1.2.1
      have b1 := hW.1.1
      unfold X12_pits_25
      obtain ⟨n', rfl⟩ : ∃ n', n = n' + 1 := ⟨n - 1, by omega⟩
      rw [lpF_s]
      unfold X12_pits_25b X12_pits_118
      rw [bS (pitMany_s _ _ (t1 1 (by omega)))]
      dsimp only
      rw [i_0, ifLe (by omega) (by decide), if_neg (by omega), si_a, if_neg (by decide)]
      exact Ok_r ⟨si_a, fun v q => (nomatch q), t1⟩
