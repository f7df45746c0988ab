/-! calls: ofPlace, count -/
theorem ofP_97 (n : Nat) (μ : Mu) (a b c d : Int32) (h : ¬ μ.1 171 5 ≤ 0) : X12_ofPlace_97 n a b c d μ = some (0, μ) := by
  unfold X12_ofPlace_97
  rw [if_neg h]
theorem ofP_65 (n : Nat) (μ : Mu) (a b c d k : Int32) (h0 : ¬ k = 0) (h : ¬ k ≤ 0) : X12_ofPlace_65 n a b c d k μ = some (0, si μ 171 5 k) := by
  unfold X12_ofPlace_65
  rw [si_a, if_neg h0]
  exact ofP_97 n _ a b c d (by rw [si_a]; exact h)
theorem call_ofPlace (n : Nat) (μ : Mu) (sd s k i : Int32) (h : INV μ) (hn : 1000 < n) : CBx (L_ofPlace n sd s k i μ) (X12_ofPlace n sd s k i) := by
  obtain ⟨T, hI⟩ := h
  have hW := hI.1.1
  obtain ⟨b1, b6, b3, _⟩ := id hW.1
  have hop := opn_le (T := T)
  obtain ⟨hG, _, hS⟩ := id hI.2.2.1
  rcases side_d sd with ⟨sd, hsd, rfl⟩ | ⟨hs1, hs2⟩
  · by_cases hr : inR s 0 40
    · obtain ⟨s, _, hs, rfl⟩ := inR_d (by decide) (by decide) hr
      have hw := Wn_lt (m := opnN T) (s := s) (by omega) hs
      -- the reference up to the positions
      have ref : ∀ μ1, INT μ1 T → ∀ {Q : Int32 → Mu → Prop}, (∀ μ2, TD μ2 T → Ok (if Wn (opnN T) s ≤ 6000 then (X12_positionsOf n (nI s) μ2).bind (fun r49 => (X12_within n (k.toInt64) (0 : Int64) (r49.1 - (1 : Int64)) r49.2).bind (fun r54 => (if r54.1 = 0 then X12_ofPlace_65 n (nI sd) (nI s) k i (1 : Int32) r54.2 else X12_ofPlace_65 n (nI sd) (nI s) k i (0 : Int32) r54.2))) else X12_ofPlace_65 n (nI sd) (nI s) k i (3 : Int32) μ2) Q) → Ok (X12_ofPlace n (nI sd) (nI s) k i μ1) Q := by
        intro μ1 h1 Q hq
        unfold X12_ofPlace
        rw [bS (isSide_l n μ1 hsd)]
        dsimp only
        rw [if_neg (show ¬ b2i true = 0 by decide), bS (within_l n μ1 (b := 40) (y := 40) (by decide) rfl hr)]
        dsimp only
        rw [if_neg (show ¬ b2i true = 0 by decide)]
        refine Ok_b (positionsOf_s n μ1 hW.1 h1.2.1 hs hn) ?_
        rintro _ μ2 ⟨rfl, ko⟩
        dsimp only
        rw [le_60 hw]
        exact hq μ2 (TD_o h1.2.1 (ko.1 172 (by decide) (by decide)))
      by_cases z : Wn (opnN T) s ≤ 6000
      · -- the reference up to the place
        have ref2 : ∀ μ1, INT μ1 T → ∀ {Q : Int32 → Mu → Prop}, (∀ μ2, TD μ2 T → ((∃ j, j < Wn (opnN T) s ∧ k = nI j) → Ok (X12_ofPlace_65 n (nI sd) (nI s) k i (0 : Int32) μ2) Q) ∧ ((¬ ∃ j, j < Wn (opnN T) s ∧ k = nI j) → Ok (X12_ofPlace_65 n (nI sd) (nI s) k i (1 : Int32) μ2) Q)) → Ok (X12_ofPlace n (nI sd) (nI s) k i μ1) Q := by
          intro μ1 h1 Q hq
          refine ref μ1 h1 (fun μ2 t2 => ?_)
          rw [if_pos z]
          refine Ok_b (positionsOf_s n μ2 hW.1 t2 hs hn) ?_
          rintro _ μ3 ⟨rfl, ko⟩
          dsimp only
          obtain ⟨q1, q2⟩ := hq μ3 (TD_o t2 (ko.1 172 (by decide) (by decide)))
          by_cases hk : ∃ j, j < Wn (opnN T) s ∧ k = nI j
          · rw [bS ((within_lt n μ3 k (M := Wn (opnN T) s) (by omega)).1 hk)]
            dsimp only
            rw [if_neg (show ¬ b2i true = 0 by decide)]
            exact q1 hk
          · rw [bS ((within_lt n μ3 k (M := Wn (opnN T) s) (by omega)).2 hk)]
            dsimp only
            rw [if_pos (show b2i false = 0 from rfl)]
            exact q2 hk
        by_cases hk : ∃ j, j < Wn (opnN T) s ∧ k = nI j
        · obtain ⟨k, hkW, rfl⟩ := id hk
          by_cases hi : ∃ j, j < 2 * T 1 ∧ i = nI j
          · obtain ⟨i, hi2, rfl⟩ := id hi
            have hpl := pS_lt (sz := T 1) hsd hi2
            refine CB_mk (x := .inl (if (T 3).testBit (pS (T 1) sd i) = true then -1 else nI (laC T sd s k (pS (T 1) sd i)))) (k := 0) hI ?_ (fun r e => fr_X11_ofPlace n _ _ _ _ μ r e) (by decide +kernel) (fun μ1 e => ⟨_, by unfold L_ofPlace; rw [e], fun v q => by rw [Sum.inl.inj q], fun e q => nomatch q⟩) (Or.inl ⟨_, rfl⟩) (fun μ1 h1 ag => ?_) (fun μ1 r e => fr_X12_ofPlace n _ _ _ _ μ1 r e) (by decide +kernel)
            · unfold X11_ofPlace
              rw [thr_l (needSide_l n μ hsd), thr_l (needSeeds_l n μ hs), bS (posC_s n μ hW.1 hG hs)]
              dsimp only
              rw [lt_60, if_pos z, Nat.min_eq_right (by omega), thr_l (needPos_l n μ (by omega) hkW), if_neg (nI_pos (by omega)), hG.1.1.1.1, i_2, pk_mul, ifLt (by omega) (by omega), if_pos hi2]
              refine Ok_b (lay_s n μ (o := 55) (by decide) (by decide) b6 hsd (GA_sn hG hsd) hG.1.2.2.2.1 hG.2 hs hkW (by omega) hn) ?_
              rintro _ μ2 ⟨l1, l2, l3⟩
              dsimp only
              rw [bS (seen_s n μ2 (by rw [l3.1 1 (by decide)]; exact hG.1.1.1.1) b6 hsd hi2)]
              dsimp only
              unfold X11_seedsOrLacking X11_seedsOrLacking_21
              rw [kd_of (by decide), bS (lackC_s n μ2 (by rw [l3.1 1 (by decide)]; exact hG.1.1.1.2.1) (by omega) (by omega))]
              cases hb : (T 3).testBit (pS (T 1) sd i) with
              | false =>
                dsimp only
                rw [if_pos (show b2i false = 0 from rfl), gd_n (by omega) (by decide), nI_clamp (by omega), l2 _ (by omega), if_neg (by decide)]
                exact Ok_r rfl
              | true =>
                dsimp only
                rw [if_neg (show ¬ b2i true = 0 by decide), if_pos rfl]
                exact Ok_r rfl
            · refine ref2 μ1 h1 (fun μ2 t2 => ⟨fun _ => ?_, fun q => absurd hk q⟩)
              have t := td_th (v := 0) t2
              unfold X12_ofPlace_65
              rw [si_a, if_pos rfl, bS (pitMany_s n _ (t 1 (by omega)))]
              dsimp only
              rw [i_1, pk_sub (by omega), bS (within_l n _ (v := nI i) (b := 2 * T 1 - 1) (by omega) (nI_l (by omega)) ((inR_j (by decide) (by omega) (by omega)).mpr ⟨by omega, by omega⟩))]
              dsimp only
              rw [if_neg (show ¬ b2i true = 0 by decide)]
              unfold X12_ofPlace_97
              rw [si_a, if_pos (show (0 : Int32) ≤ 0 by decide)]
              refine Ok_b (lays_s n _ hW.1 t hsd hs hkW (by omega) hn) ?_
              rintro _ μ3 ⟨ha, kl⟩
              dsimp only
              have t3 := TD_o t (kl.1 172 (by decide) (by decide) (by decide))
              have z5 : μ3.1 171 5 = 0 := by rw [kl.2.2 5 (by decide), si_a]
              have eo : ∀ {Q : Int32 → Mu → Prop}, Ok (X12_ofPlace_129 n (nI sd) (nI s) (nI k) (nI i) (nI i) (nI (offN (T 1) sd)) μ3) Q → Ok (if nI sd = 0 then X12_ofPlace_129 n (nI sd) (nI s) (nI k) (nI i) (nI i) 0 μ3 else X12_ofPlace_129 n (nI sd) (nI s) (nI k) (nI i) (nI i) (μ3.1 172 1) μ3) Q := by
                intro Q q
                obtain rfl | rfl : sd = 0 ∨ sd = 1 := by omega
                · rw [if_pos (show nI 0 = 0 from rfl)]; exact q
                · rw [if_neg (show ¬ nI 1 = 0 by decide), t3 1 (by omega)]; exact q
              refine eo ?_
              unfold X12_ofPlace_129 X12_ofPlace_157
              rw [bS (pitMany_s n _ (t3 1 (by omega)))]
              dsimp only
              have hol := off_le (T 1) sd
              rw [dv_of (show ¬ nI (2 * T 1) = (0 : Int32) from nI_ne0 (by omega) (by omega)), nI_add, pk_rem (by omega) (by omega) (by omega), seN_pS hsd hi2, bS (isLacking_s n μ3 (t3 3 (by omega)) (by omega) (by omega))]
              dsimp only
              cases hb : (T 3).testBit (pS (T 1) sd i) with
              | false =>
                rw [if_pos (show b2i false = 0 from rfl), gd_n (by omega) (by decide), nI_clamp (by omega), ha _ (by omega)]
                exact Ok_r ⟨z5, fun v q => by rw [← Sum.inl.inj q, if_neg (by decide)], t3⟩
              | true =>
                rw [if_neg (show ¬ b2i true = 0 by decide)]
                exact Ok_r ⟨z5, fun v q => by rw [← Sum.inl.inj q, if_pos rfl]; rfl, t3⟩
          · have hno : ¬ inR i 0 (2 * T 1 - 1) := fun q => by
              obtain ⟨j, _, q2, q3⟩ := inR_d (by decide) (by omega) q
              exact hi ⟨j, by omega, q3⟩
            refine CB_mk (x := .inr 3) (k := 4) hI ?_ (fun r e => fr_X11_ofPlace n _ _ _ _ μ r e) (by decide +kernel) (fun μ1 e => ⟨μ1, by unfold L_ofPlace; rw [e]; rfl, fun v q => (nomatch q), fun e q => rfl⟩) (Or.inr (by decide)) (fun μ1 h1 ag => ?_) (fun μ1 r e => fr_X12_ofPlace n _ _ _ _ μ1 r e) (by decide +kernel)
            · unfold X11_ofPlace X11_ofPlace_61
              rw [thr_l (needSide_l n μ hsd), thr_l (needSeeds_l n μ hs), bS (posC_s n μ hW.1 hG hs)]
              dsimp only
              rw [lt_60, if_pos z, Nat.min_eq_right (by omega), thr_l (needPos_l n μ (by omega) hkW), hG.1.1.1.1, i_2, pk_mul]
              rcases ix_cs i (m := 2 * T 1) (by omega) with q | q | q
              · rw [if_pos q.1]; exact Ok_r rfl
              · rw [if_neg q.1, if_neg (Int32.not_lt.mpr q.2.1)]; exact Ok_r rfl
              · exact absurd q hi
            · refine ref2 μ1 h1 (fun μ2 t2 => ⟨fun _ => ?_, fun q => absurd hk q⟩)
              have t := td_th (v := 0) t2
              unfold X12_ofPlace_65
              rw [si_a, if_pos rfl, bS (pitMany_s n _ (t 1 (by omega)))]
              dsimp only
              rw [i_1, pk_sub (by omega), nI_l (by omega), bS (within_r n _ (b := 2 * T 1 - 1) (by omega) rfl hno)]
              dsimp only
              rw [if_pos (show b2i false = 0 from rfl), ofP_97 n _ _ _ _ _ (by rw [si_a]; decide)]
              exact Ok_r ⟨si_a, fun v q => (nomatch q), td_th t⟩
        · refine CB_mk (x := .inr 0) (k := 1) hI ?_ (fun r e => fr_X11_ofPlace n _ _ _ _ μ r e) (by decide +kernel) (fun μ1 e => ⟨μ1, by unfold L_ofPlace; rw [e]; rfl, fun v q => (nomatch q), fun e q => rfl⟩) (Or.inr (by decide)) (fun μ1 h1 ag => ?_) (fun μ1 r e => fr_X12_ofPlace n _ _ _ _ μ1 r e) (by decide +kernel)
          · unfold X11_ofPlace
            rw [thr_l (needSide_l n μ hsd), thr_l (needSeeds_l n μ hs), bS (posC_s n μ hW.1 hG hs)]
            dsimp only
            rw [lt_60, if_pos z, Nat.min_eq_right (by omega), thr_r (needPos_r n μ (by omega) hk)]
            exact Ok_r rfl
          · refine ref2 μ1 h1 (fun μ2 t2 => ⟨fun q => absurd q hk, fun _ => ?_⟩)
            rw [ofP_65 n μ2 _ _ _ _ _ (by decide) (by decide)]
            exact Ok_r ⟨si_a, fun v q => (nomatch q), td_th t2⟩
      · refine CB_mk (x := .inr 2) (k := 3) hI ?_ (fun r e => fr_X11_ofPlace n _ _ _ _ μ r e) (by decide +kernel) (fun μ1 e => ⟨μ1, by unfold L_ofPlace; rw [e]; rfl, fun v q => (nomatch q), fun e q => rfl⟩) (Or.inr (by decide)) (fun μ1 h1 ag => ?_) (fun μ1 r e => fr_X12_ofPlace n _ _ _ _ μ1 r e) (by decide +kernel)
        · unfold X11_ofPlace
          rw [thr_l (needSide_l n μ hsd), thr_l (needSeeds_l n μ hs), bS (posC_s n μ hW.1 hG hs)]
          dsimp only
          rw [lt_60, if_neg z]
          exact Ok_r rfl
        · refine ref μ1 h1 (fun μ2 t2 => ?_)
          rw [if_neg z, ofP_65 n μ2 _ _ _ _ _ (by decide) (by decide)]
          exact Ok_r ⟨si_a, fun v q => (nomatch q), td_th t2⟩
    · refine CB_mk (x := .inr 1) (k := 2) hI ?_ (fun r e => fr_X11_ofPlace n _ _ _ _ μ r e) (by decide +kernel) (fun μ1 e => ⟨μ1, by unfold L_ofPlace; rw [e]; rfl, fun v q => (nomatch q), fun e q => rfl⟩) (Or.inr (by decide)) (fun μ1 h1 ag => ?_) (fun μ1 r e => fr_X12_ofPlace n _ _ _ _ μ1 r e) (by decide +kernel)
      · unfold X11_ofPlace
        rw [thr_l (needSide_l n μ hsd), thr_r (needSeeds_r n μ hr)]
        exact Ok_r rfl
      · unfold X12_ofPlace
        rw [bS (isSide_l n μ1 hsd)]
        dsimp only
        rw [if_neg (show ¬ b2i true = 0 by decide), bS (within_r n μ1 (b := 40) (y := 40) (by decide) rfl hr)]
        dsimp only
        rw [if_pos (show b2i false = 0 from rfl), ofP_65 n μ1 _ _ _ _ _ (by decide) (by decide)]
        exact Ok_r ⟨si_a, fun v q => (nomatch q), td_th h1.2.1⟩
  · refine CB_mk (x := .inr 0) (k := 1) hI ?_ (fun r e => fr_X11_ofPlace n _ _ _ _ μ r e) (by decide +kernel) (fun μ1 e => ⟨μ1, by unfold L_ofPlace; rw [e]; rfl, fun v q => (nomatch q), fun e q => rfl⟩) (Or.inr (by decide)) (fun μ1 h1 ag => ?_) (fun μ1 r e => fr_X12_ofPlace n _ _ _ _ μ1 r e) (by decide +kernel)
    · unfold X11_ofPlace
      rw [thr_r (needSide_r n μ hs2)]
      exact Ok_r rfl
    · unfold X12_ofPlace
      rw [bS (isSide_r n μ1 hs1)]
      dsimp only
      rw [if_pos (show b2i false = 0 from rfl), ofP_65 n μ1 _ _ _ _ _ (by decide) (by decide)]
      exact Ok_r ⟨si_a, fun v q => (nomatch q), td_th h1.2.1⟩
theorem pc_sum {x m : Nat} (hm : m ≤ 12) (hx : x < 2 ^ m) : pcN x = sumF (fun p => if x.testBit p = true then 1 else 0) m := by
  unfold pcN
  rw [show 12 = m + (12 - m) by omega, sum_split]
  have : ∀ j, sumF (fun y => if x.testBit (m + y) = true then 1 else 0) j = 0 := by
    intro j
    induction j with
    | zero => rfl
    | succ j ih =>
      rw [sumF, ih, Nat.testBit_lt_two_pow (Nat.lt_of_lt_of_le hx (Nat.pow_le_pow_right (by decide) (by omega))), if_neg (by decide)]
  rw [this]
  rfl
theorem count_lp (n : Nat) (μ : Mu) {T : Nat → Nat} (v : Int32) {Q : Int32 → Mu → Prop} (hW : WF T) (hT : TD μ T) (hn : 1000 < n) (hq : Ok (if v = (0 : Int32) then some ((μ.1 172 0), μ) else (if v = (1 : Int32) then some ((μ.1 172 1), μ) else (if v = (2 : Int32) then (X12_seedsNow n μ).bind (fun r99 => some (r99.1, r99.2)) else (if v = (3 : Int32) then some (nI (pcN (T 3)), μ) else (if v = (4 : Int32) then some ((μ.1 171 28), μ) else (if v = (5 : Int32) then some ((μ.1 171 29), μ) else (if v = (6 : Int32) then some ((μ.1 171 7), μ) else some (((-1) : Int32), μ)))))))) Q) : Ok (X12_count_9 n v 0 0 μ) Q := by
  have b6 := hW.1.2.1
  have b3 := hW.1.2.2.1
  have hp := pc_sum (x := T 3) (m := 2 * T 1) (by omega) hW.2.2.1
  unfold X12_count_9
  rw [i_0] at hq ⊢
  refine Ok_lp2 (fun f x2 x3 μ' => ∃ j, j ≤ 2 * T 1 ∧ f = 2 * T 1 - j ∧ x2 = nI (sumF (fun p => if (T 3).testBit p = true then 1 else 0) j) ∧ x3 = nI j ∧ μ' = μ) ?_ (2 * T 1) (by omega) ⟨0, by omega, rfl, rfl, rfl, rfl⟩
  rintro K f x2 x3 μ1 ⟨j, hj, rfl, rfl, rfl, rfl⟩ hK
  unfold X12_count_9b X12_count_31
  rw [bS (pitMany_s n μ1 (hT 1 (by omega)))]
  dsimp only
  rw [ifLe (by omega) (by omega)]
  by_cases c : 2 * T 1 ≤ j
  · obtain rfl : j = 2 * T 1 := by omega
    rw [if_pos c, ← hp, i_0]
    exact hq
  · rw [if_neg c, bS (isLacking_s n μ1 (hT 3 (by omega)) (by omega) (by omega))]
    dsimp only
    cases hb : (T 3).testBit j with
    | false =>
      rw [if_pos (show b2i false = 0 from rfl), i_0, i_1, nI_add, nI_add]
      exact hK (2 * T 1 - (j + 1)) _ _ _ (by omega) ⟨j + 1, by omega, rfl, by rw [sumF, hb, if_neg (by decide)], rfl, rfl⟩
    | true =>
      rw [if_neg (show ¬ b2i true = 0 by decide), i_1, nI_add, nI_add]
      exact hK (2 * T 1 - (j + 1)) _ _ _ (by omega) ⟨j + 1, by omega, rfl, by rw [sumF, hb, if_pos rfl], rfl, rfl⟩
theorem call_count (n : Nat) (μ : Mu) (v : Int32) (h : INV μ) (hn : 1000 < n) : CAx (X11_count n v μ) (X12_count n v) := by
  obtain ⟨T, hI⟩ := h
  have hW := hI.1.1
  have b3 := hW.1.2.2.1
  obtain ⟨hG, hl, hS⟩ := id hI.2.2.1
  obtain ⟨d, u, st, B, m, p1, p2, p3, p4, p5, p6, p7, _⟩ := id hI.2.2.2.2.2.1
  obtain ⟨⟨z, z1, z2, z3, _⟩, _⟩ := id hI.2.2.2.2.2.2.1
  refine CA_mk (v := if v = 0 then nI (T 0) else if v = 1 then nI (T 1) else if v = 2 then nI (sT T) else if v = 3 then nI (pcN (T 3)) else if v = 4 then nI d else if v = 5 then nI u else if v = 6 then nI z else -1) hI ?_ (fun r e => fr_X11_count n v μ r e) (by decide +kernel) (fun μ1 h1 ag => ?_) (fun μ1 r e => fr_X12_count n v μ1 r e) (by decide +kernel)
  · unfold X11_count
    rw [hl, hG.1.1.1.1, bS (inP_s n μ (by decide) hS hn), hG.1.1.1.2.1, bS (bitCount_s n μ b3), p3, p4, z2]
    dsimp only
    by_cases c0 : v = 0
    · rw [if_pos c0, if_pos c0]; exact Ok_r rfl
    · rw [if_neg c0, if_neg c0]
      by_cases c1 : v = 1
      · rw [if_pos c1, if_pos c1]; exact Ok_r rfl
      · rw [if_neg c1, if_neg c1]
        by_cases c2 : v = 2
        · rw [if_pos c2, if_pos c2]; exact Ok_r rfl
        · rw [if_neg c2, if_neg c2]
          by_cases c3 : v = 3
          · rw [if_pos c3, if_pos c3]; exact Ok_r rfl
          · rw [if_neg c3, if_neg c3]
            by_cases c4 : v = 4
            · rw [if_pos c4, if_pos c4]; exact Ok_r rfl
            · rw [if_neg c4, if_neg c4]
              by_cases c5 : v = 5
              · rw [if_pos c5, if_pos c5]; exact Ok_r rfl
              · rw [if_neg c5, if_neg c5]
                by_cases c6 : v = 6
                · rw [if_pos c6, if_pos c6]; exact Ok_r rfl
                · rw [if_neg c6, if_neg c6]; exact Ok_r rfl
  · have t := td_th (v := 0) h1.2.1
    have q6 : μ1.1 171 28 = nI d := by rw [(ag.f 171 28 (by decide)).1]; exact p6
    have q7 : μ1.1 171 29 = nI u := by rw [(ag.f 171 29 (by decide)).1]; exact p7
    have q3 : μ1.1 171 7 = nI z := by rw [(ag.f 171 7 (by decide)).1]; exact z3
    unfold X12_count
    refine count_lp n _ v hW t hn ?_
    rw [t 0 (by omega), t 1 (by omega), bS (seedsNow_s n _ hW t hn), si_c (by decide), si_c (by decide), si_c (by decide), q6, q7, q3]
    dsimp only
    by_cases c0 : v = 0
    · rw [if_pos c0, if_pos c0]; exact Ok_r ⟨rfl, t⟩
    · rw [if_neg c0, if_neg c0]
      by_cases c1 : v = 1
      · rw [if_pos c1, if_pos c1]; exact Ok_r ⟨rfl, t⟩
      · rw [if_neg c1, if_neg c1]
        by_cases c2 : v = 2
        · rw [if_pos c2, if_pos c2]; exact Ok_r ⟨rfl, t⟩
        · rw [if_neg c2, if_neg c2]
          by_cases c3 : v = 3
          · rw [if_pos c3, if_pos c3]; exact Ok_r ⟨rfl, t⟩
          · rw [if_neg c3, if_neg c3]
            by_cases c4 : v = 4
            · rw [if_pos c4, if_pos c4]; exact Ok_r ⟨rfl, t⟩
            · rw [if_neg c4, if_neg c4]
              by_cases c5 : v = 5
              · rw [if_pos c5, if_pos c5]; exact Ok_r ⟨rfl, t⟩
              · rw [if_neg c5, if_neg c5]
                by_cases c6 : v = 6
                · rw [if_pos c6, if_pos c6]; exact Ok_r ⟨rfl, t⟩
                · rw [if_neg c6, if_neg c6]; exact Ok_r ⟨rfl, t⟩
