/-! call: tally -/
theorem wh_no {v : Int32} {m : Nat} (hm : m < 2 ^ 31) (h : ¬ inR v 0 m) {α : Type} {x y : α} : (if v < 0 then x else (if v ≤ nI m then y else x)) = x := by
  rcases inR_no h with q | ⟨q1, q2⟩
  · rw [if_pos q]
  · rw [if_neg q1, if_neg (Int32.not_le.mpr q2)]
theorem wh_yes {w m : Nat} (hm : m < 2 ^ 31) (h : w ≤ m) {α : Type} {x y : α} : (if nI w < 0 then x else (if nI w ≤ nI m then y else x)) = y := by
  rw [if_neg (nI_pos (by omega)), ifLe (by omega) hm, if_pos h]
theorem call_tally (n : Nat) (μ : Mu) (sd s v : Int32) (h : INV μ) (hn : 20000 < n) : CBx (L_tally n sd s v μ) (X12_tally n sd s v) := by
  obtain ⟨T, hI⟩ := h
  have hW := hI.1.1
  have t0 := td_th (v := (1 : Int32)) hI.2.1
  rcases side_d sd with ⟨a, ha, rfl⟩ | ⟨hs1, hs2⟩
  · by_cases hr : inR s 0 40
    · obtain ⟨b, _, hb, rfl⟩ := inR_d (by decide) (by decide) hr
      by_cases hv : inR v 0 3
      · obtain ⟨w, _, hw, rfl⟩ := inR_d (by decide) (by decide) hv
        -- the reference up to the solving
        have ref : ∀ μ1, INT μ1 T → ∀ {Q : Int32 → Mu → Prop}, (∀ μ2, TD μ2 T → RI μ2 → μ2.1 171 5 = 0 → (bhS T (b + 1) ≤ 6000 → ∀ S, b < S → RV μ2 T S → Ok (X12_tally_73 n (nI a) (nI b) (nI w) 0 0 μ2) Q) ∧ (¬ bhS T (b + 1) ≤ 6000 → Ok (some (0, si μ2 171 5 3)) Q)) → Ok (X12_tally n (nI a) (nI b) (nI w) μ1) Q := by
          intro μ1 h1 Q hq
          unfold X12_tally
          rw [bS (isSide_l n μ1 ha)]
          dsimp only
          rw [if_neg (show ¬ b2i true = 0 by decide), bS (within_l n μ1 (b := 40) (y := 40) (by decide) rfl hr)]
          dsimp only
          rw [if_neg (show ¬ b2i true = 0 by decide), bS (within_l n μ1 (b := 3) (y := 3) (by decide) rfl hv)]
          dsimp only
          rw [if_neg (show ¬ b2i true = 0 by decide)]
          unfold X12_tally_41 X12_fails
          rw [si_a, if_pos (show (0 : Int32) ≤ 0 by decide)]
          refine Ok_b (sol_s n _ h1.1 hb (td_th h1.2.1) (RI_th h1.2.2.2.2.1) hn) ?_
          rintro _ μ2 ⟨rfl, t2, r2, z5, q⟩
          rw [si_a] at z5
          dsimp only
          obtain ⟨q1, q2⟩ := hq μ2 t2 r2 z5
          by_cases z : bhS T (b + 1) ≤ 6000
          · obtain ⟨S, hs, hv⟩ := q z
            rw [decide_eq_true z, if_neg (show ¬ b2i true = 0 by decide)]
            exact q1 z S hs hv
          · rw [decide_eq_false z, if_pos (show b2i false = 0 from rfl)]
            exact q2 z
        by_cases z : bhS T (b + 1) ≤ 6000
        · refine CBs_mk (x := .inl (nI (tlN T a b w (Wn (opnN T) b)))) (k := 0) hI ?_ (fun r e => fr_X11_tally n _ _ _ μ r e) (by decide +kernel) (fun μ1 e => ⟨_, by unfold L_tally; rw [e], fun v q => by rw [Sum.inl.inj q], fun e q => nomatch q⟩) (Or.inl ⟨_, rfl⟩) (fun μ1 h1 => ?_) (fun μ1 r e => fr_X12_tally n _ _ _ μ1 r e) (by decide +kernel)
          · unfold X11_tally
            rw [thr_l (needSide_l n μ ha), thr_l (needSeeds_l n μ hb), i_3, wh_yes (by decide) hw]
            refine thr_ok (needSolved_s n μ hI hb hn) (fun x μ1 q => ?_) (fun e μ1 q => ?_)
            · obtain ⟨c1, n1, ⟨_, _, S, hs, hv⟩ | ⟨q, _⟩⟩ := q
              · refine Ok_m (tallyC_s n μ1 hW n1.1 hv hs ha hw hn) ?_
                rintro y μ2 ⟨rfl, rfl⟩
                exact ⟨rfl, c1⟩
              · exact absurd z q
            · obtain ⟨_, _, ⟨_, q, _⟩ | ⟨q, _⟩⟩ := q
              · exact nomatch q
              · exact absurd z q
          · refine ref μ1 h1 (fun μ2 t2 r2 z5 => ⟨fun _ S hs hv => ?_, fun q => absurd z q⟩)
            refine Ok_m (tallyR_s n μ2 hW hv hs ha hw hn) ?_
            rintro y μ3 ⟨rfl, rfl⟩
            exact ⟨z5, fun v q => Sum.inl.inj q, t2, r2⟩
        · refine CBs_mk (x := .inr 2) (k := 3) hI ?_ (fun r e => fr_X11_tally n _ _ _ μ r e) (by decide +kernel) (fun μ1 e => ⟨μ1, by unfold L_tally; rw [e]; rfl, fun v q => (nomatch q), fun e q => rfl⟩) (Or.inr (by decide)) (fun μ1 h1 => ?_) (fun μ1 r e => fr_X12_tally n _ _ _ μ1 r e) (by decide +kernel)
          · unfold X11_tally
            rw [thr_l (needSide_l n μ ha), thr_l (needSeeds_l n μ hb), i_3, wh_yes (by decide) hw]
            refine thr_ok (needSolved_s n μ hI hb hn) (fun x μ1 q => ?_) (fun e μ1 q => ?_)
            · obtain ⟨_, _, ⟨q, _⟩ | ⟨_, q⟩⟩ := q
              · exact absurd q z
              · exact nomatch q
            · obtain ⟨c1, _, ⟨q, _⟩ | ⟨_, q⟩⟩ := q
              · exact absurd q z
              · exact ⟨by rw [Sum.inr.inj q], c1⟩
          · refine ref μ1 h1 (fun μ2 t2 r2 z5 => ⟨fun q => absurd q z, fun _ => ?_⟩)
            exact Ok_r ⟨si_a, fun v q => (nomatch q), td_th t2, RI_th r2⟩
      · refine CBs_mk (x := .inr 1) (k := 2) hI ?_ (fun r e => fr_X11_tally n _ _ _ μ r e) (by decide +kernel) (fun μ1 e => ⟨μ1, by unfold L_tally; rw [e]; rfl, fun v q => (nomatch q), fun e q => rfl⟩) (Or.inr (by decide)) (fun μ1 h1 => ?_) (fun μ1 r e => fr_X12_tally n _ _ _ μ1 r e) (by decide +kernel)
        · unfold X11_tally X11_tally_17
          rw [thr_l (needSide_l n μ ha), thr_l (needSeeds_l n μ hb), i_3, wh_no (by decide) hv]
          exact Ok_r ⟨rfl, hI.2.2.2.1⟩
        · unfold X12_tally X12_tally_40 X12_tally_41
          rw [bS (isSide_l n μ1 ha)]
          dsimp only
          rw [if_neg (show ¬ b2i true = 0 by decide), bS (within_l n μ1 (b := 40) (y := 40) (by decide) rfl hr)]
          dsimp only
          rw [if_neg (show ¬ b2i true = 0 by decide), bS (within_r n μ1 (b := 3) (y := 3) (by decide) rfl hv)]
          dsimp only
          rw [if_pos (show b2i false = 0 from rfl), si_a, if_neg (by decide)]
          exact Ok_r ⟨si_a, fun v q => (nomatch q), td_th h1.2.1, RI_th h1.2.2.2.2.1⟩
    · refine CBs_mk (x := .inr 1) (k := 2) hI ?_ (fun r e => fr_X11_tally n _ _ _ μ r e) (by decide +kernel) (fun μ1 e => ⟨μ1, by unfold L_tally; rw [e]; rfl, fun v q => (nomatch q), fun e q => rfl⟩) (Or.inr (by decide)) (fun μ1 h1 => ?_) (fun μ1 r e => fr_X12_tally n _ _ _ μ1 r e) (by decide +kernel)
      · unfold X11_tally
        rw [thr_l (needSide_l n μ ha), thr_r (needSeeds_r n μ hr)]
        exact Ok_r ⟨rfl, hI.2.2.2.1⟩
      · unfold X12_tally X12_tally_40 X12_tally_41
        rw [bS (isSide_l n μ1 ha)]
        dsimp only
        rw [if_neg (show ¬ b2i true = 0 by decide), bS (within_r n μ1 (b := 40) (y := 40) (by decide) rfl hr)]
        dsimp only
        rw [if_pos (show b2i false = 0 from rfl), si_a, if_neg (by decide)]
        exact Ok_r ⟨si_a, fun v q => (nomatch q), td_th h1.2.1, RI_th h1.2.2.2.2.1⟩
  · refine CBs_mk (x := .inr 0) (k := 1) hI ?_ (fun r e => fr_X11_tally n _ _ _ μ r e) (by decide +kernel) (fun μ1 e => ⟨μ1, by unfold L_tally; rw [e]; rfl, fun v q => (nomatch q), fun e q => rfl⟩) (Or.inr (by decide)) (fun μ1 h1 => ?_) (fun μ1 r e => fr_X12_tally n _ _ _ μ1 r e) (by decide +kernel)
    · unfold X11_tally
      rw [thr_r (needSide_r n μ hs2)]
      exact Ok_r ⟨rfl, hI.2.2.2.1⟩
    · unfold X12_tally X12_tally_41
      rw [bS (isSide_r n μ1 hs1)]
      dsimp only
      rw [if_pos (show b2i false = 0 from rfl), si_a, if_neg (by decide)]
      exact Ok_r ⟨si_a, fun v q => (nomatch q), td_th h1.2.1, RI_th h1.2.2.2.2.1⟩
