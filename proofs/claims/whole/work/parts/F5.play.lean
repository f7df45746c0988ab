/-! calls: play, against -/
theorem play_g {n : Nat} {v1 v2 : Int32} {μ : Mu} (h : ¬ inR v2 0 2) : X11_play n v1 v2 μ = some (.inr 1, μ) := by
  unfold X11_play X11_play_9
  by_cases z : v2 < 0
  · rw [if_pos z]
  · rw [if_neg z, i_2, if_neg (fun q => h ⟨Int32.not_lt.mp z, q⟩)]
theorem th_0 {μ : Mu} : (si μ 171 5 (0 : Int32)).1 171 5 ≤ 0 := by rw [si_a]; decide
theorem th_1 {μ : Mu} : ¬ (si μ 171 5 (1 : Int32)).1 171 5 ≤ 0 := by rw [si_a]; decide
theorem th_2 {μ : Mu} : ¬ (si μ 171 5 (2 : Int32)).1 171 5 ≤ 0 := by rw [si_a]; decide
theorem pO_5 {n : Nat} {x y z : Int32} {μ : Mu} {r : Int32 × Mu} (e : X12_playOf n x y z μ = some r) : r.2.1 171 5 = μ.1 171 5 := by
  have ag : AG [(171, 171, 5)] μ r.2 := Fr_ag (fr_X12_playOf n x y z μ r e) (by decide +kernel)
  exact (ag.f 171 5 (by decide)).1
theorem pO_ri {n : Nat} {x y z : Int32} {μ : Mu} {r : Int32 × Mu} (e : X12_playOf n x y z μ = some r) (h : RI μ) : RI r.2 := RI_ag h (Fr_ag (fr_X12_playOf n x y z μ r e) (by decide +kernel))
theorem call_play (n : Nat) (μ : Mu) (v1 v2 : Int32) (h : INV μ) (hn : 1000 < n) : CBx (L_play n v1 v2 μ) (X12_play n v1 v2) := by
  obtain ⟨T, hI⟩ := h
  by_cases z : inR v2 0 2
  · obtain ⟨w, _, hw, rfl⟩ := inR_d (by decide) (by decide) z
    refine CB_mk (x := .inl (plA false T v1 w)) (k := 0) hI ?_ (fun r e => fr_X11_play n v1 _ μ r e) (by decide +kernel) (fun μ1 e => ⟨_, by unfold L_play; rw [e], fun v q => by rw [Sum.inl.inj q], fun e q => nomatch q⟩) (Or.inl ⟨_, rfl⟩) (fun μ1 h1 ag => ?_) (fun μ1 r e => fr_X12_play n v1 _ μ1 r e) (by decide +kernel)
    · unfold X11_play
      rw [if_neg (nI_pos (by omega)), i_2, ifLe (by omega) (by decide), if_pos hw]
      refine Ok_b (goBy_s n μ v1 (b := false) (S := 0) hI.1 hI.2.2.1 (fun q => nomatch q) hn) ?_
      rintro _ μ1 ⟨q1, q2, q3, q4⟩
      dsimp only
      refine Ok_b (told_s n μ1 hw q1 q2 q3 q4 hn) ?_
      rintro _ μ2 rfl
      exact Ok_r rfl
    · unfold X12_play X12_play_18 X12_play_39
      rw [bS (within_l n μ1 (b := 2) (y := 2) (by decide) rfl z)]
      dsimp only
      rw [if_neg (show ¬ b2i true = 0 by decide), if_pos th_0]
      obtain ⟨a, μ2, e2, rfl, t2⟩ := playOf_s n (si μ1 171 5 0) v1 (b := false) (S := 0) hw h1.1 (td_th h1.2.1) (fun q => nomatch q) hn
      have e2' : X12_playOf n v1 0 (nI w) (si μ1 171 5 0) = some (plA false T v1 w, μ2) := e2
      rw [bS e2']
      exact Ok_r ⟨by rw [pO_5 e2, si_a], fun v q => Sum.inl.inj q, t2⟩
  · refine CB_mk (x := .inr 1) (k := 1) hI ?_ (fun r e => fr_X11_play n v1 v2 μ r e) (by decide +kernel) (fun μ1 e => ⟨μ1, by unfold L_play; rw [e]; rfl, fun v q => (nomatch q), fun e q => rfl⟩) (Or.inr (by decide)) (fun μ1 h1 ag => ?_) (fun μ1 r e => fr_X12_play n v1 v2 μ1 r e) (by decide +kernel)
    · rw [play_g z]
      exact Ok_r rfl
    · unfold X12_play X12_play_18 X12_play_39
      rw [bS (within_r n μ1 (b := 2) (y := 2) (by decide) rfl z)]
      dsimp only
      rw [if_pos (show b2i false = 0 from rfl), if_neg th_1]
      exact Ok_r ⟨si_a, fun v q => (nomatch q), td_th h1.2.1⟩
theorem call_against (n : Nat) (μ : Mu) (v1 v2 : Int32) (h : INV μ) (hn : 20000 < n) : CBx (L_against n v1 v2 μ) (X12_against n v1 v2) := by
  obtain ⟨T, hI⟩ := h
  have hW := hI.1.1
  have h40 := sT_40 hW
  by_cases z6 : bhS T (sT T + 1) ≤ 6000
  · by_cases z : inR v2 0 2
    · obtain ⟨w, _, hw, rfl⟩ := inR_d (by decide) (by decide) z
      refine CBs_mk (x := .inl (plA true T v1 w)) (k := 0) hI ?_ (fun r e => fr_X11_against n v1 _ μ r e) (by decide +kernel) (fun μ1 e => ⟨_, by unfold L_against; rw [e], fun v q => by rw [Sum.inl.inj q], fun e q => nomatch q⟩) (Or.inl ⟨_, rfl⟩) (fun μ1 h1 => ?_) (fun μ1 r e => fr_X12_against n v1 _ μ1 r e) (by decide +kernel)
      · unfold X11_against
        rw [bS (inP_s n μ (by decide) hI.2.2.1.2.2 (by omega))]
        dsimp only
        refine thr_ok (needSolved_s n μ hI h40 hn) ?_ ?_
        · rintro _ μ1 ⟨c1, n1, q⟩
          rcases q with ⟨_, _, S, hs, hv⟩ | ⟨_, q⟩
          · rw [if_neg (nI_pos (by omega)), i_2, ifLe (by omega) (by decide), if_pos hw]
            obtain ⟨_, μ2, e2, q1, q2, q3, q4⟩ := goBy_s n μ1 v1 (b := true) (S := S) hI.1 n1 (fun _ => ⟨hs, hv⟩) (by omega)
            rw [show (1 : Int32) = b2i true from rfl, bS e2]
            dsimp only
            obtain ⟨a, μ3, e3, rfl⟩ := told_s n μ2 hw q1 q2 q3 q4 (by omega)
            rw [bS e3]
            refine Ok_r ⟨rfl, ?_⟩
            exact CI_ag (CI_ag c1 (Fr_ag (fr_X10_goByDraws n _ _ _ μ1 _ e2) (by decide +kernel))) (Fr_ag (fr_X11_toldOfPlay n _ μ2 _ e3) (by decide +kernel))
          · exact nomatch q
        · rintro e μ1 ⟨_, _, q⟩
          rcases q with ⟨_, q, _⟩ | ⟨q, _⟩
          · exact nomatch q
          · exact absurd z6 q
      · unfold X12_against X12_against_33 X12_against_54
        rw [bS (seedsNow_s n μ1 hW h1.2.1 (by omega))]
        dsimp only
        refine Ok_b (sol_s n μ1 hI.1 h40 h1.2.1 h1.2.2.2.2.1 hn) ?_
        rintro _ μ2 ⟨rfl, t2, r2, _, q⟩
        obtain ⟨S, hs, hv⟩ := q z6
        rw [decide_eq_true z6]
        dsimp only
        rw [if_neg (show ¬ b2i true = 0 by decide), bS (within_l n μ2 (b := 2) (y := 2) (by decide) rfl z)]
        dsimp only
        rw [if_neg (show ¬ b2i true = 0 by decide), if_pos th_0]
        obtain ⟨a, μ3, e3, rfl, t3⟩ := playOf_s n (si μ2 171 5 0) v1 (b := true) (S := S) hw h1.1 (td_th t2) (fun _ => ⟨hs, RV_o hv (by rw [si_c (by decide)]) (fun o a b c => by rw [si_o (by omega)])⟩) (by omega)
        rw [show (1 : Int32) = b2i true from rfl, bS e3]
        exact Ok_r ⟨by rw [pO_5 e3, si_a], fun v q => Sum.inl.inj q, t3, pO_ri e3 (RI_th r2)⟩
    · refine CBs_mk (x := .inr 1) (k := 2) hI ?_ (fun r e => fr_X11_against n v1 _ μ r e) (by decide +kernel) (fun μ1 e => ⟨μ1, by unfold L_against; rw [e]; rfl, fun v q => (nomatch q), fun e q => rfl⟩) (Or.inr (by decide)) (fun μ1 h1 => ?_) (fun μ1 r e => fr_X12_against n v1 _ μ1 r e) (by decide +kernel)
      · unfold X11_against X11_against_20
        rw [bS (inP_s n μ (by decide) hI.2.2.1.2.2 (by omega))]
        dsimp only
        refine thr_ok (needSolved_s n μ hI h40 hn) ?_ ?_
        · rintro _ μ1 ⟨c1, n1, q⟩
          by_cases zz : v2 < 0
          · rw [if_pos zz]; exact Ok_r ⟨rfl, c1⟩
          · rw [if_neg zz, i_2, if_neg (fun q => z ⟨Int32.not_lt.mp zz, q⟩)]
            exact Ok_r ⟨rfl, c1⟩
        · rintro e μ1 ⟨_, _, q⟩
          rcases q with ⟨_, q, _⟩ | ⟨q, _⟩
          · exact nomatch q
          · exact absurd z6 q
      · unfold X12_against X12_against_33 X12_against_54
        rw [bS (seedsNow_s n μ1 hW h1.2.1 (by omega))]
        dsimp only
        refine Ok_b (sol_s n μ1 hI.1 h40 h1.2.1 h1.2.2.2.2.1 hn) ?_
        rintro _ μ2 ⟨rfl, t2, r2, _, q⟩
        rw [decide_eq_true z6]
        dsimp only
        rw [if_neg (show ¬ b2i true = 0 by decide), bS (within_r n μ2 (b := 2) (y := 2) (by decide) rfl z)]
        dsimp only
        rw [if_pos (show b2i false = 0 from rfl), if_neg th_2]
        exact Ok_r ⟨si_a, fun v q => (nomatch q), td_th t2, RI_th r2⟩
  · refine CBs_mk (x := .inr 2) (k := 1) hI ?_ (fun r e => fr_X11_against n v1 _ μ r e) (by decide +kernel) (fun μ1 e => ⟨μ1, by unfold L_against; rw [e]; rfl, fun v q => (nomatch q), fun e q => rfl⟩) (Or.inr (by decide)) (fun μ1 h1 => ?_) (fun μ1 r e => fr_X12_against n v1 _ μ1 r e) (by decide +kernel)
    · unfold X11_against
      rw [bS (inP_s n μ (by decide) hI.2.2.1.2.2 (by omega))]
      dsimp only
      refine thr_ok (needSolved_s n μ hI h40 hn) ?_ ?_
      · rintro _ μ1 ⟨c1, n1, q⟩
        rcases q with ⟨q, _⟩ | ⟨_, q⟩
        · exact absurd q z6
        · exact nomatch q
      · rintro e μ1 ⟨c1, _, q⟩
        rcases q with ⟨q, _⟩ | ⟨_, q⟩
        · exact absurd q z6
        · exact ⟨by rw [Sum.inr.inj q], c1⟩
    · unfold X12_against X12_against_33 X12_against_54
      rw [bS (seedsNow_s n μ1 hW h1.2.1 (by omega))]
      dsimp only
      refine Ok_b (sol_s n μ1 hI.1 h40 h1.2.1 h1.2.2.2.2.1 hn) ?_
      rintro _ μ2 ⟨rfl, t2, r2, _, q⟩
      rw [decide_eq_false z6]
      dsimp only
      rw [if_pos (show b2i false = 0 from rfl), if_neg th_1]
      exact Ok_r ⟨si_a, fun v q => (nomatch q), td_th t2, RI_th r2⟩
