/-! call: line -/
theorem nn_d {v : Int32} (h : ¬ v < 0) : ∃ m, m < 2 ^ 31 ∧ v = nI m := by
  obtain ⟨m, _, h2, e⟩ := inR_d (v := v) (a := 0) (b := 2147483647) (by decide) (by decide) ⟨Int32.not_lt.mp h, by
    rw [Int32.le_iff_toInt_le, nI_toInt (by decide)]
    have := Int32.toInt_lt v
    omega⟩
  exact ⟨m, by omega, e⟩
theorem ln_nn {v : Int32} (h : ¬ v < -3) (h3 : ¬ v = -3) (h2 : ¬ v = -2) (h1 : ¬ v = -1) : ¬ v < 0 := by
  rw [Int32.lt_iff_toInt_lt] at h ⊢
  have e3 : ¬ v.toInt = -3 := fun q => h3 (Int32.toInt_inj.mp (q.trans (by decide)))
  have e2 : ¬ v.toInt = -2 := fun q => h2 (Int32.toInt_inj.mp (q.trans (by decide)))
  have e1 : ¬ v.toInt = -1 := fun q => h1 (Int32.toInt_inj.mp (q.trans (by decide)))
  rw [show (-3 : Int32).toInt = -3 by decide] at h
  rw [show (0 : Int32).toInt = 0 by decide]
  omega
theorem b2i_if {α : Type} {b : Bool} {x y : α} : (if b2i b = 0 then x else y) = if b = true then y else x := by
  cases b with
  | false => rw [if_pos (show b2i false = 0 from rfl), if_neg (by decide)]
  | true => rw [if_neg (show ¬ b2i true = 0 by decide), if_pos rfl]
theorem lineC_s (n : Nat) (μ : Mu) {T : Nat → Nat} {v : Int32} (hI : INT μ T) (hv : ¬ v < -3) (hn : 20000 < n) : Ok (X11_line n v μ) (fun x μ' => CI μ' ∧ ((bhS T (sT T + 1) ≤ 6000 ∧ ∃ N, STP T N ∧ x = .inl (lnA T N v)) ∨ (¬ bhS T (sT T + 1) ≤ 6000 ∧ x = .inr 2))) := by
  have hW := hI.1.1
  have h40 := sT_40 hW
  unfold X11_line X11_line_98 X11_line_131
  rw [if_pos (Int32.not_lt.mp hv), bS (inP_s n μ (by decide) hI.2.2.1.2.2 (by omega))]
  dsimp only
  refine thr_ok (needSolved_s n μ hI h40 hn) ?_ ?_
  · rintro _ μ1 ⟨c1, n1, q⟩
    rcases q with ⟨z6, _, S, hs, hV⟩ | ⟨_, q⟩
    · obtain ⟨_, μ2, e2, N, s1, s2, s3, s4, s5, s6, s7⟩ := goBest_s n μ1 hI.1 n1 hs hV (by omega)
      have c2 : CI μ2 := CI_ag c1 (Fr_ag (fr_X10_goByBest n _ μ1 _ e2) (by decide +kernel))
      rw [bS e2]
      dsimp only
      have hN60 := s1.1
      have fin : ∀ x μ', CI μ' → x = (.inl (lnA T N v) : Int32 ⊕ Nat) → CI μ' ∧ ((bhS T (sT T + 1) ≤ 6000 ∧ ∃ N, STP T N ∧ x = .inl (lnA T N v)) ∨ (¬ bhS T (sT T + 1) ≤ 6000 ∧ x = .inr 2)) := fun x μ' c e => ⟨c, Or.inl ⟨z6, N, s1, e⟩⟩
      by_cases z3 : v = -3
      · rw [if_pos z3]
        obtain ⟨a, μ3, e3, _, rfl⟩ := scoreOf_s n μ2 os153 s2.1 s3 s4 (by omega)
        rw [bS e3]
        refine Ok_r (fin _ _ (CI_ag c2 (Fr_ag (fr_X8_scoreOf n _ μ2 _ e3) (by decide +kernel))) ?_)
        unfold lnA; rw [if_pos z3]
      · rw [if_neg z3]
        by_cases z2 : v = -2
        · rw [if_pos z2, s6, b2i_if]
          cases hr : rgB (fun j => stN (bdF T j)) N with
          | false => rw [if_neg (by decide)]; exact Ok_r (fin _ _ c2 (by unfold lnA; rw [if_neg z3, if_pos z2, hr]; rfl))
          | true => rw [if_pos rfl]; exact Ok_r (fin _ _ c2 (by unfold lnA; rw [if_neg z3, if_pos z2, hr]; rfl))
        · rw [if_neg z2]
          by_cases z1 : v = -1
          · rw [if_pos z1, s5]
            exact Ok_r (fin _ _ c2 (by unfold lnA; rw [if_neg z3, if_neg z2, if_pos z1]))
          · rw [if_neg z1, s5]
            obtain ⟨m, hm, rfl⟩ := nn_d (ln_nn hv z3 z2 z1)
            by_cases zN : N ≤ m
            · rw [ifLe (by omega) hm, if_pos zN]
              exact Ok_r (fin _ _ c2 (by unfold lnA; rw [if_neg z3, if_neg z2, if_neg z1, ifLe (by omega) hm, if_pos zN]))
            · rw [ifLe (by omega) hm, if_neg zN, gd_n (by omega) (by decide), nI_clamp (by omega), s7 m (by omega)]
              exact Ok_r (fin _ _ c2 (by unfold lnA; rw [if_neg z3, if_neg z2, if_neg z1, ifLe (by omega) hm, if_neg zN, nI_clamp hm]))
    · exact nomatch q
  · rintro e μ1 ⟨c1, _, q⟩
    rcases q with ⟨_, q, _⟩ | ⟨q1, q⟩
    · exact nomatch q
    · exact ⟨c1, Or.inr ⟨q1, by rw [Sum.inr.inj q]⟩⟩
theorem lineR_s (n : Nat) (μ : Mu) {T : Nat → Nat} {v : Int32} (hI : INT μ T) (hv : ¬ v < -3) (hn : 20000 < n) : Ok (X12_line n v μ) (fun a μ' => TD μ' T ∧ RI μ' ∧ ((bhS T (sT T + 1) ≤ 6000 ∧ μ'.1 171 5 = 0 ∧ ∃ N, STP T N ∧ a = lnA T N v) ∨ (¬ bhS T (sT T + 1) ≤ 6000 ∧ μ'.1 171 5 = 2))) := by
  have hW := hI.1.1
  unfold X12_line X12_line_12 X12_line_131 X12_fails
  rw [if_neg hv, if_pos th_0]
  refine up_r n μ hI hn (fun z μ1 t1 r1 _ => ?_) (fun z μ1 S t1 r1 z5 hs hV => ?_)
  · dsimp only
    rw [if_pos (show b2i false = 0 from rfl)]
    exact Ok_r ⟨td_th t1, RI_th r1, Or.inr ⟨z, si_a⟩⟩
  · dsimp only
    rw [if_neg (show ¬ b2i true = 0 by decide)]
    obtain ⟨e1, t2, s2, o2⟩ := save_s n μ1 t1 (by omega)
    rw [bS e1]
    dsimp only
    have v2 : RV (mvF μ1 172 0 175 0 25) T S := RV_o hV (by rw [o2 171 (by decide)]) (fun o a b c => by rw [o2 o (by omega)])
    have r2 : RI (mvF μ1 172 0 175 0 25) := RI_o r1 (by rw [o2 171 (by decide)]) (fun o a b c => by rw [o2 o (by omega)])
    have z52 : (mvF μ1 172 0 175 0 25).1 171 5 = 0 := by rw [o2 171 (by decide)]; exact z5
    generalize mvF μ1 172 0 175 0 25 = μ2 at *
    obtain ⟨a, μ3, e3, N, s1, rfl, w3, t3, h44, h193, sv3⟩ := goesOn_s n μ2 (U := T) hI.1 t2 hs v2 s2 (by omega)
    have ag3 : AG (D_ri ++ [(171, 171, 5)]) μ2 μ3 := Fr_ag (fr_X12_goesOn n μ2 _ e3) (by decide +kernel)
    rw [bS e3]
    dsimp only
    have hN60 := s1.1
    refine Ok_b (scoreNow_s n μ3 w3.1 t3 (by omega)) ?_
    rintro _ μ4 ⟨k4, rfl⟩
    dsimp only
    obtain ⟨b1, b2, b3⟩ := back_s n μ4 (KM_td sv3 k4.km) (by omega)
    rw [bS b1]
    dsimp only
    have r5 : RI (mvF μ4 175 0 172 0 25) := by
      refine RI_o (RI_ag (RI_ag r2 (AG_ap ag3).1) (Fr_ag (KR_fr k4) (by decide +kernel))) (by rw [b3]) (fun o a b c => funext (fun k => mvF_o μ4 (by omega) 25))
    have z55 : (mvF μ4 175 0 172 0 25).1 171 5 = 0 := by
      rw [b3, k4.2.2 5 (by omega), ((AG_ap ag3).2.f 171 5 (by decide)).1]; exact z52
    have h445 : (mvF μ4 175 0 172 0 25).1 171 44 = nI N := by rw [b3, k4.2.2 44 (by omega)]; exact h44
    have h1935 : ∀ j, j < N → (mvF μ4 175 0 172 0 25).1 193 j = oI (bsP (bdF T j)) := fun j hj => by
      rw [mvF_o μ4 (by decide), k4.1 193 (by decide) (by decide)]; exact h193 j hj
    generalize mvF μ4 175 0 172 0 25 = μ5 at *
    have fin : ∀ x, x = lnA T N v → TD μ5 T ∧ RI μ5 ∧ ((bhS T (sT T + 1) ≤ 6000 ∧ μ5.1 171 5 = 0 ∧ ∃ N, STP T N ∧ x = lnA T N v) ∨ (¬ bhS T (sT T + 1) ≤ 6000 ∧ μ5.1 171 5 = 2)) := fun x e => ⟨b2, r5, Or.inl ⟨z, z55, N, s1, e⟩⟩
    rw [h445]
    by_cases z1 : v = -1
    · rw [if_pos z1]
      exact Ok_r (fin _ (by unfold lnA; rw [if_neg (by rw [z1]; decide), if_neg (by rw [z1]; decide), if_pos z1]))
    · rw [if_neg z1]
      by_cases z2 : v = -2
      · rw [if_pos z2, b2i_if]
        cases hr : rgB (fun j => stN (bdF T j)) N with
        | false => rw [if_neg (by decide)]; exact Ok_r (fin _ (by unfold lnA; rw [if_neg (by rw [z2]; decide), if_pos z2, hr]; rfl))
        | true => rw [if_pos rfl]; exact Ok_r (fin _ (by unfold lnA; rw [if_neg (by rw [z2]; decide), if_pos z2, hr]; rfl))
      · rw [if_neg z2]
        by_cases z3 : v = -3
        · rw [if_pos z3]
          exact Ok_r (fin _ (by unfold lnA; rw [if_pos z3]))
        · rw [if_neg z3]
          obtain ⟨m, hm, rfl⟩ := nn_d (ln_nn hv z3 z2 z1)
          by_cases zN : N ≤ m
          · rw [ifLe (by omega) hm, if_pos zN]
            exact Ok_r (fin _ (by unfold lnA; rw [if_neg z3, if_neg z2, if_neg z1, ifLe (by omega) hm, if_pos zN]))
          · rw [ifLe (by omega) hm, if_neg zN, gd_n (by omega) (by decide), nI_clamp (by omega), h1935 m (by omega)]
            exact Ok_r (fin _ (by unfold lnA; rw [if_neg z3, if_neg z2, if_neg z1, ifLe (by omega) hm, if_neg zN, nI_clamp hm]))
theorem call_line (n : Nat) (μ : Mu) (v : Int32) (h : INV μ) (hn : 20000 < n) : CBx (L_line n v μ) (X12_line n v) := by
  obtain ⟨T, hI⟩ := h
  by_cases hv : v < -3
  · refine CBs_mk (x := .inr 1) (k := 1) hI ?_ (fun r e => fr_X11_line n v μ r e) (by decide +kernel) (fun μ1 e => ⟨μ1, by unfold L_line; rw [e]; rfl, fun v q => (nomatch q), fun e q => rfl⟩) (Or.inr (by decide)) (fun μ1 h1 => ?_) (fun μ1 r e => fr_X12_line n v μ1 r e) (by decide +kernel)
    · unfold X11_line
      rw [if_neg (fun q => Int32.not_lt.mpr q hv)]
      exact Ok_r ⟨rfl, hI.2.2.2.1⟩
    · unfold X12_line X12_line_12
      rw [if_pos hv, if_neg th_1]
      exact Ok_r ⟨si_a, fun v q => (nomatch q), td_th h1.2.1, RI_th h1.2.2.2.2.1⟩
  · obtain ⟨x, μx, ex, cx, hx⟩ := lineC_s n μ hI hv hn
    rcases hx with ⟨z6, N, sN, rfl⟩ | ⟨z6, rfl⟩
    · refine CBs_mk (x := .inl (lnA T N v)) (k := 0) hI ⟨_, _, ex, rfl, cx⟩ (fun r e => fr_X11_line n v μ r e) (by decide +kernel) (fun μ1 e => ⟨_, by unfold L_line; rw [e], fun v q => by rw [Sum.inl.inj q], fun e q => nomatch q⟩) (Or.inl ⟨_, rfl⟩) (fun μ1 h1 => ?_) (fun μ1 r e => fr_X12_line n v μ1 r e) (by decide +kernel)
      refine Ok_m (lineR_s n μ1 h1 hv hn) ?_
      rintro a μ2 ⟨t2, r2, q⟩
      rcases q with ⟨_, z5, M, sM, rfl⟩ | ⟨q, _⟩
      · rw [stp_u sM sN]
        exact ⟨z5, fun v q => Sum.inl.inj q, t2, r2⟩
      · exact absurd z6 q
    · refine CBs_mk (x := .inr 2) (k := 2) hI ⟨_, _, ex, rfl, cx⟩ (fun r e => fr_X11_line n v μ r e) (by decide +kernel) (fun μ1 e => ⟨μ1, by unfold L_line; rw [e]; rfl, fun v q => (nomatch q), fun e q => rfl⟩) (Or.inr (by decide)) (fun μ1 h1 => ?_) (fun μ1 r e => fr_X12_line n v μ1 r e) (by decide +kernel)
      refine Ok_m (lineR_s n μ1 h1 hv hn) ?_
      rintro a μ2 ⟨t2, r2, q⟩
      rcases q with ⟨q, _⟩ | ⟨_, q⟩
      · exact absurd q z6
      · exact ⟨q, fun v q => (nomatch q), t2, r2⟩
