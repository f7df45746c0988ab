/-! judge -/
theorem jd_s {xs : Nat → Int64} {c i : Nat} {T : Nat → Nat} (h : whyL T (xs i) = 0) : jdF xs (c + 1) i T = jdF xs c (i + 1) ((mvR T (wX T (xs i))).getD T) := if_pos h
theorem jd_f {xs : Nat → Int64} {c i : Nat} {T : Nat → Nat} (h : ¬ whyL T (xs i) = 0) : jdF xs (c + 1) i T = (i, whyL T (xs i), T) := if_neg h
/-- a move out of a tray -/
theorem tray_mv {T : Nat → Nat} {x : Int64} (hT : W1 T) (h : whyL T x = 0) : ∃ w l k t c', w < T 1 ∧ x = lN (offN (T 1) (T 2) + w) ∧ canW T w = true ∧ fulW T w = true ∧ mvW T w = some (l, k, t, c') ∧ (mvR T (wX T x)).getD T = upT T c' (thN T (T 2) l) ∧ W1 (upT T c' (thN T (T 2) l)) := by
  have b6 := hT.1.1.2.1
  obtain ⟨w, hw, rfl, hc⟩ := whyL_0 b6 h
  obtain ⟨hf, l, k, t, c', hm⟩ := can_fs hc
  refine ⟨w, l, k, t, c', hw, rfl, hc, hf, hm, ?_, (W1_mv hT hw (mvR_i hc hm)).1⟩
  rw [wX_w b6 hw, mvR_i hc hm]
  rfl
theorem judgeC_s (n : Nat) (μ : Mu) {T : Nat → Nat} {t M what : Nat} {xs : Nat → Int64} (v1 : Int32) (ht : t < 4) (hM : M ≤ 40) (hwh : what ≤ 3) (hT : W1 T) (hG : GA μ T) (hS : SC μ 55 T) (hm : μ.1 (33 + 2 * t) 2 = nI M) (hx : ∀ k, k < 40 → μ.2 (34 + 2 * t) k = xs k) (hn : 1000 < n) :
    Ok (X11_judge_45 n v1 (nI what) (33 + 2 * t) (-1) 0 0 μ) (fun a _ => a = .inl (jdA what (jdF xs M 0 T))) := by
  unfold X11_judge_45
  rw [i_0, i_1]
  refine Ok_lp4 (fun f x3 x4 x5 x6 μ' => x3 = 33 + 2 * t ∧ KP (fun x => RS x ∨ x = 55 ∨ x = 56) μ μ' ∧ ∃ i Tc, i ≤ M ∧ f = M - i ∧ x6 = nI i ∧ W1 Tc ∧ RE T Tc ∧ SC μ' 55 Tc ∧ ((x4 = -nI 1 ∧ x5 = nI 0 ∧ jdF xs (M - i) i Tc = jdF xs M 0 T) ∨ (∃ R, jdF xs M 0 T = R ∧ R.2.2 = Tc ∧ x4 = nI R.1 ∧ x5 = nI R.2.1 ∧ R.2.1 ≠ 0 ∧ R.1 ≤ M))) ?_ M (by omega) ⟨rfl, KP.rf, 0, T, by omega, rfl, rfl, hT, RE.rf, hS, Or.inl ⟨rfl, rfl, rfl⟩⟩
  rintro K f x3 x4 x5 x6 μ1 ⟨rfl, kp, i, Tc, hi, rfl, rfl, hTc, hre, hSc, hor⟩ hK
  have hGc : GE μ1 Tc := GE_re hre (GE_o hG.1.1 (kp.1 1 (by unfold RS; omega)) (kp.1 2 (by unfold RS; omega)) (kp.1 3 (by unfold RS; omega)))
  have hfin : ∀ R : Nat × Nat × (Nat → Nat), jdF xs M 0 T = R → R.2.2 = Tc → x5 = nI R.2.1 → (x4 = if R.2.1 = 0 then -nI 1 else nI R.1) → Ok (X11_judge_118 n v1 (nI what) x4 x5 μ1) (fun a _ => a = .inl (jdA what (jdF xs M 0 T))) := by
    intro R e1 e2 e3 e4
    rw [e1]
    unfold X11_judge_118 jdA
    rw [i_0, i_1, i_2, ifEq (by omega) (by decide), ifEq (by omega) (by decide), ifEq (by omega) (by decide)]
    by_cases z0 : what = 0
    · rw [if_pos z0, if_pos z0, e4]; exact Ok_r rfl
    · rw [if_neg z0, if_neg z0]
      by_cases z1 : what = 1
      · rw [if_pos z1, if_pos z1, e3]; exact Ok_r rfl
      · rw [if_neg z1, if_neg z1]
        by_cases z2 : what = 2
        · rw [if_pos z2, if_pos z2, e2]
          refine Ok_b (scoreOf_s n μ1 os55 hTc.1 hGc hSc hn) ?_
          rintro _ μ2 ⟨_, rfl⟩
          exact Ok_r rfl
        · rw [if_neg z2, if_neg z2, hSc.1, e2]; exact Ok_r rfl
  unfold X11_judge_45b X11_judge_112
  rw [kd_of (tr_k t ht), kp.1 (33 + 2 * t) (by unfold RS; omega), hm, ifLe (by omega) (by omega)]
  rcases hor with ⟨rfl, rfl, hj⟩ | ⟨R, e1, e2, rfl, rfl, e5, e6⟩
  · by_cases c : M ≤ i
    · obtain rfl : i = M := by omega
      rw [if_pos c]
      rw [Nat.sub_self] at hj
      exact hfin (i, 0, Tc) (by rw [← hj]; rfl) rfl rfl (by rw [if_pos rfl])
    · rw [if_neg c, i_1, if_pos rfl, gd_n (by omega) (by decide), nI_clamp (by omega), show 33 + 2 * t + 1 = 34 + 2 * t by omega, show μ1.2 (34 + 2 * t) i = xs i by rw [kp.2]; exact hx i (by omega)]
      obtain ⟨c', hc'⟩ : ∃ c', M - i = c' + 1 := ⟨M - i - 1, by omega⟩
      refine Ok_b (reasonL n μ1 (xs i) os55 hTc.1 hGc hSc hn) ?_
      rintro _ μ2 ⟨k2, rfl⟩
      dsimp only
      have s2 : SC μ2 55 Tc := SC_o hSc (k2.1 55 (by unfold RS; omega)) (k2.1 56 (by unfold RS; omega))
      by_cases z : whyL Tc (xs i) = 0
      · obtain ⟨w, l, k, tt, cc, hw, ex, hc, hf, hmv, eg, hW1⟩ := tray_mv hTc z
        rw [z, if_pos (show nI 0 = 0 from rfl), show μ2.2 (34 + 2 * t) i = xs i by rw [k2.2, kp.2]; exact hx i (by omega), ex, lN_i]
        refine Ok_b (sowT_s n μ2 (T := Tc) (o := 55) (by decide) (by decide) hTc.1 (GE_o hGc (k2.1 1 (by unfold RS; omega)) (k2.1 2 (by unfold RS; omega)) (k2.1 3 (by unfold RS; omega))) s2 hw hf hn) ?_
        rintro a μ3 ⟨k3, _, q⟩
        obtain ⟨_, q2, _⟩ := q l k tt cc hmv
        dsimp only
        rw [kd_of (tr_k t ht), nI_add]
        refine hK (M - (i + 1)) _ _ _ _ _ (by omega) ⟨rfl, (kp.tr k2 (fun o q => Or.inl q)).tr k3 (fun o q => by unfold RS; omega), i + 1, _, by omega, rfl, rfl, hW1, hre.tr RE_up, q2, Or.inl ⟨rfl, rfl, ?_⟩⟩
        rw [← hj, hc', jd_s z, eg, show M - (i + 1) = c' by omega]
      · rw [if_neg (iv_nz z (by have := whyL_lt (T := Tc) (x := xs i); omega)), kd_of (tr_k t ht), nI_add]
        refine hK (M - (i + 1)) _ _ _ _ _ (by omega) ⟨rfl, kp.tr k2 (fun o q => Or.inl q), i + 1, Tc, by omega, rfl, rfl, hTc, hre, s2, Or.inr ⟨(i, whyL Tc (xs i), Tc), ?_, rfl, rfl, rfl, z, by omega⟩⟩
        rw [← hj, hc', jd_f z]
  · have hx4 : ¬ nI R.1 = -1 := by rw [i_1]; exact fun q => (eq_m1 (by omega)).mp q
    rw [if_neg hx4]
    have fin2 := hfin R e1 e2 rfl (by rw [if_neg e5])
    by_cases c : M ≤ i
    · rw [if_pos c]; exact fin2
    · rw [if_neg c]; exact fin2
theorem judgeR_s (n : Nat) (μ : Mu) {T : Nat → Nat} {t M what : Nat} {xs : Nat → Int64} (ht : t < 4) (hM : M ≤ 40) (hwh : what ≤ 3) (hT : W1 T) (hD : TD μ T) (hsv : ∀ k, k < 25 → μ.1 175 k = nI (T k)) (hm : μ.1 199 t = nI M) (hx : ∀ k, k < 40 → μ.2 200 (40 * t + k) = xs k) (hn : 1000 < n) :
    Ok (X12_judge_58 n (nI t) (nI what) 0 0 μ) (fun a μ' => a = jdA what (jdF xs M 0 T) ∧ TD μ' T ∧ μ'.1 171 5 = μ.1 171 5) := by
  unfold X12_judge_58
  rw [i_0]
  refine Ok_lp2 (fun f x3 x4 μ' => KM μ μ' ∧ ∃ i Tc, i ≤ M ∧ x3 = nI i ∧ W1 Tc ∧ TD μ' Tc ∧ ((f = 2 * (M - i) + 1 ∧ x4 = nI 0 ∧ jdF xs (M - i) i Tc = jdF xs M 0 T) ∨ (f = 0 ∧ i < M ∧ ∃ R, jdF xs M 0 T = R ∧ R.2.2 = Tc ∧ R.1 = i ∧ x4 = nI R.2.1 ∧ R.2.1 ≠ 0 ∧ R.2.1 < 6))) ?_ (2 * M + 1) (by omega) ⟨KM.rf, 0, T, by omega, rfl, hT, hD, Or.inl ⟨rfl, rfl, rfl⟩⟩
  rintro K f x3 x4 μ1 ⟨km, i, Tc, hi, rfl, hTc, hDc, hor⟩ hK
  have hfin : ∀ R : Nat × Nat × (Nat → Nat), jdF xs M 0 T = R → R.2.2 = Tc → R.1 = i → x4 = nI R.2.1 → R.2.1 < 6 → Ok (X12_judge_118 n (nI t) (nI what) (nI i) x4 μ1) (fun a μ' => a = jdA what (jdF xs M 0 T) ∧ TD μ' T ∧ μ'.1 171 5 = μ.1 171 5) := by
    intro R e1 e2 e3 e4 e5
    rw [e1]
    unfold X12_judge_118 X12_judge_182
    refine Ok_b (scoreNow_s n μ1 hTc.1 hDc hn) ?_
    rintro _ μ2 ⟨kr, rfl⟩
    dsimp only
    have sv : ∀ k, k < 25 → μ2.1 175 k = nI (T k) := fun k hk => by rw [kr.1 175 (by decide) (by decide), km.1 175 (by decide) (by decide) (by decide)]; exact hsv k hk
    rw [bS (copies_s n μ2 (by decide) (by decide) (by decide) (by decide) (by decide) (by decide) (by decide) (by omega))]
    dsimp only
    have t3 : TD (mvF μ2 175 0 172 0 25) T := fun k hk => by
      rw [mvF_d, if_pos ⟨Nat.zero_le _, by omega⟩, Nat.sub_zero, Nat.zero_add]
      exact sv k hk
    have z5 : (mvF μ2 175 0 172 0 25).1 171 5 = μ.1 171 5 := by rw [mvF_o _ (by decide), kr.2.2 5 (by omega), km.2.2 5 (by omega)]
    have m2 : μ2.1 172 2 = nI (Tc 2) := KR_TD kr hDc 2 (by omega)
    unfold jdA
    rw [m2, e4, i_0, i_1, i_2, ifEq (by omega) (by decide), ifEq (by omega) (by decide), ifEq (by omega) (by decide), ifEq (by omega) (by decide)]
    by_cases z0 : what = 0
    · rw [if_pos z0, if_pos z0, e3]
      by_cases z : R.2.1 = 0
      · rw [if_pos z, if_pos z]; exact Ok_r ⟨rfl, t3, z5⟩
      · rw [if_neg z, if_neg z]; exact Ok_r ⟨rfl, t3, z5⟩
    · rw [if_neg z0, if_neg z0]
      by_cases z1 : what = 1
      · rw [if_pos z1, if_pos z1]; exact Ok_r ⟨rfl, t3, z5⟩
      · rw [if_neg z1, if_neg z1]
        by_cases z2 : what = 2
        · rw [if_pos z2, if_pos z2, e2]; exact Ok_r ⟨rfl, t3, z5⟩
        · rw [if_neg z2, if_neg z2, e2]; exact Ok_r ⟨rfl, t3, z5⟩
  unfold X12_judge_58b
  rw [gd_n ht (by decide), nI_clamp (by omega), km.1 199 (by decide) (by decide) (by decide), hm, ifLe (by omega) (by omega)]
  rcases hor with ⟨rfl, rfl, hj⟩ | ⟨rfl, hiM, R, e1, e2, e3, rfl, e5, e6⟩
  · by_cases c : M ≤ i
    · obtain rfl : i = M := by omega
      rw [if_pos c]
      rw [Nat.sub_self] at hj
      exact hfin (i, 0, Tc) (by rw [← hj]; rfl) rfl rfl rfl (show 0 < 6 by decide)
    · rw [if_neg c, if_pos (show nI 0 = 0 from rfl), i_40, pk_mul, nI_add, gd_n (by omega) (by decide), nI_clamp (by omega), show μ1.2 200 (40 * t + i) = xs i by rw [km.2.1]; exact hx i (by omega)]
      obtain ⟨c', hc'⟩ : ∃ c', M - i = c' + 1 := ⟨M - i - 1, by omega⟩
      refine Ok_b (whyToldL n μ1 (xs i) hTc.1 hDc hn) ?_
      rintro _ μ2 ⟨kr, rfl⟩
      dsimp only
      have t2 := KR_TD kr hDc
      by_cases z : whyL Tc (xs i) = 0
      · obtain ⟨w, l, k, tt, cc, hw, ex, hc, hf, hmv, eg, hW1⟩ := tray_mv hTc z
        rw [z, if_pos (show nI 0 = 0 from rfl), show μ2.2 200 (40 * t + i) = xs i by rw [kr.2.1, km.2.1]; exact hx i (by omega), ex, lN_i, ← cI_own2 hw]
        refine Ok_b (moves_s n μ2 hTc.1 t2 hw hf hmv hn) ?_
        rintro _ μ3 ⟨_, t3, km3⟩
        dsimp only
        rw [i_1, nI_add]
        refine hK (2 * (M - (i + 1)) + 1) _ _ _ (by omega) ⟨(km.tr kr.km).tr km3, i + 1, _, by omega, rfl, hW1, t3, Or.inl ⟨rfl, rfl, ?_⟩⟩
        rw [← hj, hc', jd_s z, eg, show M - (i + 1) = c' by omega]
      · have hlt := whyL_lt (T := Tc) (x := xs i)
        rw [if_neg (iv_nz z (by omega))]
        refine hK 0 _ _ _ (by omega) ⟨km.tr kr.km, i, Tc, hi, rfl, hTc, t2, Or.inr ⟨rfl, by omega, (i, whyL Tc (xs i), Tc), ?_, rfl, rfl, rfl, z, hlt⟩⟩
        rw [← hj, hc', jd_f z]
  · have fin2 := hfin R e1 e2 e3 rfl e6
    rw [if_neg (by omega), if_neg (iv_nz e5 (by omega))]
    exact fin2
theorem trn_m {μ : Mu} {t : Nat} (h : TRO μ t) : (μ.1 (33 + 2 * t) 1 = -1 ↔ μ.1 198 t = -1) := by rw [h.1]
theorem call_judge (n : Nat) (μ : Mu) (v what : Int32) (h : INV μ) (hn : 1000 < n) : CBx (L_judge n v what μ) (X12_judge n v what) := by
  obtain ⟨T, hI⟩ := h
  have hT := hI.1
  obtain ⟨hG, _, hS⟩ := id hI.2.2.1
  by_cases hv : inR v 0 3
  · obtain ⟨t, _, ht3, rfl⟩ := inR_d (by decide) (by decide) hv
    have ht : t < 4 := by omega
    obtain ⟨o1, o2, ⟨M, hM, o3, o4⟩, o5⟩ := id (hI.2.2.2.2.2.2.2.2.1 t ht)
    by_cases hl : μ.1 198 t = -1
    · refine CB_mk (x := .inr 2) (k := 2) hI ?_ (fun r e => fr_X11_judge n _ _ μ r e) (by decide +kernel) (fun μ1 e => ⟨μ1, by unfold L_judge; rw [e]; rfl, fun v q => (nomatch q), fun e q => rfl⟩) (Or.inr (by decide)) (fun μ1 h1 ag => ?_) (fun μ1 r e => fr_X12_judge n _ _ μ1 r e) (by decide +kernel)
      · unfold X11_judge
        rw [thr_r (laid_m n μ ht (by rw [o1]; exact hl))]
        exact Ok_r rfl
      · have hl1 : μ1.1 198 t = -1 := by rw [(ag.o 198 198 200 (by decide) (by decide) (by decide)).1]; exact hl
        unfold X12_judge X12_judge_33
        rw [bS (trF_t n μ1 ht), if_pos hl1]
        dsimp only
        rw [si_a, if_neg (by decide), if_neg (by decide)]
        exact Ok_r ⟨si_a, fun v q => (nomatch q), td_th h1.2.1⟩
    · by_cases hw : inR what 0 3
      · obtain ⟨w, _, hw3, rfl⟩ := inR_d (by decide) (by decide) hw
        refine CB_mk (x := .inl (jdA w (jdF (fun k => μ.2 200 (40 * t + k)) M 0 T))) (k := 0) hI ?_ (fun r e => fr_X11_judge n _ _ μ r e) (by decide +kernel) (fun μ1 e => ⟨_, by unfold L_judge; rw [e], fun v q => by rw [Sum.inl.inj q], fun e q => nomatch q⟩) (Or.inl ⟨_, rfl⟩) (fun μ1 h1 ag => ?_) (fun μ1 r e => fr_X12_judge n _ _ μ1 r e) (by decide +kernel)
        · unfold X11_judge
          rw [thr_l (laid_l n μ ht (by rw [o1]; exact hl)), kd_of (tr_k t ht), if_neg (nI_pos (by omega)), i_3, ifLe (by omega) (by decide), if_pos hw3]
          refine Ok_b (copy_s n μ (o := 55) (o1 := 53) (by decide) (by decide) (by decide) (by decide) (by decide) hS.1 hS.2) ?_
          rintro _ μ1 ⟨c1, c2, c3⟩
          dsimp only
          exact judgeC_s n μ1 (nI t) ht hM hw3 hT (GA_o hG (fun o a b => c3.1 o (by omega))) ⟨c1, c2⟩ (by rw [c3.1 _ (by omega)]; exact o3) (fun k hk => by rw [c3.2]; exact o5 k hk) hn
        · have e198 := ag.o 198 198 200 (by decide) (by decide) (by decide)
          have e199 := ag.o 199 198 200 (by decide) (by decide) (by decide)
          have e200 := ag.o 200 198 200 (by decide) (by decide) (by decide)
          have hl1 : ¬ μ1.1 198 t = -1 := by rw [e198.1]; exact hl
          unfold X12_judge X12_judge_33
          rw [bS (trF_t n μ1 ht), if_neg hl1]
          dsimp only
          rw [si_a, if_pos rfl, bS (within_l n _ (b := 3) (y := 3) (by decide) rfl hw)]
          dsimp only
          rw [if_neg (show ¬ b2i true = 0 by decide), si_a, if_pos (show (0 : Int32) ≤ 0 by decide), bS (copies_s n _ (by decide) (by decide) (by decide) (by decide) (by decide) (by decide) (by decide) (by omega))]
          dsimp only
          have t2 : TD (mvF (si μ1 171 5 0) 172 0 175 0 25) T := TD_o h1.2.1 (by funext k; rw [mvF_o _ (by decide), si_b (by decide)])
          refine Ok_m (judgeR_s n _ (T := T) (xs := fun k => μ.2 200 (40 * t + k)) ht hM hw3 hT t2 (fun k hk => ?_) (by rw [mvF_o _ (by decide), si_b (by decide), e199.1]; exact o4) (fun k hk => ?_) hn) ?_
          · rw [mvF_d, if_pos ⟨Nat.zero_le _, by omega⟩, Nat.sub_zero, Nat.zero_add, si_b (by decide)]
            exact h1.2.1 k hk
          · rw [mvF_2]
            show μ1.2 200 (40 * t + k) = _
            rw [e200.2]
          · rintro a μ3 ⟨rfl, q2, q3⟩
            exact ⟨by rw [q3, mvF_o _ (by decide), si_a], fun v q => Sum.inl.inj q, q2⟩
      · refine CB_mk (x := .inr 1) (k := 3) hI ?_ (fun r e => fr_X11_judge n _ _ μ r e) (by decide +kernel) (fun μ1 e => ⟨μ1, by unfold L_judge; rw [e]; rfl, fun v q => (nomatch q), fun e q => rfl⟩) (Or.inr (by decide)) (fun μ1 h1 ag => ?_) (fun μ1 r e => fr_X12_judge n _ _ μ1 r e) (by decide +kernel)
        · unfold X11_judge X11_judge_15
          rw [thr_l (laid_l n μ ht (by rw [o1]; exact hl)), kd_of (tr_k t ht)]
          rcases inR_no hw with q | ⟨q1, q2⟩
          · rw [if_pos q]; exact Ok_r rfl
          · rw [if_neg q1, i_3, if_neg (Int32.not_le.mpr q2)]; exact Ok_r rfl
        · have hl1 : ¬ μ1.1 198 t = -1 := by rw [(ag.o 198 198 200 (by decide) (by decide) (by decide)).1]; exact hl
          unfold X12_judge X12_judge_33
          rw [bS (trF_t n μ1 ht), if_neg hl1]
          dsimp only
          rw [si_a, if_pos rfl, bS (within_r n _ (b := 3) (y := 3) (by decide) rfl hw)]
          dsimp only
          rw [if_pos (show b2i false = 0 from rfl), si_a, if_neg (by decide)]
          exact Ok_r ⟨si_a, fun v q => (nomatch q), td_th (td_th h1.2.1)⟩
  · refine CB_mk (x := .inr 0) (k := 1) hI ?_ (fun r e => fr_X11_judge n _ _ μ r e) (by decide +kernel) (fun μ1 e => ⟨μ1, by unfold L_judge; rw [e]; rfl, fun v q => (nomatch q), fun e q => rfl⟩) (Or.inr (by decide)) (fun μ1 h1 ag => ?_) (fun μ1 r e => fr_X12_judge n _ _ μ1 r e) (by decide +kernel)
    · unfold X11_judge
      rw [thr_r (laid_r n μ hv)]
      exact Ok_r rfl
    · unfold X12_judge X12_judge_33
      rw [bS (trF_r n μ1 hv)]
      dsimp only
      rw [si_a, if_neg (by decide), if_neg (by decide)]
      exact Ok_r ⟨si_a, fun v q => (nomatch q), td_th h1.2.1⟩
