/-! call: row -/
theorem within_ab (n : Nat) (μ : Mu) (v : Int32) {b : Nat} (hb : b < 2 ^ 31) {y : Int64} (hy : y = lN b) : (inR v 10 b → X12_within n v.toInt64 10 y μ = some (b2i true, μ)) ∧ (¬ inR v 10 b → X12_within n v.toInt64 10 y μ = some (b2i false, μ)) := by
  obtain ⟨t, w1, w2⟩ := within_I n μ v (a := 10) (b := b) (x := 10) (y := y) (by decide) hb rfl hy
  refine ⟨fun h => by rw [w1, w2.mpr h], fun h => ?_⟩
  rw [w1]
  cases t with
  | false => rfl
  | true => exact absurd (w2.mp rfl) h
theorem call_row (n : Nat) (μ : Mu) (sd s k v : Int32) (h : INV μ) (hn : 20000 < n) : CBx (L_row n sd s k v μ) (X12_row n sd s k v) := by
  obtain ⟨T, hI⟩ := h
  have hW := hI.1.1
  have b6 := hW.1.2.1
  have b1 := hW.1.1
  rcases vf_d T sd s k with ⟨a, b, c, ha, hb, hz, hc, rfl, rfl, rfl, h0⟩ | hj
  · have hz' := hz
    rw [bh_s] at hz'
    have hol := off_le (T 1) a
    have hWl := WF_la hW ha hb hc
    have eS := sT_la b6 ha hc
    have eK := kT_la b6 ha hc
    obtain ⟨bb1, bb2, bb3⟩ := bs_re (la_re (T := T) (sd := a) (s := b) (k := c)) hW ha hb hc (T 1) (Nat.le_refl _)
    -- the class, once the position is laid
    have cls : ∀ {Q : Int32 ⊕ Nat → Mu → Prop}, (∀ μ1 S, CI μ1 → NOW μ1 T → SC μ1 55 (laT T a b c) → b < S → CV μ1 (laT T a b c) S → GA μ1 (laT T a b c) → Ok (if v < (10 : Int32) then X11_row_60 n (nI a) (nI b) (nI c) v (nI (offN (T 1) a)) μ1 else (if nI (10 + T 1) ≤ v then X11_row_60 n (nI a) (nI b) (nI c) v (nI (offN (T 1) a)) μ1 else (X7_worthBy n 55 ((nI (offN (T 1) a) + v) - (10 : Int32)) μ1).bind (fun r56 => some (Sum.inl r56.1, r56.2)))) Q) → Ok (X11_row n (nI a) (nI b) (nI c) v μ) Q := by
      intro Q hq
      unfold X11_row
      refine thr_ok (laySolved_s n μ _ _ _ hI hn) (fun x μ1 q => ?_) (fun e μ1 q => ?_)
      · obtain ⟨_, n1, a', b', c', q1, q2, q3, q4, q5, q6, q7, s1, S, hs, hv⟩ := ls_0 q.2 h0
        obtain rfl := nI_inj (by omega) (by omega) q5
        obtain rfl := nI_inj (by omega) (by omega) q6
        rw [bh_s] at q3
        obtain rfl := nI_inj (by omega) (by omega) q7
        rw [n1.1.1.1.1.1, pk_mul, mul_off ha]
        have e10 : (10 : Int32) + nI (T 1) = nI (10 + T 1) := by rw [i_10, nI_add]
        rw [e10]
        exact hq μ1 S q.1 n1 s1 hs (CV_re la_re.sy hWl hv) (GA_re la_re n1.1)
      · have := (ls_0 q.2 h0).1
        exact nomatch this
    -- the reference, behind valueOf
    have ref : ∀ μ1, INT μ1 T → ∀ {Q : Int32 → Mu → Prop}, (∀ μ2 S, TD μ2 T → RI μ2 → μ2.1 171 5 = 0 → b < S → RV μ2 T S → Ok ((X12_within n (v.toInt64) (0 : Int64) (3 : Int64) μ2).bind (fun r22 => (if r22.1 = 0 then (X12_within n (v.toInt64) (10 : Int64) (((9 : Int32) + (r22.2.1 172 1)).toInt64) r22.2).bind (fun r44 => (if r44.1 = 0 then X12_row_55 n (nI a) (nI b) (nI c) v (si r44.2 171 5 (2 : Int32)) else X12_row_55 n (nI a) (nI b) (nI c) v r44.2)) else X12_row_55 n (nI a) (nI b) (nI c) v r22.2))) Q) → Ok (X12_row n (nI a) (nI b) (nI c) v μ1) Q := by
      intro μ1 h1 Q hq
      unfold X12_row
      refine Ok_b (valueOfR_s n μ1 _ _ _ h1 hn) ?_
      rintro y μ2 ⟨t2, r2, vo⟩
      obtain ⟨z5, a', b', c', q1, q2, q3, q4, q5, q6, q7, rfl, S, hs, hv⟩ := vo_0 vo h0
      obtain rfl := nI_inj (by omega) (by omega) q5
      obtain rfl := nI_inj (by omega) (by omega) q6
      rw [bh_s] at q3
      obtain rfl := nI_inj (by omega) (by omega) q7
      dsimp only
      rw [z5, if_pos rfl]
      exact hq μ2 S t2 r2 z5 hs hv
    by_cases hv : rwJ T v
    · obtain ⟨j, rfl, hj⟩ := hv
      refine CBs_mk (x := .inl (rwV T a b c j)) (k := 0) hI ?_ (fun r e => fr_X11_row n _ _ _ _ μ r e) (by decide +kernel) (fun μ1 e => ⟨_, by unfold L_row; rw [e], fun v q => by rw [Sum.inl.inj q], fun e q => nomatch q⟩) (Or.inl ⟨_, rfl⟩) (fun μ1 h1 => ?_) (fun μ1 r e => fr_X12_row n _ _ _ _ μ1 r e) (by decide +kernel)
      · refine cls (fun μ1 S c1 n1 s1 hs hv g1 => ?_)
        rw [← eS] at hs
        unfold rwV
        rw [i_10, ifLt (by omega) (by decide)]
        by_cases z10 : j < 10
        · rw [if_pos z10, if_pos z10]
          unfold X11_row_60 X11_row_132
          rw [i_0, i_1, i_2, i_3, ifEq (by omega) (by decide), ifEq (by omega) (by decide), ifEq (by omega) (by decide), ifEq (by omega) (by decide)]
          by_cases z0 : j = 0
          · rw [if_pos z0, if_pos z0, bS (rankAt_s n μ1 (o := 55) (by decide) hWl g1 s1 hv hs (by omega)), eS, eK, show laT T a b c 2 = a from rfl, (VL_re la_re hW 41 (by omega) a b c ha (by omega) hc).2]
            exact Ok_r ⟨rfl, c1⟩
          · rw [if_neg z0, if_neg z0]
            by_cases z1 : j = 1
            · rw [if_pos z1, if_pos z1]
              obtain ⟨x, μ2, e2, hx⟩ := bestAt_s n μ1 os55 hWl g1 s1 hv hs (by omega)
              have c2 : CI μ2 := CI_ag c1 (Fr_ag (fr_X7_bestAt n _ μ1 (x, μ2) e2) (by decide +kernel))
              rw [eS, eK, show laT T a b c 2 = a from rfl, show laT T a b c 1 = T 1 from rfl] at hx
              have hb0 : ∀ off, bsI (laT T a b c) a b c off = bsI T a b c off := by
                intro off
                unfold bsI
                rw [show laT T a b c 1 = T 1 from rfl, bb1]
              rw [hb0] at hx
              obtain ⟨s1', s2'⟩ := bsI_sub (T := T) (sd := a) (s := b) (k := c) (off := offN (T 1) a) b6 (by omega)
              rw [bS e2, hx]
              dsimp only
              by_cases zz : bsI T a b c (offN (T 1) a) = -nI 1
              · rw [if_pos zz]; exact Ok_r ⟨by rw [s1'.mp zz], c2⟩
              · rw [if_neg zz, s2' zz]; exact Ok_r ⟨rfl, c2⟩
            · rw [if_neg z1, if_neg z1]
              by_cases z2 : j = 2
              · rw [if_pos z2, if_pos z2]
                obtain ⟨x, μ2, e2, kp, B, rfl, cb⟩ := choices_s n μ1 os55 hWl g1.1.1 s1 (by omega)
                have c2 : CI μ2 := CI_ag c1 (Fr_ag (fr_X8_choices n _ μ1 (nI B, μ2) e2) (by decide +kernel))
                rw [bS e2]
                dsimp only
                rw [bS (bitCount_s n μ2 cb.1), CB_pc (T := laT T a b c) b6 cb, mc_nc]
                exact Ok_r ⟨rfl, c2⟩
              · rw [if_neg z2, if_neg z2, if_pos (by omega)]
                obtain ⟨x, μ2, e2, rfl⟩ := manyBest_s n μ1 os55 hWl g1 s1 hv hs (by omega)
                have c2 : CI μ2 := CI_ag c1 (Fr_ag (fr_X7_manyBest n _ μ1 (_, μ2) e2) (by decide +kernel))
                rw [bS e2, eS, eK, show laT T a b c 2 = a from rfl, show laT T a b c 1 = T 1 from rfl, bb2]
                exact Ok_r ⟨rfl, c2⟩
        · rw [if_neg z10, if_neg z10, ifLe (by omega) (by omega), if_neg (by omega), nI_add, pk_sub (by omega), show offN (T 1) a + j - 10 = offN (T 1) a + (j - 10) by omega]
          obtain ⟨x, μ2, e2, q1, q2⟩ := worthBy_s n μ1 (T := laT T a b c) (w := j - 10) os55 hWl g1 s1 hv hs (show j - 10 < T 1 by omega) (by omega)
          rw [show laT T a b c 2 = a from rfl, show laT T a b c 1 = T 1 from rfl] at e2
          have c2 : CI μ2 := CI_ag c1 (Fr_ag (fr_X7_worthBy n _ _ μ1 (x, μ2) e2) (by decide +kernel))
          rw [eS, eK, show laT T a b c 2 = a from rfl, mvD_re la_re hW ha hb hc (show j - 10 < T 1 by omega)] at q1 q2
          rw [bS e2]
          cases hm : mvD T a b c (j - 10) with
          | none => rw [q1 hm]; exact Ok_r ⟨rfl, c2⟩
          | some y => rw [q2 y hm, (wo_re la_re hW ha hb hc (show j - 10 < T 1 by omega) hm).1]; exact Ok_r ⟨rfl, c2⟩
      · refine ref μ1 h1 (fun μ2 S t2 r2 z5 hs hv => ?_)
        obtain ⟨_, hx, v1, v2, v3⟩ := rv_at hv hs ha hc
        have go : Ok (X12_row_55 n (nI a) (nI b) (nI c) (nI j) μ2) (fun y μ3 => μ3.1 171 5 = 0 ∧ (∀ v, (Sum.inl (rwV T a b c j) : Int32 ⊕ Nat) = Sum.inl v → y = v) ∧ TD μ3 T ∧ RI μ3) := by
          unfold X12_row_55 X12_row_166 X12_row_169 X12_row_121 rwV
          rw [z5, if_pos (show (0 : Int32) ≤ 0 by decide), bS (seat_s n μ2 (hv.2.2.2.1 b (by omega)) (by omega))]
          dsimp only
          rw [i_10, ifLt (by omega) (by decide)]
          by_cases z10 : j < 10
          · rw [if_pos z10, if_pos z10, i_0, i_1, i_3, ifEq (by omega) (by decide), ifEq (by omega) (by decide), ifEq (by omega) (by decide)]
            by_cases z0 : j = 0
            · rw [if_pos z0, if_pos z0, gd_n hx (by decide), nI_clamp (by omega), v2]
              exact Ok_r ⟨z5, fun v q => Sum.inl.inj q, t2, r2⟩
            · rw [if_neg z0, if_neg z0]
              by_cases z1 : j = 1
              · rw [if_pos z1, if_pos z1]
                refine Ok_b (bestAtR_s n μ2 hW (t2 1 (by omega)) hv hs ha hc (by omega)) ?_
                rintro _ μ3 ⟨rfl, rfl⟩
                exact Ok_r ⟨z5, fun v q => Sum.inl.inj q, t2, r2⟩
              · rw [if_neg z1, if_neg z1]
                by_cases z2 : j = 2
                · rw [if_pos z2, if_neg (by omega)]
                  refine Ok_b (canAt_s n μ2 (well := false) hW (t2 1 (by omega)) hv hs ha hc (by omega)) ?_
                  rintro _ μ3 ⟨rfl, rfl⟩
                  exact Ok_r ⟨z5, fun v q => by rw [if_neg (by decide)]; exact Sum.inl.inj q, t2, r2⟩
                · rw [if_neg z2, if_pos (by omega)]
                  refine Ok_b (canAt_s n μ2 (well := true) hW (t2 1 (by omega)) hv hs ha hc (by omega)) ?_
                  rintro _ μ3 ⟨rfl, rfl⟩
                  exact Ok_r ⟨z5, fun v q => by rw [if_pos rfl]; exact Sum.inl.inj q, t2, r2⟩
          · have hw : j - 10 < T 1 := by omega
            rw [if_neg z10, if_neg z10, i_6, pk_mul, nI_add, pk_sub (by omega), show 6 * xS T a b c + j - 10 = 6 * xS T a b c + (j - 10) by omega, gd_n (by omega) (by decide), nI_clamp (by omega)]
            cases hm : mvD T a b c (j - 10) with
            | none =>
              rw [(v3.2 _ hw).1 hm, i_1, if_pos rfl, iv_m1000]
              exact Ok_r ⟨z5, fun v q => Sum.inl.inj q, t2, r2⟩
            | some y =>
              obtain ⟨g, st, k'⟩ := y
              obtain ⟨w1, w2, w3, w4, w5⟩ := worthV_s n μ2 hW hv hs ha hc hw hm
              rw [w2, i_1, if_neg (fun q => (eq_m1 (by omega)).mp q), pk_sub (by omega), bS w1]
              exact Ok_r ⟨z5, fun v q => Sum.inl.inj q, t2, r2⟩
        rcases hj with hj | hj
        · rw [bS (within_l n μ2 (b := 3) (y := 3) (by decide) rfl ((inR_j (by decide) (by decide) (by omega)).mpr ⟨by omega, hj⟩))]
          dsimp only
          rw [if_neg (show ¬ b2i true = 0 by decide)]
          exact go
        · rw [bS (within_r n μ2 (b := 3) (y := 3) (by decide) rfl (fun q => by have := (inR_j (by decide) (by decide) (by omega)).mp q; omega))]
          dsimp only
          rw [if_pos (show b2i false = 0 from rfl), t2 1 (by omega), show (9 : Int32) + nI (T 1) = nI (9 + T 1) by rw [i_9, nI_add], bS ((within_ab n μ2 (nI j) (b := 9 + T 1) (by omega) (nI_l (by omega))).1 ((inR_j (by decide) (by omega) (by omega)).mpr ⟨by omega, by omega⟩))]
          dsimp only
          rw [if_neg (show ¬ b2i true = 0 by decide)]
          exact go
    · have nj : ∀ j, (j ≤ 3 ∨ (10 ≤ j ∧ j < 10 + T 1)) → v ≠ nI j := fun j hj e => hv ⟨j, e, hj⟩
      refine CBs_mk (x := .inr 1) (k := 2) hI ?_ (fun r e => fr_X11_row n _ _ _ _ μ r e) (by decide +kernel) (fun μ1 e => ⟨μ1, by unfold L_row; rw [e]; rfl, fun v q => (nomatch q), fun e q => rfl⟩) (Or.inr (by decide)) (fun μ1 h1 => ?_) (fun μ1 r e => fr_X12_row n _ _ _ _ μ1 r e) (by decide +kernel)
      · refine cls (fun μ1 S c1 n1 s1 hs hv g1 => ?_)
        have r60 : Ok (X11_row_60 n (nI a) (nI b) (nI c) v (nI (offN (T 1) a)) μ1) (fun x μ1 => x = .inr 1 ∧ CI μ1) := by
          unfold X11_row_60
          rw [i_0, i_1, i_2, i_3, if_neg (nj 0 (by omega)), if_neg (nj 1 (by omega)), if_neg (nj 2 (by omega)), if_neg (nj 3 (by omega))]
          exact Ok_r ⟨rfl, c1⟩
        by_cases z10 : v < (10 : Int32)
        · rw [if_pos z10]; exact r60
        · rw [if_neg z10]
          by_cases z11 : nI (10 + T 1) ≤ v
          · rw [if_pos z11]; exact r60
          · exfalso
            have y1 := Int32.not_lt.mp z10
            have y2 := Int32.not_le.mp z11
            rw [Int32.le_iff_toInt_le] at y1
            rw [Int32.lt_iff_toInt_lt, nI_toInt (by omega)] at y2
            have : (10 : Int32).toInt = 10 := by decide
            refine nj v.toInt.toNat (by omega) (Int32.toInt_inj.mp ?_)
            rw [nI_toInt (by omega)]
            omega
      · refine ref μ1 h1 (fun μ2 S t2 r2 z5 hs hv2 => ?_)
        rw [bS (within_r n μ2 (b := 3) (y := 3) (by decide) rfl (fun q => by
          obtain ⟨j, _, q2, q3⟩ := inR_d (by decide) (by decide) q
          exact nj j (Or.inl q2) q3))]
        dsimp only
        rw [if_pos (show b2i false = 0 from rfl), t2 1 (by omega), show (9 : Int32) + nI (T 1) = nI (9 + T 1) by rw [i_9, nI_add], bS ((within_ab n μ2 v (b := 9 + T 1) (by omega) (nI_l (by omega))).2 (fun q => by
          obtain ⟨j, q1, q2, q3⟩ := inR_d (by decide) (by omega) q
          exact nj j (Or.inr ⟨q1, by omega⟩) q3))]
        dsimp only
        rw [if_pos (show b2i false = 0 from rfl)]
        unfold X12_row_55
        rw [si_a, if_neg (by decide)]
        exact Ok_r ⟨si_a, fun v q => (nomatch q), td_th t2, RI_th r2⟩
  · refine CBs_mk (x := .inr (veX (vf T sd s k))) (k := veK (vf T sd s k)) hI ?_ (fun r e => fr_X11_row n _ _ _ _ μ r e) (by decide +kernel) (fun μ1 e => ⟨μ1, by unfold L_row; rw [e]; exact ve_o hj, fun v q => (nomatch q), fun e q => rfl⟩) (Or.inr (ve_k hj).1) (fun μ1 h1 => ?_) (fun μ1 r e => fr_X12_row n _ _ _ _ μ1 r e) (by decide +kernel)
    · unfold X11_row
      refine thr_ok (laySolved_s n μ _ _ _ hI hn) (fun v μ1 q => ?_) (fun e μ1 q => ?_)
      · have := ls_e q.2 hj.1
        exact nomatch this
      · exact ⟨by rw [Sum.inr.inj (ls_e q.2 hj.1)], q.1⟩
    · unfold X12_row
      refine Ok_b (valueOfR_s n μ1 _ _ _ h1 hn) ?_
      rintro y μ2 ⟨t2, r2, vo⟩
      dsimp only
      rw [vo_e vo hj.1, if_neg (ve_k hj).1]
      unfold X12_row_55
      rw [vo_e vo hj.1, if_neg (ve_k hj).2.1]
      exact Ok_r ⟨vo_e vo hj.1, fun v q => (nomatch q), t2, r2⟩
