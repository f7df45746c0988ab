/-! call: board -/
def D_pp : List (Nat × Nat × Nat) := [(9, 9, 0), (9, 9, 1), (9, 9, 2), (10, 10, 9999), (69, 148, 9999), (179, 182, 9999)]
theorem PAST_p {μ μ' : Mu} {T : Nat → Nat} (h : PAST μ T) (g : AG D_pp μ μ') (a28 : μ'.1 171 28 = μ.1 171 28) (a29 : μ'.1 171 29 = μ.1 171 29) : PAST μ' T := by
  obtain ⟨d, u, st, B, m, h1, h2, h3, h4, h5, h6, h7, h8, h9, h10, h11⟩ := h
  have e179 : ∀ o, 179 ≤ o → o ≤ 182 → μ'.1 o = μ.1 o := fun o a b => (g.o o 179 182 (by decide) a b).1
  refine ⟨d, u, st, B, m, h1, h2, by rw [(g.f 9 0 (by decide)).1]; exact h3, by rw [(g.f 9 1 (by decide)).1]; exact h4, by rw [(g.f 9 2 (by decide)).1]; exact h5, by rw [a28]; exact h6, by rw [a29]; exact h7, h8, fun i hi => ?_, fun i hi => ?_, fun j hj => ?_⟩
  · obtain ⟨a, b, c, e⟩ := h9 i hi
    have := slN_lt h2 (show i < 40 by omega)
    exact ⟨a, b, by rw [(g.o 10 10 10 (by decide) (by decide) (by decide)).1]; exact c, SC_o e (g.o _ 69 148 (by decide) (by omega) (by omega)).1 (g.o _ 69 148 (by decide) (by omega) (by omega)).1⟩
  · rw [e179 179 (by decide) (by decide), e179 180 (by decide) (by decide)]; exact h10 i hi
  · rw [e179 181 (by decide) (by decide), e179 182 (by decide) (by decide)]; exact h11 j hj
def D_bd : List (Nat × Nat × Nat) := D_ci ++ (D_ri ++ (D_xpl ++ (D_trs ++ D_img)))
theorem INT_b {μ μ' : Mu} {T T' : Nat → Nat} (h : INT μ T) (w : W1 T') (t : TD μ' T') (nw : NOW μ' T') (p : PAST μ' T') (g : AG D_bd μ μ') (r : RDR μ') : INT μ' T' := by
  obtain ⟨_, _, _, c, ri, _, b1, b2, b3, b4⟩ := h
  unfold D_bd at g
  obtain ⟨g1, g⟩ := AG_ap g
  obtain ⟨g2, g⟩ := AG_ap g
  obtain ⟨g4, g⟩ := AG_ap g
  obtain ⟨g5, g6⟩ := AG_ap g
  exact ⟨w, t, nw, CI_ag c g1, RI_ag ri g2, p, r, XPL_ag b2 g4, TRS_ag b3 g5, IMG_ag b4 g6⟩
theorem L_bd_l {n : Nat} {v a : Int32} {μ μ1 : Mu} (h : X11_board n v μ = some (.inl a, μ1)) : L_board n v μ = some (0, sj μ1 201 0 a.toInt64) := by unfold L_board; rw [h]
theorem call_board (n : Nat) (μ : Mu) (v : Int32) (h : INV μ) (hn : 1000 < n) : CBx (L_board n v μ) (X12_board n v) := by
  obtain ⟨T, hI⟩ := h
  obtain ⟨⟨z, z1, z2, z3, z4⟩, f2, f3⟩ := id hI.2.2.2.2.2.2.1
  by_cases hv : inR v 0 z
  · obtain ⟨m, _, hm, rfl⟩ := inR_d (by decide) (by omega) hv
    obtain ⟨b, hb⟩ : ∃ b : Nat → Nat, ∀ i, i < m → b i < 256 ∧ μ.1 14 i = nI (b i) ∧ μ.1 177 i = nI (b i) := ⟨fun i => (μ.1 14 i).toNatClampNeg, fun i hi => by
      obtain ⟨c, c1, c2, c3⟩ := z4 i (by omega)
      dsimp only
      rw [c2, c3, nI_clamp (by omega)]
      exact ⟨c1, rfl, rfl⟩⟩
    obtain ⟨x, hx⟩ := FN_x b m
    obtain ⟨_, μ1, e1, fc⟩ := rdC_s n μ (by omega) (fun i hi => ⟨(hb i hi).1, (hb i hi).2.1⟩) hx hn
    have ag1 : AG (D_now ++ (D_pp ++ (D_bd ++ [(14, 14, 9999), (171, 171, 7), (171, 171, 28), (171, 171, 29), (172, 172, 9999), (177, 177, 9999)]))) μ μ1 := Fr_ag (fr_X4_read n _ μ _ e1) (by decide +kernel)
    have ag2 : AG (D_now ++ (D_pp ++ (D_bd ++ [(14, 14, 9999), (171, 171, 7), (171, 171, 28), (171, 171, 29), (172, 172, 9999), (177, 177, 9999)]))) μ1 (si μ1 12 4 0) := Fr_ag (L := [(12, 12, 4)]) (Fr.si Fr.rf (inL_mk 12 12 4 (by decide) (by decide) (by decide) (Or.inr rfl))) (by decide +kernel)
    have n0 : ¬ nI m < 0 := nI_pos (by omega)
    have nm : nI m ≤ μ.1 12 4 := by rw [z2]; exact (nI_leI (by omega) (by omega)).mpr hm
    have rfr : ∀ μ2 a μ3, X12_board n (nI m) μ2 = some (a, μ3) → AG (D_now ++ (D_pp ++ (D_bd ++ [(12, 12, 2), (12, 12, 3), (12, 12, 4), (201, 201, 9999)]))) μ2 μ3 := fun μ2 a μ3 e => Fr_ag (fr_X12_board n _ μ2 _ e) (by decide +kernel)
    have sfr : ∀ (μ2 : Mu) (w : Int64), AG (D_now ++ (D_pp ++ (D_bd ++ [(14, 14, 9999), (171, 171, 7), (171, 171, 28), (171, 171, 29), (172, 172, 9999), (177, 177, 9999)]))) μ2 (sj μ2 201 0 w) := fun μ2 w => AG.sj (by decide +kernel)
    cases x with
    | inl f =>
      have f1 := fc.1 f rfl
      have eX : X11_board n (nI m) μ = some (.inl (-10 - nI f.1), si μ1 12 4 0) := by
        unfold X11_board
        rw [if_neg n0, if_pos nm, bS e1]
        dsimp only
        rw [si_c (by decide), if_neg (FTC_nz f1), f1.1]
      have eL := L_bd_l eX
      have ag3 := (ag1.tr ag2).tr (sfr (si μ1 12 4 0) (-10 - nI f.1).toInt64)
      obtain ⟨x1, x2⟩ := AG_ap ag3
      obtain ⟨x2, x3⟩ := AG_ap x2
      obtain ⟨x3, x4⟩ := AG_ap x3
      obtain ⟨a, μ3, e3, ⟨w5, w7⟩, fr⟩ := rdR_s n (sj (si μ1 12 4 0) 201 0 (-10 - nI f.1).toInt64) (by omega) (fun i hi => ⟨(hb i hi).1, by rw [(x4.o 177 177 177 (by decide) (by decide) (by decide)).1]; exact (hb i hi).2.2⟩) hx z1 hm (by rw [(x4.f 171 7 (by decide)).1]; exact z3) hn
      obtain ⟨rfl, w15, w16, w172, w28, w29⟩ := fr.1 f rfl
      obtain ⟨y1, y2⟩ := AG_ap (rfr _ _ _ e3)
      obtain ⟨y2, y3⟩ := AG_ap y2
      obtain ⟨y3, y4⟩ := AG_ap y3
      refine ⟨0, _, _, μ3, eL, e3, w5, fun _ => ?_, T, INT_b hI hI.1 (TD_o hI.2.1 (by rw [w172, (x4.o 172 172 172 (by decide) (by decide) (by decide)).1])) (NOW_ag hI.2.2.1 (x1.tr y1)) (PAST_p hI.2.2.2.2.2.1 (x2.tr y2) (by rw [w28, (x4.f 171 28 (by decide)).1]) (by rw [w29, (x4.f 171 29 (by decide)).1])) (x3.tr y3) ⟨⟨0, by decide, ?_, w7, fun i q => by omega⟩, ?_, ?_⟩⟩
      · rw [(y4.o 201 201 201 (by decide) (by decide) (by decide)).2, sj_a]
      · rw [(y4.f 12 4 (by decide)).1]
        show (si μ1 12 4 0).1 12 4 = nI 0
        rw [si_a]; rfl
      · rw [(y4.f 12 2 (by decide)).1, w15]
        show (si μ1 12 4 0).1 12 2 = nI f.1
        rw [si_c (by decide)]; exact f1.1
      · rw [(y4.f 12 3 (by decide)).1, w16]
        show (si μ1 12 4 0).1 12 3 = nI f.2
        rw [si_c (by decide)]; exact f1.2.1
    | inr T' =>
      obtain ⟨c2, c3, cb⟩ := fc.2 T' rfl
      have hW := FN_w (by omega) hx
      obtain ⟨p1, _⟩ := AG_ap (ag1.tr ag2)
      have hN := NOW_ag hI.2.2.1 p1
      obtain ⟨_, μ4, e4, s1, s2, s3, s4⟩ := settle_s n (si μ1 12 4 0) (o := 13) (o2 := 149) (T := T') (by decide) (by decide) (by decide) (by decide) (by decide) (by decide) hW.1 (RUL_o cb.1 (by rw [si_o (by decide)])) (SC_o cb.2 (by rw [si_o (by decide)]) (by rw [si_o (by decide)])) hN.1.2 hn
      have eX : X11_board n (nI m) μ = some (.inl (nI (T' 0)), μ4) := by
        unfold X11_board
        rw [if_neg n0, if_pos nm, bS e1]
        dsimp only
        rw [si_c (by decide), if_pos c2, bS e4]
        dsimp only
        rw [s1.2.1]
      have eL := L_bd_l eX
      have ag4 : AG (D_bd ++ [(9, 9, 2), (12, 12, 2), (12, 12, 3), (12, 12, 4), (171, 171, 7), (177, 177, 9999)]) (si μ1 12 4 0) μ4 := Fr_ag (fr_X11_settle n _ _ _ _ e4) (by decide +kernel)
      have ag5 : AG (D_bd ++ [(9, 9, 2), (12, 12, 2), (12, 12, 3), (12, 12, 4), (171, 171, 7), (177, 177, 9999)]) μ4 (sj μ4 201 0 (nI (T' 0)).toInt64) := AG.sj (by decide +kernel)
      obtain ⟨_, x2⟩ := AG_ap (ag1.tr ag2)
      obtain ⟨x2, x3⟩ := AG_ap x2
      obtain ⟨x3, x4⟩ := AG_ap x3
      obtain ⟨u3, u4⟩ := AG_ap (ag4.tr ag5)
      obtain ⟨a, μ3, e3, ⟨w5, w7⟩, fr⟩ := rdR_s n (sj μ4 201 0 (nI (T' 0)).toInt64) (by omega) (fun i hi => ⟨(hb i hi).1, by rw [(u4.o 177 177 177 (by decide) (by decide) (by decide)).1, (x4.o 177 177 177 (by decide) (by decide) (by decide)).1]; exact (hb i hi).2.2⟩) hx z1 hm (by rw [(u4.f 171 7 (by decide)).1, (x4.f 171 7 (by decide)).1]; exact z3) hn
      obtain ⟨rfl, w15, w16, wt, w28, w29⟩ := fr.2 T' rfl
      obtain ⟨y1, y2⟩ := AG_ap (rfr _ _ _ e3)
      obtain ⟨y2, y3⟩ := AG_ap y2
      obtain ⟨y3, y4⟩ := AG_ap y3
      obtain ⟨d, u, st, B, mm, hp⟩ := hI.2.2.2.2.2.1
      obtain ⟨hst, hC, hP, hR⟩ := PST_i.mp hp
      refine ⟨0, _, _, μ3, eL, e3, w5, fun _ => ?_, T', INT_b hI hW wt (NOW_ag (NOW_ag s1 (AG.sj (by decide +kernel))) y1) (PAST_0 hst ?_ ?_ ?_ w28 w29) ((x3.tr u3).tr y3) ⟨⟨0, by decide, ?_, w7, fun i q => by omega⟩, ?_, ?_⟩⟩
      · rw [(y4.o 201 201 201 (by decide) (by decide) (by decide)).2, sj_a]
      · rw [(y2.f 9 0 (by decide)).1]; exact s2
      · rw [(y2.f 9 1 (by decide)).1]; exact s3
      · rw [(y2.f 9 2 (by decide)).1, (u4.f 9 2 (by decide)).1, (x2.f 9 2 (by decide)).1]; exact hP.2.2.1
      · rw [(y4.f 12 4 (by decide)).1, (u4.f 12 4 (by decide)).1, si_a]; rfl
      · rw [(y4.f 12 2 (by decide)).1, (u4.f 12 2 (by decide)).1, si_c (by decide), w15]; exact c2
      · rw [(y4.f 12 3 (by decide)).1, (u4.f 12 3 (by decide)).1, si_c (by decide), w16]; exact c3
  · have e1 : X11_board n v μ = some (.inr 1, μ) := by
      unfold X11_board X11_board_15
      rw [z2]
      rcases inR_no hv with q | ⟨q1, q2⟩
      · rw [if_pos q]
      · rw [if_neg q1, if_neg (Int32.not_le.mpr q2)]
    refine ⟨1, μ, 0, si (si μ 171 5 0) 171 5 1, by unfold L_board; rw [e1]; rfl, ?_, si_a, fun q => absurd q (by decide), T, INT_td hI ((Fr_ag th_fr (by decide +kernel)).tr (Fr_ag th_fr (by decide +kernel)))⟩
    unfold X12_board X12_fails
    rw [si_c (by decide), z3, bS (within_r n _ (b := z) (by omega) (nI_lN (by omega)) hv)]
    dsimp only
    rw [if_pos (show b2i false = 0 from rfl)]
    rfl
