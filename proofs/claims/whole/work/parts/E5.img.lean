/-! calls: image, restore -/
theorem rulC_s (n : Nat) (μ : Mu) {o o1 : Nat} {T : Nat → Nat} (ho : oK o = 5) (ho1 : oK o1 = 5) (hne : o1 ≠ o) (hB : BD T) (h : RUL μ o1 T) : Ok (X5_copy n o o1 μ) (fun _ μ' => RUL μ' o T ∧ KP (fun x => x = o) μ μ') := by
  obtain ⟨a1, a2, a3, a4, a5, a6, a7, a8, a9, a10, _⟩ := hB
  obtain ⟨h0, h1, h2, h3, h4, h5, h6, h7, h8⟩ := h
  unfold X5_copy
  simp only [si_b hne]
  rw [kd_of ho, kd_of ho1, h0, h1, h2, h3, h4, h5, h6, h7, h8, bz_n a4, bz_n a5, bz_n a9, bz_n a10]
  refine Ok_r ⟨⟨?_, ?_, ?_, ?_, ?_, ?_, ?_, ?_, ?_⟩, ?_⟩
  · rw [si_c (by decide), si_c (by decide), si_c (by decide), si_c (by decide), si_c (by decide), si_c (by decide), si_c (by decide), si_c (by decide), si_a]
  · rw [si_c (by decide), si_c (by decide), si_c (by decide), si_c (by decide), si_c (by decide), si_c (by decide), si_c (by decide), si_a]
  · rw [si_c (by decide), si_c (by decide), si_c (by decide), si_c (by decide), si_c (by decide), si_c (by decide), si_a]
  · rw [si_c (by decide), si_c (by decide), si_c (by decide), si_c (by decide), si_c (by decide), si_a]
  · rw [si_c (by decide), si_c (by decide), si_c (by decide), si_c (by decide), si_a]
  · rw [si_c (by decide), si_c (by decide), si_c (by decide), si_a]
  · rw [si_c (by decide), si_c (by decide), si_a]
  · rw [si_c (by decide), si_a]
  · rw [si_a]
  · exact (((((((((KP.rf (R := fun x => x = o)).si rfl).si rfl).si rfl).si rfl).si rfl).si rfl).si rfl).si rfl).si rfl
theorem RUL_now {μ : Mu} {T : Nat → Nat} (h : NOW μ T) : RUL μ 1 T := by
  obtain ⟨⟨⟨⟨⟨r1, r2, r3, r4, r5, r6, r7, r8⟩, _⟩, _⟩, _⟩, hl, _⟩ := h
  exact ⟨hl, r1, r2, r3, r4, r5, r6, r7, r8⟩
theorem RUL_rr {μ : Mu} {T : Nat → Nat} (h : RUL μ 1 T) : RR μ T := by
  obtain ⟨h0, h1, h2, h3, h4, h5, h6, h7, h8⟩ := h
  exact ⟨h1, h2, h3, h4, h5, h6, h7, h8⟩
theorem settle_s (n : Nat) (μ : Mu) {o o2 : Nat} {T : Nat → Nat} (ho : oK o = 5) (ho1 : o ≠ 1) (ho2 : oK o2 = 6) (hp : o2 % 2 = 1) (h53 : o2 ≠ 53) (h40 : 40 < o2) (hW : WF T) (hR : RUL μ o T) (hS : SC μ o2 T) (hw : WT μ) (hn : 1000 < n) :
    Ok (X11_settle n o o2 μ) (fun _ μ' => NOW μ' T ∧ μ'.1 9 0 = nI 0 ∧ μ'.1 9 1 = nI 0 ∧ μ'.1 9 2 = μ.1 9 2) := by
  unfold X11_settle
  rw [kd_of ho, kd_of ho2]
  refine Ok_b (rulC_s n μ (o := 1) (o1 := o) (by decide) ho ho1 hW.1 hR) ?_
  rintro _ μ1 ⟨r1, k1⟩
  dsimp only
  refine Ok_b (build_s n μ1 (RUL_rr r1) hW.1 hn) ?_
  rintro _ μ2 ⟨g2, k2⟩
  dsimp only
  have w2 : WT μ2 := fun p hp s hs => by rw [k2.1 5 (by omega), k1.1 5 (by omega)]; exact hw p hp s hs
  have s2 : SC μ2 o2 T := SC_o hS (by rw [k2.1 o2 (by omega), k1.1 o2 (by omega)]) (by rw [k2.1 (o2 + 1) (by omega), k1.1 (o2 + 1) (by omega)])
  refine Ok_b (copy_s n μ2 (o := 53) (o1 := o2) (by decide) ho2 (by decide) hp (fun q => h53 q.symm) s2.1 s2.2) ?_
  rintro _ μ3 ⟨q1, q2, q3⟩
  dsimp only
  unfold X3_forget
  have hG3 : GA μ3 T := ⟨⟨GE_o g2.1 (q3.1 1 (by omega)) (q3.1 2 (by omega)) (q3.1 3 (by omega)), fun j hj => by rw [q3.1 4 (by omega)]; exact g2.2.1 j hj, fun j hj => by rw [q3.1 4 (by omega)]; exact g2.2.2.1 j hj, by rw [q3.1 2 (by omega)]; exact g2.2.2.2.1, by rw [q3.1 2 (by omega)]; exact g2.2.2.2.2⟩, fun p hp s hs => by rw [q3.1 5 (by omega)]; exact w2 p hp s hs⟩
  refine Ok_r ⟨⟨GA_o hG3 (fun o a b => by rw [si_o (by omega), si_o (by omega)]), ?_, SC_o ⟨q1, q2⟩ (by rw [si_o (by decide), si_o (by decide)]) (by rw [si_o (by decide), si_o (by decide)])⟩, ?_, ?_, ?_⟩
  · rw [si_b (by decide), si_b (by decide), q3.1 1 (by omega), k2.1 1 (by omega)]; exact r1.1
  · rw [si_c (by decide), si_a]; rfl
  · rw [si_a]; rfl
  · rw [si_c (by decide), si_c (by decide), q3.1 9 (by omega), k2.1 9 (by omega), k1.1 9 (by omega)]
theorem im_k : ∀ i, i < 3 → oK (41 + 4 * i) = 2 ∧ oK (42 + 4 * i) = 5 ∧ oK (43 + 4 * i) = 6 := by decide
theorem anyImage_l (n : Nat) (μ : Mu) {i : Nat} (hi : i < 3) : X11_anyImage n (nI i) μ = some (.inl (41 + 4 * i), μ) := by
  unfold X11_anyImage
  rw [if_neg (nI_pos (by omega)), i_3, ifLt (by omega) (by decide), if_pos hi, gd_n hi (by decide), nI_clamp (by omega)]
theorem anyImage_r (n : Nat) (μ : Mu) {v : Int32} (h : ¬ inR v 0 2) : X11_anyImage n v μ = some (.inr 0, μ) := by
  unfold X11_anyImage X11_anyImage_9
  rcases inR_no h with q | ⟨q1, q2⟩
  · rw [if_pos q]
  · rw [if_neg q1, if_neg (fun q => ?_)]
    rw [Int32.lt_iff_toInt_lt] at q q2
    rw [nI_toInt (by decide)] at q2
    have : (3 : Int32).toInt = 3 := by decide
    omega
def D_xi : List (Nat × Nat × Nat) := (D_now ++ (D_past ++ (D_ci ++ (D_ri ++ [(172, 172, 9999)])))) ++ (D_rdr ++ (D_xpl ++ D_trs))
theorem INT_i {μ μ' : Mu} {T : Nat → Nat} (h : INT μ T) (g : AG D_xi μ μ') (c : IMG μ') : INT μ' T := by
  obtain ⟨g1, g⟩ := AG_ap g
  obtain ⟨g2, g⟩ := AG_ap g
  obtain ⟨g3, g4⟩ := AG_ap g
  obtain ⟨_, _, _, _, _, _, b1, b2, b3, _⟩ := id h
  exact INT_but h g1 (RDR_ag b1 g2) (XPL_ag b2 g3) (TRS_ag b3 g4) c
theorem call_image (n : Nat) (μ : Mu) (v : Int32) (h : INV μ) (hn : 1000 < n) : CVx (L_image n v μ) (X12_image n v) := by
  obtain ⟨T, hI⟩ := h
  have him := hI.2.2.2.2.2.2.2.2.2
  have hN := hI.2.2.1
  by_cases hv : inR v 0 2
  · obtain ⟨i, _, hi2, rfl⟩ := inR_d (by decide) (by decide) hv
    have hi : i < 3 := by omega
    obtain ⟨k1, k2, k3⟩ := im_k i hi
    obtain ⟨_, μ1, e1, rfl, a1, a2, a3, a4⟩ : Ok (X11_image n (nI i) μ) (fun x μ' => x = .inl () ∧ μ'.1 (41 + 4 * i) 0 = nI 1 ∧ RUL μ' (42 + 4 * i) T ∧ SC μ' (43 + 4 * i) T ∧ KP (fun x => 41 + 4 * i ≤ x ∧ x ≤ 44 + 4 * i) μ μ') := by
      unfold X11_image
      rw [thr_l (anyImage_l n μ hi), kd_of k1, i_1, show 41 + 4 * i + 1 = 42 + 4 * i by omega, show 41 + 4 * i + 2 = 43 + 4 * i by omega]
      have r1 : RUL (si μ (41 + 4 * i) 0 (nI 1)) 1 T := RUL_o (RUL_now hN) (by rw [si_o (by omega)])
      refine Ok_b (rulC_s n _ (o := 42 + 4 * i) (o1 := 1) k2 (by decide) (by omega) hI.1.1.1 r1) ?_
      rintro _ μ2 ⟨q1, q2⟩
      dsimp only
      have s2 : SC μ2 53 T := SC_o hN.2.2 (by rw [q2.1 53 (by omega), si_o (by omega)]) (by rw [q2.1 54 (by omega), si_o (by omega)])
      refine Ok_b (copy_s n μ2 (o := 43 + 4 * i) (o1 := 53) k3 (by decide) (by omega) (by decide) (by omega) s2.1 s2.2) ?_
      rintro _ μ3 ⟨w1, w2, w3⟩
      refine Ok_r ⟨rfl, ?_, RUL_o q1 (w3.1 _ (by omega)), ⟨w1, w2⟩, ((KP.rf.si (R := fun x => 41 + 4 * i ≤ x ∧ x ≤ 44 + 4 * i) ⟨by omega, by omega⟩).tr q2 (fun o q => by omega)).tr w3 (fun o q => by omega)⟩
      rw [w3.1 _ (by omega), q2.1 _ (by omega), si_a]
    obtain ⟨_, μ2, e2, z5, b1, b2, b3, b4⟩ : Ok (X12_image n (nI i) μ1) (fun _ μ' => μ'.1 171 5 = 0 ∧ μ'.1 176 i = nI 1 ∧ (∀ k, k < 25 → μ'.1 174 (25 * i + k) = nI (T k)) ∧ (∀ j, j < 3 → j ≠ i → μ'.1 176 j = μ1.1 176 j ∧ ∀ k, k < 25 → μ'.1 174 (25 * j + k) = μ1.1 174 (25 * j + k)) ∧ (∀ o, o ≠ 171 → o ≠ 174 → o ≠ 176 → μ'.1 o = μ1.1 o)) := by
      have t1 : TD μ1 T := TD_o hI.2.1 (a4.1 172 (by omega))
      unfold X12_image X12_image_18
      rw [bS (within_l n μ1 (b := 2) (y := 2) (by decide) rfl hv)]
      dsimp only
      rw [if_neg (show ¬ b2i true = 0 by decide), si_a, if_pos (show (0 : Int32) ≤ 0 by decide), gd_n hi (by decide), nI_clamp (by omega), bS (puts_s n _ (by decide) (by decide) (show 25 * i + 25 ≤ 75 by omega) (by decide) (by decide) (by decide) (by decide) (by omega))]
      refine Ok_r ⟨by rw [mvF_o _ (by decide), si_b (by decide), si_a], by rw [mvF_o _ (by decide), si_a]; rfl, fun k hk => ?_, fun j hj hne => ⟨by rw [mvF_o _ (by decide), si_c hne, si_b (by decide)], fun k hk => ?_⟩, fun o a b c => ?_⟩
      · rw [mvF_d, if_pos ⟨by omega, by omega⟩, Nat.add_sub_cancel_left, Nat.zero_add, si_b (by decide), si_b (by decide)]
        exact t1 k hk
      · rw [mvF_d, if_neg (by omega), si_b (by decide), si_b (by decide)]
      · funext k
        rw [mvF_o _ b, si_b c, si_b a]
    have ag1 : Fr (fun o k => inL [(41, 52, 9999)] o k) μ μ1 := KP_fr a4 (fun o q => ⟨41, 52, by decide, by omega, by omega⟩)
    have ag2 := fr_X12_image n _ μ1 _ e2
    refine ⟨0, μ1, μ2, by unfold L_image; rw [e1], e2, z5, T, INT_i hI ((Fr_ag ag1 (by decide +kernel)).tr (Fr_ag ag2 (by decide +kernel))) (fun j hj => ?_)⟩
    by_cases z : j = i
    · subst z
      exact Or.inr ⟨by rw [b4 _ (by omega) (by omega) (by omega)]; exact a1, b1, T, hI.1, RUL_o a2 (b4 _ (by omega) (by omega) (by omega)), SC_o a3 (b4 _ (by omega) (by omega) (by omega)) (b4 _ (by omega) (by omega) (by omega)), b2⟩
    · obtain ⟨y1, y2⟩ := b3 j hj z
      have e : ∀ o, 41 + 4 * j ≤ o → o ≤ 44 + 4 * j → μ2.1 o = μ.1 o := fun o p q => by rw [b4 o (by omega) (by omega) (by omega), a4.1 o (by omega)]
      have e176 : μ1.1 176 = μ.1 176 := a4.1 176 (by omega)
      have e174 : μ1.1 174 = μ.1 174 := a4.1 174 (by omega)
      rcases him j hj with ⟨p, q⟩ | ⟨p, q, Ti, r1, r2, r3, r4⟩
      · exact Or.inl ⟨by rw [e _ (by omega) (by omega)]; exact p, by rw [y1, e176]; exact q⟩
      · exact Or.inr ⟨by rw [e _ (by omega) (by omega)]; exact p, by rw [y1, e176]; exact q, Ti, r1, RUL_o r2 (e _ (by omega) (by omega)), SC_o r3 (e _ (by omega) (by omega)) (e _ (by omega) (by omega)), fun k hk => by rw [y2 k hk, e174]; exact r4 k hk⟩
  · have e1 : X11_image n v μ = some (.inr 0, μ) := by
      unfold X11_image
      rw [thr_r (anyImage_r n μ hv)]
    refine ⟨1, μ, si μ 171 5 1, by unfold L_image; rw [e1]; rfl, ?_, si_a, T, INT_td hI (Fr_ag th_fr (by decide +kernel))⟩
    unfold X12_image X12_image_18
    rw [bS (within_r n μ (b := 2) (y := 2) (by decide) rfl hv)]
    dsimp only
    rw [if_pos (show b2i false = 0 from rfl), si_a, if_neg (by decide)]
