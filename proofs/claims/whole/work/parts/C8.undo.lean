/-! calls: undo, redo -/
theorem stepP_re {B B' : Nat → Nat} {m : Nat} (hB : W1 B) (h : stepP B m B') : RE B B' ∧ B' 0 = B 0 := by
  obtain ⟨w, hw, _, e⟩ := h
  exact (W1_mv hB hw e).2
theorem SC_cg {μ : Mu} {o : Nat} {T : Nat → Nat} (h1 : μ.1 o 1 = nI (T 2)) (h2 : CE μ o (cT T)) : SC μ o T := ⟨h1, h2⟩
theorem call_undo (n : Nat) (μ : Mu) (h : INV μ) (hn : 2000 < n) : CAx (X11_undo n μ) (X12_undo n) := by
  obtain ⟨T, hI⟩ := h
  obtain ⟨d, u, st, B, m, hp⟩ := hI.2.2.2.2.2.1
  obtain ⟨hst, hC, hP, hR⟩ := PST_i.mp hp
  obtain ⟨c1, c2, c3⟩ := id hC
  obtain ⟨p0, p1, p2, p3⟩ := id hP
  obtain ⟨r0, r1, r2, r3⟩ := id hR
  by_cases z : d = 0
  · subst z
    have e2 : X11_undo n μ = some (0, μ) := by
      unfold X11_undo
      rw [p0, if_pos (show nI 0 = 0 from rfl)]
    refine ⟨0, μ, si μ 171 5 0, e2, ?_, T, INT_td hI (Fr_ag th_fr (by decide +kernel))⟩
    unfold X12_undo
    rw [si_c (by decide), r0, if_pos (show nI 0 = 0 from rfl)]
  · have hd : 1 ≤ d := by omega
    obtain ⟨w1, sp⟩ := c3 (d - 1) (by omega)
    rw [show d - 1 + 1 = d by omega, c2] at sp
    obtain ⟨re, h00⟩ := stepP_re w1 sp
    have hsl := slN_lt hst (show d - 1 < 40 by omega)
    have cl : Ok (X11_undo n μ) (fun a μ2 => a = 1 ∧ NOW μ2 (B (d - 1)) ∧ CPS μ2 (d - 1) (u + 1) st B m) := by
      unfold X11_undo X3_back
      rw [p0, if_neg (nI_ne0 hd (by omega)), kd_of (by decide), i_1, si_c (by decide), si_a, si_c (by decide), p1, pk_sub hd, nI_add, bS (slot_s n _ (by rw [si_c (by decide), si_c (by decide)]; exact p2) hst (by omega))]
      dsimp only
      rw [gd_n hsl (by decide), nI_clamp (by omega)]
      obtain ⟨_, sb⟩ := p3 (d - 1) (by omega)
      have sb1 : SC (si (si μ 9 0 (nI (d - 1))) 9 1 (nI (u + 1))) (69 + 2 * slN st (d - 1)) (B (d - 1)) := SC_o sb (by rw [si_o (by omega), si_o (by omega)]) (by rw [si_o (by omega), si_o (by omega)])
      refine Ok_b (P := fun _ μ2 => NOW μ2 (B (d - 1)) ∧ CPS μ2 (d - 1) (u + 1) st B m) (Ok_b (copy_s n _ (o := 53) (o1 := 69 + 2 * slN st (d - 1)) (by decide) (bf_k _ hsl) (by decide) (by omega) (by omega) sb1.1 sb1.2) ?_) ?_
      · rintro _ μ2 ⟨q1, q2, q3⟩
        refine Ok_r ⟨NOW_of hI.2.2.1 re.sy h00.symm (fun o a b => by rw [q3.1 o (by omega), si_o (by omega), si_o (by omega)]) ⟨q1, q2⟩, ?_, ?_, ?_, fun i hi => ?_⟩
        · rw [q3.1 9 (by omega), si_c (by decide), si_a]
        · rw [q3.1 9 (by omega), si_a]
        · rw [q3.1 9 (by omega), si_c (by decide), si_c (by decide)]; exact p2
        · obtain ⟨a, b⟩ := p3 i (by omega)
          have := slN_lt hst (show i < 40 by omega)
          exact ⟨by rw [q3.1 10 (by omega), si_b (by decide), si_b (by decide)]; exact a, SC_o b (by rw [q3.1 _ (by omega), si_o (by omega), si_o (by omega)]) (by rw [q3.1 _ (by omega), si_o (by omega), si_o (by omega)])⟩
      · rintro _ μ2 q
        exact Ok_r ⟨rfl, q⟩
    obtain ⟨_, μ2, e2, rfl, n2, k2⟩ := cl
    have ag2 := fr_X11_undo n μ _ e2
    have t2 : TD μ2 T := TD_ag hI.2.1 (Fr_ag ag2 (by decide +kernel))
    obtain ⟨s0, s1, s2, s3⟩ := RPS_ag hR (Fr_ag ag2 (by decide +kernel))
    have rf : Ok (X12_undo n μ2) (fun a μ' => a = 1 ∧ TD μ' (B (d - 1)) ∧ RPS μ' (d - 1) (u + 1) B m) := by
      unfold X12_undo
      rw [si_c (by decide), s0, if_neg (nI_ne0 hd (by omega)), i_1, pk_sub hd, si_c (by decide), si_c (by decide), s1, bS (puts_s n _ (by decide) (by decide) (show 25 * u + 25 ≤ 1000 by omega) (by decide) (by decide) (by decide) (by decide) (by omega))]
      dsimp only
      generalize hμ3 : mvF (si (si μ2 171 5 0) 171 28 (nI (d - 1))) 172 0 181 (25 * u) 25 = μ3
      have o3 : ∀ o, o ≠ 181 → o ≠ 171 → μ3.1 o = μ2.1 o := fun o a b => by rw [← hμ3]; funext k; rw [mvF_o _ a, si_b b, si_b b]
      have e28 : μ3.1 171 28 = nI (d - 1) := by rw [← hμ3, mvF_o _ (by decide), si_a]
      have e29 : μ3.1 171 29 = nI u := by rw [← hμ3, mvF_o _ (by decide), si_c (by decide), si_c (by decide)]; exact s1
      have e181 : ∀ x, μ3.1 181 x = if 25 * u ≤ x ∧ x < 25 * u + 25 then μ2.1 172 (x - 25 * u) else μ2.1 181 x := by
        intro x
        rw [← hμ3, mvF_d, Nat.zero_add, si_b (by decide), si_b (by decide), si_b (by decide), si_b (by decide)]
      rw [e28, e29, gd_n (show d - 1 < 40 by omega) (by decide), gd_n (show u < 40 by omega) (by decide), nI_clamp (by omega), nI_clamp (by omega), o3 180 (by decide) (by decide), (s2 (d - 1) (by omega)).2, si_c (by decide), si_b (by decide), si_b (by decide), e28, e29, nI_add, bS (gets_s n _ (by decide) (by decide) (show 25 * (d - 1) + 25 ≤ 1000 by omega) (by decide) (by decide) (by decide) (by decide) (by omega))]
      dsimp only
      refine Ok_r ⟨rfl, fun k hk => ?_, ?_, ?_, fun i hi => ⟨fun k hk => ?_, ?_⟩, fun j hj => ⟨fun k hk => ?_, ?_⟩⟩
      · rw [mvF_d, if_pos ⟨Nat.zero_le _, by omega⟩, Nat.sub_zero, si_b (by decide), si_b (by decide), o3 179 (by decide) (by decide)]
        exact (s2 (d - 1) (by omega)).1 k hk
      · rw [mvF_o _ (by decide), si_c (by decide), si_b (by decide)]; exact e28
      · rw [mvF_o _ (by decide), si_a]
      · rw [mvF_o _ (by decide), si_b (by decide), si_b (by decide), o3 179 (by decide) (by decide)]
        exact (s2 i (by omega)).1 k hk
      · rw [mvF_o _ (by decide), si_b (by decide), si_b (by decide), o3 180 (by decide) (by decide)]
        exact (s2 i (by omega)).2
      · rw [mvF_o _ (by decide), si_b (by decide), si_b (by decide), e181]
        by_cases zj : j = u
        · rw [if_pos (by omega), show 25 * j + k - 25 * u = k by omega, t2 k hk, show d - 1 + (u + 1) - j = d by omega, c2]
        · rw [if_neg (by omega), show d - 1 + (u + 1) - j = d + u - j by omega]
          exact (s3 j (by omega)).1 k hk
      · rw [mvF_o _ (by decide), si_b (by decide)]
        by_cases zj : j = u
        · rw [zj, si_a, show d - 1 + (u + 1) - 1 - u = d - 1 by omega]
        · rw [si_c zj, o3 182 (by decide) (by decide), show d - 1 + (u + 1) - 1 - j = d + u - 1 - j by omega]
          exact (s3 j (by omega)).2
    obtain ⟨_, μ4, e4, rfl, t4, r4⟩ := rf
    have ag4 := fr_X12_undo n μ2 _ e4
    refine ⟨_, μ2, μ4, e2, e4, B (d - 1), INT_mk hI w1 t4 (NOW_ag n2 (Fr_ag ag4 (by decide +kernel))) ⟨d - 1, u + 1, st, B, m, PST_i.mpr ⟨hst, ⟨by omega, rfl, fun i hi => c3 i (by omega)⟩, CPS_ag hst (by omega) k2 (Fr_ag ag4 (by decide +kernel)), r4⟩⟩ ((Fr_ag ag2 (by decide +kernel)).tr (Fr_ag ag4 (by decide +kernel)))⟩
theorem call_redo (n : Nat) (μ : Mu) (h : INV μ) (hn : 2000 < n) : CAx (X11_redo n μ) (X12_redo n) := by
  obtain ⟨T, hI⟩ := h
  obtain ⟨d, u, st, B, m, hp⟩ := hI.2.2.2.2.2.1
  obtain ⟨hst, hC, hP, hR⟩ := PST_i.mp hp
  obtain ⟨c1, c2, c3⟩ := id hC
  obtain ⟨p0, p1, p2, p3⟩ := id hP
  obtain ⟨r0, r1, r2, r3⟩ := id hR
  by_cases z : u = 0
  · subst z
    have e2 : X11_redo n μ = some (0, μ) := by
      unfold X11_redo
      rw [p1, if_pos (show nI 0 = 0 from rfl)]
    refine ⟨0, μ, si μ 171 5 0, e2, ?_, T, INT_td hI (Fr_ag th_fr (by decide +kernel))⟩
    unfold X12_redo
    rw [si_c (by decide), r1, if_pos (show nI 0 = 0 from rfl)]
  · have hu : 1 ≤ u := by omega
    obtain ⟨w1, sp⟩ := c3 d (by omega)
    rw [c2] at sp w1
    obtain ⟨w, hw, em, hmv⟩ := id sp
    obtain ⟨w2, re, h00⟩ := W1_mv w1 hw hmv
    obtain ⟨hc, l, k, t, c', hm, eT⟩ := mvR_e hmv
    have hsl := slN_lt hst (show d < 40 by omega)
    have cl : Ok (X11_redo n μ) (fun a μ2 => a = 1 ∧ NOW μ2 (B (d + 1)) ∧ CPS μ2 (d + 1) (u - 1) st B m) := by
      unfold X11_redo X3_again
      rw [p1, if_neg (nI_ne0 hu (by omega)), p0, i_1, nI_add, si_c (by decide), si_a, si_c (by decide), p1, pk_sub (show 1 ≤ d + 1 by omega), Nat.add_sub_cancel, pk_sub hu, bS (slot_s n _ (by rw [si_c (by decide), si_c (by decide)]; exact p2) hst (by omega))]
      dsimp only
      rw [gd_n hsl (by decide), nI_clamp (by omega), si_b (by decide), si_b (by decide), (p3 d (by omega)).1, em]
      have hN1 : NOW (si (si μ 9 0 (nI (d + 1))) 9 1 (nI (u - 1))) T := NOW_of hI.2.2.1 RE.rf rfl (fun o a b => by rw [si_o (by omega), si_o (by omega)]) (SC_o hI.2.2.1.2.2 (by rw [si_o (by decide), si_o (by decide)]) (by rw [si_o (by decide), si_o (by decide)]))
      show Ok ((X8_sow n 53 (nI (offN (T 1) (T 2) + w)) (si (si μ 9 0 (nI (d + 1))) 9 1 (nI (u - 1)))).bind _) _
      refine Ok_b (sowT_s n _ (T := T) (o := 53) (by decide) (by decide) w1.1 hN1.1.1.1 hN1.2.2 hw (can_fs hc).1 (by omega)) ?_
      rintro a μ2 ⟨k2, _, q⟩
      obtain ⟨q1, q2, _⟩ := q l k t c' hm
      rw [← eT] at q2
      refine Ok_r ⟨rfl, NOW_of hN1 re h00 (fun o a b => k2.1 o (by omega)) q2, ?_, ?_, ?_, fun i hi => ?_⟩
      · rw [k2.1 9 (by omega), si_c (by decide), si_a]
      · rw [k2.1 9 (by omega), si_a]
      · rw [k2.1 9 (by omega), si_c (by decide), si_c (by decide)]; exact p2
      · obtain ⟨a, b⟩ := p3 i (by omega)
        have := slN_lt hst (show i < 40 by omega)
        exact ⟨by rw [k2.1 10 (by omega), si_b (by decide), si_b (by decide)]; exact a, SC_o b (by rw [k2.1 _ (by omega), si_o (by omega), si_o (by omega)]) (by rw [k2.1 _ (by omega), si_o (by omega), si_o (by omega)])⟩
    obtain ⟨_, μ2, e2, rfl, n2, k2⟩ := cl
    have ag2 := fr_X11_redo n μ _ e2
    have t2 : TD μ2 T := TD_ag hI.2.1 (Fr_ag ag2 (by decide +kernel))
    obtain ⟨s0, s1, s2, s3⟩ := RPS_ag hR (Fr_ag ag2 (by decide +kernel))
    have rf : Ok (X12_redo n μ2) (fun a μ' => a = 1 ∧ TD μ' (B (d + 1)) ∧ RPS μ' (d + 1) (u - 1) B m) := by
      unfold X12_redo
      rw [si_c (by decide), s1, if_neg (nI_ne0 hu (by omega)), i_1, pk_sub hu, si_a, gd_n (show u - 1 < 40 by omega) (by decide), nI_clamp (by omega), si_b (by decide), si_b (by decide), (s3 (u - 1) (by omega)).2, show d + u - 1 - (u - 1) = d by omega]
      have t3 : TD (si (si μ2 171 5 0) 171 29 (nI (u - 1))) T := TD_o t2 (by rw [si_o (by decide), si_o (by decide)])
      refine Ok_b (keeps_s n _ (T' := B (d + 1)) (p := m d) hC (by rw [si_c (by decide), si_c (by decide)]; exact s0) (fun i hi => ?_) t3 hn) ?_
      · rw [si_o (by decide), si_o (by decide), si_o (by decide), si_o (by decide)]; exact s2 i hi
      · rintro _ μ3 ⟨q1, q2, q3⟩
        dsimp only
        have hne : d ≠ 40 := by omega
        have hdd : doD d = d + 1 := if_neg hne
        have e29 : μ3.1 171 29 = nI (u - 1) := by rw [q3.2.2 29 (by decide), si_a]
        rw [e29, bS (gets_s n μ3 (by decide) (by decide) (show 25 * (u - 1) + 25 ≤ 1000 by omega) (by decide) (by decide) (by decide) (by decide) (by omega))]
        dsimp only
        have e181 : μ3.1 181 = μ2.1 181 := by rw [q3.1 181 (by decide) (by decide) (by decide), si_o (by decide), si_o (by decide)]
        have e182 : μ3.1 182 = μ2.1 182 := by rw [q3.1 182 (by decide) (by decide) (by decide), si_o (by decide), si_o (by decide)]
        rw [hdd] at q1 q2
        refine Ok_r ⟨rfl, fun k hk => ?_, ?_, ?_, fun i hi => ⟨fun k hk => ?_, ?_⟩, fun j hj => ⟨fun k hk => ?_, ?_⟩⟩
        · rw [mvF_d, if_pos ⟨Nat.zero_le _, by omega⟩, Nat.sub_zero, e181, (s3 (u - 1) (by omega)).1 k hk, show d + u - (u - 1) = d + 1 by omega]
        · rw [mvF_o _ (by decide)]; exact q1
        · rw [mvF_o _ (by decide)]; exact e29
        · rw [mvF_o _ (by decide), (q2 i hi).1 k hk, doB_n hne, if_neg (by omega)]
        · rw [mvF_o _ (by decide), (q2 i hi).2, doM_n hne]
          by_cases zi : i = d
          · rw [if_pos zi, zi]
          · rw [if_neg zi]
        · rw [mvF_o _ (by decide), e181, (s3 j (by omega)).1 k hk, show d + 1 + (u - 1) - j = d + u - j by omega]
        · rw [mvF_o _ (by decide), e182, (s3 j (by omega)).2, show d + 1 + (u - 1) - 1 - j = d + u - 1 - j by omega]
    obtain ⟨_, μ4, e4, rfl, t4, r4⟩ := rf
    have ag4 := fr_X12_redo n μ2 _ e4
    refine ⟨_, μ2, μ4, e2, e4, B (d + 1), INT_mk hI w2 t4 (NOW_ag n2 (Fr_ag ag4 (by decide +kernel))) ⟨d + 1, u - 1, st, B, m, PST_i.mpr ⟨hst, ⟨by omega, rfl, fun i hi => c3 i (by omega)⟩, CPS_ag hst (by omega) k2 (Fr_ag ag4 (by decide +kernel)), r4⟩⟩ ((Fr_ag ag2 (by decide +kernel)).tr (Fr_ag ag4 (by decide +kernel)))⟩
