/-! call: restore -/
theorem PAST_0 {μ : Mu} {T : Nat → Nat} {st : Nat} (hst : st < 40) (h0 : μ.1 9 0 = nI 0) (h1 : μ.1 9 1 = nI 0) (h2 : μ.1 9 2 = nI st) (h3 : μ.1 171 28 = nI 0) (h4 : μ.1 171 29 = nI 0) : PAST μ T := ⟨0, 0, st, fun _ => T, fun _ => 0, by omega, hst, h0, h1, h2, h3, h4, rfl, fun i hi => by omega, fun i hi => by omega, fun i hi => by omega⟩
theorem call_restore (n : Nat) (μ : Mu) (v : Int32) (h : INV μ) (hn : 1000 < n) : CVx (L_restore n v μ) (X12_restore n v) := by
  obtain ⟨T, hI⟩ := h
  have him := hI.2.2.2.2.2.2.2.2.2
  have hN := hI.2.2.1
  by_cases hv : inR v 0 2
  · obtain ⟨i, _, hi2, rfl⟩ := inR_d (by decide) (by decide) hv
    have hi : i < 3 := by omega
    obtain ⟨k1, k2, k3⟩ := im_k i hi
    rcases him i hi with ⟨p, q⟩ | ⟨p, q, Ti, r1, r2, r3, r4⟩
    · have e1 : X11_restore n (nI i) μ = some (.inr 2, μ) := by
        unfold X11_restore
        rw [thr_l (anyImage_l n μ hi), kd_of k1, p, if_pos (show nI 0 = 0 from rfl)]
      refine ⟨2, μ, si μ 171 5 2, by unfold L_restore; rw [e1]; rfl, ?_, si_a, T, INT_td hI (Fr_ag th_fr (by decide +kernel))⟩
      unfold X12_restore X12_restore_31
      rw [bS (within_l n μ (b := 2) (y := 2) (by decide) rfl hv)]
      dsimp only
      rw [if_neg (show ¬ b2i true = 0 by decide), gd_n hi (by decide), nI_clamp (by omega), q, if_pos (show nI 0 = 0 from rfl), si_a, if_neg (by decide)]
    · obtain ⟨d, u, st, B, m, hp⟩ := hI.2.2.2.2.2.1
      obtain ⟨hst, hC, hP, hR⟩ := PST_i.mp hp
      obtain ⟨_, μ1, e1, rfl, a1, a2, a3, a4⟩ : Ok (X11_restore n (nI i) μ) (fun x μ' => x = .inl () ∧ NOW μ' Ti ∧ μ'.1 9 0 = nI 0 ∧ μ'.1 9 1 = nI 0 ∧ μ'.1 9 2 = μ.1 9 2) := by
        unfold X11_restore
        rw [thr_l (anyImage_l n μ hi), kd_of k1, p, if_neg (show ¬ nI 1 = 0 by decide), show 41 + 4 * i + 1 = 42 + 4 * i by omega, show 41 + 4 * i + 2 = 43 + 4 * i by omega]
        refine Ok_b (settle_s n μ k2 (by omega) k3 (by omega) (by omega) (by omega) r1.1 r2 r3 hN.1.2 hn) ?_
        rintro _ μ1 q
        exact Ok_r ⟨rfl, q⟩
      have ag1 := fr_X11_restore n _ μ _ e1
      have im1 : AG D_img μ μ1 := Fr_ag ag1 (by decide +kernel)
      have e174 := (im1.o 174 174 174 (by decide) (by decide) (by decide)).1
      have e176 := (im1.o 176 176 176 (by decide) (by decide) (by decide)).1
      obtain ⟨_, μ2, e2, z5, b1, b2, b3⟩ : Ok (X12_restore n (nI i) μ1) (fun _ μ' => μ'.1 171 5 = 0 ∧ TD μ' Ti ∧ μ'.1 171 28 = nI 0 ∧ μ'.1 171 29 = nI 0) := by
        unfold X12_restore X12_restore_31
        rw [bS (within_l n μ1 (b := 2) (y := 2) (by decide) rfl hv)]
        dsimp only
        rw [if_neg (show ¬ b2i true = 0 by decide), gd_n hi (by decide), nI_clamp (by omega), e176, q, if_neg (show ¬ nI 1 = 0 by decide), si_a, if_pos (show (0 : Int32) ≤ 0 by decide), bS (gets_s n _ (by decide) (by decide) (show 25 * i + 25 ≤ 75 by omega) (by decide) (by decide) (by decide) (by decide) (by omega))]
        refine Ok_r ⟨by rw [si_c (by decide), si_c (by decide), mvF_o _ (by decide), si_a], fun k hk => ?_, by rw [si_c (by decide), si_a]; rfl, by rw [si_a]; rfl⟩
        rw [si_b (by decide), si_b (by decide), mvF_d, if_pos ⟨Nat.zero_le _, by omega⟩, Nat.sub_zero, si_b (by decide), e174]
        exact r4 k hk
      have ag2 := fr_X12_restore n _ μ1 _ e2
      have n2 : AG [(9, 9, 0), (9, 9, 1), (9, 9, 2)] μ1 μ2 := Fr_ag ag2 (by decide +kernel)
      exact ⟨0, μ1, μ2, by unfold L_restore; rw [e1], e2, z5, Ti, INT_mk hI r1 b1 (NOW_ag a1 (Fr_ag ag2 (by decide +kernel))) (PAST_0 hst (by rw [(n2.f 9 0 (by decide)).1]; exact a2) (by rw [(n2.f 9 1 (by decide)).1]; exact a3) (by rw [(n2.f 9 2 (by decide)).1, a4]; exact hP.2.2.1) b2 b3) ((Fr_ag ag1 (by decide +kernel)).tr (Fr_ag ag2 (by decide +kernel)))⟩
  · have e1 : X11_restore n v μ = some (.inr 0, μ) := by
      unfold X11_restore
      rw [thr_r (anyImage_r n μ hv)]
    refine ⟨1, μ, si μ 171 5 1, by unfold L_restore; rw [e1]; rfl, ?_, si_a, T, INT_td hI (Fr_ag th_fr (by decide +kernel))⟩
    unfold X12_restore X12_restore_31
    rw [bS (within_r n μ (b := 2) (y := 2) (by decide) rfl hv)]
    dsimp only
    rw [if_pos (show b2i false = 0 from rfl), si_a, if_neg (by decide)]
