/-! call: reached -/
theorem sum_z : ∀ k, sumF (fun _ => 0) k = 0 := by
  intro k
  induction k with
  | zero => rfl
  | succ k ih => rw [sumF, ih]
theorem p6_le {d : Nat} (h : d ≤ 4) : 6 ^ d ≤ 1296 := Nat.pow_le_pow_right (n := 6) (by decide) h
theorem unlike_s (n : Nat) (μ : Mu) {T : Nat → Nat} {d : Nat} (hT : W1 T) (hN : NOW μ T) (hd : d ≤ 4) (hn : 20000 < n) : Ok (X0_countUnlike n 53 (nI d) μ) (fun a _ => a = nI (gaF d T (0, fun _ => T)).1) := by
  obtain ⟨hG, _, hS⟩ := id hN
  have h6 := p6_le hd
  unfold X0_countUnlike
  rw [kd_of (by decide)]
  refine Ok_b (copy_s n μ (o := 155) (o1 := 53) (by decide) (by decide) (by decide) (by decide) (by decide) hS.1 hS.2) ?_
  rintro _ μ1 ⟨q1, q2, q3⟩
  dsimp only
  have g1 : GE μ1 T := GE_o hG.1.1 (q3.1 1 (by omega)) (q3.1 2 (by omega)) (q3.1 3 (by omega))
  unfold X0_countUnlike_17
  rw [show (0 : Int32) = nI 0 from rfl]
  refine Ok_lp1 (fun f x3 μ' => ∃ i, i ≤ 4096 ∧ f = 4096 - i ∧ x3 = nI i ∧ GE μ' T ∧ SC μ' 155 T ∧ μ'.1 25 11 = nI 0 ∧ ∀ s, s < i → μ'.1 30 s = 0) ?_ 4096 (by omega) ⟨0, by omega, rfl, rfl, GE_o g1 (by rw [si_o (by decide)]) (by rw [si_o (by decide)]) (by rw [si_o (by decide)]), SC_o ⟨q1, q2⟩ (by rw [si_o (by decide)]) (by rw [si_o (by decide)]), si_a, fun s q => by omega⟩
  rintro K f x3 μ2 ⟨i, hi, rfl, rfl, g2, s2, h11, h30⟩ hK
  unfold X0_countUnlike_17b
  rw [i_4096, ifLe (by decide) (by omega)]
  by_cases c : 4096 ≤ i
  · obtain rfl : i = 4096 := by omega
    rw [if_pos c]
    have hH : HT μ2 (0, fun _ => T) := by
      refine ⟨h11, by show 0 ≤ 1296; omega, fun j hj => absurd hj (Nat.not_lt_zero j), ?_, fun s hs => Or.inl (h30 s hs), fun j hj => absurd hj (Nat.not_lt_zero j)⟩
      rw [sum_cg (d := fun _ => 0) 4096 (fun s hs => by rw [h30 s hs, if_pos rfl])]
      exact sum_z 4096
    have := gather_s n hn d 8 0 (by omega) (by omega) μ2 T (0, fun _ => T) hT g2 s2 hH (by show 0 + 6 ^ d ≤ 1296; omega)
    rw [Nat.zero_add] at this
    refine Ok_b (x := X0_gather n (0 : Int32) (nI d) μ2) this ?_
    rintro _ μ3 ⟨p1, _, _⟩
    exact Ok_r p1.1
  · rw [if_neg c, gd_n (by omega) (by decide), nI_clamp (by omega), i_1, nI_add]
    refine hK (4096 - (i + 1)) _ _ (by omega) ⟨i + 1, by omega, rfl, rfl, GE_o g2 (by rw [si_o (by decide)]) (by rw [si_o (by decide)]) (by rw [si_o (by decide)]), SC_o s2 (by rw [si_o (by decide)]) (by rw [si_o (by decide)]), by rw [si_b (by decide)]; exact h11, fun s hs => ?_⟩
    by_cases z : s = i
    · rw [z, si_a]
    · rw [si_c z]; exact h30 s (by omega)
theorem call_reached (n : Nat) (μ : Mu) (v : Int32) (h : INV μ) (hn : 20000 < n) : CBx (L_reached n v μ) (X12_reached n v) := by
  obtain ⟨T, hI⟩ := h
  by_cases z : inR v 0 4
  · obtain ⟨d, _, hd, rfl⟩ := inR_d (by decide) (by decide) z
    have h6 := p6_le hd
    refine CB_mk (x := .inl (nI (gaF d T (0, fun _ => T)).1)) (k := 0) hI ?_ (fun r e => fr_X11_reached n _ μ r e) (by decide +kernel) (fun μ1 e => ⟨_, by unfold L_reached; rw [e], fun v q => by rw [Sum.inl.inj q], fun e q => nomatch q⟩) (Or.inl ⟨_, rfl⟩) (fun μ1 h1 ag => ?_) (fun μ1 r e => fr_X12_reached n _ μ1 r e) (by decide +kernel)
    · unfold X11_reached
      rw [if_neg (nI_pos (by omega)), i_4, ifLe (by omega) (by decide), if_pos hd]
      refine Ok_b (unlike_s n μ hI.1 hI.2.2.1 hd hn) ?_
      rintro _ μ1 rfl
      exact Ok_r rfl
    · unfold X12_reached X12_reached_18
      rw [bS (within_l n μ1 (b := 4) (y := 4) (by decide) rfl z)]
      dsimp only
      rw [if_neg (show ¬ b2i true = 0 by decide), if_pos th_0]
      have hH : RH T (si (si μ1 171 5 0) 171 47 0) (0, fun _ => T) := ⟨si_a, by show 0 ≤ 1296; omega, fun j hj => absurd hj (Nat.not_lt_zero j)⟩
      have t2 : TD (si (si μ1 171 5 0) 171 47 0) T := TD_o h1.2.1 (by rw [si_o (by decide), si_o (by decide)])
      obtain ⟨a, μ2, e2, p1, _, t3, _⟩ := reaches_s n hn T d 8 (by omega) hd (si (si μ1 171 5 0) 171 47 0) T (0, fun _ => T) ⟨hI.1, RE.rf, rfl⟩ t2 hH (by show 0 + 6 ^ d ≤ 1296; omega)
      have e2' : X12_reaches n (nI d) (si (si μ1 171 5 0) 171 47 0) = some (a, μ2) := e2
      have ag2 : AG [(171, 171, 5)] (si (si μ1 171 5 0) 171 47 0) μ2 := Fr_ag (fr_X12_reaches n _ _ _ e2') (by decide +kernel)
      rw [bS e2']
      exact Ok_r ⟨by rw [(ag2.f 171 5 (by decide)).1, si_c (by decide), si_a], fun v q => by rw [← Sum.inl.inj q]; exact p1.1, t3⟩
  · refine CB_mk (x := .inr 1) (k := 1) hI ?_ (fun r e => fr_X11_reached n v μ r e) (by decide +kernel) (fun μ1 e => ⟨μ1, by unfold L_reached; rw [e]; rfl, fun v q => (nomatch q), fun e q => rfl⟩) (Or.inr (by decide)) (fun μ1 h1 ag => ?_) (fun μ1 r e => fr_X12_reached n v μ1 r e) (by decide +kernel)
    · unfold X11_reached X11_reached_9
      by_cases zz : v < 0
      · rw [if_pos zz]; exact Ok_r rfl
      · rw [if_neg zz, i_4, if_neg (fun q => z ⟨Int32.not_lt.mp zz, q⟩)]; exact Ok_r rfl
    · unfold X12_reached X12_reached_18
      rw [bS (within_r n μ1 (b := 4) (y := 4) (by decide) rfl z)]
      dsimp only
      rw [if_pos (show b2i false = 0 from rfl), if_neg th_1]
      exact Ok_r ⟨si_a, fun v q => (nomatch q), td_th h1.2.1⟩
