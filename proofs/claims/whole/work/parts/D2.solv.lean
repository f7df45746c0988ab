/-! calls by what was solved: value, rank, best, worth, swapped -/
theorem CAs_mk {F : Option (Int32 × Mu)} {g : Mu → Option (Int32 × Mu)} {μ : Mu} {T : Nat → Nat} {v : Int32} {Lf Lg : List (Nat × Nat × Nat)} (hI : INT μ T) (hf : Ok F (fun a μ1 => a = v ∧ CI μ1)) (frf : ∀ r, F = some r → Fr (fun o k => inL Lf o k) μ r.2) (df : djB Lf (D_nr ++ (D_ri ++ [(172, 172, 9999)])) = true) (hg : ∀ μ1, INT μ1 T → Ok (g μ1) (fun a μ2 => a = v ∧ TD μ2 T ∧ RI μ2)) (frg : ∀ μ1 r, g μ1 = some r → Fr (fun o k => inL Lg o k) μ1 r.2) (dg : djB Lg (D_nr ++ D_ci) = true) : CAx F g := by
  obtain ⟨a, μ1, e1, rfl, c1⟩ := hf
  obtain ⟨g1, g2⟩ := AG_ap (Fr_ag (frf _ e1) df)
  obtain ⟨g2, g3⟩ := AG_ap g2
  have h1 : INT μ1 T := INT_nr hI g1 (TD_ag hI.2.1 g3) c1 (RI_ag hI.2.2.2.2.1 g2)
  obtain ⟨b, μ2, e2, rfl, t2, r2⟩ := hg μ1 h1
  obtain ⟨k1, k2⟩ := AG_ap (Fr_ag (frg μ1 _ e2) dg)
  exact ⟨_, μ1, μ2, e1, e2, T, INT_nr h1 k1 t2 (CI_ag c1 k2) r2⟩
theorem CBs_mk {F : Option ((Int32 ⊕ Nat) × Mu)} {L : Option (Int32 × Mu)} {g : Mu → Option (Int32 × Mu)} {μ : Mu} {T : Nat → Nat} {x : Int32 ⊕ Nat} {k : Int32} {Lf Lg : List (Nat × Nat × Nat)} (hI : INT μ T) (hf : Ok F (fun a μ1 => a = x ∧ CI μ1)) (frf : ∀ r, F = some r → Fr (fun o k => inL Lf o k) μ r.2) (df : djB Lf (D_nr ++ (D_ri ++ [(172, 172, 9999)])) = true)
    (hL : ∀ μ1, F = some (x, μ1) → ∃ μ2, L = some (k, μ2) ∧ (∀ v, x = .inl v → μ2 = sj μ1 201 0 v.toInt64) ∧ (∀ e, x = .inr e → μ2 = μ1)) (hk : (∃ v, x = .inl v) ∨ k ≠ 0)
    (hg : ∀ μ1, INT μ1 T → Ok (g μ1) (fun b μ2 => μ2.1 171 5 = k ∧ (∀ v, x = .inl v → b = v) ∧ TD μ2 T ∧ RI μ2)) (frg : ∀ μ1 r, g μ1 = some r → Fr (fun o k => inL Lg o k) μ1 r.2) (dg : djB Lg (D_nr ++ (D_ci ++ [(201, 201, 9999)])) = true) : CBx L g := by
  obtain ⟨a, μ1, e1, rfl, c1⟩ := hf
  obtain ⟨g1, g2⟩ := AG_ap (Fr_ag (frf _ e1) df)
  obtain ⟨g2, g3⟩ := AG_ap g2
  have h1 : INT μ1 T := INT_nr hI g1 (TD_ag hI.2.1 g3) c1 (RI_ag hI.2.2.2.2.1 g2)
  obtain ⟨μ2, e2, q1, q2⟩ := hL μ1 e1
  have h2 : INT μ2 T ∧ ∀ v, a = .inl v → μ2.2 201 0 = v.toInt64 := by
    cases a with
    | inl v =>
      rw [q1 v rfl]
      exact ⟨INT_td h1 (AG.sj (by decide +kernel)), fun w e => by rw [Sum.inl.inj e, sj_a]⟩
    | inr e => rw [q2 e rfl]; exact ⟨h1, fun w e => nomatch e⟩
  obtain ⟨b, μ3, e3, t1, t2, t3, t4⟩ := hg μ2 h2.1
  obtain ⟨k1, k2⟩ := AG_ap (Fr_ag (frg μ2 _ e3) dg)
  obtain ⟨k2, k3⟩ := AG_ap k2
  refine ⟨k, μ2, b, μ3, e2, e3, t1, fun z => ?_, T, INT_nr h2.1 k1 t3 (CI_ag h2.1.2.2.2.1 k2) t4⟩
  rcases hk with ⟨v, rfl⟩ | hk
  · rw [(k3.o 201 201 201 (by decide) (by decide) (by decide)).2, h2.2 v rfl, t2 v rfl]
  · exact absurd z hk
theorem rea_s (n : Nat) (μ : Mu) {T : Nat → Nat} {s : Nat} (hW : WF T) (hN : NOW μ T) (h40 : s ≤ 40) (hI : CI μ) (hn : 20000 < n) :
    Ok (X7_reach n (nI s) μ) (fun a μ1 => a = b2i (decide (bhS T (s + 1) ≤ 6000)) ∧ CI μ1 ∧ NOW μ1 T ∧ (bhS T (s + 1) ≤ 6000 → ∃ S, s < S ∧ CV μ1 T S)) := by
  obtain ⟨a, μ1, e, q1, q2, q3⟩ := reach_s n μ hW hN.1 h40 hI hn
  exact ⟨a, μ1, e, q2, q1, NOW_ag hN (Fr_ag (fr_X7_reach n _ μ _ e) (by decide +kernel)), q3⟩
theorem sol_s (n : Nat) (μ : Mu) {T : Nat → Nat} {s : Nat} (hT : W1 T) (h40 : s ≤ 40) (hD : TD μ T) (hI : RI μ) (hn : 20000 < n) :
    Ok (X12_solves n (nI s) μ) (fun a μ1 => a = b2i (decide (bhS T (s + 1) ≤ 6000)) ∧ TD μ1 T ∧ RI μ1 ∧ μ1.1 171 5 = μ.1 171 5 ∧ (bhS T (s + 1) ≤ 6000 → ∃ S, s < S ∧ RV μ1 T S)) := by
  obtain ⟨a, μ1, e, q1, q2, q3, q4⟩ := solves_s n μ hT.1 (by have := hT.2.1; omega) (by have := hT.2.2.1; omega) h40 hD hI hn
  have ag : AG [(171, 171, 5)] μ μ1 := Fr_ag (fr_X12_solves n _ μ _ e) (by decide +kernel)
  exact ⟨a, μ1, e, q3, q1, q2, (ag.f 171 5 (by decide)).1, q4⟩
theorem RI_th {μ : Mu} {v : Int32} (h : RI μ) : RI (si μ 171 5 v) := RI_ag h (Fr_ag th_fr (by decide +kernel))
/-- the class's calls on the board as it is: up to the solving -/
theorem up_c (n : Nat) (μ : Mu) {α : Type} {T : Nat → Nat} {F : Int32 × Mu → Option (α × Mu)} {Q : α → Mu → Prop} (hI : INT μ T) (hn : 20000 < n) (h0 : ¬ bhS T (sT T + 1) ≤ 6000 → ∀ μ1, CI μ1 → Ok (F (b2i false, μ1)) Q) (h1 : bhS T (sT T + 1) ≤ 6000 → ∀ μ1 S, CI μ1 → NOW μ1 T → sT T < S → CV μ1 T S → Ok (F (b2i true, μ1)) Q) :
    Ok ((X6_inPits n 53 μ).bind (fun r8 => (X7_reach n r8.1 r8.2).bind F)) Q := by
  rw [bS (inP_s n μ (by decide) hI.2.2.1.2.2 (by omega))]
  dsimp only
  refine Ok_b (rea_s n μ hI.1.1 hI.2.2.1 (sT_40 hI.1.1) hI.2.2.2.1 hn) ?_
  rintro _ μ1 ⟨rfl, c1, n1, q⟩
  by_cases z : bhS T (sT T + 1) ≤ 6000
  · obtain ⟨S, hs, hv⟩ := q z
    rw [decide_eq_true z]
    exact h1 z μ1 S c1 n1 hs hv
  · rw [decide_eq_false z]
    exact h0 z μ1 c1
theorem up_r (n : Nat) (μ : Mu) {T : Nat → Nat} {F : Int32 × Mu → Option (Int32 × Mu)} {Q : Int32 → Mu → Prop} (hI : INT μ T) (hn : 20000 < n) (h0 : ¬ bhS T (sT T + 1) ≤ 6000 → ∀ μ1, TD μ1 T → RI μ1 → μ1.1 171 5 = 0 → Ok (F (b2i false, μ1)) Q) (h1 : bhS T (sT T + 1) ≤ 6000 → ∀ μ1 S, TD μ1 T → RI μ1 → μ1.1 171 5 = 0 → sT T < S → RV μ1 T S → Ok (F (b2i true, μ1)) Q) :
    Ok ((X12_seedsNow n (si μ 171 5 (0 : Int32))).bind (fun r7 => (X12_solves n r7.1 r7.2).bind F)) Q := by
  have t := td_th (v := 0) hI.2.1
  rw [bS (seedsNow_s n _ hI.1.1 t (by omega))]
  dsimp only
  refine Ok_b (sol_s n _ hI.1 (sT_40 hI.1.1) t (RI_th hI.2.2.2.2.1) hn) ?_
  rintro _ μ1 ⟨rfl, t1, r1, z5, q⟩
  rw [si_a] at z5
  by_cases z : bhS T (sT T + 1) ≤ 6000
  · obtain ⟨S, hs, hv⟩ := q z
    rw [decide_eq_true z]
    exact h1 z μ1 S t1 r1 z5 hs hv
  · rw [decide_eq_false z]
    exact h0 z μ1 t1 r1 z5
theorem KN_ri {μ μ' : Mu} (k : KN μ μ') (h : RI μ) : RI μ' := RI_o h (k.2.2 40 (by decide)) (fun o a b c => k.1 o (by omega) (by omega) (by omega))
theorem call_value (n : Nat) (μ : Mu) (h : INV μ) (hn : 20000 < n) : CAx (X11_value n μ) (X12_value n) := by
  obtain ⟨T, hI⟩ := h
  have hW := hI.1.1
  refine CAs_mk (v := if bhS T (sT T + 1) ≤ 6000 then iv (VL T 41 (T 2) (sT T) (kT T)) else -1000) hI ?_ (fun r e => fr_X11_value n μ r e) (by decide +kernel) (fun μ1 h1 => ?_) (fun μ1 r e => fr_X12_value n μ1 r e) (by decide +kernel)
  · unfold X11_value X11_value_34
    refine up_c n μ hI hn (fun z μ1 c1 => ?_) (fun z μ1 S c1 n1 hs hv => ?_)
    · exact Ok_r ⟨by rw [if_neg z], c1⟩
    · dsimp only
      rw [if_neg (show ¬ b2i true = 0 by decide), bS (valueAt_s n μ1 (by decide) hW n1.1 n1.2.2 hv hs (by omega))]
      exact Ok_r ⟨by rw [if_pos z], c1⟩
  · unfold X12_value X12_value_31
    refine up_r n μ1 h1 hn (fun z μ2 t2 r2 _ => ?_) (fun z μ2 S t2 r2 _ hs hv => ?_)
    · exact Ok_r ⟨by rw [if_neg z], t2, r2⟩
    · dsimp only
      rw [if_neg (show ¬ b2i true = 0 by decide)]
      refine Ok_b (seatNow_s n μ2 hW t2 hv (by omega) (by omega)) ?_
      rintro _ μ3 ⟨rfl, kn⟩
      dsimp only
      obtain ⟨_, hx, v1, _, _⟩ := rv_at (KN_rv kn hv) hs hW.2.1 (kT_lt hW)
      rw [gd_n hx (by decide), nI_clamp (by omega), v1]
      exact Ok_r ⟨by rw [if_pos z], KN_td kn t2, KN_ri kn r2⟩
theorem call_rank (n : Nat) (μ : Mu) (h : INV μ) (hn : 20000 < n) : CAx (X11_rank n μ) (X12_rank n) := by
  obtain ⟨T, hI⟩ := h
  have hW := hI.1.1
  refine CAs_mk (v := if bhS T (sT T + 1) ≤ 6000 then nI (RK T 41 (T 2) (sT T) (kT T)) else -1) hI ?_ (fun r e => fr_X11_rank n μ r e) (by decide +kernel) (fun μ1 h1 => ?_) (fun μ1 r e => fr_X12_rank n μ1 r e) (by decide +kernel)
  · unfold X11_rank X11_rank_32
    refine up_c n μ hI hn (fun z μ1 c1 => ?_) (fun z μ1 S c1 n1 hs hv => ?_)
    · exact Ok_r ⟨by rw [if_neg z], c1⟩
    · dsimp only
      rw [if_neg (show ¬ b2i true = 0 by decide), bS (rankAt_s n μ1 (by decide) hW n1.1 n1.2.2 hv hs (by omega))]
      exact Ok_r ⟨by rw [if_pos z], c1⟩
  · unfold X12_rank X12_rank_29
    refine up_r n μ1 h1 hn (fun z μ2 t2 r2 _ => ?_) (fun z μ2 S t2 r2 _ hs hv => ?_)
    · exact Ok_r ⟨by rw [if_neg z], t2, r2⟩
    · dsimp only
      rw [if_neg (show ¬ b2i true = 0 by decide)]
      refine Ok_b (seatNow_s n μ2 hW t2 hv (by omega) (by omega)) ?_
      rintro _ μ3 ⟨rfl, kn⟩
      dsimp only
      obtain ⟨_, hx, _, v2, _⟩ := rv_at (KN_rv kn hv) hs hW.2.1 (kT_lt hW)
      rw [gd_n hx (by decide), nI_clamp (by omega), v2]
      exact Ok_r ⟨by rw [if_pos z], KN_td kn t2, KN_ri kn r2⟩
theorem call_best (n : Nat) (μ : Mu) (h : INV μ) (hn : 20000 < n) : CAx (X11_best n μ) (X12_best n) := by
  obtain ⟨T, hI⟩ := h
  have hW := hI.1.1
  refine CAs_mk (v := if bhS T (sT T + 1) ≤ 6000 then bsI T (T 2) (sT T) (kT T) (offN (T 1) (T 2)) else -1) hI ?_ (fun r e => fr_X11_best n μ r e) (by decide +kernel) (fun μ1 h1 => ?_) (fun μ1 r e => fr_X12_best n μ1 r e) (by decide +kernel)
  · unfold X11_best X11_best_32
    refine up_c n μ hI hn (fun z μ1 c1 => ?_) (fun z μ1 S c1 n1 hs hv => ?_)
    · exact Ok_r ⟨by rw [if_neg z], c1⟩
    · dsimp only
      obtain ⟨a, μ2, e2, rfl⟩ := bestAt_s n μ1 os53 hW n1.1 n1.2.2 hv hs (by omega)
      rw [if_neg (show ¬ b2i true = 0 by decide), bS e2]
      exact Ok_r ⟨by rw [if_pos z], CI_ag c1 (Fr_ag (fr_X7_bestAt n _ μ1 _ e2) (by decide +kernel))⟩
  · unfold X12_best X12_best_24
    refine up_r n μ1 h1 hn (fun z μ2 t2 r2 _ => ?_) (fun z μ2 S t2 r2 _ hs hv => ?_)
    · exact Ok_r ⟨by rw [if_neg z], t2, r2⟩
    · dsimp only
      rw [if_neg (show ¬ b2i true = 0 by decide)]
      refine Ok_b (bestNow_s n μ2 hW t2 hv hs (by omega)) ?_
      rintro _ μ3 ⟨rfl, kn⟩
      exact Ok_r ⟨by rw [if_pos z], KN_td kn t2, KN_ri kn r2⟩
