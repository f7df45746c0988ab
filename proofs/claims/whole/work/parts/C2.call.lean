/-! plain calls: fault, mover, may, over, score, pit, store -/
theorem call_fault (n : Nat) (μ : Mu) (v : Int32) (h : INV μ) : CAx (X11_fault n v μ) (X12_fault n v) := by
  obtain ⟨T, hI⟩ := h
  refine CA_mk (v := if v = 0 then μ.1 12 2 else if v = 1 then μ.1 12 3 else -1) hI ?_ (fun r e => fr_X11_fault n v μ r e) (by decide +kernel) (fun μ1 h1 ag => ?_) (fun μ1 r e => fr_X12_fault n v μ1 r e) (by decide +kernel)
  · unfold X11_fault
    by_cases z : v = 0
    · rw [if_pos z, if_pos z]; exact Ok_r rfl
    · rw [if_neg z, if_neg z]
      by_cases z1 : v = 1
      · rw [if_pos z1, if_pos z1]; exact Ok_r rfl
      · rw [if_neg z1, if_neg z1]; exact Ok_r rfl
  · obtain ⟨_, r2, r3⟩ := h1.2.2.2.2.2.2.1
    rw [(ag.f 12 2 (by decide)).1] at r2
    rw [(ag.f 12 3 (by decide)).1] at r3
    have t := td_th (v := 0) h1.2.1
    unfold X12_fault X12_fault_29
    by_cases z : v = 0
    · rw [if_pos z, if_pos z, si_c (by decide)]; exact Ok_r ⟨r2.symm, t⟩
    · rw [if_neg z, if_neg z]
      by_cases z1 : v = 1
      · rw [if_pos z1, if_pos z1, si_c (by decide)]; exact Ok_r ⟨r3.symm, t⟩
      · rw [if_neg z1, if_neg z1]; exact Ok_r ⟨rfl, t⟩
theorem call_mover (n : Nat) (μ : Mu) (h : INV μ) : CAx (X11_mover n μ) (X12_mover n) := by
  obtain ⟨T, hI⟩ := h
  refine CA_mk (v := nI (T 2)) hI ?_ (fun r e => fr_X11_mover n μ r e) (by decide +kernel) (fun μ1 h1 ag => ?_) (fun μ1 r e => fr_X12_mover n μ1 r e) (by decide +kernel)
  · exact Ok_r hI.2.2.1.2.2.1
  · unfold X12_mover
    rw [si_b (by decide)]
    exact Ok_r ⟨h1.2.1 2 (by omega), td_th h1.2.1⟩
/-- an int is the number of an own pit of the mover, or isn't -/
theorem own_cs (T : Nat → Nat) (v : Int32) : (∃ w, w < T 1 ∧ v = nI (offN (T 1) (T 2) + w)) ∨ ∀ w, w < T 1 → v ≠ nI (offN (T 1) (T 2) + w) := by
  by_cases h : ∃ w, w < T 1 ∧ v = nI (offN (T 1) (T 2) + w)
  · exact Or.inl h
  · exact Or.inr (fun w hw e => h ⟨w, hw, e⟩)
def whyI (T : Nat → Nat) (v : Int32) : Nat := if h : ∃ w, w < T 1 ∧ v = nI (offN (T 1) (T 2) + w) then whyW T (v.toNatClampNeg - offN (T 1) (T 2)) else whyN T
theorem whyI_w {T : Nat → Nat} {w : Nat} (b6 : T 1 < 7) (hw : w < T 1) : whyI T (nI (offN (T 1) (T 2) + w)) = whyW T w := by
  have := off_le (T 1) (T 2)
  unfold whyI
  rw [dif_pos ⟨w, hw, rfl⟩, nI_clamp (by omega), Nat.add_sub_cancel_left]
theorem whyI_x {T : Nat → Nat} {v : Int32} (h : ∀ w, w < T 1 → v ≠ nI (offN (T 1) (T 2) + w)) : whyI T v = whyN T := by
  unfold whyI
  rw [dif_neg (fun ⟨w, hw, e⟩ => h w hw e)]
theorem reasonI (n : Nat) (μ : Mu) {T : Nat → Nat} {o : Nat} (v : Int32) (ho : OS o) (hW : WF T) (hG : GE μ T) (hS : SC μ o T) (hn : 1000 < n) : Ok (X8_reason n o v.toInt64 μ) (fun a μ' => KP RS μ μ' ∧ a = nI (whyI T v)) := by
  have b6 := hW.1.2.1
  have := off_le (T 1) (T 2)
  rcases own_cs T v with ⟨w, hw, rfl⟩ | h
  · rw [nI_l (by omega), whyI_w b6 hw]
    exact reason_w n μ ho hW hG hS hw hn
  · rw [whyI_x h]
    refine reason_x n μ ho hW hG hS (fun w hw e => h w hw ?_) hn
    rw [← nI_l (by omega)] at e
    exact i64_in e
theorem whyNotI (n : Nat) (μ : Mu) {T : Nat → Nat} (v : Int32) (hW : WF T) (hT : TD μ T) (hn : 1000 < n) : Ok (X12_whyNot n v μ) (fun a μ' => KR μ μ' ∧ a = nI (whyI T v)) := by
  have b6 := hW.1.2.1
  rcases own_cs T v with ⟨w, hw, rfl⟩ | h
  · rw [whyI_w b6 hw]
    exact whyNot_w n μ hW hT hn hw
  · rw [whyI_x h]
    exact whyNot_x n μ hW hT hn h
theorem call_may (n : Nat) (μ : Mu) (v : Int32) (h : INV μ) (hn : 1000 < n) : CAx (X11_may n v μ) (X12_may n v) := by
  obtain ⟨T, hI⟩ := h
  refine CA_mk (v := nI (whyI T v)) hI ?_ (fun r e => fr_X11_may n v μ r e) (by decide +kernel) (fun μ1 h1 ag => ?_) (fun μ1 r e => fr_X12_may n v μ1 r e) (by decide +kernel)
  · unfold X11_may
    refine Ok_b (reasonI n μ v os53 hI.1.1 hI.2.2.1.1.1.1 hI.2.2.1.2.2 hn) ?_
    rintro a μ' ⟨_, rfl⟩
    exact Ok_r rfl
  · unfold X12_may
    refine Ok_b (whyNotI n _ v h1.1.1 (td_th h1.2.1) hn) ?_
    rintro a μ' ⟨k, rfl⟩
    exact Ok_r ⟨rfl, KR_TD k (td_th h1.2.1)⟩
theorem call_over (n : Nat) (μ : Mu) (h : INV μ) (hn : 1000 < n) : CAx (X11_over n μ) (X12_over n) := by
  obtain ⟨T, hI⟩ := h
  refine CA_mk (v := b2i (overT T)) hI ?_ (fun r e => fr_X11_over n μ r e) (by decide +kernel) (fun μ1 h1 ag => ?_) (fun μ1 r e => fr_X12_over n μ1 r e) (by decide +kernel)
  · unfold X11_over
    refine Ok_b (isOverC_s n μ os53 hI.1.1 hI.2.2.1.1.1.1 hI.2.2.1.2.2 hn) ?_
    rintro a μ' ⟨_, rfl⟩
    dsimp only
    rw [bz_b]
    exact Ok_r rfl
  · unfold X12_over
    refine Ok_b (isOver_s n _ h1.1.1 (td_th h1.2.1) hn) ?_
    rintro a μ' ⟨k, rfl⟩
    dsimp only
    rw [bz_b]
    exact Ok_r ⟨rfl, KR_TD k (td_th h1.2.1)⟩
theorem call_score (n : Nat) (μ : Mu) (h : INV μ) (hn : 1000 < n) : CAx (X11_score n μ) (X12_score n) := by
  obtain ⟨T, hI⟩ := h
  refine CA_mk (v := scI T) hI ?_ (fun r e => fr_X11_score n μ r e) (by decide +kernel) (fun μ1 h1 ag => ?_) (fun μ1 r e => fr_X12_score n μ1 r e) (by decide +kernel)
  · unfold X11_score
    refine Ok_b (scoreOf_s n μ os53 hI.1.1 hI.2.2.1.1.1.1 hI.2.2.1.2.2 hn) ?_
    rintro a μ' ⟨_, rfl⟩
    exact Ok_r rfl
  · unfold X12_score
    refine Ok_b (scoreNow_s n _ h1.1.1 (td_th h1.2.1) hn) ?_
    rintro a μ' ⟨k, rfl⟩
    exact Ok_r ⟨rfl, KR_TD k (td_th h1.2.1)⟩
/-- an int below n, or not -/
theorem ix_cs (v : Int32) {m : Nat} (hm : m < 2 ^ 31) : (v < 0 ∧ ¬ (0 ≤ v ∧ v < nI m)) ∨ (¬ v < 0 ∧ nI m ≤ v ∧ ¬ (0 ≤ v ∧ v < nI m)) ∨ ∃ j, j < m ∧ v = nI j := by
  rcases pk_ix v hm with h | h | h
  · exact Or.inl ⟨h, fun q => absurd h (Int32.not_lt.mpr q.1)⟩
  · refine Or.inr (Or.inl ⟨fun q => ?_, h, fun q => absurd q.2 (Int32.not_lt.mpr h)⟩)
    have h2 : (0 : Int32) ≤ nI m := nI_pos' hm
    exact absurd (Int32.lt_of_le_of_lt (Int32.le_trans h2 h) q) Int32.lt_irrefl
  · exact Or.inr (Or.inr h)
theorem call_pit (n : Nat) (μ : Mu) (v : Int32) (h : INV μ) (hn : 1000 < n) : CBx (L_pit n v μ) (X12_pit n v) := by
  obtain ⟨T, hI⟩ := h
  obtain ⟨b1, b6, b3, _⟩ := id hI.1.1.1
  have e11 : μ.1 1 1 = nI (T 1) := hI.2.2.1.1.1.1.1.1
  have e12 : μ.1 1 2 = nI (T 3) := hI.2.2.1.1.1.1.1.2.1
  by_cases hv : ∃ j, j < 2 * T 1 ∧ v = nI j
  · obtain ⟨j, hj, rfl⟩ := hv
    refine CB_mk (x := .inl (if (T 3).testBit j = true then -1 else nI (T (13 + j)))) (k := 0) hI ?_ (fun r e => fr_X11_pit n _ μ r e) (by decide +kernel) (fun μ1 e => ⟨_, by unfold L_pit; rw [e], fun v q => by rw [Sum.inl.inj q], fun e q => nomatch q⟩) (Or.inl ⟨_, rfl⟩) (fun μ1 h1 ag => ?_) (fun μ1 r e => fr_X12_pit n _ μ1 r e) (by decide +kernel)
    · unfold X11_pit X11_seedsOrLacking X11_seedsOrLacking_21
      rw [if_neg (nI_pos (by omega)), e11, i_2, pk_mul, ifLt (by omega) (by omega), if_pos hj, kd_of (by decide), bS (lackC_s n μ e12 (by omega) (by omega))]
      cases hb : (T 3).testBit j with
      | false =>
        dsimp only
        rw [if_pos (show b2i false = 0 from rfl), gd_n (by omega) (by decide), nI_clamp (by omega), hI.2.2.1.2.2.2 j (by omega)]
        refine Ok_r ?_
        unfold cT
        rw [if_pos (by omega), if_neg (by decide)]
      | true =>
        dsimp only
        rw [if_neg (show ¬ b2i true = 0 by decide)]
        exact Ok_r rfl
    · unfold X12_pit X12_pit_40
      have t := td_th (v := 0) h1.2.1
      rw [bS (isPit_s n _ _ (t 1 (by omega)) b1 (by omega)), decide_eq_true ⟨nI_pos' (by omega), (nI_ltI (by omega) (by omega)).mpr hj⟩]
      dsimp only
      rw [if_neg (show ¬ b2i true = 0 by decide), bS (isLacking_s n _ (t 3 (by omega)) (by omega) (by omega))]
      cases hb : (T 3).testBit j with
      | false =>
        dsimp only
        rw [if_pos (show b2i false = 0 from rfl), i_13, nI_add, gd_n (by omega) (by decide), nI_clamp (by omega), t (13 + j) (by omega)]
        exact Ok_r ⟨si_a, fun v q => by rw [← Sum.inl.inj q, if_neg (by decide)], t⟩
      | true =>
        dsimp only
        rw [if_neg (show ¬ b2i true = 0 by decide)]
        exact Ok_r ⟨si_a, fun v q => by rw [← Sum.inl.inj q, if_pos rfl], t⟩
  · have hno : ¬ (0 ≤ v ∧ v < nI (2 * T 1)) := by
      rcases ix_cs v (m := 2 * T 1) (by omega) with h | h | h
      · exact h.2
      · exact h.2.2
      · exact absurd h hv
    refine CB_mk (x := .inr 0) (k := 1) hI ?_ (fun r e => fr_X11_pit n _ μ r e) (by decide +kernel) (fun μ1 e => ⟨μ1, by unfold L_pit; rw [e]; exact if_pos rfl, fun v q => (nomatch q), fun e q => rfl⟩) (Or.inr (by decide)) (fun μ1 h1 ag => ?_) (fun μ1 r e => fr_X12_pit n _ μ1 r e) (by decide +kernel)
    · unfold X11_pit X11_pit_17
      rw [e11, i_2, pk_mul]
      by_cases z : v < 0
      · rw [if_pos z]; exact Ok_r rfl
      · rw [if_neg z, if_neg (fun q => hno ⟨Int32.not_lt.mp z, q⟩)]; exact Ok_r rfl
    · unfold X12_pit X12_fails
      have t := td_th (v := 0) h1.2.1
      rw [bS (isPit_s n _ _ (t 1 (by omega)) b1 (by omega)), decide_eq_false hno]
      dsimp only
      rw [if_pos (show b2i false = 0 from rfl)]
      exact Ok_r ⟨si_a, fun v q => (nomatch q), td_th t⟩
theorem side_cs (v : Int32) : (v = nI 0 ∨ v = nI 1) ∨ (¬ (v = nI 0 ∨ v = nI 1) ∧ ((0 : Int64) ≤ v.toInt64 ∧ v.toInt64 ≤ 1 ↔ False) ∧ (¬ v < 0 → ¬ v ≤ nI 1)) := by
  by_cases h : v = nI 0 ∨ v = nI 1
  · exact Or.inl h
  · have key : ¬ (0 ≤ v ∧ v ≤ nI 1) := by
      rintro ⟨a, b⟩
      rw [Int32.le_iff_toInt_le] at a b
      rw [nI_toInt (by decide)] at b
      have z : (0 : Int32).toInt = 0 := by decide
      rw [z] at a
      apply h
      rcases (show v.toInt = 0 ∨ v.toInt = 1 by omega) with q | q
      · exact Or.inl (Int32.toInt_inj.mp (by rw [q]; decide))
      · exact Or.inr (Int32.toInt_inj.mp (by rw [q]; decide))
    refine Or.inr ⟨h, ⟨fun q => key ?_, False.elim⟩, fun q r => key ⟨Int32.not_lt.mp q, r⟩⟩
    rw [show (0 : Int64) = (0 : Int32).toInt64 by decide, show (1 : Int64) = (nI 1).toInt64 by decide, wide_le, wide_le] at q
    exact q
theorem isSide_s (n : Nat) (μ : Mu) (v : Int32) : X12_isSide n v μ = some (b2i (decide (v = nI 0 ∨ v = nI 1)), μ) := by
  unfold X12_isSide
  rw [bS (within_s n _ _ _ μ)]
  dsimp only
  rw [bz_b]
  rcases side_cs v with h | ⟨h1, h2, _⟩
  · rw [decide_eq_true h]
    rcases h with rfl | rfl
    · rfl
    · rfl
  · rw [decide_eq_false h1, decide_eq_false h2.mp]
theorem call_store (n : Nat) (μ : Mu) (v : Int32) (h : INV μ) (hn : 1000 < n) : CBx (L_store n v μ) (X12_store n v) := by
  obtain ⟨T, hI⟩ := h
  rcases side_cs v with h | ⟨h1, h2, h3⟩
  · obtain ⟨j, hj, rfl⟩ : ∃ j, j < 2 ∧ v = nI j := by
      rcases h with h | h
      · exact ⟨0, by omega, h⟩
      · exact ⟨1, by omega, h⟩
    refine CB_mk (x := .inl (nI (T (11 + j)))) (k := 0) hI ?_ (fun r e => fr_X11_store n _ μ r e) (by decide +kernel) (fun μ1 e => ⟨_, by unfold L_store; rw [e], fun v q => by rw [Sum.inl.inj q], fun e q => nomatch q⟩) (Or.inl ⟨_, rfl⟩) (fun μ1 h1 ag => ?_) (fun μ1 r e => fr_X12_store n _ μ1 r e) (by decide +kernel)
    · unfold X11_store X11_needSide
      rw [if_neg (nI_pos (by omega)), i_1, ifLe (by omega) (by decide), if_pos (by omega)]
      show Ok (gd _ _ _) _
      rw [i_12, nI_add, gd_n (by omega) (by decide), nI_clamp (by omega), hI.2.2.1.2.2.2 (12 + j) (by omega)]
      refine Ok_r ?_
      unfold cT
      rw [if_neg (by omega), show 12 + j - 1 = 11 + j by omega]
    · unfold X12_store X12_store_29
      have t := td_th (v := 0) h1.2.1
      rw [bS (isSide_s n _ _), decide_eq_true h]
      dsimp only
      rw [if_neg (show ¬ b2i true = 0 by decide), i_11, nI_add, gd_n (by omega) (by decide), nI_clamp (by omega), t (11 + j) (by omega)]
      exact Ok_r ⟨si_a, fun v q => Sum.inl.inj q, t⟩
  · refine CB_mk (x := .inr 0) (k := 1) hI ?_ (fun r e => fr_X11_store n _ μ r e) (by decide +kernel) (fun μ1 e => ⟨μ1, by unfold L_store; rw [e]; exact if_pos rfl, fun v q => (nomatch q), fun e q => rfl⟩) (Or.inr (by decide)) (fun μ1 h4 ag => ?_) (fun μ1 r e => fr_X12_store n _ μ1 r e) (by decide +kernel)
    · unfold X11_store X11_needSide X11_needSide_9
      by_cases z : v < 0
      · rw [if_pos z]; exact Ok_r rfl
      · rw [if_neg z, i_1, if_neg (h3 z)]; exact Ok_r rfl
    · unfold X12_store X12_store_29 X12_fails
      have t := td_th (v := 0) h4.2.1
      rw [bS (isSide_s n _ _), decide_eq_false h1]
      dsimp only
      rw [if_pos (show b2i false = 0 from rfl)]
      exact Ok_r ⟨si_a, fun v q => (nomatch q), td_th t⟩
