/-! calls: positions, place, ofPlace, count -/
theorem thr_l {A U : Type} {a : A} {μ : Mu} {f : A → Mu → Option ((U ⊕ Nat) × Mu)} {x : Option ((A ⊕ Nat) × Mu)} (h : x = some (.inl a, μ)) : thr x f = f a μ := by rw [h]; rfl
theorem thr_r {A U : Type} {k : Nat} {μ : Mu} {f : A → Mu → Option ((U ⊕ Nat) × Mu)} {x : Option ((A ⊕ Nat) × Mu)} (h : x = some (.inr k, μ)) : thr x f = some (.inr k, μ) := by rw [h]; rfl
theorem needSide_l (n : Nat) (μ : Mu) {j : Nat} (hj : j < 2) : X11_needSide n (nI j) μ = some (.inl (), μ) := by
  unfold X11_needSide
  rw [if_neg (nI_pos (by omega)), i_1, ifLe (by omega) (by decide), if_pos (by omega)]
theorem needSide_r (n : Nat) (μ : Mu) {v : Int32} (h : ¬ v < 0 → ¬ v ≤ nI 1) : X11_needSide n v μ = some (.inr 0, μ) := by
  unfold X11_needSide X11_needSide_9
  by_cases z : v < 0
  · rw [if_pos z]
  · rw [if_neg z, i_1, if_neg (h z)]
theorem side_d (v : Int32) : (∃ j, j < 2 ∧ v = nI j) ∨ ((¬ (v = nI 0 ∨ v = nI 1)) ∧ (¬ v < 0 → ¬ v ≤ nI 1)) := by
  rcases side_cs v with h | ⟨h1, _, h3⟩
  · rcases h with h | h
    · exact Or.inl ⟨0, by omega, h⟩
    · exact Or.inl ⟨1, by omega, h⟩
  · exact Or.inr ⟨h1, h3⟩
theorem isSide_l (n : Nat) (μ : Mu) {j : Nat} (hj : j < 2) : X12_isSide n (nI j) μ = some (b2i true, μ) := by
  rw [isSide_s, decide_eq_true]
  obtain rfl | rfl : j = 0 ∨ j = 1 := by omega
  · exact Or.inl rfl
  · exact Or.inr rfl
theorem isSide_r (n : Nat) (μ : Mu) {v : Int32} (h : ¬ (v = nI 0 ∨ v = nI 1)) : X12_isSide n v μ = some (b2i false, μ) := by
  rw [isSide_s, decide_eq_false h]
theorem needSeeds_l (n : Nat) (μ : Mu) {s : Nat} (hs : s ≤ 40) : X11_needSeeds n (nI s) μ = some (.inl (), μ) := by
  unfold X11_needSeeds
  rw [if_neg (nI_pos (by omega)), i_40, ifLe (by omega) (by decide), if_pos hs]
theorem needSeeds_r (n : Nat) (μ : Mu) {v : Int32} (h : ¬ inR v 0 40) : X11_needSeeds n v μ = some (.inr 1, μ) := by
  unfold X11_needSeeds X11_needSeeds_10
  by_cases z : v < 0
  · rw [if_pos z]
  · rw [if_neg z, i_40, if_neg (fun q => h ⟨Int32.not_lt.mp z, q⟩)]
theorem within_l (n : Nat) (μ : Mu) {v : Int32} {b : Nat} (hb : b < 2 ^ 31) {y : Int64} (hy : y = lN b) (h : inR v 0 b) : X12_within n v.toInt64 0 y μ = some (b2i true, μ) := by
  obtain ⟨t, w1, w2⟩ := within_I n μ v (a := 0) (b := b) (x := 0) (y := y) (by decide) hb rfl hy
  rw [w1, w2.mpr h]
theorem within_r (n : Nat) (μ : Mu) {v : Int32} {b : Nat} (hb : b < 2 ^ 31) {y : Int64} (hy : y = lN b) (h : ¬ inR v 0 b) : X12_within n v.toInt64 0 y μ = some (b2i false, μ) := by
  obtain ⟨t, w1, w2⟩ := within_I n μ v (a := 0) (b := b) (x := 0) (y := y) (by decide) hb rfl hy
  rw [w1]
  cases t with
  | false => rfl
  | true => exact absurd (w2.mp rfl) h
/-- an int below M -/
theorem within_lt (n : Nat) (μ : Mu) (v : Int32) {M : Nat} (hM : M < 2 ^ 31) : ((∃ j, j < M ∧ v = nI j) → X12_within n v.toInt64 0 (lN M - 1) μ = some (b2i true, μ)) ∧ ((¬ ∃ j, j < M ∧ v = nI j) → X12_within n v.toInt64 0 (lN M - 1) μ = some (b2i false, μ)) := by
  cases M with
  | zero =>
    refine ⟨fun ⟨j, h, _⟩ => by omega, fun _ => ?_⟩
    rw [within_s, decide_eq_false]
    rintro ⟨a, b⟩
    have := Int64.le_trans a b
    exact absurd this (by decide)
  | succ M =>
    rw [show (1 : Int64) = lN 1 from rfl, lN_sub (by omega), Nat.add_sub_cancel]
    refine ⟨fun ⟨j, h, e⟩ => within_l n μ (by omega) rfl (by rw [e]; exact (inR_j (by decide) (by omega) (by omega)).mpr ⟨by omega, by omega⟩), fun h => within_r n μ (by omega) rfl (fun q => ?_)⟩
    obtain ⟨j, _, h2, e⟩ := inR_d (by decide) (by omega) q
    exact h ⟨j, by omega, e⟩
theorem needPos_l (n : Nat) (μ : Mu) {j M : Nat} (hM : M < 2 ^ 31) (hj : j < M) : X11_needPosition n (nI j) (nI M) μ = some (.inl (), μ) := by
  unfold X11_needPosition
  rw [if_neg (nI_pos (by omega)), ifLt (by omega) hM, if_pos hj]
theorem needPos_r (n : Nat) (μ : Mu) {v : Int32} {M : Nat} (hM : M < 2 ^ 31) (h : ¬ ∃ j, j < M ∧ v = nI j) : X11_needPosition n v (nI M) μ = some (.inr 0, μ) := by
  unfold X11_needPosition X11_needPosition_9
  rcases ix_cs v hM with q | q | q
  · rw [if_pos q.1]
  · rw [if_neg q.1, if_neg (Int32.not_lt.mpr q.2.1)]
  · exact absurd q h
theorem le_60 {W : Nat} (hW : W < 2 ^ 62) {α : Type} {x y : α} : (if lg_cmp (lN W) (6000 : Int64) ≤ 0 then x else y) = if W ≤ 6000 then x else y := by
  rw [ifIff lg_leI, show (6000 : Int64) = lN 6000 from rfl, ifIff (pk_lLE (by omega) (by decide))]
theorem lt_60 {W : Nat} {α : Type} {x y : α} : (if nI (min 6001 W) ≤ (6000 : Int32) then x else y) = if W ≤ 6000 then x else y := by
  rw [i_6000, ifLe (by omega) (by decide)]
  exact ifIff ⟨fun q => by omega, fun q => by omega⟩
theorem call_positions (n : Nat) (μ : Mu) (sd s : Int32) (h : INV μ) (hn : 1000 < n) : CBx (L_positions n sd s μ) (X12_positions n sd s) := by
  obtain ⟨T, hI⟩ := h
  have hB := hI.1.1.1
  have hop := opn_le (T := T)
  have b6 := hB.2.1
  rcases side_d sd with ⟨j, hj, rfl⟩ | ⟨hs1, hs2⟩
  · by_cases hr : inR s 0 40
    · obtain ⟨s, _, hs, rfl⟩ := inR_d (by decide) (by decide) hr
      have hw := Wn_lt (m := opnN T) (s := s) (by omega) hs
      refine CB_mk (x := .inl (if Wn (opnN T) s ≤ 6000 then nI (Wn (opnN T) s) else -1000)) (k := 0) hI ?_ (fun r e => fr_X11_positions n _ _ μ r e) (by decide +kernel) (fun μ1 e => ⟨_, by unfold L_positions; rw [e], fun v q => by rw [Sum.inl.inj q], fun e q => nomatch q⟩) (Or.inl ⟨_, rfl⟩) (fun μ1 h1 ag => ?_) (fun μ1 r e => fr_X12_positions n _ _ μ1 r e) (by decide +kernel)
      · unfold X11_positions X11_positions_31
        rw [thr_l (needSide_l n μ hj), thr_l (needSeeds_l n μ hs), bS (posC_s n μ hB hI.2.2.1.1 hs)]
        dsimp only
        rw [lt_60]
        by_cases z : Wn (opnN T) s ≤ 6000
        · rw [if_pos z, if_pos z, Nat.min_eq_right (by omega)]; exact Ok_r rfl
        · rw [if_neg z, if_neg z]; exact Ok_r rfl
      · unfold X12_positions X12_positions_29 X12_positions_63
        rw [bS (isSide_l n μ1 hj)]
        dsimp only
        rw [if_neg (show ¬ b2i true = 0 by decide), bS (within_l n μ1 (b := 40) (y := 40) (by decide) rfl hr)]
        dsimp only
        rw [if_neg (show ¬ b2i true = 0 by decide), si_a, if_pos (show (0 : Int32) ≤ 0 by decide)]
        have t := td_th (v := 0) h1.2.1
        refine Ok_b (positionsOf_s n _ hB t hs hn) ?_
        rintro _ μ2 ⟨rfl, ko⟩
        dsimp only
        rw [le_60 hw]
        have t2 := TD_o t (ko.1 172 (by decide) (by decide))
        have z5 : μ2.1 171 5 = 0 := by rw [ko.2.2 5 (by decide), si_a]
        by_cases z : Wn (opnN T) s ≤ 6000
        · rw [if_pos z, lN_i]; exact Ok_r ⟨z5, fun v q => by rw [← Sum.inl.inj q, if_pos z], t2⟩
        · rw [if_neg z]; exact Ok_r ⟨z5, fun v q => by rw [← Sum.inl.inj q, if_neg z], t2⟩
    · refine CB_mk (x := .inr 1) (k := 2) hI ?_ (fun r e => fr_X11_positions n _ _ μ r e) (by decide +kernel) (fun μ1 e => ⟨μ1, by unfold L_positions; rw [e]; rfl, fun v q => (nomatch q), fun e q => rfl⟩) (Or.inr (by decide)) (fun μ1 h1 ag => ?_) (fun μ1 r e => fr_X12_positions n _ _ μ1 r e) (by decide +kernel)
      · unfold X11_positions
        rw [thr_l (needSide_l n μ hj), thr_r (needSeeds_r n μ hr)]
        exact Ok_r rfl
      · unfold X12_positions X12_positions_29
        rw [bS (isSide_l n μ1 hj)]
        dsimp only
        rw [if_neg (show ¬ b2i true = 0 by decide), bS (within_r n μ1 (b := 40) (y := 40) (by decide) rfl hr)]
        dsimp only
        rw [if_pos (show b2i false = 0 from rfl), si_a, if_neg (show ¬ (2 : Int32) ≤ 0 by decide)]
        exact Ok_r ⟨si_a, fun v q => (nomatch q), td_th h1.2.1⟩
  · refine CB_mk (x := .inr 0) (k := 1) hI ?_ (fun r e => fr_X11_positions n _ _ μ r e) (by decide +kernel) (fun μ1 e => ⟨μ1, by unfold L_positions; rw [e]; rfl, fun v q => (nomatch q), fun e q => rfl⟩) (Or.inr (by decide)) (fun μ1 h1 ag => ?_) (fun μ1 r e => fr_X12_positions n _ _ μ1 r e) (by decide +kernel)
    · unfold X11_positions
      rw [thr_r (needSide_r n μ hs2)]
      exact Ok_r rfl
    · unfold X12_positions X12_positions_29
      rw [bS (isSide_r n μ1 hs1)]
      dsimp only
      rw [if_pos (show b2i false = 0 from rfl), si_a, if_neg (show ¬ (1 : Int32) ≤ 0 by decide)]
      exact Ok_r ⟨si_a, fun v q => (nomatch q), td_th h1.2.1⟩
theorem call_place (n : Nat) (μ : Mu) (h : INV μ) (hn : 1000 < n) : CAx (X11_place n μ) (X12_place n) := by
  obtain ⟨T, hI⟩ := h
  have hW := hI.1.1
  have hB := hW.1
  have hop := opn_le (T := T)
  have b6 := hB.2.1
  have h40 := sT_40 hW
  obtain ⟨hG, _, hS⟩ := id hI.2.2.1
  have hw := Wn_lt (m := opnN T) (s := sT T) (by omega) h40
  have hz : ∀ p, p < 2 * T 1 → (T 3).testBit p = true → cT T p = 0 := fun p a b => cT_z hW p (by omega) (Or.inl b)
  refine CA_mk (v := if Wn (opnN T) (sT T) ≤ 6000 then nI (kT T) else -1000) hI ?_ (fun r e => fr_X11_place n μ r e) (by decide +kernel) (fun μ1 h1 ag => ?_) (fun μ1 r e => fr_X12_place n μ1 r e) (by decide +kernel)
  · unfold X11_place X11_place_40
    rw [bS (inP_s n μ (by decide) hS hn)]
    dsimp only
    rw [bS (posC_s n μ hB hG h40)]
    dsimp only
    rw [lt_60]
    by_cases z : Wn (opnN T) (sT T) ≤ 6000
    · have hnb := numberOf_s n μ (T := T) (o := 53) (by decide) b6 hW.2.1 hS.1 hS.2 (GA_sn hG hW.2.1) hG.1.2.2.2.1 hG.2 hz (by rw [sT_2 hW]; omega) (by rw [sT_2 hW]; omega) hn
      rw [sT_2 hW] at hnb
      rw [if_pos z, if_pos z, bS hnb]
      exact Ok_r rfl
    · rw [if_neg z, if_neg z]; exact Ok_r rfl
  · unfold X12_place
    have t := td_th (v := 0) h1.2.1
    rw [bS (seedsNow_s n _ hW t hn)]
    dsimp only
    refine Ok_b (positionsOf_s n _ hB t h40 hn) ?_
    rintro _ μ2 ⟨rfl, ko⟩
    dsimp only
    rw [le_60 hw]
    have t2 := TD_o t (ko.1 172 (by decide) (by decide))
    by_cases z : Wn (opnN T) (sT T) ≤ 6000
    · rw [if_pos z, if_pos z, bS (takesUp_s n μ2 (t2 1 (by omega)) (by omega) (by omega))]
      dsimp only
      have t3 : TD (tuF μ2 (2 * T 1)) T := TD_o t2 (funext (fun k => tuF_o μ2 (by decide) _))
      rw [t3 2 (by omega)]
      refine Ok_b (numberOfR_s n _ (c := cT T) hB t3 hW.2.1 (tu_HD hW t2) hz (by rw [sT_2 hW]; exact h40) hn) ?_
      rintro _ μ3 ⟨rfl, ko3⟩
      exact Ok_r ⟨rfl, TD_o t3 (ko3.1 172 (by decide) (by decide))⟩
    · rw [if_neg z, if_neg z]; exact Ok_r ⟨rfl, t2⟩
