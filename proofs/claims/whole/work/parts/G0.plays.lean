/-! call: plays -/
def pyN : Nat → (Nat → Nat) → Nat
  | 0, _ => 1
  | d + 1, T => sumF (fun p => if canP T p = true then pyN d (nxB T p) else 0) 12
theorem osr : ∀ i, i < 7 → OS (155 + 2 * i) := by
  have h : ∀ i, i < 7 → oK (155 + 2 * i) = 6 := by decide
  exact fun i hi => ⟨h i hi, by omega, by omega, by omega⟩
/-- what the walk below row i may change -/
def KD (i x : Nat) : Prop := RS x ∨ (155 + 2 * (i + 1) ≤ x ∧ x ≤ 168)
theorem KD_s {i x : Nat} (h : KD (i + 1) x) : KD i x := by
  rcases h with h | h
  · exact Or.inl h
  · exact Or.inr (by omega)
theorem GE_kd {μ μ' : Mu} {T : Nat → Nat} {i : Nat} (h : GE μ T) (k : KP (KD i) μ μ') : GE μ' T := GE_o h (k.1 1 (by unfold KD RS; omega)) (k.1 2 (by unfold KD RS; omega)) (k.1 3 (by unfold KD RS; omega))
theorem SC_kd {μ μ' : Mu} {T : Nat → Nat} {i : Nat} (hi : i < 7) (h : SC μ (155 + 2 * i) T) (k : KP (KD i) μ μ') : SC μ' (155 + 2 * i) T := SC_o h (k.1 _ (by unfold KD RS; omega)) (k.1 _ (by unfold KD RS; omega))
theorem down_s (n : Nat) (μ : Mu) {T : Nat → Nat} {i p : Nat} (hi : i < 6) (hT : W1 T) (hG : GE μ T) (hS : SC μ (155 + 2 * i) T) (hp : canP T p = true) (hn : 1000 < n) : Ok (X0_goDown n (nI i) (nI p) μ) (fun _ μ' => SC μ' (155 + 2 * (i + 1)) (nxB T p) ∧ KP (KD i) μ μ') := by
  obtain ⟨w, l, kk, t, c', hw, rfl, hc, hf, hm, e, _⟩ := nxB_d hT hp
  obtain ⟨a1, a2, a3, a4⟩ := osr i (by omega)
  obtain ⟨b1, b2, b3, b4⟩ := osr (i + 1) (by omega)
  unfold X0_goDown
  rw [i_1, nI_add, gd_n (by omega) (by decide), gd_n (by omega) (by decide), nI_clamp (by omega), nI_clamp (by omega)]
  refine Ok_b (copy_s n μ (o := 155 + 2 * (i + 1)) (o1 := 155 + 2 * i) b1 a1 b3 a3 (by omega) hS.1 hS.2) ?_
  rintro _ μ1 ⟨q1, q2, q3⟩
  dsimp only
  have g1 : GE μ1 T := GE_o hG (q3.1 1 (by omega)) (q3.1 2 (by omega)) (q3.1 3 (by omega))
  refine Ok_b (sowT_s n μ1 (T := T) (o := 155 + 2 * (i + 1)) b1 b2 hT.1 g1 ⟨q1, q2⟩ hw hf hn) ?_
  rintro a μ2 ⟨k1, _, q⟩
  obtain ⟨_, s2, _⟩ := q l kk t c' hm
  rw [e]
  exact Ok_r ⟨s2, (q3.up (R' := KD i) (fun o q => by unfold KD; omega)).tr k1 (fun o q => by unfold KD RS; omega)⟩
theorem rowsC_s (n : Nat) (hn : 1000 < n) : ∀ d fuel i, d < fuel → i + d ≤ 5 → ∀ (μ : Mu) (T : Nat → Nat), W1 T → GE μ T → SC μ (155 + 2 * i) T → Ok (lpF (fun _ _ _ => none) (X0_countRows_body n) fuel (nI i) (nI (i + d)) μ) (fun a μ' => a = nI (pyN d T) ∧ KP (KD i) μ μ') := by
  intro d
  induction d with
  | zero =>
    intro fuel i hf hi μ T hT hG hS
    obtain ⟨fu, rfl⟩ : ∃ fu, fuel = fu + 1 := ⟨fuel - 1, by omega⟩
    rw [lpF_s]
    unfold X0_countRows_body X0_countRows_11
    rw [ifLe (by omega) (by omega), if_pos (by omega)]
    exact Ok_r ⟨rfl, KP.rf⟩
  | succ d ih =>
    intro fuel i hf hi μ T hT hG hS
    obtain ⟨fu, rfl⟩ : ∃ fu, fuel = fu + 1 := ⟨fuel - 1, by omega⟩
    have hos := osr i (by omega)
    rw [lpF_s]
    generalize hKe : lpF (fun _ _ _ => none) (X0_countRows_body n) fu = K
    unfold X0_countRows_body
    rw [ifLe (by omega) (by omega), if_neg (by omega), i_6, ifLt (by omega) (by decide), if_pos (by omega), gd_n (by omega) (by decide), nI_clamp (by omega)]
    refine Ok_b (choices_s n μ hos hT.1 hG hS hn) ?_
    rintro _ μ1 ⟨k1, B, rfl, cb⟩
    dsimp only
    have kd1 : KP (KD i) μ μ1 := k1.up (fun o q => Or.inl q)
    rw [i_1, pk_sub (by omega), ifEq (by omega) (by omega)]
    by_cases z : i = i + (d + 1) - 1
    · obtain rfl : d = 0 := by omega
      rw [if_pos z, bS (bitCount_s n μ1 cb.1), pc_nc cb]
      exact Ok_r ⟨rfl, kd1⟩
    · rw [if_neg z]
      unfold X0_countRows_45
      rw [i_0]
      refine Ok_lp3 (fun f x3 x4 x5 μ' => ∃ p, p ≤ 12 ∧ f = 12 - p ∧ x3 = nI B ∧ x5 = nI p ∧ x4 = nI (sumF (fun p => if canP T p = true then pyN d (nxB T p) else 0) p) ∧ KP (KD i) μ μ') ?_ 12 (by omega) ⟨0, by omega, rfl, rfl, rfl, rfl, kd1⟩
      rintro K2 f x3 x4 x5 μ2 ⟨p, hp, rfl, rfl, rfl, rfl, k2⟩ hK2
      unfold X0_countRows_45b X0_countRows_81
      rw [i_12, ifLe (by decide) (by omega)]
      by_cases c : 12 ≤ p
      · obtain rfl : p = 12 := by omega
        rw [if_pos c]
        exact Ok_r ⟨rfl, k2⟩
      · rw [if_neg c, bS (has_s n μ2 (Nat.lt_trans cb.1 (by decide)) (by omega)), CB_p cb]
        dsimp only
        cases hc : canP T p with
        | false =>
          rw [if_pos (show b2i false = 0 from rfl), i_1, nI_add]
          refine hK2 (12 - (p + 1)) _ _ _ _ (by omega) ⟨p + 1, by omega, rfl, rfl, rfl, ?_, k2⟩
          rw [sumF, hc, if_neg (by decide)]
          rfl
        | true =>
          rw [if_neg (show ¬ b2i true = 0 by decide)]
          refine Ok_b (down_s n μ2 (show i < 6 by omega) hT (GE_kd hG k2) (SC_kd (by omega) hS k2) hc hn) ?_
          rintro _ μ3 ⟨s3, k3⟩
          dsimp only
          obtain ⟨_, _, _, _, _, _, _, _, _, _, _, w1, re, _⟩ := nxB_d hT hc
          rw [i_1, nI_add, ← hKe]
          have := ih fu (i + 1) (by omega) (by omega) μ3 (nxB T p) w1 (GE_re re (GE_kd (GE_kd hG k2) k3)) s3
          rw [show i + 1 + d = i + (d + 1) by omega] at this
          refine Ok_b this ?_
          rintro _ μ4 ⟨rfl, k4⟩
          dsimp only
          rw [nI_add, nI_add]
          refine hK2 (12 - (p + 1)) _ _ _ _ (by omega) ⟨p + 1, by omega, rfl, rfl, rfl, ?_, (k2.tr k3 (fun o q => q)).tr k4 (fun o q => KD_s q)⟩
          rw [sumF, hc, if_pos rfl]
theorem rowsR_s (n : Nat) (hn : 1000 < n) : ∀ d fuel, d < fuel → d ≤ 6 → ∀ (μ : Mu) (T : Nat → Nat), W1 T → TD μ T → Ok (lpF (fun _ _ => none) (X12_playsOf_body n) fuel (nI d) μ) (fun a μ' => a = nI (pyN d T) ∧ TD μ' T ∧ ∀ k, 25 * d + 25 ≤ k → μ'.1 195 k = μ.1 195 k) := by
  intro d
  induction d with
  | zero =>
    intro fuel hf hi μ T hT hD
    obtain ⟨fu, rfl⟩ : ∃ fu, fuel = fu + 1 := ⟨fuel - 1, by omega⟩
    rw [lpF_s]
    unfold X12_playsOf_body
    rw [if_pos (show nI 0 = 0 from rfl)]
    exact Ok_r ⟨rfl, hD, fun _ _ => rfl⟩
  | succ d ih =>
    intro fuel hf hi μ T hT hD
    obtain ⟨fu, rfl⟩ : ∃ fu, fuel = fu + 1 := ⟨fuel - 1, by omega⟩
    have hW := hT.1
    have b6 := hW.1.2.1
    have h195 : oN 195 = 175 := by decide
    rw [lpF_s]
    generalize hKe : lpF (fun _ _ => none) (X12_playsOf_body n) fu = K
    unfold X12_playsOf_body
    rw [if_neg (nI_ne0 (by omega) (by omega)), bS (puts_s n μ (a := 195) (b := 172) (by decide) (by decide) (by rw [h195]; omega) (by decide) (by decide) (by decide) (by decide) (by omega))]
    dsimp only
    unfold X12_playsOf_22
    rw [i_0]
    have t0 : TD (mvF μ 172 0 195 (25 * (d + 1)) 25) T := TD_o hD (funext (fun k => mvF_o μ (by decide) 25))
    have r0 : ∀ k, k < 25 → (mvF μ 172 0 195 (25 * (d + 1)) 25).1 195 (25 * (d + 1) + k) = nI (T k) := fun k hk => by
      rw [mvF_d, if_pos ⟨by omega, by omega⟩, Nat.add_sub_cancel_left, Nat.zero_add]
      exact hD k hk
    have r1 : ∀ k, 25 * (d + 1) + 25 ≤ k → (mvF μ 172 0 195 (25 * (d + 1)) 25).1 195 k = μ.1 195 k := fun k hk => by
      rw [mvF_d, if_neg (by omega)]
    have hcut : sumF (fun p => if canP T p = true then pyN d (nxB T p) else 0) (2 * T 1) = pyN (d + 1) T := by
      refine (sum_12 b6 (fun x h1 _ => ?_)).symm
      rw [if_neg]
      intro q
      have := canP_lt q
      omega
    generalize mvF μ 172 0 195 (25 * (d + 1)) 25 = μ0 at *
    refine Ok_lp2 (fun f x2 x3 μ' => ∃ p, p ≤ 2 * T 1 ∧ f = 2 * T 1 - p ∧ x3 = nI p ∧ x2 = nI (sumF (fun p => if canP T p = true then pyN d (nxB T p) else 0) p) ∧ TD μ' T ∧ (∀ k, k < 25 → μ'.1 195 (25 * (d + 1) + k) = nI (T k)) ∧ ∀ k, 25 * (d + 1) + 25 ≤ k → μ'.1 195 k = μ.1 195 k) ?_ (2 * T 1) (by omega) ⟨0, by omega, rfl, rfl, rfl, t0, r0, r1⟩
    rintro K2 f x2 x3 μ1 ⟨p, hp, rfl, rfl, rfl, t1, q0, q1⟩ hK2
    unfold X12_playsOf_22b X12_playsOf_69
    rw [bS (pitMany_s n μ1 (t1 1 (by omega)))]
    dsimp only
    rw [ifLe (by omega) (by omega)]
    by_cases c : 2 * T 1 ≤ p
    · obtain rfl : p = 2 * T 1 := by omega
      rw [if_pos c, hcut]
      exact Ok_r ⟨rfl, t1, q1⟩
    · rw [if_neg c]
      refine Ok_b (ask_s n μ1 hW t1 (by omega) hn) ?_
      rintro a μ2 ⟨kr, ha⟩
      dsimp only
      have t2 := KR_TD kr t1
      have e2 : μ2.1 195 = μ1.1 195 := kr.1 195 (by decide) (by decide)
      by_cases hc : canP T p = true
      · rw [if_pos (ha.mpr hc)]
        refine Ok_b (mvP_s n μ2 hT t2 hc hn) ?_
        rintro _ μ3 ⟨t3, k3⟩
        dsimp only
        have e3 : μ3.1 195 = μ2.1 195 := k3.1 195 (by decide) (by decide) (by decide)
        obtain ⟨_, _, _, _, _, _, _, _, _, _, _, w1, re, _⟩ := nxB_d hT hc
        rw [i_1, pk_sub (by omega), Nat.add_sub_cancel, ← hKe]
        refine Ok_b (ih fu (by omega) (by omega) μ3 (nxB T p) w1 t3) ?_
        rintro _ μ4 ⟨rfl, t4, r4⟩
        dsimp only
        rw [bS (gets_s n μ4 (a := 195) (b := 172) (by decide) (by decide) (by rw [h195]; omega) (by decide) (by decide) (by decide) (by decide) (by omega))]
        dsimp only
        rw [nI_add, nI_add]
        have e5 : (mvF μ4 195 (25 * (d + 1)) 172 0 25).1 195 = μ4.1 195 := funext (fun k => mvF_o μ4 (by decide) 25)
        refine hK2 (2 * T 1 - (p + 1)) _ _ _ (by omega) ⟨p + 1, by omega, rfl, rfl, ?_, fun k hk => ?_, fun k hk => ?_, fun k hk => ?_⟩
        · rw [sumF, hc, if_pos rfl]
        · rw [mvF_d, if_pos ⟨by omega, by omega⟩, Nat.sub_zero, r4 _ (by omega), e3, e2]
          exact q0 k hk
        · rw [e5, r4 _ (by omega), e3, e2]
          exact q0 k hk
        · rw [e5, r4 _ (by omega), e3, e2]
          exact q1 k hk
      · rw [if_neg (fun z => hc (ha.mp z)), i_1, nI_add]
        refine hK2 (2 * T 1 - (p + 1)) _ _ _ (by omega) ⟨p + 1, by omega, rfl, rfl, ?_, t2, fun k hk => by rw [e2]; exact q0 k hk, fun k hk => by rw [e2]; exact q1 k hk⟩
        rw [sumF, if_neg hc]
        rfl
theorem call_plays (n : Nat) (μ : Mu) (v : Int32) (h : INV μ) (hn : 1000 < n) : CBx (L_plays n v μ) (X12_plays n v) := by
  obtain ⟨T, hI⟩ := h
  by_cases z : inR v 0 5
  · obtain ⟨d, _, hd, rfl⟩ := inR_d (by decide) (by decide) z
    refine CB_mk (x := .inl (nI (pyN d T))) (k := 0) hI ?_ (fun r e => fr_X11_plays n _ μ r e) (by decide +kernel) (fun μ1 e => ⟨_, by unfold L_plays; rw [e], fun v q => by rw [Sum.inl.inj q], fun e q => nomatch q⟩) (Or.inl ⟨_, rfl⟩) (fun μ1 h1 ag => ?_) (fun μ1 r e => fr_X12_plays n _ μ1 r e) (by decide +kernel)
    · unfold X11_plays
      rw [if_neg (nI_pos (by omega)), i_5, ifLe (by omega) (by decide), if_pos hd]
      obtain ⟨hG, _, hS⟩ := id hI.2.2.1
      unfold X0_countFrom
      rw [kd_of (by decide)]
      refine Ok_b (P := fun a _ => a = nI (pyN d T)) ?_ (fun a μ1 q => by rw [q]; exact Ok_r rfl)
      refine Ok_b (copy_s n μ (o := 155) (o1 := 53) (by decide) (by decide) (by decide) (by decide) (by decide) hS.1 hS.2) ?_
      rintro _ μ1 ⟨q1, q2, q3⟩
      dsimp only
      have g1 : GE μ1 T := GE_o hG.1.1 (q3.1 1 (by omega)) (q3.1 2 (by omega)) (q3.1 3 (by omega))
      have := rowsC_s n hn d 8 0 (by omega) (by omega) μ1 T hI.1 g1 ⟨q1, q2⟩
      rw [Nat.zero_add] at this
      refine Ok_b (x := X0_countRows n (0 : Int32) (nI d) μ1) this ?_
      rintro _ μ2 ⟨rfl, _⟩
      exact Ok_r rfl
    · unfold X12_plays X12_plays_18 X12_plays_37
      rw [bS (within_l n μ1 (b := 5) (y := 5) (by decide) rfl z)]
      dsimp only
      rw [if_neg (show ¬ b2i true = 0 by decide), if_pos th_0]
      obtain ⟨a, μ2, e2, rfl, t2, _⟩ := rowsR_s n hn d 8 (by omega) (by omega) (si μ1 171 5 0) T h1.1 (td_th h1.2.1)
      have e2' : X12_playsOf n (nI d) (si μ1 171 5 0) = some (nI (pyN d T), μ2) := e2
      have ag2 : AG [(171, 171, 5)] (si μ1 171 5 0) μ2 := Fr_ag (fr_X12_playsOf n _ _ _ e2') (by decide +kernel)
      rw [bS e2']
      exact Ok_r ⟨by rw [(ag2.f 171 5 (by decide)).1, si_a], fun v q => Sum.inl.inj q, t2⟩
  · refine CB_mk (x := .inr 1) (k := 1) hI ?_ (fun r e => fr_X11_plays n v μ r e) (by decide +kernel) (fun μ1 e => ⟨μ1, by unfold L_plays; rw [e]; rfl, fun v q => (nomatch q), fun e q => rfl⟩) (Or.inr (by decide)) (fun μ1 h1 ag => ?_) (fun μ1 r e => fr_X12_plays n v μ1 r e) (by decide +kernel)
    · unfold X11_plays X11_plays_9
      by_cases zz : v < 0
      · rw [if_pos zz]; exact Ok_r rfl
      · rw [if_neg zz, i_5, if_neg (fun q => z ⟨Int32.not_lt.mp zz, q⟩)]; exact Ok_r rfl
    · unfold X12_plays X12_plays_18 X12_plays_37
      rw [bS (within_r n μ1 (b := 5) (y := 5) (by decide) rfl z)]
      dsimp only
      rw [if_pos (show b2i false = 0 from rfl), if_neg th_1]
      exact Ok_r ⟨si_a, fun v q => (nomatch q), td_th h1.2.1⟩
