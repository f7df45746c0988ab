/-! call: forced -/
theorem only_s (n : Nat) (μ : Mu) {T : Nat → Nat} (hW : WF T) (hT : TD μ T) (hn : 1000 < n) : Ok (X12_only n μ) (fun a μ' => a = oI (onP T) ∧ KR μ μ') := by
  have b6 := hW.1.2.1
  unfold X12_only X12_only_4
  rw [i_0, i_1]
  refine Ok_lp2 (fun f x1 x2 μ' => ∃ p r, p ≤ 2 * T 1 ∧ f = 2 * T 1 - p ∧ x2 = nI p ∧ x1 = oI r ∧ KR μ μ' ∧ ((r = none ∧ ∀ q, q < p → canP T q = false) ∨ ∃ q, r = some q ∧ q < p ∧ canP T q = true ∧ ∀ q', q' < p → q' ≠ q → canP T q' = false)) ?_ (2 * T 1) (by omega) ⟨0, none, by omega, rfl, rfl, rfl, KR.rf, Or.inl ⟨rfl, fun q h => by omega⟩⟩
  rintro K f x1 x2 μ1 ⟨p, r, hp, rfl, rfl, rfl, k1, hor⟩ hK
  have t1 := KR_TD k1 hT
  have far : ∀ q, 2 * T 1 ≤ q → canP T q = false := fun q hq => by
    cases e : canP T q with
    | false => rfl
    | true => have := canP_lt e; omega
  unfold X12_only_4b X12_only_32
  rw [bS (pitMany_s n μ1 (t1 1 (by omega)))]
  dsimp only
  rw [ifLe (by omega) (by omega)]
  by_cases c : 2 * T 1 ≤ p
  · obtain rfl : p = 2 * T 1 := by omega
    rw [if_pos c]
    refine Ok_r ⟨?_, k1⟩
    rcases hor with ⟨rfl, h⟩ | ⟨q, rfl, h1, h2, h3⟩
    · have : ncP T = 0 := nc_no (fun q hq => by
        by_cases z : q < 2 * T 1
        · exact h q z
        · exact far q (by omega))
      unfold onP
      rw [if_neg (by omega)]
    · obtain ⟨y1, y2⟩ := nc_one (q := q) (by omega) h2 (fun q' hq' hne => by
        by_cases z : q' < 2 * T 1
        · exact h3 q' z hne
        · exact far q' (by omega))
      unfold onP
      rw [if_pos y1, y2]
  · rw [if_neg c]
    refine Ok_b (ask_s n μ1 hW t1 (by omega) hn) ?_
    rintro a μ2 ⟨kr, ha⟩
    dsimp only
    cases hc : canP T p with
    | false =>
      rw [if_neg (fun q => by rw [ha.mp q] at hc; exact Bool.noConfusion hc), i_1, nI_add]
      refine hK (2 * T 1 - (p + 1)) _ _ _ (by omega) ⟨p + 1, r, by omega, rfl, rfl, rfl, k1.tr kr, ?_⟩
      rcases hor with ⟨rfl, h⟩ | ⟨q, rfl, h1, h2, h3⟩
      · refine Or.inl ⟨rfl, fun q hq => ?_⟩
        by_cases z : q = p
        · rw [z]; exact hc
        · exact h q (by omega)
      · refine Or.inr ⟨q, rfl, by omega, h2, fun q' hq' hne => ?_⟩
        by_cases z : q' = p
        · rw [z]; exact hc
        · exact h3 q' (by omega) hne
    | true =>
      rw [if_pos (ha.mpr hc), i_1, nI_add]
      rcases hor with ⟨rfl, h⟩ | ⟨q, rfl, h1, h2, h3⟩
      · rw [if_pos (show oI none = -nI 1 from rfl)]
        exact hK (2 * T 1 - (p + 1)) _ _ _ (by omega) ⟨p + 1, some p, by omega, rfl, rfl, rfl, k1.tr kr, Or.inr ⟨p, rfl, by omega, hc, fun q' hq' hne => h q' (by omega)⟩⟩
      · rw [oI_s, if_neg (fun z => (eq_m1 (by omega)).mp z)]
        refine Ok_r ⟨?_, k1.tr kr⟩
        unfold onP
        rw [if_neg (nc_two (show q < p by omega) (by omega) h2 hc)]
        rfl
theorem KM_td {μ μ' : Mu} {T : Nat → Nat} (sv : ∀ k, k < 25 → μ.1 175 k = nI (T k)) (k : KM μ μ') : ∀ j, j < 25 → μ'.1 175 j = nI (T j) := fun j hj => by rw [k.1 175 (by decide) (by decide) (by decide)]; exact sv j hj
/-- the reference moves by a pit -/
theorem mvP_s (n : Nat) (μ : Mu) {T : Nat → Nat} {p : Nat} (hT : W1 T) (hD : TD μ T) (hp : canP T p = true) (hn : 1000 < n) : Ok (X12_moves n (nI p) μ) (fun _ μ' => TD μ' (nxB T p) ∧ KM μ μ') := by
  obtain ⟨w, l, kk, t, c', hw, rfl, hc, hf, hm, e, _⟩ := nxB_d hT hp
  rw [← cI_own2 hw]
  refine Ok_m (moves_s n μ hT.1 hD hw hf hm hn) ?_
  rintro a μ' ⟨_, t, k⟩
  rw [cI_own2 hw, e]
  exact ⟨t, k⟩
/-- told is put back -/
theorem back_s (n : Nat) (μ : Mu) {T : Nat → Nat} (sv : ∀ k, k < 25 → μ.1 175 k = nI (T k)) (hn : 1000 < n) : X12_copies n 175 172 μ = some ((), mvF μ 175 0 172 0 25) ∧ TD (mvF μ 175 0 172 0 25) T ∧ (mvF μ 175 0 172 0 25).1 171 = μ.1 171 := by
  refine ⟨copies_s n μ (by decide) (by decide) (by decide) (by decide) (by decide) (by decide) (by decide) (by omega), fun k hk => ?_, funext (fun k => mvF_o μ (by decide) 25)⟩
  rw [mvF_d, if_pos ⟨Nat.zero_le _, by omega⟩, Nat.sub_zero, Nat.zero_add]
  exact sv k hk
theorem save_s (n : Nat) (μ : Mu) {T : Nat → Nat} (hT : TD μ T) (hn : 1000 < n) : X12_copies n 172 175 μ = some ((), mvF μ 172 0 175 0 25) ∧ TD (mvF μ 172 0 175 0 25) T ∧ (∀ k, k < 25 → (mvF μ 172 0 175 0 25).1 175 k = nI (T k)) ∧ (∀ o, o ≠ 175 → (mvF μ 172 0 175 0 25).1 o = μ.1 o) := by
  refine ⟨copies_s n μ (by decide) (by decide) (by decide) (by decide) (by decide) (by decide) (by decide) (by omega), TD_o hT (funext (fun k => mvF_o μ (by decide) 25)), fun k hk => ?_, fun o ho => funext (fun k => mvF_o μ ho 25)⟩
  rw [mvF_d, if_pos ⟨Nat.zero_le _, by omega⟩, Nat.sub_zero, Nat.zero_add]
  exact hT k hk
theorem forcedR_s (n : Nat) (μ : Mu) {T : Nat → Nat} (hT : W1 T) (hD : TD μ T) (hn : 1000 < n) : Ok (X12_forced n μ) (fun a μ' => a = nI (fcF 60 T) ∧ TD μ' T) := by
  unfold X12_forced
  obtain ⟨e1, t1, s1, o1⟩ := save_s n (si μ 171 5 0) (td_th (v := 0) hD) hn
  rw [bS e1]
  dsimp only
  unfold X12_forced_18
  rw [i_0]
  refine Ok_lp1 (fun f x1 μ' => ∃ i Tc, i ≤ 60 ∧ f = 60 - i ∧ x1 = nI i ∧ W1 Tc ∧ TD μ' Tc ∧ (∀ k, k < 25 → μ'.1 175 k = nI (T k)) ∧ i + fcF (60 - i) Tc = fcF 60 T) ?_ 60 (by omega) ⟨0, T, by omega, rfl, rfl, hT, t1, s1, Nat.zero_add _⟩
  rintro K f x1 μ2 ⟨i, Tc, hi, rfl, rfl, hTc, t2, sv, hf⟩ hK
  have fin : ∀ μ3, (∀ k, k < 25 → μ3.1 175 k = nI (T k)) → i = fcF 60 T → Ok (X12_forced_47 n (nI i) μ3) (fun a μ' => a = nI (fcF 60 T) ∧ TD μ' T) := by
    intro μ3 sv3 e
    unfold X12_forced_47
    obtain ⟨b1, b2, _⟩ := back_s n μ3 sv3 hn
    rw [bS b1]
    exact Ok_r ⟨by rw [e], b2⟩
  unfold X12_forced_18b
  rw [i_60, ifLe (by decide) (by omega)]
  by_cases c : 60 ≤ i
  · obtain rfl : i = 60 := by omega
    rw [if_pos c]
    exact fin μ2 sv (by rw [← hf]; rfl)
  · obtain ⟨c', hc'⟩ : ∃ c', 60 - i = c' + 1 := ⟨60 - i - 1, by omega⟩
    rw [if_neg c]
    refine Ok_b (only_s n μ2 hTc.1 t2 hn) ?_
    rintro _ μ3 ⟨rfl, k3⟩
    dsimp only
    have sv3 := KM_td sv k3.km
    have t3 := KR_TD k3 t2
    cases ho : onP Tc with
    | none =>
      rw [i_1, if_pos (show oI none = -nI 1 from rfl)]
      exact fin μ3 sv3 (by rw [← hf, hc', fcF, ho]; rfl)
    | some p =>
      obtain ⟨n1, n2, n3, n4⟩ := on_t ho
      obtain ⟨_, _, _, _, _, _, _, _, _, _, _, w1, re, _⟩ := nxB_d hTc n2
      rw [i_1, oI_s, if_neg (fun z => (eq_m1 (by omega)).mp z)]
      refine Ok_b (only_s n μ3 hTc.1 t3 hn) ?_
      rintro _ μ4 ⟨rfl, k4⟩
      dsimp only
      rw [ho, oI_s]
      refine Ok_b (mvP_s n μ4 hTc (KR_TD k4 t3) n2 hn) ?_
      rintro _ μ5 ⟨t5, k5⟩
      dsimp only
      rw [nI_add]
      refine hK (60 - (i + 1)) _ _ (by omega) ⟨i + 1, nxB Tc p, by omega, rfl, rfl, w1, t5, KM_td (KM_td sv3 k4.km) k5, ?_⟩
      rw [← hf, hc', fcF, ho, show 60 - (i + 1) = c' by omega]
      dsimp only
      omega
theorem call_forced (n : Nat) (μ : Mu) (h : INV μ) (hn : 1000 < n) : CAx (X11_forced n μ) (X12_forced n) := by
  obtain ⟨T, hI⟩ := h
  exact CA_mk (v := nI (fcF 60 T)) hI (forcedC_s n μ hI.1 hI.2.2.1 hn) (fun r e => fr_X11_forced n μ r e) (by decide +kernel) (fun μ1 h1 ag => forcedR_s n μ1 h1.1 h1.2.1 hn) (fun μ1 r e => fr_X12_forced n μ1 r e) (by decide +kernel)
