/-! call: soonest -/
def D_xx : List (Nat × Nat × Nat) := (D_now ++ (D_past ++ (D_ci ++ (D_ri ++ [(172, 172, 9999)])))) ++ (D_rdr ++ (D_trs ++ D_img))
theorem INT_x {μ μ' : Mu} {T : Nat → Nat} (h : INT μ T) (g : AG D_xx μ μ') (c : XPL μ') : INT μ' T := by
  obtain ⟨g1, g⟩ := AG_ap g
  obtain ⟨g2, g⟩ := AG_ap g
  obtain ⟨g3, g4⟩ := AG_ap g
  obtain ⟨_, _, _, _, _, _, b1, b2, b3, b4⟩ := id h
  exact INT_but h g1 (RDR_ag b1 g2) c (TRS_ag b3 g3) (IMG_ag b4 g4)
theorem like_s (n : Nat) (μ : Mu) {T T2 : Nat → Nat} {o o2 : Nat} (ho : oK o = 6) (ho2 : oK o2 = 6) (h : SC μ o T) (h2 : SC μ o2 T2) (hT : W1 T) (hT2 : W1 T2) (hn : 1000 < n) : Ok (X6_isLike n o o2 μ) (fun a μ' => μ' = μ ∧ (a = 0 ∨ (a = 1 ∧ T2 2 = T 2 ∧ ∀ k, k < 14 → cT T2 k = cT T k))) := by
  have bd : ∀ T k, W1 T → k < 14 → cT T k < 2 ^ 31 := by
    intro T k hT hk
    have h1 := hT.2.1
    have h2 := hT.2.2.1
    by_cases z : k < 12
    · have : cT T k ≤ sT T := sum_le (c := cT T) 12 k z
      omega
    · have e : cT T k = T (k - 1) := by unfold cT; rw [if_neg z]
      obtain rfl | rfl : k = 12 ∨ k = 13 := by omega
      · rw [e]; show T 11 < _; omega
      · rw [e]; show T 12 < _; omega
  unfold X6_isLike X6_isLike_2
  rw [kd_of ho, kd_of ho2, i_0]
  refine Ok_lp1 (fun f x2 μ' => ∃ i, i ≤ 14 ∧ f = 14 - i ∧ x2 = nI i ∧ μ' = μ ∧ ∀ k, k < i → cT T2 k = cT T k) ?_ 14 (by omega) ⟨0, by omega, rfl, rfl, rfl, fun k q => by omega⟩
  rintro K f x2 μ1 ⟨i, hi, rfl, rfl, rfl, hq⟩ hK
  unfold X6_isLike_2b X6_isLike_47
  rw [i_14, ifLe (by decide) (by omega)]
  by_cases c : 14 ≤ i
  · rw [if_pos c, h.1, h2.1, ifEq (by have := hT.1.2.1; omega) (by have := hT2.1.2.1; omega)]
    by_cases z : T 2 = T2 2
    · rw [if_pos z]
      exact Ok_r ⟨rfl, Or.inr ⟨rfl, z.symm, fun k hk => hq k (by omega)⟩⟩
    · rw [if_neg z]
      exact Ok_r ⟨rfl, Or.inl rfl⟩
  · rw [if_neg c, gd_n (by omega) (by decide), nI_clamp (by omega), h.2 i (by omega), h2.2 i (by omega), ifEq (bd T i hT (by omega)) (bd T2 i hT2 (by omega))]
    by_cases z : cT T i = cT T2 i
    · rw [if_pos z, i_1, nI_add]
      refine hK (14 - (i + 1)) _ _ (by omega) ⟨i + 1, by omega, rfl, rfl, rfl, fun k hk => ?_⟩
      by_cases zz : k = i
      · rw [zz]; exact z.symm
      · exact hq k (by omega)
    · rw [if_neg z]
      exact Ok_r ⟨rfl, Or.inl rfl⟩
theorem key_lt {T : Nat → Nat} (hB : BD T) : keyA T < 2 ^ 31 := by
  have ht := tkC_lt hB
  obtain ⟨a1, a2, a3, a4, a5, a6, a7, a8, a9, a10, _⟩ := hB
  unfold keyA
  omega
/-- what a search leaves -/
def XOK (μ : Mu) (T : Nat → Nat) : Prop := μ.1 25 7 = nI 1 ∧ μ.1 25 5 = nI (keyA T) ∧ SC μ 169 T ∧ SOK μ T
theorem seek37_s (n : Nat) (μ : Mu) {T : Nat → Nat} (hT : W1 T) (hN : NOW μ T) (hn : 1000 < n) : Ok (X0_seekEnd_37 n 53 μ) (fun a μ' => a = μ'.1 25 6 ∧ XPL μ' ∧ SOK μ' T) := by
  obtain ⟨hG, _, hS⟩ := id hN
  unfold X0_seekEnd_37
  rw [bS (key_s n (si μ 25 7 1) hT.1.1 (RR_o hG.1.1.1 (by rw [si_o (by decide)])))]
  dsimp only
  have s1 : SC (si (si μ 25 7 1) 25 5 (nI (keyA T))) 53 T := SC_o hS (by rw [si_o (by decide), si_o (by decide)]) (by rw [si_o (by decide), si_o (by decide)])
  refine Ok_b (copy_s n _ (o := 169) (o1 := 53) (by decide) (by decide) (by decide) (by decide) (by decide) s1.1 s1.2) ?_
  rintro _ μ1 ⟨a1, a2, a3⟩
  dsimp only
  have s2 : SC μ1 53 T := SC_o s1 (a3.1 53 (by omega)) (a3.1 54 (by omega))
  refine Ok_b (copy_s n μ1 (o := 155) (o1 := 53) (by decide) (by decide) (by decide) (by decide) (by decide) s2.1 s2.2) ?_
  rintro _ μ2 ⟨b1, b2, b3⟩
  dsimp only
  have e25 : μ2.1 25 = (si (si μ 25 7 1) 25 5 (nI (keyA T))).1 25 := by rw [b3.1 25 (by omega), a3.1 25 (by omega)]
  have g2 : GE (si μ2 25 6 (-1)) T := GE_o hG.1.1 (by rw [si_o (by decide), b3.1 1 (by omega), a3.1 1 (by omega), si_o (by decide), si_o (by decide)]) (by rw [si_o (by decide), b3.1 2 (by omega), a3.1 2 (by omega), si_o (by decide), si_o (by decide)]) (by rw [si_o (by decide), b3.1 3 (by omega), a3.1 3 (by omega), si_o (by decide), si_o (by decide)])
  unfold X0_seekEnd_78
  rw [i_0]
  refine Ok_lp1 (fun f x2 μ' => ∃ i, i ≤ 7 ∧ f = 7 - i ∧ x2 = nI i ∧ GE μ' T ∧ SC μ' 155 T ∧ SC μ' 169 T ∧ μ'.1 25 7 = nI 1 ∧ μ'.1 25 5 = nI (keyA T) ∧ ((μ'.1 25 6 = -nI 1 ∧ sooN T (7 - i) i = sooP T) ∨ ∃ x, sooP T = some x ∧ μ'.1 25 6 = nI x.1 ∧ x.2.length = x.1 ∧ x.1 ≤ 6 ∧ ∀ i, i < x.1 → ∀ p, x.2[i]? = some p → μ'.1 26 i = nI p)) ?_ 7 (by omega) ⟨0, by omega, rfl, rfl, g2, SC_o ⟨b1, b2⟩ (by rw [si_o (by decide)]) (by rw [si_o (by decide)]), SC_o ⟨a1, a2⟩ (by rw [si_o (by decide), b3.1 169 (by omega)]) (by rw [si_o (by decide), b3.1 170 (by omega)]), by rw [si_c (by decide), e25, si_c (by decide), si_a]; rfl, by rw [si_c (by decide), e25, si_a], Or.inl ⟨si_a, rfl⟩⟩
  rintro K f x2 μ3 ⟨i, hi, rfl, rfl, g3, s3, s9, h7, h5, hor⟩ hK
  have fin : (i = 7 ∨ ¬ μ3.1 25 6 = -nI 1) → Ok (X0_seekEnd_112 n 53 μ3) (fun a μ' => a = μ'.1 25 6 ∧ XPL μ' ∧ SOK μ' T) := by
    intro q
    have hsok : SOK μ3 T := by
      rcases hor with ⟨c1, c2⟩ | ⟨x, x1, x2, x3, x4, x5⟩
      · rcases q with rfl | q
        · have hs : none = sooP T := c2
          exact ⟨fun _ => c1, fun x hx => by rw [← hs] at hx; exact nomatch hx⟩
        · exact absurd c1 q
      · refine ⟨fun z => by rw [x1] at z; exact (nomatch z), fun y hy => ?_⟩
        rw [x1] at hy
        rw [← Option.some.inj hy]
        exact ⟨x2, x3, x4, x5⟩
    unfold X0_seekEnd_112
    exact Ok_r ⟨rfl, Or.inr ⟨h7, T, hT, h5, s9, hsok⟩, hsok⟩
  unfold X0_seekEnd_78b X0_seekEnd_106
  rw [i_6, ifLt (by decide) (by omega)]
  by_cases c : 6 < i
  · rw [if_pos c]
    exact fin (Or.inl (by omega))
  · rw [if_neg c, i_1]
    rcases hor with ⟨c1, c2⟩ | ⟨x, x1, x2, x3, x4, x5⟩
    · rw [if_pos c1]
      have ec := endC_s n hn i 8 0 (by omega) (by omega) μ3 T hT g3 s3
      rw [Nat.zero_add] at ec
      refine Ok_b (x := X0_endsWithin n (0 : Int32) (nI i) μ3) ec ?_
      rintro a μ4 ⟨p1, p2, _, k4⟩
      dsimp only
      obtain ⟨c', hc'⟩ : ∃ c', 7 - i = c' + 1 := ⟨7 - i - 1, by omega⟩
      rw [hc'] at c2
      have g4 := GE_ke g3 k4
      have s4 : SC μ4 155 T := SC_ke (i := 0) (by decide) s3 k4
      have s49 : SC μ4 169 T := SC_o s9 (k4.1 169 (by unfold KE KD RS; omega)) (k4.1 170 (by unfold KE KD RS; omega))
      have e4 : μ4.1 25 = μ3.1 25 := k4.1 25 (by unfold KE KD RS; omega)
      cases he : endP i T with
      | none =>
        rw [p1 he, if_pos rfl, nI_add]
        rw [soo_n he] at c2
        exact hK (7 - (i + 1)) _ _ (by omega) ⟨i + 1, by omega, rfl, rfl, g4, s4, s49, by rw [e4]; exact h7, by rw [e4]; exact h5, Or.inl ⟨by rw [e4]; exact c1, by rw [← c2, show 7 - (i + 1) = c' by omega]⟩⟩
      | some ps =>
        obtain ⟨r1, r2⟩ := p2 ps he
        rw [soo_y he] at c2
        rw [r1, if_neg (show ¬ (1 : Int32) = 0 by decide), nI_add]
        refine hK (7 - (i + 1)) _ _ (by omega) ⟨i + 1, by omega, rfl, rfl, GE_o g4 (by rw [si_o (by decide)]) (by rw [si_o (by decide)]) (by rw [si_o (by decide)]), SC_o s4 (by rw [si_o (by decide)]) (by rw [si_o (by decide)]), SC_o s49 (by rw [si_o (by decide)]) (by rw [si_o (by decide)]), by rw [si_c (by decide), e4]; exact h7, by rw [si_c (by decide), e4]; exact h5, Or.inr ⟨(i, ps), c2.symm, si_a, end_len i T ps he, by show i ≤ 6; omega, fun j _ p hp => ?_⟩⟩
        rw [si_b (by decide)]
        have := r2 j p hp
        rw [Nat.zero_add] at this
        exact this
    · rw [x2, if_neg (fun z => (eq_m1 (by omega)).mp z)]
      exact fin (Or.inr (by rw [x2]; exact fun z => (eq_m1 (by omega)).mp z))
theorem seek_s (n : Nat) (μ : Mu) {T : Nat → Nat} (hI : INT μ T) (hn : 1000 < n) : Ok (X0_seekEnd n 53 μ) (fun a μ' => a = μ'.1 25 6 ∧ XPL μ' ∧ SOK μ' T) := by
  have hT := hI.1
  have hN := hI.2.2.1
  have hx : XPL μ := hI.2.2.2.2.2.2.2.1
  unfold X0_seekEnd
  rw [kd_of (by decide)]
  rcases id hx with h7 | ⟨h7, T0, w0, h5, s9, sok⟩
  · rw [h7, if_pos (show nI 0 = 0 from rfl)]
    exact seek37_s n μ hT hN hn
  · rw [h7, if_neg (show ¬ nI 1 = 0 by decide), bS (key_s n μ hT.1.1 hN.1.1.1.1)]
    dsimp only
    rw [h5]
    by_cases z : nI (keyA T0) = nI (keyA T)
    · rw [if_pos z]
      refine Ok_b (like_s n μ (by decide) (by decide) s9 hN.2.2 w0 hT hn) ?_
      rintro a μ1 ⟨rfl, q⟩
      dsimp only
      rcases q with q | ⟨q, q1, q2⟩
      · rw [q, if_pos rfl]
        exact seek37_s n μ1 hT hN hn
      · rw [q, if_neg (show ¬ (1 : Int32) = 0 by decide)]
        have ke : keyA T0 = keyA T := (nI_eq (key_lt w0.1.1) (key_lt hT.1.1)).mp z
        have sb : SB T0 T := ⟨(key_re hT.1.1 w0.1.1 ke).sy, q1, fun p hp => q2 p (by omega)⟩
        have so := soo_sb w0.1 sb
        refine Ok_r ⟨rfl, hx, ?_⟩
        unfold SOK
        rw [so]
        exact sok
    · rw [if_neg z]
      exact seek37_s n μ hT hN hn
def soA (T : Nat → Nat) (v : Int32) : Int32 := match sooP T with
  | none => -1
  | some x => if v = -1 then nI x.1 else if v < 0 then -1 else (match x.2[v.toNatClampNeg]? with
    | none => -1
    | some p => nI p)
theorem soA_0 {T : Nat → Nat} {v : Int32} (h : sooP T = none) : soA T v = -1 := by unfold soA; rw [h]
theorem soA_1 {T : Nat → Nat} {v : Int32} {x : Nat × List Nat} (h : sooP T = some x) : soA T v = if v = -1 then nI x.1 else if v < 0 then -1 else (match x.2[v.toNatClampNeg]? with
    | none => -1
    | some p => nI p) := by unfold soA; rw [h]
theorem soC_s (n : Nat) (μ : Mu) {T : Nat → Nat} {v : Int32} (hI : INT μ T) (hn : 1000 < n) : Ok (X11_soonest n v μ) (fun a μ' => a = soA T v ∧ XPL μ') := by
  unfold X11_soonest X11_soonest_40 X11_soonest_41
  refine Ok_b (seek_s n μ hI hn) ?_
  rintro a μ1 ⟨rfl, hx, k1, k2⟩
  dsimp only
  by_cases z1 : v = -1
  · rw [if_pos z1]
    refine Ok_r ⟨?_, hx⟩
    cases hs : sooP T with
    | none => rw [k1 hs, soA_0 hs]; rfl
    | some x => rw [(k2 x hs).1, soA_1 hs, if_pos z1]
  · rw [if_neg z1]
    by_cases z0 : v < 0
    · rw [if_pos z0]
      refine Ok_r ⟨?_, hx⟩
      cases hs : sooP T with
      | none => rw [soA_0 hs]
      | some x => rw [soA_1 hs, if_neg z1, if_pos z0]
    · rw [if_neg z0]
      obtain ⟨m, hm, rfl⟩ := nn_d z0
      cases hs : sooP T with
      | none =>
        rw [k1 hs, soA_0 hs, if_pos (by rw [Int32.le_iff_toInt_le, nI_toInt hm, m1_int]; omega)]
        exact Ok_r ⟨rfl, hx⟩
      | some x =>
        obtain ⟨y1, y2, y3, y4⟩ := k2 x hs
        rw [y1, soA_1 hs, if_neg z1, if_neg z0, nI_clamp hm, ifLe (by omega) hm]
        by_cases c : x.1 ≤ m
        · rw [if_pos c]
          refine Ok_r ⟨?_, hx⟩
          rw [List.getElem?_eq_none (by omega)]
        · have hlt : m < x.2.length := by omega
          rw [if_neg c, gd_n (by omega) (by decide), y4 m (by omega) _ (List.getElem?_eq_getElem hlt), List.getElem?_eq_getElem hlt]
          exact Ok_r ⟨rfl, hx⟩
theorem so_w : ∀ f, f ≤ 6 → (nI f - (1 : Int32)).toInt64 = lN f - 1 := by decide
theorem soR_s (n : Nat) (μ : Mu) {T : Nat → Nat} {v : Int32} (hT : W1 T) (hD : TD μ T) (hn : 1000 < n) : Ok (X12_soonest n v μ) (fun a μ' => a = soA T v ∧ TD μ' T) := by
  unfold X12_soonest X12_soonest_7
  rw [show (0 : Int32) = nI 0 from rfl]
  refine Ok_lp1 (fun f x2 μ' => ∃ i, i ≤ 7 ∧ f = 7 - i ∧ x2 = nI i ∧ TD μ' T ∧ sooN T (7 - i) i = sooP T) ?_ 7 (by omega) ⟨0, by omega, rfl, rfl, td_th hD, rfl⟩
  rintro K f x2 μ1 ⟨i, hi, rfl, rfl, t1, c2⟩ hK
  unfold X12_soonest_7b X12_soonest_55
  rw [i_6, ifLt (by decide) (by omega)]
  by_cases c : 6 < i
  · obtain rfl : i = 7 := by omega
    rw [if_pos c]
    have hs : none = sooP T := c2
    exact Ok_r ⟨(soA_0 hs.symm).symm, t1⟩
  · rw [if_neg c]
    obtain ⟨c', hc'⟩ : ∃ c', 7 - i = c' + 1 := ⟨7 - i - 1, by omega⟩
    rw [hc'] at c2
    refine Ok_b (x := X12_ends n (nI i) μ1) (endR_s n hn i 8 (by omega) (by omega) μ1 T hT t1) ?_
    rintro a μ2 ⟨p1, p2, t2, _⟩
    dsimp only
    cases he : endP i T with
    | none =>
      rw [p1 he, if_pos rfl, i_1, nI_add]
      rw [soo_n he] at c2
      exact hK (7 - (i + 1)) _ _ (by omega) ⟨i + 1, by omega, rfl, rfl, t2, by rw [← c2, show 7 - (i + 1) = c' by omega]⟩
    | some ps =>
      obtain ⟨r1, r2⟩ := p2 ps he
      have hl := end_len i T ps he
      rw [soo_y he] at c2
      rw [r1, if_neg (show ¬ (1 : Int32) = 0 by decide), soA_1 c2.symm]
      by_cases z1 : v = -1
      · rw [if_pos z1, if_pos z1]
        exact Ok_r ⟨rfl, t2⟩
      · rw [if_neg z1, if_neg z1, so_w i (by omega)]
        obtain ⟨w1, w2⟩ := within_lt n μ2 v (M := i) (by omega)
        by_cases zw : ∃ j, j < i ∧ v = nI j
        · rw [bS (w1 zw)]
          obtain ⟨j, hj, rfl⟩ := zw
          have hlt : j < ps.length := by omega
          dsimp only
          rw [if_neg (show ¬ b2i true = 0 by decide), if_neg (nI_pos (by omega)), pk_sub (by omega), gd_n (by omega) (by decide), nI_clamp (by omega), nI_clamp (by omega), r2 j _ (List.getElem?_eq_getElem hlt), List.getElem?_eq_getElem hlt]
          exact Ok_r ⟨rfl, t2⟩
        · rw [bS (w2 zw)]
          dsimp only
          rw [if_pos (show b2i false = 0 from rfl)]
          refine Ok_r ⟨?_, t2⟩
          by_cases z0 : v < 0
          · rw [if_pos z0]
          · rw [if_neg z0]
            obtain ⟨m, hm, rfl⟩ := nn_d z0
            have : i ≤ m := by
              by_cases q : i ≤ m
              · exact q
              · exact absurd ⟨m, by omega, rfl⟩ zw
            rw [nI_clamp hm, List.getElem?_eq_none (by omega)]
theorem call_soonest (n : Nat) (μ : Mu) (v : Int32) (h : INV μ) (hn : 1000 < n) : CAx (X11_soonest n v μ) (X12_soonest n v) := by
  obtain ⟨T, hI⟩ := h
  obtain ⟨a, μ1, e1, rfl, x1⟩ := soC_s n μ (v := v) hI hn
  have h1 : INT μ1 T := INT_x hI (Fr_ag (fr_X11_soonest n v μ _ e1) (by decide +kernel)) x1
  obtain ⟨b, μ2, e2, rfl, t2⟩ := soR_s n μ1 (v := v) h1.1 h1.2.1 hn
  exact ⟨_, μ1, μ2, e1, e2, T, INT_all h1 (Fr_ag (fr_X12_soonest n v μ1 _ e2) (by decide +kernel)) t2⟩
