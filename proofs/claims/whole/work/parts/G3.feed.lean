/-! call: feed -/
def byN (v : Int32) (j : Nat) : Nat := v.toBitVec.toNat / 2 ^ (24 - 8 * j) % 256
theorem by_lt (v : Int32) (j : Nat) : byN v j < 256 := Nat.mod_lt _ (by decide)
theorem by_e (v : Int32) {j : Nat} (hj : j < 4) : ((v.toUInt32 >>> ((nI (24 - 8 * j)).toUInt32 &&& Int32.toUInt32 31)).toInt32) &&& (255 : Int32) = nI (byN v j) := by
  have h := pk_ushrN (n := v.toBitVec.toNat) v.toBitVec.isLt (nI (24 - 8 * j)) (24 - 8 * j) (ush_l _ (by omega))
  rw [nI_bv] at h
  rw [h, pk_andN (Nat.lt_of_le_of_lt (Nat.div_le_self _ _) v.toBitVec.isLt) 8 (by decide)]
  rfl
theorem append_s (n : Nat) (μ : Mu) (v : Int32) {z : Nat} (hz : z + 4 ≤ 500) (h : μ.1 12 4 = nI z) (hn : 1000 < n) : Ok (X4_append n v μ) (fun _ μ' => μ'.1 12 4 = nI (z + 4) ∧ (∀ i, i < z → μ'.1 14 i = μ.1 14 i) ∧ ∀ j, j < 4 → μ'.1 14 (z + j) = nI (byN v j)) := by
  unfold X4_append X4_append_3
  refine Ok_lp1 (fun f x2 μ' => ∃ j, j ≤ 4 ∧ f = 4 - j ∧ x2 = iv (24 - 8 * (j : Int)) ∧ μ'.1 12 4 = nI (z + j) ∧ (∀ i, i < z → μ'.1 14 i = μ.1 14 i) ∧ ∀ i, i < j → μ'.1 14 (z + i) = nI (byN v i)) ?_ 4 (by omega) ⟨0, by omega, rfl, by decide, h, fun _ _ => rfl, fun i q => by omega⟩
  rintro K f x2 μ1 ⟨j, hj, rfl, rfl, h4, hl, hb⟩ hK
  unfold X4_append_3b X4_append_49
  rw [show (0 : Int32) = iv 0 from by decide, ifIff (iv_lt (by omega) (by omega) (by omega) (by omega))]
  by_cases c : j = 4
  · subst c
    rw [if_pos (by omega)]
    exact Ok_r ⟨h4, hl, hb⟩
  · have e1 : iv (24 - 8 * (j : Int)) = nI (24 - 8 * j) := by rw [iv_n]; congr 1; omega
    rw [if_neg (by omega), h4, i_500, ifLe (by decide) (by omega), if_neg (by omega), gd_n (by omega) (by decide), nI_clamp (by omega), si_b (by decide), h4, i_1, nI_add]
    have e2 : iv (24 - 8 * (j : Int)) + (-8) = iv (24 - 8 * ((j + 1 : Nat) : Int)) := by rw [show (-8 : Int32) = iv (-8) by decide, iv_add]; congr 1; omega
    rw [e2]
    refine hK (4 - (j + 1)) _ _ (by omega) ⟨j + 1, by omega, rfl, rfl, si_a, fun i hi => ?_, fun i hi => ?_⟩
    · rw [si_b (by decide), si_c (by omega)]
      exact hl i hi
    · rw [si_b (by decide)]
      by_cases z2 : i = j
      · rw [z2, si_a, e1, by_e v (by omega)]
      · rw [si_c (by omega)]
        exact hb i (by omega)
def wdI (v1 v2 v3 v4 v5 : Int32) (k : Nat) : Int32 := if k = 0 then v1 else if k = 1 then v2 else if k = 2 then v3 else if k = 3 then v4 else v5
theorem fd_sh : ∀ i, i < 20 → (24 : Int32) - (8 : Int32) * (nI i &&& (3 : Int32)) = nI (24 - 8 * (i % 4)) := by decide
theorem feedC_s (n : Nat) (μ : Mu) (v1 v2 v3 v4 v5 : Int32) {z : Nat} (hz : z + 20 ≤ 500) (h : μ.1 12 4 = nI z) (hn : 1000 < n) : Ok (X11_feed n v1 v2 v3 v4 v5 μ) (fun a μ' => a = nI (z + 20) ∧ μ'.1 12 4 = nI (z + 20) ∧ (∀ i, i < z → μ'.1 14 i = μ.1 14 i) ∧ ∀ i, i < 20 → μ'.1 14 (z + i) = nI (byN (wdI v1 v2 v3 v4 v5 (i / 4)) (i % 4))) := by
  have st : ∀ k μ1, k < 5 → (μ1.1 12 4 = nI (z + 4 * k) ∧ (∀ i, i < z → μ1.1 14 i = μ.1 14 i) ∧ ∀ i, i < 4 * k → μ1.1 14 (z + i) = nI (byN (wdI v1 v2 v3 v4 v5 (i / 4)) (i % 4))) → Ok (X4_append n (wdI v1 v2 v3 v4 v5 k) μ1) (fun _ μ' => μ'.1 12 4 = nI (z + 4 * (k + 1)) ∧ (∀ i, i < z → μ'.1 14 i = μ.1 14 i) ∧ ∀ i, i < 4 * (k + 1) → μ'.1 14 (z + i) = nI (byN (wdI v1 v2 v3 v4 v5 (i / 4)) (i % 4))) := by
    rintro k μ1 hk ⟨a1, a2, a3⟩
    refine Ok_m (append_s n μ1 _ (z := z + 4 * k) (by omega) a1 hn) ?_
    rintro _ μ2 ⟨b1, b2, b3⟩
    refine ⟨by rw [b1, show z + 4 * k + 4 = z + 4 * (k + 1) by omega], fun i hi => by rw [b2 i (by omega)]; exact a2 i hi, fun i hi => ?_⟩
    by_cases c : i < 4 * k
    · rw [b2 _ (by omega)]; exact a3 i c
    · have := b3 (i - 4 * k) (by omega)
      rw [show z + 4 * k + (i - 4 * k) = z + i by omega] at this
      rw [this, show i / 4 = k by omega, show i % 4 = i - 4 * k by omega]
  unfold X11_feed
  rw [h, i_20, nI_add, i_500, ifLe (by omega) (by decide), if_pos hz]
  refine Ok_b (st 0 μ (by omega) ⟨h, fun _ _ => rfl, fun i q => by omega⟩) ?_
  rintro _ μ1 q1
  refine Ok_b (st 1 μ1 (by omega) q1) ?_
  rintro _ μ2 q2
  refine Ok_b (st 2 μ2 (by omega) q2) ?_
  rintro _ μ3 q3
  refine Ok_b (st 3 μ3 (by omega) q3) ?_
  rintro _ μ4 q4
  refine Ok_b (st 4 μ4 (by omega) q4) ?_
  rintro _ μ5 ⟨c1, c2, c3⟩
  exact Ok_r ⟨c1, c1, c2, c3⟩
theorem feedR_s (n : Nat) (μ : Mu) (v1 v2 v3 v4 v5 : Int32) {z : Nat} (hz : z + 20 ≤ 500) (h : μ.1 171 7 = nI z) (hn : 1000 < n) : Ok (X12_feed n v1 v2 v3 v4 v5 μ) (fun a μ' => a = nI (z + 20) ∧ μ'.1 171 7 = nI (z + 20) ∧ (∀ i, i < z → μ'.1 177 i = μ.1 177 i) ∧ ∀ i, i < 20 → μ'.1 177 (z + i) = nI (byN (wdI v1 v2 v3 v4 v5 (i / 4)) (i % 4))) := by
  unfold X12_feed X12_feed_23
  have h0 : (si μ 171 5 0).1 171 7 = nI z := by rw [si_c (by decide)]; exact h
  rw [h0, i_20, nI_add, i_500, ifLe (by omega) (by decide), if_pos hz, show (0 : Int32) = nI 0 from rfl]
  refine Ok_lp1 (fun f x6 μ' => ∃ j, j ≤ 20 ∧ f = 20 - j ∧ x6 = nI j ∧ μ'.1 171 7 = nI (z + j) ∧ (∀ i, i < z → μ'.1 177 i = μ.1 177 i) ∧ ∀ i, i < j → μ'.1 177 (z + i) = nI (byN (wdI v1 v2 v3 v4 v5 (i / 4)) (i % 4))) ?_ 20 (by omega) ⟨0, by omega, rfl, rfl, h0, fun i _ => by rw [si_b (by decide)], fun i q => by omega⟩
  rintro K f x6 μ1 ⟨j, hj, rfl, rfl, h7, hl, hb⟩ hK
  unfold X12_feed_23b
  rw [i_20, ifLe (by decide) (by omega)]
  by_cases c : 20 ≤ j
  · obtain rfl : j = 20 := by omega
    rw [if_pos c]
    exact Ok_r ⟨h7, h7, hl, hb⟩
  · rw [if_neg c]
    have key : ∀ w : Int32, w = wdI v1 v2 v3 v4 v5 (j / 4) → Ok (X12_feed_76 n v1 v2 v3 v4 v5 K (nI j) w μ1) (fun a μ' => a = nI (z + 20) ∧ μ'.1 171 7 = nI (z + 20) ∧ (∀ i, i < z → μ'.1 177 i = μ.1 177 i) ∧ ∀ i, i < 20 → μ'.1 177 (z + i) = nI (byN (wdI v1 v2 v3 v4 v5 (i / 4)) (i % 4))) := by
      intro w hw
      unfold X12_feed_76
      rw [fd_sh j (by omega), by_e w (by omega), h7, gd_n (by omega) (by decide), nI_clamp (by omega), si_b (by decide), h7, i_1, nI_add, nI_add]
      refine hK (20 - (j + 1)) _ _ (by omega) ⟨j + 1, by omega, rfl, rfl, si_a, fun i hi => ?_, fun i hi => ?_⟩
      · rw [si_b (by decide), si_c (by omega)]
        exact hl i hi
      · rw [si_b (by decide)]
        by_cases z2 : i = j
        · rw [z2, si_a, hw]
        · rw [si_c (by omega)]
          exact hb i (by omega)
    rw [i_4, i_8, i_12, i_16, ifLe (by decide) (by omega), ifLe (by decide) (by omega), ifLe (by decide) (by omega), ifLe (by decide) (by omega)]
    by_cases c1 : 4 ≤ j
    · rw [if_pos c1]
      by_cases c2 : 8 ≤ j
      · rw [if_pos c2]
        by_cases c3 : 12 ≤ j
        · rw [if_pos c3]
          by_cases c4 : 16 ≤ j
          · rw [if_pos c4]; exact key v5 (by rw [show j / 4 = 4 by omega]; rfl)
          · rw [if_neg c4]; exact key v4 (by rw [show j / 4 = 3 by omega]; rfl)
        · rw [if_neg c3]; exact key v3 (by rw [show j / 4 = 2 by omega]; rfl)
      · rw [if_neg c2]; exact key v2 (by rw [show j / 4 = 1 by omega]; rfl)
    · rw [if_neg c1]; exact key v1 (by rw [show j / 4 = 0 by omega]; rfl)
def D_xr : List (Nat × Nat × Nat) := (D_now ++ (D_past ++ (D_ci ++ (D_ri ++ [(172, 172, 9999)])))) ++ (D_xpl ++ (D_trs ++ D_img))
theorem INT_r {μ μ' : Mu} {T : Nat → Nat} (h : INT μ T) (g : AG D_xr μ μ') (c : RDR μ') : INT μ' T := by
  obtain ⟨g1, g⟩ := AG_ap g
  obtain ⟨g2, g⟩ := AG_ap g
  obtain ⟨g3, g4⟩ := AG_ap g
  obtain ⟨_, _, _, _, _, _, b1, b2, b3, b4⟩ := id h
  exact INT_but h g1 c (XPL_ag b2 g2) (TRS_ag b3 g3) (IMG_ag b4 g4)
theorem call_feed (n : Nat) (μ : Mu) (v1 v2 v3 v4 v5 : Int32) (h : INV μ) (hn : 1000 < n) : CAx (X11_feed n v1 v2 v3 v4 v5 μ) (X12_feed n v1 v2 v3 v4 v5) := by
  obtain ⟨T, hI⟩ := h
  obtain ⟨⟨z, z1, z2, z3, z4⟩, f2, f3⟩ := id hI.2.2.2.2.2.2.1
  by_cases c : z + 20 ≤ 500
  · obtain ⟨a, μ1, e1, rfl, a1, a2, a3⟩ := feedC_s n μ v1 v2 v3 v4 v5 c z2 hn
    have ag1 : AG (D_xr ++ [(12, 12, 2), (12, 12, 3), (171, 171, 7), (171, 171, 15), (171, 171, 16), (177, 177, 9999)]) μ μ1 := Fr_ag (fr_X11_feed n _ _ _ _ _ μ _ e1) (by decide +kernel)
    obtain ⟨x1, y1⟩ := AG_ap ag1
    obtain ⟨b, μ2, e2, rfl, b1, b2, b3⟩ := feedR_s n μ1 v1 v2 v3 v4 v5 c (by rw [(y1.f 171 7 (by decide)).1]; exact z3) hn
    have ag2 : AG (D_xr ++ [(12, 12, 2), (12, 12, 3), (12, 12, 4), (14, 14, 9999), (171, 171, 15), (171, 171, 16)]) μ1 μ2 := Fr_ag (fr_X12_feed n _ _ _ _ _ μ1 _ e2) (by decide +kernel)
    obtain ⟨x2, y2⟩ := AG_ap ag2
    have e14 : μ2.1 14 = μ1.1 14 := (y2.o 14 14 14 (by decide) (by decide) (by decide)).1
    have e177 : μ1.1 177 = μ.1 177 := (y1.o 177 177 177 (by decide) (by decide) (by decide)).1
    refine ⟨_, μ1, μ2, e1, e2, T, INT_r hI (x1.tr x2) ⟨⟨z + 20, c, by rw [(y2.f 12 4 (by decide)).1]; exact a1, b1, fun i hi => ?_⟩, ?_, ?_⟩⟩
    · by_cases q : i < z
      · obtain ⟨x, p1, p2, p3⟩ := z4 i q
        exact ⟨x, p1, by rw [e14, a2 i q]; exact p2, by rw [b2 i q, e177]; exact p3⟩
      · have t1 := a3 (i - z) (by omega)
        have t2 := b3 (i - z) (by omega)
        rw [show z + (i - z) = i by omega] at t1 t2
        exact ⟨_, by_lt _ _, by rw [e14]; exact t1, t2⟩
    · rw [(y2.f 12 2 (by decide)).1, (y2.f 171 15 (by decide)).1, (y1.f 12 2 (by decide)).1, (y1.f 171 15 (by decide)).1]; exact f2
    · rw [(y2.f 12 3 (by decide)).1, (y2.f 171 16 (by decide)).1, (y1.f 12 3 (by decide)).1, (y1.f 171 16 (by decide)).1]; exact f3
  · refine ⟨-1, μ, si μ 171 5 0, ?_, ?_, T, INT_td hI (Fr_ag th_fr (by decide +kernel))⟩
    · unfold X11_feed
      rw [z2, i_20, nI_add, i_500, ifLe (by omega) (by decide), if_neg c]
    · unfold X12_feed
      rw [si_c (by decide), z3, i_20, nI_add, i_500, ifLe (by omega) (by decide), if_neg c]
