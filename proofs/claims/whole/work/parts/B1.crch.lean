/-! the class solves up to a number of seeds -/
theorem reach_lv (n : Nat) (μ : Mu) {T : Nat → Nat} {s S0 : Nat} (hW : WF T) (hG : GA μ T) (h40 : s ≤ 40) (h6 : bhS T (s + 1) ≤ 6000) (hky : μ.1 15 6 = nI (keyA T)) (hV : CV μ T S0) (hn : 20000 < n) :
    Ok (X7_reach_54 n (nI s) μ) (fun a μ' => a = 1 ∧ μ'.1 15 6 = nI (keyA T) ∧ ∃ S, s < S ∧ CV μ' T S) := by
  have hB := hW.1
  have hop := opn_le (T := T)
  have b6 := hB.2.1
  have hH2 := hlf_lt (T := T) (show 1 < 2 by decide)
  unfold X7_reach_54 X7_reach_61
  rw [hV.2.2.1, iv_p1]
  refine Ok_lp1 (fun f x2 μ' => ∃ L, f = s + 1 - L ∧ x2 = nI L ∧ GA μ' T ∧ μ'.1 15 6 = nI (keyA T) ∧ CV μ' T L) ?_ (s + 1 - S0) (by omega) ⟨S0, rfl, rfl, hG, hky, hV⟩
  rintro K1 f x2 μ1 ⟨L, rfl, rfl, hG1, hky1, hV1⟩ hK1
  obtain ⟨v1, v2, v3, v4⟩ := id hV1
  unfold X7_reach_61b
  rw [ifLt (by omega) (by omega)]
  by_cases c : s < L
  · rw [if_pos c]
    exact Ok_r ⟨rfl, hky1, L, c, hV1⟩
  · have h6L : bhS T (L + 1) ≤ 6000 := Nat.le_trans (bh_mo (by omega)) h6
    have h6L' := h6L
    rw [bh_s] at h6L'
    have h3003 : Wn (opnN T) L ≤ 3003 := W_3003 (by omega) h6L
    have hlo := VL_b hW L (by omega)
    rw [if_neg c, bS (posC_s n μ1 hB hG1 (by omega))]
    dsimp only
    rw [Nat.min_eq_right (by omega)]
    have hL : ∀ μ', KY T L μ1 μ' → ∀ sd' s' k', sd' < 2 → s' < L → k' < Wn (opnN T) s' → μ'.1 16 (ixC T sd' s' k') = iv (VL T L sd' s' k') := by
      intro μ' ky sd' s' k' a b e
      rw [(ky.2.2 _ (fun h k q1 q2 => ix_low h6L (by omega) a q2 b e)).1, (v4 sd' s' k' a b e).1, (VL_lo L 41 b (by omega)).1]
    unfold X7_reach_78
    rw [i_0]
    refine Ok_lp3 (fun f x2 x3 x4 μ' => ∃ h, h ≤ hlf T 1 + 1 ∧ f = hlf T 1 + 1 - h ∧ x2 = nI L ∧ x3 = nI (Wn (opnN T) L) ∧ x4 = nI h ∧ (∀ h' k, h' < h → k < Wn (opnN T) L → PMi μ' T L (VL T L) h' k (T 1) ∧ VC μ' T L (VL T L) 0 h' k) ∧ KY T L μ1 μ') ?_ (hlf T 1 + 1) (by omega) ⟨0, by omega, rfl, rfl, rfl, rfl, fun h' k q => by omega, KY.rf⟩
    rintro K2 f x2 x3 x4 μ2 ⟨h, hh, rfl, rfl, rfl, rfl, hD2, ky2⟩ hK2
    unfold X7_reach_78b
    rw [i_1, bS (halfOf_s n μ2 (ky2.ga hG1))]
    dsimp only
    rw [ifLt (by omega) (by omega)]
    by_cases c2 : hlf T 1 < h
    · rw [if_pos c2]
      have hl : ALK T → ∀ s' k, s' < L → k < Wn (opnN T) s' → VL T L 1 s' k = VL T L 0 s' k := fun hA s' k a b => (VL_sy hA hW L (by omega) s' k a b).1
      refine Ok_b (weighLevel_s n μ2 (lo := VL T L) hW (ky2.ga hG1) (by omega) h6L h3003 hlo hl (fun h' k a b => (hD2 h' k (by omega) b).1) (fun h' k a b => (hD2 h' k (by omega) b).2) hn) ?_
      rintro _ μ3 ⟨hV3, ky3⟩
      dsimp only
      have ky := ky2.tr ky3
      rw [nI_add]
      refine hK1 (s + 1 - (L + 1)) _ _ (by omega) ⟨L + 1, rfl, rfl, GA_o (ky.ga hG1) (fun o a b => by rw [si_o (by omega)]), ?_, by omega, h6L, ?_, fun sd s' k a b e => ?_⟩
      · rw [si_c (by decide), ky.1 15 (by unfold ZL; omega)]; exact hky1
      · rw [si_a, iv_n]; congr 1; omega
      · by_cases z : s' = L
        · subst z
          obtain ⟨w1, w2⟩ := hV3 (hlf T sd) k (hlf_le a) e
          obtain ⟨l1, l2⟩ := VL_lo (T := T) (sd := sd) (k := k) (s' + 1) 41 (Nat.lt_succ_self s') (by omega)
          obtain ⟨i1, i2⟩ := hv_it (T := T) (s := s') (lo := VL T s') hW (by omega) hl a e 6007
          rw [ix_h a] at w1 w2
          refine ⟨?_, ?_⟩
          · rw [si_b (by decide), w1, i1, l1, VL_e]
          · rw [si_b (by decide), w2, hv_en hW a e, i2]
            unfold rkC
            rw [l2, RK_e]
        · obtain ⟨w1, w2⟩ := v4 sd s' k a (by omega) e
          obtain ⟨y1, y2⟩ := ky.2.2 (ixC T sd s' k) (fun h k q1 q2 => ix_low h6L (by omega) a q2 (by omega) e)
          exact ⟨by rw [si_b (by decide), y1]; exact w1, by rw [si_b (by decide), y2]; exact w2⟩
    · rw [if_neg c2]
      have hle : h ≤ hlf T 1 := by omega
      unfold X7_reach_91
      rw [i_0]
      refine Ok_lp4 (fun f x2 x3 x4 x5 μ' => ∃ k, k ≤ Wn (opnN T) L ∧ f = Wn (opnN T) L - k ∧ x2 = nI L ∧ x3 = nI (Wn (opnN T) L) ∧ x4 = nI h ∧ x5 = nI k ∧ (∀ h' k', k' < Wn (opnN T) L → (h' < h ∨ (h' = h ∧ k' < k)) → PMi μ' T L (VL T L) h' k' (T 1) ∧ VC μ' T L (VL T L) 0 h' k') ∧ KY T L μ1 μ') ?_ (Wn (opnN T) L) (by omega) ⟨0, by omega, rfl, rfl, rfl, rfl, rfl, fun h' k' a b => hD2 h' k' (by omega) a, ky2⟩
      rintro K3 f x2 x3 x4 x5 μ3 ⟨k, hk, rfl, rfl, rfl, rfl, rfl, hD3, ky3⟩ hK3
      unfold X7_reach_91b
      rw [ifLe (by omega) (by omega)]
      by_cases c3 : Wn (opnN T) L ≤ k
      · rw [if_pos c3, i_1, nI_add]
        exact hK2 (hlf T 1 + 1 - (h + 1)) _ _ _ _ (by omega) ⟨h + 1, by omega, rfl, rfl, rfl, rfl, fun h' k' a b => hD3 h' k' b (by omega), ky3⟩
      · have hkW : k < Wn (opnN T) L := by omega
        rw [if_neg c3]
        refine Ok_b (readPos_s n μ3 (lo := VL T L) hW (ky3.ga hG1) hle (by omega) h6L h3003 hkW hlo (hL μ3 ky3) (by omega)) ?_
        rintro _ μ4 ⟨p4, vc4, kx4⟩
        dsimp only
        rw [i_1, nI_add]
        refine hK3 (Wn (opnN T) L - (k + 1)) _ _ _ _ _ (by omega) ⟨k + 1, by omega, rfl, rfl, rfl, rfl, rfl, fun h' k' a b => ?_, ky3.tr (kx4.ky hle hkW)⟩
        by_cases z : h' = h ∧ k' = k
        · obtain ⟨rfl, rfl⟩ := z
          exact ⟨p4, vc4⟩
        · obtain ⟨d1, d2⟩ := hD3 h' k' a (by omega)
          have nes : h' * 3003 + k' ≠ h * 3003 + k := by omega
          obtain ⟨x1, x2⟩ := kx4.2.2.2.1 _ nes
          obtain ⟨y1, y2⟩ := kx4.2.2.1 (ixC T h' L k') (fun e => z (ix_in h6L (by omega) hle a hkW e))
          exact ⟨PMi_o d1 (by omega) x1 x2 (fun j hj => kx4.2.2.2.2 _ (by omega)), by rw [y1]; exact d2.1, by rw [y2]; exact d2.2⟩
theorem reach_s (n : Nat) (μ : Mu) {T : Nat → Nat} {s : Nat} (hW : WF T) (hG : GA μ T) (h40 : s ≤ 40) (hI : CI μ) (hn : 20000 < n) :
    Ok (X7_reach n (nI s) μ) (fun a μ' => CI μ' ∧ a = b2i (decide (bhS T (s + 1) ≤ 6000)) ∧ (bhS T (s + 1) ≤ 6000 → ∃ S, s < S ∧ CV μ' T S)) := by
  have hB := hW.1
  unfold X7_reach
  rw [bS (upTo_s n μ hB hG h40)]
  dsimp only
  rw [i_6000, ifLe (by omega) (by decide)]
  by_cases c : bhS T (s + 1) ≤ 6000
  · rw [if_pos (by omega)]
    have fin : ∀ a μ', (a = (1 : Int32) ∧ μ'.1 15 6 = nI (keyA T) ∧ ∃ S, s < S ∧ CV μ' T S) → (CI μ' ∧ a = b2i (decide (bhS T (s + 1) ≤ 6000)) ∧ (bhS T (s + 1) ≤ 6000 → ∃ S, s < S ∧ CV μ' T S)) := by
      rintro a μ' ⟨rfl, q1, S, q2, q3⟩
      exact ⟨Or.inr ⟨T, S, hW, q1, q3⟩, by rw [decide_eq_true c]; rfl, fun _ => ⟨S, q2, q3⟩⟩
    have h38 : Ok (X7_reach_38 n (nI s) μ) (fun a μ' => a = 1 ∧ μ'.1 15 6 = nI (keyA T) ∧ ∃ S, s < S ∧ CV μ' T S) := by
      unfold X7_reach_38
      rw [bS (key_s n μ hB hG.1.1.1)]
      dsimp only
      refine reach_lv n _ (S0 := 0) hW (GA_o hG (fun o a b => by rw [si_o (by omega), si_o (by omega)])) h40 c (by rw [si_c (by decide), si_a]) ⟨by omega, Nat.zero_le _, ?_, fun sd s' k a b => by omega⟩ hn
      rw [si_a]
      exact iv_m1
    by_cases z : μ.1 15 7 = (-1 : Int32)
    · rw [if_pos z]
      exact Ok_m h38 fin
    · rw [if_neg z, bS (key_s n μ hB hG.1.1.1)]
      dsimp only
      rcases hI with h0 | ⟨T0, S, w0, u0, v0⟩
      · exact absurd (h0.trans iv_m1.symm) z
      · rw [u0, ifEq (keyA_lt w0.1) (keyA_lt hB)]
        by_cases z2 : keyA T0 = keyA T
        · rw [if_pos z2]
          exact Ok_m (reach_lv n μ hW hG h40 c (by rw [u0, z2]) (CV_re (key_re hB w0.1 z2) hW v0) hn) fin
        · rw [if_neg z2]
          exact Ok_m h38 fin
  · rw [if_neg (by omega)]
    exact Ok_r ⟨hI, by rw [decide_eq_false c]; rfl, fun q => absurd q c⟩
