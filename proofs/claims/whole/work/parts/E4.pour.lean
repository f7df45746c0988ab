/-! call: pour -/
theorem step_lt {B B' : Nat → Nat} {m : Nat} (hB : W1 B) (h : stepP B m B') : m < 12 := by
  obtain ⟨w, hw, rfl, _⟩ := h
  have := off_le (B 1) (B 2)
  have := hB.1.1.2.1
  omega
theorem pourC_s (n : Nat) (μ : Mu) {t M d u st N : Nat} {B : Nat → Nat → Nat} {m : Nat → Nat} (v1 : Int32) (ht : t < 4) (hst : st < 40) (hd : d + u ≤ 40) (hP : CPS μ d u st B m) (hN : N ≤ d) (hn : 1000 < n) :
    Ok (X11_pour_24 n v1 (33 + 2 * t) (nI N) 0 μ) (fun a μ' => a = .inl (nI N) ∧ μ'.1 = μ.1 ∧ (∀ k, k < N → μ'.2 (34 + 2 * t) k = (nI (m k)).toInt64) ∧ (∀ k, N ≤ k → μ'.2 (34 + 2 * t) k = μ.2 (34 + 2 * t) k) ∧ (∀ o, o ≠ 34 + 2 * t → μ'.2 o = μ.2 o)) := by
  obtain ⟨p0, p1, p2, p3⟩ := hP
  unfold X11_pour_24
  rw [i_0]
  refine Ok_lp3 (fun f x2 x3 x4 μ' => ∃ i, i ≤ N ∧ f = N - i ∧ x2 = 33 + 2 * t ∧ x3 = nI N ∧ x4 = nI i ∧ μ'.1 = μ.1 ∧ (∀ k, k < i → μ'.2 (34 + 2 * t) k = (nI (m k)).toInt64) ∧ (∀ k, i ≤ k → μ'.2 (34 + 2 * t) k = μ.2 (34 + 2 * t) k) ∧ (∀ o, o ≠ 34 + 2 * t → μ'.2 o = μ.2 o)) ?_ N (by omega) ⟨0, by omega, rfl, rfl, rfl, rfl, rfl, fun k q => by omega, fun _ _ => rfl, fun _ _ => rfl⟩
  rintro K f x2 x3 x4 μ1 ⟨i, hi, rfl, rfl, rfl, rfl, a1, a2, a3, a4⟩ hK
  unfold X11_pour_24b X3_moveAt
  rw [kd_of (tr_k t ht), ifLe (by omega) (by omega)]
  by_cases c : N ≤ i
  · obtain rfl : i = N := by omega
    rw [if_pos c]
    exact Ok_r ⟨rfl, a1, a2, a3, a4⟩
  · have hsl := slN_lt hst (show i < 40 by omega)
    rw [if_neg c, bS (slot_s n μ1 (by rw [a1]; exact p2) hst (show i ≤ 40 by omega))]
    dsimp only
    rw [gd_n hsl (by decide), nI_clamp (by omega), a1, (p3 i (by omega)).1]
    show Ok (gd (nI i) 40 _) _
    rw [gd_n (by omega) (by decide), nI_clamp (by omega), i_1, nI_add, show 33 + 2 * t + 1 = 34 + 2 * t by omega]
    refine hK (N - (i + 1)) _ _ _ _ (by omega) ⟨i + 1, by omega, rfl, rfl, rfl, rfl, a1, fun k hk => ?_, fun k hk => ?_, fun o q => by rw [sj_o q]; exact a4 o q⟩
    · by_cases z : k = i
      · rw [z, sj_a]
      · rw [sj_c z]; exact a2 k (by omega)
    · rw [sj_c (by omega)]; exact a3 k (by omega)
theorem pourR_s (n : Nat) (μ : Mu) {t s d N : Nat} {B : Nat → Nat → Nat} {m : Nat → Nat} (ht : t < 4) (hs : s < 4) (es : μ.1 198 t = nI s) (hd : d ≤ 40) (hm : ∀ i, i < d → m i < 12 ∧ μ.1 180 i = nI (m i)) (hN : N ≤ d) (hn : 1000 < n) :
    Ok (X12_pour_34 n (nI t) (nI N) 0 μ) (fun a μ' => a = nI N ∧ μ'.1 = μ.1 ∧ (∀ k, k < N → μ'.2 200 (40 * t + k) = (nI (m k)).toInt64) ∧ (∀ x, ¬ (40 * t ≤ x ∧ x < 40 * t + N) → μ'.2 200 x = μ.2 200 x) ∧ (∀ o, o ≠ 200 → μ'.2 o = μ.2 o)) := by
  unfold X12_pour_34
  rw [i_0]
  refine Ok_lp2 (fun f x2 x3 μ' => ∃ i, i ≤ N ∧ f = N - i ∧ x2 = nI N ∧ x3 = nI i ∧ μ'.1 = μ.1 ∧ (∀ k, k < i → μ'.2 200 (40 * t + k) = (nI (m k)).toInt64) ∧ (∀ x, ¬ (40 * t ≤ x ∧ x < 40 * t + i) → μ'.2 200 x = μ.2 200 x) ∧ (∀ o, o ≠ 200 → μ'.2 o = μ.2 o)) ?_ N (by omega) ⟨0, by omega, rfl, rfl, rfl, rfl, fun k q => by omega, fun _ _ => rfl, fun _ _ => rfl⟩
  rintro K f x2 x3 μ1 ⟨i, hi, rfl, rfl, rfl, a1, a2, a3, a4⟩ hK
  unfold X12_pour_34b
  rw [ifLe (by omega) (by omega)]
  by_cases c : N ≤ i
  · obtain rfl : i = N := by omega
    rw [if_pos c]
    exact Ok_r ⟨rfl, a1, a2, a3, a4⟩
  · obtain ⟨m1, m2⟩ := hm i (by omega)
    rw [if_neg c, gd_n (by omega) (by decide), nI_clamp (by omega), a1, m2, bS (cutR_s n μ1 _ ht (by omega) hs (by rw [a1]; exact es)), ct_sm m1, i_1, nI_add]
    refine hK (N - (i + 1)) _ _ _ (by omega) ⟨i + 1, by omega, rfl, rfl, rfl, a1, fun k hk => ?_, fun x hx => ?_, fun o q => by rw [sj_o q]; exact a4 o q⟩
    · by_cases z : k = i
      · rw [z, sj_a]
      · rw [sj_c (by omega)]; exact a2 k (by omega)
    · rw [sj_c (by omega)]; exact a3 x (by omega)
theorem min_if {a b : Nat} (ha : a < 2 ^ 31) (hb : b < 2 ^ 31) : (if nI a < nI b then nI a else nI b) = nI (min a b) := by
  rw [ifLt ha hb]
  by_cases z : a < b
  · rw [if_pos z, Nat.min_eq_left (by omega)]
  · rw [if_neg z, Nat.min_eq_right (by omega)]
theorem call_pour (n : Nat) (μ : Mu) (v : Int32) (h : INV μ) (hn : 1000 < n) : CBx (L_pour n v μ) (X12_pour n v) := by
  obtain ⟨T, hI⟩ := h
  have hts := hI.2.2.2.2.2.2.2.2.1
  have fin : ∀ (k : Int32), ¬ k = 0 → ¬ k ≤ 0 → L_pour n v μ = some (k, μ) → X12_trayFault n v μ = some (k, μ) → CBx (L_pour n v μ) (X12_pour n v) := by
    intro k k0 k1 a c
    refine ⟨k, μ, 0, si μ 171 5 k, a, ?_, si_a, fun q => absurd q k0, T, INT_td hI (Fr_ag th_fr (by decide +kernel))⟩
    unfold X12_pour
    rw [bS c]
    dsimp only
    rw [si_a, if_neg k1]
  by_cases hv : inR v 0 3
  · obtain ⟨t, _, ht3, rfl⟩ := inR_d (by decide) (by decide) hv
    have ht : t < 4 := by omega
    obtain ⟨o1, o2, ⟨M, hM, o3, o4⟩, o5⟩ := id (hts t ht)
    by_cases hl : μ.1 198 t = -1
    · have e1 : X11_pour n (nI t) μ = some (.inr 2, μ) := by
        unfold X11_pour
        rw [thr_r (laid_m n μ ht (by rw [o1]; exact hl))]
      exact fin 2 (by decide) (by decide) (by unfold L_pour; rw [e1]; rfl) (by rw [trF_t n μ ht, if_pos hl])
    · obtain ⟨s, hs, es⟩ := tr_sort (hts t ht) hl
      obtain ⟨d, u, st, B, m, hp⟩ := hI.2.2.2.2.2.1
      obtain ⟨hst, hC, hP, hR⟩ := PST_i.mp hp
      have hC1 := hC.1
      obtain ⟨_, μ1, e1, rfl, a1, a2, a3, a4⟩ : Ok (X11_pour n (nI t) μ) (fun a μ' => a = .inl (nI (min M d)) ∧ μ'.1 = μ.1 ∧ (∀ k, k < min M d → μ'.2 (34 + 2 * t) k = (nI (m k)).toInt64) ∧ (∀ k, min M d ≤ k → μ'.2 (34 + 2 * t) k = μ.2 (34 + 2 * t) k) ∧ (∀ o, o ≠ 34 + 2 * t → μ'.2 o = μ.2 o)) := by
        unfold X11_pour
        rw [thr_l (laid_l n μ ht (by rw [o1]; exact hl)), kd_of (tr_k t ht), o3, hP.1, min_if (by omega) (by omega)]
        exact pourC_s (M := M) n μ (nI t) ht hst hC1 hP (by omega) hn
      have eL : L_pour n (nI t) μ = some (0, sj μ1 201 0 (nI (min M d)).toInt64) := by unfold L_pour; rw [e1]
      obtain ⟨_, μ2, e2, rfl, b1, b2, b3, b4⟩ : Ok (X12_pour n (nI t) (sj μ1 201 0 (nI (min M d)).toInt64)) (fun a μ' => a = nI (min M d) ∧ μ'.1 = (si μ1 171 5 0).1 ∧ (∀ k, k < min M d → μ'.2 200 (40 * t + k) = (nI (m k)).toInt64) ∧ (∀ x, ¬ (40 * t ≤ x ∧ x < 40 * t + min M d) → μ'.2 200 x = μ1.2 200 x) ∧ (∀ o, o ≠ 200 → μ'.2 o = (sj μ1 201 0 (nI (min M d)).toInt64).2 o)) := by
        unfold X12_pour
        rw [bS (trF_t n _ ht)]
        dsimp only
        rw [show (sj μ1 201 0 (nI (min M d)).toInt64).1 = μ.1 from a1, if_neg hl, si_a, if_pos (show (0 : Int32) ≤ 0 by decide), gd_n ht (by decide), nI_clamp (by omega), si_c (by decide), si_b (by decide), show (sj μ1 201 0 (nI (min M d)).toInt64).1 = μ.1 from a1, hR.1, o4, min_if (by omega) (by omega), Nat.min_comm]
        refine Ok_m (pourR_s n _ (m := m) (d := d) (B := B) ht hs (by rw [si_b (by decide), show (sj μ1 201 0 (nI (min M d)).toInt64).1 = μ.1 from a1]; exact es) (by omega) (fun i hi => ⟨step_lt (hC.2.2 i (by omega)).1 (hC.2.2 i (by omega)).2, by rw [si_b (by decide), show (sj μ1 201 0 (nI (min M d)).toInt64).1 = μ.1 from a1]; exact (hR.2.2.1 i hi).2⟩) (by omega) hn) ?_
        rintro a μ' ⟨q1, q2, q3, q4, q5⟩
        refine ⟨q1, by rw [q2]; rfl, q3, fun x hx => ?_, fun o q => by rw [q5 o q]; rfl⟩
        rw [q4 x hx]
        show (sj μ1 201 0 (nI (min M d)).toInt64).2 200 x = _
        rw [sj_b (by decide)]
      have f1 : ∀ o, o ≠ 171 → μ2.1 o = μ.1 o := fun o q => by rw [b1, si_o q, a1]
      have g1 : Fr (fun o k => inL [(33, 40, 9999), (200, 201, 9999), (171, 171, 5)] o k) μ μ2 := fun o k hn => by
        have n1 : ¬ (33 ≤ o ∧ o ≤ 40) := fun q => hn (inL_mk 33 40 9999 (by decide) q.1 q.2 (Or.inl rfl))
        have n2 : ¬ (200 ≤ o ∧ o ≤ 201) := fun q => hn (inL_mk 200 201 9999 (by decide) q.1 q.2 (Or.inl rfl))
        refine ⟨?_, ?_⟩
        · rw [b1]
          by_cases z : o = 171
          · subst z
            rw [si_c (fun q => hn (by rw [q]; exact inL_mk 171 171 5 (by decide) (by decide) (by decide) (Or.inr rfl))), a1]
          · rw [si_b z, a1]
        · rw [b4 o (by omega), sj_o (by omega), a4 o (by omega)]
      refine ⟨0, _, _, μ2, eL, e2, by rw [b1, si_a], fun _ => by rw [b4 201 (by decide), sj_a], T, INT_t hI (Fr_ag g1 (by decide +kernel)) (fun t' ht' => ?_)⟩
      obtain ⟨p1, p2, ⟨M', hM', p3, p4⟩, p5⟩ := hts t' ht'
      refine ⟨by rw [f1 _ (by omega), f1 198 (by decide)]; exact p1, by rw [f1 198 (by decide)]; exact p2, ⟨M', hM', by rw [f1 _ (by omega)]; exact p3, by rw [f1 199 (by decide)]; exact p4⟩, fun k hk => ?_⟩
      rw [b4 _ (by omega), sj_b (by omega)]
      by_cases z : t' = t
      · subst z
        by_cases z2 : k < min M d
        · rw [a2 k z2, b2 k z2]
        · rw [a3 k (by omega), p5 k hk, b3 _ (by omega), a4 200 (by omega)]
      · rw [a4 _ (by omega), p5 k hk, b3 _ (by omega), a4 200 (by omega)]
  · have e1 : X11_pour n v μ = some (.inr 0, μ) := by
      unfold X11_pour
      rw [thr_r (laid_r n μ hv)]
    exact fin 1 (by decide) (by decide) (by unfold L_pour; rw [e1]; rfl) (trF_r n μ hv)
