/-! the class weighs and settles a number of seeds -/
theorem weighAll_s (n : Nat) (μ : Mu) {T : Nat → Nat} {lo : Nat → Nat → Nat → Int} {v : Nat → Nat → Int} {s h : Nat} (hW : WF T) (hG : GA μ T) (hh : h < 2) (h40 : s ≤ 40) (h6 : bhS T (s + 1) ≤ 6000) (h3 : Wn (opnN T) s ≤ 3003) (hv : ∀ sd k, sd < 2 → k < Wn (opnN T) s → -(s : Int) ≤ v sd k ∧ v sd k ≤ s) (hP : ∀ k, k < Wn (opnN T) s → PMi μ T s lo h k (T 1)) (hV : ∀ sd k, sd < 2 → k < Wn (opnN T) s → μ.1 16 (ixC T sd s k) = iv (v sd k)) (hn : 10000 < n) :
    Ok (X7_weighAll n (nI h) (nI s) μ) (fun _ μ' => (∀ k, k < Wn (opnN T) s → μ'.1 19 (h * 3003 + k) = iv (mxV (fmV T s lo v h k) (T 1))) ∧ (∀ o, o ≠ 19 → μ'.1 o = μ.1 o) ∧ μ'.2 = μ.2 ∧ ∀ x, ¬ (h * 3003 ≤ x ∧ x < h * 3003 + Wn (opnN T) s) → μ'.1 19 x = μ.1 19 x) := by
  have b6 := hW.1.2.1
  unfold X7_weighAll
  rw [bS (posC_s n μ hW.1 hG h40)]
  dsimp only
  rw [Nat.min_eq_right (by omega), i_3003, pk_mul, nI_add]
  unfold X7_weighAll_22
  refine Ok_lp2 (fun f x3 x4 μ' => ∃ k, k ≤ Wn (opnN T) s ∧ f = Wn (opnN T) s - k ∧ x3 = nI (h * 3003 + Wn (opnN T) s) ∧ x4 = nI (h * 3003 + k) ∧ (∀ k', k' < k → μ'.1 19 (h * 3003 + k') = iv (mxV (fmV T s lo v h k') (T 1))) ∧ (∀ o, o ≠ 19 → μ'.1 o = μ.1 o) ∧ μ'.2 = μ.2 ∧ ∀ x, ¬ (h * 3003 ≤ x ∧ x < h * 3003 + Wn (opnN T) s) → μ'.1 19 x = μ.1 19 x) ?_ (Wn (opnN T) s) (by omega) ⟨0, by omega, rfl, rfl, by rw [Nat.add_zero], fun k' q => by omega, fun _ _ => rfl, rfl, fun _ _ => rfl⟩
  rintro K f x3 x4 μ1 ⟨k, hk, rfl, rfl, rfl, hF1, ho1, h21, hx1⟩ hK
  unfold X7_weighAll_22b
  rw [ifLe (by omega) (by omega)]
  by_cases c : h * 3003 + Wn (opnN T) s ≤ h * 3003 + k
  · rw [if_pos c]
    exact Ok_r ⟨fun k' q => hF1 k' (by omega), ho1, h21, hx1⟩
  · have hkW : k < Wn (opnN T) s := by omega
    obtain ⟨⟨e, e1, e2, e3⟩, q, kk, q1, q2, q3, q4⟩ := hP k hkW
    have e4 : -1000 ≤ e := ((e3 e).mp (Int.le_refl e)).1
    rw [if_neg c, gd_n (by omega) (by decide), nI_clamp (by omega), ho1 18 (by decide), ho1 20 (by decide), e1, q2, i_6, pk_mul, nI_add, i_1, Int32.sub_eq_add_neg]
    unfold X7_weighAll_58
    refine Ok_lp5 (fun f x3 x4 x5 x6 x7 μ' => ∃ j m, j ≤ q ∧ f = j ∧ x3 = nI (h * 3003 + Wn (opnN T) s) ∧ x4 = nI (h * 3003 + k) ∧ x5 = iv m ∧ -1000 ≤ m ∧ m ≤ 1000 ∧ x6 = nI ((h * 3003 + k) * 6) ∧ x7 = nI ((h * 3003 + k) * 6 + j) + -nI 1 ∧ μ' = μ1 ∧ ∀ z, m ≤ z ↔ e ≤ z ∧ ∀ j', j ≤ j' → j' < q → -v (1 - h) (kk j') ≤ z) ?_ q (by omega) ⟨q, e, by omega, rfl, rfl, rfl, rfl, e4, e2, rfl, rfl, rfl, fun z => ⟨fun a => ⟨a, fun j' b c => by omega⟩, fun a => a.1⟩⟩
    rintro K2 f x3 x4 x5 x6 x7 μ2 ⟨j, m, hj, rfl, rfl, rfl, rfl, m1, m2, rfl, rfl, rfl, hz⟩ hK2
    unfold X7_weighAll_58b X7_weighAll_91
    rw [ifIff (m1_ltI (by omega) (by omega))]
    by_cases c2 : (h * 3003 + k) * 6 + f ≤ (h * 3003 + k) * 6
    · obtain rfl : f = 0 := by omega
      have em : m = mxV (fmV T s lo v h k) (T 1) := by
        have key : ∀ z, m ≤ z ↔ mxV (fmV T s lo v h k) (T 1) ≤ z := by
          intro z
          rw [hz z, e3 z, mx_le]
          constructor
          · rintro ⟨⟨a1, a2⟩, a3⟩
            refine ⟨a1, fun w hw y hy => ?_⟩
            obtain ⟨g, st, k', hm, rfl⟩ := fm_e hy
            by_cases g0 : 0 < g
            · rw [wo_g g0 (v2 := fun _ _ => 0)]
              exact a2 w hw g st k' hm g0
            · obtain rfl : g = 0 := by omega
              obtain ⟨j', d1, d2⟩ := q4 w st k' hw hm
              rw [wo_0, ← d2]
              exact a3 j' (by omega) d1
          · rintro ⟨a1, a2⟩
            refine ⟨⟨a1, fun w hw g st k' hm g0 => ?_⟩, fun j' _ d1 => ?_⟩
            · rw [wo_g g0 (v2 := v)]
              exact a2 w hw _ (fm_i hm)
            · obtain ⟨_, w, st, d3, d4⟩ := q3 j' d1
              have := a2 w d3 _ (fm_i d4)
              rw [wo_0] at this
              exact this
        exact Int.le_antisymm ((key _).mpr (Int.le_refl _)) ((key m).mp (Int.le_refl _))
      rw [if_pos c2, gd_n (by omega) (by decide), nI_clamp (by omega), i_1, nI_add]
      refine hK (Wn (opnN T) s - (k + 1)) _ _ _ (by omega) ⟨k + 1, by omega, rfl, rfl, by rw [Nat.add_assoc], fun k' q => ?_, fun o a => ?_, h21, fun x hx => ?_⟩
      · by_cases z : k' = k
        · rw [z, si_a, em]
        · rw [si_c (by omega)]; exact hF1 k' (by omega)
      · rw [si_o a]; exact ho1 o a
      · rw [si_c (by omega)]; exact hx1 x hx
    · obtain ⟨d1, w, st, d2, d3⟩ := q3 (f - 1) (by omega)
      obtain ⟨_, p2, _⟩ := mvD_p hW hh h40 hkW d2 d3
      rw [Nat.sub_zero] at p2
      have hvb := hv (1 - h) (kk (f - 1)) (by omega) p2
      have hix := ix_lt (T := T) (show 1 - h < 2 by omega) h6 p2
      rw [if_neg c2, m1_add (by omega), show (h * 3003 + k) * 6 + f - 1 = (h * 3003 + k) * 6 + (f - 1) by omega, gd_n (by omega) (by decide), nI_clamp (by omega), ho1 21 (by decide), d1, gd_n hix (by decide), nI_clamp (by omega), ho1 16 (by decide), hV (1 - h) (kk (f - 1)) (by omega) p2, iv_neg, ifIff (iv_le (by omega) (by omega) (by omega) (by omega)), i_1]
      by_cases c3 : -v (1 - h) (kk (f - 1)) ≤ m
      · rw [if_pos c3]
        refine hK2 (f - 1) _ _ _ _ _ _ (by omega) ⟨f - 1, m, by omega, rfl, rfl, rfl, rfl, m1, m2, rfl, rfl, rfl, fun z => ?_⟩
        rw [hz z]
        refine ⟨fun a => ⟨a.1, fun j' b1 b2 => ?_⟩, fun a => ⟨a.1, fun j' b1 b2 => a.2 j' (by omega) b2⟩⟩
        by_cases y : j' = f - 1
        · rw [y]; have := (hz z).mpr a; omega
        · exact a.2 j' (by omega) b2
      · rw [if_neg c3]
        refine hK2 (f - 1) _ _ _ _ _ _ (by omega) ⟨f - 1, -v (1 - h) (kk (f - 1)), by omega, rfl, rfl, rfl, rfl, by omega, by omega, rfl, rfl, rfl, fun z => ⟨fun a => ?_, fun a => a.2 (f - 1) (by omega) (by omega)⟩⟩
        have a1 := (hz z).mp (by omega)
        refine ⟨a1.1, fun j' b1 b2 => ?_⟩
        by_cases y : j' = f - 1
        · rw [y]; exact a
        · exact a1.2 j' (by omega) b2
theorem ix_k {T : Nat → Nat} {h s k : Nat} : ixC T h s 0 + k = ixC T h s k := by unfold ixC; omega
theorem settleAll_s (n : Nat) (μ : Mu) {T : Nat → Nat} {lo : Nat → Nat → Nat → Int} {s h r : Nat} (hW : WF T) (hG : GA μ T) (hh : h ≤ hlf T 1) (h40 : s ≤ 40) (h6 : bhS T (s + 1) ≤ 6000) (h3 : Wn (opnN T) s ≤ 3003) (hlo : loB T s lo) (hF : ∀ k, k < Wn (opnN T) s → μ.1 19 (h * 3003 + k) = iv (mxV (fmV T s lo (itV T s lo r) h k) (T 1))) (hV : ∀ k, k < Wn (opnN T) s → VC μ T s lo r h k) (hr : r < 10000) (hrk : ∀ k, k < Wn (opnN T) s → itR T s lo r h k ≤ r) (hn : 10000 < n) :
    Ok (X7_settleAll n (nI h) (nI s) (nI (r + 1)) μ) (fun a μ' => (∀ k, k < Wn (opnN T) s → VC μ' T s lo (r + 1) h k) ∧ (∃ fl, fl < 2 ∧ a = nI fl ∧ (fl = 0 ↔ ∀ k, k < Wn (opnN T) s → itV T s lo (r + 1) h k = itV T s lo r h k)) ∧ (∀ o, o ≠ 16 → o ≠ 17 → μ'.1 o = μ.1 o) ∧ μ'.2 = μ.2 ∧ ∀ y, (∀ k, k < Wn (opnN T) s → y ≠ ixC T h s k) → μ'.1 16 y = μ.1 16 y ∧ μ'.1 17 y = μ.1 17 y) := by
  have hh2 : h < 2 := Nat.lt_of_le_of_lt hh (hlf_lt (by decide))
  have h6' := h6
  rw [bh_s] at h6'
  have vb := it_b hW h40 hlo
  unfold X7_settleAll
  rw [bS (posC_s n μ hW.1 hG h40)]
  dsimp only
  rw [Nat.min_eq_right (by omega), i_0, bS (indexOf_s n μ hW.1 hG (by omega) (by omega))]
  dsimp only
  unfold X7_settleAll_25
  refine Ok_lp4 (fun f x4 x5 x6 x7 μ' => ∃ k fl, k ≤ Wn (opnN T) s ∧ f = Wn (opnN T) s - k ∧ x4 = nI (Wn (opnN T) s) ∧ x5 = nI (ixC T h s 0) ∧ x6 = nI fl ∧ fl < 2 ∧ x7 = nI k ∧ (∀ k', k' < k → VC μ' T s lo (r + 1) h k') ∧ (∀ k', k ≤ k' → k' < Wn (opnN T) s → VC μ' T s lo r h k') ∧ (fl = 0 ↔ ∀ k', k' < k → itV T s lo (r + 1) h k' = itV T s lo r h k') ∧ (∀ o, o ≠ 16 → o ≠ 17 → μ'.1 o = μ.1 o) ∧ μ'.2 = μ.2 ∧ ∀ y, (∀ k, k < Wn (opnN T) s → y ≠ ixC T h s k) → μ'.1 16 y = μ.1 16 y ∧ μ'.1 17 y = μ.1 17 y) ?_ (Wn (opnN T) s) (by omega) ⟨0, 0, by omega, rfl, rfl, rfl, rfl, by decide, rfl, fun k' q => by omega, fun k' _ q => hV k' q, ⟨fun _ k' q => by omega, fun _ => rfl⟩, fun _ _ _ => rfl, rfl, fun _ _ => ⟨rfl, rfl⟩⟩
  rintro K f x4 x5 x6 x7 μ1 ⟨k, fl, hk, rfl, rfl, rfl, rfl, hfl, rfl, hD, hU, hfi, ho, h2, hy⟩ hK
  unfold X7_settleAll_25b X7_settleAll_102
  rw [ifLe (by omega) (by omega)]
  by_cases c : Wn (opnN T) s ≤ k
  · rw [if_pos c, bz_n hfl]
    exact Ok_r ⟨fun k' q => hD k' (by omega), ⟨fl, hfl, rfl, by rw [hfi]; exact ⟨fun a k' q => a k' (by omega), fun a k' q => a k' (by omega)⟩⟩, ho, h2, hy⟩
  · have hkW : k < Wn (opnN T) s := by omega
    have hix := ix_lt hh2 h6 hkW
    obtain ⟨u1, u2⟩ := hU k (Nat.le_refl k) hkW
    rw [if_neg c, i_3003, pk_mul, nI_add, nI_add, ix_k, gd_n (by omega) (by decide), gd_n hix (by decide), nI_clamp (by omega), nI_clamp (by omega), ho 19 (by decide) (by decide), hF k hkW, u1, u2, i_1, nI_add]
    have keep : ∀ fl', fl' < 2 → (fl' = 0 ↔ ∀ k', k' < k + 1 → itV T s lo (r + 1) h k' = itV T s lo r h k') → VC μ1 T s lo (r + 1) h k → Ok (K (nI (Wn (opnN T) s)) (nI (ixC T h s 0)) (nI fl') (nI (k + 1)) μ1) (fun a μ' => (∀ k, k < Wn (opnN T) s → VC μ' T s lo (r + 1) h k) ∧ (∃ fl, fl < 2 ∧ a = nI fl ∧ (fl = 0 ↔ ∀ k, k < Wn (opnN T) s → itV T s lo (r + 1) h k = itV T s lo r h k)) ∧ (∀ o, o ≠ 16 → o ≠ 17 → μ'.1 o = μ.1 o) ∧ μ'.2 = μ.2 ∧ ∀ y, (∀ k, k < Wn (opnN T) s → y ≠ ixC T h s k) → μ'.1 16 y = μ.1 16 y ∧ μ'.1 17 y = μ.1 17 y) := by
      intro fl' a1 a2 a3
      refine hK (Wn (opnN T) s - (k + 1)) _ _ _ _ _ (by omega) ⟨k + 1, fl', by omega, rfl, rfl, rfl, rfl, a1, rfl, fun k' q => ?_, fun k' q1 q2 => hU k' (by omega) q2, a2, ho, h2, hy⟩
      by_cases z : k' = k
      · rw [z]; exact a3
      · exact hD k' (by omega)
    have same : itV T s lo (r + 1) h k = itV T s lo r h k → itR T s lo (r + 1) h k = itR T s lo r h k := fun e => if_pos e
    have keep2 : itV T s lo (r + 1) h k = itV T s lo r h k → Ok (K (nI (Wn (opnN T) s)) (nI (ixC T h s 0)) (nI fl) (nI (k + 1)) μ1) (fun a μ' => (∀ k, k < Wn (opnN T) s → VC μ' T s lo (r + 1) h k) ∧ (∃ fl, fl < 2 ∧ a = nI fl ∧ (fl = 0 ↔ ∀ k, k < Wn (opnN T) s → itV T s lo (r + 1) h k = itV T s lo r h k)) ∧ (∀ o, o ≠ 16 → o ≠ 17 → μ'.1 o = μ.1 o) ∧ μ'.2 = μ.2 ∧ ∀ y, (∀ k, k < Wn (opnN T) s → y ≠ ixC T h s k) → μ'.1 16 y = μ.1 16 y ∧ μ'.1 17 y = μ.1 17 y) := by
      intro e
      refine keep fl hfl ?_ ⟨by rw [u1, e], by rw [u2, same e]⟩
      rw [hfi]
      refine ⟨fun a k' q => ?_, fun a k' q => a k' (by omega)⟩
      by_cases z : k' = k
      · rw [z]; exact e
      · exact a k' (by omega)
    cases hen : enD T h s k with
    | true =>
      rw [if_pos (show (if true = true then -nI 1 else nI (itR T s lo r h k)) = -nI 1 from if_pos rfl)]
      exact keep2 (by rw [(it_en hen _).1, (it_en hen _).1])
    | false =>
      have est : itV T s lo (r + 1) h k = mxV (fmV T s lo (itV T s lo r) h k) (T 1) := by
        show stV T s lo (itV T s lo r) h k = _
        unfold stV
        rw [hen, if_neg (by decide)]
      have bb := vb (r + 1) h k hh2 hkW
      have bc := vb r h k hh2 hkW
      have hrk' := hrk k hkW
      rw [← est, if_neg (by rw [if_neg (by decide)]; exact fun q => (eq_m1 (by omega)).mp q), ifIff (iv_eq (by omega) (by omega) (by omega) (by omega))]
      by_cases z : itV T s lo r h k = itV T s lo (r + 1) h k
      · rw [if_pos z]
        exact keep2 z.symm
      · rw [if_neg z]
        have nek : ∀ k', k' < Wn (opnN T) s → k' ≠ k → ixC T h s k' ≠ ixC T h s k := fun k' a b e => b (ix_in h6 hh hh a hkW e).2
        refine hK (Wn (opnN T) s - (k + 1)) _ _ _ _ _ (by omega) ⟨k + 1, 1, by omega, rfl, rfl, rfl, rfl, by decide, rfl, fun k' q => ?_, fun k' q1 q2 => ?_, ⟨fun a => by omega, fun a => absurd (a k (by omega)).symm z⟩, fun o a b => ?_, h2, fun y hy2 => ?_⟩
        · by_cases z2 : k' = k
          · rw [z2]
            refine ⟨by rw [si_b (by decide), si_a], ?_⟩
            rw [si_a, hen, if_neg (by decide)]
            show nI (r + 1) = nI (if itV T s lo (r + 1) h k = itV T s lo r h k then itR T s lo r h k else r + 1)
            rw [if_neg (fun q => z q.symm)]
          · obtain ⟨a1, a2⟩ := hD k' (by omega)
            have := nek k' (by omega) z2
            exact ⟨by rw [si_b (by decide), si_c this]; exact a1, by rw [si_c this, si_b (by decide)]; exact a2⟩
        · obtain ⟨a1, a2⟩ := hU k' (by omega) q2
          have := nek k' q2 (by omega)
          exact ⟨by rw [si_b (by decide), si_c this]; exact a1, by rw [si_c this, si_b (by decide)]; exact a2⟩
        · rw [si_o b, si_o a]; exact ho o a b
        · obtain ⟨a1, a2⟩ := hy y hy2
          have := hy2 k hkW
          exact ⟨by rw [si_b (by decide), si_c this]; exact a1, by rw [si_c this, si_b (by decide)]; exact a2⟩
theorem itR_le {T : Nat → Nat} {s : Nat} {lo : Nat → Nat → Nat → Int} {sd k : Nat} : ∀ r, itR T s lo r sd k ≤ r := by
  intro r
  induction r with
  | zero => exact Nat.le_refl _
  | succ r ih =>
    show (if itV T s lo (r + 1) sd k = itV T s lo r sd k then itR T s lo r sd k else r + 1) ≤ r + 1
    split
    · omega
    · exact Nat.le_refl _
/-- all is kept but what one number of seeds has, and what is worked with -/
def ZL (o : Nat) : Prop := o = 6 ∨ o = 8 ∨ (57 ≤ o ∧ o ≤ 68) ∨ o = 151 ∨ o = 152 ∨ (16 ≤ o ∧ o ≤ 21)
def KY (T : Nat → Nat) (s : Nat) (μ μ' : Mu) : Prop := (∀ o, ¬ ZL o → μ'.1 o = μ.1 o) ∧ μ'.2 = μ.2 ∧ ∀ y, (∀ h k, h ≤ hlf T 1 → k < Wn (opnN T) s → y ≠ ixC T h s k) → μ'.1 16 y = μ.1 16 y ∧ μ'.1 17 y = μ.1 17 y
theorem KY.rf {T : Nat → Nat} {s : Nat} {μ : Mu} : KY T s μ μ := ⟨fun _ _ => rfl, rfl, fun _ _ => ⟨rfl, rfl⟩⟩
theorem KY.tr {T : Nat → Nat} {s : Nat} {μ μ1 μ2 : Mu} (h : KY T s μ μ1) (g : KY T s μ1 μ2) : KY T s μ μ2 := ⟨fun o a => by rw [g.1 o a, h.1 o a], by rw [g.2.1, h.2.1], fun y hy => ⟨by rw [(g.2.2 y hy).1, (h.2.2 y hy).1], by rw [(g.2.2 y hy).2, (h.2.2 y hy).2]⟩⟩
theorem KX.ky {T : Nat → Nat} {s h k y : Nat} {μ μ' : Mu} (q : KX y (ixC T h s k) μ μ') (hh : h ≤ hlf T 1) (hk : k < Wn (opnN T) s) : KY T s μ μ' := ⟨fun o a => q.1 o (fun z => a (by unfold ZC at z; unfold ZL; omega)), q.2.1, fun y hy => q.2.2.1 y (hy h k hh hk)⟩
theorem KY.ga {T : Nat → Nat} {s : Nat} {μ μ' : Mu} (h : KY T s μ μ') (hG : GA μ T) : GA μ' T := GA_o hG (fun o a b => h.1 o (by unfold ZL; omega))
theorem weighLevel_s (n : Nat) (μ : Mu) {T : Nat → Nat} {lo : Nat → Nat → Nat → Int} {s : Nat} (hW : WF T) (hG : GA μ T) (h40 : s ≤ 40) (h6 : bhS T (s + 1) ≤ 6000) (h3 : Wn (opnN T) s ≤ 3003) (hlo : loB T s lo) (hl : ALK T → ∀ s' k, s' < s → k < Wn (opnN T) s' → lo 1 s' k = lo 0 s' k) (hP : ∀ h k, h ≤ hlf T 1 → k < Wn (opnN T) s → PMi μ T s lo h k (T 1)) (hV : ∀ h k, h ≤ hlf T 1 → k < Wn (opnN T) s → VC μ T s lo 0 h k) (hn : 20000 < n) :
    Ok (X7_weighLevel n (nI s) μ) (fun _ μ' => (∀ h k, h ≤ hlf T 1 → k < Wn (opnN T) s → VC μ' T s lo 6007 h k) ∧ KY T s μ μ') := by
  have b6 := hW.1.2.1
  have hH2 := hlf_lt (T := T) (show 1 < 2 by decide)
  -- kept by all that comes
  have pk : ∀ μ', (∀ o, o = 18 ∨ o = 20 ∨ o = 21 → μ'.1 o = μ.1 o) → ∀ h k, h ≤ hlf T 1 → k < Wn (opnN T) s → PMi μ' T s lo h k (T 1) := fun μ' e h k a b => PMi_o (hP h k a b) (by omega) (by rw [e 18 (by omega)]) (by rw [e 20 (by omega)]) (fun j _ => by rw [e 21 (by omega)])
  unfold X7_weighLevel X7_weighLevel_4
  rw [i_1]
  refine Ok_lp2 (fun f x2 x3 μ' => ∃ r, r ≤ 6007 ∧ f = 6008 - r ∧ x3 = nI (r + 1) ∧ (∀ h k, h ≤ hlf T 1 → k < Wn (opnN T) s → VC μ' T s lo r h k) ∧ (∀ o, o = 18 ∨ o = 20 ∨ o = 21 → μ'.1 o = μ.1 o) ∧ KY T s μ μ' ∧ (x2 = nI 1 ∨ (x2 = nI 0 ∧ 1 ≤ r ∧ ∀ sd k, sd < 2 → k < Wn (opnN T) s → itV T s lo r sd k = itV T s lo (r - 1) sd k))) ?_ 6008 (by omega) ⟨0, by omega, rfl, rfl, hV, fun _ _ => rfl, KY.rf, Or.inl rfl⟩
  rintro K1 f x2 x3 μ1 ⟨r, hr, rfl, rfl, hV1, hp1, ky1, hor⟩ hK1
  unfold X7_weighLevel_4b X7_weighLevel_79
  rcases hor with rfl | ⟨rfl, hr1, heq⟩
  · rw [if_neg (show ¬ nI 1 = 0 by decide), i_6007, ifLt (by decide) (by omega)]
    by_cases c : 6007 < r + 1
    · obtain rfl : r = 6007 := by omega
      rw [if_pos c]
      exact Ok_r ⟨hV1, ky1⟩
    · rw [if_neg c]
      unfold X7_weighLevel_20
      rw [i_0]
      have vb := it_b hW h40 hlo r
      refine Ok_lp3 (fun f x2 x3 x4 μ' => ∃ h, h ≤ hlf T 1 + 1 ∧ f = hlf T 1 + 1 - h ∧ x2 = nI 0 ∧ x3 = nI (r + 1) ∧ x4 = nI h ∧ (∀ h' k, h' < h → k < Wn (opnN T) s → μ'.1 19 (h' * 3003 + k) = iv (mxV (fmV T s lo (itV T s lo r) h' k) (T 1))) ∧ (∀ o, o ≠ 19 → μ'.1 o = μ1.1 o) ∧ μ'.2 = μ1.2) ?_ (hlf T 1 + 1) (by omega) ⟨0, by omega, rfl, rfl, rfl, rfl, fun h' k q => by omega, fun _ _ => rfl, rfl⟩
      rintro K2 f x2 x3 x4 μ2 ⟨h, hh, rfl, rfl, rfl, rfl, hF2, ho2, h22⟩ hK2
      have ga2 : GA μ2 T := GA_o (ky1.ga hG) (fun o a b => ho2 o (by omega))
      unfold X7_weighLevel_20b
      rw [i_1, bS (halfOf_s n μ2 ga2)]
      dsimp only
      rw [ifLt (by omega) (by omega)]
      by_cases c2 : hlf T 1 < h
      · rw [if_pos c2]
        unfold X7_weighLevel_46
        rw [i_0]
        refine Ok_lp3 (fun f x2 x3 x4 μ' => ∃ h fl, h ≤ hlf T 1 + 1 ∧ f = hlf T 1 + 1 - h ∧ x2 = nI fl ∧ fl < 2 ∧ x3 = nI (r + 1) ∧ x4 = nI h ∧ (∀ h' k, h' < h → k < Wn (opnN T) s → VC μ' T s lo (r + 1) h' k) ∧ (∀ h' k, h ≤ h' → h' ≤ hlf T 1 → k < Wn (opnN T) s → VC μ' T s lo r h' k) ∧ (fl = 0 ↔ ∀ h' k, h' < h → k < Wn (opnN T) s → itV T s lo (r + 1) h' k = itV T s lo r h' k) ∧ (∀ o, o ≠ 16 → o ≠ 17 → μ'.1 o = μ2.1 o) ∧ KY T s μ μ') ?_ (hlf T 1 + 1) (by omega) ⟨0, 0, by omega, rfl, rfl, by decide, rfl, rfl, fun h' k q => by omega, fun h' k _ a b => ⟨by rw [ho2 16 (by decide)]; exact (hV1 h' k a b).1, by rw [ho2 17 (by decide)]; exact (hV1 h' k a b).2⟩, ⟨fun _ h' k q => by omega, fun _ => rfl⟩, fun _ _ _ => rfl, ky1.tr ⟨fun o a => ho2 o (fun q => a (by unfold ZL; omega)), h22, fun y _ => ⟨by rw [ho2 16 (by decide)], by rw [ho2 17 (by decide)]⟩⟩⟩
        rintro K3 f x2 x3 x4 μ3 ⟨h3', fl, hh3, rfl, rfl, hfl, rfl, rfl, hD3, hU3, hfi, ho3, ky3⟩ hK3
        unfold X7_weighLevel_46b
        rw [i_1, bS (halfOf_s n μ3 (ky3.ga hG))]
        dsimp only
        rw [ifLt (by omega) (by omega)]
        by_cases c3 : hlf T 1 < h3'
        · rw [if_pos c3, nI_add]
          have p18 : ∀ o, o = 18 ∨ o = 20 ∨ o = 21 → μ3.1 o = μ.1 o := fun o q => by rw [ho3 o (by omega) (by omega), ho2 o (by omega)]; exact hp1 o q
          refine hK1 (6008 - (r + 1)) _ _ _ (by omega) ⟨r + 1, by omega, rfl, rfl, fun h k a b => hD3 h k (by omega) b, p18, ky3, ?_⟩
          by_cases z : fl = 0
          · refine Or.inr ⟨by rw [z], by omega, fun sd k a b => ?_⟩
            rw [Nat.add_sub_cancel, ← (hv_it hW h40 hl a b (r + 1)).1, ← (hv_it hW h40 hl a b r).1]
            exact hfi.mp z _ k (by have := hlf_le (T := T) a; omega) b
          · exact Or.inl (by rw [show fl = 1 by omega])
        · rw [if_neg c3]
          have hle : h3' ≤ hlf T 1 := by omega
          refine Ok_b (settleAll_s n μ3 hW (ky3.ga hG) hle h40 h6 h3 hlo (fun k hk => ?_) (fun k hk => hU3 h3' k (Nat.le_refl _) hle hk) (by omega) (fun k _ => itR_le r) (by omega)) ?_
          · rw [ho3 19 (by decide) (by decide)]
            exact hF2 h3' k (by omega) hk
          · rintro _ μ4 ⟨hD4, ⟨fl2, hfl2, rfl, hfi2⟩, ho4, h24, hy4⟩
            dsimp only
            rw [fa_or, nI_add]
            have other : ∀ h' k R, h' ≤ hlf T 1 → h' ≠ h3' → k < Wn (opnN T) s → VC μ3 T s lo R h' k → VC μ4 T s lo R h' k := by
              intro h' k R a b c d
              obtain ⟨y1, y2⟩ := hy4 (ixC T h' s k) (fun k2 hk2 e => b (ix_in h6 a hle c hk2 e).1)
              exact ⟨by rw [y1]; exact d.1, by rw [y2]; exact d.2⟩
            refine hK3 (hlf T 1 + 1 - (h3' + 1)) _ _ _ _ (by omega) ⟨h3' + 1, fl ||| fl2, by omega, rfl, rfl, ?_, rfl, rfl, fun h' k a b => ?_, fun h' k a b c => other h' k _ b (by omega) c (hU3 h' k (by omega) b c), ?_, fun o a b => by rw [ho4 o a b]; exact ho3 o a b, ky3.tr ⟨fun o a => ho4 o (fun q => a (by unfold ZL; omega)) (fun q => a (by unfold ZL; omega)), h24, fun y hy => hy4 y (fun k hk => hy h3' k hle hk)⟩⟩
            · obtain rfl | rfl : fl = 0 ∨ fl = 1 := by omega
              all_goals obtain rfl | rfl : fl2 = 0 ∨ fl2 = 1 := by omega
              all_goals decide
            · by_cases z : h' = h3'
              · rw [z]; exact hD4 k b
              · exact other h' k _ (by omega) z b (hD3 h' k (by omega) b)
            · have e0 : fl ||| fl2 = 0 ↔ fl = 0 ∧ fl2 = 0 := by
                obtain rfl | rfl : fl = 0 ∨ fl = 1 := by omega
                all_goals obtain rfl | rfl : fl2 = 0 ∨ fl2 = 1 := by omega
                all_goals decide
              rw [e0, hfi, hfi2]
              refine ⟨fun a h' k b c => ?_, fun a => ⟨fun h' k b c => a h' k (by omega) c, fun k c => a h3' k (by omega) c⟩⟩
              by_cases z : h' = h3'
              · rw [z]; exact a.2 k c
              · exact a.1 h' k (by omega) c
      · rw [if_neg c2]
        have hle : h ≤ hlf T 1 := by omega
        refine Ok_b (weighAll_s n μ2 (lo := lo) (v := itV T s lo r) hW ga2 (by omega) h40 h6 h3 vb (fun k hk => pk μ2 (fun o q => by rw [ho2 o (by omega)]; exact hp1 o q) h k hle hk) (fun sd k a b => ?_) (by omega)) ?_
        · rw [ho2 16 (by decide), ← ix_h a, (hV1 (hlf T sd) k (hlf_le a) b).1, (hv_it hW h40 hl a b r).1]
        · rintro _ μ3 ⟨hF3, ho3, h23, hx3⟩
          dsimp only
          rw [nI_add]
          refine hK2 (hlf T 1 + 1 - (h + 1)) _ _ _ _ (by omega) ⟨h + 1, by omega, rfl, rfl, rfl, rfl, fun h' k a b => ?_, fun o a => by rw [ho3 o a]; exact ho2 o a, by rw [h23, h22]⟩
          by_cases z : h' = h
          · rw [z]; exact hF3 k b
          · rw [hx3 _ (by omega)]; exact hF2 h' k (by omega) b
  · rw [if_pos (show nI 0 = 0 from rfl)]
    have hst := it_st (lo := lo) hW h40 (r := r - 1) (by
      intro sd k a b
      rw [show r - 1 + 1 = r by omega]
      exact heq sd k a b)
    refine Ok_r ⟨fun h k a b => ?_, ky1⟩
    have e1 := hst (r - (r - 1)) h k (by omega) b
    have e2 := hst (6007 - (r - 1)) h k (by omega) b
    rw [show r - 1 + (r - (r - 1)) = r by omega] at e1
    rw [show r - 1 + (6007 - (r - 1)) = 6007 by omega] at e2
    obtain ⟨v1, v2⟩ := hV1 h k a b
    exact ⟨by rw [v1, e1.1, e2.1], by rw [v2, e1.2, e2.2]⟩
