/-! the reference settles a number of seeds -/
def VS (μ : Mu) (T : Nat → Nat) (s sd k : Nat) (V : Nat → Nat → Int) (R : Nat → Nat → Nat) : Prop := μ.1 184 (xS T sd s k) = iv (V sd k) ∧ μ.1 185 (xS T sd s k) = nI (R sd k)
def KS (T : Nat → Nat) (s : Nat) (μ μ' : Mu) : Prop := (∀ o, o ≠ 171 → o ≠ 178 → o ≠ 183 → o ≠ 184 → o ≠ 185 → o ≠ 186 → μ'.1 o = μ.1 o) ∧ μ'.2 = μ.2 ∧ (∀ k, k ≠ 31 → μ'.1 171 k = μ.1 171 k) ∧ (∀ y, (∀ sd k, sd < 2 → k < Wn (opnN T) s → y ≠ xS T sd s k) → μ'.1 184 y = μ.1 184 y ∧ μ'.1 185 y = μ.1 185 y)
theorem KS.rf {T : Nat → Nat} {s : Nat} {μ : Mu} : KS T s μ μ := ⟨fun _ _ _ _ _ _ _ => rfl, rfl, fun _ _ => rfl, fun _ _ => ⟨rfl, rfl⟩⟩
theorem KS.tr {T : Nat → Nat} {s : Nat} {μ μ1 μ2 : Mu} (h : KS T s μ μ1) (g : KS T s μ1 μ2) : KS T s μ μ2 := ⟨fun o a b c d e f => by rw [g.1 o a b c d e f, h.1 o a b c d e f], by rw [g.2.1, h.2.1], fun k a => by rw [g.2.2.1 k a, h.2.2.1 k a], fun y hy => ⟨by rw [(g.2.2.2 y hy).1, (h.2.2.2 y hy).1], by rw [(g.2.2.2 y hy).2, (h.2.2.2 y hy).2]⟩⟩
theorem KL.ks {T : Nat → Nat} {s : Nat} {μ μ' : Mu} (h : KL μ μ') : KS T s μ μ' := ⟨fun o a b c d e f => h.1 o a b c, h.2.1, h.2.2, fun y _ => ⟨by rw [h.1 184 (by decide) (by decide) (by decide)], by rw [h.1 185 (by decide) (by decide) (by decide)]⟩⟩
theorem KS.v {T : Nat → Nat} {s : Nat} {μ μ' : Mu} (h : KS T s μ μ') {sd k : Nat} {a b : Int32} (hs : sd < 2) (hk : k < Wn (opnN T) s) : KS T s μ (si (si μ' 184 (xS T sd s k) a) 185 (xS T sd s k) b) := ⟨fun o a b c d e f => by rw [si_o e, si_o d, h.1 o a b c d e f], h.2.1, fun k a => by rw [si_b (by decide), si_b (by decide), h.2.2.1 k a], fun y hy => ⟨by rw [si_b (by decide), si_c (hy sd k hs hk), (h.2.2.2 y hy).1], by rw [si_c (hy sd k hs hk), si_b (by decide), (h.2.2.2 y hy).2]⟩⟩
theorem KS.o {T : Nat → Nat} {s : Nat} {μ μ' : Mu} (h : KS T s μ μ') {k : Nat} {a : Int32} : KS T s μ (si μ' 186 k a) := ⟨fun o a b c d e f => by rw [si_o f, h.1 o a b c d e f], h.2.1, fun k a => by rw [si_b (by decide), h.2.2.1 k a], fun y hy => ⟨by rw [si_b (by decide), (h.2.2.2 y hy).1], by rw [si_b (by decide), (h.2.2.2 y hy).2]⟩⟩
theorem settles_s (n : Nat) (μ : Mu) {T : Nat → Nat} {s : Nat} {lo : Nat → Nat → Nat → Int} (hW : WF T) (h40 : s ≤ 40) (hT : TX μ T) (hb : ∀ t, t ≤ s + 1 → μ.1 189 t = nI (bhS T t)) (h6 : bhS T (s + 1) ≤ 6000) (h3 : Wn (opnN T) s ≤ 3003) (hlo : loB T s lo) (hL : ∀ sd' s' k', sd' < 2 → s' < s → k' < Wn (opnN T) s' → μ.1 184 (xS T sd' s' k') = iv (lo sd' s' k')) (hP : ∀ sd k, sd < 2 → k < Wn (opnN T) s → PD μ T sd s k) (hn : 20000 < n) :
    Ok (X12_settles n (nI s) μ) (fun _ μ' => (∀ sd k, sd < 2 → k < Wn (opnN T) s → VS μ' T s sd k (itV T s lo 6007) (itR T s lo 6007)) ∧ KS T s μ μ') := by
  have h6' := h6
  rw [bh_s] at h6'
  have hb' : ∀ μ', KS T s μ μ' → ∀ t, t ≤ s + 1 → μ'.1 189 t = nI (bhS T t) := fun μ' hk t ht => by rw [hk.1 189 (by decide) (by decide) (by decide) (by decide) (by decide) (by decide)]; exact hb t ht
  have hT' : ∀ μ', KS T s μ μ' → TX μ' T := fun μ' hk => TX_o hT (hk.1 172 (by decide) (by decide) (by decide) (by decide) (by decide) (by decide))
  have hP' : ∀ μ', KS T s μ μ' → ∀ sd k, sd < 2 → k < Wn (opnN T) s → PD μ' T sd s k := fun μ' hk sd k a b => PD_o (hP sd k a b) (by rw [hk.1 190 (by decide) (by decide) (by decide) (by decide) (by decide) (by decide)]) (fun w _ => ⟨by rw [hk.1 187 (by decide) (by decide) (by decide) (by decide) (by decide) (by decide)], by rw [hk.1 188 (by decide) (by decide) (by decide) (by decide) (by decide) (by decide)]⟩)
  have lowne : ∀ sd' s' k', sd' < 2 → s' < s → k' < Wn (opnN T) s' → ∀ sd k, sd < 2 → k < Wn (opnN T) s → xS T sd' s' k' ≠ xS T sd s k := by
    intro sd' s' k' h1 h2 h4 sd k h5 h7 e
    have := bh_mo (T := T) (show s' + 1 ≤ s by omega)
    rw [bh_s] at this
    unfold xS at e
    omega
  have hL' : ∀ μ', KS T s μ μ' → ∀ sd' s' k', sd' < 2 → s' < s → k' < Wn (opnN T) s' → μ'.1 184 (xS T sd' s' k') = iv (lo sd' s' k') := fun μ' hk sd' s' k' a b c => by rw [(hk.2.2.2 _ (lowne sd' s' k' a b c)).1]; exact hL sd' s' k' a b c
  unfold X12_settles X12_settles_18
  rw [i_1, nI_add, gd_n (by omega) (by decide), gd_n (by omega) (by decide), nI_clamp (by omega), nI_clamp (by omega), hb (s + 1) (by omega), hb s (by omega), pk_sub (bh_mo (by omega)), bh_s, Nat.add_sub_cancel_left, i_0]
  refine Ok_lp2 (fun f x2 x3 μ' => ∃ sd, sd ≤ 2 ∧ f = 2 - sd ∧ x2 = nI (Wn (opnN T) s) ∧ x3 = nI sd ∧ (∀ sd' k', sd' < sd → k' < Wn (opnN T) s → VS μ' T s sd' k' (itV T s lo 0) (itR T s lo 0)) ∧ KS T s μ μ') ?_ 2 (by omega) ⟨0, by omega, rfl, rfl, rfl, fun sd' k' h => by omega, KS.rf⟩
  rintro K1 f x2 x3 μ1 ⟨sd, hsd, rfl, rfl, rfl, hV1, hk1⟩ hK1
  unfold X12_settles_18b
  rw [i_2, ifLe (by decide) (by omega)]
  by_cases c : 2 ≤ sd
  · obtain rfl : sd = 2 := by omega
    rw [if_pos c]
    unfold X12_settles_96
    rw [i_1]
    refine Ok_lp3 (fun f x2 x3 x4 μ' => ∃ r, 1 ≤ r ∧ r ≤ 2 * Wn (opnN T) s + 2 ∧ f = 2 * Wn (opnN T) s + 3 - r ∧ x2 = nI (Wn (opnN T) s) ∧ x4 = nI r ∧ (∀ sd k, sd < 2 → k < Wn (opnN T) s → VS μ' T s sd k (itV T s lo (r - 1)) (itR T s lo (r - 1))) ∧ KS T s μ μ' ∧ ((x3 = nI 1 ∧ r ≤ 2 * Wn (opnN T) s + 1) ∨ (x3 = nI 0 ∧ 2 ≤ r ∧ ∀ sd k, sd < 2 → k < Wn (opnN T) s → itV T s lo (r - 1) sd k = itV T s lo (r - 2) sd k))) ?_ (2 * Wn (opnN T) s + 2) (by omega) ⟨1, by omega, by omega, by omega, rfl, rfl, fun sd k a b => hV1 sd k (by omega) b, hk1, Or.inl ⟨rfl, by omega⟩⟩
    rintro K2 f x2 x3 x4 μ2 ⟨r, hr1, hr2, rfl, rfl, rfl, hV2, hk2, hor⟩ hK2
    unfold X12_settles_96b
    rcases hor with ⟨rfl, hr3⟩ | ⟨rfl, hr3, heq⟩
    · rw [if_neg (show ¬ nI 1 = 0 by decide)]
      unfold X12_settles_105
      rw [i_0]
      refine Ok_lp4 (fun f x2 x3 x4 x5 μ' => ∃ sd, sd ≤ 2 ∧ f = 2 - sd ∧ x2 = nI (Wn (opnN T) s) ∧ x3 = nI 0 ∧ x4 = nI r ∧ x5 = nI sd ∧ (∀ sd k, sd < 2 → k < Wn (opnN T) s → VS μ' T s sd k (itV T s lo (r - 1)) (itR T s lo (r - 1))) ∧ (∀ sd' k', sd' < sd → k' < Wn (opnN T) s → μ'.1 186 (xS T sd' s k') = iv (itV T s lo (r - 1) sd' k')) ∧ KS T s μ μ') ?_ 2 (by omega) ⟨0, by omega, rfl, rfl, rfl, rfl, rfl, hV2, fun sd' k' h => by omega, hk2⟩
      rintro K3 f x2 x3 x4 x5 μ3 ⟨sd, hsd, rfl, rfl, rfl, rfl, rfl, hV3, hO3, hk3⟩ hK3
      unfold X12_settles_105b
      rw [i_2, ifLe (by decide) (by omega)]
      by_cases c3 : 2 ≤ sd
      · obtain rfl : sd = 2 := by omega
        rw [if_pos c3]
        unfold X12_settles_163
        rw [i_0]
        have vb := it_b hW h40 hlo (r - 1)
        refine Ok_lp4 (fun f x2 x3 x4 x5 μ' => ∃ sd fl, sd ≤ 2 ∧ f = 2 - sd ∧ x2 = nI (Wn (opnN T) s) ∧ x3 = nI fl ∧ fl < 2 ∧ x4 = nI r ∧ x5 = nI sd ∧ (∀ sd' k', sd' < sd → k' < Wn (opnN T) s → VS μ' T s sd' k' (itV T s lo r) (itR T s lo r)) ∧ (∀ sd' k', sd ≤ sd' → sd' < 2 → k' < Wn (opnN T) s → VS μ' T s sd' k' (itV T s lo (r - 1)) (itR T s lo (r - 1))) ∧ (∀ sd' k', sd' < 2 → k' < Wn (opnN T) s → μ'.1 186 (xS T sd' s k') = iv (itV T s lo (r - 1) sd' k')) ∧ KS T s μ μ' ∧ (fl = 0 ↔ ∀ sd' k', sd' < sd → k' < Wn (opnN T) s → itV T s lo r sd' k' = itV T s lo (r - 1) sd' k')) ?_ 2 (by omega) ⟨0, 0, by omega, rfl, rfl, rfl, by decide, rfl, rfl, fun sd' k' h => by omega, fun sd' k' _ h1 h2 => hV3 sd' k' h1 h2, fun sd' k' h1 h2 => hO3 sd' k' h1 h2, hk3, ⟨fun _ sd' k' h => by omega, fun _ => rfl⟩⟩
        rintro K4 f x2 x3 x4 x5 μ4 ⟨sd, fl, hsd, rfl, rfl, rfl, hfl, rfl, rfl, hV4, hU4, hO4, hk4, hfi⟩ hK4
        unfold X12_settles_163b
        rw [i_2, ifLe (by decide) (by omega)]
        by_cases c4 : 2 ≤ sd
        · obtain rfl : sd = 2 := by omega
          rw [if_pos c4, i_1, nI_add]
          by_cases zf : fl = 0
          · have h0 := hfi.mp zf
            refine hK2 (2 * Wn (opnN T) s + 3 - (r + 1)) _ _ _ _ (by omega) ⟨r + 1, by omega, by omega, rfl, rfl, rfl, fun sd k a b => by rw [Nat.add_sub_cancel]; exact hV4 sd k (by omega) b, hk4, Or.inr ⟨by rw [zf], by omega, fun sd k a b => ?_⟩⟩
            rw [Nat.add_sub_cancel, show r + 1 - 2 = r - 1 by omega]
            exact h0 sd k (by omega) b
          · have hr4 : r ≤ 2 * Wn (opnN T) s := by
              refine Decidable.byContradiction (fun z => zf (hfi.mpr (fun sd' k' a b => ?_)))
              have := it_end hW h40 hlo (r := r - 1) (by omega) sd' k' (by omega) b
              rw [show r - 1 + 1 = r by omega] at this
              exact this
            exact hK2 (2 * Wn (opnN T) s + 3 - (r + 1)) _ _ _ _ (by omega) ⟨r + 1, by omega, by omega, rfl, rfl, rfl, fun sd k a b => by rw [Nat.add_sub_cancel]; exact hV4 sd k (by omega) b, hk4, Or.inl ⟨by rw [show fl = 1 by omega], by omega⟩⟩
        · rw [if_neg c4]
          unfold X12_settles_172
          rw [i_0]
          refine Ok_lp5 (fun f x2 x3 x4 x5 x6 μ' => ∃ k fl, k ≤ Wn (opnN T) s ∧ f = Wn (opnN T) s - k ∧ x2 = nI (Wn (opnN T) s) ∧ x3 = nI fl ∧ fl < 2 ∧ x4 = nI r ∧ x5 = nI sd ∧ x6 = nI k ∧ (∀ sd' k', sd' < 2 → k' < Wn (opnN T) s → (sd' < sd ∨ (sd' = sd ∧ k' < k)) → VS μ' T s sd' k' (itV T s lo r) (itR T s lo r)) ∧ (∀ sd' k', sd' < 2 → k' < Wn (opnN T) s → ¬ (sd' < sd ∨ (sd' = sd ∧ k' < k)) → VS μ' T s sd' k' (itV T s lo (r - 1)) (itR T s lo (r - 1))) ∧ (∀ sd' k', sd' < 2 → k' < Wn (opnN T) s → μ'.1 186 (xS T sd' s k') = iv (itV T s lo (r - 1) sd' k')) ∧ KS T s μ μ' ∧ (fl = 0 ↔ ∀ sd' k', sd' < 2 → k' < Wn (opnN T) s → (sd' < sd ∨ (sd' = sd ∧ k' < k)) → itV T s lo r sd' k' = itV T s lo (r - 1) sd' k')) ?_ (Wn (opnN T) s) (by omega) ⟨0, fl, by omega, rfl, rfl, rfl, hfl, rfl, rfl, rfl, fun sd' k' h1 h2 h4 => hV4 sd' k' (by omega) h2, fun sd' k' h1 h2 h4 => hU4 sd' k' (by omega) h1 h2, hO4, hk4, ⟨fun z sd' k' h1 h2 h4 => hfi.mp z sd' k' (by omega) h2, fun z => hfi.mpr (fun sd' k' h1 h2 => z sd' k' (by omega) h2 (Or.inl h1))⟩⟩
          rintro K5 f x2 x3 x4 x5 x6 μ5 ⟨k, fl2, hk, rfl, rfl, rfl, hfl2, rfl, rfl, rfl, hV5, hU5, hO5, hk5, hfi5⟩ hK5
          unfold X12_settles_172b
          rw [ifLe (by omega) (by omega)]
          by_cases c5 : Wn (opnN T) s ≤ k
          · rw [if_pos c5, i_1, nI_add]
            exact hK4 (2 - (sd + 1)) _ _ _ _ _ (by omega) ⟨sd + 1, fl2, by omega, rfl, rfl, rfl, hfl2, rfl, rfl, fun sd' k' h1 h2 => hV5 sd' k' (by omega) h2 (by omega), fun sd' k' h1 h2 h4 => hU5 sd' k' h2 h4 (by omega), hO5, hk5, ⟨fun z sd' k' h1 h2 => hfi5.mp z sd' k' (by omega) h2 (by omega), fun z => hfi5.mpr (fun sd' k' h1 h2 h4 => z sd' k' (by omega) h2)⟩⟩
          · have hkW : k < Wn (opnN T) s := by omega
            have hs : sd < 2 := by omega
            rw [if_neg c5, bS (seat_s n μ5 (hb' μ5 hk5 s (by omega)) (by omega))]
            dsimp only
            obtain ⟨cv, cr⟩ := hU5 sd k hs hkW (by omega)
            have est : stV T s lo (itV T s lo (r - 1)) sd k = itV T s lo r sd k := by
              conv => rhs; rw [show r = r - 1 + 1 by omega, itV]
            have hend : enD T sd s k = true → itV T s lo (r - 1) sd k = edV T sd s k := by
              intro he
              cases hq : r - 1 with
              | zero => show (if enD T sd s k = true then edV T sd s k else 0) = _; rw [he, if_pos rfl]
              | succ q => show stV T s lo (itV T s lo q) sd k = _; unfold stV; rw [he, if_pos rfl]
            refine Ok_b (betters_s n μ5 (r := r) hW h40 hs hkW h6 (hT' μ5 hk5) (hP' μ5 hk5 sd k hs hkW) hlo vb (hL' μ5 hk5) hO5 cv (vb sd k hs hkW) hend (by omega)) ?_
            rintro a μ6 ⟨hsame, hdiff⟩
            dsimp only
            rw [est] at hsame hdiff
            have eR : ∀ (h : itV T s lo r sd k = itV T s lo (r - 1) sd k), itR T s lo r sd k = itR T s lo (r - 1) sd k := by
              intro h
              conv => lhs; rw [show r = r - 1 + 1 by omega, itR]
              dsimp only
              rw [show r - 1 + 1 = r by omega, if_pos h]
            have eR2 : ∀ (h : ¬ itV T s lo r sd k = itV T s lo (r - 1) sd k), itR T s lo r sd k = r := by
              intro h
              conv => lhs; rw [show r = r - 1 + 1 by omega, itR]
              dsimp only
              rw [show r - 1 + 1 = r by omega, if_neg h]
            by_cases z : itV T s lo r sd k = itV T s lo (r - 1) sd k
            · obtain ⟨rfl, rfl⟩ := hsame z
              rw [fa_or, Nat.or_zero, i_1, nI_add]
              refine hK5 (Wn (opnN T) s - (k + 1)) _ _ _ _ _ _ (by omega) ⟨k + 1, fl2, by omega, rfl, rfl, rfl, hfl2, rfl, rfl, rfl, fun sd' k' h1 h2 h4 => ?_, fun sd' k' h1 h2 h4 => hU5 sd' k' h1 h2 (by omega), hO5, hk5, ?_⟩
              · by_cases z2 : sd' = sd ∧ k' = k
                · obtain ⟨rfl, rfl⟩ := z2
                  exact ⟨by rw [cv, z], by rw [cr, eR z]⟩
                · exact hV5 sd' k' h1 h2 (by omega)
              · rw [hfi5]
                refine ⟨fun y sd' k' h1 h2 h4 => ?_, fun y sd' k' h1 h2 h4 => y sd' k' h1 h2 (by omega)⟩
                by_cases z2 : sd' = sd ∧ k' = k
                · obtain ⟨rfl, rfl⟩ := z2; exact z
                · exact y sd' k' h1 h2 (by omega)
            · obtain ⟨rfl, rfl⟩ := hdiff z
              have eor : fl2 ||| 1 = 1 := by
                obtain rfl | rfl : fl2 = 0 ∨ fl2 = 1 := by omega
                · rfl
                · rfl
              rw [fa_or, eor, i_1, nI_add]
              have ne : ∀ sd' k', sd' < 2 → k' < Wn (opnN T) s → ¬ (sd' = sd ∧ k' = k) → xS T sd' s k' ≠ xS T sd s k := fun sd' k' h1 h2 h4 e => h4 (xS_in h6 h1 hs h2 hkW e)
              have keep : ∀ sd' k' V R, sd' < 2 → k' < Wn (opnN T) s → ¬ (sd' = sd ∧ k' = k) → VS μ5 T s sd' k' V R → VS (si (si μ5 184 (xS T sd s k) (iv (itV T s lo r sd k))) 185 (xS T sd s k) (nI r)) T s sd' k' V R := fun sd' k' V R h1 h2 h4 h5 => ⟨by rw [si_b (by decide), si_c (ne sd' k' h1 h2 h4)]; exact h5.1, by rw [si_c (ne sd' k' h1 h2 h4), si_b (by decide)]; exact h5.2⟩
              refine hK5 (Wn (opnN T) s - (k + 1)) _ _ _ _ _ _ (by omega) ⟨k + 1, 1, by omega, rfl, rfl, rfl, by decide, rfl, rfl, rfl, fun sd' k' h1 h2 h4 => ?_, fun sd' k' h1 h2 h4 => keep sd' k' _ _ h1 h2 (by omega) (hU5 sd' k' h1 h2 (by omega)), fun sd' k' h1 h2 => by rw [si_b (by decide), si_b (by decide)]; exact hO5 sd' k' h1 h2, hk5.v hs hkW, ⟨fun y => by omega, fun y => absurd (y sd k hs hkW (by omega)) z⟩⟩
              by_cases z2 : sd' = sd ∧ k' = k
              · obtain ⟨rfl, rfl⟩ := z2
                exact ⟨by rw [si_b (by decide), si_a], by rw [si_a, eR2 z]⟩
              · exact keep sd' k' _ _ h1 h2 z2 (hV5 sd' k' h1 h2 (by omega))
      · rw [if_neg c3]
        unfold X12_settles_114
        rw [i_0]
        refine Ok_lp5 (fun f x2 x3 x4 x5 x6 μ' => ∃ k, k ≤ Wn (opnN T) s ∧ f = Wn (opnN T) s - k ∧ x2 = nI (Wn (opnN T) s) ∧ x3 = nI 0 ∧ x4 = nI r ∧ x5 = nI sd ∧ x6 = nI k ∧ (∀ sd k, sd < 2 → k < Wn (opnN T) s → VS μ' T s sd k (itV T s lo (r - 1)) (itR T s lo (r - 1))) ∧ (∀ sd' k', sd' < 2 → k' < Wn (opnN T) s → (sd' < sd ∨ (sd' = sd ∧ k' < k)) → μ'.1 186 (xS T sd' s k') = iv (itV T s lo (r - 1) sd' k')) ∧ KS T s μ μ') ?_ (Wn (opnN T) s) (by omega) ⟨0, by omega, rfl, rfl, rfl, rfl, rfl, rfl, hV3, fun sd' k' h1 h2 h4 => hO3 sd' k' (by omega) h2, hk3⟩
        rintro K4 f x2 x3 x4 x5 x6 μ4 ⟨k, hk, rfl, rfl, rfl, rfl, rfl, rfl, hV4, hO4, hk4⟩ hK4
        unfold X12_settles_114b
        rw [ifLe (by omega) (by omega)]
        by_cases c4 : Wn (opnN T) s ≤ k
        · rw [if_pos c4, i_1, nI_add]
          exact hK3 (2 - (sd + 1)) _ _ _ _ _ (by omega) ⟨sd + 1, by omega, rfl, rfl, rfl, rfl, rfl, hV4, fun sd' k' h1 h2 => hO4 sd' k' (by omega) h2 (by omega), hk4⟩
        · have hkW : k < Wn (opnN T) s := by omega
          have hs : sd < 2 := by omega
          have hx := (xS_lt hs h6 hkW).1
          rw [if_neg c4, bS (seat_s n μ4 (hb' μ4 hk4 s (by omega)) (by omega))]
          dsimp only
          rw [bS (seat_s n μ4 (hb' μ4 hk4 s (by omega)) (by omega))]
          dsimp only
          rw [gd_n hx (by decide), gd_n hx (by decide), nI_clamp (by omega), (hV4 sd k hs hkW).1, i_1, nI_add]
          refine hK4 (Wn (opnN T) s - (k + 1)) _ _ _ _ _ _ (by omega) ⟨k + 1, by omega, rfl, rfl, rfl, rfl, rfl, rfl, fun sd' k' h1 h2 => ⟨by rw [si_b (by decide)]; exact (hV4 sd' k' h1 h2).1, by rw [si_b (by decide)]; exact (hV4 sd' k' h1 h2).2⟩, fun sd' k' h1 h2 h4 => ?_, hk4.o⟩
          by_cases z2 : sd' = sd ∧ k' = k
          · obtain ⟨rfl, rfl⟩ := z2
            exact si_a
          · rw [si_c (fun e => z2 (xS_in h6 h1 hs h2 hkW e))]
            exact hO4 sd' k' h1 h2 (by omega)
    · rw [if_pos (show nI 0 = 0 from rfl)]
      refine Ok_r ⟨fun sd k a b => ?_, hk2⟩
      have hst := it_st (lo := lo) hW h40 (r := r - 2) (by
        intro sd k a b
        rw [show r - 2 + 1 = r - 1 by omega]
        exact heq sd k a b)
      have e1 := hst (r - 1 - (r - 2)) sd k a b
      have e2 := hst (6007 - (r - 2)) sd k a b
      rw [show r - 2 + (r - 1 - (r - 2)) = r - 1 by omega] at e1
      rw [show r - 2 + (6007 - (r - 2)) = 6007 by omega] at e2
      obtain ⟨v1, v2⟩ := hV2 sd k a b
      exact ⟨by rw [v1, e1.1, e2.1], by rw [v2, e1.2, e2.2]⟩
  · rw [if_neg c]
    have hs : sd < 2 := by omega
    unfold X12_settles_26
    rw [i_0]
    refine Ok_lp3 (fun f x2 x3 x4 μ' => ∃ k, k ≤ Wn (opnN T) s ∧ f = Wn (opnN T) s - k ∧ x2 = nI (Wn (opnN T) s) ∧ x3 = nI sd ∧ x4 = nI k ∧ (∀ sd' k', sd' < 2 → k' < Wn (opnN T) s → (sd' < sd ∨ (sd' = sd ∧ k' < k)) → VS μ' T s sd' k' (itV T s lo 0) (itR T s lo 0)) ∧ KS T s μ μ') ?_ (Wn (opnN T) s) (by omega) ⟨0, by omega, rfl, rfl, rfl, rfl, fun sd' k' h1 h2 h4 => hV1 sd' k' (by omega) h2, hk1⟩
    rintro K2 f x2 x3 x4 μ2 ⟨k, hk, rfl, rfl, rfl, rfl, hV2, hk2⟩ hK2
    unfold X12_settles_26b X12_settles_70
    rw [ifLe (by omega) (by omega)]
    by_cases c2 : Wn (opnN T) s ≤ k
    · rw [if_pos c2, i_1, nI_add]
      exact hK1 (2 - (sd + 1)) _ _ _ (by omega) ⟨sd + 1, by omega, rfl, rfl, rfl, fun sd' k' h1 h2 => hV2 sd' k' (by omega) h2 (by omega), hk2⟩
    · have hkW : k < Wn (opnN T) s := by omega
      have hx := (xS_lt hs h6 hkW).1
      have fin : ∀ (μ3 : Mu) (v : Int32), v = iv (itV T s lo 0 sd k) → KS T s μ μ3 → (∀ sd' k', sd' < 2 → k' < Wn (opnN T) s → (sd' < sd ∨ (sd' = sd ∧ k' < k)) → VS μ3 T s sd' k' (itV T s lo 0) (itR T s lo 0)) → Ok (K2 (nI (Wn (opnN T) s)) (nI sd) (nI (k + 1)) (si (si μ3 184 (xS T sd s k) v) 185 (xS T sd s k) (nI 0))) (fun _ μ' => (∀ sd k, sd < 2 → k < Wn (opnN T) s → VS μ' T s sd k (itV T s lo 6007) (itR T s lo 6007)) ∧ KS T s μ μ') := by
        intro μ3 v hv hk3 hV3
        refine hK2 (Wn (opnN T) s - (k + 1)) _ _ _ _ (by omega) ⟨k + 1, by omega, rfl, rfl, rfl, rfl, fun sd' k' h1 h2 h4 => ?_, hk3.v hs hkW⟩
        by_cases z2 : sd' = sd ∧ k' = k
        · obtain ⟨rfl, rfl⟩ := z2
          exact ⟨by rw [si_b (by decide), si_a, hv], by rw [si_a]; rfl⟩
        · have ne : xS T sd' s k' ≠ xS T sd s k := fun e => z2 (xS_in h6 h1 hs h2 hkW e)
          obtain ⟨a, b⟩ := hV3 sd' k' h1 h2 (by omega)
          exact ⟨by rw [si_b (by decide), si_c ne]; exact a, by rw [si_c ne, si_b (by decide)]; exact b⟩
      rw [if_neg c2, bS (seat_s n μ2 (hb' μ2 hk2 s (by omega)) (by omega))]
      dsimp only
      rw [gd_n hx (by decide), nI_clamp (by omega), (hP' μ2 hk2 sd k hs hkW).1]
      cases hE : enD T sd s k with
      | false =>
        rw [if_pos (show b2i false = 0 from rfl), gd_n hx (by decide), gd_n hx (by decide), i_0, i_1, nI_add]
        refine fin μ2 _ ?_ hk2 hV2
        show nI 0 = iv (if enD T sd s k = true then edV T sd s k else 0)
        rw [hE, if_neg (by decide)]
        rfl
      | true =>
        rw [if_neg (show ¬ b2i true = 0 by decide)]
        refine Ok_b (ownLess_s n μ2 hW (hT' μ2 hk2) hs h40 hkW (by omega) (by omega)) ?_
        rintro a μ3 ⟨rfl, kl⟩
        dsimp only
        rw [gd_n hx (by decide), gd_n hx (by decide), i_0, i_1, nI_add]
        refine fin μ3 _ ?_ (hk2.tr kl.ks) (fun sd' k' h1 h2 h4 => ?_)
        · show iv (edV T sd s k) = iv (if enD T sd s k = true then edV T sd s k else 0)
          rw [hE, if_pos rfl]
        · obtain ⟨a, b⟩ := hV2 sd' k' h1 h2 h4
          exact ⟨by rw [kl.1 184 (by decide) (by decide) (by decide)]; exact a, by rw [kl.1 185 (by decide) (by decide) (by decide)]; exact b⟩
