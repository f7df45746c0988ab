/-! the reference lays all moves of a number of seeds -/
def TX (μ : Mu) (T : Nat → Nat) : Prop := ∃ Tx, TD μ Tx ∧ RE T Tx ∧ Tx 0 = T 0 ∧ Tx 11 = T 11 ∧ Tx 12 = T 12 ∧ (∀ p, 2 * T 1 ≤ p → p < 12 → Tx (13 + p) = 0)
theorem TX_o {μ μ' : Mu} {T : Nat → Nat} (h : TX μ T) (e : μ'.1 172 = μ.1 172) : TX μ' T := by
  obtain ⟨Tx, a, b⟩ := h
  exact ⟨Tx, TD_o a e, b⟩
theorem TX_tr {μ : Mu} {T : Nat → Nat} {sd s k : Nat} (hs : sd < 2) (hk : k < Wn (opnN T) s) (h : TD μ (trT T sd s k)) : TX μ T := ⟨trT T sd s k, h, tr_re, rfl, rfl, rfl, fun p h1 h2 => by
  unfold trT
  rw [if_neg (by omega), if_pos (by omega), Nat.add_sub_cancel_left]
  exact (laC_p hs hk).2 p (Or.inl h1)⟩
def PD (μ : Mu) (T : Nat → Nat) (sd s k : Nat) : Prop := μ.1 190 (xS T sd s k) = b2i (enD T sd s k) ∧ ∀ w, w < T 1 → MD μ T sd s k w
theorem MD_o {μ μ' : Mu} {T : Nat → Nat} {sd s k w : Nat} (h : MD μ T sd s k w) (e1 : μ'.1 187 (6 * xS T sd s k + w) = μ.1 187 (6 * xS T sd s k + w)) (e2 : μ'.1 188 (6 * xS T sd s k + w) = μ.1 188 (6 * xS T sd s k + w)) : MD μ' T sd s k w := ⟨fun z => by rw [e1]; exact h.1 z, fun g st k' z => by rw [e1, e2]; exact h.2 g st k' z⟩
theorem PD_o {μ μ' : Mu} {T : Nat → Nat} {sd s k : Nat} (h : PD μ T sd s k) (e0 : μ'.1 190 (xS T sd s k) = μ.1 190 (xS T sd s k)) (e1 : ∀ w, w < T 1 → μ'.1 187 (6 * xS T sd s k + w) = μ.1 187 (6 * xS T sd s k + w) ∧ μ'.1 188 (6 * xS T sd s k + w) = μ.1 188 (6 * xS T sd s k + w)) : PD μ' T sd s k := ⟨by rw [e0]; exact h.1, fun w hw => MD_o (h.2 w hw) (e1 w hw).1 (e1 w hw).2⟩
/-- all is kept but what one number of seeds has -/
def KQ (T : Nat → Nat) (s : Nat) (μ μ' : Mu) : Prop := (∀ o, o ≠ 171 → o ≠ 172 → o ≠ 178 → o ≠ 183 → o ≠ 187 → o ≠ 188 → o ≠ 190 → μ'.1 o = μ.1 o) ∧ μ'.2 = μ.2 ∧ (∀ k, (k < 18 ∨ 23 < k) → k ≠ 31 → μ'.1 171 k = μ.1 171 k) ∧ (∀ y, (∀ sd k, sd < 2 → k < Wn (opnN T) s → y ≠ xS T sd s k) → μ'.1 190 y = μ.1 190 y) ∧ (∀ y, (∀ sd k w, sd < 2 → k < Wn (opnN T) s → w < 6 → y ≠ 6 * xS T sd s k + w) → μ'.1 187 y = μ.1 187 y ∧ μ'.1 188 y = μ.1 188 y)
theorem KQ.rf {T : Nat → Nat} {s : Nat} {μ : Mu} : KQ T s μ μ := ⟨fun _ _ _ _ _ _ _ _ => rfl, rfl, fun _ _ _ => rfl, fun _ _ => rfl, fun _ _ => ⟨rfl, rfl⟩⟩
theorem KQ.tr {T : Nat → Nat} {s : Nat} {μ μ1 μ2 : Mu} (h : KQ T s μ μ1) (g : KQ T s μ1 μ2) : KQ T s μ μ2 := ⟨fun o a b c d e f i => by rw [g.1 o a b c d e f i, h.1 o a b c d e f i], by rw [g.2.1, h.2.1], fun k a b => by rw [g.2.2.1 k a b, h.2.2.1 k a b], fun y hy => by rw [g.2.2.2.1 y hy, h.2.2.2.1 y hy], fun y hy => ⟨by rw [(g.2.2.2.2 y hy).1, (h.2.2.2.2 y hy).1], by rw [(g.2.2.2.2 y hy).2, (h.2.2.2.2 y hy).2]⟩⟩
theorem KL.kq {T : Nat → Nat} {s : Nat} {μ μ' : Mu} (h : KL μ μ') : KQ T s μ μ' := ⟨fun o a b c d e f i => h.1 o a c d, h.2.1, fun k a b => h.2.2 k b, fun y _ => by rw [h.1 190 (by decide) (by decide) (by decide)], fun y _ => ⟨by rw [h.1 187 (by decide) (by decide) (by decide)], by rw [h.1 188 (by decide) (by decide) (by decide)]⟩⟩
theorem KR.kq {T : Nat → Nat} {s : Nat} {μ μ' : Mu} (h : KR μ μ') : KQ T s μ μ' := ⟨fun o a b c d e f i => h.1 o a c, h.2.1, fun k a b => h.2.2 k a, fun y _ => by rw [h.1 190 (by decide) (by decide)], fun y _ => ⟨by rw [h.1 187 (by decide) (by decide)], by rw [h.1 188 (by decide) (by decide)]⟩⟩
theorem KQ.t {T : Nat → Nat} {s : Nat} {μ μ' : Mu} (h : KQ T s μ μ') {k : Nat} {v : Int32} : KQ T s μ (si μ' 172 k v) := ⟨fun o a b c d e f i => by rw [si_o b, h.1 o a b c d e f i], h.2.1, fun k a b => by rw [si_b (by decide), h.2.2.1 k a b], fun y hy => by rw [si_b (by decide), h.2.2.2.1 y hy], fun y hy => ⟨by rw [si_b (by decide), (h.2.2.2.2 y hy).1], by rw [si_b (by decide), (h.2.2.2.2 y hy).2]⟩⟩
theorem KQ.e {T : Nat → Nat} {s : Nat} {μ μ' : Mu} (h : KQ T s μ μ') {sd k : Nat} {v : Int32} (hs : sd < 2) (hk : k < Wn (opnN T) s) : KQ T s μ (si μ' 190 (xS T sd s k) v) := ⟨fun o a b c d e f i => by rw [si_o i, h.1 o a b c d e f i], h.2.1, fun k a b => by rw [si_b (by decide), h.2.2.1 k a b], fun y hy => by rw [si_c (hy sd k hs hk), h.2.2.2.1 y hy], fun y hy => ⟨by rw [si_b (by decide), (h.2.2.2.2 y hy).1], by rw [si_b (by decide), (h.2.2.2.2 y hy).2]⟩⟩
theorem KLM.kq {T : Nat → Nat} {s sd k w : Nat} {μ μ' : Mu} (hs : sd < 2) (hk : k < Wn (opnN T) s) (hw : w < 6) (h : KLM (6 * xS T sd s k + w) μ μ') : KQ T s μ μ' := ⟨fun o a b c d e f i => h.1 o a c d e f, h.2.1, fun k a b => h.2.2.1 k a b, fun y _ => by rw [h.1 190 (by decide) (by decide) (by decide) (by decide) (by decide)], fun y hy => h.2.2.2 y (hy sd k w hs hk hw)⟩
theorem xS_in {T : Nat → Nat} {s sd k sd' k' : Nat} (h6 : bhS T (s + 1) ≤ 6000) (hs : sd < 2) (hs' : sd' < 2) (hk : k < Wn (opnN T) s) (hk' : k' < Wn (opnN T) s) (h : xS T sd s k = xS T sd' s k') : sd = sd' ∧ k = k' := by
  rw [bh_s] at h6
  unfold xS at h
  omega
theorem laysMoves_s (n : Nat) (μ : Mu) {T : Nat → Nat} {s : Nat} (hW : WF T) (h11 : T 11 ≤ 139) (h12 : T 12 ≤ 139) (h40 : s ≤ 40) (hT : TX μ T) (hb : ∀ t, t ≤ s + 1 → μ.1 189 t = nI (bhS T t)) (h6 : bhS T (s + 1) ≤ 6000) (hn : 10000 < n) :
    Ok (X12_laysMoves n (nI s) μ) (fun _ μ' => (∀ sd k, sd < 2 → k < Wn (opnN T) s → PD μ' T sd s k) ∧ TX μ' T ∧ KQ T s μ μ') := by
  obtain ⟨b1, b6, b3, bb⟩ := id hW.1
  have h6' := h6
  rw [bh_s] at h6'
  unfold X12_laysMoves X12_laysMoves_2
  rw [i_0]
  refine Ok_lp1 (fun f x2 μ' => ∃ sd, sd ≤ 2 ∧ f = 2 - sd ∧ x2 = nI sd ∧ (∀ sd' k, sd' < sd → k < Wn (opnN T) s → PD μ' T sd' s k) ∧ TX μ' T ∧ KQ T s μ μ') ?_ 2 (by omega) ⟨0, by omega, rfl, rfl, fun sd k h => by omega, hT, KQ.rf⟩
  rintro K1 f x2 μ1 ⟨sd, hsd, rfl, rfl, hD1, hT1, hq1⟩ hK1
  unfold X12_laysMoves_2b
  rw [i_2, ifLe (by decide) (by omega)]
  by_cases c : 2 ≤ sd
  · rw [if_pos c]
    exact Ok_r ⟨fun sd' k h1 h2 => hD1 sd' k (by omega) h2, hT1, hq1⟩
  · rw [if_neg c]
    have hs : sd < 2 := by omega
    unfold X12_laysMoves_9
    rw [i_0]
    refine Ok_lp2 (fun f x2 x3 μ' => ∃ k, k ≤ Wn (opnN T) s ∧ f = Wn (opnN T) s - k ∧ x2 = nI sd ∧ x3 = nI k ∧ (∀ sd' k', sd' < sd → k' < Wn (opnN T) s → PD μ' T sd' s k') ∧ (∀ k', k' < k → PD μ' T sd s k') ∧ TX μ' T ∧ KQ T s μ μ') ?_ (Wn (opnN T) s) (by omega) ⟨0, by omega, rfl, rfl, rfl, hD1, fun k h => by omega, hT1, hq1⟩
    rintro K2 f x2 x3 μ2 ⟨k, hk, rfl, rfl, rfl, hD2, hD3, hT2, hq2⟩ hK2
    have hb2 : ∀ t, t ≤ s + 1 → μ2.1 189 t = nI (bhS T t) := fun t ht => by rw [hq2.1 189 (by decide) (by decide) (by decide) (by decide) (by decide) (by decide) (by decide)]; exact hb t ht
    unfold X12_laysMoves_9b
    rw [i_1, nI_add, gd_n (by omega) (by decide), gd_n (by omega) (by decide), nI_clamp (by omega), nI_clamp (by omega), hb2 (s + 1) (by omega), hb2 s (by omega), pk_sub (bh_mo (by omega)), bh_s, Nat.add_sub_cancel_left, ifLe (by omega) (by omega)]
    by_cases ck : Wn (opnN T) s ≤ k
    · rw [if_pos ck, nI_add]
      refine hK1 (2 - (sd + 1)) _ _ (by omega) ⟨sd + 1, by omega, rfl, rfl, fun sd' k' h1 h2 => ?_, hT2, hq2⟩
      by_cases z : sd' = sd
      · rw [z]; exact hD3 k' (by omega)
      · exact hD2 sd' k' (by omega) h2
    · rw [if_neg ck, bS (seat_s n μ2 (hb2 s (by omega)) (by omega))]
      dsimp only
      have hkW : k < Wn (opnN T) s := by omega
      have hxl : xS T sd s k < 12000 := by unfold xS; omega
      obtain ⟨Tx, tx1, tx2, tx3, tx4, tx5, tx6⟩ := hT2
      have eop : opnN Tx = opnN T := opn_re tx2
      have hBx : BD Tx := by
        unfold BD
        rw [tx2 1 (by decide) (by decide), tx2 3 (by decide) (by decide), tx2 4 (by decide) (by decide), tx2 5 (by decide) (by decide), tx2 6 (by decide) (by decide), tx2 7 (by decide) (by decide), tx2 8 (by decide) (by decide), tx2 9 (by decide) (by decide), tx2 10 (by decide) (by decide)]
        exact hW.1
      refine Ok_b (lays_s n μ2 (k := k) hBx tx1 hs h40 (by rw [eop]; exact hkW) (by omega) (by omega)) ?_
      rintro _ μ3 ⟨ha3, kl3⟩
      dsimp only
      rw [laC_re tx2] at ha3
      have hq3 : KQ T s μ μ3 := hq2.tr kl3.kq
      have keep3 : ∀ (sd' k' : Nat), PD μ2 T sd' s k' → PD μ3 T sd' s k' := fun sd' k' h => PD_o h (by rw [kl3.1 190 (by decide) (by decide) (by decide)]) (fun w _ => ⟨by rw [kl3.1 187 (by decide) (by decide) (by decide)], by rw [kl3.1 188 (by decide) (by decide) (by decide)]⟩)
      unfold X12_laysMoves_47
      rw [i_0]
      refine Ok_lp4 (fun f x2 x3 x4 x5 μ' => ∃ p, p ≤ 2 * T 1 ∧ f = 2 * T 1 - p ∧ x2 = nI sd ∧ x3 = nI k ∧ x4 = nI (xS T sd s k) ∧ x5 = nI p ∧ TD μ' (cpT Tx (laC T sd s k) p) ∧ HA μ' (laC T sd s k) ∧ (∀ sd' k', sd' < sd → k' < Wn (opnN T) s → PD μ' T sd' s k') ∧ (∀ k', k' < k → PD μ' T sd s k') ∧ KQ T s μ μ') ?_ (2 * T 1) (by omega) ⟨0, by omega, by omega, rfl, rfl, rfl, rfl, TD_cg (TD_o tx1 (kl3.1 172 (by decide) (by decide) (by decide))) (fun j hj => by rw [cpT_f (by omega)]), ha3, fun sd' k' h1 h2 => keep3 sd' k' (hD2 sd' k' h1 h2), fun k' h => keep3 sd k' (hD3 k' h), hq3⟩
      rintro K3 f x2 x3 x4 x5 μ4 ⟨p, hp, rfl, rfl, rfl, rfl, rfl, hT4, ha4, hD4, hD5, hq4⟩ hK3
      have t1 : μ4.1 172 1 = nI (T 1) := by rw [hT4 1 (by decide), cpT_f (by omega), tx2 1 (by decide) (by decide)]
      unfold X12_laysMoves_47b
      rw [bS (pitMany_s n μ4 t1)]
      dsimp only
      rw [ifLe (by omega) (by omega)]
      by_cases cp : 2 * T 1 ≤ p
      · obtain rfl : p = 2 * T 1 := by omega
        rw [if_pos cp]
        have hTr : TD (si μ4 172 2 (nI sd)) (trT T sd s k) := by
          refine TD_cg (TD_si hT4) (fun j hj => ?_)
          unfold trT
          by_cases z2 : j = 2
          · rw [z2, ups_a, if_pos rfl]
          · rw [ups_b z2, if_neg z2]
            by_cases z3 : 13 ≤ j ∧ j < 13 + 2 * T 1
            · rw [cpT_t z3, if_pos (by omega)]
            · rw [cpT_f z3]
              by_cases z4 : 13 ≤ j ∧ j < 25
              · rw [if_pos z4]
                have := tx6 (j - 13) (by omega) (by omega)
                rw [show 13 + (j - 13) = j by omega] at this
                rw [this, (laC_p hs hkW).2 (j - 13) (Or.inl (by omega))]
              · rw [if_neg z4]
                by_cases z0 : j = 0
                · rw [z0, tx3]
                · by_cases z11 : j = 11
                  · rw [z11, tx4]
                  · by_cases z12 : j = 12
                    · rw [z12, tx5]
                    · exact tx2 j (by omega) z2
        have hWr := WF_tr hW h11 h12 hs h40 hkW
        refine Ok_b (isOver_s n _ hWr hTr (by omega)) ?_
        rintro a μ5 ⟨k5, rfl⟩
        dsimp only
        have een : overT (trT T sd s k) = enD T sd s k := SB_o (WF_la hW hs h40 hkW) tr_SB
        rw [gd_n hxl (by decide), bz_b, nI_clamp (by omega), een]
        have hq5 : KQ T s μ (si μ5 190 (xS T sd s k) (b2i (enD T sd s k))) := ((hq4.t).tr k5.kq).e hs hkW
        have keep5 : ∀ sd' k', sd' < 2 → k' < Wn (opnN T) s → ¬ (sd' = sd ∧ k' = k) → PD μ4 T sd' s k' → PD (si μ5 190 (xS T sd s k) (b2i (enD T sd s k))) T sd' s k' := by
          intro sd' k' h1 h2 h3 h4
          refine PD_o h4 ?_ (fun w _ => ⟨?_, ?_⟩)
          · rw [si_c (fun z => h3 (xS_in h6 h1 hs h2 hkW z)), k5.1 190 (by decide) (by decide), si_b (by decide)]
          · rw [si_b (by decide), k5.1 187 (by decide) (by decide), si_b (by decide)]
          · rw [si_b (by decide), k5.1 188 (by decide) (by decide), si_b (by decide)]
        have hTr5 : TD (si μ5 190 (xS T sd s k) (b2i (enD T sd s k))) (trT T sd s k) := TD_o (KR_TD k5 hTr) (si_o (by decide))
        unfold X12_laysMoves_100
        rw [i_0]
        refine Ok_lp4 (fun f x2 x3 x4 x5 μ' => ∃ w, w ≤ T 1 ∧ f = T 1 - w ∧ x2 = nI sd ∧ x3 = nI k ∧ x4 = nI (xS T sd s k) ∧ x5 = nI w ∧ TD μ' (trT T sd s k) ∧ μ'.1 190 (xS T sd s k) = b2i (enD T sd s k) ∧ (∀ w', w' < w → MD μ' T sd s k w') ∧ (∀ sd' k', sd' < sd → k' < Wn (opnN T) s → PD μ' T sd' s k') ∧ (∀ k', k' < k → PD μ' T sd s k') ∧ KQ T s μ μ') ?_ (T 1) (by omega) ⟨0, by omega, by omega, rfl, rfl, rfl, rfl, hTr5, si_a, fun w h => by omega, fun sd' k' h1 h2 => keep5 sd' k' (by omega) h2 (by omega) (hD4 sd' k' h1 h2), fun k' h => keep5 sd k' hs (by omega) (by omega) (hD5 k' h), hq5⟩
        rintro K4 f x2 x3 x4 x5 μ6 ⟨w, hw, rfl, rfl, rfl, rfl, rfl, hT6, he6, hM6, hD6, hD7, hq6⟩ hK4
        have t1' : μ6.1 172 1 = nI (T 1) := by rw [hT6 1 (by decide), tr_re 1 (by decide) (by decide)]
        unfold X12_laysMoves_100b
        rw [t1', ifLe (by omega) (by omega)]
        by_cases cw : T 1 ≤ w
        · rw [if_pos cw, i_1, nI_add]
          refine hK2 (Wn (opnN T) s - (k + 1)) _ _ _ (by omega) ⟨k + 1, by omega, rfl, rfl, rfl, hD6, fun k' hk' => ?_, TX_tr hs hkW hT6, hq6⟩
          by_cases z : k' = k
          · rw [z]; exact ⟨he6, fun w' hw' => hM6 w' (by omega)⟩
          · exact hD7 k' (by omega)
        · rw [if_neg cw]
          have hb6 : ∀ t, t ≤ s → μ6.1 189 t = nI (bhS T t) := fun t ht => by rw [hq6.1 189 (by decide) (by decide) (by decide) (by decide) (by decide) (by decide) (by decide)]; exact hb t (by omega)
          refine Ok_b (laysMove_s n μ6 hW h11 h12 hs h40 hkW hT6 hb6 hxl (by omega) (by omega)) ?_
          rintro _ μ7 ⟨hM7, hk7⟩
          dsimp only
          rw [i_1, nI_add]
          have keep7 : ∀ sd' k', sd' < 2 → k' < Wn (opnN T) s → ¬ (sd' = sd ∧ k' = k) → PD μ6 T sd' s k' → PD μ7 T sd' s k' := by
            intro sd' k' h1 h2 h3 h4
            refine PD_o h4 (by rw [hk7.1 190 (by decide) (by decide) (by decide) (by decide) (by decide)]) (fun w' hw' => hk7.2.2.2 _ (fun z => ?_))
            exact h3 (xS_in h6 h1 hs h2 hkW (by omega))
          refine hK4 (T 1 - (w + 1)) _ _ _ _ _ (by omega) ⟨w + 1, by omega, rfl, rfl, rfl, rfl, rfl, TD_o hT6 (hk7.1 172 (by decide) (by decide) (by decide) (by decide) (by decide)), by rw [hk7.1 190 (by decide) (by decide) (by decide) (by decide) (by decide)]; exact he6, fun w' hw' => ?_, fun sd' k' h1 h2 => keep7 sd' k' (by omega) h2 (by omega) (hD6 sd' k' h1 h2), fun k' h => keep7 sd k' hs (by omega) (by omega) (hD7 k' h), hq6.tr (hk7.kq hs hkW (by omega))⟩
          by_cases z : w' = w
          · rw [z]; exact hM7
          · exact MD_o (hM6 w' (by omega)) (hk7.2.2.2 _ (by omega)).1 (hk7.2.2.2 _ (by omega)).2
      · rw [if_neg cp, gd_n (by omega) (by decide), i_13, nI_add, gd_n (by omega) (by decide), nI_clamp (by omega), nI_clamp (by omega), ha4 p (by omega), i_1, nI_add]
        have keep : ∀ (sd' k' : Nat), PD μ4 T sd' s k' → PD (si μ4 172 (13 + p) (nI (laC T sd s k p))) T sd' s k' := fun sd' k' h => PD_o h (by rw [si_b (by decide)]) (fun w _ => ⟨by rw [si_b (by decide)], by rw [si_b (by decide)]⟩)
        refine hK3 (2 * T 1 - (p + 1)) _ _ _ _ _ (by omega) ⟨p + 1, by omega, rfl, rfl, rfl, rfl, rfl, TD_cg (TD_si hT4) (fun j hj => ?_), fun x hx => by rw [si_b (by decide)]; exact ha4 x hx, fun sd' k' h1 h2 => keep sd' k' (hD4 sd' k' h1 h2), fun k' h => keep sd k' (hD5 k' h), hq4.t⟩
        by_cases z : j = 13 + p
        · rw [z, ups_a, cpT_t (by omega), Nat.add_sub_cancel_left]
        · rw [ups_b z]
          by_cases z2 : 13 ≤ j ∧ j < 13 + p
          · rw [cpT_t z2, cpT_t (by omega)]
          · rw [cpT_f z2, cpT_f (by omega)]
