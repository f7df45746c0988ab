/-! calls: tray, write, pour -/
theorem INT_but {μ μ' : Mu} {T : Nat → Nat} (h : INT μ T) (g : AG (D_now ++ (D_past ++ (D_ci ++ (D_ri ++ [(172, 172, 9999)])))) μ μ') (a : RDR μ') (b : XPL μ') (c : TRS μ') (d : IMG μ') : INT μ' T := by
  obtain ⟨g1, g⟩ := AG_ap g
  obtain ⟨g2, g⟩ := AG_ap g
  obtain ⟨g3, g⟩ := AG_ap g
  obtain ⟨g4, g5⟩ := AG_ap g
  exact ⟨h.1, TD_ag h.2.1 g5, NOW_ag h.2.2.1 g1, CI_ag h.2.2.2.1 g3, RI_ag h.2.2.2.2.1 g4, PAST_ag h.2.2.2.2.2.1 g2, a, b, c, d⟩
def D_xt : List (Nat × Nat × Nat) := (D_now ++ (D_past ++ (D_ci ++ (D_ri ++ [(172, 172, 9999)])))) ++ (D_rdr ++ (D_xpl ++ D_img))
theorem INT_t {μ μ' : Mu} {T : Nat → Nat} (h : INT μ T) (g : AG D_xt μ μ') (c : TRS μ') : INT μ' T := by
  obtain ⟨g1, g⟩ := AG_ap g
  obtain ⟨g2, g⟩ := AG_ap g
  obtain ⟨g3, g4⟩ := AG_ap g
  obtain ⟨_, _, _, _, _, _, b1, b2, _, b4⟩ := id h
  exact INT_but h g1 (RDR_ag b1 g2) (XPL_ag b2 g3) c (IMG_ag b4 g4)
def CVx (L : Option (Int32 × Mu)) (g : Mu → Option (Unit × Mu)) : Prop := ∃ k μ1 μ2, L = some (k, μ1) ∧ g μ1 = some ((), μ2) ∧ μ2.1 171 5 = k ∧ INV μ2
def CWx (L : Option (Int32 × Mu)) (g : Mu → Option (Int64 × Mu)) : Prop := ∃ k μ1 b μ2, L = some (k, μ1) ∧ g μ1 = some (b, μ2) ∧ μ2.1 171 5 = k ∧ (k = 0 → μ2.2 201 0 = b) ∧ INV μ2
theorem sj_o {μ : Mu} {o k o' : Nat} {v : Int64} (h : o' ≠ o) : (sj μ o k v).2 o' = μ.2 o' := funext (fun k' => sj_b h)
/-- the class's part of the trays, the reference's part -/
def TC (μ : Mu) (t s m : Nat) (xs : Nat → Int64) : Prop := μ.1 (33 + 2 * t) 1 = nI s ∧ μ.1 (33 + 2 * t) 2 = nI m ∧ ∀ k, k < 40 → μ.2 (34 + 2 * t) k = xs k
theorem layT_s (n : Nat) (μ : Mu) {t s m : Nat} (ht : t < 4) (hn : 1000 < n) : Ok (X9_lay n (33 + 2 * t) (nI s) (nI m) μ) (fun _ μ' => TC μ' t s m (fun _ => 0) ∧ (∀ o, o ≠ 33 + 2 * t → μ'.1 o = μ.1 o) ∧ (∀ o, o ≠ 34 + 2 * t → μ'.2 o = μ.2 o)) := by
  unfold X9_lay X9_lay_12
  rw [kd_of (tr_k t ht), i_0]
  refine Ok_lp1 (fun f x3 μ' => ∃ j, j ≤ 40 ∧ f = 40 - j ∧ x3 = nI j ∧ μ'.1 (33 + 2 * t) 1 = nI s ∧ μ'.1 (33 + 2 * t) 2 = nI m ∧ (∀ k, k < j → μ'.2 (34 + 2 * t) k = 0) ∧ (∀ o, o ≠ 33 + 2 * t → μ'.1 o = μ.1 o) ∧ (∀ o, o ≠ 34 + 2 * t → μ'.2 o = μ.2 o)) ?_ 40 (by omega) ⟨0, by omega, rfl, rfl, by rw [si_c (by decide), si_a], si_a, fun k q => by omega, fun o q => by rw [si_o q, si_o q], fun o q => rfl⟩
  rintro K f x3 μ1 ⟨j, hj, rfl, rfl, a1, a2, a3, a4, a5⟩ hK
  unfold X9_lay_12b
  rw [i_40, ifLe (by decide) (by omega)]
  by_cases c : 40 ≤ j
  · rw [if_pos c]
    exact Ok_r ⟨⟨a1, a2, fun k hk => a3 k (by omega)⟩, a4, a5⟩
  · rw [if_neg c, gd_n (by omega) (by decide), nI_clamp (by omega), i_1, nI_add, show 33 + 2 * t + 1 = 34 + 2 * t by omega]
    refine hK (40 - (j + 1)) _ _ (by omega) ⟨j + 1, by omega, rfl, rfl, a1, a2, fun k hk => ?_, a4, fun o q => by rw [sj_o q]; exact a5 o q⟩
    by_cases z : k = j
    · rw [z, sj_a]
    · rw [sj_c z]; exact a3 k (by omega)
theorem trayR_s (n : Nat) (μ : Mu) {t s m : Nat} (ht : t < 4) (hn : 1000 < n) : Ok (X12_tray_69 n (nI t) (nI s) (nI m) 0 μ) (fun _ μ' => (∀ k, k < 40 → μ'.2 200 (40 * t + k) = 0) ∧ (∀ x, ¬ (40 * t ≤ x ∧ x < 40 * t + 40) → μ'.2 200 x = μ.2 200 x) ∧ μ'.1 = μ.1 ∧ (∀ o, o ≠ 200 → μ'.2 o = μ.2 o)) := by
  unfold X12_tray_69
  rw [i_0]
  refine Ok_lp1 (fun f x4 μ' => ∃ j, j ≤ 40 ∧ f = 40 - j ∧ x4 = nI j ∧ (∀ k, k < j → μ'.2 200 (40 * t + k) = 0) ∧ (∀ x, ¬ (40 * t ≤ x ∧ x < 40 * t + 40) → μ'.2 200 x = μ.2 200 x) ∧ μ'.1 = μ.1 ∧ (∀ o, o ≠ 200 → μ'.2 o = μ.2 o)) ?_ 40 (by omega) ⟨0, by omega, rfl, rfl, fun k q => by omega, fun _ _ => rfl, rfl, fun _ _ => rfl⟩
  rintro K f x4 μ1 ⟨j, hj, rfl, rfl, a1, a2, a3, a4⟩ hK
  unfold X12_tray_69b
  rw [i_40, ifLe (by decide) (by omega)]
  by_cases c : 40 ≤ j
  · rw [if_pos c]
    exact Ok_r ⟨fun k hk => a1 k (by omega), a2, a3, a4⟩
  · rw [if_neg c, pk_mul, nI_add, gd_n (by omega) (by decide), nI_clamp (by omega), i_1, nI_add]
    refine hK (40 - (j + 1)) _ _ (by omega) ⟨j + 1, by omega, rfl, rfl, fun k hk => ?_, fun x hx => by rw [sj_c (by omega)]; exact a2 x hx, a3, fun o q => by rw [sj_o q]; exact a4 o q⟩
    by_cases z : k = j
    · rw [z, sj_a]
    · rw [sj_c (by omega)]; exact a1 k (by omega)
theorem call_tray (n : Nat) (μ : Mu) (v s m : Int32) (h : INV μ) (hn : 1000 < n) : CVx (L_tray n v s m μ) (X12_tray n v s m) := by
  obtain ⟨T, hI⟩ := h
  have hts := hI.2.2.2.2.2.2.2.2.1
  have fail : ∀ k e, (k : Int32) ≠ 0 → ¬ k ≤ 0 → L_tray n v s m μ = some (k, μ) → X12_tray n v s m μ = some ((), si μ 171 5 k) → CVx (L_tray n v s m μ) (X12_tray n v s m) ∨ (e : Nat) = e := fun k e _ _ a b => Or.inl ⟨k, μ, si μ 171 5 k, a, b, si_a, T, INT_td hI (Fr_ag th_fr (by decide +kernel))⟩
  have fin : ∀ k : Int32, L_tray n v s m μ = some (k, μ) → X12_tray n v s m μ = some ((), si μ 171 5 k) → CVx (L_tray n v s m μ) (X12_tray n v s m) := fun k a b => ⟨k, μ, si μ 171 5 k, a, b, si_a, T, INT_td hI (Fr_ag th_fr (by decide +kernel))⟩
  by_cases hv : inR v 0 3
  · obtain ⟨t, _, ht3, rfl⟩ := inR_d (by decide) (by decide) hv
    have ht : t < 4 := by omega
    have bad : (¬ inR s 0 3 ∨ (inR s 0 3 ∧ ¬ inR m 0 40)) → CVx (L_tray n (nI t) s m μ) (X12_tray n (nI t) s m) := by
      intro hb
      have e1 : X11_tray n (nI t) s m μ = some (.inr 1, μ) := by
        unfold X11_tray X11_tray_26
        rw [thr_l (anyTray_l n μ ht), kd_of (tr_k t ht), i_3, i_40]
        rcases hb with q | ⟨q, q2⟩
        · rcases inR_no q with r | ⟨r1, r2⟩
          · rw [if_pos r]
          · rw [if_neg r1, if_pos r2]
        · obtain ⟨j, _, hj, rfl⟩ := inR_d (by decide) (by decide) q
          rw [if_neg (nI_pos (by omega)), ifLt (by decide) (by omega), if_neg (by omega)]
          exact wh_no (by decide) q2
      refine fin 2 (by unfold L_tray; rw [e1]; rfl) ?_
      unfold X12_tray X12_tray_36 X12_tray_41
      rw [bS (isTray_l n μ hv)]
      dsimp only
      rw [if_neg (show ¬ b2i true = 0 by decide)]
      rcases hb with q | ⟨q, q2⟩
      · rw [bS (within_r n μ (b := 3) (y := 3) (by decide) rfl q)]
        dsimp only
        rw [if_pos (show b2i false = 0 from rfl), si_a, if_neg (by decide)]
      · rw [bS (within_l n μ (b := 3) (y := 3) (by decide) rfl q)]
        dsimp only
        rw [if_neg (show ¬ b2i true = 0 by decide), bS (within_r n μ (b := 40) (y := 40) (by decide) rfl q2)]
        dsimp only
        rw [if_pos (show b2i false = 0 from rfl), si_a, if_neg (by decide)]
    by_cases hs : inR s 0 3
    · by_cases hm : inR m 0 40
      · obtain ⟨s, _, hs3, rfl⟩ := inR_d (by decide) (by decide) hs
        obtain ⟨m, _, hm40, rfl⟩ := inR_d (by decide) (by decide) hm
        have cl : Ok (X11_tray n (nI t) (nI s) (nI m) μ) (fun x μ' => x = .inl () ∧ TC μ' t s m (fun _ => 0) ∧ (∀ o, o ≠ 33 + 2 * t → μ'.1 o = μ.1 o) ∧ (∀ o, o ≠ 34 + 2 * t → μ'.2 o = μ.2 o)) := by
          unfold X11_tray
          rw [thr_l (anyTray_l n μ ht), kd_of (tr_k t ht), i_3, i_40, if_neg (nI_pos (by omega)), ifLt (by decide) (by omega), if_neg (by omega), wh_yes (by decide) hm40]
          refine Ok_b (layT_s n μ ht hn) ?_
          rintro _ μ1 q
          exact Ok_r ⟨rfl, q⟩
        obtain ⟨_, μ1, e1, rfl, c1, c2, c3⟩ := cl
        have ag1 : Fr (fun o k => inL [(33, 40, 9999)] o k) μ μ1 := fun o k hn => by
          have : ¬ (33 ≤ o ∧ o ≤ 40) := fun q => hn ⟨_, List.mem_cons_self, q.1, q.2, Or.inl rfl⟩
          exact ⟨by rw [c2 o (by omega)], by rw [c3 o (by omega)]⟩
        have rf : Ok (X12_tray n (nI t) (nI s) (nI m) μ1) (fun _ μ' => μ'.1 171 5 = 0 ∧ μ'.1 198 t = nI s ∧ μ'.1 199 t = nI m ∧ (∀ k, k < 40 → μ'.2 200 (40 * t + k) = 0) ∧ (∀ x, ¬ (40 * t ≤ x ∧ x < 40 * t + 40) → μ'.2 200 x = μ1.2 200 x) ∧ (∀ x, x ≠ t → μ'.1 198 x = μ1.1 198 x ∧ μ'.1 199 x = μ1.1 199 x) ∧ (∀ o, o ≠ 171 → o ≠ 198 → o ≠ 199 → μ'.1 o = μ1.1 o) ∧ (∀ o, o ≠ 200 → μ'.2 o = μ1.2 o)) := by
          unfold X12_tray X12_tray_41
          rw [bS (isTray_l n μ1 hv)]
          dsimp only
          rw [if_neg (show ¬ b2i true = 0 by decide), bS (within_l n μ1 (b := 3) (y := 3) (by decide) rfl hs)]
          dsimp only
          rw [if_neg (show ¬ b2i true = 0 by decide), bS (within_l n μ1 (b := 40) (y := 40) (by decide) rfl hm)]
          dsimp only
          rw [if_neg (show ¬ b2i true = 0 by decide), si_a, if_pos (show (0 : Int32) ≤ 0 by decide), gd_n ht (by decide), nI_clamp (by omega)]
          refine Ok_m (trayR_s n _ ht hn) ?_
          rintro _ μ2 ⟨q1, q2, q3, q4⟩
          refine ⟨by rw [q3, si_b (by decide), si_b (by decide), si_a], by rw [q3, si_b (by decide), si_a], by rw [q3, si_a], q1, fun x hx => by rw [q2 x hx]; rfl, fun x hx => ⟨by rw [q3, si_b (by decide), si_c hx, si_b (by decide)], by rw [q3, si_c hx, si_b (by decide), si_b (by decide)]⟩, fun o a b c => by rw [q3, si_o c, si_o b, si_o a], fun o a => by rw [q4 o a]; rfl⟩
        obtain ⟨_, μ2, e2, z5, d1, d2, d3, d4, d5, d6, d7⟩ := rf
        have ag2 := fr_X12_tray n _ _ _ μ1 _ e2
        refine ⟨0, μ1, μ2, by unfold L_tray; rw [e1], e2, z5, T, INT_t hI ((Fr_ag ag1 (by decide +kernel)).tr (Fr_ag ag2 (by decide +kernel))) (fun t' ht' => ?_)⟩
        by_cases z : t' = t
        · subst z
          exact ⟨by rw [d6 _ (by omega) (by omega) (by omega), c1.1, d1], Or.inr ⟨s, by omega, d1⟩, ⟨m, hm40, by rw [d6 _ (by omega) (by omega) (by omega)]; exact c1.2.1, d2⟩, fun k hk => by rw [d7 _ (by omega), c1.2.2 k hk, d3 k hk]⟩
        · obtain ⟨o1, o2, ⟨M, hM, o3, o4⟩, o5⟩ := hts t' ht'
          obtain ⟨y1, y2⟩ := d5 t' z
          exact ⟨by rw [d6 _ (by omega) (by omega) (by omega), c2 _ (by omega), o1, y1, c2 198 (by omega)], by rw [y1, c2 198 (by omega)]; exact o2, ⟨M, hM, by rw [d6 _ (by omega) (by omega) (by omega), c2 _ (by omega)]; exact o3, by rw [y2, c2 199 (by omega)]; exact o4⟩, fun k hk => by rw [d7 _ (by omega), c3 _ (by omega), o5 k hk, d4 _ (by omega), c3 200 (by omega)]⟩
      · exact bad (Or.inr ⟨hs, hm⟩)
    · exact bad (Or.inl hs)
  · have e1 : X11_tray n v s m μ = some (.inr 0, μ) := by
      unfold X11_tray
      rw [thr_r (anyTray_r n μ hv)]
    refine fin 1 (by unfold L_tray; rw [e1]; rfl) ?_
    unfold X12_tray X12_tray_41
    rw [bS (isTray_r n μ hv)]
    dsimp only
    rw [if_pos (show b2i false = 0 from rfl), si_a, if_neg (by decide)]
theorem tr_sort {μ : Mu} {t : Nat} (h : TRO μ t) (hl : ¬ μ.1 198 t = -1) : ∃ s, s < 4 ∧ μ.1 198 t = nI s := by
  rcases h.2.1 with q | q
  · exact absurd (by rw [q]; rfl) hl
  · exact q
theorem call_write (n : Nat) (μ : Mu) (v p : Int32) (x : Int64) (h : INV μ) (hn : 1000 < n) : CWx (L_write n v p x μ) (X12_write n v p x) := by
  obtain ⟨T, hI⟩ := h
  have hts := hI.2.2.2.2.2.2.2.2.1
  have fin : ∀ (k : Int32) b, ¬ k = 0 → L_write n v p x μ = some (k, μ) → X12_write n v p x μ = some (b, si μ 171 5 k) → CWx (L_write n v p x μ) (X12_write n v p x) := fun k b k0 a c => ⟨k, μ, b, si μ 171 5 k, a, c, si_a, fun q => absurd q k0, T, INT_td hI (Fr_ag th_fr (by decide +kernel))⟩
  by_cases hv : inR v 0 3
  · obtain ⟨t, _, ht3, rfl⟩ := inR_d (by decide) (by decide) hv
    have ht : t < 4 := by omega
    obtain ⟨o1, o2, ⟨M, hM, o3, o4⟩, o5⟩ := id (hts t ht)
    by_cases hl : μ.1 198 t = -1
    · have e1 : X11_write n (nI t) p x μ = some (.inr 2, μ) := by
        unfold X11_write
        rw [thr_r (laid_m n μ ht (by rw [o1]; exact hl))]
      refine fin 2 0 (by decide) (by unfold L_write; rw [e1]; rfl) ?_
      unfold X12_write
      rw [bS (trF_t n μ ht), if_pos hl]
      dsimp only
      rw [si_a, if_neg (by decide)]
    · obtain ⟨s, hs, es⟩ := tr_sort (hts t ht) hl
      have ey : (nI M - (1 : Int32)).toInt64 = lN M - 1 := by
        rcases Nat.eq_zero_or_pos M with e | e
        · rw [e]; decide
        · rw [i_1, pk_sub (by omega), nI_l (by omega), show (1 : Int64) = lN 1 from rfl, lN_sub (by omega)]
      by_cases hp : ∃ j, j < M ∧ p = nI j
      · obtain ⟨j, hj, rfl⟩ := id hp
        have e1 : X11_write n (nI t) (nI j) x μ = some (.inl (ctL s x), sj μ (34 + 2 * t) j (ctL s x)) := by
          unfold X11_write
          rw [thr_l (laid_l n μ ht (by rw [o1]; exact hl)), kd_of (tr_k t ht), if_neg (nI_pos (by omega)), o3, ifLt (by omega) (by omega), if_pos hj, bS (cutC_s n μ x ht hs (by rw [o1]; exact es))]
          dsimp only
          rw [gd_n (by omega) (by decide), nI_clamp (by omega), show 33 + 2 * t + 1 = 34 + 2 * t by omega, sj_a]
        have eL : L_write n (nI t) (nI j) x μ = some (0, sj (sj μ (34 + 2 * t) j (ctL s x)) 201 0 (ctL s x)) := by unfold L_write; rw [e1]
        generalize hμ1 : sj (sj μ (34 + 2 * t) j (ctL s x)) 201 0 (ctL s x) = μ1 at eL
        have f1 : μ1.1 = μ.1 := by rw [← hμ1]; rfl
        have e2 : X12_write n (nI t) (nI j) x μ1 = some (ctL s x, sj (si μ1 171 5 0) 200 (40 * t + j) (ctL s x)) := by
          unfold X12_write X12_write_52
          rw [bS (trF_t n μ1 ht), f1, if_neg hl]
          dsimp only
          rw [si_a, if_pos (show (0 : Int32) ≤ 0 by decide), gd_n ht (by decide), nI_clamp (by omega), si_b (by decide), f1, o4, ey, bS ((within_lt n _ (nI j) (M := M) (by omega)).1 hp)]
          dsimp only
          rw [if_neg (show ¬ b2i true = 0 by decide), bS (cutR_s n _ x ht (by omega) hs (by rw [si_b (by decide), f1]; exact es))]
        have g1 : Fr (fun o k => inL [(33, 40, 9999), (200, 201, 9999), (171, 171, 5)] o k) μ (sj (si μ1 171 5 0) 200 (40 * t + j) (ctL s x)) := by
          rw [← hμ1]
          exact Fr.sj (Fr.si (Fr.sj (Fr.sj Fr.rf (inL_mk 33 40 9999 (by decide) (by omega) (by omega) (Or.inl rfl))) (inL_mk 200 201 9999 (by decide) (by decide) (by decide) (Or.inl rfl))) (inL_mk 171 171 5 (by decide) (by decide) (by decide) (Or.inr rfl))) (inL_mk 200 201 9999 (by decide) (by decide) (by decide) (Or.inl rfl))
        have f2 : ∀ o, o ≠ 171 → (sj (si μ1 171 5 0) 200 (40 * t + j) (ctL s x)).1 o = μ.1 o := fun o q => by
          show (si μ1 171 5 0).1 o = μ.1 o
          rw [si_o q, f1]
        have f3 : ∀ k, (sj (si μ1 171 5 0) 200 (40 * t + j) (ctL s x)).2 200 k = if k = 40 * t + j then ctL s x else μ.2 200 k := fun k => by
          by_cases z : k = 40 * t + j
          · rw [if_pos z, z, sj_a]
          · rw [if_neg z, sj_c z]
            show μ1.2 200 k = _
            rw [← hμ1, sj_b (by decide), sj_b (by omega)]
        have f4 : ∀ o, o ≠ 200 → o ≠ 201 → ∀ k, (sj (si μ1 171 5 0) 200 (40 * t + j) (ctL s x)).2 o k = if o = 34 + 2 * t ∧ k = j then ctL s x else μ.2 o k := fun o a b k => by
          rw [sj_b a]
          show μ1.2 o k = _
          rw [← hμ1, sj_b b]
          by_cases z : o = 34 + 2 * t
          · subst z
            by_cases z2 : k = j
            · rw [z2, sj_a, if_pos ⟨rfl, rfl⟩]
            · rw [sj_c z2, if_neg (fun q => z2 q.2)]
          · rw [sj_b z, if_neg (fun q => z q.1)]
        refine ⟨0, μ1, _, _, eL, e2, (show (si μ1 171 5 0).1 171 5 = 0 from si_a), fun _ => ?_, T, INT_t hI (Fr_ag g1 (by decide +kernel)) (fun t' ht' => ?_)⟩
        · rw [sj_b (by decide)]
          show μ1.2 201 0 = _
          rw [← hμ1, sj_a]
        · obtain ⟨p1, p2, ⟨M', hM', p3, p4⟩, p5⟩ := hts t' ht'
          refine ⟨by rw [f2 _ (by omega), f2 198 (by decide)]; exact p1, by rw [f2 198 (by decide)]; exact p2, ⟨M', hM', by rw [f2 _ (by omega)]; exact p3, by rw [f2 199 (by decide)]; exact p4⟩, fun k hk => ?_⟩
          rw [f3, f4 _ (by omega) (by omega)]
          by_cases z : t' = t ∧ k = j
          · rw [if_pos ⟨by omega, z.2⟩, if_pos (by omega)]
          · rw [if_neg (by omega), if_neg (by omega)]
            exact p5 k hk
      · have e1 : X11_write n (nI t) p x μ = some (.inr 3, μ) := by
          unfold X11_write X11_write_20
          rw [thr_l (laid_l n μ ht (by rw [o1]; exact hl)), kd_of (tr_k t ht), o3]
          rcases ix_cs p (m := M) (by omega) with q | q | q
          · rw [if_pos q.1]
          · rw [if_neg q.1, if_neg (Int32.not_lt.mpr q.2.1)]
          · exact absurd q hp
        have e2 : X12_write n (nI t) p x μ = some (0, si (si μ 171 5 0) 171 5 3) := by
          unfold X12_write X12_write_52 X12_fails
          rw [bS (trF_t n μ ht), if_neg hl]
          dsimp only
          rw [si_a, if_pos (show (0 : Int32) ≤ 0 by decide), gd_n ht (by decide), nI_clamp (by omega), si_b (by decide), o4, ey, bS ((within_lt n _ p (M := M) (by omega)).2 hp)]
          dsimp only
          rw [if_pos (show b2i false = 0 from rfl)]
          rfl
        exact ⟨3, μ, _, _, by unfold L_write; rw [e1]; rfl, e2, si_a, fun q => absurd q (by decide), T, INT_td hI ((Fr_ag th_fr (by decide +kernel)).tr (Fr_ag th_fr (by decide +kernel)))⟩
  · have e1 : X11_write n v p x μ = some (.inr 0, μ) := by
      unfold X11_write
      rw [thr_r (laid_r n μ hv)]
    refine fin 1 0 (by decide) (by unfold L_write; rw [e1]; rfl) ?_
    unfold X12_write
    rw [bS (trF_r n μ hv)]
    dsimp only
    rw [si_a, if_neg (by decide)]
