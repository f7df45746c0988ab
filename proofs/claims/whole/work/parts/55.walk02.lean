set_option maxRecDepth 100000 in
set_option maxHeartbeats 4000000 in
theorem c_X11_against (l : Launch) (g : Gw) (n : Nat) (v1 : Int32) (v2 : Int32) (μ : Mu) (r : Int32 × Mu) (h : X11_against n v1 v2 μ = some (Sum.inl r.1, r.2)) : Ct l g yX11_against cX11_against 3 (some .int) 7 [.ref (g.2.2 0), .int v1, .int v2] μ (some (.int r.1)) r.2 := by
  rw [X11_against] at h
  refine Ct.of (by decide) (Nat.le_of_ble_eq_true rfl) ?_
  intro p e s m args below meth c ls hC hw hr hlocks hl
  have hx := hC.1
  have hb := hC.2.1
  have hl : lv_has ls 3 [(0, .ref (g.2.2 0)), (1, .int v1), (2, .int v2)] := hl
  have B20 : ∀ (μ : Mu) (H : Heap) (locs : List Loc) (ls : Array Slot), wd g μ s (Aw g s.heap.size) H locs → lv_has ls 3 [] → X11_against_20 n v1 v2  μ = some (Sum.inl r.1, r.2) → WQ p l e (rmD 7) s m args below meth c g (some (.int r.1)) r.2 H locs (F0 m 20 ls []) := by
    intro μ H locs ls hw hl h
    rw [X11_against_20] at h
    cases h
  refine lv_aload_n hx hb dX11_against_0 rfl (lv_at hl 0 rfl) ?_
  refine lv_aload_n hx hb dX11_against_1 rfl (lv_at hl 0 rfl) ?_
  refine gR (t := 53) hC hw fl_X11_37 ok0 (by decide) ot0_3 dX11_against_2 ?_
  obtain ⟨r5, hr5, h⟩ := bnd h
  refine cV (b := 53) (As := []) (rest := [.ref (g.2.2 0)]) (st1 := [.int r5.1, .ref (g.2.2 0)]) hC hw (c_X6_inPits l g n 53 μ r5 hr5) ml_X11_236 im_X6_inPits se_X6_inPits ok53 (CN := RX6) (T := TX6) (NF := 2) rfl rfl (by decide) rfl hl.1 ⟨Nat.le_of_ble_eq_true rfl, Nat.le_of_ble_eq_true rfl⟩ (Nat.le_of_ble_eq_true rfl) ⟨Nat.zero_le _, Nat.zero_le _⟩ rfl dX11_against_5 (fun H locs hw => ?_)
  obtain ⟨r8, m8, hr8, h⟩ := thr_rt h
  refine cV (b := 0) (As := [.int r5.1]) (rest := []) (st1 := []) hC hw (c_X11_needSolved l g n r5.1 r5.2 (r8, m8) hr8) ml_X11_279 im_X11_needSolved se_X11_needSolved ok0 (CN := RX11) (T := TX11) (NF := 12) rfl rfl (by decide) rfl hl.1 ⟨Nat.le_of_ble_eq_true rfl, Nat.le_of_ble_eq_true rfl⟩ (Nat.le_of_ble_eq_true rfl) ⟨Nat.zero_le _, Nat.zero_le _⟩ rfl dX11_against_8 (fun H locs hw => ?_)
  refine lv_iload_n hx hb dX11_against_11 rfl (lv_at hl 2 rfl) ?_
  refine lv_if_lt (tgt := 20) hx hb dX11_against_12 (by decide) (fun hc => ?_) (fun hc => ?_)
  · rw [if_pos hc] at h
    exact B20 m8 _ _ _ hw (lv_sub hl [] rfl) h
  · rw [if_neg hc] at h
    refine lv_iload_n hx hb dX11_against_15 rfl (lv_at hl 2 rfl) ?_
    refine lv_iconst (v := (2 : Int32)) hx hb dX11_against_16 (by decide) ?_
    refine lv_icmp_le (tgt := 30) hx hb dX11_against_17 (by decide) (fun hc => ?_) (fun hc => ?_)
    · rw [if_pos hc] at h
      refine lv_aload_n hx hb dX11_against_30 rfl (lv_at hl 0 rfl) ?_
      refine gR (t := 22) hC hw fl_X11_72 ok0 (by decide) ot0_8 dX11_against_31 ?_
      refine lv_aload_n hx hb dX11_against_34 rfl (lv_at hl 0 rfl) ?_
      refine gR (t := 53) hC hw fl_X11_37 ok0 (by decide) ot0_3 dX11_against_35 ?_
      refine lv_iload_n hx hb dX11_against_38 rfl (lv_at hl 1 rfl) ?_
      refine lv_iconst (v := (1 : Int32)) hx hb dX11_against_39 (by decide) ?_
      obtain ⟨r40, hr40, h⟩ := bnd h
      refine cV (b := 22) (As := [.ref (g.2.2 53), .int v1, .int (1 : Int32)]) (rest := []) (st1 := []) hC hw (c_X10_goByDraws l g n 53 v1 (1 : Int32) m8 r40 hr40) ml_X11_346 im_X10_goByDraws se_X10_goByDraws ok22 (CN := RX10) (T := TX10) (NF := 7) rfl rfl (by decide) rfl hl.1 ⟨Nat.le_of_ble_eq_true rfl, Nat.le_of_ble_eq_true rfl⟩ (Nat.le_of_ble_eq_true rfl) ⟨Nat.zero_le _, Nat.zero_le _⟩ rfl dX11_against_40 (fun H locs hw => ?_)
      refine lv_aload_n hx hb dX11_against_43 rfl (lv_at hl 0 rfl) ?_
      refine lv_iload_n hx hb dX11_against_44 rfl (lv_at hl 2 rfl) ?_
      obtain ⟨r45, hr45, h⟩ := bnd h
      refine cV (b := 0) (As := [.int v2]) (rest := []) (st1 := [.int r45.1]) hC hw (c_X11_toldOfPlay l g n v2 r40.2 r45 hr45) ml_X11_350 im_X11_toldOfPlay se_X11_toldOfPlay ok0 (CN := RX11) (T := TX11) (NF := 12) rfl rfl (by decide) rfl hl.1 ⟨Nat.le_of_ble_eq_true rfl, Nat.le_of_ble_eq_true rfl⟩ (Nat.le_of_ble_eq_true rfl) ⟨Nat.zero_le _, Nat.zero_le _⟩ rfl dX11_against_45 (fun H locs hw => ?_)
      exact rI hC hw hr hlocks (by rw [(inlI h).1]) (inlI h).2 dX11_against_48
    · rw [if_neg hc] at h
      exact B20 m8 _ _ _ hw (lv_sub hl [] rfl) h
set_option maxRecDepth 100000 in
set_option maxHeartbeats 4000000 in
theorem x_X11_against (l : Launch) (hst : l.stackTraces = false) (g : Gw) (n : Nat) (v1 : Int32) (v2 : Int32) (μ : Mu) (kx : Nat) (μx : Mu) (h : X11_against n v1 v2 μ = some (Sum.inr kx, μx)) : CtX l g yX11_against cX11_against 3 (some .int) 7 [.ref (g.2.2 0), .int v1, .int v2] μ kx μx := by
  rw [X11_against] at h
  refine CtX.of (by decide) (Nat.le_of_ble_eq_true rfl) ?_
  intro p e s m args below meth c ls hC hw htab hlocks hl
  have hx := hC.1
  have hb := hC.2.1
  have hl : lv_has ls 3 [(0, .ref (g.2.2 0)), (1, .int v1), (2, .int v2)] := hl
  have B20 : ∀ (μ : Mu) (H : Heap) (locs : List Loc) (ls : Array Slot), wd g μ s (Aw g s.heap.size) H locs → lv_has ls 3 [] → X11_against_20 n v1 v2  μ = some (Sum.inr kx, μx) → WX p l e (rmX 7) s m args below meth c g kx μx H locs (F0 m 20 ls []) := by
    intro μ H locs ls hw hl h
    rw [X11_against_20] at h
    exact thS (rest := []) hC hw hst 20 (by decide) rfl rfl xft1 xnm xcl1 xin1 xat1 hl.1 htab hlocks (by rw [← (inrI h).1]; rfl) (inrI h).2 (Nat.le_of_ble_eq_true rfl) (Nat.le_of_ble_eq_true rfl) dX11_against_20 dX11_against_23 dX11_against_24 dX11_against_26 dX11_against_29
  refine lv_aload_n hx hb dX11_against_0 rfl (lv_at hl 0 rfl) ?_
  refine lv_aload_n hx hb dX11_against_1 rfl (lv_at hl 0 rfl) ?_
  refine gR (t := 53) hC hw fl_X11_37 ok0 (by decide) ot0_3 dX11_against_2 ?_
  obtain ⟨r5, hr5, h⟩ := bnd h
  refine cV (b := 53) (As := []) (rest := [.ref (g.2.2 0)]) (st1 := [.int r5.1, .ref (g.2.2 0)]) hC hw (c_X6_inPits l g n 53 μ r5 hr5) ml_X11_236 im_X6_inPits se_X6_inPits ok53 (CN := RX6) (T := TX6) (NF := 2) rfl rfl (by decide) rfl hl.1 ⟨Nat.le_of_ble_eq_true rfl, Nat.le_of_ble_eq_true rfl⟩ (Nat.le_of_ble_eq_true rfl) ⟨Nat.zero_le _, Nat.zero_le _⟩ rfl dX11_against_5 (fun H locs hw => ?_)
  rcases thr_cs h with ⟨k8x, m8, hr8, h⟩ | ⟨r8, m8, hr8, h⟩
  · rw [(inrI h).1, (inrI h).2] at hr8
    exact cVX (b := 0) (As := [.int r5.1]) (rest := []) hC hw htab hlocks (x_X11_needSolved l hst g n r5.1 r5.2 kx μx hr8) ml_X11_279 im_X11_needSolved se_X11_needSolved ok0 (CN := RX11) (T := TX11) (NF := 12) rfl rfl (by decide) rfl hl.1 ⟨Nat.le_of_ble_eq_true rfl, Nat.le_of_ble_eq_true rfl⟩ (Nat.le_of_ble_eq_true rfl) ⟨Nat.le_refl 1, Nat.le_refl 6⟩ dX11_against_8
  refine cV (b := 0) (As := [.int r5.1]) (rest := []) (st1 := []) hC hw (c_X11_needSolved l g n r5.1 r5.2 (r8, m8) hr8) ml_X11_279 im_X11_needSolved se_X11_needSolved ok0 (CN := RX11) (T := TX11) (NF := 12) rfl rfl (by decide) rfl hl.1 ⟨Nat.le_of_ble_eq_true rfl, Nat.le_of_ble_eq_true rfl⟩ (Nat.le_of_ble_eq_true rfl) ⟨Nat.zero_le _, Nat.zero_le _⟩ rfl dX11_against_8 (fun H locs hw => ?_)
  refine lv_iload_n hx hb dX11_against_11 rfl (lv_at hl 2 rfl) ?_
  refine lv_if_lt (tgt := 20) hx hb dX11_against_12 (by decide) (fun hc => ?_) (fun hc => ?_)
  · rw [if_pos hc] at h
    exact B20 m8 _ _ _ hw (lv_sub hl [] rfl) h
  · rw [if_neg hc] at h
    refine lv_iload_n hx hb dX11_against_15 rfl (lv_at hl 2 rfl) ?_
    refine lv_iconst (v := (2 : Int32)) hx hb dX11_against_16 (by decide) ?_
    refine lv_icmp_le (tgt := 30) hx hb dX11_against_17 (by decide) (fun hc => ?_) (fun hc => ?_)
    · rw [if_pos hc] at h
      refine lv_aload_n hx hb dX11_against_30 rfl (lv_at hl 0 rfl) ?_
      refine gR (t := 22) hC hw fl_X11_72 ok0 (by decide) ot0_8 dX11_against_31 ?_
      refine lv_aload_n hx hb dX11_against_34 rfl (lv_at hl 0 rfl) ?_
      refine gR (t := 53) hC hw fl_X11_37 ok0 (by decide) ot0_3 dX11_against_35 ?_
      refine lv_iload_n hx hb dX11_against_38 rfl (lv_at hl 1 rfl) ?_
      refine lv_iconst (v := (1 : Int32)) hx hb dX11_against_39 (by decide) ?_
      obtain ⟨r40, hr40, h⟩ := bnd h
      refine cV (b := 22) (As := [.ref (g.2.2 53), .int v1, .int (1 : Int32)]) (rest := []) (st1 := []) hC hw (c_X10_goByDraws l g n 53 v1 (1 : Int32) m8 r40 hr40) ml_X11_346 im_X10_goByDraws se_X10_goByDraws ok22 (CN := RX10) (T := TX10) (NF := 7) rfl rfl (by decide) rfl hl.1 ⟨Nat.le_of_ble_eq_true rfl, Nat.le_of_ble_eq_true rfl⟩ (Nat.le_of_ble_eq_true rfl) ⟨Nat.zero_le _, Nat.zero_le _⟩ rfl dX11_against_40 (fun H locs hw => ?_)
      refine lv_aload_n hx hb dX11_against_43 rfl (lv_at hl 0 rfl) ?_
      refine lv_iload_n hx hb dX11_against_44 rfl (lv_at hl 2 rfl) ?_
      obtain ⟨r45, hr45, h⟩ := bnd h
      refine cV (b := 0) (As := [.int v2]) (rest := []) (st1 := [.int r45.1]) hC hw (c_X11_toldOfPlay l g n v2 r40.2 r45 hr45) ml_X11_350 im_X11_toldOfPlay se_X11_toldOfPlay ok0 (CN := RX11) (T := TX11) (NF := 12) rfl rfl (by decide) rfl hl.1 ⟨Nat.le_of_ble_eq_true rfl, Nat.le_of_ble_eq_true rfl⟩ (Nat.le_of_ble_eq_true rfl) ⟨Nat.zero_le _, Nat.zero_le _⟩ rfl dX11_against_45 (fun H locs hw => ?_)
      cases h
    · rw [if_neg hc] at h
      exact B20 m8 _ _ _ hw (lv_sub hl [] rfl) h
set_option maxRecDepth 100000 in
set_option maxHeartbeats 4000000 in
theorem c_X11_restore (l : Launch) (g : Gw) (n : Nat) (v1 : Int32) (μ : Mu) (r : Unit × Mu) (h : X11_restore n v1 μ = some (Sum.inl r.1, r.2)) : Ct l g yX11_restore cX11_restore 3 none 7 [.ref (g.2.2 0), .int v1] μ none r.2 := by
  rw [X11_restore] at h
  refine Ct.of (by decide) (Nat.le_of_ble_eq_true rfl) ?_
  intro p e s m args below meth c ls hC hw hr hlocks hl
  have hx := hC.1
  have hb := hC.2.1
  have hl : lv_has ls 3 [(0, .ref (g.2.2 0)), (1, .int v1)] := hl
  refine lv_aload_n hx hb dX11_restore_0 rfl (lv_at hl 0 rfl) ?_
  refine lv_iload_n hx hb dX11_restore_1 rfl (lv_at hl 1 rfl) ?_
  obtain ⟨r2, m2, hr2, h⟩ := thr_rt h
  obtain ⟨hkr2, h⟩ := kd_some h
  refine cV (b := 0) (As := [.int v1]) (rest := []) (st1 := [.ref (g.2.2 r2)]) hC hw (c_X11_anyImage l g n v1 μ (r2, m2) hr2) ml_X11_374 im_X11_anyImage se_X11_anyImage ok0 (CN := RX11) (T := TX11) (NF := 12) rfl rfl (by decide) rfl hl.1 ⟨Nat.le_of_ble_eq_true rfl, Nat.le_of_ble_eq_true rfl⟩ (Nat.le_of_ble_eq_true rfl) ⟨Nat.zero_le _, Nat.zero_le _⟩ rfl dX11_restore_2 (fun H locs hw => ?_)
  refine lv_astore_n (lv' := [(2, .ref (g.2.2 r2)), (0, .ref (g.2.2 0)), (1, .int v1)]) hx hb dX11_restore_5 rfl hl (by decide) rfl (fun ls hl => ?_)
  refine lv_aload_n hx hb dX11_restore_6 rfl (lv_at hl 0 rfl) ?_
  refine gI hC hw fl_X11_378 hkr2 (by decide) dX11_restore_7 ?_
  refine lv_if_ne (tgt := 24) hx hb dX11_restore_10 (by decide) (fun hc => ?_) (fun hc => ?_)
  · rw [if_neg hc] at h
    refine lv_aload_n hx hb dX11_restore_24 rfl (lv_at hl 1 rfl) ?_
    refine lv_aload_n hx hb dX11_restore_25 rfl (lv_at hl 0 rfl) ?_
    refine gR (t := (r2 + 1)) hC hw fl_X11_381 hkr2 (by decide) (im_T1 hkr2) dX11_restore_26 ?_
    refine lv_aload_n hx hb dX11_restore_29 rfl (lv_at hl 0 rfl) ?_
    refine gR (t := (r2 + 2)) hC hw fl_X11_384 hkr2 (by decide) (im_T2 hkr2) dX11_restore_30 ?_
    obtain ⟨r33, hr33, h⟩ := bnd h
    refine cV (b := 0) (As := [.ref (g.2.2 (r2 + 1)), .ref (g.2.2 (r2 + 2))]) (rest := []) (st1 := []) hC hw (c_X11_settle l g n (r2 + 1) (r2 + 2) m2 r33 hr33) ml_X11_124 im_X11_settle se_X11_settle ok0 (CN := RX11) (T := TX11) (NF := 12) rfl rfl (by decide) rfl hl.1 ⟨Nat.le_of_ble_eq_true rfl, Nat.le_of_ble_eq_true rfl⟩ (Nat.le_of_ble_eq_true rfl) ⟨Nat.zero_le _, Nat.zero_le _⟩ rfl dX11_restore_33 (fun H locs hw => ?_)
    exact rV hC hw hr hlocks rfl (inlI h).2 dX11_restore_36
  · rw [if_pos hc] at h
    cases h
set_option maxRecDepth 100000 in
set_option maxHeartbeats 4000000 in
theorem x_X11_restore (l : Launch) (hst : l.stackTraces = false) (g : Gw) (n : Nat) (v1 : Int32) (μ : Mu) (kx : Nat) (μx : Mu) (h : X11_restore n v1 μ = some (Sum.inr kx, μx)) : CtX l g yX11_restore cX11_restore 3 none 7 [.ref (g.2.2 0), .int v1] μ kx μx := by
  rw [X11_restore] at h
  refine CtX.of (by decide) (Nat.le_of_ble_eq_true rfl) ?_
  intro p e s m args below meth c ls hC hw htab hlocks hl
  have hx := hC.1
  have hb := hC.2.1
  have hl : lv_has ls 3 [(0, .ref (g.2.2 0)), (1, .int v1)] := hl
  refine lv_aload_n hx hb dX11_restore_0 rfl (lv_at hl 0 rfl) ?_
  refine lv_iload_n hx hb dX11_restore_1 rfl (lv_at hl 1 rfl) ?_
  rcases thr_cs h with ⟨k2x, m2, hr2, h⟩ | ⟨r2, m2, hr2, h⟩
  · rw [(inrI h).1, (inrI h).2] at hr2
    exact cVX (b := 0) (As := [.int v1]) (rest := []) hC hw htab hlocks (x_X11_anyImage l hst g n v1 μ kx μx hr2) ml_X11_374 im_X11_anyImage se_X11_anyImage ok0 (CN := RX11) (T := TX11) (NF := 12) rfl rfl (by decide) rfl hl.1 ⟨Nat.le_of_ble_eq_true rfl, Nat.le_of_ble_eq_true rfl⟩ (Nat.le_of_ble_eq_true rfl) ⟨Nat.le_refl 1, Nat.le_refl 6⟩ dX11_restore_2
  obtain ⟨hkr2, h⟩ := kd_some h
  refine cV (b := 0) (As := [.int v1]) (rest := []) (st1 := [.ref (g.2.2 r2)]) hC hw (c_X11_anyImage l g n v1 μ (r2, m2) hr2) ml_X11_374 im_X11_anyImage se_X11_anyImage ok0 (CN := RX11) (T := TX11) (NF := 12) rfl rfl (by decide) rfl hl.1 ⟨Nat.le_of_ble_eq_true rfl, Nat.le_of_ble_eq_true rfl⟩ (Nat.le_of_ble_eq_true rfl) ⟨Nat.zero_le _, Nat.zero_le _⟩ rfl dX11_restore_2 (fun H locs hw => ?_)
  refine lv_astore_n (lv' := [(2, .ref (g.2.2 r2)), (0, .ref (g.2.2 0)), (1, .int v1)]) hx hb dX11_restore_5 rfl hl (by decide) rfl (fun ls hl => ?_)
  refine lv_aload_n hx hb dX11_restore_6 rfl (lv_at hl 0 rfl) ?_
  refine gI hC hw fl_X11_378 hkr2 (by decide) dX11_restore_7 ?_
  refine lv_if_ne (tgt := 24) hx hb dX11_restore_10 (by decide) (fun hc => ?_) (fun hc => ?_)
  · rw [if_neg hc] at h
    refine lv_aload_n hx hb dX11_restore_24 rfl (lv_at hl 1 rfl) ?_
    refine lv_aload_n hx hb dX11_restore_25 rfl (lv_at hl 0 rfl) ?_
    refine gR (t := (r2 + 1)) hC hw fl_X11_381 hkr2 (by decide) (im_T1 hkr2) dX11_restore_26 ?_
    refine lv_aload_n hx hb dX11_restore_29 rfl (lv_at hl 0 rfl) ?_
    refine gR (t := (r2 + 2)) hC hw fl_X11_384 hkr2 (by decide) (im_T2 hkr2) dX11_restore_30 ?_
    obtain ⟨r33, hr33, h⟩ := bnd h
    refine cV (b := 0) (As := [.ref (g.2.2 (r2 + 1)), .ref (g.2.2 (r2 + 2))]) (rest := []) (st1 := []) hC hw (c_X11_settle l g n (r2 + 1) (r2 + 2) m2 r33 hr33) ml_X11_124 im_X11_settle se_X11_settle ok0 (CN := RX11) (T := TX11) (NF := 12) rfl rfl (by decide) rfl hl.1 ⟨Nat.le_of_ble_eq_true rfl, Nat.le_of_ble_eq_true rfl⟩ (Nat.le_of_ble_eq_true rfl) ⟨Nat.zero_le _, Nat.zero_le _⟩ rfl dX11_restore_33 (fun H locs hw => ?_)
    cases h
  · rw [if_pos hc] at h
    exact thSW (rest := []) hC hw hst 31 (by decide) rfl rfl xft2 xnm xcl2 xin2 xat2 hl.1 htab hlocks (by rw [← (inrI h).1]; rfl) (inrI h).2 (Nat.le_of_ble_eq_true rfl) (Nat.le_of_ble_eq_true rfl) dX11_restore_13 dX11_restore_16 dX11_restore_17 dX11_restore_20 dX11_restore_23
set_option maxRecDepth 100000 in
set_option maxHeartbeats 4000000 in
theorem c_X11_board (l : Launch) (g : Gw) (n : Nat) (v1 : Int32) (μ : Mu) (r : Int32 × Mu) (h : X11_board n v1 μ = some (Sum.inl r.1, r.2)) : Ct l g yX11_board cX11_board 2 (some .int) 8 [.ref (g.2.2 0), .int v1] μ (some (.int r.1)) r.2 := by
  rw [X11_board] at h
  refine Ct.of (by decide) (Nat.le_of_ble_eq_true rfl) ?_
  intro p e s m args below meth c ls hC hw hr hlocks hl
  have hx := hC.1
  have hb := hC.2.1
  have hl : lv_has ls 2 [(0, .ref (g.2.2 0)), (1, .int v1)] := hl
  have B15 : ∀ (μ : Mu) (H : Heap) (locs : List Loc) (ls : Array Slot), wd g μ s (Aw g s.heap.size) H locs → lv_has ls 2 [] → X11_board_15 n v1  μ = some (Sum.inl r.1, r.2) → WQ p l e (rmD 8) s m args below meth c g (some (.int r.1)) r.2 H locs (F0 m 15 ls []) := by
    intro μ H locs ls hw hl h
    rw [X11_board_15] at h
    cases h
  refine lv_iload_n hx hb dX11_board_0 rfl (lv_at hl 1 rfl) ?_
  refine lv_if_lt (tgt := 15) hx hb dX11_board_1 (by decide) (fun hc => ?_) (fun hc => ?_)
  · rw [if_pos hc] at h
    exact B15 μ _ _ _ hw (lv_sub hl [] rfl) h
  · rw [if_neg hc] at h
    refine lv_iload_n hx hb dX11_board_4 rfl (lv_at hl 1 rfl) ?_
    refine lv_aload_n hx hb dX11_board_5 rfl (lv_at hl 0 rfl) ?_
    refine gR (t := 12) hC hw fl_X11_54 ok0 (by decide) ot0_6 dX11_board_6 ?_
    refine gI hC hw fl_X11_99 ok12 (by decide) dX11_board_9 ?_
    refine lv_icmp_le (tgt := 25) hx hb dX11_board_12 (by decide) (fun hc => ?_) (fun hc => ?_)
    · rw [if_pos hc] at h
      refine lv_aload_n hx hb dX11_board_25 rfl (lv_at hl 0 rfl) ?_
      refine gR (t := 12) hC hw fl_X11_54 ok0 (by decide) ot0_6 dX11_board_26 ?_
      refine lv_iload_n hx hb dX11_board_29 rfl (lv_at hl 1 rfl) ?_
      obtain ⟨r30, hr30, h⟩ := bnd h
      refine cV (b := 12) (As := [.int v1]) (rest := []) (st1 := []) hC hw (c_X4_read l g n v1 μ r30 hr30) ml_X11_114 im_X4_read se_X4_read ok12 (CN := RX4) (T := TX4) (NF := 11) rfl rfl (by decide) rfl hl.1 ⟨Nat.le_of_ble_eq_true rfl, Nat.le_of_ble_eq_true rfl⟩ (Nat.le_of_ble_eq_true rfl) ⟨Nat.zero_le _, Nat.zero_le _⟩ rfl dX11_board_30 (fun H locs hw => ?_)
      refine lv_aload_n hx hb dX11_board_33 rfl (lv_at hl 0 rfl) ?_
      refine gR (t := 12) hC hw fl_X11_54 ok0 (by decide) ot0_6 dX11_board_34 ?_
      refine lv_iconst (v := (0 : Int32)) hx hb dX11_board_37 (by decide) ?_
      refine pI hC hw fl_X11_99 fp_4_4 ok12 dX11_board_38 (fun H locs hw => ?_)
      refine lv_aload_n hx hb dX11_board_41 rfl (lv_at hl 0 rfl) ?_
      refine gR (t := 12) hC hw fl_X11_54 ok0 (by decide) ot0_6 dX11_board_42 ?_
      refine gI hC hw fl_X11_117 ok12 (by decide) dX11_board_45 ?_
      refine lv_if_eq (tgt := 62) hx hb dX11_board_48 (by decide) (fun hc => ?_) (fun hc => ?_)
      · rw [if_pos hc] at h
        refine lv_aload_n hx hb dX11_board_62 rfl (lv_at hl 0 rfl) ?_
        refine lv_aload_n hx hb dX11_board_63 rfl (lv_at hl 0 rfl) ?_
        refine gR (t := 12) hC hw fl_X11_54 ok0 (by decide) ot0_6 dX11_board_64 ?_
        refine gR (t := 13) hC hw fl_X11_120 ok12 (by decide) ot12_0 dX11_board_67 ?_
        refine lv_aload_n hx hb dX11_board_70 rfl (lv_at hl 0 rfl) ?_
        refine gR (t := 12) hC hw fl_X11_54 ok0 (by decide) ot0_6 dX11_board_71 ?_
        refine gR (t := 149) hC hw fl_X11_121 ok12 (by decide) ot12_1 dX11_board_74 ?_
        obtain ⟨r77, hr77, h⟩ := bnd h
        refine cV (b := 0) (As := [.ref (g.2.2 13), .ref (g.2.2 149)]) (rest := []) (st1 := []) hC hw (c_X11_settle l g n 13 149 (si r30.2 12 4 (0 : Int32)) r77 hr77) ml_X11_124 im_X11_settle se_X11_settle ok0 (CN := RX11) (T := TX11) (NF := 12) rfl rfl (by decide) rfl hl.1 ⟨Nat.le_of_ble_eq_true rfl, Nat.le_of_ble_eq_true rfl⟩ (Nat.le_of_ble_eq_true rfl) ⟨Nat.zero_le _, Nat.zero_le _⟩ rfl dX11_board_77 (fun H locs hw => ?_)
        refine lv_aload_n hx hb dX11_board_80 rfl (lv_at hl 0 rfl) ?_
        refine gR (t := 1) hC hw fl_X11_12 ok0 (by decide) ot0_0 dX11_board_81 ?_
        refine gI hC hw fl_X11_128 ok1 (by decide) dX11_board_84 ?_
        exact rI hC hw hr hlocks (by rw [(inlI h).1]) (inlI h).2 dX11_board_87
      · rw [if_neg hc] at h
        refine lv_bipush (v := ((-10) : Int32)) hx hb dX11_board_51 (by decide) ?_
        refine lv_aload_n hx hb dX11_board_53 rfl (lv_at hl 0 rfl) ?_
        refine gR (t := 12) hC hw fl_X11_54 ok0 (by decide) ot0_6 dX11_board_54 ?_
        refine gI hC hw fl_X11_117 ok12 (by decide) dX11_board_57 ?_
        refine lv_isub hx hb dX11_board_60 ?_
        exact rI hC hw hr hlocks (by rw [(inlI h).1]) (inlI h).2 dX11_board_61
    · rw [if_neg hc] at h
      exact B15 μ _ _ _ hw (lv_sub hl [] rfl) h
set_option maxRecDepth 100000 in
set_option maxHeartbeats 4000000 in
theorem x_X11_board (l : Launch) (hst : l.stackTraces = false) (g : Gw) (n : Nat) (v1 : Int32) (μ : Mu) (kx : Nat) (μx : Mu) (h : X11_board n v1 μ = some (Sum.inr kx, μx)) : CtX l g yX11_board cX11_board 2 (some .int) 8 [.ref (g.2.2 0), .int v1] μ kx μx := by
  rw [X11_board] at h
  refine CtX.of (by decide) (Nat.le_of_ble_eq_true rfl) ?_
  intro p e s m args below meth c ls hC hw htab hlocks hl
  have hx := hC.1
  have hb := hC.2.1
  have hl : lv_has ls 2 [(0, .ref (g.2.2 0)), (1, .int v1)] := hl
  have B15 : ∀ (μ : Mu) (H : Heap) (locs : List Loc) (ls : Array Slot), wd g μ s (Aw g s.heap.size) H locs → lv_has ls 2 [] → X11_board_15 n v1  μ = some (Sum.inr kx, μx) → WX p l e (rmX 8) s m args below meth c g kx μx H locs (F0 m 15 ls []) := by
    intro μ H locs ls hw hl h
    rw [X11_board_15] at h
    exact thS (rest := []) hC hw hst 0 (by decide) rfl rfl xft1 xnm xcl1 xin1 xat1 hl.1 htab hlocks (by rw [← (inrI h).1]; rfl) (inrI h).2 (Nat.le_of_ble_eq_true rfl) (Nat.le_of_ble_eq_true rfl) dX11_board_15 dX11_board_18 dX11_board_19 dX11_board_21 dX11_board_24
  refine lv_iload_n hx hb dX11_board_0 rfl (lv_at hl 1 rfl) ?_
  refine lv_if_lt (tgt := 15) hx hb dX11_board_1 (by decide) (fun hc => ?_) (fun hc => ?_)
  · rw [if_pos hc] at h
    exact B15 μ _ _ _ hw (lv_sub hl [] rfl) h
  · rw [if_neg hc] at h
    refine lv_iload_n hx hb dX11_board_4 rfl (lv_at hl 1 rfl) ?_
    refine lv_aload_n hx hb dX11_board_5 rfl (lv_at hl 0 rfl) ?_
    refine gR (t := 12) hC hw fl_X11_54 ok0 (by decide) ot0_6 dX11_board_6 ?_
    refine gI hC hw fl_X11_99 ok12 (by decide) dX11_board_9 ?_
    refine lv_icmp_le (tgt := 25) hx hb dX11_board_12 (by decide) (fun hc => ?_) (fun hc => ?_)
    · rw [if_pos hc] at h
      refine lv_aload_n hx hb dX11_board_25 rfl (lv_at hl 0 rfl) ?_
      refine gR (t := 12) hC hw fl_X11_54 ok0 (by decide) ot0_6 dX11_board_26 ?_
      refine lv_iload_n hx hb dX11_board_29 rfl (lv_at hl 1 rfl) ?_
      obtain ⟨r30, hr30, h⟩ := bnd h
      refine cV (b := 12) (As := [.int v1]) (rest := []) (st1 := []) hC hw (c_X4_read l g n v1 μ r30 hr30) ml_X11_114 im_X4_read se_X4_read ok12 (CN := RX4) (T := TX4) (NF := 11) rfl rfl (by decide) rfl hl.1 ⟨Nat.le_of_ble_eq_true rfl, Nat.le_of_ble_eq_true rfl⟩ (Nat.le_of_ble_eq_true rfl) ⟨Nat.zero_le _, Nat.zero_le _⟩ rfl dX11_board_30 (fun H locs hw => ?_)
      refine lv_aload_n hx hb dX11_board_33 rfl (lv_at hl 0 rfl) ?_
      refine gR (t := 12) hC hw fl_X11_54 ok0 (by decide) ot0_6 dX11_board_34 ?_
      refine lv_iconst (v := (0 : Int32)) hx hb dX11_board_37 (by decide) ?_
      refine pI hC hw fl_X11_99 fp_4_4 ok12 dX11_board_38 (fun H locs hw => ?_)
      refine lv_aload_n hx hb dX11_board_41 rfl (lv_at hl 0 rfl) ?_
      refine gR (t := 12) hC hw fl_X11_54 ok0 (by decide) ot0_6 dX11_board_42 ?_
      refine gI hC hw fl_X11_117 ok12 (by decide) dX11_board_45 ?_
      refine lv_if_eq (tgt := 62) hx hb dX11_board_48 (by decide) (fun hc => ?_) (fun hc => ?_)
      · rw [if_pos hc] at h
        refine lv_aload_n hx hb dX11_board_62 rfl (lv_at hl 0 rfl) ?_
        refine lv_aload_n hx hb dX11_board_63 rfl (lv_at hl 0 rfl) ?_
        refine gR (t := 12) hC hw fl_X11_54 ok0 (by decide) ot0_6 dX11_board_64 ?_
        refine gR (t := 13) hC hw fl_X11_120 ok12 (by decide) ot12_0 dX11_board_67 ?_
        refine lv_aload_n hx hb dX11_board_70 rfl (lv_at hl 0 rfl) ?_
        refine gR (t := 12) hC hw fl_X11_54 ok0 (by decide) ot0_6 dX11_board_71 ?_
        refine gR (t := 149) hC hw fl_X11_121 ok12 (by decide) ot12_1 dX11_board_74 ?_
        obtain ⟨r77, hr77, h⟩ := bnd h
        refine cV (b := 0) (As := [.ref (g.2.2 13), .ref (g.2.2 149)]) (rest := []) (st1 := []) hC hw (c_X11_settle l g n 13 149 (si r30.2 12 4 (0 : Int32)) r77 hr77) ml_X11_124 im_X11_settle se_X11_settle ok0 (CN := RX11) (T := TX11) (NF := 12) rfl rfl (by decide) rfl hl.1 ⟨Nat.le_of_ble_eq_true rfl, Nat.le_of_ble_eq_true rfl⟩ (Nat.le_of_ble_eq_true rfl) ⟨Nat.zero_le _, Nat.zero_le _⟩ rfl dX11_board_77 (fun H locs hw => ?_)
        refine lv_aload_n hx hb dX11_board_80 rfl (lv_at hl 0 rfl) ?_
        refine gR (t := 1) hC hw fl_X11_12 ok0 (by decide) ot0_0 dX11_board_81 ?_
        refine gI hC hw fl_X11_128 ok1 (by decide) dX11_board_84 ?_
        cases h
      · rw [if_neg hc] at h
        refine lv_bipush (v := ((-10) : Int32)) hx hb dX11_board_51 (by decide) ?_
        refine lv_aload_n hx hb dX11_board_53 rfl (lv_at hl 0 rfl) ?_
        refine gR (t := 12) hC hw fl_X11_54 ok0 (by decide) ot0_6 dX11_board_54 ?_
        refine gI hC hw fl_X11_117 ok12 (by decide) dX11_board_57 ?_
        refine lv_isub hx hb dX11_board_60 ?_
        cases h
    · rw [if_neg hc] at h
      exact B15 μ _ _ _ hw (lv_sub hl [] rfl) h
