set_option maxRecDepth 100000 in
set_option maxHeartbeats 4000000 in
theorem c_X11_needSide (l : Launch) (g : Gw) (n : Nat) (v0 : Int32) (μ : Mu) (r : Unit × Mu) (h : X11_needSide n v0 μ = some (Sum.inl r.1, r.2)) : Ct l g yX11_needSide cX11_needSide 1 none 6 [.int v0] μ none r.2 := by
  rw [X11_needSide] at h
  refine Ct.of (by decide) (Nat.le_of_ble_eq_true rfl) ?_
  intro p e s m args below meth c ls hC hw hr hlocks hl
  have hx := hC.1
  have hb := hC.2.1
  have hl : lv_has ls 1 [(0, .int v0)] := hl
  have B9 : ∀ (μ : Mu) (H : Heap) (locs : List Loc) (ls : Array Slot), wd g μ s (Aw g s.heap.size) H locs → lv_has ls 1 [] → X11_needSide_9 n v0  μ = some (Sum.inl r.1, r.2) → WQ p l e (rmD 6) s m args below meth c g none r.2 H locs (F0 m 9 ls []) := by
    intro μ H locs ls hw hl h
    rw [X11_needSide_9] at h
    cases h
  refine lv_iload_n hx hb dX11_needSide_0 rfl (lv_at hl 0 rfl) ?_
  refine lv_if_lt (tgt := 9) hx hb dX11_needSide_1 (by decide) (fun hc => ?_) (fun hc => ?_)
  · rw [if_pos hc] at h
    exact B9 μ _ _ _ hw (lv_sub hl [] rfl) h
  · rw [if_neg hc] at h
    refine lv_iload_n hx hb dX11_needSide_4 rfl (lv_at hl 0 rfl) ?_
    refine lv_iconst (v := (1 : Int32)) hx hb dX11_needSide_5 (by decide) ?_
    refine lv_icmp_le (tgt := 20) hx hb dX11_needSide_6 (by decide) (fun hc => ?_) (fun hc => ?_)
    · rw [if_pos hc] at h
      exact rV hC hw hr hlocks rfl (inlI h).2 dX11_needSide_20
    · rw [if_neg hc] at h
      exact B9 μ _ _ _ hw (lv_sub hl [] rfl) h
set_option maxRecDepth 100000 in
set_option maxHeartbeats 4000000 in
theorem x_X11_needSide (l : Launch) (hst : l.stackTraces = false) (g : Gw) (n : Nat) (v0 : Int32) (μ : Mu) (kx : Nat) (μx : Mu) (h : X11_needSide n v0 μ = some (Sum.inr kx, μx)) : CtX l g yX11_needSide cX11_needSide 1 none 6 [.int v0] μ kx μx := by
  rw [X11_needSide] at h
  refine CtX.of (by decide) (Nat.le_of_ble_eq_true rfl) ?_
  intro p e s m args below meth c ls hC hw htab hlocks hl
  have hx := hC.1
  have hb := hC.2.1
  have hl : lv_has ls 1 [(0, .int v0)] := hl
  have B9 : ∀ (μ : Mu) (H : Heap) (locs : List Loc) (ls : Array Slot), wd g μ s (Aw g s.heap.size) H locs → lv_has ls 1 [] → X11_needSide_9 n v0  μ = some (Sum.inr kx, μx) → WX p l e (rmX 6) s m args below meth c g kx μx H locs (F0 m 9 ls []) := by
    intro μ H locs ls hw hl h
    rw [X11_needSide_9] at h
    exact nthSW (rest := []) hC hw hst 17 (by decide) rfl rfl xcl0 xin0 xat0 hl.1 htab hlocks (by rw [← (inrI h).1]; rfl) (inrI h).2 (Nat.le_of_ble_eq_true rfl) (Nat.le_of_ble_eq_true rfl) dX11_needSide_9 dX11_needSide_12 dX11_needSide_13 dX11_needSide_16 dX11_needSide_19
  refine lv_iload_n hx hb dX11_needSide_0 rfl (lv_at hl 0 rfl) ?_
  refine lv_if_lt (tgt := 9) hx hb dX11_needSide_1 (by decide) (fun hc => ?_) (fun hc => ?_)
  · rw [if_pos hc] at h
    exact B9 μ _ _ _ hw (lv_sub hl [] rfl) h
  · rw [if_neg hc] at h
    refine lv_iload_n hx hb dX11_needSide_4 rfl (lv_at hl 0 rfl) ?_
    refine lv_iconst (v := (1 : Int32)) hx hb dX11_needSide_5 (by decide) ?_
    refine lv_icmp_le (tgt := 20) hx hb dX11_needSide_6 (by decide) (fun hc => ?_) (fun hc => ?_)
    · rw [if_pos hc] at h
      cases h
    · rw [if_neg hc] at h
      exact B9 μ _ _ _ hw (lv_sub hl [] rfl) h
set_option maxRecDepth 100000 in
set_option maxHeartbeats 4000000 in
theorem c_X11_needSeeds (l : Launch) (g : Gw) (n : Nat) (v0 : Int32) (μ : Mu) (r : Unit × Mu) (h : X11_needSeeds n v0 μ = some (Sum.inl r.1, r.2)) : Ct l g yX11_needSeeds cX11_needSeeds 1 none 6 [.int v0] μ none r.2 := by
  rw [X11_needSeeds] at h
  refine Ct.of (by decide) (Nat.le_of_ble_eq_true rfl) ?_
  intro p e s m args below meth c ls hC hw hr hlocks hl
  have hx := hC.1
  have hb := hC.2.1
  have hl : lv_has ls 1 [(0, .int v0)] := hl
  have B10 : ∀ (μ : Mu) (H : Heap) (locs : List Loc) (ls : Array Slot), wd g μ s (Aw g s.heap.size) H locs → lv_has ls 1 [] → X11_needSeeds_10 n v0  μ = some (Sum.inl r.1, r.2) → WQ p l e (rmD 6) s m args below meth c g none r.2 H locs (F0 m 10 ls []) := by
    intro μ H locs ls hw hl h
    rw [X11_needSeeds_10] at h
    cases h
  refine lv_iload_n hx hb dX11_needSeeds_0 rfl (lv_at hl 0 rfl) ?_
  refine lv_if_lt (tgt := 10) hx hb dX11_needSeeds_1 (by decide) (fun hc => ?_) (fun hc => ?_)
  · rw [if_pos hc] at h
    exact B10 μ _ _ _ hw (lv_sub hl [] rfl) h
  · rw [if_neg hc] at h
    refine lv_iload_n hx hb dX11_needSeeds_4 rfl (lv_at hl 0 rfl) ?_
    refine lv_bipush (v := (40 : Int32)) hx hb dX11_needSeeds_5 (by decide) ?_
    refine lv_icmp_le (tgt := 21) hx hb dX11_needSeeds_7 (by decide) (fun hc => ?_) (fun hc => ?_)
    · rw [if_pos hc] at h
      exact rV hC hw hr hlocks rfl (inlI h).2 dX11_needSeeds_21
    · rw [if_neg hc] at h
      exact B10 μ _ _ _ hw (lv_sub hl [] rfl) h
set_option maxRecDepth 100000 in
set_option maxHeartbeats 4000000 in
theorem x_X11_needSeeds (l : Launch) (hst : l.stackTraces = false) (g : Gw) (n : Nat) (v0 : Int32) (μ : Mu) (kx : Nat) (μx : Mu) (h : X11_needSeeds n v0 μ = some (Sum.inr kx, μx)) : CtX l g yX11_needSeeds cX11_needSeeds 1 none 6 [.int v0] μ kx μx := by
  rw [X11_needSeeds] at h
  refine CtX.of (by decide) (Nat.le_of_ble_eq_true rfl) ?_
  intro p e s m args below meth c ls hC hw htab hlocks hl
  have hx := hC.1
  have hb := hC.2.1
  have hl : lv_has ls 1 [(0, .int v0)] := hl
  have B10 : ∀ (μ : Mu) (H : Heap) (locs : List Loc) (ls : Array Slot), wd g μ s (Aw g s.heap.size) H locs → lv_has ls 1 [] → X11_needSeeds_10 n v0  μ = some (Sum.inr kx, μx) → WX p l e (rmX 6) s m args below meth c g kx μx H locs (F0 m 10 ls []) := by
    intro μ H locs ls hw hl h
    rw [X11_needSeeds_10] at h
    exact thSW (rest := []) hC hw hst 23 (by decide) rfl rfl xft1 xnm xcl1 xin1 xat1 hl.1 htab hlocks (by rw [← (inrI h).1]; rfl) (inrI h).2 (Nat.le_of_ble_eq_true rfl) (Nat.le_of_ble_eq_true rfl) dX11_needSeeds_10 dX11_needSeeds_13 dX11_needSeeds_14 dX11_needSeeds_17 dX11_needSeeds_20
  refine lv_iload_n hx hb dX11_needSeeds_0 rfl (lv_at hl 0 rfl) ?_
  refine lv_if_lt (tgt := 10) hx hb dX11_needSeeds_1 (by decide) (fun hc => ?_) (fun hc => ?_)
  · rw [if_pos hc] at h
    exact B10 μ _ _ _ hw (lv_sub hl [] rfl) h
  · rw [if_neg hc] at h
    refine lv_iload_n hx hb dX11_needSeeds_4 rfl (lv_at hl 0 rfl) ?_
    refine lv_bipush (v := (40 : Int32)) hx hb dX11_needSeeds_5 (by decide) ?_
    refine lv_icmp_le (tgt := 21) hx hb dX11_needSeeds_7 (by decide) (fun hc => ?_) (fun hc => ?_)
    · rw [if_pos hc] at h
      cases h
    · rw [if_neg hc] at h
      exact B10 μ _ _ _ hw (lv_sub hl [] rfl) h
set_option maxRecDepth 100000 in
set_option maxHeartbeats 4000000 in
theorem c_X11_needPosition (l : Launch) (g : Gw) (n : Nat) (v0 : Int32) (v1 : Int32) (μ : Mu) (r : Unit × Mu) (h : X11_needPosition n v0 v1 μ = some (Sum.inl r.1, r.2)) : Ct l g yX11_needPosition cX11_needPosition 2 none 6 [.int v0, .int v1] μ none r.2 := by
  rw [X11_needPosition] at h
  refine Ct.of (by decide) (Nat.le_of_ble_eq_true rfl) ?_
  intro p e s m args below meth c ls hC hw hr hlocks hl
  have hx := hC.1
  have hb := hC.2.1
  have hl : lv_has ls 2 [(0, .int v0), (1, .int v1)] := hl
  have B9 : ∀ (μ : Mu) (H : Heap) (locs : List Loc) (ls : Array Slot), wd g μ s (Aw g s.heap.size) H locs → lv_has ls 2 [] → X11_needPosition_9 n v0 v1  μ = some (Sum.inl r.1, r.2) → WQ p l e (rmD 6) s m args below meth c g none r.2 H locs (F0 m 9 ls []) := by
    intro μ H locs ls hw hl h
    rw [X11_needPosition_9] at h
    cases h
  refine lv_iload_n hx hb dX11_needPosition_0 rfl (lv_at hl 0 rfl) ?_
  refine lv_if_lt (tgt := 9) hx hb dX11_needPosition_1 (by decide) (fun hc => ?_) (fun hc => ?_)
  · rw [if_pos hc] at h
    exact B9 μ _ _ _ hw (lv_sub hl [] rfl) h
  · rw [if_neg hc] at h
    refine lv_iload_n hx hb dX11_needPosition_4 rfl (lv_at hl 0 rfl) ?_
    refine lv_iload_n hx hb dX11_needPosition_5 rfl (lv_at hl 1 rfl) ?_
    refine lv_icmp_lt (tgt := 20) hx hb dX11_needPosition_6 (by decide) (fun hc => ?_) (fun hc => ?_)
    · rw [if_pos hc] at h
      exact rV hC hw hr hlocks rfl (inlI h).2 dX11_needPosition_20
    · rw [if_neg hc] at h
      exact B9 μ _ _ _ hw (lv_sub hl [] rfl) h
set_option maxRecDepth 100000 in
set_option maxHeartbeats 4000000 in
theorem x_X11_needPosition (l : Launch) (hst : l.stackTraces = false) (g : Gw) (n : Nat) (v0 : Int32) (v1 : Int32) (μ : Mu) (kx : Nat) (μx : Mu) (h : X11_needPosition n v0 v1 μ = some (Sum.inr kx, μx)) : CtX l g yX11_needPosition cX11_needPosition 2 none 6 [.int v0, .int v1] μ kx μx := by
  rw [X11_needPosition] at h
  refine CtX.of (by decide) (Nat.le_of_ble_eq_true rfl) ?_
  intro p e s m args below meth c ls hC hw htab hlocks hl
  have hx := hC.1
  have hb := hC.2.1
  have hl : lv_has ls 2 [(0, .int v0), (1, .int v1)] := hl
  have B9 : ∀ (μ : Mu) (H : Heap) (locs : List Loc) (ls : Array Slot), wd g μ s (Aw g s.heap.size) H locs → lv_has ls 2 [] → X11_needPosition_9 n v0 v1  μ = some (Sum.inr kx, μx) → WX p l e (rmX 6) s m args below meth c g kx μx H locs (F0 m 9 ls []) := by
    intro μ H locs ls hw hl h
    rw [X11_needPosition_9] at h
    exact nthSW (rest := []) hC hw hst 25 (by decide) rfl rfl xcl0 xin0 xat0 hl.1 htab hlocks (by rw [← (inrI h).1]; rfl) (inrI h).2 (Nat.le_of_ble_eq_true rfl) (Nat.le_of_ble_eq_true rfl) dX11_needPosition_9 dX11_needPosition_12 dX11_needPosition_13 dX11_needPosition_16 dX11_needPosition_19
  refine lv_iload_n hx hb dX11_needPosition_0 rfl (lv_at hl 0 rfl) ?_
  refine lv_if_lt (tgt := 9) hx hb dX11_needPosition_1 (by decide) (fun hc => ?_) (fun hc => ?_)
  · rw [if_pos hc] at h
    exact B9 μ _ _ _ hw (lv_sub hl [] rfl) h
  · rw [if_neg hc] at h
    refine lv_iload_n hx hb dX11_needPosition_4 rfl (lv_at hl 0 rfl) ?_
    refine lv_iload_n hx hb dX11_needPosition_5 rfl (lv_at hl 1 rfl) ?_
    refine lv_icmp_lt (tgt := 20) hx hb dX11_needPosition_6 (by decide) (fun hc => ?_) (fun hc => ?_)
    · rw [if_pos hc] at h
      cases h
    · rw [if_neg hc] at h
      exact B9 μ _ _ _ hw (lv_sub hl [] rfl) h
set_option maxRecDepth 100000 in
set_option maxHeartbeats 4000000 in
theorem c_X11_anyTray (l : Launch) (g : Gw) (n : Nat) (v1 : Int32) (μ : Mu) (r : Nat × Mu) (h : X11_anyTray n v1 μ = some (Sum.inl r.1, r.2)) : Ct l g yX11_anyTray cX11_anyTray 2 (some (.object "SowingHouse$Tray")) 6 [.ref (g.2.2 0), .int v1] μ (some (.ref (g.2.2 r.1))) r.2 := by
  rw [X11_anyTray] at h
  refine Ct.of (by decide) (Nat.le_of_ble_eq_true rfl) ?_
  intro p e s m args below meth c ls hC hw hr hlocks hl
  have hx := hC.1
  have hb := hC.2.1
  have hl : lv_has ls 2 [(0, .ref (g.2.2 0)), (1, .int v1)] := hl
  have B9 : ∀ (μ : Mu) (H : Heap) (locs : List Loc) (ls : Array Slot), wd g μ s (Aw g s.heap.size) H locs → lv_has ls 2 [] → X11_anyTray_9 n v1  μ = some (Sum.inl r.1, r.2) → WQ p l e (rmD 6) s m args below meth c g (some (.ref (g.2.2 r.1))) r.2 H locs (F0 m 9 ls []) := by
    intro μ H locs ls hw hl h
    rw [X11_anyTray_9] at h
    cases h
  refine lv_iload_n hx hb dX11_anyTray_0 rfl (lv_at hl 1 rfl) ?_
  refine lv_if_lt (tgt := 9) hx hb dX11_anyTray_1 (by decide) (fun hc => ?_) (fun hc => ?_)
  · rw [if_pos hc] at h
    exact B9 μ _ _ _ hw (lv_sub hl [] rfl) h
  · rw [if_neg hc] at h
    refine lv_iload_n hx hb dX11_anyTray_4 rfl (lv_at hl 1 rfl) ?_
    refine lv_iconst (v := (4 : Int32)) hx hb dX11_anyTray_5 (by decide) ?_
    refine lv_icmp_lt (tgt := 20) hx hb dX11_anyTray_6 (by decide) (fun hc => ?_) (fun hc => ?_)
    · rw [if_pos hc] at h
      refine lv_aload_n hx hb dX11_anyTray_20 rfl (lv_at hl 0 rfl) ?_
      refine gR (t := 31) hC hw fl_X11_87 ok0 (by decide) ot0_10 dX11_anyTray_21 ?_
      refine lv_iload_n hx hb dX11_anyTray_24 rfl (lv_at hl 1 rfl) ?_
      obtain ⟨hi25, h⟩ := gd_some h
      have ha25 : oK (33 + 2 * v1.toNatClampNeg) = 9 := aK31 (i := v1) (j := v1.toNatClampNeg) hi25 rfl
      refine lA (t := (33 + 2 * v1.toNatClampNeg)) (CN := "SowingHouse$Tray") hC hw ok31 (by decide) rfl on31 hi25 (aT31 (i := v1) (j := v1.toNatClampNeg) hi25 rfl) dX11_anyTray_25 (by decide) ?_
      exact rA hC hw hr hlocks (by rw [(inlI h).1]) (inlI h).2 dX11_anyTray_26
    · rw [if_neg hc] at h
      exact B9 μ _ _ _ hw (lv_sub hl [] rfl) h
set_option maxRecDepth 100000 in
set_option maxHeartbeats 4000000 in
theorem x_X11_anyTray (l : Launch) (hst : l.stackTraces = false) (g : Gw) (n : Nat) (v1 : Int32) (μ : Mu) (kx : Nat) (μx : Mu) (h : X11_anyTray n v1 μ = some (Sum.inr kx, μx)) : CtX l g yX11_anyTray cX11_anyTray 2 (some (.object "SowingHouse$Tray")) 6 [.ref (g.2.2 0), .int v1] μ kx μx := by
  rw [X11_anyTray] at h
  refine CtX.of (by decide) (Nat.le_of_ble_eq_true rfl) ?_
  intro p e s m args below meth c ls hC hw htab hlocks hl
  have hx := hC.1
  have hb := hC.2.1
  have hl : lv_has ls 2 [(0, .ref (g.2.2 0)), (1, .int v1)] := hl
  have B9 : ∀ (μ : Mu) (H : Heap) (locs : List Loc) (ls : Array Slot), wd g μ s (Aw g s.heap.size) H locs → lv_has ls 2 [] → X11_anyTray_9 n v1  μ = some (Sum.inr kx, μx) → WX p l e (rmX 6) s m args below meth c g kx μx H locs (F0 m 9 ls []) := by
    intro μ H locs ls hw hl h
    rw [X11_anyTray_9] at h
    exact nthSW (rest := []) hC hw hst 21 (by decide) rfl rfl xcl0 xin0 xat0 hl.1 htab hlocks (by rw [← (inrI h).1]; rfl) (inrI h).2 (Nat.le_of_ble_eq_true rfl) (Nat.le_of_ble_eq_true rfl) dX11_anyTray_9 dX11_anyTray_12 dX11_anyTray_13 dX11_anyTray_16 dX11_anyTray_19
  refine lv_iload_n hx hb dX11_anyTray_0 rfl (lv_at hl 1 rfl) ?_
  refine lv_if_lt (tgt := 9) hx hb dX11_anyTray_1 (by decide) (fun hc => ?_) (fun hc => ?_)
  · rw [if_pos hc] at h
    exact B9 μ _ _ _ hw (lv_sub hl [] rfl) h
  · rw [if_neg hc] at h
    refine lv_iload_n hx hb dX11_anyTray_4 rfl (lv_at hl 1 rfl) ?_
    refine lv_iconst (v := (4 : Int32)) hx hb dX11_anyTray_5 (by decide) ?_
    refine lv_icmp_lt (tgt := 20) hx hb dX11_anyTray_6 (by decide) (fun hc => ?_) (fun hc => ?_)
    · rw [if_pos hc] at h
      refine lv_aload_n hx hb dX11_anyTray_20 rfl (lv_at hl 0 rfl) ?_
      refine gR (t := 31) hC hw fl_X11_87 ok0 (by decide) ot0_10 dX11_anyTray_21 ?_
      refine lv_iload_n hx hb dX11_anyTray_24 rfl (lv_at hl 1 rfl) ?_
      obtain ⟨hi25, h⟩ := gd_some h
      have ha25 : oK (33 + 2 * v1.toNatClampNeg) = 9 := aK31 (i := v1) (j := v1.toNatClampNeg) hi25 rfl
      refine lA (t := (33 + 2 * v1.toNatClampNeg)) (CN := "SowingHouse$Tray") hC hw ok31 (by decide) rfl on31 hi25 (aT31 (i := v1) (j := v1.toNatClampNeg) hi25 rfl) dX11_anyTray_25 (by decide) ?_
      cases h
    · rw [if_neg hc] at h
      exact B9 μ _ _ _ hw (lv_sub hl [] rfl) h
set_option maxRecDepth 100000 in
set_option maxHeartbeats 4000000 in
theorem c_X11_laidTray (l : Launch) (g : Gw) (n : Nat) (v1 : Int32) (μ : Mu) (r : Nat × Mu) (h : X11_laidTray n v1 μ = some (Sum.inl r.1, r.2)) : Ct l g yX11_laidTray cX11_laidTray 3 (some (.object "SowingHouse$Tray")) 7 [.ref (g.2.2 0), .int v1] μ (some (.ref (g.2.2 r.1))) r.2 := by
  rw [X11_laidTray] at h
  refine Ct.of (by decide) (Nat.le_of_ble_eq_true rfl) ?_
  intro p e s m args below meth c ls hC hw hr hlocks hl
  have hx := hC.1
  have hb := hC.2.1
  have hl : lv_has ls 3 [(0, .ref (g.2.2 0)), (1, .int v1)] := hl
  refine lv_aload_n hx hb dX11_laidTray_0 rfl (lv_at hl 0 rfl) ?_
  refine lv_iload_n hx hb dX11_laidTray_1 rfl (lv_at hl 1 rfl) ?_
  obtain ⟨r2, m2, hr2, h⟩ := thr_rt h
  obtain ⟨hkr2, h⟩ := kd_some h
  refine cV (b := 0) (As := [.int v1]) (rest := []) (st1 := [.ref (g.2.2 r2)]) hC hw (c_X11_anyTray l g n v1 μ (r2, m2) hr2) ml_X11_353 im_X11_anyTray se_X11_anyTray ok0 (CN := RX11) (T := TX11) (NF := 12) rfl rfl (by decide) rfl hl.1 ⟨Nat.le_of_ble_eq_true rfl, Nat.le_of_ble_eq_true rfl⟩ (Nat.le_of_ble_eq_true rfl) ⟨Nat.zero_le _, Nat.zero_le _⟩ rfl dX11_laidTray_2 (fun H locs hw => ?_)
  refine lv_astore_n (lv' := [(2, .ref (g.2.2 r2)), (0, .ref (g.2.2 0)), (1, .int v1)]) hx hb dX11_laidTray_5 rfl hl (by decide) rfl (fun ls hl => ?_)
  refine lv_aload_n hx hb dX11_laidTray_6 rfl (lv_at hl 0 rfl) ?_
  refine gI hC hw fl_X11_398 hkr2 (by decide) dX11_laidTray_7 ?_
  refine lv_iconst (v := ((-1) : Int32)) hx hb dX11_laidTray_10 (by decide) ?_
  refine lv_icmp_ne (tgt := 25) hx hb dX11_laidTray_11 (by decide) (fun hc => ?_) (fun hc => ?_)
  · rw [if_neg hc] at h
    refine lv_aload_n hx hb dX11_laidTray_25 rfl (lv_at hl 0 rfl) ?_
    exact rA hC hw hr hlocks (by rw [(inlI h).1]) (inlI h).2 dX11_laidTray_26
  · rw [if_pos hc] at h
    cases h
set_option maxRecDepth 100000 in
set_option maxHeartbeats 4000000 in
theorem x_X11_laidTray (l : Launch) (hst : l.stackTraces = false) (g : Gw) (n : Nat) (v1 : Int32) (μ : Mu) (kx : Nat) (μx : Mu) (h : X11_laidTray n v1 μ = some (Sum.inr kx, μx)) : CtX l g yX11_laidTray cX11_laidTray 3 (some (.object "SowingHouse$Tray")) 7 [.ref (g.2.2 0), .int v1] μ kx μx := by
  rw [X11_laidTray] at h
  refine CtX.of (by decide) (Nat.le_of_ble_eq_true rfl) ?_
  intro p e s m args below meth c ls hC hw htab hlocks hl
  have hx := hC.1
  have hb := hC.2.1
  have hl : lv_has ls 3 [(0, .ref (g.2.2 0)), (1, .int v1)] := hl
  refine lv_aload_n hx hb dX11_laidTray_0 rfl (lv_at hl 0 rfl) ?_
  refine lv_iload_n hx hb dX11_laidTray_1 rfl (lv_at hl 1 rfl) ?_
  rcases thr_cs h with ⟨k2x, m2, hr2, h⟩ | ⟨r2, m2, hr2, h⟩
  · rw [(inrI h).1, (inrI h).2] at hr2
    exact cVX (b := 0) (As := [.int v1]) (rest := []) hC hw htab hlocks (x_X11_anyTray l hst g n v1 μ kx μx hr2) ml_X11_353 im_X11_anyTray se_X11_anyTray ok0 (CN := RX11) (T := TX11) (NF := 12) rfl rfl (by decide) rfl hl.1 ⟨Nat.le_of_ble_eq_true rfl, Nat.le_of_ble_eq_true rfl⟩ (Nat.le_of_ble_eq_true rfl) ⟨Nat.le_refl 1, Nat.le_refl 6⟩ dX11_laidTray_2
  obtain ⟨hkr2, h⟩ := kd_some h
  refine cV (b := 0) (As := [.int v1]) (rest := []) (st1 := [.ref (g.2.2 r2)]) hC hw (c_X11_anyTray l g n v1 μ (r2, m2) hr2) ml_X11_353 im_X11_anyTray se_X11_anyTray ok0 (CN := RX11) (T := TX11) (NF := 12) rfl rfl (by decide) rfl hl.1 ⟨Nat.le_of_ble_eq_true rfl, Nat.le_of_ble_eq_true rfl⟩ (Nat.le_of_ble_eq_true rfl) ⟨Nat.zero_le _, Nat.zero_le _⟩ rfl dX11_laidTray_2 (fun H locs hw => ?_)
  refine lv_astore_n (lv' := [(2, .ref (g.2.2 r2)), (0, .ref (g.2.2 0)), (1, .int v1)]) hx hb dX11_laidTray_5 rfl hl (by decide) rfl (fun ls hl => ?_)
  refine lv_aload_n hx hb dX11_laidTray_6 rfl (lv_at hl 0 rfl) ?_
  refine gI hC hw fl_X11_398 hkr2 (by decide) dX11_laidTray_7 ?_
  refine lv_iconst (v := ((-1) : Int32)) hx hb dX11_laidTray_10 (by decide) ?_
  refine lv_icmp_ne (tgt := 25) hx hb dX11_laidTray_11 (by decide) (fun hc => ?_) (fun hc => ?_)
  · rw [if_neg hc] at h
    refine lv_aload_n hx hb dX11_laidTray_25 rfl (lv_at hl 0 rfl) ?_
    cases h
  · rw [if_pos hc] at h
    exact thSW (rest := []) hC hw hst 22 (by decide) rfl rfl xft2 xnm xcl2 xin2 xat2 hl.1 htab hlocks (by rw [← (inrI h).1]; rfl) (inrI h).2 (Nat.le_of_ble_eq_true rfl) (Nat.le_of_ble_eq_true rfl) dX11_laidTray_14 dX11_laidTray_17 dX11_laidTray_18 dX11_laidTray_21 dX11_laidTray_24
set_option maxRecDepth 100000 in
set_option maxHeartbeats 4000000 in
theorem c_X11_anyImage (l : Launch) (g : Gw) (n : Nat) (v1 : Int32) (μ : Mu) (r : Nat × Mu) (h : X11_anyImage n v1 μ = some (Sum.inl r.1, r.2)) : Ct l g yX11_anyImage cX11_anyImage 2 (some (.object "SowingHouse$Image")) 6 [.ref (g.2.2 0), .int v1] μ (some (.ref (g.2.2 r.1))) r.2 := by
  rw [X11_anyImage] at h
  refine Ct.of (by decide) (Nat.le_of_ble_eq_true rfl) ?_
  intro p e s m args below meth c ls hC hw hr hlocks hl
  have hx := hC.1
  have hb := hC.2.1
  have hl : lv_has ls 2 [(0, .ref (g.2.2 0)), (1, .int v1)] := hl
  have B9 : ∀ (μ : Mu) (H : Heap) (locs : List Loc) (ls : Array Slot), wd g μ s (Aw g s.heap.size) H locs → lv_has ls 2 [] → X11_anyImage_9 n v1  μ = some (Sum.inl r.1, r.2) → WQ p l e (rmD 6) s m args below meth c g (some (.ref (g.2.2 r.1))) r.2 H locs (F0 m 9 ls []) := by
    intro μ H locs ls hw hl h
    rw [X11_anyImage_9] at h
    cases h
  refine lv_iload_n hx hb dX11_anyImage_0 rfl (lv_at hl 1 rfl) ?_
  refine lv_if_lt (tgt := 9) hx hb dX11_anyImage_1 (by decide) (fun hc => ?_) (fun hc => ?_)
  · rw [if_pos hc] at h
    exact B9 μ _ _ _ hw (lv_sub hl [] rfl) h
  · rw [if_neg hc] at h
    refine lv_iload_n hx hb dX11_anyImage_4 rfl (lv_at hl 1 rfl) ?_
    refine lv_iconst (v := (3 : Int32)) hx hb dX11_anyImage_5 (by decide) ?_
    refine lv_icmp_lt (tgt := 20) hx hb dX11_anyImage_6 (by decide) (fun hc => ?_) (fun hc => ?_)
    · rw [if_pos hc] at h
      refine lv_aload_n hx hb dX11_anyImage_20 rfl (lv_at hl 0 rfl) ?_
      refine gR (t := 32) hC hw fl_X11_93 ok0 (by decide) ot0_11 dX11_anyImage_21 ?_
      refine lv_iload_n hx hb dX11_anyImage_24 rfl (lv_at hl 1 rfl) ?_
      obtain ⟨hi25, h⟩ := gd_some h
      have ha25 : oK (41 + 4 * v1.toNatClampNeg) = 2 := aK32 (i := v1) (j := v1.toNatClampNeg) hi25 rfl
      refine lA (t := (41 + 4 * v1.toNatClampNeg)) (CN := "SowingHouse$Image") hC hw ok32 (by decide) rfl on32 hi25 (aT32 (i := v1) (j := v1.toNatClampNeg) hi25 rfl) dX11_anyImage_25 (by decide) ?_
      exact rA hC hw hr hlocks (by rw [(inlI h).1]) (inlI h).2 dX11_anyImage_26
    · rw [if_neg hc] at h
      exact B9 μ _ _ _ hw (lv_sub hl [] rfl) h
set_option maxRecDepth 100000 in
set_option maxHeartbeats 4000000 in
theorem x_X11_anyImage (l : Launch) (hst : l.stackTraces = false) (g : Gw) (n : Nat) (v1 : Int32) (μ : Mu) (kx : Nat) (μx : Mu) (h : X11_anyImage n v1 μ = some (Sum.inr kx, μx)) : CtX l g yX11_anyImage cX11_anyImage 2 (some (.object "SowingHouse$Image")) 6 [.ref (g.2.2 0), .int v1] μ kx μx := by
  rw [X11_anyImage] at h
  refine CtX.of (by decide) (Nat.le_of_ble_eq_true rfl) ?_
  intro p e s m args below meth c ls hC hw htab hlocks hl
  have hx := hC.1
  have hb := hC.2.1
  have hl : lv_has ls 2 [(0, .ref (g.2.2 0)), (1, .int v1)] := hl
  have B9 : ∀ (μ : Mu) (H : Heap) (locs : List Loc) (ls : Array Slot), wd g μ s (Aw g s.heap.size) H locs → lv_has ls 2 [] → X11_anyImage_9 n v1  μ = some (Sum.inr kx, μx) → WX p l e (rmX 6) s m args below meth c g kx μx H locs (F0 m 9 ls []) := by
    intro μ H locs ls hw hl h
    rw [X11_anyImage_9] at h
    exact nthSW (rest := []) hC hw hst 30 (by decide) rfl rfl xcl0 xin0 xat0 hl.1 htab hlocks (by rw [← (inrI h).1]; rfl) (inrI h).2 (Nat.le_of_ble_eq_true rfl) (Nat.le_of_ble_eq_true rfl) dX11_anyImage_9 dX11_anyImage_12 dX11_anyImage_13 dX11_anyImage_16 dX11_anyImage_19
  refine lv_iload_n hx hb dX11_anyImage_0 rfl (lv_at hl 1 rfl) ?_
  refine lv_if_lt (tgt := 9) hx hb dX11_anyImage_1 (by decide) (fun hc => ?_) (fun hc => ?_)
  · rw [if_pos hc] at h
    exact B9 μ _ _ _ hw (lv_sub hl [] rfl) h
  · rw [if_neg hc] at h
    refine lv_iload_n hx hb dX11_anyImage_4 rfl (lv_at hl 1 rfl) ?_
    refine lv_iconst (v := (3 : Int32)) hx hb dX11_anyImage_5 (by decide) ?_
    refine lv_icmp_lt (tgt := 20) hx hb dX11_anyImage_6 (by decide) (fun hc => ?_) (fun hc => ?_)
    · rw [if_pos hc] at h
      refine lv_aload_n hx hb dX11_anyImage_20 rfl (lv_at hl 0 rfl) ?_
      refine gR (t := 32) hC hw fl_X11_93 ok0 (by decide) ot0_11 dX11_anyImage_21 ?_
      refine lv_iload_n hx hb dX11_anyImage_24 rfl (lv_at hl 1 rfl) ?_
      obtain ⟨hi25, h⟩ := gd_some h
      have ha25 : oK (41 + 4 * v1.toNatClampNeg) = 2 := aK32 (i := v1) (j := v1.toNatClampNeg) hi25 rfl
      refine lA (t := (41 + 4 * v1.toNatClampNeg)) (CN := "SowingHouse$Image") hC hw ok32 (by decide) rfl on32 hi25 (aT32 (i := v1) (j := v1.toNatClampNeg) hi25 rfl) dX11_anyImage_25 (by decide) ?_
      cases h
    · rw [if_neg hc] at h
      exact B9 μ _ _ _ hw (lv_sub hl [] rfl) h
set_option maxRecDepth 100000 in
set_option maxHeartbeats 4000000 in
theorem c_X11_pit (l : Launch) (g : Gw) (n : Nat) (v1 : Int32) (μ : Mu) (r : Int32 × Mu) (h : X11_pit n v1 μ = some (Sum.inl r.1, r.2)) : Ct l g yX11_pit cX11_pit 2 (some .int) 6 [.ref (g.2.2 0), .int v1] μ (some (.int r.1)) r.2 := by
  rw [X11_pit] at h
  refine Ct.of (by decide) (Nat.le_of_ble_eq_true rfl) ?_
  intro p e s m args below meth c ls hC hw hr hlocks hl
  have hx := hC.1
  have hb := hC.2.1
  have hl : lv_has ls 2 [(0, .ref (g.2.2 0)), (1, .int v1)] := hl
  have B17 : ∀ (μ : Mu) (H : Heap) (locs : List Loc) (ls : Array Slot), wd g μ s (Aw g s.heap.size) H locs → lv_has ls 2 [] → X11_pit_17 n v1  μ = some (Sum.inl r.1, r.2) → WQ p l e (rmD 6) s m args below meth c g (some (.int r.1)) r.2 H locs (F0 m 17 ls []) := by
    intro μ H locs ls hw hl h
    rw [X11_pit_17] at h
    cases h
  refine lv_iload_n hx hb dX11_pit_0 rfl (lv_at hl 1 rfl) ?_
  refine lv_if_lt (tgt := 17) hx hb dX11_pit_1 (by decide) (fun hc => ?_) (fun hc => ?_)
  · rw [if_pos hc] at h
    exact B17 μ _ _ _ hw (lv_sub hl [] rfl) h
  · rw [if_neg hc] at h
    refine lv_iload_n hx hb dX11_pit_4 rfl (lv_at hl 1 rfl) ?_
    refine lv_iconst (v := (2 : Int32)) hx hb dX11_pit_5 (by decide) ?_
    refine lv_aload_n hx hb dX11_pit_6 rfl (lv_at hl 0 rfl) ?_
    refine gR (t := 1) hC hw fl_X11_12 ok0 (by decide) ot0_0 dX11_pit_7 ?_
    refine gI hC hw fl_X11_134 ok1 (by decide) dX11_pit_10 ?_
    refine lv_imul hx hb dX11_pit_13 ?_
    refine lv_icmp_lt (tgt := 27) hx hb dX11_pit_14 (by decide) (fun hc => ?_) (fun hc => ?_)
    · rw [if_pos hc] at h
      refine lv_aload_n hx hb dX11_pit_27 rfl (lv_at hl 0 rfl) ?_
      refine lv_aload_n hx hb dX11_pit_28 rfl (lv_at hl 0 rfl) ?_
      refine gR (t := 53) hC hw fl_X11_37 ok0 (by decide) ot0_3 dX11_pit_29 ?_
      refine lv_iload_n hx hb dX11_pit_32 rfl (lv_at hl 1 rfl) ?_
      obtain ⟨r33, hr33, h⟩ := bnd h
      refine cV (b := 0) (As := [.ref (g.2.2 53), .int v1]) (rest := []) (st1 := [.int r33.1]) hC hw (c_X11_seedsOrLacking l g n 53 v1 μ r33 hr33) ml_X11_142 im_X11_seedsOrLacking se_X11_seedsOrLacking ok0 (CN := RX11) (T := TX11) (NF := 12) rfl rfl (by decide) rfl hl.1 ⟨Nat.le_of_ble_eq_true rfl, Nat.le_of_ble_eq_true rfl⟩ (Nat.le_of_ble_eq_true rfl) ⟨Nat.zero_le _, Nat.zero_le _⟩ rfl dX11_pit_33 (fun H locs hw => ?_)
      exact rI hC hw hr hlocks (by rw [(inlI h).1]) (inlI h).2 dX11_pit_36
    · rw [if_neg hc] at h
      exact B17 μ _ _ _ hw (lv_sub hl [] rfl) h
set_option maxRecDepth 100000 in
set_option maxHeartbeats 4000000 in
theorem x_X11_pit (l : Launch) (hst : l.stackTraces = false) (g : Gw) (n : Nat) (v1 : Int32) (μ : Mu) (kx : Nat) (μx : Mu) (h : X11_pit n v1 μ = some (Sum.inr kx, μx)) : CtX l g yX11_pit cX11_pit 2 (some .int) 6 [.ref (g.2.2 0), .int v1] μ kx μx := by
  rw [X11_pit] at h
  refine CtX.of (by decide) (Nat.le_of_ble_eq_true rfl) ?_
  intro p e s m args below meth c ls hC hw htab hlocks hl
  have hx := hC.1
  have hb := hC.2.1
  have hl : lv_has ls 2 [(0, .ref (g.2.2 0)), (1, .int v1)] := hl
  have B17 : ∀ (μ : Mu) (H : Heap) (locs : List Loc) (ls : Array Slot), wd g μ s (Aw g s.heap.size) H locs → lv_has ls 2 [] → X11_pit_17 n v1  μ = some (Sum.inr kx, μx) → WX p l e (rmX 6) s m args below meth c g kx μx H locs (F0 m 17 ls []) := by
    intro μ H locs ls hw hl h
    rw [X11_pit_17] at h
    exact nthS (rest := []) hC hw hst 16 (by decide) rfl rfl xcl0 xin0 xat0 hl.1 htab hlocks (by rw [← (inrI h).1]; rfl) (inrI h).2 (Nat.le_of_ble_eq_true rfl) (Nat.le_of_ble_eq_true rfl) dX11_pit_17 dX11_pit_20 dX11_pit_21 dX11_pit_23 dX11_pit_26
  refine lv_iload_n hx hb dX11_pit_0 rfl (lv_at hl 1 rfl) ?_
  refine lv_if_lt (tgt := 17) hx hb dX11_pit_1 (by decide) (fun hc => ?_) (fun hc => ?_)
  · rw [if_pos hc] at h
    exact B17 μ _ _ _ hw (lv_sub hl [] rfl) h
  · rw [if_neg hc] at h
    refine lv_iload_n hx hb dX11_pit_4 rfl (lv_at hl 1 rfl) ?_
    refine lv_iconst (v := (2 : Int32)) hx hb dX11_pit_5 (by decide) ?_
    refine lv_aload_n hx hb dX11_pit_6 rfl (lv_at hl 0 rfl) ?_
    refine gR (t := 1) hC hw fl_X11_12 ok0 (by decide) ot0_0 dX11_pit_7 ?_
    refine gI hC hw fl_X11_134 ok1 (by decide) dX11_pit_10 ?_
    refine lv_imul hx hb dX11_pit_13 ?_
    refine lv_icmp_lt (tgt := 27) hx hb dX11_pit_14 (by decide) (fun hc => ?_) (fun hc => ?_)
    · rw [if_pos hc] at h
      refine lv_aload_n hx hb dX11_pit_27 rfl (lv_at hl 0 rfl) ?_
      refine lv_aload_n hx hb dX11_pit_28 rfl (lv_at hl 0 rfl) ?_
      refine gR (t := 53) hC hw fl_X11_37 ok0 (by decide) ot0_3 dX11_pit_29 ?_
      refine lv_iload_n hx hb dX11_pit_32 rfl (lv_at hl 1 rfl) ?_
      obtain ⟨r33, hr33, h⟩ := bnd h
      refine cV (b := 0) (As := [.ref (g.2.2 53), .int v1]) (rest := []) (st1 := [.int r33.1]) hC hw (c_X11_seedsOrLacking l g n 53 v1 μ r33 hr33) ml_X11_142 im_X11_seedsOrLacking se_X11_seedsOrLacking ok0 (CN := RX11) (T := TX11) (NF := 12) rfl rfl (by decide) rfl hl.1 ⟨Nat.le_of_ble_eq_true rfl, Nat.le_of_ble_eq_true rfl⟩ (Nat.le_of_ble_eq_true rfl) ⟨Nat.zero_le _, Nat.zero_le _⟩ rfl dX11_pit_33 (fun H locs hw => ?_)
      cases h
    · rw [if_neg hc] at h
      exact B17 μ _ _ _ hw (lv_sub hl [] rfl) h
set_option maxRecDepth 100000 in
set_option maxHeartbeats 4000000 in
theorem c_X11_store (l : Launch) (g : Gw) (n : Nat) (v1 : Int32) (μ : Mu) (r : Int32 × Mu) (h : X11_store n v1 μ = some (Sum.inl r.1, r.2)) : Ct l g yX11_store cX11_store 2 (some .int) 7 [.ref (g.2.2 0), .int v1] μ (some (.int r.1)) r.2 := by
  rw [X11_store] at h
  refine Ct.of (by decide) (Nat.le_of_ble_eq_true rfl) ?_
  intro p e s m args below meth c ls hC hw hr hlocks hl
  have hx := hC.1
  have hb := hC.2.1
  have hl : lv_has ls 2 [(0, .ref (g.2.2 0)), (1, .int v1)] := hl
  refine lv_iload_n hx hb dX11_store_0 rfl (lv_at hl 1 rfl) ?_
  obtain ⟨r1, m1, hr1, h⟩ := thr_rt h
  refine cS (As := [.int v1]) (rest := []) (st1 := []) hC hw (c_X11_needSide l g n v1 μ (r1, m1) hr1) ml_X11_146 st_X11_needSide rfl hl.1 ⟨Nat.le_of_ble_eq_true rfl, Nat.le_of_ble_eq_true rfl⟩ (Nat.le_of_ble_eq_true rfl) ⟨Nat.zero_le _, Nat.zero_le _⟩ rfl dX11_store_1 (fun H locs hw => ?_)
  refine lv_aload_n hx hb dX11_store_4 rfl (lv_at hl 0 rfl) ?_
  refine gR (t := 53) hC hw fl_X11_37 ok0 (by decide) ot0_3 dX11_store_5 ?_
  refine gR (t := 54) hC hw fl_X11_149 ok53 (by decide) ot53_0 dX11_store_8 ?_
  refine lv_bipush (v := (12 : Int32)) hx hb dX11_store_11 (by decide) ?_
  refine lv_iload_n hx hb dX11_store_13 rfl (lv_at hl 1 rfl) ?_
  refine lv_iadd hx hb dX11_store_14 ?_
  obtain ⟨hi15, h⟩ := gd_some h
  refine lI (j := ((12 : Int32) + v1).toNatClampNeg) hC hw ok54 on54 hi15 rfl dX11_store_15 ?_
  exact rI hC hw hr hlocks (by rw [(inlI h).1]) (inlI h).2 dX11_store_16
set_option maxRecDepth 100000 in
set_option maxHeartbeats 4000000 in
theorem x_X11_store (l : Launch) (hst : l.stackTraces = false) (g : Gw) (n : Nat) (v1 : Int32) (μ : Mu) (kx : Nat) (μx : Mu) (h : X11_store n v1 μ = some (Sum.inr kx, μx)) : CtX l g yX11_store cX11_store 2 (some .int) 7 [.ref (g.2.2 0), .int v1] μ kx μx := by
  rw [X11_store] at h
  refine CtX.of (by decide) (Nat.le_of_ble_eq_true rfl) ?_
  intro p e s m args below meth c ls hC hw htab hlocks hl
  have hx := hC.1
  have hb := hC.2.1
  have hl : lv_has ls 2 [(0, .ref (g.2.2 0)), (1, .int v1)] := hl
  refine lv_iload_n hx hb dX11_store_0 rfl (lv_at hl 1 rfl) ?_
  rcases thr_cs h with ⟨k1x, m1, hr1, h⟩ | ⟨r1, m1, hr1, h⟩
  · rw [(inrI h).1, (inrI h).2] at hr1
    exact cSX (As := [.int v1]) (rest := []) hC hw htab hlocks (x_X11_needSide l hst g n v1 μ kx μx hr1) ml_X11_146 st_X11_needSide rfl hl.1 ⟨Nat.le_of_ble_eq_true rfl, Nat.le_of_ble_eq_true rfl⟩ (Nat.le_of_ble_eq_true rfl) ⟨Nat.le_refl 1, Nat.le_refl 6⟩ dX11_store_1
  refine cS (As := [.int v1]) (rest := []) (st1 := []) hC hw (c_X11_needSide l g n v1 μ (r1, m1) hr1) ml_X11_146 st_X11_needSide rfl hl.1 ⟨Nat.le_of_ble_eq_true rfl, Nat.le_of_ble_eq_true rfl⟩ (Nat.le_of_ble_eq_true rfl) ⟨Nat.zero_le _, Nat.zero_le _⟩ rfl dX11_store_1 (fun H locs hw => ?_)
  refine lv_aload_n hx hb dX11_store_4 rfl (lv_at hl 0 rfl) ?_
  refine gR (t := 53) hC hw fl_X11_37 ok0 (by decide) ot0_3 dX11_store_5 ?_
  refine gR (t := 54) hC hw fl_X11_149 ok53 (by decide) ot53_0 dX11_store_8 ?_
  refine lv_bipush (v := (12 : Int32)) hx hb dX11_store_11 (by decide) ?_
  refine lv_iload_n hx hb dX11_store_13 rfl (lv_at hl 1 rfl) ?_
  refine lv_iadd hx hb dX11_store_14 ?_
  obtain ⟨hi15, h⟩ := gd_some h
  refine lI (j := ((12 : Int32) + v1).toNatClampNeg) hC hw ok54 on54 hi15 rfl dX11_store_15 ?_
  cases h
set_option maxRecDepth 100000 in
set_option maxHeartbeats 4000000 in
theorem c_X11_sown (l : Launch) (g : Gw) (n : Nat) (v1 : Int32) (v2 : Int32) (μ : Mu) (r : Int32 × Mu) (h : X11_sown n v1 v2 μ = some (Sum.inl r.1, r.2)) : Ct l g yX11_sown cX11_sown 3 (some .int) 6 [.ref (g.2.2 0), .int v1, .int v2] μ (some (.int r.1)) r.2 := by
  rw [X11_sown] at h
  refine Ct.of (by decide) (Nat.le_of_ble_eq_true rfl) ?_
  intro p e s m args below meth c ls hC hw hr hlocks hl
  have hx := hC.1
  have hb := hC.2.1
  have hl : lv_has ls 3 [(0, .ref (g.2.2 0)), (1, .int v1), (2, .int v2)] := hl
  have B28 : ∀ (μ : Mu) (H : Heap) (locs : List Loc) (ls : Array Slot), wd g μ s (Aw g s.heap.size) H locs → lv_has ls 3 [] → X11_sown_28 n v1 v2  μ = some (Sum.inl r.1, r.2) → WQ p l e (rmD 6) s m args below meth c g (some (.int r.1)) r.2 H locs (F0 m 28 ls []) := by
    intro μ H locs ls hw hl h
    rw [X11_sown_28] at h
    cases h
  have B127 : ∀ (s0 : Int32) (μ : Mu) (H : Heap) (locs : List Loc) (ls : Array Slot), wd g μ s (Aw g s.heap.size) H locs → lv_has ls 3 [] → X11_sown_127 n v1 v2 s0 μ = some (Sum.inl r.1, r.2) → WQ p l e (rmD 6) s m args below meth c g (some (.int r.1)) r.2 H locs (F0 m 127 ls [.int s0]) := by
    intro s0 μ H locs ls hw hl h
    rw [X11_sown_127] at h
    exact rI hC hw hr hlocks (by rw [(inlI h).1]) (inlI h).2 dX11_sown_127
  refine lv_aload_n hx hb dX11_sown_0 rfl (lv_at hl 0 rfl) ?_
  refine gR (t := 6) hC hw fl_X11_30 ok0 (by decide) ot0_2 dX11_sown_1 ?_
  refine lv_aload_n hx hb dX11_sown_4 rfl (lv_at hl 0 rfl) ?_
  refine gR (t := 53) hC hw fl_X11_37 ok0 (by decide) ot0_3 dX11_sown_5 ?_
  refine lv_iload_n hx hb dX11_sown_8 rfl (lv_at hl 1 rfl) ?_
  refine lv_i2l hx hb dX11_sown_9 rfl ?_
  obtain ⟨r10, hr10, h⟩ := bnd h
  refine cV (b := 6) (As := [.ref (g.2.2 53), .long (v1.toInt64)]) (rest := []) (st1 := [.int r10.1]) hC hw (c_X8_isOwn l g n 53 (v1.toInt64) μ r10 hr10) ml_X11_171 im_X8_isOwn se_X8_isOwn ok6 (CN := RX8) (T := TX8) (NF := 8) rfl rfl (by decide) rfl hl.1 ⟨Nat.le_of_ble_eq_true rfl, Nat.le_of_ble_eq_true rfl⟩ (Nat.le_of_ble_eq_true rfl) ⟨Nat.zero_le _, Nat.zero_le _⟩ rfl dX11_sown_10 (fun H locs hw => ?_)
  refine lv_if_eq (tgt := 28) hx hb dX11_sown_13 (by decide) (fun hc => ?_) (fun hc => ?_)
  · rw [if_pos hc] at h
    exact B28 r10.2 _ _ _ hw (lv_sub hl [] rfl) h
  · rw [if_neg hc] at h
    refine lv_aload_n hx hb dX11_sown_16 rfl (lv_at hl 0 rfl) ?_
    refine gR (t := 53) hC hw fl_X11_37 ok0 (by decide) ot0_3 dX11_sown_17 ?_
    refine gR (t := 54) hC hw fl_X11_149 ok53 (by decide) ot53_0 dX11_sown_20 ?_
    refine lv_iload_n hx hb dX11_sown_23 rfl (lv_at hl 1 rfl) ?_
    obtain ⟨hi24, h⟩ := gd_some h
    refine lI (j := v1.toNatClampNeg) hC hw ok54 on54 hi24 rfl dX11_sown_24 ?_
    refine lv_if_ne (tgt := 38) hx hb dX11_sown_25 (by decide) (fun hc => ?_) (fun hc => ?_)
    · rw [if_neg hc] at h
      refine lv_aload_n hx hb dX11_sown_38 rfl (lv_at hl 0 rfl) ?_
      refine gR (t := 55) hC hw fl_X11_41 ok0 (by decide) ot0_4 dX11_sown_39 ?_
      refine lv_aload_n hx hb dX11_sown_42 rfl (lv_at hl 0 rfl) ?_
      refine gR (t := 53) hC hw fl_X11_37 ok0 (by decide) ot0_3 dX11_sown_43 ?_
      obtain ⟨r46, hr46, h⟩ := bnd h
      refine cV (b := 55) (As := [.ref (g.2.2 53)]) (rest := []) (st1 := []) hC hw (c_X6_copy l g n 55 53 r10.2 r46 hr46) ml_X11_177 im_X6_copy se_X6_copy ok55 (CN := RX6) (T := TX6) (NF := 2) rfl rfl (by decide) rfl hl.1 ⟨Nat.le_of_ble_eq_true rfl, Nat.le_of_ble_eq_true rfl⟩ (Nat.le_of_ble_eq_true rfl) ⟨Nat.zero_le _, Nat.zero_le _⟩ rfl dX11_sown_46 (fun H locs hw => ?_)
      refine lv_aload_n hx hb dX11_sown_49 rfl (lv_at hl 0 rfl) ?_
      refine gR (t := 6) hC hw fl_X11_30 ok0 (by decide) ot0_2 dX11_sown_50 ?_
      refine lv_aload_n hx hb dX11_sown_53 rfl (lv_at hl 0 rfl) ?_
      refine gR (t := 55) hC hw fl_X11_41 ok0 (by decide) ot0_4 dX11_sown_54 ?_
      refine lv_iload_n hx hb dX11_sown_57 rfl (lv_at hl 1 rfl) ?_
      obtain ⟨r58, hr58, h⟩ := bnd h
      refine cV (b := 6) (As := [.ref (g.2.2 55), .int v1]) (rest := []) (st1 := [.int r58.1]) hC hw (c_X8_sow l g n 55 v1 r46.2 r58 hr58) ml_X11_164 im_X8_sow se_X8_sow ok6 (CN := RX8) (T := TX8) (NF := 8) rfl rfl (by decide) rfl hl.1 ⟨Nat.le_of_ble_eq_true rfl, Nat.le_of_ble_eq_true rfl⟩ (Nat.le_of_ble_eq_true rfl) ⟨Nat.zero_le _, Nat.zero_le _⟩ rfl dX11_sown_58 (fun H locs hw => ?_)
      refine lv_if_ne (tgt := 74) hx hb dX11_sown_61 (by decide) (fun hc => ?_) (fun hc => ?_)
      · rw [if_neg hc] at h
        refine lv_iload_n hx hb dX11_sown_74 rfl (lv_at hl 2 rfl) ?_
        by_cases hs75_0 : v2 = (0 : Int32)
        · rw [if_pos hs75_0] at h
          refine lv_tableIn (off := 29) (tgt := 104) hx hb dX11_sown_75 (by rw [hs75_0]; decide) (by rw [hs75_0]; decide) (by rw [hs75_0]; decide) (by decide) ?_
          refine lv_aload_n hx hb dX11_sown_104 rfl (lv_at hl 0 rfl) ?_
          refine gR (t := 6) hC hw fl_X11_30 ok0 (by decide) ot0_2 dX11_sown_105 ?_
          refine gI hC hw fl_X11_186 ok6 (by decide) dX11_sown_108 ?_
          refine lv_bipush (v := (12 : Int32)) hx hb dX11_sown_111 (by decide) ?_
          refine lv_icmp_ge (tgt := 126) hx hb dX11_sown_113 (by decide) (fun hc => ?_) (fun hc => ?_)
          · rw [if_pos hc] at h
            refine lv_iconst (v := ((-1) : Int32)) hx hb dX11_sown_126 (by decide) ?_
            exact B127 ((-1) : Int32) r58.2 _ _ _ hw (lv_sub hl [] rfl) h
          · rw [if_neg hc] at h
            refine lv_aload_n hx hb dX11_sown_116 rfl (lv_at hl 0 rfl) ?_
            refine gR (t := 6) hC hw fl_X11_30 ok0 (by decide) ot0_2 dX11_sown_117 ?_
            refine gI hC hw fl_X11_186 ok6 (by decide) dX11_sown_120 ?_
            refine lv_goto (tgt := 127) hx hb dX11_sown_123 (by decide) ?_
            exact B127 (r58.2.1 6 0) r58.2 _ _ _ hw (lv_sub hl [] rfl) h
        rw [if_neg hs75_0] at h
        by_cases hs75_1 : v2 = (1 : Int32)
        · rw [if_pos hs75_1] at h
          refine lv_tableIn (off := 53) (tgt := 128) hx hb dX11_sown_75 (by rw [hs75_1]; decide) (by rw [hs75_1]; decide) (by rw [hs75_1]; decide) (by decide) ?_
          refine lv_aload_n hx hb dX11_sown_128 rfl (lv_at hl 0 rfl) ?_
          refine gR (t := 6) hC hw fl_X11_30 ok0 (by decide) ot0_2 dX11_sown_129 ?_
          refine gI hC hw fl_X11_189 ok6 (by decide) dX11_sown_132 ?_
          exact rI hC hw hr hlocks (by rw [(inlI h).1]) (inlI h).2 dX11_sown_135
        rw [if_neg hs75_1] at h
        by_cases hs75_2 : v2 = (2 : Int32)
        · rw [if_pos hs75_2] at h
          refine lv_tableIn (off := 61) (tgt := 136) hx hb dX11_sown_75 (by rw [hs75_2]; decide) (by rw [hs75_2]; decide) (by rw [hs75_2]; decide) (by decide) ?_
          refine lv_aload_n hx hb dX11_sown_136 rfl (lv_at hl 0 rfl) ?_
          refine gR (t := 6) hC hw fl_X11_30 ok0 (by decide) ot0_2 dX11_sown_137 ?_
          refine gI hC hw fl_X11_192 ok6 (by decide) dX11_sown_140 ?_
          exact rI hC hw hr hlocks (by rw [(inlI h).1]) (inlI h).2 dX11_sown_143
        rw [if_neg hs75_2] at h
        by_cases hs75_3 : v2 = (3 : Int32)
        · rw [if_pos hs75_3] at h
          refine lv_tableIn (off := 69) (tgt := 144) hx hb dX11_sown_75 (by rw [hs75_3]; decide) (by rw [hs75_3]; decide) (by rw [hs75_3]; decide) (by decide) ?_
          refine lv_aload_n hx hb dX11_sown_144 rfl (lv_at hl 0 rfl) ?_
          refine gR (t := 55) hC hw fl_X11_41 ok0 (by decide) ot0_4 dX11_sown_145 ?_
          refine gI hC hw fl_X11_153 ok55 (by decide) dX11_sown_148 ?_
          exact rI hC hw hr hlocks (by rw [(inlI h).1]) (inlI h).2 dX11_sown_151
        rw [if_neg hs75_3] at h
        have ht0 := lv_neT (a := 0) hs75_0 (by decide)
        have ht1 := lv_neT (a := 1) hs75_1 (by decide)
        have ht2 := lv_neT (a := 2) hs75_2 (by decide)
        have ht3 := lv_neT (a := 3) hs75_3 (by decide)
        refine lv_tableOut (tgt := 152) hx hb dX11_sown_75 (by omega) (by decide) ?_
        cases h
      · rw [if_pos hc] at h
        cases h
    · rw [if_pos hc] at h
      exact B28 r10.2 _ _ _ hw (lv_sub hl [] rfl) h
set_option maxRecDepth 100000 in
set_option maxHeartbeats 4000000 in
theorem x_X11_sown (l : Launch) (hst : l.stackTraces = false) (g : Gw) (n : Nat) (v1 : Int32) (v2 : Int32) (μ : Mu) (kx : Nat) (μx : Mu) (h : X11_sown n v1 v2 μ = some (Sum.inr kx, μx)) : CtX l g yX11_sown cX11_sown 3 (some .int) 6 [.ref (g.2.2 0), .int v1, .int v2] μ kx μx := by
  rw [X11_sown] at h
  refine CtX.of (by decide) (Nat.le_of_ble_eq_true rfl) ?_
  intro p e s m args below meth c ls hC hw htab hlocks hl
  have hx := hC.1
  have hb := hC.2.1
  have hl : lv_has ls 3 [(0, .ref (g.2.2 0)), (1, .int v1), (2, .int v2)] := hl
  have B28 : ∀ (μ : Mu) (H : Heap) (locs : List Loc) (ls : Array Slot), wd g μ s (Aw g s.heap.size) H locs → lv_has ls 3 [] → X11_sown_28 n v1 v2  μ = some (Sum.inr kx, μx) → WX p l e (rmX 6) s m args below meth c g kx μx H locs (F0 m 28 ls []) := by
    intro μ H locs ls hw hl h
    rw [X11_sown_28] at h
    exact nthS (rest := []) hC hw hst 18 (by decide) rfl rfl xcl0 xin0 xat0 hl.1 htab hlocks (by rw [← (inrI h).1]; rfl) (inrI h).2 (Nat.le_of_ble_eq_true rfl) (Nat.le_of_ble_eq_true rfl) dX11_sown_28 dX11_sown_31 dX11_sown_32 dX11_sown_34 dX11_sown_37
  have B127 : ∀ (s0 : Int32) (μ : Mu) (H : Heap) (locs : List Loc) (ls : Array Slot), wd g μ s (Aw g s.heap.size) H locs → lv_has ls 3 [] → X11_sown_127 n v1 v2 s0 μ = some (Sum.inr kx, μx) → WX p l e (rmX 6) s m args below meth c g kx μx H locs (F0 m 127 ls [.int s0]) := by
    intro s0 μ H locs ls hw hl h
    rw [X11_sown_127] at h
    cases h
  refine lv_aload_n hx hb dX11_sown_0 rfl (lv_at hl 0 rfl) ?_
  refine gR (t := 6) hC hw fl_X11_30 ok0 (by decide) ot0_2 dX11_sown_1 ?_
  refine lv_aload_n hx hb dX11_sown_4 rfl (lv_at hl 0 rfl) ?_
  refine gR (t := 53) hC hw fl_X11_37 ok0 (by decide) ot0_3 dX11_sown_5 ?_
  refine lv_iload_n hx hb dX11_sown_8 rfl (lv_at hl 1 rfl) ?_
  refine lv_i2l hx hb dX11_sown_9 rfl ?_
  obtain ⟨r10, hr10, h⟩ := bnd h
  refine cV (b := 6) (As := [.ref (g.2.2 53), .long (v1.toInt64)]) (rest := []) (st1 := [.int r10.1]) hC hw (c_X8_isOwn l g n 53 (v1.toInt64) μ r10 hr10) ml_X11_171 im_X8_isOwn se_X8_isOwn ok6 (CN := RX8) (T := TX8) (NF := 8) rfl rfl (by decide) rfl hl.1 ⟨Nat.le_of_ble_eq_true rfl, Nat.le_of_ble_eq_true rfl⟩ (Nat.le_of_ble_eq_true rfl) ⟨Nat.zero_le _, Nat.zero_le _⟩ rfl dX11_sown_10 (fun H locs hw => ?_)
  refine lv_if_eq (tgt := 28) hx hb dX11_sown_13 (by decide) (fun hc => ?_) (fun hc => ?_)
  · rw [if_pos hc] at h
    exact B28 r10.2 _ _ _ hw (lv_sub hl [] rfl) h
  · rw [if_neg hc] at h
    refine lv_aload_n hx hb dX11_sown_16 rfl (lv_at hl 0 rfl) ?_
    refine gR (t := 53) hC hw fl_X11_37 ok0 (by decide) ot0_3 dX11_sown_17 ?_
    refine gR (t := 54) hC hw fl_X11_149 ok53 (by decide) ot53_0 dX11_sown_20 ?_
    refine lv_iload_n hx hb dX11_sown_23 rfl (lv_at hl 1 rfl) ?_
    obtain ⟨hi24, h⟩ := gd_some h
    refine lI (j := v1.toNatClampNeg) hC hw ok54 on54 hi24 rfl dX11_sown_24 ?_
    refine lv_if_ne (tgt := 38) hx hb dX11_sown_25 (by decide) (fun hc => ?_) (fun hc => ?_)
    · rw [if_neg hc] at h
      refine lv_aload_n hx hb dX11_sown_38 rfl (lv_at hl 0 rfl) ?_
      refine gR (t := 55) hC hw fl_X11_41 ok0 (by decide) ot0_4 dX11_sown_39 ?_
      refine lv_aload_n hx hb dX11_sown_42 rfl (lv_at hl 0 rfl) ?_
      refine gR (t := 53) hC hw fl_X11_37 ok0 (by decide) ot0_3 dX11_sown_43 ?_
      obtain ⟨r46, hr46, h⟩ := bnd h
      refine cV (b := 55) (As := [.ref (g.2.2 53)]) (rest := []) (st1 := []) hC hw (c_X6_copy l g n 55 53 r10.2 r46 hr46) ml_X11_177 im_X6_copy se_X6_copy ok55 (CN := RX6) (T := TX6) (NF := 2) rfl rfl (by decide) rfl hl.1 ⟨Nat.le_of_ble_eq_true rfl, Nat.le_of_ble_eq_true rfl⟩ (Nat.le_of_ble_eq_true rfl) ⟨Nat.zero_le _, Nat.zero_le _⟩ rfl dX11_sown_46 (fun H locs hw => ?_)
      refine lv_aload_n hx hb dX11_sown_49 rfl (lv_at hl 0 rfl) ?_
      refine gR (t := 6) hC hw fl_X11_30 ok0 (by decide) ot0_2 dX11_sown_50 ?_
      refine lv_aload_n hx hb dX11_sown_53 rfl (lv_at hl 0 rfl) ?_
      refine gR (t := 55) hC hw fl_X11_41 ok0 (by decide) ot0_4 dX11_sown_54 ?_
      refine lv_iload_n hx hb dX11_sown_57 rfl (lv_at hl 1 rfl) ?_
      obtain ⟨r58, hr58, h⟩ := bnd h
      refine cV (b := 6) (As := [.ref (g.2.2 55), .int v1]) (rest := []) (st1 := [.int r58.1]) hC hw (c_X8_sow l g n 55 v1 r46.2 r58 hr58) ml_X11_164 im_X8_sow se_X8_sow ok6 (CN := RX8) (T := TX8) (NF := 8) rfl rfl (by decide) rfl hl.1 ⟨Nat.le_of_ble_eq_true rfl, Nat.le_of_ble_eq_true rfl⟩ (Nat.le_of_ble_eq_true rfl) ⟨Nat.zero_le _, Nat.zero_le _⟩ rfl dX11_sown_58 (fun H locs hw => ?_)
      refine lv_if_ne (tgt := 74) hx hb dX11_sown_61 (by decide) (fun hc => ?_) (fun hc => ?_)
      · rw [if_neg hc] at h
        refine lv_iload_n hx hb dX11_sown_74 rfl (lv_at hl 2 rfl) ?_
        by_cases hs75_0 : v2 = (0 : Int32)
        · rw [if_pos hs75_0] at h
          refine lv_tableIn (off := 29) (tgt := 104) hx hb dX11_sown_75 (by rw [hs75_0]; decide) (by rw [hs75_0]; decide) (by rw [hs75_0]; decide) (by decide) ?_
          refine lv_aload_n hx hb dX11_sown_104 rfl (lv_at hl 0 rfl) ?_
          refine gR (t := 6) hC hw fl_X11_30 ok0 (by decide) ot0_2 dX11_sown_105 ?_
          refine gI hC hw fl_X11_186 ok6 (by decide) dX11_sown_108 ?_
          refine lv_bipush (v := (12 : Int32)) hx hb dX11_sown_111 (by decide) ?_
          refine lv_icmp_ge (tgt := 126) hx hb dX11_sown_113 (by decide) (fun hc => ?_) (fun hc => ?_)
          · rw [if_pos hc] at h
            refine lv_iconst (v := ((-1) : Int32)) hx hb dX11_sown_126 (by decide) ?_
            exact B127 ((-1) : Int32) r58.2 _ _ _ hw (lv_sub hl [] rfl) h
          · rw [if_neg hc] at h
            refine lv_aload_n hx hb dX11_sown_116 rfl (lv_at hl 0 rfl) ?_
            refine gR (t := 6) hC hw fl_X11_30 ok0 (by decide) ot0_2 dX11_sown_117 ?_
            refine gI hC hw fl_X11_186 ok6 (by decide) dX11_sown_120 ?_
            refine lv_goto (tgt := 127) hx hb dX11_sown_123 (by decide) ?_
            exact B127 (r58.2.1 6 0) r58.2 _ _ _ hw (lv_sub hl [] rfl) h
        rw [if_neg hs75_0] at h
        by_cases hs75_1 : v2 = (1 : Int32)
        · rw [if_pos hs75_1] at h
          refine lv_tableIn (off := 53) (tgt := 128) hx hb dX11_sown_75 (by rw [hs75_1]; decide) (by rw [hs75_1]; decide) (by rw [hs75_1]; decide) (by decide) ?_
          refine lv_aload_n hx hb dX11_sown_128 rfl (lv_at hl 0 rfl) ?_
          refine gR (t := 6) hC hw fl_X11_30 ok0 (by decide) ot0_2 dX11_sown_129 ?_
          refine gI hC hw fl_X11_189 ok6 (by decide) dX11_sown_132 ?_
          cases h
        rw [if_neg hs75_1] at h
        by_cases hs75_2 : v2 = (2 : Int32)
        · rw [if_pos hs75_2] at h
          refine lv_tableIn (off := 61) (tgt := 136) hx hb dX11_sown_75 (by rw [hs75_2]; decide) (by rw [hs75_2]; decide) (by rw [hs75_2]; decide) (by decide) ?_
          refine lv_aload_n hx hb dX11_sown_136 rfl (lv_at hl 0 rfl) ?_
          refine gR (t := 6) hC hw fl_X11_30 ok0 (by decide) ot0_2 dX11_sown_137 ?_
          refine gI hC hw fl_X11_192 ok6 (by decide) dX11_sown_140 ?_
          cases h
        rw [if_neg hs75_2] at h
        by_cases hs75_3 : v2 = (3 : Int32)
        · rw [if_pos hs75_3] at h
          refine lv_tableIn (off := 69) (tgt := 144) hx hb dX11_sown_75 (by rw [hs75_3]; decide) (by rw [hs75_3]; decide) (by rw [hs75_3]; decide) (by decide) ?_
          refine lv_aload_n hx hb dX11_sown_144 rfl (lv_at hl 0 rfl) ?_
          refine gR (t := 55) hC hw fl_X11_41 ok0 (by decide) ot0_4 dX11_sown_145 ?_
          refine gI hC hw fl_X11_153 ok55 (by decide) dX11_sown_148 ?_
          cases h
        rw [if_neg hs75_3] at h
        have ht0 := lv_neT (a := 0) hs75_0 (by decide)
        have ht1 := lv_neT (a := 1) hs75_1 (by decide)
        have ht2 := lv_neT (a := 2) hs75_2 (by decide)
        have ht3 := lv_neT (a := 3) hs75_3 (by decide)
        refine lv_tableOut (tgt := 152) hx hb dX11_sown_75 (by omega) (by decide) ?_
        exact thS (rest := []) hC hw hst 20 (by decide) rfl rfl xft1 xnm xcl1 xin1 xat1 hl.1 htab hlocks (by rw [← (inrI h).1]; rfl) (inrI h).2 (Nat.le_of_ble_eq_true rfl) (Nat.le_of_ble_eq_true rfl) dX11_sown_152 dX11_sown_155 dX11_sown_156 dX11_sown_158 dX11_sown_161
      · rw [if_pos hc] at h
        exact thS (rest := []) hC hw hst 19 (by decide) rfl rfl xft2 xnm xcl2 xin2 xat2 hl.1 htab hlocks (by rw [← (inrI h).1]; rfl) (inrI h).2 (Nat.le_of_ble_eq_true rfl) (Nat.le_of_ble_eq_true rfl) dX11_sown_64 dX11_sown_67 dX11_sown_68 dX11_sown_70 dX11_sown_73
    · rw [if_pos hc] at h
      exact B28 r10.2 _ _ _ hw (lv_sub hl [] rfl) h
set_option maxRecDepth 100000 in
set_option maxHeartbeats 4000000 in
theorem c_X11_positions (l : Launch) (g : Gw) (n : Nat) (v1 : Int32) (v2 : Int32) (μ : Mu) (r : Int32 × Mu) (h : X11_positions n v1 v2 μ = some (Sum.inl r.1, r.2)) : Ct l g yX11_positions cX11_positions 4 (some .int) 7 [.ref (g.2.2 0), .int v1, .int v2] μ (some (.int r.1)) r.2 := by
  rw [X11_positions] at h
  refine Ct.of (by decide) (Nat.le_of_ble_eq_true rfl) ?_
  intro p e s m args below meth c ls hC hw hr hlocks hl
  have hx := hC.1
  have hb := hC.2.1
  have hl : lv_has ls 4 [(0, .ref (g.2.2 0)), (1, .int v1), (2, .int v2)] := hl
  have B31 : ∀ (s0 : Int32) (μ : Mu) (H : Heap) (locs : List Loc) (ls : Array Slot), wd g μ s (Aw g s.heap.size) H locs → lv_has ls 4 [] → X11_positions_31 n v1 v2 s0 μ = some (Sum.inl r.1, r.2) → WQ p l e (rmD 7) s m args below meth c g (some (.int r.1)) r.2 H locs (F0 m 31 ls [.int s0]) := by
    intro s0 μ H locs ls hw hl h
    rw [X11_positions_31] at h
    exact rI hC hw hr hlocks (by rw [(inlI h).1]) (inlI h).2 dX11_positions_31
  refine lv_iload_n hx hb dX11_positions_0 rfl (lv_at hl 1 rfl) ?_
  obtain ⟨r1, m1, hr1, h⟩ := thr_rt h
  refine cS (As := [.int v1]) (rest := []) (st1 := []) hC hw (c_X11_needSide l g n v1 μ (r1, m1) hr1) ml_X11_146 st_X11_needSide rfl hl.1 ⟨Nat.le_of_ble_eq_true rfl, Nat.le_of_ble_eq_true rfl⟩ (Nat.le_of_ble_eq_true rfl) ⟨Nat.zero_le _, Nat.zero_le _⟩ rfl dX11_positions_1 (fun H locs hw => ?_)
  refine lv_iload_n hx hb dX11_positions_4 rfl (lv_at hl 2 rfl) ?_
  obtain ⟨r5, m5, hr5, h⟩ := thr_rt h
  refine cS (As := [.int v2]) (rest := []) (st1 := []) hC hw (c_X11_needSeeds l g n v2 m1 (r5, m5) hr5) ml_X11_229 st_X11_needSeeds rfl hl.1 ⟨Nat.le_of_ble_eq_true rfl, Nat.le_of_ble_eq_true rfl⟩ (Nat.le_of_ble_eq_true rfl) ⟨Nat.zero_le _, Nat.zero_le _⟩ rfl dX11_positions_5 (fun H locs hw => ?_)
  refine lv_aload_n hx hb dX11_positions_8 rfl (lv_at hl 0 rfl) ?_
  refine gR (t := 2) hC hw fl_X11_21 ok0 (by decide) ot0_1 dX11_positions_9 ?_
  refine lv_iload_n hx hb dX11_positions_12 rfl (lv_at hl 2 rfl) ?_
  obtain ⟨r13, hr13, h⟩ := bnd h
  refine cV (b := 2) (As := [.int v2]) (rest := []) (st1 := [.int r13.1]) hC hw (c_X1_positionsOf l g n v2 m5 r13 hr13) ml_X11_232 im_X1_positionsOf se_X1_positionsOf ok2 (CN := RX1) (T := TX1) (NF := 7) rfl rfl (by decide) rfl hl.1 ⟨Nat.le_of_ble_eq_true rfl, Nat.le_of_ble_eq_true rfl⟩ (Nat.le_of_ble_eq_true rfl) ⟨Nat.zero_le _, Nat.zero_le _⟩ rfl dX11_positions_13 (fun H locs hw => ?_)
  refine lv_istore_n (lv' := [(3, .int r13.1), (0, .ref (g.2.2 0)), (1, .int v1), (2, .int v2)]) hx hb dX11_positions_16 rfl hl (by decide) rfl (fun ls hl => ?_)
  refine lv_iload_n hx hb dX11_positions_17 rfl (lv_at hl 0 rfl) ?_
  refine lv_sipush (v := (6000 : Int32)) hx hb dX11_positions_18 (by decide) ?_
  refine lv_icmp_le (tgt := 30) hx hb dX11_positions_21 (by decide) (fun hc => ?_) (fun hc => ?_)
  · rw [if_pos hc] at h
    refine lv_iload_n hx hb dX11_positions_30 rfl (lv_at hl 0 rfl) ?_
    exact B31 r13.1 r13.2 _ _ _ hw (lv_sub hl [] rfl) h
  · rw [if_neg hc] at h
    refine lv_sipush (v := ((-1000) : Int32)) hx hb dX11_positions_24 (by decide) ?_
    refine lv_goto (tgt := 31) hx hb dX11_positions_27 (by decide) ?_
    exact B31 ((-1000) : Int32) r13.2 _ _ _ hw (lv_sub hl [] rfl) h
set_option maxRecDepth 100000 in
set_option maxHeartbeats 4000000 in
theorem x_X11_positions (l : Launch) (hst : l.stackTraces = false) (g : Gw) (n : Nat) (v1 : Int32) (v2 : Int32) (μ : Mu) (kx : Nat) (μx : Mu) (h : X11_positions n v1 v2 μ = some (Sum.inr kx, μx)) : CtX l g yX11_positions cX11_positions 4 (some .int) 7 [.ref (g.2.2 0), .int v1, .int v2] μ kx μx := by
  rw [X11_positions] at h
  refine CtX.of (by decide) (Nat.le_of_ble_eq_true rfl) ?_
  intro p e s m args below meth c ls hC hw htab hlocks hl
  have hx := hC.1
  have hb := hC.2.1
  have hl : lv_has ls 4 [(0, .ref (g.2.2 0)), (1, .int v1), (2, .int v2)] := hl
  have B31 : ∀ (s0 : Int32) (μ : Mu) (H : Heap) (locs : List Loc) (ls : Array Slot), wd g μ s (Aw g s.heap.size) H locs → lv_has ls 4 [] → X11_positions_31 n v1 v2 s0 μ = some (Sum.inr kx, μx) → WX p l e (rmX 7) s m args below meth c g kx μx H locs (F0 m 31 ls [.int s0]) := by
    intro s0 μ H locs ls hw hl h
    rw [X11_positions_31] at h
    cases h
  refine lv_iload_n hx hb dX11_positions_0 rfl (lv_at hl 1 rfl) ?_
  rcases thr_cs h with ⟨k1x, m1, hr1, h⟩ | ⟨r1, m1, hr1, h⟩
  · rw [(inrI h).1, (inrI h).2] at hr1
    exact cSX (As := [.int v1]) (rest := []) hC hw htab hlocks (x_X11_needSide l hst g n v1 μ kx μx hr1) ml_X11_146 st_X11_needSide rfl hl.1 ⟨Nat.le_of_ble_eq_true rfl, Nat.le_of_ble_eq_true rfl⟩ (Nat.le_of_ble_eq_true rfl) ⟨Nat.le_refl 1, Nat.le_refl 6⟩ dX11_positions_1
  refine cS (As := [.int v1]) (rest := []) (st1 := []) hC hw (c_X11_needSide l g n v1 μ (r1, m1) hr1) ml_X11_146 st_X11_needSide rfl hl.1 ⟨Nat.le_of_ble_eq_true rfl, Nat.le_of_ble_eq_true rfl⟩ (Nat.le_of_ble_eq_true rfl) ⟨Nat.zero_le _, Nat.zero_le _⟩ rfl dX11_positions_1 (fun H locs hw => ?_)
  refine lv_iload_n hx hb dX11_positions_4 rfl (lv_at hl 2 rfl) ?_
  rcases thr_cs h with ⟨k5x, m5, hr5, h⟩ | ⟨r5, m5, hr5, h⟩
  · rw [(inrI h).1, (inrI h).2] at hr5
    exact cSX (As := [.int v2]) (rest := []) hC hw htab hlocks (x_X11_needSeeds l hst g n v2 m1 kx μx hr5) ml_X11_229 st_X11_needSeeds rfl hl.1 ⟨Nat.le_of_ble_eq_true rfl, Nat.le_of_ble_eq_true rfl⟩ (Nat.le_of_ble_eq_true rfl) ⟨Nat.le_refl 1, Nat.le_refl 6⟩ dX11_positions_5
  refine cS (As := [.int v2]) (rest := []) (st1 := []) hC hw (c_X11_needSeeds l g n v2 m1 (r5, m5) hr5) ml_X11_229 st_X11_needSeeds rfl hl.1 ⟨Nat.le_of_ble_eq_true rfl, Nat.le_of_ble_eq_true rfl⟩ (Nat.le_of_ble_eq_true rfl) ⟨Nat.zero_le _, Nat.zero_le _⟩ rfl dX11_positions_5 (fun H locs hw => ?_)
  refine lv_aload_n hx hb dX11_positions_8 rfl (lv_at hl 0 rfl) ?_
  refine gR (t := 2) hC hw fl_X11_21 ok0 (by decide) ot0_1 dX11_positions_9 ?_
  refine lv_iload_n hx hb dX11_positions_12 rfl (lv_at hl 2 rfl) ?_
  obtain ⟨r13, hr13, h⟩ := bnd h
  refine cV (b := 2) (As := [.int v2]) (rest := []) (st1 := [.int r13.1]) hC hw (c_X1_positionsOf l g n v2 m5 r13 hr13) ml_X11_232 im_X1_positionsOf se_X1_positionsOf ok2 (CN := RX1) (T := TX1) (NF := 7) rfl rfl (by decide) rfl hl.1 ⟨Nat.le_of_ble_eq_true rfl, Nat.le_of_ble_eq_true rfl⟩ (Nat.le_of_ble_eq_true rfl) ⟨Nat.zero_le _, Nat.zero_le _⟩ rfl dX11_positions_13 (fun H locs hw => ?_)
  refine lv_istore_n (lv' := [(3, .int r13.1), (0, .ref (g.2.2 0)), (1, .int v1), (2, .int v2)]) hx hb dX11_positions_16 rfl hl (by decide) rfl (fun ls hl => ?_)
  refine lv_iload_n hx hb dX11_positions_17 rfl (lv_at hl 0 rfl) ?_
  refine lv_sipush (v := (6000 : Int32)) hx hb dX11_positions_18 (by decide) ?_
  refine lv_icmp_le (tgt := 30) hx hb dX11_positions_21 (by decide) (fun hc => ?_) (fun hc => ?_)
  · rw [if_pos hc] at h
    refine lv_iload_n hx hb dX11_positions_30 rfl (lv_at hl 0 rfl) ?_
    exact B31 r13.1 r13.2 _ _ _ hw (lv_sub hl [] rfl) h
  · rw [if_neg hc] at h
    refine lv_sipush (v := ((-1000) : Int32)) hx hb dX11_positions_24 (by decide) ?_
    refine lv_goto (tgt := 31) hx hb dX11_positions_27 (by decide) ?_
    exact B31 ((-1000) : Int32) r13.2 _ _ _ hw (lv_sub hl [] rfl) h
set_option maxRecDepth 100000 in
set_option maxHeartbeats 4000000 in
theorem c_X11_ofPlace (l : Launch) (g : Gw) (n : Nat) (v1 : Int32) (v2 : Int32) (v3 : Int32) (v4 : Int32) (μ : Mu) (r : Int32 × Mu) (h : X11_ofPlace n v1 v2 v3 v4 μ = some (Sum.inl r.1, r.2)) : Ct l g yX11_ofPlace cX11_ofPlace 6 (some .int) 7 [.ref (g.2.2 0), .int v1, .int v2, .int v3, .int v4] μ (some (.int r.1)) r.2 := by
  rw [X11_ofPlace] at h
  refine Ct.of (by decide) (Nat.le_of_ble_eq_true rfl) ?_
  intro p e s m args below meth c ls hC hw hr hlocks hl
  have hx := hC.1
  have hb := hC.2.1
  have hl : lv_has ls 6 [(0, .ref (g.2.2 0)), (1, .int v1), (2, .int v2), (3, .int v3), (4, .int v4)] := hl
  have B61 : ∀ (μ : Mu) (H : Heap) (locs : List Loc) (ls : Array Slot), wd g μ s (Aw g s.heap.size) H locs → lv_has ls 6 [] → X11_ofPlace_61 n v1 v2 v3 v4  μ = some (Sum.inl r.1, r.2) → WQ p l e (rmD 7) s m args below meth c g (some (.int r.1)) r.2 H locs (F0 m 61 ls []) := by
    intro μ H locs ls hw hl h
    rw [X11_ofPlace_61] at h
    cases h
  refine lv_iload_n hx hb dX11_ofPlace_0 rfl (lv_at hl 1 rfl) ?_
  obtain ⟨r1, m1, hr1, h⟩ := thr_rt h
  refine cS (As := [.int v1]) (rest := []) (st1 := []) hC hw (c_X11_needSide l g n v1 μ (r1, m1) hr1) ml_X11_146 st_X11_needSide rfl hl.1 ⟨Nat.le_of_ble_eq_true rfl, Nat.le_of_ble_eq_true rfl⟩ (Nat.le_of_ble_eq_true rfl) ⟨Nat.zero_le _, Nat.zero_le _⟩ rfl dX11_ofPlace_1 (fun H locs hw => ?_)
  refine lv_iload_n hx hb dX11_ofPlace_4 rfl (lv_at hl 2 rfl) ?_
  obtain ⟨r5, m5, hr5, h⟩ := thr_rt h
  refine cS (As := [.int v2]) (rest := []) (st1 := []) hC hw (c_X11_needSeeds l g n v2 m1 (r5, m5) hr5) ml_X11_229 st_X11_needSeeds rfl hl.1 ⟨Nat.le_of_ble_eq_true rfl, Nat.le_of_ble_eq_true rfl⟩ (Nat.le_of_ble_eq_true rfl) ⟨Nat.zero_le _, Nat.zero_le _⟩ rfl dX11_ofPlace_5 (fun H locs hw => ?_)
  refine lv_aload_n hx hb dX11_ofPlace_8 rfl (lv_at hl 0 rfl) ?_
  refine gR (t := 2) hC hw fl_X11_21 ok0 (by decide) ot0_1 dX11_ofPlace_9 ?_
  refine lv_iload_n hx hb dX11_ofPlace_12 rfl (lv_at hl 2 rfl) ?_
  obtain ⟨r13, hr13, h⟩ := bnd h
  refine cV (b := 2) (As := [.int v2]) (rest := []) (st1 := [.int r13.1]) hC hw (c_X1_positionsOf l g n v2 m5 r13 hr13) ml_X11_232 im_X1_positionsOf se_X1_positionsOf ok2 (CN := RX1) (T := TX1) (NF := 7) rfl rfl (by decide) rfl hl.1 ⟨Nat.le_of_ble_eq_true rfl, Nat.le_of_ble_eq_true rfl⟩ (Nat.le_of_ble_eq_true rfl) ⟨Nat.zero_le _, Nat.zero_le _⟩ rfl dX11_ofPlace_13 (fun H locs hw => ?_)
  refine lv_istore (lv' := [(5, .int r13.1), (0, .ref (g.2.2 0)), (1, .int v1), (2, .int v2), (3, .int v3), (4, .int v4)]) hx hb dX11_ofPlace_16 hl (by decide) rfl (fun ls hl => ?_)
  refine lv_iload hx hb dX11_ofPlace_18 (lv_at hl 0 rfl) ?_
  refine lv_sipush (v := (6000 : Int32)) hx hb dX11_ofPlace_20 (by decide) ?_
  refine lv_icmp_le (tgt := 36) hx hb dX11_ofPlace_23 (by decide) (fun hc => ?_) (fun hc => ?_)
  · rw [if_pos hc] at h
    refine lv_iload_n hx hb dX11_ofPlace_36 rfl (lv_at hl 4 rfl) ?_
    refine lv_iload hx hb dX11_ofPlace_37 (lv_at hl 0 rfl) ?_
    obtain ⟨r39, m39, hr39, h⟩ := thr_rt h
    refine cS (As := [.int v3, .int r13.1]) (rest := []) (st1 := []) hC hw (c_X11_needPosition l g n v3 r13.1 r13.2 (r39, m39) hr39) ml_X11_244 st_X11_needPosition rfl hl.1 ⟨Nat.le_of_ble_eq_true rfl, Nat.le_of_ble_eq_true rfl⟩ (Nat.le_of_ble_eq_true rfl) ⟨Nat.zero_le _, Nat.zero_le _⟩ rfl dX11_ofPlace_39 (fun H locs hw => ?_)
    refine lv_iload hx hb dX11_ofPlace_42 (lv_at hl 5 rfl) ?_
    refine lv_if_lt (tgt := 61) hx hb dX11_ofPlace_44 (by decide) (fun hc => ?_) (fun hc => ?_)
    · rw [if_pos hc] at h
      exact B61 m39 _ _ _ hw (lv_sub hl [] rfl) h
    · rw [if_neg hc] at h
      refine lv_iload hx hb dX11_ofPlace_47 (lv_at hl 5 rfl) ?_
      refine lv_iconst (v := (2 : Int32)) hx hb dX11_ofPlace_49 (by decide) ?_
      refine lv_aload_n hx hb dX11_ofPlace_50 rfl (lv_at hl 1 rfl) ?_
      refine gR (t := 1) hC hw fl_X11_12 ok0 (by decide) ot0_0 dX11_ofPlace_51 ?_
      refine gI hC hw fl_X11_134 ok1 (by decide) dX11_ofPlace_54 ?_
      refine lv_imul hx hb dX11_ofPlace_57 ?_
      refine lv_icmp_lt (tgt := 71) hx hb dX11_ofPlace_58 (by decide) (fun hc => ?_) (fun hc => ?_)
      · rw [if_pos hc] at h
        refine lv_aload_n hx hb dX11_ofPlace_71 rfl (lv_at hl 1 rfl) ?_
        refine gR (t := 2) hC hw fl_X11_21 ok0 (by decide) ot0_1 dX11_ofPlace_72 ?_
        refine lv_aload_n hx hb dX11_ofPlace_75 rfl (lv_at hl 1 rfl) ?_
        refine gR (t := 55) hC hw fl_X11_41 ok0 (by decide) ot0_4 dX11_ofPlace_76 ?_
        refine lv_iload_n hx hb dX11_ofPlace_79 rfl (lv_at hl 2 rfl) ?_
        refine lv_iload_n hx hb dX11_ofPlace_80 rfl (lv_at hl 3 rfl) ?_
        refine lv_iload_n hx hb dX11_ofPlace_81 rfl (lv_at hl 4 rfl) ?_
        obtain ⟨r82, hr82, h⟩ := bnd h
        refine cV (b := 2) (As := [.ref (g.2.2 55), .int v1, .int v2, .int v3]) (rest := []) (st1 := []) hC hw (c_X1_lay l g n 55 v1 v2 v3 m39 r82 hr82) ml_X11_251 im_X1_lay se_X1_lay ok2 (CN := RX1) (T := TX1) (NF := 7) rfl rfl (by decide) rfl hl.1 ⟨Nat.le_of_ble_eq_true rfl, Nat.le_of_ble_eq_true rfl⟩ (Nat.le_of_ble_eq_true rfl) ⟨Nat.zero_le _, Nat.zero_le _⟩ rfl dX11_ofPlace_82 (fun H locs hw => ?_)
        refine lv_aload_n hx hb dX11_ofPlace_85 rfl (lv_at hl 1 rfl) ?_
        refine lv_aload_n hx hb dX11_ofPlace_86 rfl (lv_at hl 1 rfl) ?_
        refine gR (t := 55) hC hw fl_X11_41 ok0 (by decide) ot0_4 dX11_ofPlace_87 ?_
        refine lv_aload_n hx hb dX11_ofPlace_90 rfl (lv_at hl 1 rfl) ?_
        refine gR (t := 2) hC hw fl_X11_21 ok0 (by decide) ot0_1 dX11_ofPlace_91 ?_
        refine lv_iload_n hx hb dX11_ofPlace_94 rfl (lv_at hl 2 rfl) ?_
        refine lv_iload hx hb dX11_ofPlace_95 (lv_at hl 5 rfl) ?_
        obtain ⟨r97, hr97, h⟩ := bnd h
        refine cV (b := 2) (As := [.int v1, .int v4]) (rest := [.ref (g.2.2 55), .ref (g.2.2 0)]) (st1 := [.int r97.1, .ref (g.2.2 55), .ref (g.2.2 0)]) hC hw (c_X1_pitAsSeen l g n v1 v4 r82.2 r97 hr97) ml_X11_255 im_X1_pitAsSeen se_X1_pitAsSeen ok2 (CN := RX1) (T := TX1) (NF := 7) rfl rfl (by decide) rfl hl.1 ⟨Nat.le_of_ble_eq_true rfl, Nat.le_of_ble_eq_true rfl⟩ (Nat.le_of_ble_eq_true rfl) ⟨Nat.zero_le _, Nat.zero_le _⟩ rfl dX11_ofPlace_97 (fun H locs hw => ?_)
        obtain ⟨r100, hr100, h⟩ := bnd h
        refine cV (b := 0) (As := [.ref (g.2.2 55), .int r97.1]) (rest := []) (st1 := [.int r100.1]) hC hw (c_X11_seedsOrLacking l g n 55 r97.1 r97.2 r100 hr100) ml_X11_142 im_X11_seedsOrLacking se_X11_seedsOrLacking ok0 (CN := RX11) (T := TX11) (NF := 12) rfl rfl (by decide) rfl hl.1 ⟨Nat.le_of_ble_eq_true rfl, Nat.le_of_ble_eq_true rfl⟩ (Nat.le_of_ble_eq_true rfl) ⟨Nat.zero_le _, Nat.zero_le _⟩ rfl dX11_ofPlace_100 (fun H locs hw => ?_)
        exact rI hC hw hr hlocks (by rw [(inlI h).1]) (inlI h).2 dX11_ofPlace_103
      · rw [if_neg hc] at h
        exact B61 m39 _ _ _ hw (lv_sub hl [] rfl) h
  · rw [if_neg hc] at h
    cases h
set_option maxRecDepth 100000 in
set_option maxHeartbeats 4000000 in
theorem x_X11_ofPlace (l : Launch) (hst : l.stackTraces = false) (g : Gw) (n : Nat) (v1 : Int32) (v2 : Int32) (v3 : Int32) (v4 : Int32) (μ : Mu) (kx : Nat) (μx : Mu) (h : X11_ofPlace n v1 v2 v3 v4 μ = some (Sum.inr kx, μx)) : CtX l g yX11_ofPlace cX11_ofPlace 6 (some .int) 7 [.ref (g.2.2 0), .int v1, .int v2, .int v3, .int v4] μ kx μx := by
  rw [X11_ofPlace] at h
  refine CtX.of (by decide) (Nat.le_of_ble_eq_true rfl) ?_
  intro p e s m args below meth c ls hC hw htab hlocks hl
  have hx := hC.1
  have hb := hC.2.1
  have hl : lv_has ls 6 [(0, .ref (g.2.2 0)), (1, .int v1), (2, .int v2), (3, .int v3), (4, .int v4)] := hl
  have B61 : ∀ (μ : Mu) (H : Heap) (locs : List Loc) (ls : Array Slot), wd g μ s (Aw g s.heap.size) H locs → lv_has ls 6 [] → X11_ofPlace_61 n v1 v2 v3 v4  μ = some (Sum.inr kx, μx) → WX p l e (rmX 7) s m args below meth c g kx μx H locs (F0 m 61 ls []) := by
    intro μ H locs ls hw hl h
    rw [X11_ofPlace_61] at h
    exact thS (rest := []) hC hw hst 16 (by decide) rfl rfl xft3 xnm xcl3 xin3 xat3 hl.1 htab hlocks (by rw [← (inrI h).1]; rfl) (inrI h).2 (Nat.le_of_ble_eq_true rfl) (Nat.le_of_ble_eq_true rfl) dX11_ofPlace_61 dX11_ofPlace_64 dX11_ofPlace_65 dX11_ofPlace_67 dX11_ofPlace_70
  refine lv_iload_n hx hb dX11_ofPlace_0 rfl (lv_at hl 1 rfl) ?_
  rcases thr_cs h with ⟨k1x, m1, hr1, h⟩ | ⟨r1, m1, hr1, h⟩
  · rw [(inrI h).1, (inrI h).2] at hr1
    exact cSX (As := [.int v1]) (rest := []) hC hw htab hlocks (x_X11_needSide l hst g n v1 μ kx μx hr1) ml_X11_146 st_X11_needSide rfl hl.1 ⟨Nat.le_of_ble_eq_true rfl, Nat.le_of_ble_eq_true rfl⟩ (Nat.le_of_ble_eq_true rfl) ⟨Nat.le_refl 1, Nat.le_refl 6⟩ dX11_ofPlace_1
  refine cS (As := [.int v1]) (rest := []) (st1 := []) hC hw (c_X11_needSide l g n v1 μ (r1, m1) hr1) ml_X11_146 st_X11_needSide rfl hl.1 ⟨Nat.le_of_ble_eq_true rfl, Nat.le_of_ble_eq_true rfl⟩ (Nat.le_of_ble_eq_true rfl) ⟨Nat.zero_le _, Nat.zero_le _⟩ rfl dX11_ofPlace_1 (fun H locs hw => ?_)
  refine lv_iload_n hx hb dX11_ofPlace_4 rfl (lv_at hl 2 rfl) ?_
  rcases thr_cs h with ⟨k5x, m5, hr5, h⟩ | ⟨r5, m5, hr5, h⟩
  · rw [(inrI h).1, (inrI h).2] at hr5
    exact cSX (As := [.int v2]) (rest := []) hC hw htab hlocks (x_X11_needSeeds l hst g n v2 m1 kx μx hr5) ml_X11_229 st_X11_needSeeds rfl hl.1 ⟨Nat.le_of_ble_eq_true rfl, Nat.le_of_ble_eq_true rfl⟩ (Nat.le_of_ble_eq_true rfl) ⟨Nat.le_refl 1, Nat.le_refl 6⟩ dX11_ofPlace_5
  refine cS (As := [.int v2]) (rest := []) (st1 := []) hC hw (c_X11_needSeeds l g n v2 m1 (r5, m5) hr5) ml_X11_229 st_X11_needSeeds rfl hl.1 ⟨Nat.le_of_ble_eq_true rfl, Nat.le_of_ble_eq_true rfl⟩ (Nat.le_of_ble_eq_true rfl) ⟨Nat.zero_le _, Nat.zero_le _⟩ rfl dX11_ofPlace_5 (fun H locs hw => ?_)
  refine lv_aload_n hx hb dX11_ofPlace_8 rfl (lv_at hl 0 rfl) ?_
  refine gR (t := 2) hC hw fl_X11_21 ok0 (by decide) ot0_1 dX11_ofPlace_9 ?_
  refine lv_iload_n hx hb dX11_ofPlace_12 rfl (lv_at hl 2 rfl) ?_
  obtain ⟨r13, hr13, h⟩ := bnd h
  refine cV (b := 2) (As := [.int v2]) (rest := []) (st1 := [.int r13.1]) hC hw (c_X1_positionsOf l g n v2 m5 r13 hr13) ml_X11_232 im_X1_positionsOf se_X1_positionsOf ok2 (CN := RX1) (T := TX1) (NF := 7) rfl rfl (by decide) rfl hl.1 ⟨Nat.le_of_ble_eq_true rfl, Nat.le_of_ble_eq_true rfl⟩ (Nat.le_of_ble_eq_true rfl) ⟨Nat.zero_le _, Nat.zero_le _⟩ rfl dX11_ofPlace_13 (fun H locs hw => ?_)
  refine lv_istore (lv' := [(5, .int r13.1), (0, .ref (g.2.2 0)), (1, .int v1), (2, .int v2), (3, .int v3), (4, .int v4)]) hx hb dX11_ofPlace_16 hl (by decide) rfl (fun ls hl => ?_)
  refine lv_iload hx hb dX11_ofPlace_18 (lv_at hl 0 rfl) ?_
  refine lv_sipush (v := (6000 : Int32)) hx hb dX11_ofPlace_20 (by decide) ?_
  refine lv_icmp_le (tgt := 36) hx hb dX11_ofPlace_23 (by decide) (fun hc => ?_) (fun hc => ?_)
  · rw [if_pos hc] at h
    refine lv_iload_n hx hb dX11_ofPlace_36 rfl (lv_at hl 4 rfl) ?_
    refine lv_iload hx hb dX11_ofPlace_37 (lv_at hl 0 rfl) ?_
    rcases thr_cs h with ⟨k39x, m39, hr39, h⟩ | ⟨r39, m39, hr39, h⟩
    · rw [(inrI h).1, (inrI h).2] at hr39
      exact cSX (As := [.int v3, .int r13.1]) (rest := []) hC hw htab hlocks (x_X11_needPosition l hst g n v3 r13.1 r13.2 kx μx hr39) ml_X11_244 st_X11_needPosition rfl hl.1 ⟨Nat.le_of_ble_eq_true rfl, Nat.le_of_ble_eq_true rfl⟩ (Nat.le_of_ble_eq_true rfl) ⟨Nat.le_refl 1, Nat.le_refl 6⟩ dX11_ofPlace_39
    refine cS (As := [.int v3, .int r13.1]) (rest := []) (st1 := []) hC hw (c_X11_needPosition l g n v3 r13.1 r13.2 (r39, m39) hr39) ml_X11_244 st_X11_needPosition rfl hl.1 ⟨Nat.le_of_ble_eq_true rfl, Nat.le_of_ble_eq_true rfl⟩ (Nat.le_of_ble_eq_true rfl) ⟨Nat.zero_le _, Nat.zero_le _⟩ rfl dX11_ofPlace_39 (fun H locs hw => ?_)
    refine lv_iload hx hb dX11_ofPlace_42 (lv_at hl 5 rfl) ?_
    refine lv_if_lt (tgt := 61) hx hb dX11_ofPlace_44 (by decide) (fun hc => ?_) (fun hc => ?_)
    · rw [if_pos hc] at h
      exact B61 m39 _ _ _ hw (lv_sub hl [] rfl) h
    · rw [if_neg hc] at h
      refine lv_iload hx hb dX11_ofPlace_47 (lv_at hl 5 rfl) ?_
      refine lv_iconst (v := (2 : Int32)) hx hb dX11_ofPlace_49 (by decide) ?_
      refine lv_aload_n hx hb dX11_ofPlace_50 rfl (lv_at hl 1 rfl) ?_
      refine gR (t := 1) hC hw fl_X11_12 ok0 (by decide) ot0_0 dX11_ofPlace_51 ?_
      refine gI hC hw fl_X11_134 ok1 (by decide) dX11_ofPlace_54 ?_
      refine lv_imul hx hb dX11_ofPlace_57 ?_
      refine lv_icmp_lt (tgt := 71) hx hb dX11_ofPlace_58 (by decide) (fun hc => ?_) (fun hc => ?_)
      · rw [if_pos hc] at h
        refine lv_aload_n hx hb dX11_ofPlace_71 rfl (lv_at hl 1 rfl) ?_
        refine gR (t := 2) hC hw fl_X11_21 ok0 (by decide) ot0_1 dX11_ofPlace_72 ?_
        refine lv_aload_n hx hb dX11_ofPlace_75 rfl (lv_at hl 1 rfl) ?_
        refine gR (t := 55) hC hw fl_X11_41 ok0 (by decide) ot0_4 dX11_ofPlace_76 ?_
        refine lv_iload_n hx hb dX11_ofPlace_79 rfl (lv_at hl 2 rfl) ?_
        refine lv_iload_n hx hb dX11_ofPlace_80 rfl (lv_at hl 3 rfl) ?_
        refine lv_iload_n hx hb dX11_ofPlace_81 rfl (lv_at hl 4 rfl) ?_
        obtain ⟨r82, hr82, h⟩ := bnd h
        refine cV (b := 2) (As := [.ref (g.2.2 55), .int v1, .int v2, .int v3]) (rest := []) (st1 := []) hC hw (c_X1_lay l g n 55 v1 v2 v3 m39 r82 hr82) ml_X11_251 im_X1_lay se_X1_lay ok2 (CN := RX1) (T := TX1) (NF := 7) rfl rfl (by decide) rfl hl.1 ⟨Nat.le_of_ble_eq_true rfl, Nat.le_of_ble_eq_true rfl⟩ (Nat.le_of_ble_eq_true rfl) ⟨Nat.zero_le _, Nat.zero_le _⟩ rfl dX11_ofPlace_82 (fun H locs hw => ?_)
        refine lv_aload_n hx hb dX11_ofPlace_85 rfl (lv_at hl 1 rfl) ?_
        refine lv_aload_n hx hb dX11_ofPlace_86 rfl (lv_at hl 1 rfl) ?_
        refine gR (t := 55) hC hw fl_X11_41 ok0 (by decide) ot0_4 dX11_ofPlace_87 ?_
        refine lv_aload_n hx hb dX11_ofPlace_90 rfl (lv_at hl 1 rfl) ?_
        refine gR (t := 2) hC hw fl_X11_21 ok0 (by decide) ot0_1 dX11_ofPlace_91 ?_
        refine lv_iload_n hx hb dX11_ofPlace_94 rfl (lv_at hl 2 rfl) ?_
        refine lv_iload hx hb dX11_ofPlace_95 (lv_at hl 5 rfl) ?_
        obtain ⟨r97, hr97, h⟩ := bnd h
        refine cV (b := 2) (As := [.int v1, .int v4]) (rest := [.ref (g.2.2 55), .ref (g.2.2 0)]) (st1 := [.int r97.1, .ref (g.2.2 55), .ref (g.2.2 0)]) hC hw (c_X1_pitAsSeen l g n v1 v4 r82.2 r97 hr97) ml_X11_255 im_X1_pitAsSeen se_X1_pitAsSeen ok2 (CN := RX1) (T := TX1) (NF := 7) rfl rfl (by decide) rfl hl.1 ⟨Nat.le_of_ble_eq_true rfl, Nat.le_of_ble_eq_true rfl⟩ (Nat.le_of_ble_eq_true rfl) ⟨Nat.zero_le _, Nat.zero_le _⟩ rfl dX11_ofPlace_97 (fun H locs hw => ?_)
        obtain ⟨r100, hr100, h⟩ := bnd h
        refine cV (b := 0) (As := [.ref (g.2.2 55), .int r97.1]) (rest := []) (st1 := [.int r100.1]) hC hw (c_X11_seedsOrLacking l g n 55 r97.1 r97.2 r100 hr100) ml_X11_142 im_X11_seedsOrLacking se_X11_seedsOrLacking ok0 (CN := RX11) (T := TX11) (NF := 12) rfl rfl (by decide) rfl hl.1 ⟨Nat.le_of_ble_eq_true rfl, Nat.le_of_ble_eq_true rfl⟩ (Nat.le_of_ble_eq_true rfl) ⟨Nat.zero_le _, Nat.zero_le _⟩ rfl dX11_ofPlace_100 (fun H locs hw => ?_)
        cases h
      · rw [if_neg hc] at h
        exact B61 m39 _ _ _ hw (lv_sub hl [] rfl) h
  · rw [if_neg hc] at h
    exact thS (rest := []) hC hw hst 24 (by decide) rfl rfl xft2 xnm xcl2 xin2 xat2 hl.1 htab hlocks (by rw [← (inrI h).1]; rfl) (inrI h).2 (Nat.le_of_ble_eq_true rfl) (Nat.le_of_ble_eq_true rfl) dX11_ofPlace_26 dX11_ofPlace_29 dX11_ofPlace_30 dX11_ofPlace_32 dX11_ofPlace_35
set_option maxRecDepth 100000 in
set_option maxHeartbeats 4000000 in
theorem c_X11_tray (l : Launch) (g : Gw) (n : Nat) (v1 : Int32) (v2 : Int32) (v3 : Int32) (μ : Mu) (r : Unit × Mu) (h : X11_tray n v1 v2 v3 μ = some (Sum.inl r.1, r.2)) : Ct l g yX11_tray cX11_tray 5 none 7 [.ref (g.2.2 0), .int v1, .int v2, .int v3] μ none r.2 := by
  rw [X11_tray] at h
  refine Ct.of (by decide) (Nat.le_of_ble_eq_true rfl) ?_
  intro p e s m args below meth c ls hC hw hr hlocks hl
  have hx := hC.1
  have hb := hC.2.1
  have hl : lv_has ls 5 [(0, .ref (g.2.2 0)), (1, .int v1), (2, .int v2), (3, .int v3)] := hl
  have B26 : ∀ (μ : Mu) (H : Heap) (locs : List Loc) (ls : Array Slot), wd g μ s (Aw g s.heap.size) H locs → lv_has ls 5 [] → X11_tray_26 n v1 v2 v3  μ = some (Sum.inl r.1, r.2) → WQ p l e (rmD 7) s m args below meth c g none r.2 H locs (F0 m 26 ls []) := by
    intro μ H locs ls hw hl h
    rw [X11_tray_26] at h
    cases h
  refine lv_aload_n hx hb dX11_tray_0 rfl (lv_at hl 0 rfl) ?_
  refine lv_iload_n hx hb dX11_tray_1 rfl (lv_at hl 1 rfl) ?_
  obtain ⟨r2, m2, hr2, h⟩ := thr_rt h
  obtain ⟨hkr2, h⟩ := kd_some h
  refine cV (b := 0) (As := [.int v1]) (rest := []) (st1 := [.ref (g.2.2 r2)]) hC hw (c_X11_anyTray l g n v1 μ (r2, m2) hr2) ml_X11_353 im_X11_anyTray se_X11_anyTray ok0 (CN := RX11) (T := TX11) (NF := 12) rfl rfl (by decide) rfl hl.1 ⟨Nat.le_of_ble_eq_true rfl, Nat.le_of_ble_eq_true rfl⟩ (Nat.le_of_ble_eq_true rfl) ⟨Nat.zero_le _, Nat.zero_le _⟩ rfl dX11_tray_2 (fun H locs hw => ?_)
  refine lv_astore (lv' := [(4, .ref (g.2.2 r2)), (0, .ref (g.2.2 0)), (1, .int v1), (2, .int v2), (3, .int v3)]) hx hb dX11_tray_5 hl (by decide) rfl (fun ls hl => ?_)
  refine lv_iload_n hx hb dX11_tray_7 rfl (lv_at hl 3 rfl) ?_
  refine lv_if_lt (tgt := 26) hx hb dX11_tray_8 (by decide) (fun hc => ?_) (fun hc => ?_)
  · rw [if_pos hc] at h
    exact B26 m2 _ _ _ hw (lv_sub hl [] rfl) h
  · rw [if_neg hc] at h
    refine lv_iload_n hx hb dX11_tray_11 rfl (lv_at hl 3 rfl) ?_
    refine lv_iconst (v := (3 : Int32)) hx hb dX11_tray_12 (by decide) ?_
    refine lv_icmp_gt (tgt := 26) hx hb dX11_tray_13 (by decide) (fun hc => ?_) (fun hc => ?_)
    · rw [if_pos hc] at h
      exact B26 m2 _ _ _ hw (lv_sub hl [] rfl) h
    · rw [if_neg hc] at h
      refine lv_iload_n hx hb dX11_tray_16 rfl (lv_at hl 4 rfl) ?_
      refine lv_if_lt (tgt := 26) hx hb dX11_tray_17 (by decide) (fun hc => ?_) (fun hc => ?_)
      · rw [if_pos hc] at h
        exact B26 m2 _ _ _ hw (lv_sub hl [] rfl) h
      · rw [if_neg hc] at h
        refine lv_iload_n hx hb dX11_tray_20 rfl (lv_at hl 4 rfl) ?_
        refine lv_bipush (v := (40 : Int32)) hx hb dX11_tray_21 (by decide) ?_
        refine lv_icmp_le (tgt := 37) hx hb dX11_tray_23 (by decide) (fun hc => ?_) (fun hc => ?_)
        · rw [if_pos hc] at h
          refine lv_aload hx hb dX11_tray_37 (lv_at hl 0 rfl) ?_
          refine lv_iload_n hx hb dX11_tray_39 rfl (lv_at hl 3 rfl) ?_
          refine lv_iload_n hx hb dX11_tray_40 rfl (lv_at hl 4 rfl) ?_
          obtain ⟨r41, hr41, h⟩ := bnd h
          refine cV (b := r2) (As := [.int v2, .int v3]) (rest := []) (st1 := []) hC hw (c_X9_lay l g n r2 v2 v3 m2 r41 hr41) ml_X11_358 im_X9_lay se_X9_lay hkr2 (CN := RX9) (T := TX9) (NF := 3) rfl rfl (by decide) rfl hl.1 ⟨Nat.le_of_ble_eq_true rfl, Nat.le_of_ble_eq_true rfl⟩ (Nat.le_of_ble_eq_true rfl) ⟨Nat.zero_le _, Nat.zero_le _⟩ rfl dX11_tray_41 (fun H locs hw => ?_)
          exact rV hC hw hr hlocks rfl (inlI h).2 dX11_tray_44
        · rw [if_neg hc] at h
          exact B26 m2 _ _ _ hw (lv_sub hl [] rfl) h
set_option maxRecDepth 100000 in
set_option maxHeartbeats 4000000 in
theorem x_X11_tray (l : Launch) (hst : l.stackTraces = false) (g : Gw) (n : Nat) (v1 : Int32) (v2 : Int32) (v3 : Int32) (μ : Mu) (kx : Nat) (μx : Mu) (h : X11_tray n v1 v2 v3 μ = some (Sum.inr kx, μx)) : CtX l g yX11_tray cX11_tray 5 none 7 [.ref (g.2.2 0), .int v1, .int v2, .int v3] μ kx μx := by
  rw [X11_tray] at h
  refine CtX.of (by decide) (Nat.le_of_ble_eq_true rfl) ?_
  intro p e s m args below meth c ls hC hw htab hlocks hl
  have hx := hC.1
  have hb := hC.2.1
  have hl : lv_has ls 5 [(0, .ref (g.2.2 0)), (1, .int v1), (2, .int v2), (3, .int v3)] := hl
  have B26 : ∀ (μ : Mu) (H : Heap) (locs : List Loc) (ls : Array Slot), wd g μ s (Aw g s.heap.size) H locs → lv_has ls 5 [] → X11_tray_26 n v1 v2 v3  μ = some (Sum.inr kx, μx) → WX p l e (rmX 7) s m args below meth c g kx μx H locs (F0 m 26 ls []) := by
    intro μ H locs ls hw hl h
    rw [X11_tray_26] at h
    exact thSW (rest := []) hC hw hst 28 (by decide) rfl rfl xft1 xnm xcl1 xin1 xat1 hl.1 htab hlocks (by rw [← (inrI h).1]; rfl) (inrI h).2 (Nat.le_of_ble_eq_true rfl) (Nat.le_of_ble_eq_true rfl) dX11_tray_26 dX11_tray_29 dX11_tray_30 dX11_tray_33 dX11_tray_36
  refine lv_aload_n hx hb dX11_tray_0 rfl (lv_at hl 0 rfl) ?_
  refine lv_iload_n hx hb dX11_tray_1 rfl (lv_at hl 1 rfl) ?_
  rcases thr_cs h with ⟨k2x, m2, hr2, h⟩ | ⟨r2, m2, hr2, h⟩
  · rw [(inrI h).1, (inrI h).2] at hr2
    exact cVX (b := 0) (As := [.int v1]) (rest := []) hC hw htab hlocks (x_X11_anyTray l hst g n v1 μ kx μx hr2) ml_X11_353 im_X11_anyTray se_X11_anyTray ok0 (CN := RX11) (T := TX11) (NF := 12) rfl rfl (by decide) rfl hl.1 ⟨Nat.le_of_ble_eq_true rfl, Nat.le_of_ble_eq_true rfl⟩ (Nat.le_of_ble_eq_true rfl) ⟨Nat.le_refl 1, Nat.le_refl 6⟩ dX11_tray_2
  obtain ⟨hkr2, h⟩ := kd_some h
  refine cV (b := 0) (As := [.int v1]) (rest := []) (st1 := [.ref (g.2.2 r2)]) hC hw (c_X11_anyTray l g n v1 μ (r2, m2) hr2) ml_X11_353 im_X11_anyTray se_X11_anyTray ok0 (CN := RX11) (T := TX11) (NF := 12) rfl rfl (by decide) rfl hl.1 ⟨Nat.le_of_ble_eq_true rfl, Nat.le_of_ble_eq_true rfl⟩ (Nat.le_of_ble_eq_true rfl) ⟨Nat.zero_le _, Nat.zero_le _⟩ rfl dX11_tray_2 (fun H locs hw => ?_)
  refine lv_astore (lv' := [(4, .ref (g.2.2 r2)), (0, .ref (g.2.2 0)), (1, .int v1), (2, .int v2), (3, .int v3)]) hx hb dX11_tray_5 hl (by decide) rfl (fun ls hl => ?_)
  refine lv_iload_n hx hb dX11_tray_7 rfl (lv_at hl 3 rfl) ?_
  refine lv_if_lt (tgt := 26) hx hb dX11_tray_8 (by decide) (fun hc => ?_) (fun hc => ?_)
  · rw [if_pos hc] at h
    exact B26 m2 _ _ _ hw (lv_sub hl [] rfl) h
  · rw [if_neg hc] at h
    refine lv_iload_n hx hb dX11_tray_11 rfl (lv_at hl 3 rfl) ?_
    refine lv_iconst (v := (3 : Int32)) hx hb dX11_tray_12 (by decide) ?_
    refine lv_icmp_gt (tgt := 26) hx hb dX11_tray_13 (by decide) (fun hc => ?_) (fun hc => ?_)
    · rw [if_pos hc] at h
      exact B26 m2 _ _ _ hw (lv_sub hl [] rfl) h
    · rw [if_neg hc] at h
      refine lv_iload_n hx hb dX11_tray_16 rfl (lv_at hl 4 rfl) ?_
      refine lv_if_lt (tgt := 26) hx hb dX11_tray_17 (by decide) (fun hc => ?_) (fun hc => ?_)
      · rw [if_pos hc] at h
        exact B26 m2 _ _ _ hw (lv_sub hl [] rfl) h
      · rw [if_neg hc] at h
        refine lv_iload_n hx hb dX11_tray_20 rfl (lv_at hl 4 rfl) ?_
        refine lv_bipush (v := (40 : Int32)) hx hb dX11_tray_21 (by decide) ?_
        refine lv_icmp_le (tgt := 37) hx hb dX11_tray_23 (by decide) (fun hc => ?_) (fun hc => ?_)
        · rw [if_pos hc] at h
          refine lv_aload hx hb dX11_tray_37 (lv_at hl 0 rfl) ?_
          refine lv_iload_n hx hb dX11_tray_39 rfl (lv_at hl 3 rfl) ?_
          refine lv_iload_n hx hb dX11_tray_40 rfl (lv_at hl 4 rfl) ?_
          obtain ⟨r41, hr41, h⟩ := bnd h
          refine cV (b := r2) (As := [.int v2, .int v3]) (rest := []) (st1 := []) hC hw (c_X9_lay l g n r2 v2 v3 m2 r41 hr41) ml_X11_358 im_X9_lay se_X9_lay hkr2 (CN := RX9) (T := TX9) (NF := 3) rfl rfl (by decide) rfl hl.1 ⟨Nat.le_of_ble_eq_true rfl, Nat.le_of_ble_eq_true rfl⟩ (Nat.le_of_ble_eq_true rfl) ⟨Nat.zero_le _, Nat.zero_le _⟩ rfl dX11_tray_41 (fun H locs hw => ?_)
          cases h
        · rw [if_neg hc] at h
          exact B26 m2 _ _ _ hw (lv_sub hl [] rfl) h
set_option maxRecDepth 100000 in
set_option maxHeartbeats 4000000 in
theorem c_X11_write (l : Launch) (g : Gw) (n : Nat) (v1 : Int32) (v2 : Int32) (v3 : Int64) (μ : Mu) (r : Int64 × Mu) (h : X11_write n v1 v2 v3 μ = some (Sum.inl r.1, r.2)) : Ct l g yX11_write cX11_write 6 (some .long) 8 [.ref (g.2.2 0), .int v1, .int v2, .long v3] μ (some (.long r.1)) r.2 := by
  rw [X11_write] at h
  refine Ct.of (by decide) (Nat.le_of_ble_eq_true rfl) ?_
  intro p e s m args below meth c ls hC hw hr hlocks hl
  have hx := hC.1
  have hb := hC.2.1
  have hl : lv_has ls 6 [(0, .ref (g.2.2 0)), (1, .int v1), (2, .int v2), (3, .long v3)] := hl
  have B20 : ∀ (μ : Mu) (H : Heap) (locs : List Loc) (ls : Array Slot), wd g μ s (Aw g s.heap.size) H locs → lv_has ls 6 [] → X11_write_20 n v1 v2 v3  μ = some (Sum.inl r.1, r.2) → WQ p l e (rmD 8) s m args below meth c g (some (.long r.1)) r.2 H locs (F0 m 20 ls []) := by
    intro μ H locs ls hw hl h
    rw [X11_write_20] at h
    cases h
  refine lv_aload_n hx hb dX11_write_0 rfl (lv_at hl 0 rfl) ?_
  refine lv_iload_n hx hb dX11_write_1 rfl (lv_at hl 1 rfl) ?_
  obtain ⟨r2, m2, hr2, h⟩ := thr_rt h
  obtain ⟨hkr2, h⟩ := kd_some h
  refine cV (b := 0) (As := [.int v1]) (rest := []) (st1 := [.ref (g.2.2 r2)]) hC hw (c_X11_laidTray l g n v1 μ (r2, m2) hr2) ml_X11_218 im_X11_laidTray se_X11_laidTray ok0 (CN := RX11) (T := TX11) (NF := 12) rfl rfl (by decide) rfl hl.1 ⟨Nat.le_of_ble_eq_true rfl, Nat.le_of_ble_eq_true rfl⟩ (Nat.le_of_ble_eq_true rfl) ⟨Nat.zero_le _, Nat.zero_le _⟩ rfl dX11_write_2 (fun H locs hw => ?_)
  refine lv_astore (lv' := [(5, .ref (g.2.2 r2)), (0, .ref (g.2.2 0)), (1, .int v1), (2, .int v2), (3, .long v3)]) hx hb dX11_write_5 hl (by decide) rfl (fun ls hl => ?_)
  refine lv_iload_n hx hb dX11_write_7 rfl (lv_at hl 3 rfl) ?_
  refine lv_if_lt (tgt := 20) hx hb dX11_write_8 (by decide) (fun hc => ?_) (fun hc => ?_)
  · rw [if_pos hc] at h
    exact B20 m2 _ _ _ hw (lv_sub hl [] rfl) h
  · rw [if_neg hc] at h
    refine lv_iload_n hx hb dX11_write_11 rfl (lv_at hl 3 rfl) ?_
    refine lv_aload hx hb dX11_write_12 (lv_at hl 0 rfl) ?_
    refine gI hC hw fl_X11_222 hkr2 (by decide) dX11_write_14 ?_
    refine lv_icmp_lt (tgt := 31) hx hb dX11_write_17 (by decide) (fun hc => ?_) (fun hc => ?_)
    · rw [if_pos hc] at h
      refine lv_aload hx hb dX11_write_31 (lv_at hl 0 rfl) ?_
      refine gR (t := (r2 + 1)) hC hw fl_X11_225 hkr2 (by decide) (tr_T hkr2) dX11_write_33 ?_
      refine lv_iload_n hx hb dX11_write_36 rfl (lv_at hl 3 rfl) ?_
      refine lv_aload hx hb dX11_write_37 (lv_at hl 0 rfl) ?_
      refine lv_lload_n hx hb dX11_write_39 rfl (lv_at hl 4 rfl) ?_
      obtain ⟨r40, hr40, h⟩ := bnd h
      refine cV (b := r2) (As := [.long v3]) (rest := [.int v2, .ref (g.2.2 (r2 + 1))]) (st1 := [.long r40.1, .int v2, .ref (g.2.2 (r2 + 1))]) hC hw (c_X9_cut l g n r2 v3 m2 r40 hr40) ml_X11_362 im_X9_cut se_X9_cut hkr2 (CN := RX9) (T := TX9) (NF := 3) rfl rfl (by decide) rfl hl.1 ⟨Nat.le_of_ble_eq_true rfl, Nat.le_of_ble_eq_true rfl⟩ (Nat.le_of_ble_eq_true rfl) ⟨Nat.zero_le _, Nat.zero_le _⟩ rfl dX11_write_40 (fun H locs hw => ?_)
      obtain ⟨hi43, h⟩ := gd_some h
      refine sJ (j := v2.toNatClampNeg) hC hw (tr_K hkr2) (tr_N hkr2) hi43 rfl dX11_write_43 (fun H locs hw => ?_)
      refine lv_aload hx hb dX11_write_44 (lv_at hl 0 rfl) ?_
      refine gR (t := (r2 + 1)) hC hw fl_X11_225 hkr2 (by decide) (tr_T hkr2) dX11_write_46 ?_
      refine lv_iload_n hx hb dX11_write_49 rfl (lv_at hl 3 rfl) ?_
      refine lJ (j := v2.toNatClampNeg) hC hw (tr_K hkr2) (tr_N hkr2) hi43 rfl dX11_write_50 ?_
      exact rL hC hw hr hlocks (by rw [(inlI h).1]) (inlI h).2 dX11_write_51
    · rw [if_neg hc] at h
      exact B20 m2 _ _ _ hw (lv_sub hl [] rfl) h
set_option maxRecDepth 100000 in
set_option maxHeartbeats 4000000 in
theorem x_X11_write (l : Launch) (hst : l.stackTraces = false) (g : Gw) (n : Nat) (v1 : Int32) (v2 : Int32) (v3 : Int64) (μ : Mu) (kx : Nat) (μx : Mu) (h : X11_write n v1 v2 v3 μ = some (Sum.inr kx, μx)) : CtX l g yX11_write cX11_write 6 (some .long) 8 [.ref (g.2.2 0), .int v1, .int v2, .long v3] μ kx μx := by
  rw [X11_write] at h
  refine CtX.of (by decide) (Nat.le_of_ble_eq_true rfl) ?_
  intro p e s m args below meth c ls hC hw htab hlocks hl
  have hx := hC.1
  have hb := hC.2.1
  have hl : lv_has ls 6 [(0, .ref (g.2.2 0)), (1, .int v1), (2, .int v2), (3, .long v3)] := hl
  have B20 : ∀ (μ : Mu) (H : Heap) (locs : List Loc) (ls : Array Slot), wd g μ s (Aw g s.heap.size) H locs → lv_has ls 6 [] → X11_write_20 n v1 v2 v3  μ = some (Sum.inr kx, μx) → WX p l e (rmX 8) s m args below meth c g kx μx H locs (F0 m 20 ls []) := by
    intro μ H locs ls hw hl h
    rw [X11_write_20] at h
    exact thSW (rest := []) hC hw hst 29 (by decide) rfl rfl xft3 xnm xcl3 xin3 xat3 hl.1 htab hlocks (by rw [← (inrI h).1]; rfl) (inrI h).2 (Nat.le_of_ble_eq_true rfl) (Nat.le_of_ble_eq_true rfl) dX11_write_20 dX11_write_23 dX11_write_24 dX11_write_27 dX11_write_30
  refine lv_aload_n hx hb dX11_write_0 rfl (lv_at hl 0 rfl) ?_
  refine lv_iload_n hx hb dX11_write_1 rfl (lv_at hl 1 rfl) ?_
  rcases thr_cs h with ⟨k2x, m2, hr2, h⟩ | ⟨r2, m2, hr2, h⟩
  · rw [(inrI h).1, (inrI h).2] at hr2
    exact cVX (b := 0) (As := [.int v1]) (rest := []) hC hw htab hlocks (x_X11_laidTray l hst g n v1 μ kx μx hr2) ml_X11_218 im_X11_laidTray se_X11_laidTray ok0 (CN := RX11) (T := TX11) (NF := 12) rfl rfl (by decide) rfl hl.1 ⟨Nat.le_of_ble_eq_true rfl, Nat.le_of_ble_eq_true rfl⟩ (Nat.le_of_ble_eq_true rfl) ⟨Nat.le_refl 1, Nat.le_refl 6⟩ dX11_write_2
  obtain ⟨hkr2, h⟩ := kd_some h
  refine cV (b := 0) (As := [.int v1]) (rest := []) (st1 := [.ref (g.2.2 r2)]) hC hw (c_X11_laidTray l g n v1 μ (r2, m2) hr2) ml_X11_218 im_X11_laidTray se_X11_laidTray ok0 (CN := RX11) (T := TX11) (NF := 12) rfl rfl (by decide) rfl hl.1 ⟨Nat.le_of_ble_eq_true rfl, Nat.le_of_ble_eq_true rfl⟩ (Nat.le_of_ble_eq_true rfl) ⟨Nat.zero_le _, Nat.zero_le _⟩ rfl dX11_write_2 (fun H locs hw => ?_)
  refine lv_astore (lv' := [(5, .ref (g.2.2 r2)), (0, .ref (g.2.2 0)), (1, .int v1), (2, .int v2), (3, .long v3)]) hx hb dX11_write_5 hl (by decide) rfl (fun ls hl => ?_)
  refine lv_iload_n hx hb dX11_write_7 rfl (lv_at hl 3 rfl) ?_
  refine lv_if_lt (tgt := 20) hx hb dX11_write_8 (by decide) (fun hc => ?_) (fun hc => ?_)
  · rw [if_pos hc] at h
    exact B20 m2 _ _ _ hw (lv_sub hl [] rfl) h
  · rw [if_neg hc] at h
    refine lv_iload_n hx hb dX11_write_11 rfl (lv_at hl 3 rfl) ?_
    refine lv_aload hx hb dX11_write_12 (lv_at hl 0 rfl) ?_
    refine gI hC hw fl_X11_222 hkr2 (by decide) dX11_write_14 ?_
    refine lv_icmp_lt (tgt := 31) hx hb dX11_write_17 (by decide) (fun hc => ?_) (fun hc => ?_)
    · rw [if_pos hc] at h
      refine lv_aload hx hb dX11_write_31 (lv_at hl 0 rfl) ?_
      refine gR (t := (r2 + 1)) hC hw fl_X11_225 hkr2 (by decide) (tr_T hkr2) dX11_write_33 ?_
      refine lv_iload_n hx hb dX11_write_36 rfl (lv_at hl 3 rfl) ?_
      refine lv_aload hx hb dX11_write_37 (lv_at hl 0 rfl) ?_
      refine lv_lload_n hx hb dX11_write_39 rfl (lv_at hl 4 rfl) ?_
      obtain ⟨r40, hr40, h⟩ := bnd h
      refine cV (b := r2) (As := [.long v3]) (rest := [.int v2, .ref (g.2.2 (r2 + 1))]) (st1 := [.long r40.1, .int v2, .ref (g.2.2 (r2 + 1))]) hC hw (c_X9_cut l g n r2 v3 m2 r40 hr40) ml_X11_362 im_X9_cut se_X9_cut hkr2 (CN := RX9) (T := TX9) (NF := 3) rfl rfl (by decide) rfl hl.1 ⟨Nat.le_of_ble_eq_true rfl, Nat.le_of_ble_eq_true rfl⟩ (Nat.le_of_ble_eq_true rfl) ⟨Nat.zero_le _, Nat.zero_le _⟩ rfl dX11_write_40 (fun H locs hw => ?_)
      obtain ⟨hi43, h⟩ := gd_some h
      refine sJ (j := v2.toNatClampNeg) hC hw (tr_K hkr2) (tr_N hkr2) hi43 rfl dX11_write_43 (fun H locs hw => ?_)
      refine lv_aload hx hb dX11_write_44 (lv_at hl 0 rfl) ?_
      refine gR (t := (r2 + 1)) hC hw fl_X11_225 hkr2 (by decide) (tr_T hkr2) dX11_write_46 ?_
      refine lv_iload_n hx hb dX11_write_49 rfl (lv_at hl 3 rfl) ?_
      refine lJ (j := v2.toNatClampNeg) hC hw (tr_K hkr2) (tr_N hkr2) hi43 rfl dX11_write_50 ?_
      cases h
    · rw [if_neg hc] at h
      exact B20 m2 _ _ _ hw (lv_sub hl [] rfl) h
set_option maxRecDepth 100000 in
set_option maxHeartbeats 4000000 in
theorem c_X11_pour (l : Launch) (g : Gw) (n : Nat) (v1 : Int32) (μ : Mu) (r : Int32 × Mu) (h : X11_pour n v1 μ = some (Sum.inl r.1, r.2)) : Ct l g yX11_pour cX11_pour 5 (some .int) 8 [.ref (g.2.2 0), .int v1] μ (some (.int r.1)) r.2 := by
  rw [X11_pour] at h
  refine Ct.of (by decide) (Nat.le_of_ble_eq_true rfl) ?_
  intro p e s m args below meth c ls hC hw hr hlocks hl
  have hx := hC.1
  have hb := hC.2.1
  have hl : lv_has ls 5 [(0, .ref (g.2.2 0)), (1, .int v1)] := hl
  have B24 : ∀ (k : Nat), ∀ (v2 : Nat) (v3 : Int32) (v4 : Int32) (μ : Mu) (H : Heap) (locs : List Loc) (ls : Array Slot), wd g μ s (Aw g s.heap.size) H locs → lv_has ls 5 [(0, .ref (g.2.2 0)), (2, .ref (g.2.2 v2)), (3, .int v3), (4, .int v4)] → lpF (fun _ _ _ _ => none) (X11_pour_24b n v1) k v2 v3 v4 μ = some (Sum.inl r.1, r.2) → WQ p l e (rmD 8) s m args below meth c g (some (.int r.1)) r.2 H locs (F0 m 24 ls []) := by
    intro k
    induction k with
    | zero =>
      intro v2 v3 v4 μ H locs ls hw hl h
      cases h
    | succ k ih24 =>
      rw [lpF_s]
      generalize lpF (fun _ _ _ _ => none) (X11_pour_24b n v1) k = k24 at ih24 ⊢
      intro v2 v3 v4 μ H locs ls hw hl h
      rw [X11_pour_24b] at h
      obtain ⟨hqv2_24, h⟩ := kd_some h
      refine lv_iload hx hb dX11_pour_24 (lv_at hl 3 rfl) ?_
      refine lv_iload_n hx hb dX11_pour_26 rfl (lv_at hl 2 rfl) ?_
      refine lv_icmp_ge (tgt := 53) hx hb dX11_pour_27 (by decide) (fun hc => ?_) (fun hc => ?_)
      · rw [if_pos hc] at h
        refine lv_iload_n hx hb dX11_pour_53 rfl (lv_at hl 2 rfl) ?_
        exact rI hC hw hr hlocks (by rw [(inlI h).1]) (inlI h).2 dX11_pour_54
      · rw [if_neg hc] at h
        refine lv_aload_n hx hb dX11_pour_30 rfl (lv_at hl 1 rfl) ?_
        refine gR (t := (v2 + 1)) hC hw fl_X11_225 hqv2_24 (by decide) (tr_T hqv2_24) dX11_pour_31 ?_
        refine lv_iload hx hb dX11_pour_34 (lv_at hl 3 rfl) ?_
        refine lv_aload_n hx hb dX11_pour_36 rfl (lv_at hl 0 rfl) ?_
        refine gR (t := 9) hC hw fl_X11_47 ok0 (by decide) ot0_5 dX11_pour_37 ?_
        refine lv_iload hx hb dX11_pour_40 (lv_at hl 3 rfl) ?_
        obtain ⟨r42, hr42, h⟩ := bnd h
        refine cV (b := 9) (As := [.int v4]) (rest := [.int v4, .ref (g.2.2 (v2 + 1))]) (st1 := [.int r42.1, .int v4, .ref (g.2.2 (v2 + 1))]) hC hw (c_X3_moveAt l g n v4 μ r42 hr42) ml_X11_371 im_X3_moveAt se_X3_moveAt ok9 (CN := RX3) (T := TX3) (NF := 5) rfl rfl (by decide) rfl hl.1 ⟨Nat.le_of_ble_eq_true rfl, Nat.le_of_ble_eq_true rfl⟩ (Nat.le_of_ble_eq_true rfl) ⟨Nat.zero_le _, Nat.zero_le _⟩ rfl dX11_pour_42 (fun H locs hw => ?_)
        refine lv_i2l hx hb dX11_pour_45 rfl ?_
        obtain ⟨hi46, h⟩ := gd_some h
        refine sJ (j := v4.toNatClampNeg) hC hw (tr_K hqv2_24) (tr_N hqv2_24) hi46 rfl dX11_pour_46 (fun H locs hw => ?_)
        refine lv_iinc (v := (v4 + (1 : Int32))) (lv' := [(4, .int (v4 + (1 : Int32))), (0, .ref (g.2.2 0)), (2, .ref (g.2.2 v2)), (3, .int v3)]) hx hb dX11_pour_47 hl (k := 3) rfl rfl (by decide) rfl (fun ls hl => ?_)
        refine lv_goto (tgt := 24) hx hb dX11_pour_50 (by decide) ?_
        exact ih24 v2 v3 (v4 + (1 : Int32)) (sj r42.2 (v2 + 1) v4.toNatClampNeg (r42.1.toInt64)) _ _ _ hw (lv_sub hl [1, 2, 3, 0] rfl) h
  refine lv_aload_n hx hb dX11_pour_0 rfl (lv_at hl 0 rfl) ?_
  refine lv_iload_n hx hb dX11_pour_1 rfl (lv_at hl 1 rfl) ?_
  obtain ⟨r2, m2, hr2, h⟩ := thr_rt h
  obtain ⟨hkr2, h⟩ := kd_some h
  refine cV (b := 0) (As := [.int v1]) (rest := []) (st1 := [.ref (g.2.2 r2)]) hC hw (c_X11_laidTray l g n v1 μ (r2, m2) hr2) ml_X11_218 im_X11_laidTray se_X11_laidTray ok0 (CN := RX11) (T := TX11) (NF := 12) rfl rfl (by decide) rfl hl.1 ⟨Nat.le_of_ble_eq_true rfl, Nat.le_of_ble_eq_true rfl⟩ (Nat.le_of_ble_eq_true rfl) ⟨Nat.zero_le _, Nat.zero_le _⟩ rfl dX11_pour_2 (fun H locs hw => ?_)
  refine lv_astore_n (lv' := [(2, .ref (g.2.2 r2)), (0, .ref (g.2.2 0)), (1, .int v1)]) hx hb dX11_pour_5 rfl hl (by decide) rfl (fun ls hl => ?_)
  refine lv_aload_n hx hb dX11_pour_6 rfl (lv_at hl 1 rfl) ?_
  refine gR (t := 9) hC hw fl_X11_47 ok0 (by decide) ot0_5 dX11_pour_7 ?_
  refine gI hC hw fl_X11_197 ok9 (by decide) dX11_pour_10 ?_
  refine lv_aload_n hx hb dX11_pour_13 rfl (lv_at hl 0 rfl) ?_
  refine gI hC hw fl_X11_222 hkr2 (by decide) dX11_pour_14 ?_
  refine va_mmin (rest := []) hx hb (hC.2.2.1.trans hl.1.symm) hC.2.2.2.1 (hC.2.2.2.2.1 _ mm_X11_366) (hC.2.2.2.2.1 _ mw_min.1) (hC.2.2.2.2.1 _ mw_min.2.1) (hC.2.2.2.2.1 _ mw_min.2.2) (Nat.le_of_ble_eq_true rfl) (Nat.le_of_ble_eq_true rfl) (Nat.zero_le _) (Nat.zero_le _) dX11_pour_17 ?_
  refine lv_istore_n (lv' := [(3, .int (if (m2.1 r2 2) < (m2.1 9 0) then (m2.1 r2 2) else (m2.1 9 0))), (2, .ref (g.2.2 r2)), (0, .ref (g.2.2 0)), (1, .int v1)]) hx hb dX11_pour_20 rfl hl (by decide) rfl (fun ls hl => ?_)
  refine lv_iconst (v := (0 : Int32)) hx hb dX11_pour_21 (by decide) ?_
  refine lv_istore (lv' := [(4, .int (0 : Int32)), (3, .int (if (m2.1 r2 2) < (m2.1 9 0) then (m2.1 r2 2) else (m2.1 9 0))), (2, .ref (g.2.2 r2)), (0, .ref (g.2.2 0)), (1, .int v1)]) hx hb dX11_pour_22 hl (by decide) rfl (fun ls hl => ?_)
  exact B24 n r2 (if (m2.1 r2 2) < (m2.1 9 0) then (m2.1 r2 2) else (m2.1 9 0)) (0 : Int32) m2 _ _ _ hw (lv_sub hl [3, 2, 1, 0] rfl) h
set_option maxRecDepth 100000 in
set_option maxHeartbeats 4000000 in
theorem x_X11_pour (l : Launch) (hst : l.stackTraces = false) (g : Gw) (n : Nat) (v1 : Int32) (μ : Mu) (kx : Nat) (μx : Mu) (h : X11_pour n v1 μ = some (Sum.inr kx, μx)) : CtX l g yX11_pour cX11_pour 5 (some .int) 8 [.ref (g.2.2 0), .int v1] μ kx μx := by
  rw [X11_pour] at h
  refine CtX.of (by decide) (Nat.le_of_ble_eq_true rfl) ?_
  intro p e s m args below meth c ls hC hw htab hlocks hl
  have hx := hC.1
  have hb := hC.2.1
  have hl : lv_has ls 5 [(0, .ref (g.2.2 0)), (1, .int v1)] := hl
  have B24 : ∀ (k : Nat), ∀ (v2 : Nat) (v3 : Int32) (v4 : Int32) (μ : Mu) (H : Heap) (locs : List Loc) (ls : Array Slot), wd g μ s (Aw g s.heap.size) H locs → lv_has ls 5 [(0, .ref (g.2.2 0)), (2, .ref (g.2.2 v2)), (3, .int v3), (4, .int v4)] → lpF (fun _ _ _ _ => none) (X11_pour_24b n v1) k v2 v3 v4 μ = some (Sum.inr kx, μx) → WX p l e (rmX 8) s m args below meth c g kx μx H locs (F0 m 24 ls []) := by
    intro k
    induction k with
    | zero =>
      intro v2 v3 v4 μ H locs ls hw hl h
      cases h
    | succ k ih24 =>
      rw [lpF_s]
      generalize lpF (fun _ _ _ _ => none) (X11_pour_24b n v1) k = k24 at ih24 ⊢
      intro v2 v3 v4 μ H locs ls hw hl h
      rw [X11_pour_24b] at h
      obtain ⟨hqv2_24, h⟩ := kd_some h
      refine lv_iload hx hb dX11_pour_24 (lv_at hl 3 rfl) ?_
      refine lv_iload_n hx hb dX11_pour_26 rfl (lv_at hl 2 rfl) ?_
      refine lv_icmp_ge (tgt := 53) hx hb dX11_pour_27 (by decide) (fun hc => ?_) (fun hc => ?_)
      · rw [if_pos hc] at h
        refine lv_iload_n hx hb dX11_pour_53 rfl (lv_at hl 2 rfl) ?_
        cases h
      · rw [if_neg hc] at h
        refine lv_aload_n hx hb dX11_pour_30 rfl (lv_at hl 1 rfl) ?_
        refine gR (t := (v2 + 1)) hC hw fl_X11_225 hqv2_24 (by decide) (tr_T hqv2_24) dX11_pour_31 ?_
        refine lv_iload hx hb dX11_pour_34 (lv_at hl 3 rfl) ?_
        refine lv_aload_n hx hb dX11_pour_36 rfl (lv_at hl 0 rfl) ?_
        refine gR (t := 9) hC hw fl_X11_47 ok0 (by decide) ot0_5 dX11_pour_37 ?_
        refine lv_iload hx hb dX11_pour_40 (lv_at hl 3 rfl) ?_
        obtain ⟨r42, hr42, h⟩ := bnd h
        refine cV (b := 9) (As := [.int v4]) (rest := [.int v4, .ref (g.2.2 (v2 + 1))]) (st1 := [.int r42.1, .int v4, .ref (g.2.2 (v2 + 1))]) hC hw (c_X3_moveAt l g n v4 μ r42 hr42) ml_X11_371 im_X3_moveAt se_X3_moveAt ok9 (CN := RX3) (T := TX3) (NF := 5) rfl rfl (by decide) rfl hl.1 ⟨Nat.le_of_ble_eq_true rfl, Nat.le_of_ble_eq_true rfl⟩ (Nat.le_of_ble_eq_true rfl) ⟨Nat.zero_le _, Nat.zero_le _⟩ rfl dX11_pour_42 (fun H locs hw => ?_)
        refine lv_i2l hx hb dX11_pour_45 rfl ?_
        obtain ⟨hi46, h⟩ := gd_some h
        refine sJ (j := v4.toNatClampNeg) hC hw (tr_K hqv2_24) (tr_N hqv2_24) hi46 rfl dX11_pour_46 (fun H locs hw => ?_)
        refine lv_iinc (v := (v4 + (1 : Int32))) (lv' := [(4, .int (v4 + (1 : Int32))), (0, .ref (g.2.2 0)), (2, .ref (g.2.2 v2)), (3, .int v3)]) hx hb dX11_pour_47 hl (k := 3) rfl rfl (by decide) rfl (fun ls hl => ?_)
        refine lv_goto (tgt := 24) hx hb dX11_pour_50 (by decide) ?_
        exact ih24 v2 v3 (v4 + (1 : Int32)) (sj r42.2 (v2 + 1) v4.toNatClampNeg (r42.1.toInt64)) _ _ _ hw (lv_sub hl [1, 2, 3, 0] rfl) h
  refine lv_aload_n hx hb dX11_pour_0 rfl (lv_at hl 0 rfl) ?_
  refine lv_iload_n hx hb dX11_pour_1 rfl (lv_at hl 1 rfl) ?_
  rcases thr_cs h with ⟨k2x, m2, hr2, h⟩ | ⟨r2, m2, hr2, h⟩
  · rw [(inrI h).1, (inrI h).2] at hr2
    exact cVX (b := 0) (As := [.int v1]) (rest := []) hC hw htab hlocks (x_X11_laidTray l hst g n v1 μ kx μx hr2) ml_X11_218 im_X11_laidTray se_X11_laidTray ok0 (CN := RX11) (T := TX11) (NF := 12) rfl rfl (by decide) rfl hl.1 ⟨Nat.le_of_ble_eq_true rfl, Nat.le_of_ble_eq_true rfl⟩ (Nat.le_of_ble_eq_true rfl) ⟨Nat.le_refl 1, Nat.le_refl 6⟩ dX11_pour_2
  obtain ⟨hkr2, h⟩ := kd_some h
  refine cV (b := 0) (As := [.int v1]) (rest := []) (st1 := [.ref (g.2.2 r2)]) hC hw (c_X11_laidTray l g n v1 μ (r2, m2) hr2) ml_X11_218 im_X11_laidTray se_X11_laidTray ok0 (CN := RX11) (T := TX11) (NF := 12) rfl rfl (by decide) rfl hl.1 ⟨Nat.le_of_ble_eq_true rfl, Nat.le_of_ble_eq_true rfl⟩ (Nat.le_of_ble_eq_true rfl) ⟨Nat.zero_le _, Nat.zero_le _⟩ rfl dX11_pour_2 (fun H locs hw => ?_)
  refine lv_astore_n (lv' := [(2, .ref (g.2.2 r2)), (0, .ref (g.2.2 0)), (1, .int v1)]) hx hb dX11_pour_5 rfl hl (by decide) rfl (fun ls hl => ?_)
  refine lv_aload_n hx hb dX11_pour_6 rfl (lv_at hl 1 rfl) ?_
  refine gR (t := 9) hC hw fl_X11_47 ok0 (by decide) ot0_5 dX11_pour_7 ?_
  refine gI hC hw fl_X11_197 ok9 (by decide) dX11_pour_10 ?_
  refine lv_aload_n hx hb dX11_pour_13 rfl (lv_at hl 0 rfl) ?_
  refine gI hC hw fl_X11_222 hkr2 (by decide) dX11_pour_14 ?_
  refine va_mmin (rest := []) hx hb (hC.2.2.1.trans hl.1.symm) hC.2.2.2.1 (hC.2.2.2.2.1 _ mm_X11_366) (hC.2.2.2.2.1 _ mw_min.1) (hC.2.2.2.2.1 _ mw_min.2.1) (hC.2.2.2.2.1 _ mw_min.2.2) (Nat.le_of_ble_eq_true rfl) (Nat.le_of_ble_eq_true rfl) (Nat.zero_le _) (Nat.zero_le _) dX11_pour_17 ?_
  refine lv_istore_n (lv' := [(3, .int (if (m2.1 r2 2) < (m2.1 9 0) then (m2.1 r2 2) else (m2.1 9 0))), (2, .ref (g.2.2 r2)), (0, .ref (g.2.2 0)), (1, .int v1)]) hx hb dX11_pour_20 rfl hl (by decide) rfl (fun ls hl => ?_)
  refine lv_iconst (v := (0 : Int32)) hx hb dX11_pour_21 (by decide) ?_
  refine lv_istore (lv' := [(4, .int (0 : Int32)), (3, .int (if (m2.1 r2 2) < (m2.1 9 0) then (m2.1 r2 2) else (m2.1 9 0))), (2, .ref (g.2.2 r2)), (0, .ref (g.2.2 0)), (1, .int v1)]) hx hb dX11_pour_22 hl (by decide) rfl (fun ls hl => ?_)
  exact B24 n r2 (if (m2.1 r2 2) < (m2.1 9 0) then (m2.1 r2 2) else (m2.1 9 0)) (0 : Int32) m2 _ _ _ hw (lv_sub hl [3, 2, 1, 0] rfl) h
set_option maxRecDepth 100000 in
set_option maxHeartbeats 4000000 in
theorem c_X11_image (l : Launch) (g : Gw) (n : Nat) (v1 : Int32) (μ : Mu) (r : Unit × Mu) (h : X11_image n v1 μ = some (Sum.inl r.1, r.2)) : Ct l g yX11_image cX11_image 3 none 7 [.ref (g.2.2 0), .int v1] μ none r.2 := by
  rw [X11_image] at h
  refine Ct.of (by decide) (Nat.le_of_ble_eq_true rfl) ?_
  intro p e s m args below meth c ls hC hw hr hlocks hl
  have hx := hC.1
  have hb := hC.2.1
  have hl : lv_has ls 3 [(0, .ref (g.2.2 0)), (1, .int v1)] := hl
  refine lv_aload_n hx hb dX11_image_0 rfl (lv_at hl 0 rfl) ?_
  refine lv_iload_n hx hb dX11_image_1 rfl (lv_at hl 1 rfl) ?_
  obtain ⟨r2, m2, hr2, h⟩ := thr_rt h
  obtain ⟨hkr2, h⟩ := kd_some h
  refine cV (b := 0) (As := [.int v1]) (rest := []) (st1 := [.ref (g.2.2 r2)]) hC hw (c_X11_anyImage l g n v1 μ (r2, m2) hr2) ml_X11_374 im_X11_anyImage se_X11_anyImage ok0 (CN := RX11) (T := TX11) (NF := 12) rfl rfl (by decide) rfl hl.1 ⟨Nat.le_of_ble_eq_true rfl, Nat.le_of_ble_eq_true rfl⟩ (Nat.le_of_ble_eq_true rfl) ⟨Nat.zero_le _, Nat.zero_le _⟩ rfl dX11_image_2 (fun H locs hw => ?_)
  refine lv_astore_n (lv' := [(2, .ref (g.2.2 r2)), (0, .ref (g.2.2 0)), (1, .int v1)]) hx hb dX11_image_5 rfl hl (by decide) rfl (fun ls hl => ?_)
  refine lv_aload_n hx hb dX11_image_6 rfl (lv_at hl 0 rfl) ?_
  refine lv_iconst (v := (1 : Int32)) hx hb dX11_image_7 (by decide) ?_
  refine pZ hC hw fl_X11_378 fp_2_0 hkr2 (Or.inr rfl) dX11_image_8 (fun H locs hw => ?_)
  refine lv_aload_n hx hb dX11_image_11 rfl (lv_at hl 0 rfl) ?_
  refine gR (t := (r2 + 1)) hC hw fl_X11_381 hkr2 (by decide) (im_T1 hkr2) dX11_image_12 ?_
  refine lv_aload_n hx hb dX11_image_15 rfl (lv_at hl 1 rfl) ?_
  refine gR (t := 1) hC hw fl_X11_12 ok0 (by decide) ot0_0 dX11_image_16 ?_
  obtain ⟨r19, hr19, h⟩ := bnd h
  refine cV (b := (r2 + 1)) (As := [.ref (g.2.2 1)]) (rest := []) (st1 := []) hC hw (c_X5_copy l g n (r2 + 1) 1 (si m2 r2 0 (1 : Int32)) r19 hr19) ml_X11_382 im_X5_copy se_X5_copy (im_K1 hkr2) (CN := RX5) (T := TX5) (NF := 9) rfl rfl (by decide) rfl hl.1 ⟨Nat.le_of_ble_eq_true rfl, Nat.le_of_ble_eq_true rfl⟩ (Nat.le_of_ble_eq_true rfl) ⟨Nat.zero_le _, Nat.zero_le _⟩ rfl dX11_image_19 (fun H locs hw => ?_)
  refine lv_aload_n hx hb dX11_image_22 rfl (lv_at hl 0 rfl) ?_
  refine gR (t := (r2 + 2)) hC hw fl_X11_384 hkr2 (by decide) (im_T2 hkr2) dX11_image_23 ?_
  refine lv_aload_n hx hb dX11_image_26 rfl (lv_at hl 1 rfl) ?_
  refine gR (t := 53) hC hw fl_X11_37 ok0 (by decide) ot0_3 dX11_image_27 ?_
  obtain ⟨r30, hr30, h⟩ := bnd h
  refine cV (b := (r2 + 2)) (As := [.ref (g.2.2 53)]) (rest := []) (st1 := []) hC hw (c_X6_copy l g n (r2 + 2) 53 r19.2 r30 hr30) ml_X11_177 im_X6_copy se_X6_copy (im_K2 hkr2) (CN := RX6) (T := TX6) (NF := 2) rfl rfl (by decide) rfl hl.1 ⟨Nat.le_of_ble_eq_true rfl, Nat.le_of_ble_eq_true rfl⟩ (Nat.le_of_ble_eq_true rfl) ⟨Nat.zero_le _, Nat.zero_le _⟩ rfl dX11_image_30 (fun H locs hw => ?_)
  exact rV hC hw hr hlocks rfl (inlI h).2 dX11_image_33
set_option maxRecDepth 100000 in
set_option maxHeartbeats 4000000 in
theorem x_X11_image (l : Launch) (hst : l.stackTraces = false) (g : Gw) (n : Nat) (v1 : Int32) (μ : Mu) (kx : Nat) (μx : Mu) (h : X11_image n v1 μ = some (Sum.inr kx, μx)) : CtX l g yX11_image cX11_image 3 none 7 [.ref (g.2.2 0), .int v1] μ kx μx := by
  rw [X11_image] at h
  refine CtX.of (by decide) (Nat.le_of_ble_eq_true rfl) ?_
  intro p e s m args below meth c ls hC hw htab hlocks hl
  have hx := hC.1
  have hb := hC.2.1
  have hl : lv_has ls 3 [(0, .ref (g.2.2 0)), (1, .int v1)] := hl
  refine lv_aload_n hx hb dX11_image_0 rfl (lv_at hl 0 rfl) ?_
  refine lv_iload_n hx hb dX11_image_1 rfl (lv_at hl 1 rfl) ?_
  rcases thr_cs h with ⟨k2x, m2, hr2, h⟩ | ⟨r2, m2, hr2, h⟩
  · rw [(inrI h).1, (inrI h).2] at hr2
    exact cVX (b := 0) (As := [.int v1]) (rest := []) hC hw htab hlocks (x_X11_anyImage l hst g n v1 μ kx μx hr2) ml_X11_374 im_X11_anyImage se_X11_anyImage ok0 (CN := RX11) (T := TX11) (NF := 12) rfl rfl (by decide) rfl hl.1 ⟨Nat.le_of_ble_eq_true rfl, Nat.le_of_ble_eq_true rfl⟩ (Nat.le_of_ble_eq_true rfl) ⟨Nat.le_refl 1, Nat.le_refl 6⟩ dX11_image_2
  obtain ⟨hkr2, h⟩ := kd_some h
  refine cV (b := 0) (As := [.int v1]) (rest := []) (st1 := [.ref (g.2.2 r2)]) hC hw (c_X11_anyImage l g n v1 μ (r2, m2) hr2) ml_X11_374 im_X11_anyImage se_X11_anyImage ok0 (CN := RX11) (T := TX11) (NF := 12) rfl rfl (by decide) rfl hl.1 ⟨Nat.le_of_ble_eq_true rfl, Nat.le_of_ble_eq_true rfl⟩ (Nat.le_of_ble_eq_true rfl) ⟨Nat.zero_le _, Nat.zero_le _⟩ rfl dX11_image_2 (fun H locs hw => ?_)
  refine lv_astore_n (lv' := [(2, .ref (g.2.2 r2)), (0, .ref (g.2.2 0)), (1, .int v1)]) hx hb dX11_image_5 rfl hl (by decide) rfl (fun ls hl => ?_)
  refine lv_aload_n hx hb dX11_image_6 rfl (lv_at hl 0 rfl) ?_
  refine lv_iconst (v := (1 : Int32)) hx hb dX11_image_7 (by decide) ?_
  refine pZ hC hw fl_X11_378 fp_2_0 hkr2 (Or.inr rfl) dX11_image_8 (fun H locs hw => ?_)
  refine lv_aload_n hx hb dX11_image_11 rfl (lv_at hl 0 rfl) ?_
  refine gR (t := (r2 + 1)) hC hw fl_X11_381 hkr2 (by decide) (im_T1 hkr2) dX11_image_12 ?_
  refine lv_aload_n hx hb dX11_image_15 rfl (lv_at hl 1 rfl) ?_
  refine gR (t := 1) hC hw fl_X11_12 ok0 (by decide) ot0_0 dX11_image_16 ?_
  obtain ⟨r19, hr19, h⟩ := bnd h
  refine cV (b := (r2 + 1)) (As := [.ref (g.2.2 1)]) (rest := []) (st1 := []) hC hw (c_X5_copy l g n (r2 + 1) 1 (si m2 r2 0 (1 : Int32)) r19 hr19) ml_X11_382 im_X5_copy se_X5_copy (im_K1 hkr2) (CN := RX5) (T := TX5) (NF := 9) rfl rfl (by decide) rfl hl.1 ⟨Nat.le_of_ble_eq_true rfl, Nat.le_of_ble_eq_true rfl⟩ (Nat.le_of_ble_eq_true rfl) ⟨Nat.zero_le _, Nat.zero_le _⟩ rfl dX11_image_19 (fun H locs hw => ?_)
  refine lv_aload_n hx hb dX11_image_22 rfl (lv_at hl 0 rfl) ?_
  refine gR (t := (r2 + 2)) hC hw fl_X11_384 hkr2 (by decide) (im_T2 hkr2) dX11_image_23 ?_
  refine lv_aload_n hx hb dX11_image_26 rfl (lv_at hl 1 rfl) ?_
  refine gR (t := 53) hC hw fl_X11_37 ok0 (by decide) ot0_3 dX11_image_27 ?_
  obtain ⟨r30, hr30, h⟩ := bnd h
  refine cV (b := (r2 + 2)) (As := [.ref (g.2.2 53)]) (rest := []) (st1 := []) hC hw (c_X6_copy l g n (r2 + 2) 53 r19.2 r30 hr30) ml_X11_177 im_X6_copy se_X6_copy (im_K2 hkr2) (CN := RX6) (T := TX6) (NF := 2) rfl rfl (by decide) rfl hl.1 ⟨Nat.le_of_ble_eq_true rfl, Nat.le_of_ble_eq_true rfl⟩ (Nat.le_of_ble_eq_true rfl) ⟨Nat.zero_le _, Nat.zero_le _⟩ rfl dX11_image_30 (fun H locs hw => ?_)
  cases h
set_option maxRecDepth 100000 in
set_option maxHeartbeats 4000000 in
theorem c_X11_judge (l : Launch) (g : Gw) (n : Nat) (v1 : Int32) (v2 : Int32) (μ : Mu) (r : Int32 × Mu) (h : X11_judge n v1 v2 μ = some (Sum.inl r.1, r.2)) : Ct l g yX11_judge cX11_judge 7 (some .int) 8 [.ref (g.2.2 0), .int v1, .int v2] μ (some (.int r.1)) r.2 := by
  rw [X11_judge] at h
  refine Ct.of (by decide) (Nat.le_of_ble_eq_true rfl) ?_
  intro p e s m args below meth c ls hC hw hr hlocks hl
  have hx := hC.1
  have hb := hC.2.1
  have hl : lv_has ls 7 [(0, .ref (g.2.2 0)), (1, .int v1), (2, .int v2)] := hl
  have B15 : ∀ (μ : Mu) (H : Heap) (locs : List Loc) (ls : Array Slot), wd g μ s (Aw g s.heap.size) H locs → lv_has ls 7 [] → X11_judge_15 n v1 v2  μ = some (Sum.inl r.1, r.2) → WQ p l e (rmD 8) s m args below meth c g (some (.int r.1)) r.2 H locs (F0 m 15 ls []) := by
    intro μ H locs ls hw hl h
    rw [X11_judge_15] at h
    cases h
  have B118 : ∀ (v4 : Int32) (v5 : Int32) (μ : Mu) (H : Heap) (locs : List Loc) (ls : Array Slot), wd g μ s (Aw g s.heap.size) H locs → lv_has ls 7 [(0, .ref (g.2.2 0)), (2, .int v2), (4, .int v4), (5, .int v5)] → X11_judge_118 n v1 v2 v4 v5 μ = some (Sum.inl r.1, r.2) → WQ p l e (rmD 8) s m args below meth c g (some (.int r.1)) r.2 H locs (F0 m 118 ls []) := by
    intro v4 v5 μ H locs ls hw hl h
    rw [X11_judge_118] at h
    refine lv_iload_n hx hb dX11_judge_118 rfl (lv_at hl 1 rfl) ?_
    by_cases hs119_0 : v2 = (0 : Int32)
    · rw [if_pos hs119_0] at h
      refine lv_tableIn (off := 25) (tgt := 144) hx hb dX11_judge_119 (by rw [hs119_0]; decide) (by rw [hs119_0]; decide) (by rw [hs119_0]; decide) (by decide) ?_
      refine lv_iload hx hb dX11_judge_144 (lv_at hl 2 rfl) ?_
      exact rI hC hw hr hlocks (by rw [(inlI h).1]) (inlI h).2 dX11_judge_146
    rw [if_neg hs119_0] at h
    by_cases hs119_1 : v2 = (1 : Int32)
    · rw [if_pos hs119_1] at h
      refine lv_tableIn (off := 28) (tgt := 147) hx hb dX11_judge_119 (by rw [hs119_1]; decide) (by rw [hs119_1]; decide) (by rw [hs119_1]; decide) (by decide) ?_
      refine lv_iload hx hb dX11_judge_147 (lv_at hl 3 rfl) ?_
      exact rI hC hw hr hlocks (by rw [(inlI h).1]) (inlI h).2 dX11_judge_149
    rw [if_neg hs119_1] at h
    by_cases hs119_2 : v2 = (2 : Int32)
    · rw [if_pos hs119_2] at h
      refine lv_tableIn (off := 31) (tgt := 150) hx hb dX11_judge_119 (by rw [hs119_2]; decide) (by rw [hs119_2]; decide) (by rw [hs119_2]; decide) (by decide) ?_
      refine lv_aload_n hx hb dX11_judge_150 rfl (lv_at hl 0 rfl) ?_
      refine gR (t := 6) hC hw fl_X11_30 ok0 (by decide) ot0_2 dX11_judge_151 ?_
      refine lv_aload_n hx hb dX11_judge_154 rfl (lv_at hl 0 rfl) ?_
      refine gR (t := 55) hC hw fl_X11_41 ok0 (by decide) ot0_4 dX11_judge_155 ?_
      obtain ⟨r158, hr158, h⟩ := bnd h
      refine cV (b := 6) (As := [.ref (g.2.2 55)]) (rest := []) (st1 := [.int r158.1]) hC hw (c_X8_scoreOf l g n 55 μ r158 hr158) ml_X11_214 im_X8_scoreOf se_X8_scoreOf ok6 (CN := RX8) (T := TX8) (NF := 8) rfl rfl (by decide) rfl hl.1 ⟨Nat.le_of_ble_eq_true rfl, Nat.le_of_ble_eq_true rfl⟩ (Nat.le_of_ble_eq_true rfl) ⟨Nat.zero_le _, Nat.zero_le _⟩ rfl dX11_judge_158 (fun H locs hw => ?_)
      exact rI hC hw hr hlocks (by rw [(inlI h).1]) (inlI h).2 dX11_judge_161
    rw [if_neg hs119_2] at h
    have ht0 := lv_neT (a := 0) hs119_0 (by decide)
    have ht1 := lv_neT (a := 1) hs119_1 (by decide)
    have ht2 := lv_neT (a := 2) hs119_2 (by decide)
    refine lv_tableOut (tgt := 162) hx hb dX11_judge_119 (by omega) (by decide) ?_
    refine lv_aload_n hx hb dX11_judge_162 rfl (lv_at hl 0 rfl) ?_
    refine gR (t := 55) hC hw fl_X11_41 ok0 (by decide) ot0_4 dX11_judge_163 ?_
    refine gI hC hw fl_X11_153 ok55 (by decide) dX11_judge_166 ?_
    exact rI hC hw hr hlocks (by rw [(inlI h).1]) (inlI h).2 dX11_judge_169
  have B45 : ∀ (k : Nat), ∀ (v3 : Nat) (v4 : Int32) (v5 : Int32) (v6 : Int32) (μ : Mu) (H : Heap) (locs : List Loc) (ls : Array Slot), wd g μ s (Aw g s.heap.size) H locs → lv_has ls 7 [(0, .ref (g.2.2 0)), (2, .int v2), (3, .ref (g.2.2 v3)), (4, .int v4), (5, .int v5), (6, .int v6)] → lpF (fun _ _ _ _ _ => none) (X11_judge_45b n v1 v2) k v3 v4 v5 v6 μ = some (Sum.inl r.1, r.2) → WQ p l e (rmD 8) s m args below meth c g (some (.int r.1)) r.2 H locs (F0 m 45 ls []) := by
    intro k
    induction k with
    | zero =>
      intro v3 v4 v5 v6 μ H locs ls hw hl h
      cases h
    | succ k ih45 =>
      rw [lpF_s]
      generalize lpF (fun _ _ _ _ _ => none) (X11_judge_45b n v1 v2) k = k45 at ih45 ⊢
      intro v3 v4 v5 v6 μ H locs ls hw hl h
      have B112 : ∀ (v3 : Nat) (v4 : Int32) (v5 : Int32) (v6 : Int32) (μ : Mu) (H : Heap) (locs : List Loc) (ls : Array Slot), wd g μ s (Aw g s.heap.size) H locs → lv_has ls 7 [(0, .ref (g.2.2 0)), (2, .int v2), (3, .ref (g.2.2 v3)), (4, .int v4), (5, .int v5), (6, .int v6)] → X11_judge_112 n v1 v2 k45 v3 v4 v5 v6 μ = some (Sum.inl r.1, r.2) → WQ p l e (rmD 8) s m args below meth c g (some (.int r.1)) r.2 H locs (F0 m 112 ls []) := by
        intro v3 v4 v5 v6 μ H locs ls hw hl h
        rw [X11_judge_112] at h
        obtain ⟨hqv3_112, h⟩ := kd_some h
        refine lv_iinc (v := (v6 + (1 : Int32))) (lv' := [(6, .int (v6 + (1 : Int32))), (0, .ref (g.2.2 0)), (2, .int v2), (3, .ref (g.2.2 v3)), (4, .int v4), (5, .int v5)]) hx hb dX11_judge_112 hl (k := 5) rfl rfl (by decide) rfl (fun ls hl => ?_)
        refine lv_goto (tgt := 45) hx hb dX11_judge_115 (by decide) ?_
        exact ih45 v3 v4 v5 (v6 + (1 : Int32)) μ _ _ _ hw (lv_sub hl [1, 2, 3, 4, 5, 0] rfl) h
      rw [X11_judge_45b] at h
      obtain ⟨hqv3_45, h⟩ := kd_some h
      refine lv_iload hx hb dX11_judge_45 (lv_at hl 5 rfl) ?_
      refine lv_aload_n hx hb dX11_judge_47 rfl (lv_at hl 2 rfl) ?_
      refine gI hC hw fl_X11_222 hqv3_45 (by decide) dX11_judge_48 ?_
      refine lv_icmp_ge (tgt := 118) hx hb dX11_judge_51 (by decide) (fun hc => ?_) (fun hc => ?_)
      · rw [if_pos hc] at h
        exact B118 v4 v5 μ _ _ _ hw (lv_sub hl [0, 1, 3, 4] rfl) h
      · rw [if_neg hc] at h
        refine lv_iload hx hb dX11_judge_54 (lv_at hl 3 rfl) ?_
        refine lv_iconst (v := ((-1) : Int32)) hx hb dX11_judge_56 (by decide) ?_
        refine lv_icmp_ne (tgt := 118) hx hb dX11_judge_57 (by decide) (fun hc => ?_) (fun hc => ?_)
        · rw [if_neg hc] at h
          exact B118 v4 v5 μ _ _ _ hw (lv_sub hl [0, 1, 3, 4] rfl) h
        · rw [if_pos hc] at h
          refine lv_aload_n hx hb dX11_judge_60 rfl (lv_at hl 0 rfl) ?_
          refine gR (t := 6) hC hw fl_X11_30 ok0 (by decide) ot0_2 dX11_judge_61 ?_
          refine lv_aload_n hx hb dX11_judge_64 rfl (lv_at hl 0 rfl) ?_
          refine gR (t := 55) hC hw fl_X11_41 ok0 (by decide) ot0_4 dX11_judge_65 ?_
          refine lv_aload_n hx hb dX11_judge_68 rfl (lv_at hl 2 rfl) ?_
          refine gR (t := (v3 + 1)) hC hw fl_X11_225 hqv3_45 (by decide) (tr_T hqv3_45) dX11_judge_69 ?_
          refine lv_iload hx hb dX11_judge_72 (lv_at hl 5 rfl) ?_
          obtain ⟨hi74, h⟩ := gd_some h
          refine lJ (j := v6.toNatClampNeg) hC hw (tr_K hqv3_45) (tr_N hqv3_45) hi74 rfl dX11_judge_74 ?_
          obtain ⟨r75, hr75, h⟩ := bnd h
          refine cV (b := 6) (As := [.ref (g.2.2 55), .long (μ.2 (v3 + 1) v6.toNatClampNeg)]) (rest := []) (st1 := [.int r75.1]) hC hw (c_X8_reason l g n 55 (μ.2 (v3 + 1) v6.toNatClampNeg) μ r75 hr75) ml_X11_156 im_X8_reason se_X8_reason ok6 (CN := RX8) (T := TX8) (NF := 8) rfl rfl (by decide) rfl hl.1 ⟨Nat.le_of_ble_eq_true rfl, Nat.le_of_ble_eq_true rfl⟩ (Nat.le_of_ble_eq_true rfl) ⟨Nat.zero_le _, Nat.zero_le _⟩ rfl dX11_judge_75 (fun H locs hw => ?_)
          refine lv_istore (lv' := [(5, .int r75.1), (0, .ref (g.2.2 0)), (2, .int v2), (3, .ref (g.2.2 v3)), (4, .int v4), (6, .int v6)]) hx hb dX11_judge_78 hl (by decide) rfl (fun ls hl => ?_)
          refine lv_iload hx hb dX11_judge_80 (lv_at hl 0 rfl) ?_
          refine lv_if_ne (tgt := 108) hx hb dX11_judge_82 (by decide) (fun hc => ?_) (fun hc => ?_)
          · rw [if_neg hc] at h
            refine lv_iload hx hb dX11_judge_108 (lv_at hl 5 rfl) ?_
            refine lv_istore (lv' := [(4, .int v6), (5, .int r75.1), (0, .ref (g.2.2 0)), (2, .int v2), (3, .ref (g.2.2 v3)), (6, .int v6)]) hx hb dX11_judge_110 hl (by decide) rfl (fun ls hl => ?_)
            exact B112 v3 v6 r75.1 v6 r75.2 _ _ _ hw (lv_sub hl [2, 3, 4, 0, 1, 5] rfl) h
          · rw [if_pos hc] at h
            refine lv_aload_n hx hb dX11_judge_85 rfl (lv_at hl 1 rfl) ?_
            refine gR (t := 6) hC hw fl_X11_30 ok0 (by decide) ot0_2 dX11_judge_86 ?_
            refine lv_aload_n hx hb dX11_judge_89 rfl (lv_at hl 1 rfl) ?_
            refine gR (t := 55) hC hw fl_X11_41 ok0 (by decide) ot0_4 dX11_judge_90 ?_
            refine lv_aload_n hx hb dX11_judge_93 rfl (lv_at hl 3 rfl) ?_
            refine gR (t := (v3 + 1)) hC hw fl_X11_225 hqv3_45 (by decide) (tr_T hqv3_45) dX11_judge_94 ?_
            refine lv_iload hx hb dX11_judge_97 (lv_at hl 5 rfl) ?_
            refine lJ (j := v6.toNatClampNeg) hC hw (tr_K hqv3_45) (tr_N hqv3_45) hi74 rfl dX11_judge_99 ?_
            refine lv_l2i hx hb dX11_judge_100 rfl ?_
            obtain ⟨r101, hr101, h⟩ := bnd h
            refine cV (b := 6) (As := [.ref (g.2.2 55), .int ((r75.2.2 (v3 + 1) v6.toNatClampNeg).toInt32)]) (rest := []) (st1 := [.int r101.1]) hC hw (c_X8_sow l g n 55 ((r75.2.2 (v3 + 1) v6.toNatClampNeg).toInt32) r75.2 r101 hr101) ml_X11_164 im_X8_sow se_X8_sow ok6 (CN := RX8) (T := TX8) (NF := 8) rfl rfl (by decide) rfl hl.1 ⟨Nat.le_of_ble_eq_true rfl, Nat.le_of_ble_eq_true rfl⟩ (Nat.le_of_ble_eq_true rfl) ⟨Nat.zero_le _, Nat.zero_le _⟩ rfl dX11_judge_101 (fun H locs hw => ?_)
            refine lv_pop hx hb dX11_judge_104 rfl ?_
            refine lv_goto (tgt := 112) hx hb dX11_judge_105 (by decide) ?_
            exact B112 v3 v4 r75.1 v6 r101.2 _ _ _ hw (lv_sub hl [1, 2, 3, 4, 0, 5] rfl) h
  refine lv_aload_n hx hb dX11_judge_0 rfl (lv_at hl 0 rfl) ?_
  refine lv_iload_n hx hb dX11_judge_1 rfl (lv_at hl 1 rfl) ?_
  obtain ⟨r2, m2, hr2, h⟩ := thr_rt h
  obtain ⟨hkr2, h⟩ := kd_some h
  refine cV (b := 0) (As := [.int v1]) (rest := []) (st1 := [.ref (g.2.2 r2)]) hC hw (c_X11_laidTray l g n v1 μ (r2, m2) hr2) ml_X11_218 im_X11_laidTray se_X11_laidTray ok0 (CN := RX11) (T := TX11) (NF := 12) rfl rfl (by decide) rfl hl.1 ⟨Nat.le_of_ble_eq_true rfl, Nat.le_of_ble_eq_true rfl⟩ (Nat.le_of_ble_eq_true rfl) ⟨Nat.zero_le _, Nat.zero_le _⟩ rfl dX11_judge_2 (fun H locs hw => ?_)
  refine lv_astore_n (lv' := [(3, .ref (g.2.2 r2)), (0, .ref (g.2.2 0)), (1, .int v1), (2, .int v2)]) hx hb dX11_judge_5 rfl hl (by decide) rfl (fun ls hl => ?_)
  refine lv_iload_n hx hb dX11_judge_6 rfl (lv_at hl 3 rfl) ?_
  refine lv_if_lt (tgt := 15) hx hb dX11_judge_7 (by decide) (fun hc => ?_) (fun hc => ?_)
  · rw [if_pos hc] at h
    exact B15 m2 _ _ _ hw (lv_sub hl [] rfl) h
  · rw [if_neg hc] at h
    refine lv_iload_n hx hb dX11_judge_10 rfl (lv_at hl 3 rfl) ?_
    refine lv_iconst (v := (3 : Int32)) hx hb dX11_judge_11 (by decide) ?_
    refine lv_icmp_le (tgt := 25) hx hb dX11_judge_12 (by decide) (fun hc => ?_) (fun hc => ?_)
    · rw [if_pos hc] at h
      refine lv_aload_n hx hb dX11_judge_25 rfl (lv_at hl 1 rfl) ?_
      refine gR (t := 55) hC hw fl_X11_41 ok0 (by decide) ot0_4 dX11_judge_26 ?_
      refine lv_aload_n hx hb dX11_judge_29 rfl (lv_at hl 1 rfl) ?_
      refine gR (t := 53) hC hw fl_X11_37 ok0 (by decide) ot0_3 dX11_judge_30 ?_
      obtain ⟨r33, hr33, h⟩ := bnd h
      refine cV (b := 55) (As := [.ref (g.2.2 53)]) (rest := []) (st1 := []) hC hw (c_X6_copy l g n 55 53 m2 r33 hr33) ml_X11_177 im_X6_copy se_X6_copy ok55 (CN := RX6) (T := TX6) (NF := 2) rfl rfl (by decide) rfl hl.1 ⟨Nat.le_of_ble_eq_true rfl, Nat.le_of_ble_eq_true rfl⟩ (Nat.le_of_ble_eq_true rfl) ⟨Nat.zero_le _, Nat.zero_le _⟩ rfl dX11_judge_33 (fun H locs hw => ?_)
      refine lv_iconst (v := ((-1) : Int32)) hx hb dX11_judge_36 (by decide) ?_
      refine lv_istore (lv' := [(4, .int ((-1) : Int32)), (3, .ref (g.2.2 r2)), (0, .ref (g.2.2 0)), (1, .int v1), (2, .int v2)]) hx hb dX11_judge_37 hl (by decide) rfl (fun ls hl => ?_)
      refine lv_iconst (v := (0 : Int32)) hx hb dX11_judge_39 (by decide) ?_
      refine lv_istore (lv' := [(5, .int (0 : Int32)), (4, .int ((-1) : Int32)), (3, .ref (g.2.2 r2)), (0, .ref (g.2.2 0)), (1, .int v1), (2, .int v2)]) hx hb dX11_judge_40 hl (by decide) rfl (fun ls hl => ?_)
      refine lv_iconst (v := (0 : Int32)) hx hb dX11_judge_42 (by decide) ?_
      refine lv_istore (lv' := [(6, .int (0 : Int32)), (5, .int (0 : Int32)), (4, .int ((-1) : Int32)), (3, .ref (g.2.2 r2)), (0, .ref (g.2.2 0)), (1, .int v1), (2, .int v2)]) hx hb dX11_judge_43 hl (by decide) rfl (fun ls hl => ?_)
      exact B45 n r2 ((-1) : Int32) (0 : Int32) (0 : Int32) r33.2 _ _ _ hw (lv_sub hl [4, 6, 3, 2, 1, 0] rfl) h
    · rw [if_neg hc] at h
      exact B15 m2 _ _ _ hw (lv_sub hl [] rfl) h
set_option maxRecDepth 100000 in
set_option maxHeartbeats 4000000 in
theorem x_X11_judge (l : Launch) (hst : l.stackTraces = false) (g : Gw) (n : Nat) (v1 : Int32) (v2 : Int32) (μ : Mu) (kx : Nat) (μx : Mu) (h : X11_judge n v1 v2 μ = some (Sum.inr kx, μx)) : CtX l g yX11_judge cX11_judge 7 (some .int) 8 [.ref (g.2.2 0), .int v1, .int v2] μ kx μx := by
  rw [X11_judge] at h
  refine CtX.of (by decide) (Nat.le_of_ble_eq_true rfl) ?_
  intro p e s m args below meth c ls hC hw htab hlocks hl
  have hx := hC.1
  have hb := hC.2.1
  have hl : lv_has ls 7 [(0, .ref (g.2.2 0)), (1, .int v1), (2, .int v2)] := hl
  have B15 : ∀ (μ : Mu) (H : Heap) (locs : List Loc) (ls : Array Slot), wd g μ s (Aw g s.heap.size) H locs → lv_has ls 7 [] → X11_judge_15 n v1 v2  μ = some (Sum.inr kx, μx) → WX p l e (rmX 8) s m args below meth c g kx μx H locs (F0 m 15 ls []) := by
    intro μ H locs ls hw hl h
    rw [X11_judge_15] at h
    exact thS (rest := []) hC hw hst 20 (by decide) rfl rfl xft1 xnm xcl1 xin1 xat1 hl.1 htab hlocks (by rw [← (inrI h).1]; rfl) (inrI h).2 (Nat.le_of_ble_eq_true rfl) (Nat.le_of_ble_eq_true rfl) dX11_judge_15 dX11_judge_18 dX11_judge_19 dX11_judge_21 dX11_judge_24
  have B118 : ∀ (v4 : Int32) (v5 : Int32) (μ : Mu) (H : Heap) (locs : List Loc) (ls : Array Slot), wd g μ s (Aw g s.heap.size) H locs → lv_has ls 7 [(0, .ref (g.2.2 0)), (2, .int v2), (4, .int v4), (5, .int v5)] → X11_judge_118 n v1 v2 v4 v5 μ = some (Sum.inr kx, μx) → WX p l e (rmX 8) s m args below meth c g kx μx H locs (F0 m 118 ls []) := by
    intro v4 v5 μ H locs ls hw hl h
    rw [X11_judge_118] at h
    refine lv_iload_n hx hb dX11_judge_118 rfl (lv_at hl 1 rfl) ?_
    by_cases hs119_0 : v2 = (0 : Int32)
    · rw [if_pos hs119_0] at h
      refine lv_tableIn (off := 25) (tgt := 144) hx hb dX11_judge_119 (by rw [hs119_0]; decide) (by rw [hs119_0]; decide) (by rw [hs119_0]; decide) (by decide) ?_
      refine lv_iload hx hb dX11_judge_144 (lv_at hl 2 rfl) ?_
      cases h
    rw [if_neg hs119_0] at h
    by_cases hs119_1 : v2 = (1 : Int32)
    · rw [if_pos hs119_1] at h
      refine lv_tableIn (off := 28) (tgt := 147) hx hb dX11_judge_119 (by rw [hs119_1]; decide) (by rw [hs119_1]; decide) (by rw [hs119_1]; decide) (by decide) ?_
      refine lv_iload hx hb dX11_judge_147 (lv_at hl 3 rfl) ?_
      cases h
    rw [if_neg hs119_1] at h
    by_cases hs119_2 : v2 = (2 : Int32)
    · rw [if_pos hs119_2] at h
      refine lv_tableIn (off := 31) (tgt := 150) hx hb dX11_judge_119 (by rw [hs119_2]; decide) (by rw [hs119_2]; decide) (by rw [hs119_2]; decide) (by decide) ?_
      refine lv_aload_n hx hb dX11_judge_150 rfl (lv_at hl 0 rfl) ?_
      refine gR (t := 6) hC hw fl_X11_30 ok0 (by decide) ot0_2 dX11_judge_151 ?_
      refine lv_aload_n hx hb dX11_judge_154 rfl (lv_at hl 0 rfl) ?_
      refine gR (t := 55) hC hw fl_X11_41 ok0 (by decide) ot0_4 dX11_judge_155 ?_
      obtain ⟨r158, hr158, h⟩ := bnd h
      refine cV (b := 6) (As := [.ref (g.2.2 55)]) (rest := []) (st1 := [.int r158.1]) hC hw (c_X8_scoreOf l g n 55 μ r158 hr158) ml_X11_214 im_X8_scoreOf se_X8_scoreOf ok6 (CN := RX8) (T := TX8) (NF := 8) rfl rfl (by decide) rfl hl.1 ⟨Nat.le_of_ble_eq_true rfl, Nat.le_of_ble_eq_true rfl⟩ (Nat.le_of_ble_eq_true rfl) ⟨Nat.zero_le _, Nat.zero_le _⟩ rfl dX11_judge_158 (fun H locs hw => ?_)
      cases h
    rw [if_neg hs119_2] at h
    have ht0 := lv_neT (a := 0) hs119_0 (by decide)
    have ht1 := lv_neT (a := 1) hs119_1 (by decide)
    have ht2 := lv_neT (a := 2) hs119_2 (by decide)
    refine lv_tableOut (tgt := 162) hx hb dX11_judge_119 (by omega) (by decide) ?_
    refine lv_aload_n hx hb dX11_judge_162 rfl (lv_at hl 0 rfl) ?_
    refine gR (t := 55) hC hw fl_X11_41 ok0 (by decide) ot0_4 dX11_judge_163 ?_
    refine gI hC hw fl_X11_153 ok55 (by decide) dX11_judge_166 ?_
    cases h
  have B45 : ∀ (k : Nat), ∀ (v3 : Nat) (v4 : Int32) (v5 : Int32) (v6 : Int32) (μ : Mu) (H : Heap) (locs : List Loc) (ls : Array Slot), wd g μ s (Aw g s.heap.size) H locs → lv_has ls 7 [(0, .ref (g.2.2 0)), (2, .int v2), (3, .ref (g.2.2 v3)), (4, .int v4), (5, .int v5), (6, .int v6)] → lpF (fun _ _ _ _ _ => none) (X11_judge_45b n v1 v2) k v3 v4 v5 v6 μ = some (Sum.inr kx, μx) → WX p l e (rmX 8) s m args below meth c g kx μx H locs (F0 m 45 ls []) := by
    intro k
    induction k with
    | zero =>
      intro v3 v4 v5 v6 μ H locs ls hw hl h
      cases h
    | succ k ih45 =>
      rw [lpF_s]
      generalize lpF (fun _ _ _ _ _ => none) (X11_judge_45b n v1 v2) k = k45 at ih45 ⊢
      intro v3 v4 v5 v6 μ H locs ls hw hl h
      have B112 : ∀ (v3 : Nat) (v4 : Int32) (v5 : Int32) (v6 : Int32) (μ : Mu) (H : Heap) (locs : List Loc) (ls : Array Slot), wd g μ s (Aw g s.heap.size) H locs → lv_has ls 7 [(0, .ref (g.2.2 0)), (2, .int v2), (3, .ref (g.2.2 v3)), (4, .int v4), (5, .int v5), (6, .int v6)] → X11_judge_112 n v1 v2 k45 v3 v4 v5 v6 μ = some (Sum.inr kx, μx) → WX p l e (rmX 8) s m args below meth c g kx μx H locs (F0 m 112 ls []) := by
        intro v3 v4 v5 v6 μ H locs ls hw hl h
        rw [X11_judge_112] at h
        obtain ⟨hqv3_112, h⟩ := kd_some h
        refine lv_iinc (v := (v6 + (1 : Int32))) (lv' := [(6, .int (v6 + (1 : Int32))), (0, .ref (g.2.2 0)), (2, .int v2), (3, .ref (g.2.2 v3)), (4, .int v4), (5, .int v5)]) hx hb dX11_judge_112 hl (k := 5) rfl rfl (by decide) rfl (fun ls hl => ?_)
        refine lv_goto (tgt := 45) hx hb dX11_judge_115 (by decide) ?_
        exact ih45 v3 v4 v5 (v6 + (1 : Int32)) μ _ _ _ hw (lv_sub hl [1, 2, 3, 4, 5, 0] rfl) h
      rw [X11_judge_45b] at h
      obtain ⟨hqv3_45, h⟩ := kd_some h
      refine lv_iload hx hb dX11_judge_45 (lv_at hl 5 rfl) ?_
      refine lv_aload_n hx hb dX11_judge_47 rfl (lv_at hl 2 rfl) ?_
      refine gI hC hw fl_X11_222 hqv3_45 (by decide) dX11_judge_48 ?_
      refine lv_icmp_ge (tgt := 118) hx hb dX11_judge_51 (by decide) (fun hc => ?_) (fun hc => ?_)
      · rw [if_pos hc] at h
        exact B118 v4 v5 μ _ _ _ hw (lv_sub hl [0, 1, 3, 4] rfl) h
      · rw [if_neg hc] at h
        refine lv_iload hx hb dX11_judge_54 (lv_at hl 3 rfl) ?_
        refine lv_iconst (v := ((-1) : Int32)) hx hb dX11_judge_56 (by decide) ?_
        refine lv_icmp_ne (tgt := 118) hx hb dX11_judge_57 (by decide) (fun hc => ?_) (fun hc => ?_)
        · rw [if_neg hc] at h
          exact B118 v4 v5 μ _ _ _ hw (lv_sub hl [0, 1, 3, 4] rfl) h
        · rw [if_pos hc] at h
          refine lv_aload_n hx hb dX11_judge_60 rfl (lv_at hl 0 rfl) ?_
          refine gR (t := 6) hC hw fl_X11_30 ok0 (by decide) ot0_2 dX11_judge_61 ?_
          refine lv_aload_n hx hb dX11_judge_64 rfl (lv_at hl 0 rfl) ?_
          refine gR (t := 55) hC hw fl_X11_41 ok0 (by decide) ot0_4 dX11_judge_65 ?_
          refine lv_aload_n hx hb dX11_judge_68 rfl (lv_at hl 2 rfl) ?_
          refine gR (t := (v3 + 1)) hC hw fl_X11_225 hqv3_45 (by decide) (tr_T hqv3_45) dX11_judge_69 ?_
          refine lv_iload hx hb dX11_judge_72 (lv_at hl 5 rfl) ?_
          obtain ⟨hi74, h⟩ := gd_some h
          refine lJ (j := v6.toNatClampNeg) hC hw (tr_K hqv3_45) (tr_N hqv3_45) hi74 rfl dX11_judge_74 ?_
          obtain ⟨r75, hr75, h⟩ := bnd h
          refine cV (b := 6) (As := [.ref (g.2.2 55), .long (μ.2 (v3 + 1) v6.toNatClampNeg)]) (rest := []) (st1 := [.int r75.1]) hC hw (c_X8_reason l g n 55 (μ.2 (v3 + 1) v6.toNatClampNeg) μ r75 hr75) ml_X11_156 im_X8_reason se_X8_reason ok6 (CN := RX8) (T := TX8) (NF := 8) rfl rfl (by decide) rfl hl.1 ⟨Nat.le_of_ble_eq_true rfl, Nat.le_of_ble_eq_true rfl⟩ (Nat.le_of_ble_eq_true rfl) ⟨Nat.zero_le _, Nat.zero_le _⟩ rfl dX11_judge_75 (fun H locs hw => ?_)
          refine lv_istore (lv' := [(5, .int r75.1), (0, .ref (g.2.2 0)), (2, .int v2), (3, .ref (g.2.2 v3)), (4, .int v4), (6, .int v6)]) hx hb dX11_judge_78 hl (by decide) rfl (fun ls hl => ?_)
          refine lv_iload hx hb dX11_judge_80 (lv_at hl 0 rfl) ?_
          refine lv_if_ne (tgt := 108) hx hb dX11_judge_82 (by decide) (fun hc => ?_) (fun hc => ?_)
          · rw [if_neg hc] at h
            refine lv_iload hx hb dX11_judge_108 (lv_at hl 5 rfl) ?_
            refine lv_istore (lv' := [(4, .int v6), (5, .int r75.1), (0, .ref (g.2.2 0)), (2, .int v2), (3, .ref (g.2.2 v3)), (6, .int v6)]) hx hb dX11_judge_110 hl (by decide) rfl (fun ls hl => ?_)
            exact B112 v3 v6 r75.1 v6 r75.2 _ _ _ hw (lv_sub hl [2, 3, 4, 0, 1, 5] rfl) h
          · rw [if_pos hc] at h
            refine lv_aload_n hx hb dX11_judge_85 rfl (lv_at hl 1 rfl) ?_
            refine gR (t := 6) hC hw fl_X11_30 ok0 (by decide) ot0_2 dX11_judge_86 ?_
            refine lv_aload_n hx hb dX11_judge_89 rfl (lv_at hl 1 rfl) ?_
            refine gR (t := 55) hC hw fl_X11_41 ok0 (by decide) ot0_4 dX11_judge_90 ?_
            refine lv_aload_n hx hb dX11_judge_93 rfl (lv_at hl 3 rfl) ?_
            refine gR (t := (v3 + 1)) hC hw fl_X11_225 hqv3_45 (by decide) (tr_T hqv3_45) dX11_judge_94 ?_
            refine lv_iload hx hb dX11_judge_97 (lv_at hl 5 rfl) ?_
            refine lJ (j := v6.toNatClampNeg) hC hw (tr_K hqv3_45) (tr_N hqv3_45) hi74 rfl dX11_judge_99 ?_
            refine lv_l2i hx hb dX11_judge_100 rfl ?_
            obtain ⟨r101, hr101, h⟩ := bnd h
            refine cV (b := 6) (As := [.ref (g.2.2 55), .int ((r75.2.2 (v3 + 1) v6.toNatClampNeg).toInt32)]) (rest := []) (st1 := [.int r101.1]) hC hw (c_X8_sow l g n 55 ((r75.2.2 (v3 + 1) v6.toNatClampNeg).toInt32) r75.2 r101 hr101) ml_X11_164 im_X8_sow se_X8_sow ok6 (CN := RX8) (T := TX8) (NF := 8) rfl rfl (by decide) rfl hl.1 ⟨Nat.le_of_ble_eq_true rfl, Nat.le_of_ble_eq_true rfl⟩ (Nat.le_of_ble_eq_true rfl) ⟨Nat.zero_le _, Nat.zero_le _⟩ rfl dX11_judge_101 (fun H locs hw => ?_)
            refine lv_pop hx hb dX11_judge_104 rfl ?_
            refine lv_goto (tgt := 112) hx hb dX11_judge_105 (by decide) ?_
            exact B112 v3 v4 r75.1 v6 r101.2 _ _ _ hw (lv_sub hl [1, 2, 3, 4, 0, 5] rfl) h
  refine lv_aload_n hx hb dX11_judge_0 rfl (lv_at hl 0 rfl) ?_
  refine lv_iload_n hx hb dX11_judge_1 rfl (lv_at hl 1 rfl) ?_
  rcases thr_cs h with ⟨k2x, m2, hr2, h⟩ | ⟨r2, m2, hr2, h⟩
  · rw [(inrI h).1, (inrI h).2] at hr2
    exact cVX (b := 0) (As := [.int v1]) (rest := []) hC hw htab hlocks (x_X11_laidTray l hst g n v1 μ kx μx hr2) ml_X11_218 im_X11_laidTray se_X11_laidTray ok0 (CN := RX11) (T := TX11) (NF := 12) rfl rfl (by decide) rfl hl.1 ⟨Nat.le_of_ble_eq_true rfl, Nat.le_of_ble_eq_true rfl⟩ (Nat.le_of_ble_eq_true rfl) ⟨Nat.le_refl 1, Nat.le_refl 6⟩ dX11_judge_2
  obtain ⟨hkr2, h⟩ := kd_some h
  refine cV (b := 0) (As := [.int v1]) (rest := []) (st1 := [.ref (g.2.2 r2)]) hC hw (c_X11_laidTray l g n v1 μ (r2, m2) hr2) ml_X11_218 im_X11_laidTray se_X11_laidTray ok0 (CN := RX11) (T := TX11) (NF := 12) rfl rfl (by decide) rfl hl.1 ⟨Nat.le_of_ble_eq_true rfl, Nat.le_of_ble_eq_true rfl⟩ (Nat.le_of_ble_eq_true rfl) ⟨Nat.zero_le _, Nat.zero_le _⟩ rfl dX11_judge_2 (fun H locs hw => ?_)
  refine lv_astore_n (lv' := [(3, .ref (g.2.2 r2)), (0, .ref (g.2.2 0)), (1, .int v1), (2, .int v2)]) hx hb dX11_judge_5 rfl hl (by decide) rfl (fun ls hl => ?_)
  refine lv_iload_n hx hb dX11_judge_6 rfl (lv_at hl 3 rfl) ?_
  refine lv_if_lt (tgt := 15) hx hb dX11_judge_7 (by decide) (fun hc => ?_) (fun hc => ?_)
  · rw [if_pos hc] at h
    exact B15 m2 _ _ _ hw (lv_sub hl [] rfl) h
  · rw [if_neg hc] at h
    refine lv_iload_n hx hb dX11_judge_10 rfl (lv_at hl 3 rfl) ?_
    refine lv_iconst (v := (3 : Int32)) hx hb dX11_judge_11 (by decide) ?_
    refine lv_icmp_le (tgt := 25) hx hb dX11_judge_12 (by decide) (fun hc => ?_) (fun hc => ?_)
    · rw [if_pos hc] at h
      refine lv_aload_n hx hb dX11_judge_25 rfl (lv_at hl 1 rfl) ?_
      refine gR (t := 55) hC hw fl_X11_41 ok0 (by decide) ot0_4 dX11_judge_26 ?_
      refine lv_aload_n hx hb dX11_judge_29 rfl (lv_at hl 1 rfl) ?_
      refine gR (t := 53) hC hw fl_X11_37 ok0 (by decide) ot0_3 dX11_judge_30 ?_
      obtain ⟨r33, hr33, h⟩ := bnd h
      refine cV (b := 55) (As := [.ref (g.2.2 53)]) (rest := []) (st1 := []) hC hw (c_X6_copy l g n 55 53 m2 r33 hr33) ml_X11_177 im_X6_copy se_X6_copy ok55 (CN := RX6) (T := TX6) (NF := 2) rfl rfl (by decide) rfl hl.1 ⟨Nat.le_of_ble_eq_true rfl, Nat.le_of_ble_eq_true rfl⟩ (Nat.le_of_ble_eq_true rfl) ⟨Nat.zero_le _, Nat.zero_le _⟩ rfl dX11_judge_33 (fun H locs hw => ?_)
      refine lv_iconst (v := ((-1) : Int32)) hx hb dX11_judge_36 (by decide) ?_
      refine lv_istore (lv' := [(4, .int ((-1) : Int32)), (3, .ref (g.2.2 r2)), (0, .ref (g.2.2 0)), (1, .int v1), (2, .int v2)]) hx hb dX11_judge_37 hl (by decide) rfl (fun ls hl => ?_)
      refine lv_iconst (v := (0 : Int32)) hx hb dX11_judge_39 (by decide) ?_
      refine lv_istore (lv' := [(5, .int (0 : Int32)), (4, .int ((-1) : Int32)), (3, .ref (g.2.2 r2)), (0, .ref (g.2.2 0)), (1, .int v1), (2, .int v2)]) hx hb dX11_judge_40 hl (by decide) rfl (fun ls hl => ?_)
      refine lv_iconst (v := (0 : Int32)) hx hb dX11_judge_42 (by decide) ?_
      refine lv_istore (lv' := [(6, .int (0 : Int32)), (5, .int (0 : Int32)), (4, .int ((-1) : Int32)), (3, .ref (g.2.2 r2)), (0, .ref (g.2.2 0)), (1, .int v1), (2, .int v2)]) hx hb dX11_judge_43 hl (by decide) rfl (fun ls hl => ?_)
      exact B45 n r2 ((-1) : Int32) (0 : Int32) (0 : Int32) r33.2 _ _ _ hw (lv_sub hl [4, 6, 3, 2, 1, 0] rfl) h
    · rw [if_neg hc] at h
      exact B15 m2 _ _ _ hw (lv_sub hl [] rfl) h
set_option maxRecDepth 100000 in
set_option maxHeartbeats 4000000 in
theorem c_X11_perform (l : Launch) (g : Gw) (n : Nat) (v1 : Int32) (μ : Mu) (r : Int32 × Mu) (h : X11_perform n v1 μ = some (Sum.inl r.1, r.2)) : Ct l g yX11_perform cX11_perform 5 (some .int) 8 [.ref (g.2.2 0), .int v1] μ (some (.int r.1)) r.2 := by
  rw [X11_perform] at h
  refine Ct.of (by decide) (Nat.le_of_ble_eq_true rfl) ?_
  intro p e s m args below meth c ls hC hw hr hlocks hl
  have hx := hC.1
  have hb := hC.2.1
  have hl : lv_has ls 5 [(0, .ref (g.2.2 0)), (1, .int v1)] := hl
  have B78 : ∀ (v3 : Int32) (μ : Mu) (H : Heap) (locs : List Loc) (ls : Array Slot), wd g μ s (Aw g s.heap.size) H locs → lv_has ls 5 [(3, .int v3)] → X11_perform_78 n v1 v3 μ = some (Sum.inl r.1, r.2) → WQ p l e (rmD 8) s m args below meth c g (some (.int r.1)) r.2 H locs (F0 m 78 ls []) := by
    intro v3 μ H locs ls hw hl h
    rw [X11_perform_78] at h
    refine lv_iload_n hx hb dX11_perform_78 rfl (lv_at hl 0 rfl) ?_
    exact rI hC hw hr hlocks (by rw [(inlI h).1]) (inlI h).2 dX11_perform_79
  have B8 : ∀ (k : Nat), ∀ (v2 : Nat) (v3 : Int32) (μ : Mu) (H : Heap) (locs : List Loc) (ls : Array Slot), wd g μ s (Aw g s.heap.size) H locs → lv_has ls 5 [(0, .ref (g.2.2 0)), (2, .ref (g.2.2 v2)), (3, .int v3)] → lpF (fun _ _ _ => none) (X11_perform_8b n v1) k v2 v3 μ = some (Sum.inl r.1, r.2) → WQ p l e (rmD 8) s m args below meth c g (some (.int r.1)) r.2 H locs (F0 m 8 ls []) := by
    intro k
    induction k with
    | zero =>
      intro v2 v3 μ H locs ls hw hl h
      cases h
    | succ k ih8 =>
      rw [lpF_s]
      generalize lpF (fun _ _ _ => none) (X11_perform_8b n v1) k = k8 at ih8 ⊢
      intro v2 v3 μ H locs ls hw hl h
      rw [X11_perform_8b] at h
      obtain ⟨hqv2_8, h⟩ := kd_some h
      refine lv_iload_n hx hb dX11_perform_8 rfl (lv_at hl 2 rfl) ?_
      refine lv_aload_n hx hb dX11_perform_9 rfl (lv_at hl 1 rfl) ?_
      refine gI hC hw fl_X11_222 hqv2_8 (by decide) dX11_perform_10 ?_
      refine lv_icmp_ge (tgt := 78) hx hb dX11_perform_13 (by decide) (fun hc => ?_) (fun hc => ?_)
      · rw [if_pos hc] at h
        exact B78 v3 μ _ _ _ hw (lv_sub hl [2] rfl) h
      · rw [if_neg hc] at h
        refine lv_aload_n hx hb dX11_perform_16 rfl (lv_at hl 0 rfl) ?_
        refine gR (t := 6) hC hw fl_X11_30 ok0 (by decide) ot0_2 dX11_perform_17 ?_
        refine lv_aload_n hx hb dX11_perform_20 rfl (lv_at hl 0 rfl) ?_
        refine gR (t := 53) hC hw fl_X11_37 ok0 (by decide) ot0_3 dX11_perform_21 ?_
        refine lv_aload_n hx hb dX11_perform_24 rfl (lv_at hl 1 rfl) ?_
        refine gR (t := (v2 + 1)) hC hw fl_X11_225 hqv2_8 (by decide) (tr_T hqv2_8) dX11_perform_25 ?_
        refine lv_iload_n hx hb dX11_perform_28 rfl (lv_at hl 2 rfl) ?_
        obtain ⟨hi29, h⟩ := gd_some h
        refine lJ (j := v3.toNatClampNeg) hC hw (tr_K hqv2_8) (tr_N hqv2_8) hi29 rfl dX11_perform_29 ?_
        obtain ⟨r30, hr30, h⟩ := bnd h
        refine cV (b := 6) (As := [.ref (g.2.2 53), .long (μ.2 (v2 + 1) v3.toNatClampNeg)]) (rest := []) (st1 := [.int r30.1]) hC hw (c_X8_reason l g n 53 (μ.2 (v2 + 1) v3.toNatClampNeg) μ r30 hr30) ml_X11_156 im_X8_reason se_X8_reason ok6 (CN := RX8) (T := TX8) (NF := 8) rfl rfl (by decide) rfl hl.1 ⟨Nat.le_of_ble_eq_true rfl, Nat.le_of_ble_eq_true rfl⟩ (Nat.le_of_ble_eq_true rfl) ⟨Nat.zero_le _, Nat.zero_le _⟩ rfl dX11_perform_30 (fun H locs hw => ?_)
        refine lv_if_ne (tgt := 78) hx hb dX11_perform_33 (by decide) (fun hc => ?_) (fun hc => ?_)
        · rw [if_neg hc] at h
          exact B78 v3 r30.2 _ _ _ hw (lv_sub hl [2] rfl) h
        · rw [if_pos hc] at h
          refine lv_aload_n hx hb dX11_perform_36 rfl (lv_at hl 1 rfl) ?_
          refine gR (t := (v2 + 1)) hC hw fl_X11_225 hqv2_8 (by decide) (tr_T hqv2_8) dX11_perform_37 ?_
          refine lv_iload_n hx hb dX11_perform_40 rfl (lv_at hl 2 rfl) ?_
          refine lJ (j := v3.toNatClampNeg) hC hw (tr_K hqv2_8) (tr_N hqv2_8) hi29 rfl dX11_perform_41 ?_
          refine lv_l2i hx hb dX11_perform_42 rfl ?_
          refine lv_istore (lv' := [(4, .int ((r30.2.2 (v2 + 1) v3.toNatClampNeg).toInt32)), (0, .ref (g.2.2 0)), (2, .ref (g.2.2 v2)), (3, .int v3)]) hx hb dX11_perform_43 hl (by decide) rfl (fun ls hl => ?_)
          refine lv_aload_n hx hb dX11_perform_45 rfl (lv_at hl 1 rfl) ?_
          refine gR (t := 9) hC hw fl_X11_47 ok0 (by decide) ot0_5 dX11_perform_46 ?_
          refine lv_aload_n hx hb dX11_perform_49 rfl (lv_at hl 1 rfl) ?_
          refine gR (t := 53) hC hw fl_X11_37 ok0 (by decide) ot0_3 dX11_perform_50 ?_
          refine lv_iload hx hb dX11_perform_53 (lv_at hl 0 rfl) ?_
          obtain ⟨r55, hr55, h⟩ := bnd h
          refine cV (b := 9) (As := [.ref (g.2.2 53), .int ((r30.2.2 (v2 + 1) v3.toNatClampNeg).toInt32)]) (rest := []) (st1 := []) hC hw (c_X3_keep l g n 53 ((r30.2.2 (v2 + 1) v3.toNatClampNeg).toInt32) r30.2 r55 hr55) ml_X11_160 im_X3_keep se_X3_keep ok9 (CN := RX3) (T := TX3) (NF := 5) rfl rfl (by decide) rfl hl.1 ⟨Nat.le_of_ble_eq_true rfl, Nat.le_of_ble_eq_true rfl⟩ (Nat.le_of_ble_eq_true rfl) ⟨Nat.zero_le _, Nat.zero_le _⟩ rfl dX11_perform_55 (fun H locs hw => ?_)
          refine lv_aload_n hx hb dX11_perform_58 rfl (lv_at hl 1 rfl) ?_
          refine gR (t := 6) hC hw fl_X11_30 ok0 (by decide) ot0_2 dX11_perform_59 ?_
          refine lv_aload_n hx hb dX11_perform_62 rfl (lv_at hl 1 rfl) ?_
          refine gR (t := 53) hC hw fl_X11_37 ok0 (by decide) ot0_3 dX11_perform_63 ?_
          refine lv_iload hx hb dX11_perform_66 (lv_at hl 0 rfl) ?_
          obtain ⟨r68, hr68, h⟩ := bnd h
          refine cV (b := 6) (As := [.ref (g.2.2 53), .int ((r30.2.2 (v2 + 1) v3.toNatClampNeg).toInt32)]) (rest := []) (st1 := [.int r68.1]) hC hw (c_X8_sow l g n 53 ((r30.2.2 (v2 + 1) v3.toNatClampNeg).toInt32) r55.2 r68 hr68) ml_X11_164 im_X8_sow se_X8_sow ok6 (CN := RX8) (T := TX8) (NF := 8) rfl rfl (by decide) rfl hl.1 ⟨Nat.le_of_ble_eq_true rfl, Nat.le_of_ble_eq_true rfl⟩ (Nat.le_of_ble_eq_true rfl) ⟨Nat.zero_le _, Nat.zero_le _⟩ rfl dX11_perform_68 (fun H locs hw => ?_)
          refine lv_pop hx hb dX11_perform_71 rfl ?_
          refine lv_iinc (v := (v3 + (1 : Int32))) (lv' := [(3, .int (v3 + (1 : Int32))), (4, .int ((r30.2.2 (v2 + 1) v3.toNatClampNeg).toInt32)), (0, .ref (g.2.2 0)), (2, .ref (g.2.2 v2))]) hx hb dX11_perform_72 hl (k := 3) rfl rfl (by decide) rfl (fun ls hl => ?_)
          refine lv_goto (tgt := 8) hx hb dX11_perform_75 (by decide) ?_
          exact ih8 v2 (v3 + (1 : Int32)) r68.2 _ _ _ hw (lv_sub hl [2, 3, 0] rfl) h
  refine lv_aload_n hx hb dX11_perform_0 rfl (lv_at hl 0 rfl) ?_
  refine lv_iload_n hx hb dX11_perform_1 rfl (lv_at hl 1 rfl) ?_
  obtain ⟨r2, m2, hr2, h⟩ := thr_rt h
  obtain ⟨hkr2, h⟩ := kd_some h
  refine cV (b := 0) (As := [.int v1]) (rest := []) (st1 := [.ref (g.2.2 r2)]) hC hw (c_X11_laidTray l g n v1 μ (r2, m2) hr2) ml_X11_218 im_X11_laidTray se_X11_laidTray ok0 (CN := RX11) (T := TX11) (NF := 12) rfl rfl (by decide) rfl hl.1 ⟨Nat.le_of_ble_eq_true rfl, Nat.le_of_ble_eq_true rfl⟩ (Nat.le_of_ble_eq_true rfl) ⟨Nat.zero_le _, Nat.zero_le _⟩ rfl dX11_perform_2 (fun H locs hw => ?_)
  refine lv_astore_n (lv' := [(2, .ref (g.2.2 r2)), (0, .ref (g.2.2 0)), (1, .int v1)]) hx hb dX11_perform_5 rfl hl (by decide) rfl (fun ls hl => ?_)
  refine lv_iconst (v := (0 : Int32)) hx hb dX11_perform_6 (by decide) ?_
  refine lv_istore_n (lv' := [(3, .int (0 : Int32)), (2, .ref (g.2.2 r2)), (0, .ref (g.2.2 0)), (1, .int v1)]) hx hb dX11_perform_7 rfl hl (by decide) rfl (fun ls hl => ?_)
  exact B8 n r2 (0 : Int32) m2 _ _ _ hw (lv_sub hl [2, 1, 0] rfl) h
set_option maxRecDepth 100000 in
set_option maxHeartbeats 4000000 in
theorem x_X11_perform (l : Launch) (hst : l.stackTraces = false) (g : Gw) (n : Nat) (v1 : Int32) (μ : Mu) (kx : Nat) (μx : Mu) (h : X11_perform n v1 μ = some (Sum.inr kx, μx)) : CtX l g yX11_perform cX11_perform 5 (some .int) 8 [.ref (g.2.2 0), .int v1] μ kx μx := by
  rw [X11_perform] at h
  refine CtX.of (by decide) (Nat.le_of_ble_eq_true rfl) ?_
  intro p e s m args below meth c ls hC hw htab hlocks hl
  have hx := hC.1
  have hb := hC.2.1
  have hl : lv_has ls 5 [(0, .ref (g.2.2 0)), (1, .int v1)] := hl
  have B78 : ∀ (v3 : Int32) (μ : Mu) (H : Heap) (locs : List Loc) (ls : Array Slot), wd g μ s (Aw g s.heap.size) H locs → lv_has ls 5 [(3, .int v3)] → X11_perform_78 n v1 v3 μ = some (Sum.inr kx, μx) → WX p l e (rmX 8) s m args below meth c g kx μx H locs (F0 m 78 ls []) := by
    intro v3 μ H locs ls hw hl h
    rw [X11_perform_78] at h
    refine lv_iload_n hx hb dX11_perform_78 rfl (lv_at hl 0 rfl) ?_
    cases h
  have B8 : ∀ (k : Nat), ∀ (v2 : Nat) (v3 : Int32) (μ : Mu) (H : Heap) (locs : List Loc) (ls : Array Slot), wd g μ s (Aw g s.heap.size) H locs → lv_has ls 5 [(0, .ref (g.2.2 0)), (2, .ref (g.2.2 v2)), (3, .int v3)] → lpF (fun _ _ _ => none) (X11_perform_8b n v1) k v2 v3 μ = some (Sum.inr kx, μx) → WX p l e (rmX 8) s m args below meth c g kx μx H locs (F0 m 8 ls []) := by
    intro k
    induction k with
    | zero =>
      intro v2 v3 μ H locs ls hw hl h
      cases h
    | succ k ih8 =>
      rw [lpF_s]
      generalize lpF (fun _ _ _ => none) (X11_perform_8b n v1) k = k8 at ih8 ⊢
      intro v2 v3 μ H locs ls hw hl h
      rw [X11_perform_8b] at h
      obtain ⟨hqv2_8, h⟩ := kd_some h
      refine lv_iload_n hx hb dX11_perform_8 rfl (lv_at hl 2 rfl) ?_
      refine lv_aload_n hx hb dX11_perform_9 rfl (lv_at hl 1 rfl) ?_
      refine gI hC hw fl_X11_222 hqv2_8 (by decide) dX11_perform_10 ?_
      refine lv_icmp_ge (tgt := 78) hx hb dX11_perform_13 (by decide) (fun hc => ?_) (fun hc => ?_)
      · rw [if_pos hc] at h
        exact B78 v3 μ _ _ _ hw (lv_sub hl [2] rfl) h
      · rw [if_neg hc] at h
        refine lv_aload_n hx hb dX11_perform_16 rfl (lv_at hl 0 rfl) ?_
        refine gR (t := 6) hC hw fl_X11_30 ok0 (by decide) ot0_2 dX11_perform_17 ?_
        refine lv_aload_n hx hb dX11_perform_20 rfl (lv_at hl 0 rfl) ?_
        refine gR (t := 53) hC hw fl_X11_37 ok0 (by decide) ot0_3 dX11_perform_21 ?_
        refine lv_aload_n hx hb dX11_perform_24 rfl (lv_at hl 1 rfl) ?_
        refine gR (t := (v2 + 1)) hC hw fl_X11_225 hqv2_8 (by decide) (tr_T hqv2_8) dX11_perform_25 ?_
        refine lv_iload_n hx hb dX11_perform_28 rfl (lv_at hl 2 rfl) ?_
        obtain ⟨hi29, h⟩ := gd_some h
        refine lJ (j := v3.toNatClampNeg) hC hw (tr_K hqv2_8) (tr_N hqv2_8) hi29 rfl dX11_perform_29 ?_
        obtain ⟨r30, hr30, h⟩ := bnd h
        refine cV (b := 6) (As := [.ref (g.2.2 53), .long (μ.2 (v2 + 1) v3.toNatClampNeg)]) (rest := []) (st1 := [.int r30.1]) hC hw (c_X8_reason l g n 53 (μ.2 (v2 + 1) v3.toNatClampNeg) μ r30 hr30) ml_X11_156 im_X8_reason se_X8_reason ok6 (CN := RX8) (T := TX8) (NF := 8) rfl rfl (by decide) rfl hl.1 ⟨Nat.le_of_ble_eq_true rfl, Nat.le_of_ble_eq_true rfl⟩ (Nat.le_of_ble_eq_true rfl) ⟨Nat.zero_le _, Nat.zero_le _⟩ rfl dX11_perform_30 (fun H locs hw => ?_)
        refine lv_if_ne (tgt := 78) hx hb dX11_perform_33 (by decide) (fun hc => ?_) (fun hc => ?_)
        · rw [if_neg hc] at h
          exact B78 v3 r30.2 _ _ _ hw (lv_sub hl [2] rfl) h
        · rw [if_pos hc] at h
          refine lv_aload_n hx hb dX11_perform_36 rfl (lv_at hl 1 rfl) ?_
          refine gR (t := (v2 + 1)) hC hw fl_X11_225 hqv2_8 (by decide) (tr_T hqv2_8) dX11_perform_37 ?_
          refine lv_iload_n hx hb dX11_perform_40 rfl (lv_at hl 2 rfl) ?_
          refine lJ (j := v3.toNatClampNeg) hC hw (tr_K hqv2_8) (tr_N hqv2_8) hi29 rfl dX11_perform_41 ?_
          refine lv_l2i hx hb dX11_perform_42 rfl ?_
          refine lv_istore (lv' := [(4, .int ((r30.2.2 (v2 + 1) v3.toNatClampNeg).toInt32)), (0, .ref (g.2.2 0)), (2, .ref (g.2.2 v2)), (3, .int v3)]) hx hb dX11_perform_43 hl (by decide) rfl (fun ls hl => ?_)
          refine lv_aload_n hx hb dX11_perform_45 rfl (lv_at hl 1 rfl) ?_
          refine gR (t := 9) hC hw fl_X11_47 ok0 (by decide) ot0_5 dX11_perform_46 ?_
          refine lv_aload_n hx hb dX11_perform_49 rfl (lv_at hl 1 rfl) ?_
          refine gR (t := 53) hC hw fl_X11_37 ok0 (by decide) ot0_3 dX11_perform_50 ?_
          refine lv_iload hx hb dX11_perform_53 (lv_at hl 0 rfl) ?_
          obtain ⟨r55, hr55, h⟩ := bnd h
          refine cV (b := 9) (As := [.ref (g.2.2 53), .int ((r30.2.2 (v2 + 1) v3.toNatClampNeg).toInt32)]) (rest := []) (st1 := []) hC hw (c_X3_keep l g n 53 ((r30.2.2 (v2 + 1) v3.toNatClampNeg).toInt32) r30.2 r55 hr55) ml_X11_160 im_X3_keep se_X3_keep ok9 (CN := RX3) (T := TX3) (NF := 5) rfl rfl (by decide) rfl hl.1 ⟨Nat.le_of_ble_eq_true rfl, Nat.le_of_ble_eq_true rfl⟩ (Nat.le_of_ble_eq_true rfl) ⟨Nat.zero_le _, Nat.zero_le _⟩ rfl dX11_perform_55 (fun H locs hw => ?_)
          refine lv_aload_n hx hb dX11_perform_58 rfl (lv_at hl 1 rfl) ?_
          refine gR (t := 6) hC hw fl_X11_30 ok0 (by decide) ot0_2 dX11_perform_59 ?_
          refine lv_aload_n hx hb dX11_perform_62 rfl (lv_at hl 1 rfl) ?_
          refine gR (t := 53) hC hw fl_X11_37 ok0 (by decide) ot0_3 dX11_perform_63 ?_
          refine lv_iload hx hb dX11_perform_66 (lv_at hl 0 rfl) ?_
          obtain ⟨r68, hr68, h⟩ := bnd h
          refine cV (b := 6) (As := [.ref (g.2.2 53), .int ((r30.2.2 (v2 + 1) v3.toNatClampNeg).toInt32)]) (rest := []) (st1 := [.int r68.1]) hC hw (c_X8_sow l g n 53 ((r30.2.2 (v2 + 1) v3.toNatClampNeg).toInt32) r55.2 r68 hr68) ml_X11_164 im_X8_sow se_X8_sow ok6 (CN := RX8) (T := TX8) (NF := 8) rfl rfl (by decide) rfl hl.1 ⟨Nat.le_of_ble_eq_true rfl, Nat.le_of_ble_eq_true rfl⟩ (Nat.le_of_ble_eq_true rfl) ⟨Nat.zero_le _, Nat.zero_le _⟩ rfl dX11_perform_68 (fun H locs hw => ?_)
          refine lv_pop hx hb dX11_perform_71 rfl ?_
          refine lv_iinc (v := (v3 + (1 : Int32))) (lv' := [(3, .int (v3 + (1 : Int32))), (4, .int ((r30.2.2 (v2 + 1) v3.toNatClampNeg).toInt32)), (0, .ref (g.2.2 0)), (2, .ref (g.2.2 v2))]) hx hb dX11_perform_72 hl (k := 3) rfl rfl (by decide) rfl (fun ls hl => ?_)
          refine lv_goto (tgt := 8) hx hb dX11_perform_75 (by decide) ?_
          exact ih8 v2 (v3 + (1 : Int32)) r68.2 _ _ _ hw (lv_sub hl [2, 3, 0] rfl) h
  refine lv_aload_n hx hb dX11_perform_0 rfl (lv_at hl 0 rfl) ?_
  refine lv_iload_n hx hb dX11_perform_1 rfl (lv_at hl 1 rfl) ?_
  rcases thr_cs h with ⟨k2x, m2, hr2, h⟩ | ⟨r2, m2, hr2, h⟩
  · rw [(inrI h).1, (inrI h).2] at hr2
    exact cVX (b := 0) (As := [.int v1]) (rest := []) hC hw htab hlocks (x_X11_laidTray l hst g n v1 μ kx μx hr2) ml_X11_218 im_X11_laidTray se_X11_laidTray ok0 (CN := RX11) (T := TX11) (NF := 12) rfl rfl (by decide) rfl hl.1 ⟨Nat.le_of_ble_eq_true rfl, Nat.le_of_ble_eq_true rfl⟩ (Nat.le_of_ble_eq_true rfl) ⟨Nat.le_refl 1, Nat.le_refl 6⟩ dX11_perform_2
  obtain ⟨hkr2, h⟩ := kd_some h
  refine cV (b := 0) (As := [.int v1]) (rest := []) (st1 := [.ref (g.2.2 r2)]) hC hw (c_X11_laidTray l g n v1 μ (r2, m2) hr2) ml_X11_218 im_X11_laidTray se_X11_laidTray ok0 (CN := RX11) (T := TX11) (NF := 12) rfl rfl (by decide) rfl hl.1 ⟨Nat.le_of_ble_eq_true rfl, Nat.le_of_ble_eq_true rfl⟩ (Nat.le_of_ble_eq_true rfl) ⟨Nat.zero_le _, Nat.zero_le _⟩ rfl dX11_perform_2 (fun H locs hw => ?_)
  refine lv_astore_n (lv' := [(2, .ref (g.2.2 r2)), (0, .ref (g.2.2 0)), (1, .int v1)]) hx hb dX11_perform_5 rfl hl (by decide) rfl (fun ls hl => ?_)
  refine lv_iconst (v := (0 : Int32)) hx hb dX11_perform_6 (by decide) ?_
  refine lv_istore_n (lv' := [(3, .int (0 : Int32)), (2, .ref (g.2.2 r2)), (0, .ref (g.2.2 0)), (1, .int v1)]) hx hb dX11_perform_7 rfl hl (by decide) rfl (fun ls hl => ?_)
  exact B8 n r2 (0 : Int32) m2 _ _ _ hw (lv_sub hl [2, 1, 0] rfl) h
