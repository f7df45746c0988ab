set_option maxRecDepth 100000 in
set_option maxHeartbeats 4000000 in
theorem c_X12_pour (l : Launch) (g : Gw) (n : Nat) (v1 : Int32) (μ : Mu) (r : Int32 × Mu) (h : X12_pour n v1 μ = some r) : Ct l g yX12_pour cX12_pour 4 (some .int) 3 [.ref (g.2.2 171), .int v1] μ (some (.int r.1)) r.2 := by
  rw [X12_pour] at h
  refine Ct.of (by decide) (Nat.le_of_ble_eq_true rfl) ?_
  intro p e s m args below meth c ls hC hw hr hlocks hl
  have hx := hC.1
  have hb := hC.2.1
  have hl : lv_has ls 4 [(0, .ref (g.2.2 171)), (1, .int v1)] := hl
  have B34 : ∀ (k : Nat), ∀ (v2 : Int32) (v3 : Int32) (μ : Mu) (H : Heap) (locs : List Loc) (ls : Array Slot), wd g μ s (Aw g s.heap.size) H locs → lv_has ls 4 [(0, .ref (g.2.2 171)), (1, .int v1), (2, .int v2), (3, .int v3)] → lpF (fun _ _ _ => none) (X12_pour_34b n v1) k v2 v3 μ = some r → WQ p l e (rmD 3) s m args below meth c g (some (.int r.1)) r.2 H locs (F0 m 34 ls []) := by
    intro k
    induction k with
    | zero =>
      intro v2 v3 μ H locs ls hw hl h
      cases h
    | succ k ih34 =>
      rw [lpF_s]
      generalize lpF (fun _ _ _ => none) (X12_pour_34b n v1) k = k34 at ih34 ⊢
      intro v2 v3 μ H locs ls hw hl h
      rw [X12_pour_34b] at h
      refine lv_iload_n hx hb dX12_pour_34 rfl (lv_at hl 3 rfl) ?_
      refine lv_iload_n hx hb dX12_pour_35 rfl (lv_at hl 2 rfl) ?_
      refine lv_icmp_ge (tgt := 59) hx hb dX12_pour_36 (by decide) (fun hc => ?_) (fun hc => ?_)
      · rw [if_pos hc] at h
        refine lv_iload_n hx hb dX12_pour_59 rfl (lv_at hl 2 rfl) ?_
        exact rI hC hw hr hlocks (by rw [← Option.some.inj h]) (by rw [← Option.some.inj h]) dX12_pour_60
      · rw [if_neg hc] at h
        refine lv_aload_n hx hb dX12_pour_39 rfl (lv_at hl 0 rfl) ?_
        refine lv_iload_n hx hb dX12_pour_40 rfl (lv_at hl 1 rfl) ?_
        refine lv_iload_n hx hb dX12_pour_41 rfl (lv_at hl 3 rfl) ?_
        refine lv_aload_n hx hb dX12_pour_42 rfl (lv_at hl 0 rfl) ?_
        refine gR (t := 180) hC hw fl_X12_39 ok171 (by decide) ot171_25 dX12_pour_43 ?_
        refine lv_iload_n hx hb dX12_pour_46 rfl (lv_at hl 3 rfl) ?_
        obtain ⟨hi47, h⟩ := gd_some h
        refine lI (j := v3.toNatClampNeg) hC hw ok180 on180 hi47 rfl dX12_pour_47 ?_
        refine lv_i2l hx hb dX12_pour_48 rfl ?_
        obtain ⟨r49, hr49, h⟩ := bnd h
        refine cV (b := 171) (As := [.int v1, .int v3, .long ((μ.1 180 v3.toNatClampNeg).toInt64)]) (rest := []) (st1 := [.long r49.1]) hC hw (c_X12_cut l g n v1 v3 ((μ.1 180 v3.toNatClampNeg).toInt64) μ r49 hr49) ml_X12_475 im_X12_cut se_X12_cut ok171 (CN := RX12) (T := TX12) (NF := 54) rfl rfl (by decide) rfl hl.1 ⟨Nat.le_of_ble_eq_true rfl, Nat.le_of_ble_eq_true rfl⟩ (Nat.le_of_ble_eq_true rfl) ⟨Nat.zero_le _, Nat.zero_le _⟩ rfl dX12_pour_49 (fun H locs hw => ?_)
        refine lv_pop2_2 hx hb dX12_pour_52 rfl ?_
        refine lv_iinc (v := (v3 + (1 : Int32))) (lv' := [(3, .int (v3 + (1 : Int32))), (0, .ref (g.2.2 171)), (1, .int v1), (2, .int v2)]) hx hb dX12_pour_53 hl (k := 3) rfl rfl (by decide) rfl (fun ls hl => ?_)
        refine lv_goto (tgt := 34) hx hb dX12_pour_56 (by decide) ?_
        exact ih34 v2 (v3 + (1 : Int32)) r49.2 _ _ _ hw (lv_sub hl [1, 2, 3, 0] rfl) h
  refine lv_aload_n hx hb dX12_pour_0 rfl (lv_at hl 0 rfl) ?_
  refine lv_aload_n hx hb dX12_pour_1 rfl (lv_at hl 0 rfl) ?_
  refine lv_iload_n hx hb dX12_pour_2 rfl (lv_at hl 1 rfl) ?_
  obtain ⟨r3, hr3, h⟩ := bnd h
  refine cV (b := 171) (As := [.int v1]) (rest := [.ref (g.2.2 171)]) (st1 := [.int r3.1, .ref (g.2.2 171)]) hC hw (c_X12_trayFault l g n v1 μ r3 hr3) ml_X12_340 im_X12_trayFault se_X12_trayFault ok171 (CN := RX12) (T := TX12) (NF := 54) rfl rfl (by decide) rfl hl.1 ⟨Nat.le_of_ble_eq_true rfl, Nat.le_of_ble_eq_true rfl⟩ (Nat.le_of_ble_eq_true rfl) ⟨Nat.zero_le _, Nat.zero_le _⟩ rfl dX12_pour_3 (fun H locs hw => ?_)
  refine pI hC hw fl_X12_107 fp_12_5 ok171 dX12_pour_6 (fun H locs hw => ?_)
  refine lv_aload_n hx hb dX12_pour_9 rfl (lv_at hl 0 rfl) ?_
  refine gI hC hw fl_X12_107 ok171 (by decide) dX12_pour_10 ?_
  refine lv_if_le (tgt := 18) hx hb dX12_pour_13 (by decide) (fun hc => ?_) (fun hc => ?_)
  · rw [if_pos hc] at h
    refine lv_aload_n hx hb dX12_pour_18 rfl (lv_at hl 0 rfl) ?_
    refine gR (t := 199) hC hw fl_X12_100 ok171 (by decide) ot171_52 dX12_pour_19 ?_
    refine lv_iload_n hx hb dX12_pour_22 rfl (lv_at hl 1 rfl) ?_
    obtain ⟨hi23, h⟩ := gd_some h
    refine lI (j := v1.toNatClampNeg) hC hw ok199 on199 hi23 rfl dX12_pour_23 ?_
    refine lv_aload_n hx hb dX12_pour_24 rfl (lv_at hl 0 rfl) ?_
    refine gI hC hw fl_X12_239 ok171 (by decide) dX12_pour_25 ?_
    refine va_mmin (rest := []) hx hb (hC.2.2.1.trans hl.1.symm) hC.2.2.2.1 (hC.2.2.2.2.1 _ mm_X12_479) (hC.2.2.2.2.1 _ mw_min.1) (hC.2.2.2.2.1 _ mw_min.2.1) (hC.2.2.2.2.1 _ mw_min.2.2) (Nat.le_of_ble_eq_true rfl) (Nat.le_of_ble_eq_true rfl) (Nat.zero_le _) (Nat.zero_le _) dX12_pour_28 ?_
    refine lv_istore_n (lv' := [(2, .int (if ((si r3.2 171 5 r3.1).1 171 28) < ((si r3.2 171 5 r3.1).1 199 v1.toNatClampNeg) then ((si r3.2 171 5 r3.1).1 171 28) else ((si r3.2 171 5 r3.1).1 199 v1.toNatClampNeg))), (0, .ref (g.2.2 171)), (1, .int v1)]) hx hb dX12_pour_31 rfl hl (by decide) rfl (fun ls hl => ?_)
    refine lv_iconst (v := (0 : Int32)) hx hb dX12_pour_32 (by decide) ?_
    refine lv_istore_n (lv' := [(3, .int (0 : Int32)), (2, .int (if ((si r3.2 171 5 r3.1).1 171 28) < ((si r3.2 171 5 r3.1).1 199 v1.toNatClampNeg) then ((si r3.2 171 5 r3.1).1 171 28) else ((si r3.2 171 5 r3.1).1 199 v1.toNatClampNeg))), (0, .ref (g.2.2 171)), (1, .int v1)]) hx hb dX12_pour_33 rfl hl (by decide) rfl (fun ls hl => ?_)
    exact B34 n (if ((si r3.2 171 5 r3.1).1 171 28) < ((si r3.2 171 5 r3.1).1 199 v1.toNatClampNeg) then ((si r3.2 171 5 r3.1).1 171 28) else ((si r3.2 171 5 r3.1).1 199 v1.toNatClampNeg)) (0 : Int32) (si r3.2 171 5 r3.1) _ _ _ hw (lv_sub hl [2, 3, 1, 0] rfl) h
  · rw [if_neg hc] at h
    refine lv_iconst (v := (0 : Int32)) hx hb dX12_pour_16 (by decide) ?_
    exact rI hC hw hr hlocks (by rw [← Option.some.inj h]) (by rw [← Option.some.inj h]) dX12_pour_17
set_option maxRecDepth 100000 in
set_option maxHeartbeats 4000000 in
theorem c_X0_goDown (l : Launch) (g : Gw) (n : Nat) (v1 : Int32) (v2 : Int32) (μ : Mu) (r : Unit × Mu) (h : X0_goDown n v1 v2 μ = some r) : Ct l g yX0_goDown cX0_goDown 3 none 3 [.ref (g.2.2 25), .int v1, .int v2] μ none r.2 := by
  rw [X0_goDown] at h
  refine Ct.of (by decide) (Nat.le_of_ble_eq_true rfl) ?_
  intro p e s m args below meth c ls hC hw hr hlocks hl
  have hx := hC.1
  have hb := hC.2.1
  have hl : lv_has ls 3 [(0, .ref (g.2.2 25)), (1, .int v1), (2, .int v2)] := hl
  refine lv_aload_n hx hb dX0_goDown_0 rfl (lv_at hl 0 rfl) ?_
  refine gR (t := 27) hC hw fl_X0_17 ok25 (by decide) ot25_3 dX0_goDown_1 ?_
  refine lv_iload_n hx hb dX0_goDown_4 rfl (lv_at hl 1 rfl) ?_
  refine lv_iconst (v := (1 : Int32)) hx hb dX0_goDown_5 (by decide) ?_
  refine lv_iadd hx hb dX0_goDown_6 ?_
  obtain ⟨hi7, h⟩ := gd_some h
  have ha7 : oK (155 + 2 * (v1 + (1 : Int32)).toNatClampNeg) = 6 := aK27 hi7 rfl
  refine lA (t := (155 + 2 * (v1 + (1 : Int32)).toNatClampNeg)) (CN := "SowingHouse$Scene") hC hw ok27 (by decide) rfl on27 hi7 (aT27 hi7 rfl) dX0_goDown_7 (by decide) ?_
  refine lv_aload_n hx hb dX0_goDown_8 rfl (lv_at hl 0 rfl) ?_
  refine gR (t := 27) hC hw fl_X0_17 ok25 (by decide) ot25_3 dX0_goDown_9 ?_
  refine lv_iload_n hx hb dX0_goDown_12 rfl (lv_at hl 1 rfl) ?_
  obtain ⟨hi13, h⟩ := gd_some h
  have ha13 : oK (155 + 2 * v1.toNatClampNeg) = 6 := aK27 hi13 rfl
  refine lA (t := (155 + 2 * v1.toNatClampNeg)) (CN := "SowingHouse$Scene") hC hw ok27 (by decide) rfl on27 hi13 (aT27 hi13 rfl) dX0_goDown_13 (by decide) ?_
  obtain ⟨r14, hr14, h⟩ := bnd h
  refine cV (b := (155 + 2 * (v1 + (1 : Int32)).toNatClampNeg)) (As := [.ref (g.2.2 (155 + 2 * v1.toNatClampNeg))]) (rest := []) (st1 := []) hC hw (c_X6_copy l g n (155 + 2 * (v1 + (1 : Int32)).toNatClampNeg) (155 + 2 * v1.toNatClampNeg) μ r14 hr14) ml_X0_44 im_X6_copy se_X6_copy ha7 (CN := RX6) (T := TX6) (NF := 2) rfl rfl (by decide) rfl hl.1 ⟨Nat.le_of_ble_eq_true rfl, Nat.le_of_ble_eq_true rfl⟩ (Nat.le_of_ble_eq_true rfl) ⟨Nat.zero_le _, Nat.zero_le _⟩ rfl dX0_goDown_14 (fun H locs hw => ?_)
  refine lv_aload_n hx hb dX0_goDown_17 rfl (lv_at hl 0 rfl) ?_
  refine gR (t := 6) hC hw fl_X0_40 ok25 (by decide) ot25_2 dX0_goDown_18 ?_
  refine lv_aload_n hx hb dX0_goDown_21 rfl (lv_at hl 0 rfl) ?_
  refine gR (t := 27) hC hw fl_X0_17 ok25 (by decide) ot25_3 dX0_goDown_22 ?_
  refine lv_iload_n hx hb dX0_goDown_25 rfl (lv_at hl 1 rfl) ?_
  refine lv_iconst (v := (1 : Int32)) hx hb dX0_goDown_26 (by decide) ?_
  refine lv_iadd hx hb dX0_goDown_27 ?_
  have ha28 : oK (155 + 2 * (v1 + (1 : Int32)).toNatClampNeg) = 6 := aK27 hi7 rfl
  refine lA (t := (155 + 2 * (v1 + (1 : Int32)).toNatClampNeg)) (CN := "SowingHouse$Scene") hC hw ok27 (by decide) rfl on27 hi7 (aT27 hi7 rfl) dX0_goDown_28 (by decide) ?_
  refine lv_iload_n hx hb dX0_goDown_29 rfl (lv_at hl 2 rfl) ?_
  obtain ⟨r30, hr30, h⟩ := bnd h
  refine cV (b := 6) (As := [.ref (g.2.2 (155 + 2 * (v1 + (1 : Int32)).toNatClampNeg)), .int v2]) (rest := []) (st1 := [.int r30.1]) hC hw (c_X8_sow l g n (155 + 2 * (v1 + (1 : Int32)).toNatClampNeg) v2 r14.2 r30 hr30) ml_X0_48 im_X8_sow se_X8_sow ok6 (CN := RX8) (T := TX8) (NF := 8) rfl rfl (by decide) rfl hl.1 ⟨Nat.le_of_ble_eq_true rfl, Nat.le_of_ble_eq_true rfl⟩ (Nat.le_of_ble_eq_true rfl) ⟨Nat.zero_le _, Nat.zero_le _⟩ rfl dX0_goDown_30 (fun H locs hw => ?_)
  refine lv_pop hx hb dX0_goDown_33 rfl ?_
  exact rV hC hw hr hlocks rfl (by rw [← Option.some.inj h]) dX0_goDown_34
set_option maxRecDepth 100000 in
set_option maxHeartbeats 4000000 in
theorem c_X1_linkWay (l : Launch) (g : Gw) (n : Nat) (v1 : Int32) (μ : Mu) (r : Unit × Mu) (h : X1_linkWay n v1 μ = some r) : Ct l g yX1_linkWay cX1_linkWay 7 none 2 [.ref (g.2.2 2), .int v1] μ none r.2 := by
  rw [X1_linkWay] at h
  refine Ct.of (by decide) (Nat.le_of_ble_eq_true rfl) ?_
  intro p e s m args below meth c ls hC hw hr hlocks hl
  have hx := hC.1
  have hb := hC.2.1
  have hl : lv_has ls 7 [(0, .ref (g.2.2 2)), (1, .int v1)] := hl
  have B93 : ∀ (μ : Mu) (H : Heap) (locs : List Loc) (ls : Array Slot), wd g μ s (Aw g s.heap.size) H locs → lv_has ls 7 [] → X1_linkWay_93 n v1  μ = some r → WQ p l e (rmD 2) s m args below meth c g none r.2 H locs (F0 m 93 ls []) := by
    intro μ H locs ls hw hl h
    rw [X1_linkWay_93] at h
    exact rV hC hw hr hlocks rfl (by rw [← Option.some.inj h]) dX1_linkWay_93
  have B13 : ∀ (k : Nat), ∀ (v2 : Int32) (v3 : Int32) (v4 : Int32) (v5 : Int32) (μ : Mu) (H : Heap) (locs : List Loc) (ls : Array Slot), wd g μ s (Aw g s.heap.size) H locs → lv_has ls 7 [(0, .ref (g.2.2 2)), (1, .int v1), (2, .int v2), (3, .int v3), (4, .int v4), (5, .int v5)] → lpF (fun _ _ _ _ _ => none) (X1_linkWay_13b n v1) k v2 v3 v4 v5 μ = some r → WQ p l e (rmD 2) s m args below meth c g none r.2 H locs (F0 m 13 ls []) := by
    intro k
    induction k with
    | zero =>
      intro v2 v3 v4 v5 μ H locs ls hw hl h
      cases h
    | succ k ih13 =>
      rw [lpF_s]
      generalize lpF (fun _ _ _ _ _ => none) (X1_linkWay_13b n v1) k = k13 at ih13 ⊢
      intro v2 v3 v4 v5 μ H locs ls hw hl h
      have B71 : ∀ (v2 : Int32) (v3 : Int32) (v4 : Int32) (v5 : Int32) (μ : Mu) (H : Heap) (locs : List Loc) (ls : Array Slot), wd g μ s (Aw g s.heap.size) H locs → lv_has ls 7 [(0, .ref (g.2.2 2)), (1, .int v1), (2, .int v2), (3, .int v3), (4, .int v4), (5, .int v5)] → X1_linkWay_71 n v1 k13 v2 v3 v4 v5 μ = some r → WQ p l e (rmD 2) s m args below meth c g none r.2 H locs (F0 m 71 ls []) := by
        intro v2 v3 v4 v5 μ H locs ls hw hl h
        rw [X1_linkWay_71] at h
        refine lv_iinc (v := (v5 + (1 : Int32))) (lv' := [(5, .int (v5 + (1 : Int32))), (0, .ref (g.2.2 2)), (1, .int v1), (2, .int v2), (3, .int v3), (4, .int v4)]) hx hb dX1_linkWay_71 hl (k := 5) rfl rfl (by decide) rfl (fun ls hl => ?_)
        refine lv_goto (tgt := 13) hx hb dX1_linkWay_74 (by decide) ?_
        exact ih13 v2 v3 v4 (v5 + (1 : Int32)) μ _ _ _ hw (lv_sub hl [1, 2, 3, 4, 5, 0] rfl) h
      have B67 : ∀ (v2 : Int32) (v3 : Int32) (v5 : Int32) (v6 : Int32) (μ : Mu) (H : Heap) (locs : List Loc) (ls : Array Slot), wd g μ s (Aw g s.heap.size) H locs → lv_has ls 7 [(0, .ref (g.2.2 2)), (1, .int v1), (2, .int v2), (3, .int v3), (5, .int v5), (6, .int v6)] → X1_linkWay_67 n v1 k13 v2 v3 v5 v6 μ = some r → WQ p l e (rmD 2) s m args below meth c g none r.2 H locs (F0 m 67 ls []) := by
        intro v2 v3 v5 v6 μ H locs ls hw hl h
        rw [X1_linkWay_67] at h
        refine lv_iload hx hb dX1_linkWay_67 (lv_at hl 5 rfl) ?_
        refine lv_istore (lv' := [(4, .int v6), (0, .ref (g.2.2 2)), (1, .int v1), (2, .int v2), (3, .int v3), (5, .int v5), (6, .int v6)]) hx hb dX1_linkWay_69 hl (by decide) rfl (fun ls hl => ?_)
        exact B71 v2 v3 v6 v5 μ _ _ _ hw (lv_sub hl [1, 2, 3, 4, 0, 5] rfl) h
      rw [X1_linkWay_13b] at h
      refine lv_iload hx hb dX1_linkWay_13 (lv_at hl 5 rfl) ?_
      refine lv_iconst (v := (2 : Int32)) hx hb dX1_linkWay_15 (by decide) ?_
      refine lv_aload_n hx hb dX1_linkWay_16 rfl (lv_at hl 0 rfl) ?_
      refine gR (t := 1) hC hw fl_X1_21 ok2 (by decide) ot2_4 dX1_linkWay_17 ?_
      refine gI hC hw fl_X1_66 ok1 (by decide) dX1_linkWay_20 ?_
      refine lv_imul hx hb dX1_linkWay_23 ?_
      refine lv_icmp_gt (tgt := 77) hx hb dX1_linkWay_24 (by decide) (fun hc => ?_) (fun hc => ?_)
      · rw [if_pos hc] at h
        refine lv_iload hx hb dX1_linkWay_77 (lv_at hl 4 rfl) ?_
        refine lv_iconst (v := ((-1) : Int32)) hx hb dX1_linkWay_79 (by decide) ?_
        refine lv_icmp_eq (tgt := 93) hx hb dX1_linkWay_80 (by decide) (fun hc => ?_) (fun hc => ?_)
        · rw [if_pos hc] at h
          exact B93 μ _ _ _ hw (lv_sub hl [] rfl) h
        · rw [if_neg hc] at h
          refine lv_aload_n hx hb dX1_linkWay_83 rfl (lv_at hl 0 rfl) ?_
          refine gR (t := 3) hC hw fl_X1_9 ok2 (by decide) ot2_0 dX1_linkWay_84 ?_
          refine lv_iload_n hx hb dX1_linkWay_87 rfl (lv_at hl 2 rfl) ?_
          refine lv_iload hx hb dX1_linkWay_88 (lv_at hl 4 rfl) ?_
          refine lv_iadd hx hb dX1_linkWay_90 ?_
          refine lv_iload_n hx hb dX1_linkWay_91 rfl (lv_at hl 3 rfl) ?_
          obtain ⟨hi92, h⟩ := gd_some h
          refine sI (j := (v2 + v4).toNatClampNeg) hC hw ok3 on3 hi92 rfl dX1_linkWay_92 (fun H locs hw => ?_)
          exact B93 (si μ 3 (v2 + v4).toNatClampNeg v3) _ _ _ hw (lv_sub hl [] rfl) h
      · rw [if_neg hc] at h
        refine lv_aload_n hx hb dX1_linkWay_27 rfl (lv_at hl 0 rfl) ?_
        refine lv_iload_n hx hb dX1_linkWay_28 rfl (lv_at hl 1 rfl) ?_
        refine lv_iload hx hb dX1_linkWay_29 (lv_at hl 5 rfl) ?_
        obtain ⟨r31, hr31, h⟩ := bnd h
        refine cV (b := 2) (As := [.int v1, .int v5]) (rest := []) (st1 := [.int r31.1]) hC hw (c_X1_cellOnWay l g n v1 v5 μ r31 hr31) ml_X1_69 im_X1_cellOnWay se_X1_cellOnWay ok2 (CN := RX1) (T := TX1) (NF := 7) rfl rfl (by decide) rfl hl.1 ⟨Nat.le_of_ble_eq_true rfl, Nat.le_of_ble_eq_true rfl⟩ (Nat.le_of_ble_eq_true rfl) ⟨Nat.zero_le _, Nat.zero_le _⟩ rfl dX1_linkWay_31 (fun H locs hw => ?_)
        refine lv_istore (lv' := [(6, .int r31.1), (0, .ref (g.2.2 2)), (1, .int v1), (2, .int v2), (3, .int v3), (4, .int v4), (5, .int v5)]) hx hb dX1_linkWay_34 hl (by decide) rfl (fun ls hl => ?_)
        refine lv_iload hx hb dX1_linkWay_36 (lv_at hl 0 rfl) ?_
        refine lv_iconst (v := ((-1) : Int32)) hx hb dX1_linkWay_38 (by decide) ?_
        refine lv_icmp_ne (tgt := 45) hx hb dX1_linkWay_39 (by decide) (fun hc => ?_) (fun hc => ?_)
        · rw [if_neg hc] at h
          refine lv_iload_n hx hb dX1_linkWay_45 rfl (lv_at hl 4 rfl) ?_
          refine lv_iconst (v := ((-1) : Int32)) hx hb dX1_linkWay_46 (by decide) ?_
          refine lv_icmp_ne (tgt := 56) hx hb dX1_linkWay_47 (by decide) (fun hc => ?_) (fun hc => ?_)
          · rw [if_neg hc] at h
            refine lv_aload_n hx hb dX1_linkWay_56 rfl (lv_at hl 1 rfl) ?_
            refine gR (t := 3) hC hw fl_X1_9 ok2 (by decide) ot2_0 dX1_linkWay_57 ?_
            refine lv_iload_n hx hb dX1_linkWay_60 rfl (lv_at hl 3 rfl) ?_
            refine lv_iload hx hb dX1_linkWay_61 (lv_at hl 5 rfl) ?_
            refine lv_iadd hx hb dX1_linkWay_63 ?_
            refine lv_iload hx hb dX1_linkWay_64 (lv_at hl 0 rfl) ?_
            obtain ⟨hi66, h⟩ := gd_some h
            refine sI (j := (v2 + v4).toNatClampNeg) hC hw ok3 on3 hi66 rfl dX1_linkWay_66 (fun H locs hw => ?_)
            exact B67 v2 v3 v5 r31.1 (si r31.2 3 (v2 + v4).toNatClampNeg r31.1) _ _ _ hw (lv_sub hl [1, 2, 3, 4, 6, 0] rfl) h
          · rw [if_pos hc] at h
            refine lv_iload hx hb dX1_linkWay_50 (lv_at hl 0 rfl) ?_
            refine lv_istore_n (lv' := [(3, .int r31.1), (6, .int r31.1), (0, .ref (g.2.2 2)), (1, .int v1), (2, .int v2), (4, .int v4), (5, .int v5)]) hx hb dX1_linkWay_52 rfl hl (by decide) rfl (fun ls hl => ?_)
            refine lv_goto (tgt := 67) hx hb dX1_linkWay_53 (by decide) ?_
            exact B67 v2 r31.1 v5 r31.1 r31.2 _ _ _ hw (lv_sub hl [2, 3, 4, 0, 6, 1] rfl) h
        · rw [if_pos hc] at h
          refine lv_goto (tgt := 71) hx hb dX1_linkWay_42 (by decide) ?_
          exact B71 v2 v3 v4 v5 r31.2 _ _ _ hw (lv_sub hl [1, 2, 3, 4, 5, 6] rfl) h
  refine lv_iload_n hx hb dX1_linkWay_0 rfl (lv_at hl 1 rfl) ?_
  refine lv_bipush (v := (14 : Int32)) hx hb dX1_linkWay_1 (by decide) ?_
  refine lv_imul hx hb dX1_linkWay_3 ?_
  refine lv_istore_n (lv' := [(2, .int (v1 * (14 : Int32))), (0, .ref (g.2.2 2)), (1, .int v1)]) hx hb dX1_linkWay_4 rfl hl (by decide) rfl (fun ls hl => ?_)
  refine lv_iconst (v := ((-1) : Int32)) hx hb dX1_linkWay_5 (by decide) ?_
  refine lv_istore_n (lv' := [(3, .int ((-1) : Int32)), (2, .int (v1 * (14 : Int32))), (0, .ref (g.2.2 2)), (1, .int v1)]) hx hb dX1_linkWay_6 rfl hl (by decide) rfl (fun ls hl => ?_)
  refine lv_iconst (v := ((-1) : Int32)) hx hb dX1_linkWay_7 (by decide) ?_
  refine lv_istore (lv' := [(4, .int ((-1) : Int32)), (3, .int ((-1) : Int32)), (2, .int (v1 * (14 : Int32))), (0, .ref (g.2.2 2)), (1, .int v1)]) hx hb dX1_linkWay_8 hl (by decide) rfl (fun ls hl => ?_)
  refine lv_iconst (v := (0 : Int32)) hx hb dX1_linkWay_10 (by decide) ?_
  refine lv_istore (lv' := [(5, .int (0 : Int32)), (4, .int ((-1) : Int32)), (3, .int ((-1) : Int32)), (2, .int (v1 * (14 : Int32))), (0, .ref (g.2.2 2)), (1, .int v1)]) hx hb dX1_linkWay_11 hl (by decide) rfl (fun ls hl => ?_)
  exact B13 n (v1 * (14 : Int32)) ((-1) : Int32) ((-1) : Int32) (0 : Int32) μ _ _ _ hw (lv_sub hl [4, 5, 3, 2, 1, 0] rfl) h
set_option maxRecDepth 100000 in
set_option maxHeartbeats 4000000 in
theorem c_X4_step (l : Launch) (g : Gw) (n : Nat) (μ : Mu) (r : Unit × Mu) (h : X4_step n  μ = some r) : Ct l g yX4_step cX4_step 1 none 2 [.ref (g.2.2 12)] μ none r.2 := by
  rw [X4_step] at h
  refine Ct.of (by decide) (Nat.le_of_ble_eq_true rfl) ?_
  intro p e s m args below meth c ls hC hw hr hlocks hl
  have hx := hC.1
  have hb := hC.2.1
  have hl : lv_has ls 1 [(0, .ref (g.2.2 12))] := hl
  have B165 : ∀ (μ : Mu) (H : Heap) (locs : List Loc) (ls : Array Slot), wd g μ s (Aw g s.heap.size) H locs → lv_has ls 1 [] → X4_step_165 n  μ = some r → WQ p l e (rmD 2) s m args below meth c g none r.2 H locs (F0 m 165 ls []) := by
    intro μ H locs ls hw hl h
    rw [X4_step_165] at h
    exact rV hC hw hr hlocks rfl (by rw [← Option.some.inj h]) dX4_step_165
  have B60 : ∀ (μ : Mu) (H : Heap) (locs : List Loc) (ls : Array Slot), wd g μ s (Aw g s.heap.size) H locs → lv_has ls 1 [(0, .ref (g.2.2 12))] → X4_step_60 n  μ = some r → WQ p l e (rmD 2) s m args below meth c g none r.2 H locs (F0 m 60 ls []) := by
    intro μ H locs ls hw hl h
    rw [X4_step_60] at h
    refine lv_aload_n hx hb dX4_step_60 rfl (lv_at hl 0 rfl) ?_
    refine lv_aload_n hx hb dX4_step_61 rfl (lv_at hl 0 rfl) ?_
    refine gI hC hw fl_X4_73 ok12 (by decide) dX4_step_62 ?_
    refine pI hC hw fl_X4_46 fp_4_9 ok12 dX4_step_65 (fun H locs hw => ?_)
    refine lv_aload_n hx hb dX4_step_68 rfl (lv_at hl 0 rfl) ?_
    refine gI hC hw fl_X4_73 ok12 (by decide) dX4_step_69 ?_
    refine lv_aload_n hx hb dX4_step_72 rfl (lv_at hl 0 rfl) ?_
    refine gI hC hw fl_X4_43 ok12 (by decide) dX4_step_73 ?_
    refine lv_icmp_lt (tgt := 87) hx hb dX4_step_76 (by decide) (fun hc => ?_) (fun hc => ?_)
    · rw [if_pos hc] at h
      refine lv_aload_n hx hb dX4_step_87 rfl (lv_at hl 0 rfl) ?_
      refine lv_aload_n hx hb dX4_step_88 rfl (lv_at hl 0 rfl) ?_
      refine gI hC hw fl_X4_73 ok12 (by decide) dX4_step_89 ?_
      obtain ⟨r92, hr92, h⟩ := bnd h
      refine cV (b := 12) (As := [.int ((si μ 12 9 (μ.1 12 8)).1 12 8)]) (rest := []) (st1 := [.int r92.1]) hC hw (c_X4_isDigit l g n ((si μ 12 9 (μ.1 12 8)).1 12 8) (si μ 12 9 (μ.1 12 8)) r92 hr92) ml_X4_169 im_X4_isDigit se_X4_isDigit ok12 (CN := RX4) (T := TX4) (NF := 11) rfl rfl (by decide) rfl hl.1 ⟨Nat.le_of_ble_eq_true rfl, Nat.le_of_ble_eq_true rfl⟩ (Nat.le_of_ble_eq_true rfl) ⟨Nat.zero_le _, Nat.zero_le _⟩ rfl dX4_step_92 (fun H locs hw => ?_)
      refine lv_if_eq (tgt := 105) hx hb dX4_step_95 (by decide) (fun hc => ?_) (fun hc => ?_)
      · rw [if_pos hc] at h
        refine lv_aload_n hx hb dX4_step_105 rfl (lv_at hl 0 rfl) ?_
        refine lv_aload_n hx hb dX4_step_106 rfl (lv_at hl 0 rfl) ?_
        refine gI hC hw fl_X4_73 ok12 (by decide) dX4_step_107 ?_
        obtain ⟨r110, hr110, h⟩ := bnd h
        refine cV (b := 12) (As := [.int (r92.2.1 12 8)]) (rest := []) (st1 := [.int r110.1]) hC hw (c_X4_isLetter l g n (r92.2.1 12 8) r92.2 r110 hr110) ml_X4_175 im_X4_isLetter se_X4_isLetter ok12 (CN := RX4) (T := TX4) (NF := 11) rfl rfl (by decide) rfl hl.1 ⟨Nat.le_of_ble_eq_true rfl, Nat.le_of_ble_eq_true rfl⟩ (Nat.le_of_ble_eq_true rfl) ⟨Nat.zero_le _, Nat.zero_le _⟩ rfl dX4_step_110 (fun H locs hw => ?_)
        refine lv_if_eq (tgt := 123) hx hb dX4_step_113 (by decide) (fun hc => ?_) (fun hc => ?_)
        · rw [if_pos hc] at h
          refine lv_aload_n hx hb dX4_step_123 rfl (lv_at hl 0 rfl) ?_
          refine gR (t := 14) hC hw fl_X4_29 ok12 (by decide) ot12_5 dX4_step_124 ?_
          refine lv_aload_n hx hb dX4_step_127 rfl (lv_at hl 0 rfl) ?_
          refine gI hC hw fl_X4_73 ok12 (by decide) dX4_step_128 ?_
          obtain ⟨hi131, h⟩ := gd_some h
          refine lI (j := (r110.2.1 12 8).toNatClampNeg) hC hw ok14 on14 hi131 rfl dX4_step_131 ?_
          refine lv_bipush (v := (59 : Int32)) hx hb dX4_step_132 (by decide) ?_
          refine lv_icmp_ne (tgt := 155) hx hb dX4_step_134 (by decide) (fun hc => ?_) (fun hc => ?_)
          · rw [if_neg hc] at h
            refine lv_aload_n hx hb dX4_step_155 rfl (lv_at hl 0 rfl) ?_
            refine lv_iconst (v := (4 : Int32)) hx hb dX4_step_156 (by decide) ?_
            refine pI hC hw fl_X4_52 fp_4_7 ok12 dX4_step_157 (fun H locs hw => ?_)
            refine lv_aload_n hx hb dX4_step_160 rfl (lv_at hl 0 rfl) ?_
            refine lv_iconst (v := (1 : Int32)) hx hb dX4_step_161 (by decide) ?_
            obtain ⟨r162, hr162, h⟩ := bnd h
            refine cV (b := 12) (As := [.int (1 : Int32)]) (rest := []) (st1 := []) hC hw (c_X4_refuse l g n (1 : Int32) (si r110.2 12 7 (4 : Int32)) r162 hr162) ml_X4_120 im_X4_refuse se_X4_refuse ok12 (CN := RX4) (T := TX4) (NF := 11) rfl rfl (by decide) rfl hl.1 ⟨Nat.le_of_ble_eq_true rfl, Nat.le_of_ble_eq_true rfl⟩ (Nat.le_of_ble_eq_true rfl) ⟨Nat.zero_le _, Nat.zero_le _⟩ rfl dX4_step_162 (fun H locs hw => ?_)
            exact B165 r162.2 _ _ _ hw (lv_sub hl [] rfl) h
          · rw [if_pos hc] at h
            refine lv_aload_n hx hb dX4_step_137 rfl (lv_at hl 0 rfl) ?_
            refine lv_iconst (v := (3 : Int32)) hx hb dX4_step_138 (by decide) ?_
            refine pI hC hw fl_X4_52 fp_4_7 ok12 dX4_step_139 (fun H locs hw => ?_)
            refine lv_aload_n hx hb dX4_step_142 rfl (lv_at hl 0 rfl) ?_
            refine lv_dup hx hb dX4_step_143 rfl ?_
            refine gI hC hw fl_X4_46 ok12 (by decide) dX4_step_144 ?_
            refine lv_iconst (v := (1 : Int32)) hx hb dX4_step_147 (by decide) ?_
            refine lv_iadd hx hb dX4_step_148 ?_
            refine pI hC hw fl_X4_46 fp_4_9 ok12 dX4_step_149 (fun H locs hw => ?_)
            refine lv_goto (tgt := 165) hx hb dX4_step_152 (by decide) ?_
            exact B165 (si (si r110.2 12 7 (3 : Int32)) 12 9 (((si r110.2 12 7 (3 : Int32)).1 12 9) + (1 : Int32))) _ _ _ hw (lv_sub hl [] rfl) h
        · rw [if_neg hc] at h
          refine lv_aload_n hx hb dX4_step_116 rfl (lv_at hl 0 rfl) ?_
          obtain ⟨r117, hr117, h⟩ := bnd h
          refine cV (b := 12) (As := []) (rest := []) (st1 := []) hC hw (c_X4_stepWord l g n r110.2 r117 hr117) ml_X4_178 im_X4_stepWord se_X4_stepWord ok12 (CN := RX4) (T := TX4) (NF := 11) rfl rfl (by decide) rfl hl.1 ⟨Nat.le_of_ble_eq_true rfl, Nat.le_of_ble_eq_true rfl⟩ (Nat.le_of_ble_eq_true rfl) ⟨Nat.zero_le _, Nat.zero_le _⟩ rfl dX4_step_117 (fun H locs hw => ?_)
          refine lv_goto (tgt := 165) hx hb dX4_step_120 (by decide) ?_
          exact B165 r117.2 _ _ _ hw (lv_sub hl [] rfl) h
      · rw [if_neg hc] at h
        refine lv_aload_n hx hb dX4_step_98 rfl (lv_at hl 0 rfl) ?_
        obtain ⟨r99, hr99, h⟩ := bnd h
        refine cV (b := 12) (As := []) (rest := []) (st1 := []) hC hw (c_X4_stepNumber l g n r92.2 r99 hr99) ml_X4_172 im_X4_stepNumber se_X4_stepNumber ok12 (CN := RX4) (T := TX4) (NF := 11) rfl rfl (by decide) rfl hl.1 ⟨Nat.le_of_ble_eq_true rfl, Nat.le_of_ble_eq_true rfl⟩ (Nat.le_of_ble_eq_true rfl) ⟨Nat.zero_le _, Nat.zero_le _⟩ rfl dX4_step_99 (fun H locs hw => ?_)
        refine lv_goto (tgt := 165) hx hb dX4_step_102 (by decide) ?_
        exact B165 r99.2 _ _ _ hw (lv_sub hl [] rfl) h
    · rw [if_neg hc] at h
      refine lv_aload_n hx hb dX4_step_79 rfl (lv_at hl 0 rfl) ?_
      refine lv_iconst (v := (0 : Int32)) hx hb dX4_step_80 (by decide) ?_
      refine pI hC hw fl_X4_52 fp_4_7 ok12 dX4_step_81 (fun H locs hw => ?_)
      refine lv_goto (tgt := 165) hx hb dX4_step_84 (by decide) ?_
      exact B165 (si (si μ 12 9 (μ.1 12 8)) 12 7 (0 : Int32)) _ _ _ hw (lv_sub hl [] rfl) h
  have B8 : ∀ (k : Nat), ∀ (μ : Mu) (H : Heap) (locs : List Loc) (ls : Array Slot), wd g μ s (Aw g s.heap.size) H locs → lv_has ls 1 [(0, .ref (g.2.2 12))] → lpF (fun _ => none) (X4_step_8b n) k  μ = some r → WQ p l e (rmD 2) s m args below meth c g none r.2 H locs (F0 m 8 ls []) := by
    intro k
    induction k with
    | zero =>
      intro μ H locs ls hw hl h
      cases h
    | succ k ih8 =>
      rw [lpF_s]
      generalize lpF (fun _ => none) (X4_step_8b n) k = k8 at ih8 ⊢
      intro μ H locs ls hw hl h
      have B47 : ∀ (μ : Mu) (H : Heap) (locs : List Loc) (ls : Array Slot), wd g μ s (Aw g s.heap.size) H locs → lv_has ls 1 [(0, .ref (g.2.2 12))] → X4_step_47 n k8  μ = some r → WQ p l e (rmD 2) s m args below meth c g none r.2 H locs (F0 m 47 ls []) := by
        intro μ H locs ls hw hl h
        rw [X4_step_47] at h
        refine lv_aload_n hx hb dX4_step_47 rfl (lv_at hl 0 rfl) ?_
        refine lv_dup hx hb dX4_step_48 rfl ?_
        refine gI hC hw fl_X4_73 ok12 (by decide) dX4_step_49 ?_
        refine lv_iconst (v := (1 : Int32)) hx hb dX4_step_52 (by decide) ?_
        refine lv_iadd hx hb dX4_step_53 ?_
        refine pI hC hw fl_X4_73 fp_4_8 ok12 dX4_step_54 (fun H locs hw => ?_)
        refine lv_goto (tgt := 8) hx hb dX4_step_57 (by decide) ?_
        exact ih8 (si μ 12 8 ((μ.1 12 8) + (1 : Int32))) _ _ _ hw (lv_sub hl [0] rfl) h
      rw [X4_step_8b] at h
      refine lv_aload_n hx hb dX4_step_8 rfl (lv_at hl 0 rfl) ?_
      refine gI hC hw fl_X4_73 ok12 (by decide) dX4_step_9 ?_
      refine lv_aload_n hx hb dX4_step_12 rfl (lv_at hl 0 rfl) ?_
      refine gI hC hw fl_X4_43 ok12 (by decide) dX4_step_13 ?_
      refine lv_icmp_ge (tgt := 60) hx hb dX4_step_16 (by decide) (fun hc => ?_) (fun hc => ?_)
      · rw [if_pos hc] at h
        exact B60 μ _ _ _ hw (lv_sub hl [0] rfl) h
      · rw [if_neg hc] at h
        refine lv_aload_n hx hb dX4_step_19 rfl (lv_at hl 0 rfl) ?_
        refine gR (t := 14) hC hw fl_X4_29 ok12 (by decide) ot12_5 dX4_step_20 ?_
        refine lv_aload_n hx hb dX4_step_23 rfl (lv_at hl 0 rfl) ?_
        refine gI hC hw fl_X4_73 ok12 (by decide) dX4_step_24 ?_
        obtain ⟨hi27, h⟩ := gd_some h
        refine lI (j := (μ.1 12 8).toNatClampNeg) hC hw ok14 on14 hi27 rfl dX4_step_27 ?_
        refine lv_bipush (v := (10 : Int32)) hx hb dX4_step_28 (by decide) ?_
        refine lv_icmp_eq (tgt := 47) hx hb dX4_step_30 (by decide) (fun hc => ?_) (fun hc => ?_)
        · rw [if_pos hc] at h
          exact B47 μ _ _ _ hw (lv_sub hl [0] rfl) h
        · rw [if_neg hc] at h
          refine lv_aload_n hx hb dX4_step_33 rfl (lv_at hl 0 rfl) ?_
          refine gR (t := 14) hC hw fl_X4_29 ok12 (by decide) ot12_5 dX4_step_34 ?_
          refine lv_aload_n hx hb dX4_step_37 rfl (lv_at hl 0 rfl) ?_
          refine gI hC hw fl_X4_73 ok12 (by decide) dX4_step_38 ?_
          refine lI (j := (μ.1 12 8).toNatClampNeg) hC hw ok14 on14 hi27 rfl dX4_step_41 ?_
          refine lv_bipush (v := (32 : Int32)) hx hb dX4_step_42 (by decide) ?_
          refine lv_icmp_ne (tgt := 60) hx hb dX4_step_44 (by decide) (fun hc => ?_) (fun hc => ?_)
          · rw [if_neg hc] at h
            exact B60 μ _ _ _ hw (lv_sub hl [0] rfl) h
          · rw [if_pos hc] at h
            exact B47 μ _ _ _ hw (lv_sub hl [0] rfl) h
  refine lv_aload_n hx hb dX4_step_0 rfl (lv_at hl 0 rfl) ?_
  refine lv_aload_n hx hb dX4_step_1 rfl (lv_at hl 0 rfl) ?_
  refine gI hC hw fl_X4_46 ok12 (by decide) dX4_step_2 ?_
  refine pI hC hw fl_X4_73 fp_4_8 ok12 dX4_step_5 (fun H locs hw => ?_)
  exact B8 n (si μ 12 8 (μ.1 12 9)) _ _ _ hw (lv_sub hl [0] rfl) h
set_option maxRecDepth 100000 in
set_option maxHeartbeats 4000000 in
theorem c_X7_readPosition (l : Launch) (g : Gw) (n : Nat) (v1 : Int32) (v2 : Int32) (v3 : Int32) (μ : Mu) (r : Unit × Mu) (h : X7_readPosition n v1 v2 v3 μ = some r) : Ct l g yX7_readPosition cX7_readPosition 8 none 4 [.ref (g.2.2 15), .int v1, .int v2, .int v3] μ none r.2 := by
  rw [X7_readPosition] at h
  refine Ct.of (by decide) (Nat.le_of_ble_eq_true rfl) ?_
  intro p e s m args below meth c ls hC hw hr hlocks hl
  have hx := hC.1
  have hb := hC.2.1
  have hl : lv_has ls 8 [(0, .ref (g.2.2 15)), (1, .int v1), (2, .int v2), (3, .int v3)] := hl
  have B145 : ∀ (k : Nat), ∀ (v4 : Int32) (v6 : Int32) (v7 : Int32) (μ : Mu) (H : Heap) (locs : List Loc) (ls : Array Slot), wd g μ s (Aw g s.heap.size) H locs → lv_has ls 8 [(0, .ref (g.2.2 15)), (2, .int v2), (4, .int v4), (6, .int v6), (7, .int v7)] → lpF (fun _ _ _ _ => none) (X7_readPosition_145b n v1 v2 v3) k v4 v6 v7 μ = some r → WQ p l e (rmD 4) s m args below meth c g none r.2 H locs (F0 m 145 ls []) := by
    intro k
    induction k with
    | zero =>
      intro v4 v6 v7 μ H locs ls hw hl h
      cases h
    | succ k ih145 =>
      rw [lpF_s]
      generalize lpF (fun _ _ _ _ => none) (X7_readPosition_145b n v1 v2 v3) k = k145 at ih145 ⊢
      intro v4 v6 v7 μ H locs ls hw hl h
      have B176 : ∀ (v4 : Int32) (v6 : Int32) (v7 : Int32) (μ : Mu) (H : Heap) (locs : List Loc) (ls : Array Slot), wd g μ s (Aw g s.heap.size) H locs → lv_has ls 8 [(0, .ref (g.2.2 15)), (2, .int v2), (4, .int v4), (6, .int v6), (7, .int v7)] → X7_readPosition_176 n v1 v2 v3 k145 v4 v6 v7 μ = some r → WQ p l e (rmD 4) s m args below meth c g none r.2 H locs (F0 m 176 ls []) := by
        intro v4 v6 v7 μ H locs ls hw hl h
        rw [X7_readPosition_176] at h
        refine lv_iinc (v := (v7 + (1 : Int32))) (lv' := [(7, .int (v7 + (1 : Int32))), (0, .ref (g.2.2 15)), (2, .int v2), (4, .int v4), (6, .int v6)]) hx hb dX7_readPosition_176 hl (k := 4) rfl rfl (by decide) rfl (fun ls hl => ?_)
        refine lv_goto (tgt := 145) hx hb dX7_readPosition_179 (by decide) ?_
        exact ih145 v4 v6 (v7 + (1 : Int32)) μ _ _ _ hw (lv_sub hl [1, 2, 3, 4, 0] rfl) h
      rw [X7_readPosition_145b] at h
      refine lv_iload hx hb dX7_readPosition_145 (lv_at hl 4 rfl) ?_
      refine lv_aload_n hx hb dX7_readPosition_147 rfl (lv_at hl 0 rfl) ?_
      refine gR (t := 1) hC hw fl_X7_42 ok15 (by decide) ot15_2 dX7_readPosition_148 ?_
      refine gI hC hw fl_X7_116 ok1 (by decide) dX7_readPosition_151 ?_
      refine lv_icmp_ge (tgt := 182) hx hb dX7_readPosition_154 (by decide) (fun hc => ?_) (fun hc => ?_)
      · rw [if_pos hc] at h
        exact rV hC hw hr hlocks rfl (by rw [← Option.some.inj h]) dX7_readPosition_182
      · rw [if_neg hc] at h
        refine lv_iload hx hb dX7_readPosition_157 (lv_at hl 3 rfl) ?_
        refine lv_iload hx hb dX7_readPosition_159 (lv_at hl 4 rfl) ?_
        obtain ⟨r161, hr161, h⟩ := bnd h
        refine cSN (As := [.int v6, .int v7]) (rest := []) (st1 := [.int r161.1]) hC hw (c_X11_has l g n v6 v7 μ r161 hr161) mn_X7_123 st_X11_has rfl hl.1 ⟨Nat.le_of_ble_eq_true rfl, Nat.le_of_ble_eq_true rfl⟩ (Nat.le_of_ble_eq_true rfl) ⟨Nat.zero_le _, Nat.zero_le _⟩ rfl dX7_readPosition_161 (fun H locs hw => ?_)
        refine lv_if_eq (tgt := 176) hx hb dX7_readPosition_164 (by decide) (fun hc => ?_) (fun hc => ?_)
        · rw [if_pos hc] at h
          exact B176 v4 v6 v7 r161.2 _ _ _ hw (lv_sub hl [0, 1, 2, 3, 4] rfl) h
        · rw [if_neg hc] at h
          refine lv_aload_n hx hb dX7_readPosition_167 rfl (lv_at hl 0 rfl) ?_
          refine lv_iload hx hb dX7_readPosition_168 (lv_at hl 2 rfl) ?_
          refine lv_iload_n hx hb dX7_readPosition_170 rfl (lv_at hl 1 rfl) ?_
          refine lv_iload hx hb dX7_readPosition_171 (lv_at hl 4 rfl) ?_
          obtain ⟨r173, hr173, h⟩ := bnd h
          refine cV (b := 15) (As := [.int v4, .int v2, .int v7]) (rest := []) (st1 := []) hC hw (c_X7_readMove l g n v4 v2 v7 r161.2 r173 hr173) ml_X7_127 im_X7_readMove se_X7_readMove ok15 (CN := RX7) (T := TX7) (NF := 13) rfl rfl (by decide) rfl hl.1 ⟨Nat.le_of_ble_eq_true rfl, Nat.le_of_ble_eq_true rfl⟩ (Nat.le_of_ble_eq_true rfl) ⟨Nat.zero_le _, Nat.zero_le _⟩ rfl dX7_readPosition_173 (fun H locs hw => ?_)
          exact B176 v4 v6 v7 r173.2 _ _ _ hw (lv_sub hl [0, 1, 2, 3, 4] rfl) h
  have B142 : ∀ (v4 : Int32) (v6 : Int32) (μ : Mu) (H : Heap) (locs : List Loc) (ls : Array Slot), wd g μ s (Aw g s.heap.size) H locs → lv_has ls 8 [(0, .ref (g.2.2 15)), (2, .int v2), (4, .int v4), (6, .int v6)] → X7_readPosition_142 n v1 v2 v3 v4 v6 μ = some r → WQ p l e (rmD 4) s m args below meth c g none r.2 H locs (F0 m 142 ls []) := by
    intro v4 v6 μ H locs ls hw hl h
    rw [X7_readPosition_142] at h
    refine lv_iconst (v := (0 : Int32)) hx hb dX7_readPosition_142 (by decide) ?_
    refine lv_istore (lv' := [(7, .int (0 : Int32)), (0, .ref (g.2.2 15)), (2, .int v2), (4, .int v4), (6, .int v6)]) hx hb dX7_readPosition_143 hl (by decide) rfl (fun ls hl => ?_)
    exact B145 n v4 v6 (0 : Int32) μ _ _ _ hw (lv_sub hl [1, 2, 3, 4, 0] rfl) h
  refine lv_iload_n hx hb dX7_readPosition_0 rfl (lv_at hl 1 rfl) ?_
  refine lv_sipush (v := (3003 : Int32)) hx hb dX7_readPosition_1 (by decide) ?_
  refine lv_imul hx hb dX7_readPosition_4 ?_
  refine lv_iload_n hx hb dX7_readPosition_5 rfl (lv_at hl 3 rfl) ?_
  refine lv_iadd hx hb dX7_readPosition_6 ?_
  refine lv_istore (lv' := [(4, .int ((v1 * (3003 : Int32)) + v3)), (0, .ref (g.2.2 15)), (1, .int v1), (2, .int v2), (3, .int v3)]) hx hb dX7_readPosition_7 hl (by decide) rfl (fun ls hl => ?_)
  refine lv_aload_n hx hb dX7_readPosition_9 rfl (lv_at hl 1 rfl) ?_
  refine lv_iload_n hx hb dX7_readPosition_10 rfl (lv_at hl 2 rfl) ?_
  refine lv_iload_n hx hb dX7_readPosition_11 rfl (lv_at hl 3 rfl) ?_
  refine lv_iload_n hx hb dX7_readPosition_12 rfl (lv_at hl 4 rfl) ?_
  obtain ⟨r13, hr13, h⟩ := bnd h
  refine cV (b := 15) (As := [.int v1, .int v2, .int v3]) (rest := []) (st1 := [.int r13.1]) hC hw (c_X7_indexOf l g n v1 v2 v3 μ r13 hr13) ml_X7_94 im_X7_indexOf se_X7_indexOf ok15 (CN := RX7) (T := TX7) (NF := 13) rfl rfl (by decide) rfl hl.1 ⟨Nat.le_of_ble_eq_true rfl, Nat.le_of_ble_eq_true rfl⟩ (Nat.le_of_ble_eq_true rfl) ⟨Nat.zero_le _, Nat.zero_le _⟩ rfl dX7_readPosition_13 (fun H locs hw => ?_)
  refine lv_istore (lv' := [(5, .int r13.1), (4, .int ((v1 * (3003 : Int32)) + v3)), (0, .ref (g.2.2 15)), (1, .int v1), (2, .int v2), (3, .int v3)]) hx hb dX7_readPosition_16 hl (by decide) rfl (fun ls hl => ?_)
  refine lv_aload_n hx hb dX7_readPosition_18 rfl (lv_at hl 2 rfl) ?_
  refine gR (t := 2) hC hw fl_X7_46 ok15 (by decide) ot15_3 dX7_readPosition_19 ?_
  refine lv_aload_n hx hb dX7_readPosition_22 rfl (lv_at hl 2 rfl) ?_
  refine gR (t := 151) hC hw fl_X7_21 ok15 (by decide) ot15_5 dX7_readPosition_23 ?_
  refine lv_iload_n hx hb dX7_readPosition_26 rfl (lv_at hl 3 rfl) ?_
  refine lv_iload_n hx hb dX7_readPosition_27 rfl (lv_at hl 4 rfl) ?_
  refine lv_iload_n hx hb dX7_readPosition_28 rfl (lv_at hl 5 rfl) ?_
  obtain ⟨r29, hr29, h⟩ := bnd h
  refine cV (b := 2) (As := [.ref (g.2.2 151), .int v1, .int v2, .int v3]) (rest := []) (st1 := []) hC hw (c_X1_lay l g n 151 v1 v2 v3 r13.2 r29 hr29) ml_X7_106 im_X1_lay se_X1_lay ok2 (CN := RX1) (T := TX1) (NF := 7) rfl rfl (by decide) rfl hl.1 ⟨Nat.le_of_ble_eq_true rfl, Nat.le_of_ble_eq_true rfl⟩ (Nat.le_of_ble_eq_true rfl) ⟨Nat.zero_le _, Nat.zero_le _⟩ rfl dX7_readPosition_29 (fun H locs hw => ?_)
  refine lv_aload_n hx hb dX7_readPosition_32 rfl (lv_at hl 2 rfl) ?_
  refine gR (t := 18) hC hw fl_X7_29 ok15 (by decide) ot15_9 dX7_readPosition_33 ?_
  refine lv_iload hx hb dX7_readPosition_36 (lv_at hl 1 rfl) ?_
  refine lv_sipush (v := ((-1000) : Int32)) hx hb dX7_readPosition_38 (by decide) ?_
  obtain ⟨hi41, h⟩ := gd_some h
  refine sI (j := ((v1 * (3003 : Int32)) + v3).toNatClampNeg) hC hw ok18 on18 hi41 rfl dX7_readPosition_41 (fun H locs hw => ?_)
  refine lv_aload_n hx hb dX7_readPosition_42 rfl (lv_at hl 2 rfl) ?_
  refine gR (t := 20) hC hw fl_X7_35 ok15 (by decide) ot15_11 dX7_readPosition_43 ?_
  refine lv_iload hx hb dX7_readPosition_46 (lv_at hl 1 rfl) ?_
  refine lv_iconst (v := (0 : Int32)) hx hb dX7_readPosition_48 (by decide) ?_
  refine sI (j := ((v1 * (3003 : Int32)) + v3).toNatClampNeg) hC hw ok20 on20 hi41 rfl dX7_readPosition_49 (fun H locs hw => ?_)
  refine lv_aload_n hx hb dX7_readPosition_50 rfl (lv_at hl 2 rfl) ?_
  refine gR (t := 16) hC hw fl_X7_9 ok15 (by decide) ot15_0 dX7_readPosition_51 ?_
  refine lv_iload hx hb dX7_readPosition_54 (lv_at hl 0 rfl) ?_
  refine lv_iconst (v := (0 : Int32)) hx hb dX7_readPosition_56 (by decide) ?_
  obtain ⟨hi57, h⟩ := gd_some h
  refine sI (j := r13.1.toNatClampNeg) hC hw ok16 on16 hi57 rfl dX7_readPosition_57 (fun H locs hw => ?_)
  refine lv_aload_n hx hb dX7_readPosition_58 rfl (lv_at hl 2 rfl) ?_
  refine gR (t := 17) hC hw fl_X7_15 ok15 (by decide) ot15_1 dX7_readPosition_59 ?_
  refine lv_iload hx hb dX7_readPosition_62 (lv_at hl 0 rfl) ?_
  refine lv_iconst (v := (0 : Int32)) hx hb dX7_readPosition_64 (by decide) ?_
  refine sI (j := r13.1.toNatClampNeg) hC hw ok17 on17 hi57 rfl dX7_readPosition_65 (fun H locs hw => ?_)
  refine lv_aload_n hx hb dX7_readPosition_66 rfl (lv_at hl 2 rfl) ?_
  refine gR (t := 6) hC hw fl_X7_50 ok15 (by decide) ot15_4 dX7_readPosition_67 ?_
  refine lv_aload_n hx hb dX7_readPosition_70 rfl (lv_at hl 2 rfl) ?_
  refine gR (t := 151) hC hw fl_X7_21 ok15 (by decide) ot15_5 dX7_readPosition_71 ?_
  obtain ⟨r74, hr74, h⟩ := bnd h
  refine cV (b := 6) (As := [.ref (g.2.2 151)]) (rest := []) (st1 := [.int r74.1]) hC hw (c_X8_tryAll l g n 151 (si (si (si (si r29.2 18 ((v1 * (3003 : Int32)) + v3).toNatClampNeg ((-1000) : Int32)) 20 ((v1 * (3003 : Int32)) + v3).toNatClampNeg (0 : Int32)) 16 r13.1.toNatClampNeg (0 : Int32)) 17 r13.1.toNatClampNeg (0 : Int32)) r74 hr74) ml_X7_110 im_X8_tryAll se_X8_tryAll ok6 (CN := RX8) (T := TX8) (NF := 8) rfl rfl (by decide) rfl hl.1 ⟨Nat.le_of_ble_eq_true rfl, Nat.le_of_ble_eq_true rfl⟩ (Nat.le_of_ble_eq_true rfl) ⟨Nat.zero_le _, Nat.zero_le _⟩ rfl dX7_readPosition_74 (fun H locs hw => ?_)
  refine lv_iload_n hx hb dX7_readPosition_77 rfl (lv_at hl 3 rfl) ?_
  refine lv_aload_n hx hb dX7_readPosition_78 rfl (lv_at hl 2 rfl) ?_
  refine gR (t := 1) hC hw fl_X7_42 ok15 (by decide) ot15_2 dX7_readPosition_79 ?_
  refine gI hC hw fl_X7_116 ok1 (by decide) dX7_readPosition_82 ?_
  refine lv_imul hx hb dX7_readPosition_85 ?_
  refine lv_iushr hx hb dX7_readPosition_86 rfl ?_
  refine lv_istore (lv' := [(6, .int ((r74.1.toUInt32 >>> ((v1 * (r74.2.1 1 1)).toUInt32 &&& Int32.toUInt32 31)).toInt32)), (5, .int r13.1), (4, .int ((v1 * (3003 : Int32)) + v3)), (0, .ref (g.2.2 15)), (1, .int v1), (2, .int v2), (3, .int v3)]) hx hb dX7_readPosition_87 hl (by decide) rfl (fun ls hl => ?_)
  refine lv_iload hx hb dX7_readPosition_89 (lv_at hl 0 rfl) ?_
  refine lv_if_ne (tgt := 142) hx hb dX7_readPosition_91 (by decide) (fun hc => ?_) (fun hc => ?_)
  · rw [if_neg hc] at h
    exact B142 ((v1 * (3003 : Int32)) + v3) ((r74.1.toUInt32 >>> ((v1 * (r74.2.1 1 1)).toUInt32 &&& Int32.toUInt32 31)).toInt32) r74.2 _ _ _ hw (lv_sub hl [3, 5, 2, 0] rfl) h
  · rw [if_pos hc] at h
    refine lv_aload_n hx hb dX7_readPosition_94 rfl (lv_at hl 3 rfl) ?_
    refine gR (t := 16) hC hw fl_X7_9 ok15 (by decide) ot15_0 dX7_readPosition_95 ?_
    refine lv_iload hx hb dX7_readPosition_98 (lv_at hl 1 rfl) ?_
    refine lv_aload_n hx hb dX7_readPosition_100 rfl (lv_at hl 3 rfl) ?_
    refine gR (t := 151) hC hw fl_X7_21 ok15 (by decide) ot15_5 dX7_readPosition_101 ?_
    refine lv_iload_n hx hb dX7_readPosition_104 rfl (lv_at hl 4 rfl) ?_
    refine lv_aload_n hx hb dX7_readPosition_105 rfl (lv_at hl 3 rfl) ?_
    refine gR (t := 1) hC hw fl_X7_42 ok15 (by decide) ot15_2 dX7_readPosition_106 ?_
    refine gI hC hw fl_X7_116 ok1 (by decide) dX7_readPosition_109 ?_
    obtain ⟨r112, hr112, h⟩ := bnd h
    refine cV (b := 151) (As := [.int v1, .int (r74.2.1 1 1)]) (rest := [.int r13.1, .ref (g.2.2 16)]) (st1 := [.int r112.1, .int r13.1, .ref (g.2.2 16)]) hC hw (c_X6_inRow l g n 151 v1 (r74.2.1 1 1) r74.2 r112 hr112) ml_X7_119 im_X6_inRow se_X6_inRow ok151 (CN := RX6) (T := TX6) (NF := 2) rfl rfl (by decide) rfl hl.1 ⟨Nat.le_of_ble_eq_true rfl, Nat.le_of_ble_eq_true rfl⟩ (Nat.le_of_ble_eq_true rfl) ⟨Nat.zero_le _, Nat.zero_le _⟩ rfl dX7_readPosition_112 (fun H locs hw => ?_)
    refine lv_aload_n hx hb dX7_readPosition_115 rfl (lv_at hl 3 rfl) ?_
    refine gR (t := 151) hC hw fl_X7_21 ok15 (by decide) ot15_5 dX7_readPosition_116 ?_
    refine lv_iconst (v := (1 : Int32)) hx hb dX7_readPosition_119 (by decide) ?_
    refine lv_iload_n hx hb dX7_readPosition_120 rfl (lv_at hl 4 rfl) ?_
    refine lv_isub hx hb dX7_readPosition_121 ?_
    refine lv_aload_n hx hb dX7_readPosition_122 rfl (lv_at hl 3 rfl) ?_
    refine gR (t := 1) hC hw fl_X7_42 ok15 (by decide) ot15_2 dX7_readPosition_123 ?_
    refine gI hC hw fl_X7_116 ok1 (by decide) dX7_readPosition_126 ?_
    obtain ⟨r129, hr129, h⟩ := bnd h
    refine cV (b := 151) (As := [.int ((1 : Int32) - v1), .int (r112.2.1 1 1)]) (rest := [.int r112.1, .int r13.1, .ref (g.2.2 16)]) (st1 := [.int r129.1, .int r112.1, .int r13.1, .ref (g.2.2 16)]) hC hw (c_X6_inRow l g n 151 ((1 : Int32) - v1) (r112.2.1 1 1) r112.2 r129 hr129) ml_X7_119 im_X6_inRow se_X6_inRow ok151 (CN := RX6) (T := TX6) (NF := 2) rfl rfl (by decide) rfl hl.1 ⟨Nat.le_of_ble_eq_true rfl, Nat.le_of_ble_eq_true rfl⟩ (Nat.le_of_ble_eq_true rfl) ⟨Nat.zero_le _, Nat.zero_le _⟩ rfl dX7_readPosition_129 (fun H locs hw => ?_)
    refine lv_isub hx hb dX7_readPosition_132 ?_
    refine sI (j := r13.1.toNatClampNeg) hC hw ok16 on16 hi57 rfl dX7_readPosition_133 (fun H locs hw => ?_)
    refine lv_aload_n hx hb dX7_readPosition_134 rfl (lv_at hl 3 rfl) ?_
    refine gR (t := 17) hC hw fl_X7_15 ok15 (by decide) ot15_1 dX7_readPosition_135 ?_
    refine lv_iload hx hb dX7_readPosition_138 (lv_at hl 1 rfl) ?_
    refine lv_iconst (v := ((-1) : Int32)) hx hb dX7_readPosition_140 (by decide) ?_
    refine sI (j := r13.1.toNatClampNeg) hC hw ok17 on17 hi57 rfl dX7_readPosition_141 (fun H locs hw => ?_)
    exact B142 ((v1 * (3003 : Int32)) + v3) ((r74.1.toUInt32 >>> ((v1 * (r74.2.1 1 1)).toUInt32 &&& Int32.toUInt32 31)).toInt32) (si (si r129.2 16 r13.1.toNatClampNeg (r112.1 - r129.1)) 17 r13.1.toNatClampNeg ((-1) : Int32)) _ _ _ hw (lv_sub hl [3, 5, 2, 0] rfl) h
set_option maxRecDepth 100000 in
set_option maxHeartbeats 4000000 in
theorem c_X7_worthBy (l : Launch) (g : Gw) (n : Nat) (v1 : Nat) (v2 : Int32) (μ : Mu) (r : Int32 × Mu) (h : X7_worthBy n v1 v2 μ = some r) : Ct l g yX7_worthBy cX7_worthBy 3 (some .int) 4 [.ref (g.2.2 15), .ref (g.2.2 v1), .int v2] μ (some (.int r.1)) r.2 := by
  rw [X7_worthBy] at h
  obtain ⟨hk1, h⟩ := kd_some h
  refine Ct.of (by decide) (Nat.le_of_ble_eq_true rfl) ?_
  intro p e s m args below meth c ls hC hw hr hlocks hl
  have hx := hC.1
  have hb := hC.2.1
  have hl : lv_has ls 3 [(0, .ref (g.2.2 15)), (1, .ref (g.2.2 v1)), (2, .int v2)] := hl
  have B40 : ∀ (s0 : Int32) (μ : Mu) (H : Heap) (locs : List Loc) (ls : Array Slot), wd g μ s (Aw g s.heap.size) H locs → lv_has ls 3 [] → X7_worthBy_40 n v1 v2 s0 μ = some r → WQ p l e (rmD 4) s m args below meth c g (some (.int r.1)) r.2 H locs (F0 m 40 ls [.int s0]) := by
    intro s0 μ H locs ls hw hl h
    rw [X7_worthBy_40] at h
    exact rI hC hw hr hlocks (by rw [← Option.some.inj h]) (by rw [← Option.some.inj h]) dX7_worthBy_40
  refine lv_aload_n hx hb dX7_worthBy_0 rfl (lv_at hl 0 rfl) ?_
  refine gR (t := 6) hC hw fl_X7_50 ok15 (by decide) ot15_4 dX7_worthBy_1 ?_
  refine lv_aload_n hx hb dX7_worthBy_4 rfl (lv_at hl 1 rfl) ?_
  obtain ⟨r5, hr5, h⟩ := bnd h
  refine cV (b := 6) (As := [.ref (g.2.2 v1)]) (rest := []) (st1 := [.int r5.1]) hC hw (c_X8_tryAll l g n v1 μ r5 hr5) ml_X7_110 im_X8_tryAll se_X8_tryAll ok6 (CN := RX8) (T := TX8) (NF := 8) rfl rfl (by decide) rfl hl.1 ⟨Nat.le_of_ble_eq_true rfl, Nat.le_of_ble_eq_true rfl⟩ (Nat.le_of_ble_eq_true rfl) ⟨Nat.zero_le _, Nat.zero_le _⟩ rfl dX7_worthBy_5 (fun H locs hw => ?_)
  refine lv_iload_n hx hb dX7_worthBy_8 rfl (lv_at hl 2 rfl) ?_
  obtain ⟨r9, hr9, h⟩ := bnd h
  refine cSN (As := [.int r5.1, .int v2]) (rest := []) (st1 := [.int r9.1]) hC hw (c_X11_has l g n r5.1 v2 r5.2 r9 hr9) mn_X7_123 st_X11_has rfl hl.1 ⟨Nat.le_of_ble_eq_true rfl, Nat.le_of_ble_eq_true rfl⟩ (Nat.le_of_ble_eq_true rfl) ⟨Nat.zero_le _, Nat.zero_le _⟩ rfl dX7_worthBy_9 (fun H locs hw => ?_)
  refine lv_if_eq (tgt := 37) hx hb dX7_worthBy_12 (by decide) (fun hc => ?_) (fun hc => ?_)
  · rw [if_pos hc] at h
    refine lv_sipush (v := ((-1000) : Int32)) hx hb dX7_worthBy_37 (by decide) ?_
    exact B40 ((-1000) : Int32) r9.2 _ _ _ hw (lv_sub hl [] rfl) h
  · rw [if_neg hc] at h
    refine lv_aload_n hx hb dX7_worthBy_15 rfl (lv_at hl 0 rfl) ?_
    refine lv_aload_n hx hb dX7_worthBy_16 rfl (lv_at hl 1 rfl) ?_
    refine lv_iload_n hx hb dX7_worthBy_17 rfl (lv_at hl 2 rfl) ?_
    refine lv_aload_n hx hb dX7_worthBy_18 rfl (lv_at hl 1 rfl) ?_
    refine gI hC hw fl_X7_87 hk1 (by decide) dX7_worthBy_19 ?_
    refine lv_aload_n hx hb dX7_worthBy_22 rfl (lv_at hl 0 rfl) ?_
    refine gR (t := 1) hC hw fl_X7_42 ok15 (by decide) ot15_2 dX7_worthBy_23 ?_
    refine gI hC hw fl_X7_116 ok1 (by decide) dX7_worthBy_26 ?_
    refine lv_imul hx hb dX7_worthBy_29 ?_
    refine lv_isub hx hb dX7_worthBy_30 ?_
    obtain ⟨r31, hr31, h⟩ := bnd h
    refine cV (b := 15) (As := [.ref (g.2.2 v1), .int (v2 - ((r9.2.1 v1 1) * (r9.2.1 1 1)))]) (rest := []) (st1 := [.int r31.1]) hC hw (c_X7_worthOfTried l g n v1 (v2 - ((r9.2.1 v1 1) * (r9.2.1 1 1))) r9.2 r31 hr31) ml_X7_154 im_X7_worthOfTried se_X7_worthOfTried ok15 (CN := RX7) (T := TX7) (NF := 13) rfl rfl (by decide) rfl hl.1 ⟨Nat.le_of_ble_eq_true rfl, Nat.le_of_ble_eq_true rfl⟩ (Nat.le_of_ble_eq_true rfl) ⟨Nat.zero_le _, Nat.zero_le _⟩ rfl dX7_worthBy_31 (fun H locs hw => ?_)
    refine lv_goto (tgt := 40) hx hb dX7_worthBy_34 (by decide) ?_
    exact B40 r31.1 r31.2 _ _ _ hw (lv_sub hl [] rfl) h
set_option maxRecDepth 100000 in
set_option maxHeartbeats 4000000 in
theorem c_X7_bestAt (l : Launch) (g : Gw) (n : Nat) (v1 : Nat) (μ : Mu) (r : Int32 × Mu) (h : X7_bestAt n v1 μ = some r) : Ct l g yX7_bestAt cX7_bestAt 8 (some .int) 4 [.ref (g.2.2 15), .ref (g.2.2 v1)] μ (some (.int r.1)) r.2 := by
  rw [X7_bestAt] at h
  obtain ⟨hk1, h⟩ := kd_some h
  refine Ct.of (by decide) (Nat.le_of_ble_eq_true rfl) ?_
  intro p e s m args below meth c ls hC hw hr hlocks hl
  have hx := hC.1
  have hb := hC.2.1
  have hl : lv_has ls 8 [(0, .ref (g.2.2 15)), (1, .ref (g.2.2 v1))] := hl
  have B40 : ∀ (k : Nat), ∀ (v2 : Int32) (v3 : Int32) (v4 : Int32) (v5 : Int32) (v6 : Int32) (v7 : Int32) (μ : Mu) (H : Heap) (locs : List Loc) (ls : Array Slot), wd g μ s (Aw g s.heap.size) H locs → lv_has ls 8 [(0, .ref (g.2.2 15)), (1, .ref (g.2.2 v1)), (2, .int v2), (3, .int v3), (4, .int v4), (5, .int v5), (6, .int v6), (7, .int v7)] → lpF (fun _ _ _ _ _ _ _ => none) (X7_bestAt_40b n v1) k v2 v3 v4 v5 v6 v7 μ = some r → WQ p l e (rmD 4) s m args below meth c g (some (.int r.1)) r.2 H locs (F0 m 40 ls []) := by
    intro k
    induction k with
    | zero =>
      intro v2 v3 v4 v5 v6 v7 μ H locs ls hw hl h
      cases h
    | succ k ih40 =>
      rw [lpF_s]
      generalize lpF (fun _ _ _ _ _ _ _ => none) (X7_bestAt_40b n v1) k = k40 at ih40 ⊢
      intro v2 v3 v4 v5 v6 v7 μ H locs ls hw hl h
      have B100 : ∀ (v2 : Int32) (v3 : Int32) (v4 : Int32) (v5 : Int32) (v6 : Int32) (v7 : Int32) (μ : Mu) (H : Heap) (locs : List Loc) (ls : Array Slot), wd g μ s (Aw g s.heap.size) H locs → lv_has ls 8 [(0, .ref (g.2.2 15)), (1, .ref (g.2.2 v1)), (2, .int v2), (3, .int v3), (4, .int v4), (5, .int v5), (6, .int v6), (7, .int v7)] → X7_bestAt_100 n v1 k40 v2 v3 v4 v5 v6 v7 μ = some r → WQ p l e (rmD 4) s m args below meth c g (some (.int r.1)) r.2 H locs (F0 m 100 ls []) := by
        intro v2 v3 v4 v5 v6 v7 μ H locs ls hw hl h
        rw [X7_bestAt_100] at h
        refine lv_iinc (v := (v7 + (1 : Int32))) (lv' := [(7, .int (v7 + (1 : Int32))), (0, .ref (g.2.2 15)), (1, .ref (g.2.2 v1)), (2, .int v2), (3, .int v3), (4, .int v4), (5, .int v5), (6, .int v6)]) hx hb dX7_bestAt_100 hl (k := 7) rfl rfl (by decide) rfl (fun ls hl => ?_)
        refine lv_goto (tgt := 40) hx hb dX7_bestAt_103 (by decide) ?_
        exact ih40 v2 v3 v4 v5 v6 (v7 + (1 : Int32)) μ _ _ _ hw (lv_sub hl [1, 2, 3, 4, 5, 6, 7, 0] rfl) h
      have B88 : ∀ (v2 : Int32) (v3 : Int32) (v4 : Int32) (v7 : Int32) (μ : Mu) (H : Heap) (locs : List Loc) (ls : Array Slot), wd g μ s (Aw g s.heap.size) H locs → lv_has ls 8 [(0, .ref (g.2.2 15)), (1, .ref (g.2.2 v1)), (2, .int v2), (3, .int v3), (4, .int v4), (7, .int v7)] → X7_bestAt_88 n v1 k40 v2 v3 v4 v7 μ = some r → WQ p l e (rmD 4) s m args below meth c g (some (.int r.1)) r.2 H locs (F0 m 88 ls []) := by
        intro v2 v3 v4 v7 μ H locs ls hw hl h
        rw [X7_bestAt_88] at h
        refine lv_iload_n hx hb dX7_bestAt_88 rfl (lv_at hl 3 rfl) ?_
        refine lv_iload hx hb dX7_bestAt_89 (lv_at hl 5 rfl) ?_
        refine lv_iadd hx hb dX7_bestAt_91 ?_
        refine lv_istore (lv' := [(5, .int (v3 + v7)), (0, .ref (g.2.2 15)), (1, .ref (g.2.2 v1)), (2, .int v2), (3, .int v3), (4, .int v4), (7, .int v7)]) hx hb dX7_bestAt_92 hl (by decide) rfl (fun ls hl => ?_)
        refine lv_aload_n hx hb dX7_bestAt_94 rfl (lv_at hl 1 rfl) ?_
        refine gI hC hw fl_X7_151 ok15 (by decide) dX7_bestAt_95 ?_
        refine lv_istore (lv' := [(6, .int (μ.1 15 8)), (5, .int (v3 + v7)), (0, .ref (g.2.2 15)), (1, .ref (g.2.2 v1)), (2, .int v2), (3, .int v3), (4, .int v4), (7, .int v7)]) hx hb dX7_bestAt_98 hl (by decide) rfl (fun ls hl => ?_)
        exact B100 v2 v3 v4 (v3 + v7) (μ.1 15 8) v7 μ _ _ _ hw (lv_sub hl [2, 3, 4, 5, 6, 1, 0, 7] rfl) h
      rw [X7_bestAt_40b] at h
      refine lv_iload hx hb dX7_bestAt_40 (lv_at hl 7 rfl) ?_
      refine lv_aload_n hx hb dX7_bestAt_42 rfl (lv_at hl 0 rfl) ?_
      refine gR (t := 1) hC hw fl_X7_42 ok15 (by decide) ot15_2 dX7_bestAt_43 ?_
      refine gI hC hw fl_X7_116 ok1 (by decide) dX7_bestAt_46 ?_
      refine lv_icmp_ge (tgt := 106) hx hb dX7_bestAt_49 (by decide) (fun hc => ?_) (fun hc => ?_)
      · rw [if_pos hc] at h
        refine lv_iload hx hb dX7_bestAt_106 (lv_at hl 5 rfl) ?_
        exact rI hC hw hr hlocks (by rw [← Option.some.inj h]) (by rw [← Option.some.inj h]) dX7_bestAt_108
      · rw [if_neg hc] at h
        refine lv_iload hx hb dX7_bestAt_52 (lv_at hl 4 rfl) ?_
        refine lv_iload hx hb dX7_bestAt_54 (lv_at hl 7 rfl) ?_
        obtain ⟨r56, hr56, h⟩ := bnd h
        refine cSN (As := [.int v4, .int v7]) (rest := []) (st1 := [.int r56.1]) hC hw (c_X11_has l g n v4 v7 μ r56 hr56) mn_X7_123 st_X11_has rfl hl.1 ⟨Nat.le_of_ble_eq_true rfl, Nat.le_of_ble_eq_true rfl⟩ (Nat.le_of_ble_eq_true rfl) ⟨Nat.zero_le _, Nat.zero_le _⟩ rfl dX7_bestAt_56 (fun H locs hw => ?_)
        refine lv_if_eq (tgt := 100) hx hb dX7_bestAt_59 (by decide) (fun hc => ?_) (fun hc => ?_)
        · rw [if_pos hc] at h
          exact B100 v2 v3 v4 v5 v6 v7 r56.2 _ _ _ hw (lv_sub hl [0, 1, 2, 3, 4, 5, 6, 7] rfl) h
        · rw [if_neg hc] at h
          refine lv_aload_n hx hb dX7_bestAt_62 rfl (lv_at hl 0 rfl) ?_
          refine lv_aload_n hx hb dX7_bestAt_63 rfl (lv_at hl 1 rfl) ?_
          refine lv_iload hx hb dX7_bestAt_64 (lv_at hl 7 rfl) ?_
          obtain ⟨r66, hr66, h⟩ := bnd h
          refine cV (b := 15) (As := [.ref (g.2.2 v1), .int v7]) (rest := []) (st1 := [.int r66.1]) hC hw (c_X7_worthOfTried l g n v1 v7 r56.2 r66 hr66) ml_X7_154 im_X7_worthOfTried se_X7_worthOfTried ok15 (CN := RX7) (T := TX7) (NF := 13) rfl rfl (by decide) rfl hl.1 ⟨Nat.le_of_ble_eq_true rfl, Nat.le_of_ble_eq_true rfl⟩ (Nat.le_of_ble_eq_true rfl) ⟨Nat.zero_le _, Nat.zero_le _⟩ rfl dX7_bestAt_66 (fun H locs hw => ?_)
          refine lv_iload_n hx hb dX7_bestAt_69 rfl (lv_at hl 2 rfl) ?_
          refine lv_icmp_ne (tgt := 100) hx hb dX7_bestAt_70 (by decide) (fun hc => ?_) (fun hc => ?_)
          · rw [if_neg hc] at h
            exact B100 v2 v3 v4 v5 v6 v7 r66.2 _ _ _ hw (lv_sub hl [0, 1, 2, 3, 4, 5, 6, 7] rfl) h
          · rw [if_pos hc] at h
            refine lv_iload hx hb dX7_bestAt_73 (lv_at hl 5 rfl) ?_
            refine lv_iconst (v := ((-1) : Int32)) hx hb dX7_bestAt_75 (by decide) ?_
            refine lv_icmp_eq (tgt := 88) hx hb dX7_bestAt_76 (by decide) (fun hc => ?_) (fun hc => ?_)
            · rw [if_pos hc] at h
              exact B88 v2 v3 v4 v7 r66.2 _ _ _ hw (lv_sub hl [0, 1, 2, 3, 4, 7] rfl) h
            · rw [if_neg hc] at h
              refine lv_aload_n hx hb dX7_bestAt_79 rfl (lv_at hl 0 rfl) ?_
              refine gI hC hw fl_X7_151 ok15 (by decide) dX7_bestAt_80 ?_
              refine lv_iload hx hb dX7_bestAt_83 (lv_at hl 6 rfl) ?_
              refine lv_icmp_ge (tgt := 100) hx hb dX7_bestAt_85 (by decide) (fun hc => ?_) (fun hc => ?_)
              · rw [if_pos hc] at h
                exact B100 v2 v3 v4 v5 v6 v7 r66.2 _ _ _ hw (lv_sub hl [0, 1, 2, 3, 4, 5, 6, 7] rfl) h
              · rw [if_neg hc] at h
                exact B88 v2 v3 v4 v7 r66.2 _ _ _ hw (lv_sub hl [0, 1, 2, 3, 4, 7] rfl) h
  refine lv_aload_n hx hb dX7_bestAt_0 rfl (lv_at hl 0 rfl) ?_
  refine lv_aload_n hx hb dX7_bestAt_1 rfl (lv_at hl 1 rfl) ?_
  obtain ⟨r2, hr2, h⟩ := bnd h
  refine cV (b := 15) (As := [.ref (g.2.2 v1)]) (rest := []) (st1 := [.int r2.1]) hC hw (c_X7_valueAt l g n v1 μ r2 hr2) ml_X7_157 im_X7_valueAt se_X7_valueAt ok15 (CN := RX7) (T := TX7) (NF := 13) rfl rfl (by decide) rfl hl.1 ⟨Nat.le_of_ble_eq_true rfl, Nat.le_of_ble_eq_true rfl⟩ (Nat.le_of_ble_eq_true rfl) ⟨Nat.zero_le _, Nat.zero_le _⟩ rfl dX7_bestAt_2 (fun H locs hw => ?_)
  refine lv_istore_n (lv' := [(2, .int r2.1), (0, .ref (g.2.2 15)), (1, .ref (g.2.2 v1))]) hx hb dX7_bestAt_5 rfl hl (by decide) rfl (fun ls hl => ?_)
  refine lv_aload_n hx hb dX7_bestAt_6 rfl (lv_at hl 2 rfl) ?_
  refine gI hC hw fl_X7_87 hk1 (by decide) dX7_bestAt_7 ?_
  refine lv_aload_n hx hb dX7_bestAt_10 rfl (lv_at hl 1 rfl) ?_
  refine gR (t := 1) hC hw fl_X7_42 ok15 (by decide) ot15_2 dX7_bestAt_11 ?_
  refine gI hC hw fl_X7_116 ok1 (by decide) dX7_bestAt_14 ?_
  refine lv_imul hx hb dX7_bestAt_17 ?_
  refine lv_istore_n (lv' := [(3, .int ((r2.2.1 v1 1) * (r2.2.1 1 1))), (2, .int r2.1), (0, .ref (g.2.2 15)), (1, .ref (g.2.2 v1))]) hx hb dX7_bestAt_18 rfl hl (by decide) rfl (fun ls hl => ?_)
  refine lv_aload_n hx hb dX7_bestAt_19 rfl (lv_at hl 2 rfl) ?_
  refine gR (t := 6) hC hw fl_X7_50 ok15 (by decide) ot15_4 dX7_bestAt_20 ?_
  refine lv_aload_n hx hb dX7_bestAt_23 rfl (lv_at hl 3 rfl) ?_
  obtain ⟨r24, hr24, h⟩ := bnd h
  refine cV (b := 6) (As := [.ref (g.2.2 v1)]) (rest := []) (st1 := [.int r24.1]) hC hw (c_X8_tryAll l g n v1 r2.2 r24 hr24) ml_X7_110 im_X8_tryAll se_X8_tryAll ok6 (CN := RX8) (T := TX8) (NF := 8) rfl rfl (by decide) rfl hl.1 ⟨Nat.le_of_ble_eq_true rfl, Nat.le_of_ble_eq_true rfl⟩ (Nat.le_of_ble_eq_true rfl) ⟨Nat.zero_le _, Nat.zero_le _⟩ rfl dX7_bestAt_24 (fun H locs hw => ?_)
  refine lv_iload_n hx hb dX7_bestAt_27 rfl (lv_at hl 0 rfl) ?_
  refine lv_iushr hx hb dX7_bestAt_28 rfl ?_
  refine lv_istore (lv' := [(4, .int ((r24.1.toUInt32 >>> (((r2.2.1 v1 1) * (r2.2.1 1 1)).toUInt32 &&& Int32.toUInt32 31)).toInt32)), (3, .int ((r2.2.1 v1 1) * (r2.2.1 1 1))), (2, .int r2.1), (0, .ref (g.2.2 15)), (1, .ref (g.2.2 v1))]) hx hb dX7_bestAt_29 hl (by decide) rfl (fun ls hl => ?_)
  refine lv_iconst (v := ((-1) : Int32)) hx hb dX7_bestAt_31 (by decide) ?_
  refine lv_istore (lv' := [(5, .int ((-1) : Int32)), (4, .int ((r24.1.toUInt32 >>> (((r2.2.1 v1 1) * (r2.2.1 1 1)).toUInt32 &&& Int32.toUInt32 31)).toInt32)), (3, .int ((r2.2.1 v1 1) * (r2.2.1 1 1))), (2, .int r2.1), (0, .ref (g.2.2 15)), (1, .ref (g.2.2 v1))]) hx hb dX7_bestAt_32 hl (by decide) rfl (fun ls hl => ?_)
  refine lv_iconst (v := (0 : Int32)) hx hb dX7_bestAt_34 (by decide) ?_
  refine lv_istore (lv' := [(6, .int (0 : Int32)), (5, .int ((-1) : Int32)), (4, .int ((r24.1.toUInt32 >>> (((r2.2.1 v1 1) * (r2.2.1 1 1)).toUInt32 &&& Int32.toUInt32 31)).toInt32)), (3, .int ((r2.2.1 v1 1) * (r2.2.1 1 1))), (2, .int r2.1), (0, .ref (g.2.2 15)), (1, .ref (g.2.2 v1))]) hx hb dX7_bestAt_35 hl (by decide) rfl (fun ls hl => ?_)
  refine lv_iconst (v := (0 : Int32)) hx hb dX7_bestAt_37 (by decide) ?_
  refine lv_istore (lv' := [(7, .int (0 : Int32)), (6, .int (0 : Int32)), (5, .int ((-1) : Int32)), (4, .int ((r24.1.toUInt32 >>> (((r2.2.1 v1 1) * (r2.2.1 1 1)).toUInt32 &&& Int32.toUInt32 31)).toInt32)), (3, .int ((r2.2.1 v1 1) * (r2.2.1 1 1))), (2, .int r2.1), (0, .ref (g.2.2 15)), (1, .ref (g.2.2 v1))]) hx hb dX7_bestAt_38 hl (by decide) rfl (fun ls hl => ?_)
  exact B40 n r2.1 ((r2.2.1 v1 1) * (r2.2.1 1 1)) ((r24.1.toUInt32 >>> (((r2.2.1 v1 1) * (r2.2.1 1 1)).toUInt32 &&& Int32.toUInt32 31)).toInt32) ((-1) : Int32) (0 : Int32) (0 : Int32) r24.2 _ _ _ hw (lv_sub hl [6, 7, 5, 4, 3, 2, 1, 0] rfl) h
set_option maxRecDepth 100000 in
set_option maxHeartbeats 4000000 in
theorem c_X7_manyBest (l : Launch) (g : Gw) (n : Nat) (v1 : Nat) (μ : Mu) (r : Int32 × Mu) (h : X7_manyBest n v1 μ = some r) : Ct l g yX7_manyBest cX7_manyBest 6 (some .int) 4 [.ref (g.2.2 15), .ref (g.2.2 v1)] μ (some (.int r.1)) r.2 := by
  rw [X7_manyBest] at h
  obtain ⟨hk1, h⟩ := kd_some h
  refine Ct.of (by decide) (Nat.le_of_ble_eq_true rfl) ?_
  intro p e s m args below meth c ls hC hw hr hlocks hl
  have hx := hC.1
  have hb := hC.2.1
  have hl : lv_has ls 6 [(0, .ref (g.2.2 15)), (1, .ref (g.2.2 v1))] := hl
  have B34 : ∀ (k : Nat), ∀ (v2 : Int32) (v3 : Int32) (v4 : Int32) (v5 : Int32) (μ : Mu) (H : Heap) (locs : List Loc) (ls : Array Slot), wd g μ s (Aw g s.heap.size) H locs → lv_has ls 6 [(0, .ref (g.2.2 15)), (1, .ref (g.2.2 v1)), (2, .int v2), (3, .int v3), (4, .int v4), (5, .int v5)] → lpF (fun _ _ _ _ _ => none) (X7_manyBest_34b n v1) k v2 v3 v4 v5 μ = some r → WQ p l e (rmD 4) s m args below meth c g (some (.int r.1)) r.2 H locs (F0 m 34 ls []) := by
    intro k
    induction k with
    | zero =>
      intro v2 v3 v4 v5 μ H locs ls hw hl h
      cases h
    | succ k ih34 =>
      rw [lpF_s]
      generalize lpF (fun _ _ _ _ _ => none) (X7_manyBest_34b n v1) k = k34 at ih34 ⊢
      intro v2 v3 v4 v5 μ H locs ls hw hl h
      have B69 : ∀ (v2 : Int32) (v3 : Int32) (v4 : Int32) (v5 : Int32) (μ : Mu) (H : Heap) (locs : List Loc) (ls : Array Slot), wd g μ s (Aw g s.heap.size) H locs → lv_has ls 6 [(0, .ref (g.2.2 15)), (1, .ref (g.2.2 v1)), (2, .int v2), (3, .int v3), (4, .int v4), (5, .int v5)] → X7_manyBest_69 n v1 k34 v2 v3 v4 v5 μ = some r → WQ p l e (rmD 4) s m args below meth c g (some (.int r.1)) r.2 H locs (F0 m 69 ls []) := by
        intro v2 v3 v4 v5 μ H locs ls hw hl h
        rw [X7_manyBest_69] at h
        refine lv_iinc (v := (v5 + (1 : Int32))) (lv' := [(5, .int (v5 + (1 : Int32))), (0, .ref (g.2.2 15)), (1, .ref (g.2.2 v1)), (2, .int v2), (3, .int v3), (4, .int v4)]) hx hb dX7_manyBest_69 hl (k := 5) rfl rfl (by decide) rfl (fun ls hl => ?_)
        refine lv_goto (tgt := 34) hx hb dX7_manyBest_72 (by decide) ?_
        exact ih34 v2 v3 v4 (v5 + (1 : Int32)) μ _ _ _ hw (lv_sub hl [1, 2, 3, 4, 5, 0] rfl) h
      rw [X7_manyBest_34b] at h
      refine lv_iload hx hb dX7_manyBest_34 (lv_at hl 5 rfl) ?_
      refine lv_aload_n hx hb dX7_manyBest_36 rfl (lv_at hl 0 rfl) ?_
      refine gR (t := 1) hC hw fl_X7_42 ok15 (by decide) ot15_2 dX7_manyBest_37 ?_
      refine gI hC hw fl_X7_116 ok1 (by decide) dX7_manyBest_40 ?_
      refine lv_icmp_ge (tgt := 75) hx hb dX7_manyBest_43 (by decide) (fun hc => ?_) (fun hc => ?_)
      · rw [if_pos hc] at h
        refine lv_iload hx hb dX7_manyBest_75 (lv_at hl 4 rfl) ?_
        exact rI hC hw hr hlocks (by rw [← Option.some.inj h]) (by rw [← Option.some.inj h]) dX7_manyBest_77
      · rw [if_neg hc] at h
        refine lv_iload_n hx hb dX7_manyBest_46 rfl (lv_at hl 3 rfl) ?_
        refine lv_iload hx hb dX7_manyBest_47 (lv_at hl 5 rfl) ?_
        obtain ⟨r49, hr49, h⟩ := bnd h
        refine cSN (As := [.int v3, .int v5]) (rest := []) (st1 := [.int r49.1]) hC hw (c_X11_has l g n v3 v5 μ r49 hr49) mn_X7_123 st_X11_has rfl hl.1 ⟨Nat.le_of_ble_eq_true rfl, Nat.le_of_ble_eq_true rfl⟩ (Nat.le_of_ble_eq_true rfl) ⟨Nat.zero_le _, Nat.zero_le _⟩ rfl dX7_manyBest_49 (fun H locs hw => ?_)
        refine lv_if_eq (tgt := 69) hx hb dX7_manyBest_52 (by decide) (fun hc => ?_) (fun hc => ?_)
        · rw [if_pos hc] at h
          exact B69 v2 v3 v4 v5 r49.2 _ _ _ hw (lv_sub hl [0, 1, 2, 3, 4, 5] rfl) h
        · rw [if_neg hc] at h
          refine lv_aload_n hx hb dX7_manyBest_55 rfl (lv_at hl 0 rfl) ?_
          refine lv_aload_n hx hb dX7_manyBest_56 rfl (lv_at hl 1 rfl) ?_
          refine lv_iload hx hb dX7_manyBest_57 (lv_at hl 5 rfl) ?_
          obtain ⟨r59, hr59, h⟩ := bnd h
          refine cV (b := 15) (As := [.ref (g.2.2 v1), .int v5]) (rest := []) (st1 := [.int r59.1]) hC hw (c_X7_worthOfTried l g n v1 v5 r49.2 r59 hr59) ml_X7_154 im_X7_worthOfTried se_X7_worthOfTried ok15 (CN := RX7) (T := TX7) (NF := 13) rfl rfl (by decide) rfl hl.1 ⟨Nat.le_of_ble_eq_true rfl, Nat.le_of_ble_eq_true rfl⟩ (Nat.le_of_ble_eq_true rfl) ⟨Nat.zero_le _, Nat.zero_le _⟩ rfl dX7_manyBest_59 (fun H locs hw => ?_)
          refine lv_iload_n hx hb dX7_manyBest_62 rfl (lv_at hl 2 rfl) ?_
          refine lv_icmp_ne (tgt := 69) hx hb dX7_manyBest_63 (by decide) (fun hc => ?_) (fun hc => ?_)
          · rw [if_neg hc] at h
            exact B69 v2 v3 v4 v5 r59.2 _ _ _ hw (lv_sub hl [0, 1, 2, 3, 4, 5] rfl) h
          · rw [if_pos hc] at h
            refine lv_iinc (v := (v4 + (1 : Int32))) (lv' := [(4, .int (v4 + (1 : Int32))), (0, .ref (g.2.2 15)), (1, .ref (g.2.2 v1)), (2, .int v2), (3, .int v3), (5, .int v5)]) hx hb dX7_manyBest_66 hl (k := 4) rfl rfl (by decide) rfl (fun ls hl => ?_)
            exact B69 v2 v3 (v4 + (1 : Int32)) v5 r59.2 _ _ _ hw (lv_sub hl [1, 2, 3, 4, 0, 5] rfl) h
  refine lv_aload_n hx hb dX7_manyBest_0 rfl (lv_at hl 0 rfl) ?_
  refine lv_aload_n hx hb dX7_manyBest_1 rfl (lv_at hl 1 rfl) ?_
  obtain ⟨r2, hr2, h⟩ := bnd h
  refine cV (b := 15) (As := [.ref (g.2.2 v1)]) (rest := []) (st1 := [.int r2.1]) hC hw (c_X7_valueAt l g n v1 μ r2 hr2) ml_X7_157 im_X7_valueAt se_X7_valueAt ok15 (CN := RX7) (T := TX7) (NF := 13) rfl rfl (by decide) rfl hl.1 ⟨Nat.le_of_ble_eq_true rfl, Nat.le_of_ble_eq_true rfl⟩ (Nat.le_of_ble_eq_true rfl) ⟨Nat.zero_le _, Nat.zero_le _⟩ rfl dX7_manyBest_2 (fun H locs hw => ?_)
  refine lv_istore_n (lv' := [(2, .int r2.1), (0, .ref (g.2.2 15)), (1, .ref (g.2.2 v1))]) hx hb dX7_manyBest_5 rfl hl (by decide) rfl (fun ls hl => ?_)
  refine lv_aload_n hx hb dX7_manyBest_6 rfl (lv_at hl 1 rfl) ?_
  refine gR (t := 6) hC hw fl_X7_50 ok15 (by decide) ot15_4 dX7_manyBest_7 ?_
  refine lv_aload_n hx hb dX7_manyBest_10 rfl (lv_at hl 2 rfl) ?_
  obtain ⟨r11, hr11, h⟩ := bnd h
  refine cV (b := 6) (As := [.ref (g.2.2 v1)]) (rest := []) (st1 := [.int r11.1]) hC hw (c_X8_tryAll l g n v1 r2.2 r11 hr11) ml_X7_110 im_X8_tryAll se_X8_tryAll ok6 (CN := RX8) (T := TX8) (NF := 8) rfl rfl (by decide) rfl hl.1 ⟨Nat.le_of_ble_eq_true rfl, Nat.le_of_ble_eq_true rfl⟩ (Nat.le_of_ble_eq_true rfl) ⟨Nat.zero_le _, Nat.zero_le _⟩ rfl dX7_manyBest_11 (fun H locs hw => ?_)
  refine lv_aload_n hx hb dX7_manyBest_14 rfl (lv_at hl 2 rfl) ?_
  refine gI hC hw fl_X7_87 hk1 (by decide) dX7_manyBest_15 ?_
  refine lv_aload_n hx hb dX7_manyBest_18 rfl (lv_at hl 1 rfl) ?_
  refine gR (t := 1) hC hw fl_X7_42 ok15 (by decide) ot15_2 dX7_manyBest_19 ?_
  refine gI hC hw fl_X7_116 ok1 (by decide) dX7_manyBest_22 ?_
  refine lv_imul hx hb dX7_manyBest_25 ?_
  refine lv_iushr hx hb dX7_manyBest_26 rfl ?_
  refine lv_istore_n (lv' := [(3, .int ((r11.1.toUInt32 >>> (((r11.2.1 v1 1) * (r11.2.1 1 1)).toUInt32 &&& Int32.toUInt32 31)).toInt32)), (2, .int r2.1), (0, .ref (g.2.2 15)), (1, .ref (g.2.2 v1))]) hx hb dX7_manyBest_27 rfl hl (by decide) rfl (fun ls hl => ?_)
  refine lv_iconst (v := (0 : Int32)) hx hb dX7_manyBest_28 (by decide) ?_
  refine lv_istore (lv' := [(4, .int (0 : Int32)), (3, .int ((r11.1.toUInt32 >>> (((r11.2.1 v1 1) * (r11.2.1 1 1)).toUInt32 &&& Int32.toUInt32 31)).toInt32)), (2, .int r2.1), (0, .ref (g.2.2 15)), (1, .ref (g.2.2 v1))]) hx hb dX7_manyBest_29 hl (by decide) rfl (fun ls hl => ?_)
  refine lv_iconst (v := (0 : Int32)) hx hb dX7_manyBest_31 (by decide) ?_
  refine lv_istore (lv' := [(5, .int (0 : Int32)), (4, .int (0 : Int32)), (3, .int ((r11.1.toUInt32 >>> (((r11.2.1 v1 1) * (r11.2.1 1 1)).toUInt32 &&& Int32.toUInt32 31)).toInt32)), (2, .int r2.1), (0, .ref (g.2.2 15)), (1, .ref (g.2.2 v1))]) hx hb dX7_manyBest_32 hl (by decide) rfl (fun ls hl => ?_)
  exact B34 n r2.1 ((r11.1.toUInt32 >>> (((r11.2.1 v1 1) * (r11.2.1 1 1)).toUInt32 &&& Int32.toUInt32 31)).toInt32) (0 : Int32) (0 : Int32) r11.2 _ _ _ hw (lv_sub hl [4, 5, 3, 2, 1, 0] rfl) h
set_option maxRecDepth 100000 in
set_option maxHeartbeats 4000000 in
theorem c_X8_choices (l : Launch) (g : Gw) (n : Nat) (v1 : Nat) (μ : Mu) (r : Int32 × Mu) (h : X8_choices n v1 μ = some r) : Ct l g yX8_choices cX8_choices 2 (some .int) 4 [.ref (g.2.2 6), .ref (g.2.2 v1)] μ (some (.int r.1)) r.2 := by
  rw [X8_choices] at h
  obtain ⟨hk1, h⟩ := kd_some h
  refine Ct.of (by decide) (Nat.le_of_ble_eq_true rfl) ?_
  intro p e s m args below meth c ls hC hw hr hlocks hl
  have hx := hC.1
  have hb := hC.2.1
  have hl : lv_has ls 2 [(0, .ref (g.2.2 6)), (1, .ref (g.2.2 v1))] := hl
  have B39 : ∀ (s0 : Int32) (μ : Mu) (H : Heap) (locs : List Loc) (ls : Array Slot), wd g μ s (Aw g s.heap.size) H locs → lv_has ls 2 [] → X8_choices_39 n v1 s0 μ = some r → WQ p l e (rmD 4) s m args below meth c g (some (.int r.1)) r.2 H locs (F0 m 39 ls [.int s0]) := by
    intro s0 μ H locs ls hw hl h
    rw [X8_choices_39] at h
    exact rI hC hw hr hlocks (by rw [← Option.some.inj h]) (by rw [← Option.some.inj h]) dX8_choices_39
  have B20 : ∀ (μ : Mu) (H : Heap) (locs : List Loc) (ls : Array Slot), wd g μ s (Aw g s.heap.size) H locs → lv_has ls 2 [(0, .ref (g.2.2 6)), (1, .ref (g.2.2 v1))] → X8_choices_20 n v1  μ = some r → WQ p l e (rmD 4) s m args below meth c g (some (.int r.1)) r.2 H locs (F0 m 20 ls []) := by
    intro μ H locs ls hw hl h
    rw [X8_choices_20] at h
    refine lv_aload_n hx hb dX8_choices_20 rfl (lv_at hl 0 rfl) ?_
    refine lv_aload_n hx hb dX8_choices_21 rfl (lv_at hl 1 rfl) ?_
    obtain ⟨r22, hr22, h⟩ := bnd h
    refine cV (b := 6) (As := [.ref (g.2.2 v1)]) (rest := []) (st1 := [.int r22.1]) hC hw (c_X8_tryAll l g n v1 μ r22 hr22) ml_X8_101 im_X8_tryAll se_X8_tryAll ok6 (CN := RX8) (T := TX8) (NF := 8) rfl rfl (by decide) rfl hl.1 ⟨Nat.le_of_ble_eq_true rfl, Nat.le_of_ble_eq_true rfl⟩ (Nat.le_of_ble_eq_true rfl) ⟨Nat.zero_le _, Nat.zero_le _⟩ rfl dX8_choices_22 (fun H locs hw => ?_)
    refine lv_goto (tgt := 39) hx hb dX8_choices_25 (by decide) ?_
    exact B39 r22.1 r22.2 _ _ _ hw (lv_sub hl [] rfl) h
  refine lv_aload_n hx hb dX8_choices_0 rfl (lv_at hl 0 rfl) ?_
  refine gR (t := 1) hC hw fl_X8_21 ok6 (by decide) ot6_6 dX8_choices_1 ?_
  refine gI hC hw fl_X8_95 ok1 (by decide) dX8_choices_4 ?_
  refine lv_if_ne (tgt := 20) hx hb dX8_choices_7 (by decide) (fun hc => ?_) (fun hc => ?_)
  · rw [if_neg hc] at h
    exact B20 μ _ _ _ hw (lv_sub hl [0, 1] rfl) h
  · rw [if_pos hc] at h
    refine lv_aload_n hx hb dX8_choices_10 rfl (lv_at hl 0 rfl) ?_
    refine gR (t := 2) hC hw fl_X8_25 ok6 (by decide) ot6_7 dX8_choices_11 ?_
    refine gI hC hw fl_X8_98 ok2 (by decide) dX8_choices_14 ?_
    refine lv_if_eq (tgt := 28) hx hb dX8_choices_17 (by decide) (fun hc => ?_) (fun hc => ?_)
    · rw [if_pos hc] at h
      refine lv_aload_n hx hb dX8_choices_28 rfl (lv_at hl 1 rfl) ?_
      refine lv_aload_n hx hb dX8_choices_29 rfl (lv_at hl 0 rfl) ?_
      refine gR (t := 1) hC hw fl_X8_21 ok6 (by decide) ot6_6 dX8_choices_30 ?_
      refine gI hC hw fl_X8_34 ok1 (by decide) dX8_choices_33 ?_
      obtain ⟨r36, hr36, h⟩ := bnd h
      refine cV (b := v1) (As := [.int (μ.1 1 1)]) (rest := []) (st1 := [.int r36.1]) hC hw (c_X6_filled l g n v1 (μ.1 1 1) μ r36 hr36) ml_X8_104 im_X6_filled se_X6_filled hk1 (CN := RX6) (T := TX6) (NF := 2) rfl rfl (by decide) rfl hl.1 ⟨Nat.le_of_ble_eq_true rfl, Nat.le_of_ble_eq_true rfl⟩ (Nat.le_of_ble_eq_true rfl) ⟨Nat.zero_le _, Nat.zero_le _⟩ rfl dX8_choices_36 (fun H locs hw => ?_)
      exact B39 r36.1 r36.2 _ _ _ hw (lv_sub hl [] rfl) h
    · rw [if_neg hc] at h
      exact B20 μ _ _ _ hw (lv_sub hl [0, 1] rfl) h
set_option maxRecDepth 100000 in
set_option maxHeartbeats 4000000 in
theorem c_X8_reason (l : Launch) (g : Gw) (n : Nat) (v1 : Nat) (v2 : Int64) (μ : Mu) (r : Int32 × Mu) (h : X8_reason n v1 v2 μ = some r) : Ct l g yX8_reason cX8_reason 6 (some .int) 5 [.ref (g.2.2 6), .ref (g.2.2 v1), .long v2] μ (some (.int r.1)) r.2 := by
  rw [X8_reason] at h
  obtain ⟨hk1, h⟩ := kd_some h
  refine Ct.of (by decide) (Nat.le_of_ble_eq_true rfl) ?_
  intro p e s m args below meth c ls hC hw hr hlocks hl
  have hx := hC.1
  have hb := hC.2.1
  have hl : lv_has ls 6 [(0, .ref (g.2.2 6)), (1, .ref (g.2.2 v1)), (2, .long v2)] := hl
  have B81 : ∀ (s0 : Int32) (μ : Mu) (H : Heap) (locs : List Loc) (ls : Array Slot), wd g μ s (Aw g s.heap.size) H locs → lv_has ls 6 [] → X8_reason_81 n v1 v2 s0 μ = some r → WQ p l e (rmD 5) s m args below meth c g (some (.int r.1)) r.2 H locs (F0 m 81 ls [.int s0]) := by
    intro s0 μ H locs ls hw hl h
    rw [X8_reason_81] at h
    exact rI hC hw hr hlocks (by rw [← Option.some.inj h]) (by rw [← Option.some.inj h]) dX8_reason_81
  refine lv_aload_n hx hb dX8_reason_0 rfl (lv_at hl 0 rfl) ?_
  refine lv_aload_n hx hb dX8_reason_1 rfl (lv_at hl 1 rfl) ?_
  obtain ⟨r2, hr2, h⟩ := bnd h
  refine cV (b := 6) (As := [.ref (g.2.2 v1)]) (rest := []) (st1 := [.int r2.1]) hC hw (c_X8_choices l g n v1 μ r2 hr2) ml_X8_119 im_X8_choices se_X8_choices ok6 (CN := RX8) (T := TX8) (NF := 8) rfl rfl (by decide) rfl hl.1 ⟨Nat.le_of_ble_eq_true rfl, Nat.le_of_ble_eq_true rfl⟩ (Nat.le_of_ble_eq_true rfl) ⟨Nat.zero_le _, Nat.zero_le _⟩ rfl dX8_reason_2 (fun H locs hw => ?_)
  refine lv_istore (lv' := [(4, .int r2.1), (0, .ref (g.2.2 6)), (1, .ref (g.2.2 v1)), (2, .long v2)]) hx hb dX8_reason_5 hl (by decide) rfl (fun ls hl => ?_)
  refine lv_iload hx hb dX8_reason_7 (lv_at hl 0 rfl) ?_
  refine lv_if_ne (tgt := 14) hx hb dX8_reason_9 (by decide) (fun hc => ?_) (fun hc => ?_)
  · rw [if_neg hc] at h
    refine lv_aload_n hx hb dX8_reason_14 rfl (lv_at hl 1 rfl) ?_
    refine lv_aload_n hx hb dX8_reason_15 rfl (lv_at hl 2 rfl) ?_
    refine lv_lload_n hx hb dX8_reason_16 rfl (lv_at hl 3 rfl) ?_
    obtain ⟨r17, hr17, h⟩ := bnd h
    refine cV (b := 6) (As := [.ref (g.2.2 v1), .long v2]) (rest := []) (st1 := [.int r17.1]) hC hw (c_X8_isOwn l g n v1 v2 r2.2 r17 hr17) ml_X8_68 im_X8_isOwn se_X8_isOwn ok6 (CN := RX8) (T := TX8) (NF := 8) rfl rfl (by decide) rfl hl.1 ⟨Nat.le_of_ble_eq_true rfl, Nat.le_of_ble_eq_true rfl⟩ (Nat.le_of_ble_eq_true rfl) ⟨Nat.zero_le _, Nat.zero_le _⟩ rfl dX8_reason_17 (fun H locs hw => ?_)
    refine lv_if_ne (tgt := 25) hx hb dX8_reason_20 (by decide) (fun hc => ?_) (fun hc => ?_)
    · rw [if_neg hc] at h
      refine lv_lload_n hx hb dX8_reason_25 rfl (lv_at hl 3 rfl) ?_
      refine lv_l2i hx hb dX8_reason_26 rfl ?_
      refine lv_istore (lv' := [(5, .int (v2.toInt32)), (4, .int r2.1), (0, .ref (g.2.2 6)), (1, .ref (g.2.2 v1)), (2, .long v2)]) hx hb dX8_reason_27 hl (by decide) rfl (fun ls hl => ?_)
      refine lv_aload_n hx hb dX8_reason_29 rfl (lv_at hl 3 rfl) ?_
      refine gR (t := (v1 + 1)) hC hw fl_X8_43 hk1 (by decide) (sc_T hk1) dX8_reason_30 ?_
      refine lv_iload hx hb dX8_reason_33 (lv_at hl 0 rfl) ?_
      obtain ⟨hi35, h⟩ := gd_some h
      refine lI (j := (v2.toInt32).toNatClampNeg) hC hw (sc_K hk1) (sc_N hk1) hi35 rfl dX8_reason_35 ?_
      refine lv_if_ne (tgt := 41) hx hb dX8_reason_36 (by decide) (fun hc => ?_) (fun hc => ?_)
      · rw [if_neg hc] at h
        refine lv_iload hx hb dX8_reason_41 (lv_at hl 1 rfl) ?_
        refine lv_iload hx hb dX8_reason_43 (lv_at hl 0 rfl) ?_
        obtain ⟨r45, hr45, h⟩ := bnd h
        refine cSN (As := [.int r2.1, .int (v2.toInt32)]) (rest := []) (st1 := [.int r45.1]) hC hw (c_X11_has l g n r2.1 (v2.toInt32) r17.2 r45 hr45) mn_X8_122 st_X11_has rfl hl.1 ⟨Nat.le_of_ble_eq_true rfl, Nat.le_of_ble_eq_true rfl⟩ (Nat.le_of_ble_eq_true rfl) ⟨Nat.zero_le _, Nat.zero_le _⟩ rfl dX8_reason_45 (fun H locs hw => ?_)
        refine lv_if_eq (tgt := 53) hx hb dX8_reason_48 (by decide) (fun hc => ?_) (fun hc => ?_)
        · rw [if_pos hc] at h
          refine lv_aload_n hx hb dX8_reason_53 rfl (lv_at hl 2 rfl) ?_
          refine lv_aload_n hx hb dX8_reason_54 rfl (lv_at hl 3 rfl) ?_
          refine lv_iload hx hb dX8_reason_55 (lv_at hl 0 rfl) ?_
          refine lv_aload_n hx hb dX8_reason_57 rfl (lv_at hl 3 rfl) ?_
          refine gI hC hw fl_X8_30 hk1 (by decide) dX8_reason_58 ?_
          refine lv_aload_n hx hb dX8_reason_61 rfl (lv_at hl 2 rfl) ?_
          refine gR (t := 1) hC hw fl_X8_21 ok6 (by decide) ot6_6 dX8_reason_62 ?_
          refine gI hC hw fl_X8_34 ok1 (by decide) dX8_reason_65 ?_
          refine lv_imul hx hb dX8_reason_68 ?_
          refine lv_isub hx hb dX8_reason_69 ?_
          obtain ⟨r70, hr70, h⟩ := bnd h
          refine cV (b := 6) (As := [.ref (g.2.2 v1), .int ((v2.toInt32) - ((r45.2.1 v1 1) * (r45.2.1 1 1)))]) (rest := []) (st1 := [.int r70.1]) hC hw (c_X8_isLong l g n v1 ((v2.toInt32) - ((r45.2.1 v1 1) * (r45.2.1 1 1))) r45.2 r70 hr70) ml_X8_116 im_X8_isLong se_X8_isLong ok6 (CN := RX8) (T := TX8) (NF := 8) rfl rfl (by decide) rfl hl.1 ⟨Nat.le_of_ble_eq_true rfl, Nat.le_of_ble_eq_true rfl⟩ (Nat.le_of_ble_eq_true rfl) ⟨Nat.zero_le _, Nat.zero_le _⟩ rfl dX8_reason_70 (fun H locs hw => ?_)
          refine lv_if_eq (tgt := 80) hx hb dX8_reason_73 (by decide) (fun hc => ?_) (fun hc => ?_)
          · rw [if_pos hc] at h
            refine lv_iconst (v := (4 : Int32)) hx hb dX8_reason_80 (by decide) ?_
            exact B81 (4 : Int32) r70.2 _ _ _ hw (lv_sub hl [] rfl) h
          · rw [if_neg hc] at h
            refine lv_iconst (v := (3 : Int32)) hx hb dX8_reason_76 (by decide) ?_
            refine lv_goto (tgt := 81) hx hb dX8_reason_77 (by decide) ?_
            exact B81 (3 : Int32) r70.2 _ _ _ hw (lv_sub hl [] rfl) h
        · rw [if_neg hc] at h
          refine lv_iconst (v := (0 : Int32)) hx hb dX8_reason_51 (by decide) ?_
          exact rI hC hw hr hlocks (by rw [← Option.some.inj h]) (by rw [← Option.some.inj h]) dX8_reason_52
      · rw [if_pos hc] at h
        refine lv_iconst (v := (2 : Int32)) hx hb dX8_reason_39 (by decide) ?_
        exact rI hC hw hr hlocks (by rw [← Option.some.inj h]) (by rw [← Option.some.inj h]) dX8_reason_40
    · rw [if_pos hc] at h
      refine lv_iconst (v := (1 : Int32)) hx hb dX8_reason_23 (by decide) ?_
      exact rI hC hw hr hlocks (by rw [← Option.some.inj h]) (by rw [← Option.some.inj h]) dX8_reason_24
  · rw [if_pos hc] at h
    refine lv_iconst (v := (5 : Int32)) hx hb dX8_reason_12 (by decide) ?_
    exact rI hC hw hr hlocks (by rw [← Option.some.inj h]) (by rw [← Option.some.inj h]) dX8_reason_13
set_option maxRecDepth 100000 in
set_option maxHeartbeats 4000000 in
theorem c_X10_goByBest (l : Launch) (g : Gw) (n : Nat) (v1 : Nat) (μ : Mu) (r : Unit × Mu) (h : X10_goByBest n v1 μ = some r) : Ct l g yX10_goByBest cX10_goByBest 4 none 5 [.ref (g.2.2 22), .ref (g.2.2 v1)] μ none r.2 := by
  rw [X10_goByBest] at h
  obtain ⟨hk1, h⟩ := kd_some h
  refine Ct.of (by decide) (Nat.le_of_ble_eq_true rfl) ?_
  intro p e s m args below meth c ls hC hw hr hlocks hl
  have hx := hC.1
  have hb := hC.2.1
  have hl : lv_has ls 4 [(0, .ref (g.2.2 22)), (1, .ref (g.2.2 v1))] := hl
  have B94 : ∀ (μ : Mu) (H : Heap) (locs : List Loc) (ls : Array Slot), wd g μ s (Aw g s.heap.size) H locs → lv_has ls 4 [] → X10_goByBest_94 n v1  μ = some r → WQ p l e (rmD 5) s m args below meth c g none r.2 H locs (F0 m 94 ls []) := by
    intro μ H locs ls hw hl h
    rw [X10_goByBest_94] at h
    exact rV hC hw hr hlocks rfl (by rw [← Option.some.inj h]) dX10_goByBest_94
  have B24 : ∀ (k : Nat), ∀ (v2 : Int32) (μ : Mu) (H : Heap) (locs : List Loc) (ls : Array Slot), wd g μ s (Aw g s.heap.size) H locs → lv_has ls 4 [(0, .ref (g.2.2 22)), (2, .int v2)] → lpF (fun _ _ => none) (X10_goByBest_24b n v1) k v2 μ = some r → WQ p l e (rmD 5) s m args below meth c g none r.2 H locs (F0 m 24 ls []) := by
    intro k
    induction k with
    | zero =>
      intro v2 μ H locs ls hw hl h
      cases h
    | succ k ih24 =>
      rw [lpF_s]
      generalize lpF (fun _ _ => none) (X10_goByBest_24b n v1) k = k24 at ih24 ⊢
      intro v2 μ H locs ls hw hl h
      rw [X10_goByBest_24b] at h
      refine lv_iload_n hx hb dX10_goByBest_24 rfl (lv_at hl 1 rfl) ?_
      refine lv_bipush (v := (60 : Int32)) hx hb dX10_goByBest_25 (by decide) ?_
      refine lv_icmp_ge (tgt := 94) hx hb dX10_goByBest_27 (by decide) (fun hc => ?_) (fun hc => ?_)
      · rw [if_pos hc] at h
        exact B94 μ _ _ _ hw (lv_sub hl [] rfl) h
      · rw [if_neg hc] at h
        refine lv_aload_n hx hb dX10_goByBest_30 rfl (lv_at hl 0 rfl) ?_
        refine gI hC hw fl_X10_41 ok22 (by decide) dX10_goByBest_31 ?_
        refine lv_if_ne (tgt := 94) hx hb dX10_goByBest_34 (by decide) (fun hc => ?_) (fun hc => ?_)
        · rw [if_neg hc] at h
          exact B94 μ _ _ _ hw (lv_sub hl [] rfl) h
        · rw [if_pos hc] at h
          refine lv_aload_n hx hb dX10_goByBest_37 rfl (lv_at hl 0 rfl) ?_
          refine gR (t := 15) hC hw fl_X10_29 ok22 (by decide) ot22_5 dX10_goByBest_38 ?_
          refine lv_aload_n hx hb dX10_goByBest_41 rfl (lv_at hl 0 rfl) ?_
          refine gR (t := 153) hC hw fl_X10_12 ok22 (by decide) ot22_0 dX10_goByBest_42 ?_
          obtain ⟨r45, hr45, h⟩ := bnd h
          refine cV (b := 15) (As := [.ref (g.2.2 153)]) (rest := []) (st1 := [.int r45.1]) hC hw (c_X7_bestAt l g n 153 μ r45 hr45) ml_X10_60 im_X7_bestAt se_X7_bestAt ok15 (CN := RX7) (T := TX7) (NF := 13) rfl rfl (by decide) rfl hl.1 ⟨Nat.le_of_ble_eq_true rfl, Nat.le_of_ble_eq_true rfl⟩ (Nat.le_of_ble_eq_true rfl) ⟨Nat.zero_le _, Nat.zero_le _⟩ rfl dX10_goByBest_45 (fun H locs hw => ?_)
          refine lv_istore_n (lv' := [(3, .int r45.1), (0, .ref (g.2.2 22)), (2, .int v2)]) hx hb dX10_goByBest_48 rfl hl (by decide) rfl (fun ls hl => ?_)
          refine lv_iload_n hx hb dX10_goByBest_49 rfl (lv_at hl 0 rfl) ?_
          refine lv_iconst (v := ((-1) : Int32)) hx hb dX10_goByBest_50 (by decide) ?_
          refine lv_icmp_ne (tgt := 55) hx hb dX10_goByBest_51 (by decide) (fun hc => ?_) (fun hc => ?_)
          · rw [if_neg hc] at h
            refine lv_aload_n hx hb dX10_goByBest_55 rfl (lv_at hl 1 rfl) ?_
            refine lv_iload_n hx hb dX10_goByBest_56 rfl (lv_at hl 0 rfl) ?_
            obtain ⟨r57, hr57, h⟩ := bnd h
            refine cV (b := 22) (As := [.int r45.1]) (rest := []) (st1 := []) hC hw (c_X10_go l g n r45.1 r45.2 r57 hr57) ml_X10_63 im_X10_go se_X10_go ok22 (CN := RX10) (T := TX10) (NF := 7) rfl rfl (by decide) rfl hl.1 ⟨Nat.le_of_ble_eq_true rfl, Nat.le_of_ble_eq_true rfl⟩ (Nat.le_of_ble_eq_true rfl) ⟨Nat.zero_le _, Nat.zero_le _⟩ rfl dX10_goByBest_57 (fun H locs hw => ?_)
            refine lv_aload_n hx hb dX10_goByBest_60 rfl (lv_at hl 1 rfl) ?_
            refine gR (t := 24) hC hw fl_X10_22 ok22 (by decide) ot22_6 dX10_goByBest_61 ?_
            refine lv_aload_n hx hb dX10_goByBest_64 rfl (lv_at hl 1 rfl) ?_
            refine gI hC hw fl_X10_37 ok22 (by decide) dX10_goByBest_65 ?_
            refine lv_aload_n hx hb dX10_goByBest_68 rfl (lv_at hl 1 rfl) ?_
            refine gR (t := 15) hC hw fl_X10_29 ok22 (by decide) ot22_5 dX10_goByBest_69 ?_
            refine lv_aload_n hx hb dX10_goByBest_72 rfl (lv_at hl 1 rfl) ?_
            refine gR (t := 153) hC hw fl_X10_12 ok22 (by decide) ot22_0 dX10_goByBest_73 ?_
            obtain ⟨r76, hr76, h⟩ := bnd h
            refine cV (b := 15) (As := [.ref (g.2.2 153)]) (rest := [.int (r57.2.1 22 2), .ref (g.2.2 24)]) (st1 := [.int r76.1, .int (r57.2.1 22 2), .ref (g.2.2 24)]) hC hw (c_X7_markOf l g n 153 r57.2 r76 hr76) ml_X10_54 im_X7_markOf se_X7_markOf ok15 (CN := RX7) (T := TX7) (NF := 13) rfl rfl (by decide) rfl hl.1 ⟨Nat.le_of_ble_eq_true rfl, Nat.le_of_ble_eq_true rfl⟩ (Nat.le_of_ble_eq_true rfl) ⟨Nat.zero_le _, Nat.zero_le _⟩ rfl dX10_goByBest_76 (fun H locs hw => ?_)
            obtain ⟨hi79, h⟩ := gd_some h
            refine sI (j := (r57.2.1 22 2).toNatClampNeg) hC hw ok24 on24 hi79 rfl dX10_goByBest_79 (fun H locs hw => ?_)
            refine lv_aload_n hx hb dX10_goByBest_80 rfl (lv_at hl 1 rfl) ?_
            refine lv_aload_n hx hb dX10_goByBest_81 rfl (lv_at hl 1 rfl) ?_
            obtain ⟨r82, hr82, h⟩ := bnd h
            refine cV (b := 22) (As := []) (rest := [.ref (g.2.2 22)]) (st1 := [.int r82.1, .ref (g.2.2 22)]) hC hw (c_X10_isMarkedAgain l g n (si r76.2 24 (r57.2.1 22 2).toNatClampNeg r76.1) r82 hr82) ml_X10_67 im_X10_isMarkedAgain se_X10_isMarkedAgain ok22 (CN := RX10) (T := TX10) (NF := 7) rfl rfl (by decide) rfl hl.1 ⟨Nat.le_of_ble_eq_true rfl, Nat.le_of_ble_eq_true rfl⟩ (Nat.le_of_ble_eq_true rfl) ⟨Nat.zero_le _, Nat.zero_le _⟩ rfl dX10_goByBest_82 (fun H locs hw => ?_)
            obtain ⟨hz85, h⟩ := bz_some h
            refine pZ hC hw fl_X10_41 fp_10_3 ok22 hz85 dX10_goByBest_85 (fun H locs hw => ?_)
            refine lv_iinc (v := (v2 + (1 : Int32))) (lv' := [(2, .int (v2 + (1 : Int32))), (3, .int r45.1), (0, .ref (g.2.2 22))]) hx hb dX10_goByBest_88 hl (k := 2) rfl rfl (by decide) rfl (fun ls hl => ?_)
            refine lv_goto (tgt := 24) hx hb dX10_goByBest_91 (by decide) ?_
            exact ih24 (v2 + (1 : Int32)) (si r82.2 22 3 r82.1) _ _ _ hw (lv_sub hl [2, 0] rfl) h
          · rw [if_pos hc] at h
            exact rV hC hw hr hlocks rfl (by rw [← Option.some.inj h]) dX10_goByBest_54
  refine lv_aload_n hx hb dX10_goByBest_0 rfl (lv_at hl 0 rfl) ?_
  refine lv_aload_n hx hb dX10_goByBest_1 rfl (lv_at hl 1 rfl) ?_
  obtain ⟨r2, hr2, h⟩ := bnd h
  refine cV (b := 22) (As := [.ref (g.2.2 v1)]) (rest := []) (st1 := []) hC hw (c_X10_begin l g n v1 μ r2 hr2) ml_X10_51 im_X10_begin se_X10_begin ok22 (CN := RX10) (T := TX10) (NF := 7) rfl rfl (by decide) rfl hl.1 ⟨Nat.le_of_ble_eq_true rfl, Nat.le_of_ble_eq_true rfl⟩ (Nat.le_of_ble_eq_true rfl) ⟨Nat.zero_le _, Nat.zero_le _⟩ rfl dX10_goByBest_2 (fun H locs hw => ?_)
  refine lv_aload_n hx hb dX10_goByBest_5 rfl (lv_at hl 0 rfl) ?_
  refine gR (t := 24) hC hw fl_X10_22 ok22 (by decide) ot22_6 dX10_goByBest_6 ?_
  refine lv_iconst (v := (0 : Int32)) hx hb dX10_goByBest_9 (by decide) ?_
  refine lv_aload_n hx hb dX10_goByBest_10 rfl (lv_at hl 0 rfl) ?_
  refine gR (t := 15) hC hw fl_X10_29 ok22 (by decide) ot22_5 dX10_goByBest_11 ?_
  refine lv_aload_n hx hb dX10_goByBest_14 rfl (lv_at hl 0 rfl) ?_
  refine gR (t := 153) hC hw fl_X10_12 ok22 (by decide) ot22_0 dX10_goByBest_15 ?_
  obtain ⟨r18, hr18, h⟩ := bnd h
  refine cV (b := 15) (As := [.ref (g.2.2 153)]) (rest := [.int (0 : Int32), .ref (g.2.2 24)]) (st1 := [.int r18.1, .int (0 : Int32), .ref (g.2.2 24)]) hC hw (c_X7_markOf l g n 153 r2.2 r18 hr18) ml_X10_54 im_X7_markOf se_X7_markOf ok15 (CN := RX7) (T := TX7) (NF := 13) rfl rfl (by decide) rfl hl.1 ⟨Nat.le_of_ble_eq_true rfl, Nat.le_of_ble_eq_true rfl⟩ (Nat.le_of_ble_eq_true rfl) ⟨Nat.zero_le _, Nat.zero_le _⟩ rfl dX10_goByBest_18 (fun H locs hw => ?_)
  refine sI (j := 0) hC hw ok24 on24 (vin (by decide)) (by decide) dX10_goByBest_21 (fun H locs hw => ?_)
  refine lv_iconst (v := (0 : Int32)) hx hb dX10_goByBest_22 (by decide) ?_
  refine lv_istore_n (lv' := [(2, .int (0 : Int32)), (0, .ref (g.2.2 22)), (1, .ref (g.2.2 v1))]) hx hb dX10_goByBest_23 rfl hl (by decide) rfl (fun ls hl => ?_)
  exact B24 n (0 : Int32) (si r18.2 24 0 r18.1) _ _ _ hw (lv_sub hl [1, 0] rfl) h
set_option maxRecDepth 100000 in
set_option maxHeartbeats 4000000 in
theorem c_X10_goWhileForced (l : Launch) (g : Gw) (n : Nat) (v1 : Nat) (μ : Mu) (r : Unit × Mu) (h : X10_goWhileForced n v1 μ = some r) : Ct l g yX10_goWhileForced cX10_goWhileForced 4 none 5 [.ref (g.2.2 22), .ref (g.2.2 v1)] μ none r.2 := by
  rw [X10_goWhileForced] at h
  obtain ⟨hk1, h⟩ := kd_some h
  refine Ct.of (by decide) (Nat.le_of_ble_eq_true rfl) ?_
  intro p e s m args below meth c ls hC hw hr hlocks hl
  have hx := hC.1
  have hb := hC.2.1
  have hl : lv_has ls 4 [(0, .ref (g.2.2 22)), (1, .ref (g.2.2 v1))] := hl
  have B7 : ∀ (k : Nat), ∀ (v2 : Int32) (μ : Mu) (H : Heap) (locs : List Loc) (ls : Array Slot), wd g μ s (Aw g s.heap.size) H locs → lv_has ls 4 [(0, .ref (g.2.2 22)), (2, .int v2)] → lpF (fun _ _ => none) (X10_goWhileForced_7b n v1) k v2 μ = some r → WQ p l e (rmD 5) s m args below meth c g none r.2 H locs (F0 m 7 ls []) := by
    intro k
    induction k with
    | zero =>
      intro v2 μ H locs ls hw hl h
      cases h
    | succ k ih7 =>
      rw [lpF_s]
      generalize lpF (fun _ _ => none) (X10_goWhileForced_7b n v1) k = k7 at ih7 ⊢
      intro v2 μ H locs ls hw hl h
      rw [X10_goWhileForced_7b] at h
      refine lv_iload_n hx hb dX10_goWhileForced_7 rfl (lv_at hl 1 rfl) ?_
      refine lv_bipush (v := (60 : Int32)) hx hb dX10_goWhileForced_8 (by decide) ?_
      refine lv_icmp_ge (tgt := 49) hx hb dX10_goWhileForced_10 (by decide) (fun hc => ?_) (fun hc => ?_)
      · rw [if_pos hc] at h
        exact rV hC hw hr hlocks rfl (by rw [← Option.some.inj h]) dX10_goWhileForced_49
      · rw [if_neg hc] at h
        refine lv_aload_n hx hb dX10_goWhileForced_13 rfl (lv_at hl 0 rfl) ?_
        refine gR (t := 6) hC hw fl_X10_25 ok22 (by decide) ot22_4 dX10_goWhileForced_14 ?_
        refine lv_aload_n hx hb dX10_goWhileForced_17 rfl (lv_at hl 0 rfl) ?_
        refine gR (t := 153) hC hw fl_X10_12 ok22 (by decide) ot22_0 dX10_goWhileForced_18 ?_
        obtain ⟨r21, hr21, h⟩ := bnd h
        refine cV (b := 6) (As := [.ref (g.2.2 153)]) (rest := []) (st1 := [.int r21.1]) hC hw (c_X8_choices l g n 153 μ r21 hr21) ml_X10_71 im_X8_choices se_X8_choices ok6 (CN := RX8) (T := TX8) (NF := 8) rfl rfl (by decide) rfl hl.1 ⟨Nat.le_of_ble_eq_true rfl, Nat.le_of_ble_eq_true rfl⟩ (Nat.le_of_ble_eq_true rfl) ⟨Nat.zero_le _, Nat.zero_le _⟩ rfl dX10_goWhileForced_21 (fun H locs hw => ?_)
        refine lv_istore_n (lv' := [(3, .int r21.1), (0, .ref (g.2.2 22)), (2, .int v2)]) hx hb dX10_goWhileForced_24 rfl hl (by decide) rfl (fun ls hl => ?_)
        refine lv_iload_n hx hb dX10_goWhileForced_25 rfl (lv_at hl 0 rfl) ?_
        obtain ⟨r26, hr26, h⟩ := bnd h
        refine cS (As := [.int r21.1]) (rest := []) (st1 := [.int r26.1]) hC hw (c_J6_bitCount_0f7a4 l g n r21.1 r21.2 r26 hr26) ml_X10_74 st_J6_bitCount_0f7a4 rfl hl.1 ⟨Nat.le_of_ble_eq_true rfl, Nat.le_of_ble_eq_true rfl⟩ (Nat.le_of_ble_eq_true rfl) ⟨Nat.zero_le _, Nat.zero_le _⟩ rfl dX10_goWhileForced_26 (fun H locs hw => ?_)
        refine lv_iconst (v := (1 : Int32)) hx hb dX10_goWhileForced_29 (by decide) ?_
        refine lv_icmp_eq (tgt := 34) hx hb dX10_goWhileForced_30 (by decide) (fun hc => ?_) (fun hc => ?_)
        · rw [if_pos hc] at h
          refine lv_aload_n hx hb dX10_goWhileForced_34 rfl (lv_at hl 1 rfl) ?_
          refine lv_iload_n hx hb dX10_goWhileForced_35 rfl (lv_at hl 0 rfl) ?_
          refine lv_iconst (v := (0 : Int32)) hx hb dX10_goWhileForced_36 (by decide) ?_
          obtain ⟨r37, hr37, h⟩ := bnd h
          refine cS (As := [.int r21.1, .int (0 : Int32)]) (rest := [.ref (g.2.2 22)]) (st1 := [.int r37.1, .ref (g.2.2 22)]) hC hw (c_X10_pick l g n r21.1 (0 : Int32) r26.2 r37 hr37) ml_X10_80 st_X10_pick rfl hl.1 ⟨Nat.le_of_ble_eq_true rfl, Nat.le_of_ble_eq_true rfl⟩ (Nat.le_of_ble_eq_true rfl) ⟨Nat.zero_le _, Nat.zero_le _⟩ rfl dX10_goWhileForced_37 (fun H locs hw => ?_)
          obtain ⟨r40, hr40, h⟩ := bnd h
          refine cV (b := 22) (As := [.int r37.1]) (rest := []) (st1 := []) hC hw (c_X10_go l g n r37.1 r37.2 r40 hr40) ml_X10_63 im_X10_go se_X10_go ok22 (CN := RX10) (T := TX10) (NF := 7) rfl rfl (by decide) rfl hl.1 ⟨Nat.le_of_ble_eq_true rfl, Nat.le_of_ble_eq_true rfl⟩ (Nat.le_of_ble_eq_true rfl) ⟨Nat.zero_le _, Nat.zero_le _⟩ rfl dX10_goWhileForced_40 (fun H locs hw => ?_)
          refine lv_iinc (v := (v2 + (1 : Int32))) (lv' := [(2, .int (v2 + (1 : Int32))), (3, .int r21.1), (0, .ref (g.2.2 22))]) hx hb dX10_goWhileForced_43 hl (k := 2) rfl rfl (by decide) rfl (fun ls hl => ?_)
          refine lv_goto (tgt := 7) hx hb dX10_goWhileForced_46 (by decide) ?_
          exact ih7 (v2 + (1 : Int32)) r40.2 _ _ _ hw (lv_sub hl [2, 0] rfl) h
        · rw [if_neg hc] at h
          exact rV hC hw hr hlocks rfl (by rw [← Option.some.inj h]) dX10_goWhileForced_33
  refine lv_aload_n hx hb dX10_goWhileForced_0 rfl (lv_at hl 0 rfl) ?_
  refine lv_aload_n hx hb dX10_goWhileForced_1 rfl (lv_at hl 1 rfl) ?_
  obtain ⟨r2, hr2, h⟩ := bnd h
  refine cV (b := 22) (As := [.ref (g.2.2 v1)]) (rest := []) (st1 := []) hC hw (c_X10_begin l g n v1 μ r2 hr2) ml_X10_51 im_X10_begin se_X10_begin ok22 (CN := RX10) (T := TX10) (NF := 7) rfl rfl (by decide) rfl hl.1 ⟨Nat.le_of_ble_eq_true rfl, Nat.le_of_ble_eq_true rfl⟩ (Nat.le_of_ble_eq_true rfl) ⟨Nat.zero_le _, Nat.zero_le _⟩ rfl dX10_goWhileForced_2 (fun H locs hw => ?_)
  refine lv_iconst (v := (0 : Int32)) hx hb dX10_goWhileForced_5 (by decide) ?_
  refine lv_istore_n (lv' := [(2, .int (0 : Int32)), (0, .ref (g.2.2 22)), (1, .ref (g.2.2 v1))]) hx hb dX10_goWhileForced_6 rfl hl (by decide) rfl (fun ls hl => ?_)
  exact B7 n (0 : Int32) r2.2 _ _ _ hw (lv_sub hl [1, 0] rfl) h
set_option maxRecDepth 100000 in
set_option maxHeartbeats 4000000 in
theorem c_X10_goByDraws (l : Launch) (g : Gw) (n : Nat) (v1 : Nat) (v2 : Int32) (v3 : Int32) (μ : Mu) (r : Unit × Mu) (h : X10_goByDraws n v1 v2 v3 μ = some r) : Ct l g yX10_goByDraws cX10_goByDraws 7 none 5 [.ref (g.2.2 22), .ref (g.2.2 v1), .int v2, .int v3] μ none r.2 := by
  rw [X10_goByDraws] at h
  obtain ⟨hk1, h⟩ := kd_some h
  refine Ct.of (by decide) (Nat.le_of_ble_eq_true rfl) ?_
  intro p e s m args below meth c ls hC hw hr hlocks hl
  have hx := hC.1
  have hb := hC.2.1
  have hl : lv_has ls 7 [(0, .ref (g.2.2 22)), (1, .ref (g.2.2 v1)), (2, .int v2), (3, .int v3)] := hl
  have B11 : ∀ (k : Nat), ∀ (v4 : Int32) (v5 : Int32) (μ : Mu) (H : Heap) (locs : List Loc) (ls : Array Slot), wd g μ s (Aw g s.heap.size) H locs → lv_has ls 7 [(0, .ref (g.2.2 22)), (3, .int v3), (4, .int v4), (5, .int v5)] → lpF (fun _ _ _ => none) (X10_goByDraws_11b n v1 v2 v3) k v4 v5 μ = some r → WQ p l e (rmD 5) s m args below meth c g none r.2 H locs (F0 m 11 ls []) := by
    intro k
    induction k with
    | zero =>
      intro v4 v5 μ H locs ls hw hl h
      cases h
    | succ k ih11 =>
      rw [lpF_s]
      generalize lpF (fun _ _ _ => none) (X10_goByDraws_11b n v1 v2 v3) k = k11 at ih11 ⊢
      intro v4 v5 μ H locs ls hw hl h
      have B81 : ∀ (v4 : Int32) (v5 : Int32) (v6 : Int32) (μ : Mu) (H : Heap) (locs : List Loc) (ls : Array Slot), wd g μ s (Aw g s.heap.size) H locs → lv_has ls 7 [(0, .ref (g.2.2 22)), (3, .int v3), (4, .int v4), (5, .int v5), (6, .int v6)] → X10_goByDraws_81 n v1 v2 v3 k11 v4 v5 v6 μ = some r → WQ p l e (rmD 5) s m args below meth c g none r.2 H locs (F0 m 81 ls []) := by
        intro v4 v5 v6 μ H locs ls hw hl h
        rw [X10_goByDraws_81] at h
        refine lv_iload hx hb dX10_goByDraws_81 (lv_at hl 4 rfl) ?_
        refine lv_iconst (v := ((-1) : Int32)) hx hb dX10_goByDraws_83 (by decide) ?_
        refine lv_icmp_ne (tgt := 88) hx hb dX10_goByDraws_84 (by decide) (fun hc => ?_) (fun hc => ?_)
        · rw [if_neg hc] at h
          refine lv_aload_n hx hb dX10_goByDraws_88 rfl (lv_at hl 0 rfl) ?_
          refine lv_iload hx hb dX10_goByDraws_89 (lv_at hl 4 rfl) ?_
          obtain ⟨r91, hr91, h⟩ := bnd h
          refine cV (b := 22) (As := [.int v6]) (rest := []) (st1 := []) hC hw (c_X10_go l g n v6 μ r91 hr91) ml_X10_63 im_X10_go se_X10_go ok22 (CN := RX10) (T := TX10) (NF := 7) rfl rfl (by decide) rfl hl.1 ⟨Nat.le_of_ble_eq_true rfl, Nat.le_of_ble_eq_true rfl⟩ (Nat.le_of_ble_eq_true rfl) ⟨Nat.zero_le _, Nat.zero_le _⟩ rfl dX10_goByDraws_91 (fun H locs hw => ?_)
          refine lv_iinc (v := (v5 + (1 : Int32))) (lv' := [(5, .int (v5 + (1 : Int32))), (0, .ref (g.2.2 22)), (3, .int v3), (4, .int v4), (6, .int v6)]) hx hb dX10_goByDraws_94 hl (k := 3) rfl rfl (by decide) rfl (fun ls hl => ?_)
          refine lv_goto (tgt := 11) hx hb dX10_goByDraws_97 (by decide) ?_
          exact ih11 v4 (v5 + (1 : Int32)) r91.2 _ _ _ hw (lv_sub hl [1, 2, 3, 0] rfl) h
        · rw [if_pos hc] at h
          exact rV hC hw hr hlocks rfl (by rw [← Option.some.inj h]) dX10_goByDraws_87
      have B49 : ∀ (v4 : Int32) (v5 : Int32) (μ : Mu) (H : Heap) (locs : List Loc) (ls : Array Slot), wd g μ s (Aw g s.heap.size) H locs → lv_has ls 7 [(0, .ref (g.2.2 22)), (3, .int v3), (4, .int v4), (5, .int v5)] → X10_goByDraws_49 n v1 v2 v3 k11 v4 v5 μ = some r → WQ p l e (rmD 5) s m args below meth c g none r.2 H locs (F0 m 49 ls []) := by
        intro v4 v5 μ H locs ls hw hl h
        rw [X10_goByDraws_49] at h
        refine lv_ldc (v := (1103515245 : Int32)) hx hb hC.2.2.2.1 (hC.2.2.2.2.1 _ cn_X10_87) dX10_goByDraws_49 ?_
        refine lv_iload hx hb dX10_goByDraws_51 (lv_at hl 2 rfl) ?_
        refine lv_imul hx hb dX10_goByDraws_53 ?_
        refine lv_sipush (v := (12345 : Int32)) hx hb dX10_goByDraws_54 (by decide) ?_
        refine lv_iadd hx hb dX10_goByDraws_57 ?_
        refine lv_istore (lv' := [(4, .int (((1103515245 : Int32) * v4) + (12345 : Int32))), (0, .ref (g.2.2 22)), (3, .int v3), (5, .int v5)]) hx hb dX10_goByDraws_58 hl (by decide) rfl (fun ls hl => ?_)
        refine lv_aload_n hx hb dX10_goByDraws_60 rfl (lv_at hl 1 rfl) ?_
        refine gR (t := 6) hC hw fl_X10_25 ok22 (by decide) ot22_4 dX10_goByDraws_61 ?_
        refine lv_aload_n hx hb dX10_goByDraws_64 rfl (lv_at hl 1 rfl) ?_
        refine gR (t := 153) hC hw fl_X10_12 ok22 (by decide) ot22_0 dX10_goByDraws_65 ?_
        obtain ⟨r68, hr68, h⟩ := bnd h
        refine cV (b := 6) (As := [.ref (g.2.2 153)]) (rest := []) (st1 := [.int r68.1]) hC hw (c_X8_choices l g n 153 μ r68 hr68) ml_X10_71 im_X8_choices se_X8_choices ok6 (CN := RX8) (T := TX8) (NF := 8) rfl rfl (by decide) rfl hl.1 ⟨Nat.le_of_ble_eq_true rfl, Nat.le_of_ble_eq_true rfl⟩ (Nat.le_of_ble_eq_true rfl) ⟨Nat.zero_le _, Nat.zero_le _⟩ rfl dX10_goByDraws_68 (fun H locs hw => ?_)
        refine lv_iload hx hb dX10_goByDraws_71 (lv_at hl 0 rfl) ?_
        refine lv_bipush (v := (16 : Int32)) hx hb dX10_goByDraws_73 (by decide) ?_
        refine lv_iushr hx hb dX10_goByDraws_75 rfl ?_
        obtain ⟨r76, hr76, h⟩ := bnd h
        refine cS (As := [.int r68.1, .int (((((1103515245 : Int32) * v4) + (12345 : Int32)).toUInt32 >>> ((16 : Int32).toUInt32 &&& Int32.toUInt32 31)).toInt32)]) (rest := []) (st1 := [.int r76.1]) hC hw (c_X10_pick l g n r68.1 (((((1103515245 : Int32) * v4) + (12345 : Int32)).toUInt32 >>> ((16 : Int32).toUInt32 &&& Int32.toUInt32 31)).toInt32) r68.2 r76 hr76) ml_X10_80 st_X10_pick rfl hl.1 ⟨Nat.le_of_ble_eq_true rfl, Nat.le_of_ble_eq_true rfl⟩ (Nat.le_of_ble_eq_true rfl) ⟨Nat.zero_le _, Nat.zero_le _⟩ rfl dX10_goByDraws_76 (fun H locs hw => ?_)
        refine lv_istore (lv' := [(6, .int r76.1), (4, .int (((1103515245 : Int32) * v4) + (12345 : Int32))), (0, .ref (g.2.2 22)), (3, .int v3), (5, .int v5)]) hx hb dX10_goByDraws_79 hl (by decide) rfl (fun ls hl => ?_)
        exact B81 (((1103515245 : Int32) * v4) + (12345 : Int32)) v5 r76.1 r76.2 _ _ _ hw (lv_sub hl [2, 3, 1, 4, 0] rfl) h
      rw [X10_goByDraws_11b] at h
      refine lv_iload hx hb dX10_goByDraws_11 (lv_at hl 3 rfl) ?_
      refine lv_bipush (v := (100 : Int32)) hx hb dX10_goByDraws_13 (by decide) ?_
      refine lv_icmp_ge (tgt := 100) hx hb dX10_goByDraws_15 (by decide) (fun hc => ?_) (fun hc => ?_)
      · rw [if_pos hc] at h
        exact rV hC hw hr hlocks rfl (by rw [← Option.some.inj h]) dX10_goByDraws_100
      · rw [if_neg hc] at h
        refine lv_iload_n hx hb dX10_goByDraws_18 rfl (lv_at hl 1 rfl) ?_
        refine lv_if_eq (tgt := 49) hx hb dX10_goByDraws_19 (by decide) (fun hc => ?_) (fun hc => ?_)
        · rw [if_pos hc] at h
          exact B49 v4 v5 μ _ _ _ hw (lv_sub hl [0, 1, 2, 3] rfl) h
        · rw [if_neg hc] at h
          refine lv_aload_n hx hb dX10_goByDraws_22 rfl (lv_at hl 0 rfl) ?_
          refine gR (t := 153) hC hw fl_X10_12 ok22 (by decide) ot22_0 dX10_goByDraws_23 ?_
          refine gI hC hw fl_X10_84 ok153 (by decide) dX10_goByDraws_26 ?_
          refine lv_iconst (v := (1 : Int32)) hx hb dX10_goByDraws_29 (by decide) ?_
          refine lv_icmp_ne (tgt := 49) hx hb dX10_goByDraws_30 (by decide) (fun hc => ?_) (fun hc => ?_)
          · rw [if_neg hc] at h
            exact B49 v4 v5 μ _ _ _ hw (lv_sub hl [0, 1, 2, 3] rfl) h
          · rw [if_pos hc] at h
            refine lv_aload_n hx hb dX10_goByDraws_33 rfl (lv_at hl 0 rfl) ?_
            refine gR (t := 15) hC hw fl_X10_29 ok22 (by decide) ot22_5 dX10_goByDraws_34 ?_
            refine lv_aload_n hx hb dX10_goByDraws_37 rfl (lv_at hl 0 rfl) ?_
            refine gR (t := 153) hC hw fl_X10_12 ok22 (by decide) ot22_0 dX10_goByDraws_38 ?_
            obtain ⟨r41, hr41, h⟩ := bnd h
            refine cV (b := 15) (As := [.ref (g.2.2 153)]) (rest := []) (st1 := [.int r41.1]) hC hw (c_X7_bestAt l g n 153 μ r41 hr41) ml_X10_60 im_X7_bestAt se_X7_bestAt ok15 (CN := RX7) (T := TX7) (NF := 13) rfl rfl (by decide) rfl hl.1 ⟨Nat.le_of_ble_eq_true rfl, Nat.le_of_ble_eq_true rfl⟩ (Nat.le_of_ble_eq_true rfl) ⟨Nat.zero_le _, Nat.zero_le _⟩ rfl dX10_goByDraws_41 (fun H locs hw => ?_)
            refine lv_istore (lv' := [(6, .int r41.1), (0, .ref (g.2.2 22)), (3, .int v3), (4, .int v4), (5, .int v5)]) hx hb dX10_goByDraws_44 hl (by decide) rfl (fun ls hl => ?_)
            refine lv_goto (tgt := 81) hx hb dX10_goByDraws_46 (by decide) ?_
            exact B81 v4 v5 r41.1 r41.2 _ _ _ hw (lv_sub hl [1, 2, 3, 4, 0] rfl) h
  refine lv_aload_n hx hb dX10_goByDraws_0 rfl (lv_at hl 0 rfl) ?_
  refine lv_aload_n hx hb dX10_goByDraws_1 rfl (lv_at hl 1 rfl) ?_
  obtain ⟨r2, hr2, h⟩ := bnd h
  refine cV (b := 22) (As := [.ref (g.2.2 v1)]) (rest := []) (st1 := []) hC hw (c_X10_begin l g n v1 μ r2 hr2) ml_X10_51 im_X10_begin se_X10_begin ok22 (CN := RX10) (T := TX10) (NF := 7) rfl rfl (by decide) rfl hl.1 ⟨Nat.le_of_ble_eq_true rfl, Nat.le_of_ble_eq_true rfl⟩ (Nat.le_of_ble_eq_true rfl) ⟨Nat.zero_le _, Nat.zero_le _⟩ rfl dX10_goByDraws_2 (fun H locs hw => ?_)
  refine lv_iload_n hx hb dX10_goByDraws_5 rfl (lv_at hl 2 rfl) ?_
  refine lv_istore (lv' := [(4, .int v2), (0, .ref (g.2.2 22)), (1, .ref (g.2.2 v1)), (2, .int v2), (3, .int v3)]) hx hb dX10_goByDraws_6 hl (by decide) rfl (fun ls hl => ?_)
  refine lv_iconst (v := (0 : Int32)) hx hb dX10_goByDraws_8 (by decide) ?_
  refine lv_istore (lv' := [(5, .int (0 : Int32)), (4, .int v2), (0, .ref (g.2.2 22)), (1, .ref (g.2.2 v1)), (2, .int v2), (3, .int v3)]) hx hb dX10_goByDraws_9 hl (by decide) rfl (fun ls hl => ?_)
  exact B11 n v2 (0 : Int32) r2.2 _ _ _ hw (lv_sub hl [2, 5, 1, 0] rfl) h
set_option maxRecDepth 100000 in
set_option maxHeartbeats 4000000 in
theorem c_X11_may (l : Launch) (g : Gw) (n : Nat) (v1 : Int32) (μ : Mu) (r : Int32 × Mu) (h : X11_may n v1 μ = some r) : Ct l g yX11_may cX11_may 2 (some .int) 6 [.ref (g.2.2 0), .int v1] μ (some (.int r.1)) r.2 := by
  rw [X11_may] at h
  refine Ct.of (by decide) (Nat.le_of_ble_eq_true rfl) ?_
  intro p e s m args below meth c ls hC hw hr hlocks hl
  have hx := hC.1
  have hb := hC.2.1
  have hl : lv_has ls 2 [(0, .ref (g.2.2 0)), (1, .int v1)] := hl
  refine lv_aload_n hx hb dX11_may_0 rfl (lv_at hl 0 rfl) ?_
  refine gR (t := 6) hC hw fl_X11_30 ok0 (by decide) ot0_2 dX11_may_1 ?_
  refine lv_aload_n hx hb dX11_may_4 rfl (lv_at hl 0 rfl) ?_
  refine gR (t := 53) hC hw fl_X11_37 ok0 (by decide) ot0_3 dX11_may_5 ?_
  refine lv_iload_n hx hb dX11_may_8 rfl (lv_at hl 1 rfl) ?_
  refine lv_i2l hx hb dX11_may_9 rfl ?_
  obtain ⟨r10, hr10, h⟩ := bnd h
  refine cV (b := 6) (As := [.ref (g.2.2 53), .long (v1.toInt64)]) (rest := []) (st1 := [.int r10.1]) hC hw (c_X8_reason l g n 53 (v1.toInt64) μ r10 hr10) ml_X11_156 im_X8_reason se_X8_reason ok6 (CN := RX8) (T := TX8) (NF := 8) rfl rfl (by decide) rfl hl.1 ⟨Nat.le_of_ble_eq_true rfl, Nat.le_of_ble_eq_true rfl⟩ (Nat.le_of_ble_eq_true rfl) ⟨Nat.zero_le _, Nat.zero_le _⟩ rfl dX11_may_10 (fun H locs hw => ?_)
  exact rI hC hw hr hlocks (by rw [← Option.some.inj h]) (by rw [← Option.some.inj h]) dX11_may_13
set_option maxRecDepth 100000 in
set_option maxHeartbeats 4000000 in
theorem c_X11_move (l : Launch) (g : Gw) (n : Nat) (v1 : Int32) (μ : Mu) (r : Int32 × Mu) (h : X11_move n v1 μ = some r) : Ct l g yX11_move cX11_move 3 (some .int) 6 [.ref (g.2.2 0), .int v1] μ (some (.int r.1)) r.2 := by
  rw [X11_move] at h
  refine Ct.of (by decide) (Nat.le_of_ble_eq_true rfl) ?_
  intro p e s m args below meth c ls hC hw hr hlocks hl
  have hx := hC.1
  have hb := hC.2.1
  have hl : lv_has ls 3 [(0, .ref (g.2.2 0)), (1, .int v1)] := hl
  refine lv_aload_n hx hb dX11_move_0 rfl (lv_at hl 0 rfl) ?_
  refine gR (t := 6) hC hw fl_X11_30 ok0 (by decide) ot0_2 dX11_move_1 ?_
  refine lv_aload_n hx hb dX11_move_4 rfl (lv_at hl 0 rfl) ?_
  refine gR (t := 53) hC hw fl_X11_37 ok0 (by decide) ot0_3 dX11_move_5 ?_
  refine lv_iload_n hx hb dX11_move_8 rfl (lv_at hl 1 rfl) ?_
  refine lv_i2l hx hb dX11_move_9 rfl ?_
  obtain ⟨r10, hr10, h⟩ := bnd h
  refine cV (b := 6) (As := [.ref (g.2.2 53), .long (v1.toInt64)]) (rest := []) (st1 := [.int r10.1]) hC hw (c_X8_reason l g n 53 (v1.toInt64) μ r10 hr10) ml_X11_156 im_X8_reason se_X8_reason ok6 (CN := RX8) (T := TX8) (NF := 8) rfl rfl (by decide) rfl hl.1 ⟨Nat.le_of_ble_eq_true rfl, Nat.le_of_ble_eq_true rfl⟩ (Nat.le_of_ble_eq_true rfl) ⟨Nat.zero_le _, Nat.zero_le _⟩ rfl dX11_move_10 (fun H locs hw => ?_)
  refine lv_istore_n (lv' := [(2, .int r10.1), (0, .ref (g.2.2 0)), (1, .int v1)]) hx hb dX11_move_13 rfl hl (by decide) rfl (fun ls hl => ?_)
  refine lv_iload_n hx hb dX11_move_14 rfl (lv_at hl 0 rfl) ?_
  refine lv_if_eq (tgt := 21) hx hb dX11_move_15 (by decide) (fun hc => ?_) (fun hc => ?_)
  · rw [if_pos hc] at h
    refine lv_aload_n hx hb dX11_move_21 rfl (lv_at hl 1 rfl) ?_
    refine gR (t := 9) hC hw fl_X11_47 ok0 (by decide) ot0_5 dX11_move_22 ?_
    refine lv_aload_n hx hb dX11_move_25 rfl (lv_at hl 1 rfl) ?_
    refine gR (t := 53) hC hw fl_X11_37 ok0 (by decide) ot0_3 dX11_move_26 ?_
    refine lv_iload_n hx hb dX11_move_29 rfl (lv_at hl 2 rfl) ?_
    obtain ⟨r30, hr30, h⟩ := bnd h
    refine cV (b := 9) (As := [.ref (g.2.2 53), .int v1]) (rest := []) (st1 := []) hC hw (c_X3_keep l g n 53 v1 r10.2 r30 hr30) ml_X11_160 im_X3_keep se_X3_keep ok9 (CN := RX3) (T := TX3) (NF := 5) rfl rfl (by decide) rfl hl.1 ⟨Nat.le_of_ble_eq_true rfl, Nat.le_of_ble_eq_true rfl⟩ (Nat.le_of_ble_eq_true rfl) ⟨Nat.zero_le _, Nat.zero_le _⟩ rfl dX11_move_30 (fun H locs hw => ?_)
    refine lv_aload_n hx hb dX11_move_33 rfl (lv_at hl 1 rfl) ?_
    refine gR (t := 6) hC hw fl_X11_30 ok0 (by decide) ot0_2 dX11_move_34 ?_
    refine lv_aload_n hx hb dX11_move_37 rfl (lv_at hl 1 rfl) ?_
    refine gR (t := 53) hC hw fl_X11_37 ok0 (by decide) ot0_3 dX11_move_38 ?_
    refine lv_iload_n hx hb dX11_move_41 rfl (lv_at hl 2 rfl) ?_
    obtain ⟨r42, hr42, h⟩ := bnd h
    refine cV (b := 6) (As := [.ref (g.2.2 53), .int v1]) (rest := []) (st1 := [.int r42.1]) hC hw (c_X8_sow l g n 53 v1 r30.2 r42 hr42) ml_X11_164 im_X8_sow se_X8_sow ok6 (CN := RX8) (T := TX8) (NF := 8) rfl rfl (by decide) rfl hl.1 ⟨Nat.le_of_ble_eq_true rfl, Nat.le_of_ble_eq_true rfl⟩ (Nat.le_of_ble_eq_true rfl) ⟨Nat.zero_le _, Nat.zero_le _⟩ rfl dX11_move_42 (fun H locs hw => ?_)
    refine lv_pop hx hb dX11_move_45 rfl ?_
    refine lv_aload_n hx hb dX11_move_46 rfl (lv_at hl 1 rfl) ?_
    refine gR (t := 6) hC hw fl_X11_30 ok0 (by decide) ot0_2 dX11_move_47 ?_
    refine gI hC hw fl_X11_168 ok6 (by decide) dX11_move_50 ?_
    exact rI hC hw hr hlocks (by rw [← Option.some.inj h]) (by rw [← Option.some.inj h]) dX11_move_53
  · rw [if_neg hc] at h
    refine lv_iload_n hx hb dX11_move_18 rfl (lv_at hl 0 rfl) ?_
    refine lv_ineg hx hb dX11_move_19 ?_
    exact rI hC hw hr hlocks (by rw [← Option.some.inj h]) (by rw [← Option.some.inj h]) dX11_move_20
set_option maxRecDepth 100000 in
set_option maxHeartbeats 4000000 in
theorem c_X11_forced (l : Launch) (g : Gw) (n : Nat) (μ : Mu) (r : Int32 × Mu) (h : X11_forced n  μ = some r) : Ct l g yX11_forced cX11_forced 1 (some .int) 6 [.ref (g.2.2 0)] μ (some (.int r.1)) r.2 := by
  rw [X11_forced] at h
  refine Ct.of (by decide) (Nat.le_of_ble_eq_true rfl) ?_
  intro p e s m args below meth c ls hC hw hr hlocks hl
  have hx := hC.1
  have hb := hC.2.1
  have hl : lv_has ls 1 [(0, .ref (g.2.2 0))] := hl
  refine lv_aload_n hx hb dX11_forced_0 rfl (lv_at hl 0 rfl) ?_
  refine gR (t := 22) hC hw fl_X11_72 ok0 (by decide) ot0_8 dX11_forced_1 ?_
  refine lv_aload_n hx hb dX11_forced_4 rfl (lv_at hl 0 rfl) ?_
  refine gR (t := 53) hC hw fl_X11_37 ok0 (by decide) ot0_3 dX11_forced_5 ?_
  obtain ⟨r8, hr8, h⟩ := bnd h
  refine cV (b := 22) (As := [.ref (g.2.2 53)]) (rest := []) (st1 := []) hC hw (c_X10_goWhileForced l g n 53 μ r8 hr8) ml_X11_343 im_X10_goWhileForced se_X10_goWhileForced ok22 (CN := RX10) (T := TX10) (NF := 7) rfl rfl (by decide) rfl hl.1 ⟨Nat.le_of_ble_eq_true rfl, Nat.le_of_ble_eq_true rfl⟩ (Nat.le_of_ble_eq_true rfl) ⟨Nat.zero_le _, Nat.zero_le _⟩ rfl dX11_forced_8 (fun H locs hw => ?_)
  refine lv_aload_n hx hb dX11_forced_11 rfl (lv_at hl 0 rfl) ?_
  refine gR (t := 22) hC hw fl_X11_72 ok0 (by decide) ot0_8 dX11_forced_12 ?_
  refine gI hC hw fl_X11_319 ok22 (by decide) dX11_forced_15 ?_
  exact rI hC hw hr hlocks (by rw [← Option.some.inj h]) (by rw [← Option.some.inj h]) dX11_forced_18
set_option maxRecDepth 100000 in
set_option maxHeartbeats 4000000 in
theorem c_X12_sows (l : Launch) (g : Gw) (n : Nat) (v1 : Int32) (v2 : Int32) (μ : Mu) (r : Unit × Mu) (h : X12_sows n v1 v2 μ = some r) : Ct l g yX12_sows cX12_sows 8 none 3 [.ref (g.2.2 171), .int v1, .int v2] μ none r.2 := by
  rw [X12_sows] at h
  refine Ct.of (by decide) (Nat.le_of_ble_eq_true rfl) ?_
  intro p e s m args below meth c ls hC hw hr hlocks hl
  have hx := hC.1
  have hb := hC.2.1
  have hl : lv_has ls 8 [(0, .ref (g.2.2 171)), (1, .int v1), (2, .int v2)] := hl
  have B277 : ∀ (s1 : Int32) (μ : Mu) (H : Heap) (locs : List Loc) (ls : Array Slot), wd g μ s (Aw g s.heap.size) H locs → lv_has ls 8 [] → X12_sows_277 n v1 v2 s1 μ = some r → WQ p l e (rmD 3) s m args below meth c g none r.2 H locs (F0 m 277 ls [.int s1, .ref (g.2.2 171)]) := by
    intro s1 μ H locs ls hw hl h
    rw [X12_sows_277] at h
    refine pI hC hw fl_X12_284 fp_12_22 ok171 dX12_sows_277 (fun H locs hw => ?_)
    exact rV hC hw hr hlocks rfl (by rw [← Option.some.inj h]) dX12_sows_280
  have B274 : ∀ (μ : Mu) (H : Heap) (locs : List Loc) (ls : Array Slot), wd g μ s (Aw g s.heap.size) H locs → lv_has ls 8 [(1, .int v1)] → X12_sows_274 n v1 v2  μ = some r → WQ p l e (rmD 3) s m args below meth c g none r.2 H locs (F0 m 274 ls [.ref (g.2.2 171)]) := by
    intro μ H locs ls hw hl h
    rw [X12_sows_274] at h
    refine lv_iconst (v := (1 : Int32)) hx hb dX12_sows_274 (by decide) ?_
    refine lv_iload_n hx hb dX12_sows_275 rfl (lv_at hl 0 rfl) ?_
    refine lv_isub hx hb dX12_sows_276 ?_
    exact B277 ((1 : Int32) - v1) μ _ _ _ hw (lv_sub hl [] rfl) h
  have B25 : ∀ (k : Nat), ∀ (v3 : Int32) (v4 : Int32) (μ : Mu) (H : Heap) (locs : List Loc) (ls : Array Slot), wd g μ s (Aw g s.heap.size) H locs → lv_has ls 8 [(0, .ref (g.2.2 171)), (1, .int v1), (3, .int v3), (4, .int v4)] → lpF (fun _ _ _ => none) (X12_sows_25b n v1 v2) k v3 v4 μ = some r → WQ p l e (rmD 3) s m args below meth c g none r.2 H locs (F0 m 25 ls []) := by
    intro k
    induction k with
    | zero =>
      intro v3 v4 μ H locs ls hw hl h
      cases h
    | succ k ih25 =>
      rw [lpF_s]
      generalize lpF (fun _ _ _ => none) (X12_sows_25b n v1 v2) k = k25 at ih25 ⊢
      intro v3 v4 μ H locs ls hw hl h
      have B233 : ∀ (v3 : Int32) (v4 : Int32) (μ : Mu) (H : Heap) (locs : List Loc) (ls : Array Slot), wd g μ s (Aw g s.heap.size) H locs → lv_has ls 8 [(0, .ref (g.2.2 171)), (1, .int v1), (3, .int v3), (4, .int v4)] → X12_sows_233 n v1 v2 k25 v3 v4 μ = some r → WQ p l e (rmD 3) s m args below meth c g none r.2 H locs (F0 m 233 ls []) := by
        intro v3 v4 μ H locs ls hw hl h
        rw [X12_sows_233] at h
        refine lv_goto (tgt := 25) hx hb dX12_sows_233 (by decide) ?_
        exact ih25 v3 v4 μ _ _ _ hw (lv_sub hl [0, 1, 2, 3] rfl) h
      have B198 : ∀ (v3 : Int32) (v4 : Int32) (v6 : Int32) (v7 : Int32) (μ : Mu) (H : Heap) (locs : List Loc) (ls : Array Slot), wd g μ s (Aw g s.heap.size) H locs → lv_has ls 8 [(0, .ref (g.2.2 171)), (1, .int v1), (3, .int v3), (4, .int v4), (6, .int v6), (7, .int v7)] → X12_sows_198 n v1 v2 k25 v3 v4 v6 v7 μ = some r → WQ p l e (rmD 3) s m args below meth c g none r.2 H locs (F0 m 198 ls []) := by
        intro v3 v4 v6 v7 μ H locs ls hw hl h
        rw [X12_sows_198] at h
        refine lv_iload hx hb dX12_sows_198 (lv_at hl 3 rfl) ?_
        refine lv_if_eq (tgt := 219) hx hb dX12_sows_200 (by decide) (fun hc => ?_) (fun hc => ?_)
        · rw [if_pos hc] at h
          refine lv_iload hx hb dX12_sows_219 (lv_at hl 4 rfl) ?_
          refine lv_bipush (v := (100 : Int32)) hx hb dX12_sows_221 (by decide) ?_
          refine lv_icmp_eq (tgt := 233) hx hb dX12_sows_223 (by decide) (fun hc => ?_) (fun hc => ?_)
          · rw [if_pos hc] at h
            exact B233 v3 v4 μ _ _ _ hw (lv_sub hl [0, 1, 2, 3] rfl) h
          · rw [if_neg hc] at h
            refine lv_aload_n hx hb dX12_sows_226 rfl (lv_at hl 0 rfl) ?_
            refine lv_iload_n hx hb dX12_sows_227 rfl (lv_at hl 1 rfl) ?_
            refine lv_iload hx hb dX12_sows_228 (lv_at hl 5 rfl) ?_
            obtain ⟨r230, hr230, h⟩ := bnd h
            refine cV (b := 171) (As := [.int v1, .int v7]) (rest := []) (st1 := []) hC hw (c_X12_takes l g n v1 v7 μ r230 hr230) ml_X12_280 im_X12_takes se_X12_takes ok171 (CN := RX12) (T := TX12) (NF := 54) rfl rfl (by decide) rfl hl.1 ⟨Nat.le_of_ble_eq_true rfl, Nat.le_of_ble_eq_true rfl⟩ (Nat.le_of_ble_eq_true rfl) ⟨Nat.zero_le _, Nat.zero_le _⟩ rfl dX12_sows_230 (fun H locs hw => ?_)
            exact B233 v3 v4 r230.2 _ _ _ hw (lv_sub hl [0, 1, 2, 3] rfl) h
        · rw [if_neg hc] at h
          refine lv_aload_n hx hb dX12_sows_203 rfl (lv_at hl 0 rfl) ?_
          refine lv_dup hx hb dX12_sows_204 rfl ?_
          refine gI hC hw fl_X12_260 ok171 (by decide) dX12_sows_205 ?_
          refine lv_iconst (v := (1 : Int32)) hx hb dX12_sows_208 (by decide) ?_
          refine lv_iadd hx hb dX12_sows_209 ?_
          refine pI hC hw fl_X12_260 fp_12_19 ok171 dX12_sows_210 (fun H locs hw => ?_)
          refine lv_iload hx hb dX12_sows_213 (lv_at hl 4 rfl) ?_
          refine lv_istore_n (lv' := [(3, .int v6), (0, .ref (g.2.2 171)), (1, .int v1), (4, .int v4), (6, .int v6), (7, .int v7)]) hx hb dX12_sows_215 rfl hl (by decide) rfl (fun ls hl => ?_)
          refine lv_goto (tgt := 233) hx hb dX12_sows_216 (by decide) ?_
          exact B233 v6 v4 (si μ 171 19 ((μ.1 171 19) + (1 : Int32))) _ _ _ hw (lv_sub hl [1, 2, 0, 3] rfl) h
      have B171 : ∀ (v3 : Int32) (v6 : Int32) (v7 : Int32) (s0 : Int32) (μ : Mu) (H : Heap) (locs : List Loc) (ls : Array Slot), wd g μ s (Aw g s.heap.size) H locs → lv_has ls 8 [(0, .ref (g.2.2 171)), (1, .int v1), (3, .int v3), (6, .int v6), (7, .int v7)] → X12_sows_171 n v1 v2 k25 v3 v6 v7 s0 μ = some r → WQ p l e (rmD 3) s m args below meth c g none r.2 H locs (F0 m 171 ls [.int s0]) := by
        intro v3 v6 v7 s0 μ H locs ls hw hl h
        rw [X12_sows_171] at h
        refine lv_istore (lv' := [(4, .int s0), (0, .ref (g.2.2 171)), (1, .int v1), (3, .int v3), (6, .int v6), (7, .int v7)]) hx hb dX12_sows_171 hl (by decide) rfl (fun ls hl => ?_)
        refine lv_iload hx hb dX12_sows_173 (lv_at hl 0 rfl) ?_
        refine lv_if_eq (tgt := 198) hx hb dX12_sows_175 (by decide) (fun hc => ?_) (fun hc => ?_)
        · rw [if_pos hc] at h
          exact B198 v3 s0 v6 v7 μ _ _ _ hw (lv_sub hl [1, 2, 3, 0, 4, 5] rfl) h
        · rw [if_neg hc] at h
          refine lv_aload_n hx hb dX12_sows_178 rfl (lv_at hl 1 rfl) ?_
          refine gI hC hw fl_X12_260 ok171 (by decide) dX12_sows_179 ?_
          refine lv_aload_n hx hb dX12_sows_182 rfl (lv_at hl 1 rfl) ?_
          refine gR (t := 172) hC hw fl_X12_9 ok171 (by decide) ot171_0 dX12_sows_183 ?_
          refine lv_bipush (v := (6 : Int32)) hx hb dX12_sows_186 (by decide) ?_
          refine lI (j := 6) hC hw ok172 on172 (vin (by decide)) (by decide) dX12_sows_188 ?_
          refine lv_icmp_ne (tgt := 198) hx hb dX12_sows_189 (by decide) (fun hc => ?_) (fun hc => ?_)
          · rw [if_neg hc] at h
            exact B198 v3 s0 v6 v7 μ _ _ _ hw (lv_sub hl [1, 2, 3, 0, 4, 5] rfl) h
          · rw [if_pos hc] at h
            refine lv_aload_n hx hb dX12_sows_192 rfl (lv_at hl 1 rfl) ?_
            refine lv_iconst (v := (1 : Int32)) hx hb dX12_sows_193 (by decide) ?_
            refine pZ hC hw fl_X12_269 fp_12_23 ok171 (Or.inr rfl) dX12_sows_194 (fun H locs hw => ?_)
            exact rV hC hw hr hlocks rfl (by rw [← Option.some.inj h]) dX12_sows_197
      have B170 : ∀ (v3 : Int32) (v6 : Int32) (v7 : Int32) (μ : Mu) (H : Heap) (locs : List Loc) (ls : Array Slot), wd g μ s (Aw g s.heap.size) H locs → lv_has ls 8 [(0, .ref (g.2.2 171)), (1, .int v1), (3, .int v3), (6, .int v6), (7, .int v7)] → X12_sows_170 n v1 v2 k25 v3 v6 v7 μ = some r → WQ p l e (rmD 3) s m args below meth c g none r.2 H locs (F0 m 170 ls []) := by
        intro v3 v6 v7 μ H locs ls hw hl h
        rw [X12_sows_170] at h
        refine lv_iconst (v := (0 : Int32)) hx hb dX12_sows_170 (by decide) ?_
        exact B171 v3 v6 v7 (0 : Int32) μ _ _ _ hw (lv_sub hl [0, 1, 2, 3, 4] rfl) h
      have B51 : ∀ (k : Nat), ∀ (v3 : Int32) (v5 : Int32) (v6 : Int32) (v7 : Int32) (μ : Mu) (H : Heap) (locs : List Loc) (ls : Array Slot), wd g μ s (Aw g s.heap.size) H locs → lv_has ls 8 [(0, .ref (g.2.2 171)), (1, .int v1), (3, .int v3), (5, .int v5), (6, .int v6), (7, .int v7)] → lpF (fun _ _ _ _ _ => none) (X12_sows_51b n v1 v2 k25) k v3 v5 v6 v7 μ = some r → WQ p l e (rmD 3) s m args below meth c g none r.2 H locs (F0 m 51 ls []) := by
        intro k
        induction k with
        | zero =>
          intro v3 v5 v6 v7 μ H locs ls hw hl h
          cases h
        | succ k ih51 =>
          rw [lpF_s]
          generalize lpF (fun _ _ _ _ _ => none) (X12_sows_51b n v1 v2 k25) k = k51 at ih51 ⊢
          intro v3 v5 v6 v7 μ H locs ls hw hl h
          have B132 : ∀ (v3 : Int32) (v5 : Int32) (v6 : Int32) (v7 : Int32) (μ : Mu) (H : Heap) (locs : List Loc) (ls : Array Slot), wd g μ s (Aw g s.heap.size) H locs → lv_has ls 8 [(0, .ref (g.2.2 171)), (1, .int v1), (3, .int v3), (5, .int v5), (6, .int v6), (7, .int v7)] → X12_sows_132 n v1 v2 k25 k51 v3 v5 v6 v7 μ = some r → WQ p l e (rmD 3) s m args below meth c g none r.2 H locs (F0 m 132 ls []) := by
            intro v3 v5 v6 v7 μ H locs ls hw hl h
            rw [X12_sows_132] at h
            refine lv_iinc (v := (v5 + ((-1) : Int32))) (lv' := [(5, .int (v5 + ((-1) : Int32))), (0, .ref (g.2.2 171)), (1, .int v1), (3, .int v3), (6, .int v6), (7, .int v7)]) hx hb dX12_sows_132 hl (k := 3) rfl rfl (by decide) rfl (fun ls hl => ?_)
            refine lv_goto (tgt := 51) hx hb dX12_sows_135 (by decide) ?_
            exact ih51 v3 (v5 + ((-1) : Int32)) v6 v7 μ _ _ _ hw (lv_sub hl [1, 2, 3, 0, 4, 5] rfl) h
          have B75 : ∀ (v3 : Int32) (v5 : Int32) (v7 : Int32) (s1 : Int32) (s2 : Int32) (s3 : Int32) (μ : Mu) (H : Heap) (locs : List Loc) (ls : Array Slot), wd g μ s (Aw g s.heap.size) H locs → lv_has ls 8 [(0, .ref (g.2.2 171)), (1, .int v1), (3, .int v3), (5, .int v5), (7, .int v7)] → X12_sows_75 n v1 v2 k25 k51 v3 v5 v7 s1 s2 s3 μ = some r → WQ p l e (rmD 3) s m args below meth c g none r.2 H locs (F0 m 75 ls [.int s3, .int s2, .int s1, .ref (g.2.2 171)]) := by
            intro v3 v5 v7 s1 s2 s3 μ H locs ls hw hl h
            rw [X12_sows_75] at h
            obtain ⟨r75, hr75, h⟩ := bnd h
            refine cV (b := 171) (As := [.int s1, .int s2, .int s3]) (rest := []) (st1 := [.int r75.1]) hC hw (c_X12_next l g n s1 s2 s3 μ r75 hr75) ml_X12_273 im_X12_next se_X12_next ok171 (CN := RX12) (T := TX12) (NF := 54) rfl rfl (by decide) rfl hl.1 ⟨Nat.le_of_ble_eq_true rfl, Nat.le_of_ble_eq_true rfl⟩ (Nat.le_of_ble_eq_true rfl) ⟨Nat.zero_le _, Nat.zero_le _⟩ rfl dX12_sows_75 (fun H locs hw => ?_)
            refine lv_istore (lv' := [(6, .int r75.1), (0, .ref (g.2.2 171)), (1, .int v1), (3, .int v3), (5, .int v5), (7, .int v7)]) hx hb dX12_sows_78 hl (by decide) rfl (fun ls hl => ?_)
            refine lv_iload hx hb dX12_sows_80 (lv_at hl 0 rfl) ?_
            refine lv_iconst (v := ((-1) : Int32)) hx hb dX12_sows_82 (by decide) ?_
            refine lv_icmp_ne (tgt := 92) hx hb dX12_sows_83 (by decide) (fun hc => ?_) (fun hc => ?_)
            · rw [if_neg hc] at h
              refine lv_iload hx hb dX12_sows_92 (lv_at hl 0 rfl) ?_
              refine lv_bipush (v := (100 : Int32)) hx hb dX12_sows_94 (by decide) ?_
              refine lv_icmp_ne (tgt := 112) hx hb dX12_sows_96 (by decide) (fun hc => ?_) (fun hc => ?_)
              · rw [if_neg hc] at h
                refine lv_aload_n hx hb dX12_sows_112 rfl (lv_at hl 1 rfl) ?_
                refine gR (t := 178) hC hw fl_X12_33 ok171 (by decide) ot171_17 dX12_sows_113 ?_
                refine lv_iload hx hb dX12_sows_116 (lv_at hl 0 rfl) ?_
                obtain ⟨hi118, h⟩ := gd_some h
                refine lI (j := r75.1.toNatClampNeg) hC hw ok178 on178 hi118 rfl dX12_sows_118 ?_
                refine lv_istore (lv' := [(7, .int (r75.2.1 178 r75.1.toNatClampNeg)), (6, .int r75.1), (0, .ref (g.2.2 171)), (1, .int v1), (3, .int v3), (5, .int v5)]) hx hb dX12_sows_119 hl (by decide) rfl (fun ls hl => ?_)
                refine lv_aload_n hx hb dX12_sows_121 rfl (lv_at hl 2 rfl) ?_
                refine gR (t := 178) hC hw fl_X12_33 ok171 (by decide) ot171_17 dX12_sows_122 ?_
                refine lv_iload hx hb dX12_sows_125 (lv_at hl 1 rfl) ?_
                refine lv_dup2_11 hx hb dX12_sows_127 rfl rfl ?_
                refine lI (j := r75.1.toNatClampNeg) hC hw ok178 on178 hi118 rfl dX12_sows_128 ?_
                refine lv_iconst (v := (1 : Int32)) hx hb dX12_sows_129 (by decide) ?_
                refine lv_iadd hx hb dX12_sows_130 ?_
                refine sI (j := r75.1.toNatClampNeg) hC hw ok178 on178 hi118 rfl dX12_sows_131 (fun H locs hw => ?_)
                exact B132 v3 v5 r75.1 (r75.2.1 178 r75.1.toNatClampNeg) (si r75.2 178 r75.1.toNatClampNeg ((r75.2.1 178 r75.1.toNatClampNeg) + (1 : Int32))) _ _ _ hw (lv_sub hl [2, 3, 4, 5, 1, 0] rfl) h
              · rw [if_pos hc] at h
                refine lv_aload_n hx hb dX12_sows_99 rfl (lv_at hl 1 rfl) ?_
                refine lv_dup hx hb dX12_sows_100 rfl ?_
                refine gI hC hw fl_X12_263 ok171 (by decide) dX12_sows_101 ?_
                refine lv_iconst (v := (1 : Int32)) hx hb dX12_sows_104 (by decide) ?_
                refine lv_iadd hx hb dX12_sows_105 ?_
                refine pI hC hw fl_X12_263 fp_12_21 ok171 dX12_sows_106 (fun H locs hw => ?_)
                refine lv_goto (tgt := 132) hx hb dX12_sows_109 (by decide) ?_
                exact B132 v3 v5 r75.1 v7 (si r75.2 171 21 ((r75.2.1 171 21) + (1 : Int32))) _ _ _ hw (lv_sub hl [1, 2, 3, 4, 0, 5] rfl) h
            · rw [if_pos hc] at h
              refine lv_aload_n hx hb dX12_sows_86 rfl (lv_at hl 1 rfl) ?_
              refine lv_iconst (v := (1 : Int32)) hx hb dX12_sows_87 (by decide) ?_
              refine pZ hC hw fl_X12_269 fp_12_23 ok171 (Or.inr rfl) dX12_sows_88 (fun H locs hw => ?_)
              exact rV hC hw hr hlocks rfl (by rw [← Option.some.inj h]) dX12_sows_91
          rw [X12_sows_51b] at h
          refine lv_iload hx hb dX12_sows_51 (lv_at hl 3 rfl) ?_
          refine lv_if_le (tgt := 138) hx hb dX12_sows_53 (by decide) (fun hc => ?_) (fun hc => ?_)
          · rw [if_pos hc] at h
            refine lv_aload_n hx hb dX12_sows_138 rfl (lv_at hl 0 rfl) ?_
            refine lv_iload hx hb dX12_sows_139 (lv_at hl 4 rfl) ?_
            refine pI hC hw fl_X12_277 fp_12_18 ok171 dX12_sows_141 (fun H locs hw => ?_)
            refine lv_aload_n hx hb dX12_sows_144 rfl (lv_at hl 0 rfl) ?_
            refine gR (t := 172) hC hw fl_X12_9 ok171 (by decide) ot171_0 dX12_sows_145 ?_
            refine lv_bipush (v := (6 : Int32)) hx hb dX12_sows_148 (by decide) ?_
            refine lI (j := 6) hC hw ok172 on172 (vin (by decide)) (by decide) dX12_sows_150 ?_
            refine lv_if_le (tgt := 170) hx hb dX12_sows_151 (by decide) (fun hc => ?_) (fun hc => ?_)
            · rw [if_pos hc] at h
              exact B170 v3 v6 v7 (si μ 171 18 v6) _ _ _ hw (lv_sub hl [0, 1, 2, 4, 5] rfl) h
            · rw [if_neg hc] at h
              refine lv_iload hx hb dX12_sows_154 (lv_at hl 4 rfl) ?_
              refine lv_bipush (v := (100 : Int32)) hx hb dX12_sows_156 (by decide) ?_
              refine lv_icmp_eq (tgt := 170) hx hb dX12_sows_158 (by decide) (fun hc => ?_) (fun hc => ?_)
              · rw [if_pos hc] at h
                exact B170 v3 v6 v7 (si μ 171 18 v6) _ _ _ hw (lv_sub hl [0, 1, 2, 4, 5] rfl) h
              · rw [if_neg hc] at h
                refine lv_iload hx hb dX12_sows_161 (lv_at hl 5 rfl) ?_
                refine lv_if_le (tgt := 170) hx hb dX12_sows_163 (by decide) (fun hc => ?_) (fun hc => ?_)
                · rw [if_pos hc] at h
                  exact B170 v3 v6 v7 (si μ 171 18 v6) _ _ _ hw (lv_sub hl [0, 1, 2, 4, 5] rfl) h
                · rw [if_neg hc] at h
                  refine lv_iconst (v := (1 : Int32)) hx hb dX12_sows_166 (by decide) ?_
                  refine lv_goto (tgt := 171) hx hb dX12_sows_167 (by decide) ?_
                  exact B171 v3 v6 v7 (1 : Int32) (si μ 171 18 v6) _ _ _ hw (lv_sub hl [0, 1, 2, 4, 5] rfl) h
          · rw [if_neg hc] at h
            refine lv_aload_n hx hb dX12_sows_56 rfl (lv_at hl 0 rfl) ?_
            refine lv_iload_n hx hb dX12_sows_57 rfl (lv_at hl 1 rfl) ?_
            refine lv_iload hx hb dX12_sows_58 (lv_at hl 4 rfl) ?_
            refine lv_aload_n hx hb dX12_sows_60 rfl (lv_at hl 0 rfl) ?_
            refine gR (t := 172) hC hw fl_X12_9 ok171 (by decide) ot171_0 dX12_sows_61 ?_
            refine lv_iconst (v := (5 : Int32)) hx hb dX12_sows_64 (by decide) ?_
            refine lI (j := 5) hC hw ok172 on172 (vin (by decide)) (by decide) dX12_sows_65 ?_
            refine lv_iconst (v := (1 : Int32)) hx hb dX12_sows_66 (by decide) ?_
            refine lv_icmp_ne (tgt := 74) hx hb dX12_sows_67 (by decide) (fun hc => ?_) (fun hc => ?_)
            · rw [if_neg hc] at h
              refine lv_iconst (v := ((-1) : Int32)) hx hb dX12_sows_74 (by decide) ?_
              exact B75 v3 v5 v7 v1 v6 ((-1) : Int32) μ _ _ _ hw (lv_sub hl [0, 1, 2, 3, 5] rfl) h
            · rw [if_pos hc] at h
              refine lv_iload_n hx hb dX12_sows_70 rfl (lv_at hl 2 rfl) ?_
              refine lv_goto (tgt := 75) hx hb dX12_sows_71 (by decide) ?_
              exact B75 v3 v5 v7 v1 v6 v3 μ _ _ _ hw (lv_sub hl [0, 1, 2, 3, 5] rfl) h
      rw [X12_sows_25b] at h
      refine lv_iload hx hb dX12_sows_25 (lv_at hl 3 rfl) ?_
      refine lv_if_eq (tgt := 236) hx hb dX12_sows_27 (by decide) (fun hc => ?_) (fun hc => ?_)
      · rw [if_pos hc] at h
        refine lv_aload_n hx hb dX12_sows_236 rfl (lv_at hl 0 rfl) ?_
        refine lv_dup hx hb dX12_sows_237 rfl ?_
        refine gI hC hw fl_X12_263 ok171 (by decide) dX12_sows_238 ?_
        refine lv_aload_n hx hb dX12_sows_241 rfl (lv_at hl 0 rfl) ?_
        refine gI hC hw fl_X12_266 ok171 (by decide) dX12_sows_242 ?_
        refine lv_iadd hx hb dX12_sows_245 ?_
        refine pI hC hw fl_X12_263 fp_12_21 ok171 dX12_sows_246 (fun H locs hw => ?_)
        refine lv_aload_n hx hb dX12_sows_249 rfl (lv_at hl 0 rfl) ?_
        refine lv_aload_n hx hb dX12_sows_250 rfl (lv_at hl 0 rfl) ?_
        refine gR (t := 172) hC hw fl_X12_9 ok171 (by decide) ot171_0 dX12_sows_251 ?_
        refine lv_bipush (v := (9 : Int32)) hx hb dX12_sows_254 (by decide) ?_
        refine lI (j := 9) hC hw ok172 on172 (vin (by decide)) (by decide) dX12_sows_256 ?_
        refine lv_iconst (v := (1 : Int32)) hx hb dX12_sows_257 (by decide) ?_
        refine lv_icmp_ne (tgt := 274) hx hb dX12_sows_258 (by decide) (fun hc => ?_) (fun hc => ?_)
        · rw [if_neg hc] at h
          exact B274 (si μ 171 21 ((μ.1 171 21) + (μ.1 171 20))) _ _ _ hw (lv_sub hl [1] rfl) h
        · rw [if_pos hc] at h
          refine lv_aload_n hx hb dX12_sows_261 rfl (lv_at hl 0 rfl) ?_
          refine gI hC hw fl_X12_277 ok171 (by decide) dX12_sows_262 ?_
          refine lv_bipush (v := (100 : Int32)) hx hb dX12_sows_265 (by decide) ?_
          refine lv_icmp_ne (tgt := 274) hx hb dX12_sows_267 (by decide) (fun hc => ?_) (fun hc => ?_)
          · rw [if_neg hc] at h
            exact B274 (si μ 171 21 ((μ.1 171 21) + (μ.1 171 20))) _ _ _ hw (lv_sub hl [1] rfl) h
          · rw [if_pos hc] at h
            refine lv_iload_n hx hb dX12_sows_270 rfl (lv_at hl 1 rfl) ?_
            refine lv_goto (tgt := 277) hx hb dX12_sows_271 (by decide) ?_
            exact B277 v1 (si μ 171 21 ((μ.1 171 21) + (μ.1 171 20))) _ _ _ hw (lv_sub hl [] rfl) h
      · rw [if_neg hc] at h
        refine lv_aload_n hx hb dX12_sows_30 rfl (lv_at hl 0 rfl) ?_
        refine gR (t := 178) hC hw fl_X12_33 ok171 (by decide) ot171_17 dX12_sows_31 ?_
        refine lv_iload_n hx hb dX12_sows_34 rfl (lv_at hl 2 rfl) ?_
        obtain ⟨hi35, h⟩ := gd_some h
        refine lI (j := v3.toNatClampNeg) hC hw ok178 on178 hi35 rfl dX12_sows_35 ?_
        refine lv_istore (lv' := [(5, .int (μ.1 178 v3.toNatClampNeg)), (0, .ref (g.2.2 171)), (1, .int v1), (3, .int v3), (4, .int v4)]) hx hb dX12_sows_36 hl (by decide) rfl (fun ls hl => ?_)
        refine lv_aload_n hx hb dX12_sows_38 rfl (lv_at hl 1 rfl) ?_
        refine gR (t := 178) hC hw fl_X12_33 ok171 (by decide) ot171_17 dX12_sows_39 ?_
        refine lv_iload_n hx hb dX12_sows_42 rfl (lv_at hl 3 rfl) ?_
        refine lv_iconst (v := (0 : Int32)) hx hb dX12_sows_43 (by decide) ?_
        refine sI (j := v3.toNatClampNeg) hC hw ok178 on178 hi35 rfl dX12_sows_44 (fun H locs hw => ?_)
        refine lv_iload_n hx hb dX12_sows_45 rfl (lv_at hl 3 rfl) ?_
        refine lv_istore (lv' := [(6, .int v3), (5, .int (μ.1 178 v3.toNatClampNeg)), (0, .ref (g.2.2 171)), (1, .int v1), (3, .int v3), (4, .int v4)]) hx hb dX12_sows_46 hl (by decide) rfl (fun ls hl => ?_)
        refine lv_iconst (v := (0 : Int32)) hx hb dX12_sows_48 (by decide) ?_
        refine lv_istore (lv' := [(7, .int (0 : Int32)), (6, .int v3), (5, .int (μ.1 178 v3.toNatClampNeg)), (0, .ref (g.2.2 171)), (1, .int v1), (3, .int v3), (4, .int v4)]) hx hb dX12_sows_49 hl (by decide) rfl (fun ls hl => ?_)
        exact B51 n v3 (μ.1 178 v3.toNatClampNeg) v3 (0 : Int32) (si μ 178 v3.toNatClampNeg (0 : Int32)) _ _ _ hw (lv_sub hl [3, 4, 5, 2, 1, 0] rfl) h
  refine lv_aload_n hx hb dX12_sows_0 rfl (lv_at hl 0 rfl) ?_
  refine lv_iconst (v := (0 : Int32)) hx hb dX12_sows_1 (by decide) ?_
  refine pI hC hw fl_X12_260 fp_12_19 ok171 dX12_sows_2 (fun H locs hw => ?_)
  refine lv_aload_n hx hb dX12_sows_5 rfl (lv_at hl 0 rfl) ?_
  refine lv_iconst (v := (0 : Int32)) hx hb dX12_sows_6 (by decide) ?_
  refine pI hC hw fl_X12_263 fp_12_21 ok171 dX12_sows_7 (fun H locs hw => ?_)
  refine lv_aload_n hx hb dX12_sows_10 rfl (lv_at hl 0 rfl) ?_
  refine lv_iconst (v := (0 : Int32)) hx hb dX12_sows_11 (by decide) ?_
  refine pI hC hw fl_X12_266 fp_12_20 ok171 dX12_sows_12 (fun H locs hw => ?_)
  refine lv_aload_n hx hb dX12_sows_15 rfl (lv_at hl 0 rfl) ?_
  refine lv_iconst (v := (0 : Int32)) hx hb dX12_sows_16 (by decide) ?_
  refine pZ hC hw fl_X12_269 fp_12_23 ok171 (Or.inl rfl) dX12_sows_17 (fun H locs hw => ?_)
  refine lv_iload_n hx hb dX12_sows_20 rfl (lv_at hl 2 rfl) ?_
  refine lv_istore_n (lv' := [(3, .int v2), (0, .ref (g.2.2 171)), (1, .int v1), (2, .int v2)]) hx hb dX12_sows_21 rfl hl (by decide) rfl (fun ls hl => ?_)
  refine lv_iconst (v := (1 : Int32)) hx hb dX12_sows_22 (by decide) ?_
  refine lv_istore (lv' := [(4, .int (1 : Int32)), (3, .int v2), (0, .ref (g.2.2 171)), (1, .int v1), (2, .int v2)]) hx hb dX12_sows_23 hl (by decide) rfl (fun ls hl => ?_)
  exact B25 n v2 (1 : Int32) (si (si (si (si μ 171 19 (0 : Int32)) 171 21 (0 : Int32)) 171 20 (0 : Int32)) 171 23 (0 : Int32)) _ _ _ hw (lv_sub hl [2, 3, 1, 0] rfl) h
set_option maxRecDepth 100000 in
set_option maxHeartbeats 4000000 in
theorem c_X12_triesFrom (l : Launch) (g : Gw) (n : Nat) (v1 : Int32) (μ : Mu) (r : Unit × Mu) (h : X12_triesFrom n v1 μ = some r) : Ct l g yX12_triesFrom cX12_triesFrom 2 none 4 [.ref (g.2.2 171), .int v1] μ none r.2 := by
  rw [X12_triesFrom] at h
  refine Ct.of (by decide) (Nat.le_of_ble_eq_true rfl) ?_
  intro p e s m args below meth c ls hC hw hr hlocks hl
  have hx := hC.1
  have hb := hC.2.1
  have hl : lv_has ls 2 [(0, .ref (g.2.2 171)), (1, .int v1)] := hl
  refine lv_aload_n hx hb dX12_triesFrom_0 rfl (lv_at hl 0 rfl) ?_
  obtain ⟨r1, hr1, h⟩ := bnd h
  refine cV (b := 171) (As := []) (rest := []) (st1 := []) hC hw (c_X12_takesUp l g n μ r1 hr1) ml_X12_293 im_X12_takesUp se_X12_takesUp ok171 (CN := RX12) (T := TX12) (NF := 54) rfl rfl (by decide) rfl hl.1 ⟨Nat.le_of_ble_eq_true rfl, Nat.le_of_ble_eq_true rfl⟩ (Nat.le_of_ble_eq_true rfl) ⟨Nat.zero_le _, Nat.zero_le _⟩ rfl dX12_triesFrom_1 (fun H locs hw => ?_)
  refine lv_aload_n hx hb dX12_triesFrom_4 rfl (lv_at hl 0 rfl) ?_
  refine lv_aload_n hx hb dX12_triesFrom_5 rfl (lv_at hl 0 rfl) ?_
  refine gR (t := 172) hC hw fl_X12_9 ok171 (by decide) ot171_0 dX12_triesFrom_6 ?_
  refine lv_iconst (v := (2 : Int32)) hx hb dX12_triesFrom_9 (by decide) ?_
  refine lI (j := 2) hC hw ok172 on172 (vin (by decide)) (by decide) dX12_triesFrom_10 ?_
  refine lv_iload_n hx hb dX12_triesFrom_11 rfl (lv_at hl 1 rfl) ?_
  obtain ⟨r12, hr12, h⟩ := bnd h
  refine cV (b := 171) (As := [.int (r1.2.1 172 2), .int v1]) (rest := []) (st1 := []) hC hw (c_X12_sows l g n (r1.2.1 172 2) v1 r1.2 r12 hr12) ml_X12_296 im_X12_sows se_X12_sows ok171 (CN := RX12) (T := TX12) (NF := 54) rfl rfl (by decide) rfl hl.1 ⟨Nat.le_of_ble_eq_true rfl, Nat.le_of_ble_eq_true rfl⟩ (Nat.le_of_ble_eq_true rfl) ⟨Nat.zero_le _, Nat.zero_le _⟩ rfl dX12_triesFrom_12 (fun H locs hw => ?_)
  exact rV hC hw hr hlocks rfl (by rw [← Option.some.inj h]) dX12_triesFrom_15
set_option maxRecDepth 100000 in
set_option maxHeartbeats 4000000 in
theorem c_X12_isOver (l : Launch) (g : Gw) (n : Nat) (μ : Mu) (r : Int32 × Mu) (h : X12_isOver n  μ = some r) : Ct l g yX12_isOver cX12_isOver 2 (some .boolean) 5 [.ref (g.2.2 171)] μ (some (.int r.1)) r.2 := by
  rw [X12_isOver] at h
  refine Ct.of (by decide) (Nat.le_of_ble_eq_true rfl) ?_
  intro p e s m args below meth c ls hC hw hr hlocks hl
  have hx := hC.1
  have hb := hC.2.1
  have hl : lv_has ls 2 [(0, .ref (g.2.2 171))] := hl
  have B2 : ∀ (k : Nat), ∀ (v1 : Int32) (μ : Mu) (H : Heap) (locs : List Loc) (ls : Array Slot), wd g μ s (Aw g s.heap.size) H locs → lv_has ls 2 [(0, .ref (g.2.2 171)), (1, .int v1)] → lpF (fun _ _ => none) (X12_isOver_2b n) k v1 μ = some r → WQ p l e (rmD 5) s m args below meth c g (some (.int r.1)) r.2 H locs (F0 m 2 ls []) := by
    intro k
    induction k with
    | zero =>
      intro v1 μ H locs ls hw hl h
      cases h
    | succ k ih2 =>
      rw [lpF_s]
      generalize lpF (fun _ _ => none) (X12_isOver_2b n) k = k2 at ih2 ⊢
      intro v1 μ H locs ls hw hl h
      have B35 : ∀ (v1 : Int32) (μ : Mu) (H : Heap) (locs : List Loc) (ls : Array Slot), wd g μ s (Aw g s.heap.size) H locs → lv_has ls 2 [(0, .ref (g.2.2 171)), (1, .int v1)] → X12_isOver_35 n k2 v1 μ = some r → WQ p l e (rmD 5) s m args below meth c g (some (.int r.1)) r.2 H locs (F0 m 35 ls []) := by
        intro v1 μ H locs ls hw hl h
        rw [X12_isOver_35] at h
        refine lv_iinc (v := (v1 + (1 : Int32))) (lv' := [(1, .int (v1 + (1 : Int32))), (0, .ref (g.2.2 171))]) hx hb dX12_isOver_35 hl (k := 1) rfl rfl (by decide) rfl (fun ls hl => ?_)
        refine lv_goto (tgt := 2) hx hb dX12_isOver_38 (by decide) ?_
        exact ih2 (v1 + (1 : Int32)) μ _ _ _ hw (lv_sub hl [1, 0] rfl) h
      rw [X12_isOver_2b] at h
      refine lv_iload_n hx hb dX12_isOver_2 rfl (lv_at hl 1 rfl) ?_
      refine lv_aload_n hx hb dX12_isOver_3 rfl (lv_at hl 0 rfl) ?_
      obtain ⟨r4, hr4, h⟩ := bnd h
      refine cV (b := 171) (As := []) (rest := [.int v1]) (st1 := [.int r4.1, .int v1]) hC hw (c_X12_pitMany l g n μ r4 hr4) ml_X12_245 im_X12_pitMany se_X12_pitMany ok171 (CN := RX12) (T := TX12) (NF := 54) rfl rfl (by decide) rfl hl.1 ⟨Nat.le_of_ble_eq_true rfl, Nat.le_of_ble_eq_true rfl⟩ (Nat.le_of_ble_eq_true rfl) ⟨Nat.zero_le _, Nat.zero_le _⟩ rfl dX12_isOver_4 (fun H locs hw => ?_)
      refine lv_icmp_ge (tgt := 41) hx hb dX12_isOver_7 (by decide) (fun hc => ?_) (fun hc => ?_)
      · rw [if_pos hc] at h
        refine lv_iconst (v := (1 : Int32)) hx hb dX12_isOver_41 (by decide) ?_
        exact rZ hC hw hr hlocks (Or.inr rfl) (by rw [← Option.some.inj h]) (by rw [← Option.some.inj h]) dX12_isOver_42
      · rw [if_neg hc] at h
        refine lv_aload_n hx hb dX12_isOver_10 rfl (lv_at hl 0 rfl) ?_
        refine lv_iload_n hx hb dX12_isOver_11 rfl (lv_at hl 1 rfl) ?_
        obtain ⟨r12, hr12, h⟩ := bnd h
        refine cV (b := 171) (As := [.int v1]) (rest := []) (st1 := [.int r12.1]) hC hw (c_X12_isFull l g n v1 r4.2 r12 hr12) ml_X12_299 im_X12_isFull se_X12_isFull ok171 (CN := RX12) (T := TX12) (NF := 54) rfl rfl (by decide) rfl hl.1 ⟨Nat.le_of_ble_eq_true rfl, Nat.le_of_ble_eq_true rfl⟩ (Nat.le_of_ble_eq_true rfl) ⟨Nat.zero_le _, Nat.zero_le _⟩ rfl dX12_isOver_12 (fun H locs hw => ?_)
        refine lv_if_ne (tgt := 21) hx hb dX12_isOver_15 (by decide) (fun hc => ?_) (fun hc => ?_)
        · rw [if_neg hc] at h
          refine lv_aload_n hx hb dX12_isOver_21 rfl (lv_at hl 0 rfl) ?_
          refine lv_iload_n hx hb dX12_isOver_22 rfl (lv_at hl 1 rfl) ?_
          obtain ⟨r23, hr23, h⟩ := bnd h
          refine cV (b := 171) (As := [.int v1]) (rest := []) (st1 := []) hC hw (c_X12_triesFrom l g n v1 r12.2 r23 hr23) ml_X12_302 im_X12_triesFrom se_X12_triesFrom ok171 (CN := RX12) (T := TX12) (NF := 54) rfl rfl (by decide) rfl hl.1 ⟨Nat.le_of_ble_eq_true rfl, Nat.le_of_ble_eq_true rfl⟩ (Nat.le_of_ble_eq_true rfl) ⟨Nat.zero_le _, Nat.zero_le _⟩ rfl dX12_isOver_23 (fun H locs hw => ?_)
          refine lv_aload_n hx hb dX12_isOver_26 rfl (lv_at hl 0 rfl) ?_
          refine gI hC hw fl_X12_269 ok171 (by decide) dX12_isOver_27 ?_
          refine lv_if_ne (tgt := 35) hx hb dX12_isOver_30 (by decide) (fun hc => ?_) (fun hc => ?_)
          · rw [if_neg hc] at h
            exact B35 v1 r23.2 _ _ _ hw (lv_sub hl [0, 1] rfl) h
          · rw [if_pos hc] at h
            refine lv_iconst (v := (0 : Int32)) hx hb dX12_isOver_33 (by decide) ?_
            exact rZ hC hw hr hlocks (Or.inl rfl) (by rw [← Option.some.inj h]) (by rw [← Option.some.inj h]) dX12_isOver_34
        · rw [if_pos hc] at h
          refine lv_goto (tgt := 35) hx hb dX12_isOver_18 (by decide) ?_
          exact B35 v1 r12.2 _ _ _ hw (lv_sub hl [0, 1] rfl) h
  refine lv_iconst (v := (0 : Int32)) hx hb dX12_isOver_0 (by decide) ?_
  refine lv_istore_n (lv' := [(1, .int (0 : Int32)), (0, .ref (g.2.2 171))]) hx hb dX12_isOver_1 rfl hl (by decide) rfl (fun ls hl => ?_)
  exact B2 n (0 : Int32) μ _ _ _ hw (lv_sub hl [1, 0] rfl) h
set_option maxRecDepth 100000 in
set_option maxHeartbeats 4000000 in
theorem c_X12_canFeed (l : Launch) (g : Gw) (n : Nat) (μ : Mu) (r : Int32 × Mu) (h : X12_canFeed n  μ = some r) : Ct l g yX12_canFeed cX12_canFeed 2 (some .boolean) 5 [.ref (g.2.2 171)] μ (some (.int r.1)) r.2 := by
  rw [X12_canFeed] at h
  refine Ct.of (by decide) (Nat.le_of_ble_eq_true rfl) ?_
  intro p e s m args below meth c ls hC hw hr hlocks hl
  have hx := hC.1
  have hb := hC.2.1
  have hl : lv_has ls 2 [(0, .ref (g.2.2 171))] := hl
  have B2 : ∀ (k : Nat), ∀ (v1 : Int32) (μ : Mu) (H : Heap) (locs : List Loc) (ls : Array Slot), wd g μ s (Aw g s.heap.size) H locs → lv_has ls 2 [(0, .ref (g.2.2 171)), (1, .int v1)] → lpF (fun _ _ => none) (X12_canFeed_2b n) k v1 μ = some r → WQ p l e (rmD 5) s m args below meth c g (some (.int r.1)) r.2 H locs (F0 m 2 ls []) := by
    intro k
    induction k with
    | zero =>
      intro v1 μ H locs ls hw hl h
      cases h
    | succ k ih2 =>
      rw [lpF_s]
      generalize lpF (fun _ _ => none) (X12_canFeed_2b n) k = k2 at ih2 ⊢
      intro v1 μ H locs ls hw hl h
      have B50 : ∀ (v1 : Int32) (μ : Mu) (H : Heap) (locs : List Loc) (ls : Array Slot), wd g μ s (Aw g s.heap.size) H locs → lv_has ls 2 [(0, .ref (g.2.2 171)), (1, .int v1)] → X12_canFeed_50 n k2 v1 μ = some r → WQ p l e (rmD 5) s m args below meth c g (some (.int r.1)) r.2 H locs (F0 m 50 ls []) := by
        intro v1 μ H locs ls hw hl h
        rw [X12_canFeed_50] at h
        refine lv_iinc (v := (v1 + (1 : Int32))) (lv' := [(1, .int (v1 + (1 : Int32))), (0, .ref (g.2.2 171))]) hx hb dX12_canFeed_50 hl (k := 1) rfl rfl (by decide) rfl (fun ls hl => ?_)
        refine lv_goto (tgt := 2) hx hb dX12_canFeed_53 (by decide) ?_
        exact ih2 (v1 + (1 : Int32)) μ _ _ _ hw (lv_sub hl [1, 0] rfl) h
      rw [X12_canFeed_2b] at h
      refine lv_iload_n hx hb dX12_canFeed_2 rfl (lv_at hl 1 rfl) ?_
      refine lv_aload_n hx hb dX12_canFeed_3 rfl (lv_at hl 0 rfl) ?_
      obtain ⟨r4, hr4, h⟩ := bnd h
      refine cV (b := 171) (As := []) (rest := [.int v1]) (st1 := [.int r4.1, .int v1]) hC hw (c_X12_pitMany l g n μ r4 hr4) ml_X12_245 im_X12_pitMany se_X12_pitMany ok171 (CN := RX12) (T := TX12) (NF := 54) rfl rfl (by decide) rfl hl.1 ⟨Nat.le_of_ble_eq_true rfl, Nat.le_of_ble_eq_true rfl⟩ (Nat.le_of_ble_eq_true rfl) ⟨Nat.zero_le _, Nat.zero_le _⟩ rfl dX12_canFeed_4 (fun H locs hw => ?_)
      refine lv_icmp_ge (tgt := 56) hx hb dX12_canFeed_7 (by decide) (fun hc => ?_) (fun hc => ?_)
      · rw [if_pos hc] at h
        refine lv_iconst (v := (0 : Int32)) hx hb dX12_canFeed_56 (by decide) ?_
        exact rZ hC hw hr hlocks (Or.inl rfl) (by rw [← Option.some.inj h]) (by rw [← Option.some.inj h]) dX12_canFeed_57
      · rw [if_neg hc] at h
        refine lv_aload_n hx hb dX12_canFeed_10 rfl (lv_at hl 0 rfl) ?_
        refine lv_iload_n hx hb dX12_canFeed_11 rfl (lv_at hl 1 rfl) ?_
        obtain ⟨r12, hr12, h⟩ := bnd h
        refine cV (b := 171) (As := [.int v1]) (rest := []) (st1 := [.int r12.1]) hC hw (c_X12_isFull l g n v1 r4.2 r12 hr12) ml_X12_299 im_X12_isFull se_X12_isFull ok171 (CN := RX12) (T := TX12) (NF := 54) rfl rfl (by decide) rfl hl.1 ⟨Nat.le_of_ble_eq_true rfl, Nat.le_of_ble_eq_true rfl⟩ (Nat.le_of_ble_eq_true rfl) ⟨Nat.zero_le _, Nat.zero_le _⟩ rfl dX12_canFeed_12 (fun H locs hw => ?_)
        refine lv_if_ne (tgt := 21) hx hb dX12_canFeed_15 (by decide) (fun hc => ?_) (fun hc => ?_)
        · rw [if_neg hc] at h
          refine lv_aload_n hx hb dX12_canFeed_21 rfl (lv_at hl 0 rfl) ?_
          refine lv_iload_n hx hb dX12_canFeed_22 rfl (lv_at hl 1 rfl) ?_
          obtain ⟨r23, hr23, h⟩ := bnd h
          refine cV (b := 171) (As := [.int v1]) (rest := []) (st1 := []) hC hw (c_X12_triesFrom l g n v1 r12.2 r23 hr23) ml_X12_302 im_X12_triesFrom se_X12_triesFrom ok171 (CN := RX12) (T := TX12) (NF := 54) rfl rfl (by decide) rfl hl.1 ⟨Nat.le_of_ble_eq_true rfl, Nat.le_of_ble_eq_true rfl⟩ (Nat.le_of_ble_eq_true rfl) ⟨Nat.zero_le _, Nat.zero_le _⟩ rfl dX12_canFeed_23 (fun H locs hw => ?_)
          refine lv_aload_n hx hb dX12_canFeed_26 rfl (lv_at hl 0 rfl) ?_
          refine gI hC hw fl_X12_269 ok171 (by decide) dX12_canFeed_27 ?_
          refine lv_if_ne (tgt := 50) hx hb dX12_canFeed_30 (by decide) (fun hc => ?_) (fun hc => ?_)
          · rw [if_neg hc] at h
            exact B50 v1 r23.2 _ _ _ hw (lv_sub hl [0, 1] rfl) h
          · rw [if_pos hc] at h
            refine lv_aload_n hx hb dX12_canFeed_33 rfl (lv_at hl 0 rfl) ?_
            refine lv_iconst (v := (1 : Int32)) hx hb dX12_canFeed_34 (by decide) ?_
            refine lv_aload_n hx hb dX12_canFeed_35 rfl (lv_at hl 0 rfl) ?_
            refine gR (t := 172) hC hw fl_X12_9 ok171 (by decide) ot171_0 dX12_canFeed_36 ?_
            refine lv_iconst (v := (2 : Int32)) hx hb dX12_canFeed_39 (by decide) ?_
            refine lI (j := 2) hC hw ok172 on172 (vin (by decide)) (by decide) dX12_canFeed_40 ?_
            refine lv_isub hx hb dX12_canFeed_41 ?_
            obtain ⟨r42, hr42, h⟩ := bnd h
            refine cV (b := 171) (As := [.int ((1 : Int32) - (r23.2.1 172 2))]) (rest := []) (st1 := [.int r42.1]) hC hw (c_X12_sum l g n ((1 : Int32) - (r23.2.1 172 2)) r23.2 r42 hr42) ml_X12_290 im_X12_sum se_X12_sum ok171 (CN := RX12) (T := TX12) (NF := 54) rfl rfl (by decide) rfl hl.1 ⟨Nat.le_of_ble_eq_true rfl, Nat.le_of_ble_eq_true rfl⟩ (Nat.le_of_ble_eq_true rfl) ⟨Nat.zero_le _, Nat.zero_le _⟩ rfl dX12_canFeed_42 (fun H locs hw => ?_)
            refine lv_if_le (tgt := 50) hx hb dX12_canFeed_45 (by decide) (fun hc => ?_) (fun hc => ?_)
            · rw [if_pos hc] at h
              exact B50 v1 r42.2 _ _ _ hw (lv_sub hl [0, 1] rfl) h
            · rw [if_neg hc] at h
              refine lv_iconst (v := (1 : Int32)) hx hb dX12_canFeed_48 (by decide) ?_
              exact rZ hC hw hr hlocks (Or.inr rfl) (by rw [← Option.some.inj h]) (by rw [← Option.some.inj h]) dX12_canFeed_49
        · rw [if_pos hc] at h
          refine lv_goto (tgt := 50) hx hb dX12_canFeed_18 (by decide) ?_
          exact B50 v1 r12.2 _ _ _ hw (lv_sub hl [0, 1] rfl) h
  refine lv_iconst (v := (0 : Int32)) hx hb dX12_canFeed_0 (by decide) ?_
  refine lv_istore_n (lv' := [(1, .int (0 : Int32)), (0, .ref (g.2.2 171))]) hx hb dX12_canFeed_1 rfl hl (by decide) rfl (fun ls hl => ?_)
  exact B2 n (0 : Int32) μ _ _ _ hw (lv_sub hl [1, 0] rfl) h
