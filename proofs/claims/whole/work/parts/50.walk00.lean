set_option maxRecDepth 100000 in
set_option maxHeartbeats 4000000 in
theorem c_X0_packed (l : Launch) (g : Gw) (n : Nat) (v0 : Nat) (v1 : Int32) (v2 : Int32) (μ : Mu) (r : Int64 × Mu) (h : X0_packed n v0 v1 v2 μ = some r) : Ct l g yX0_packed cX0_packed 6 (some .long) 0 [.ref (g.2.2 v0), .int v1, .int v2] μ (some (.long r.1)) r.2 := by
  rw [X0_packed] at h
  obtain ⟨hk0, h⟩ := kd_some h
  refine Ct.of (by decide) (Nat.le_of_ble_eq_true rfl) ?_
  intro p e s m args below meth c ls hC hw hr hlocks hl
  have hx := hC.1
  have hb := hC.2.1
  have hl : lv_has ls 6 [(0, .ref (g.2.2 v0)), (1, .int v1), (2, .int v2)] := hl
  have B5 : ∀ (k : Nat), ∀ (v3 : Int64) (v5 : Int32) (μ : Mu) (H : Heap) (locs : List Loc) (ls : Array Slot), wd g μ s (Aw g s.heap.size) H locs → lv_has ls 6 [(0, .ref (g.2.2 v0)), (2, .int v2), (3, .long v3), (5, .int v5)] → lpF (fun _ _ _ => none) (X0_packed_5b n v0 v1 v2) k v3 v5 μ = some r → WQ p l e (rmD 0) s m args below meth c g (some (.long r.1)) r.2 H locs (F0 m 5 ls []) := by
    intro k
    induction k with
    | zero =>
      intro v3 v5 μ H locs ls hw hl h
      cases h
    | succ k ih5 =>
      rw [lpF_s]
      generalize lpF (fun _ _ _ => none) (X0_packed_5b n v0 v1 v2) k = k5 at ih5 ⊢
      intro v3 v5 μ H locs ls hw hl h
      rw [X0_packed_5b] at h
      refine lv_iload hx hb dX0_packed_5 (lv_at hl 3 rfl) ?_
      refine lv_iload_n hx hb dX0_packed_7 rfl (lv_at hl 1 rfl) ?_
      refine lv_icmp_ge (tgt := 28) hx hb dX0_packed_8 (by decide) (fun hc => ?_) (fun hc => ?_)
      · rw [if_pos hc] at h
        refine lv_lload_n hx hb dX0_packed_28 rfl (lv_at hl 2 rfl) ?_
        exact rL hC hw hr hlocks (by rw [← Option.some.inj h]) (by rw [← Option.some.inj h]) dX0_packed_29
      · rw [if_neg hc] at h
        refine lv_lload_n hx hb dX0_packed_11 rfl (lv_at hl 2 rfl) ?_
        refine lv_bipush (v := (8 : Int32)) hx hb dX0_packed_12 (by decide) ?_
        refine lv_lshl hx hb dX0_packed_14 rfl ?_
        refine lv_aload_n hx hb dX0_packed_15 rfl (lv_at hl 0 rfl) ?_
        refine lv_iload hx hb dX0_packed_16 (lv_at hl 3 rfl) ?_
        obtain ⟨hi18, h⟩ := gd_some h
        refine lI (j := v5.toNatClampNeg) hC hw hk0 rfl hi18 rfl dX0_packed_18 ?_
        refine lv_i2l hx hb dX0_packed_19 rfl ?_
        refine lv_lor hx hb dX0_packed_20 ?_
        refine lv_lstore_n (lv' := [(3, .long ((v3 <<< ((8 : Int32).toInt64 &&& 63)) ||| ((μ.1 v0 v5.toNatClampNeg).toInt64))), (0, .ref (g.2.2 v0)), (2, .int v2), (5, .int v5)]) hx hb dX0_packed_21 rfl hl (by decide) rfl (fun ls hl => ?_)
        refine lv_iinc (v := (v5 + (1 : Int32))) (lv' := [(5, .int (v5 + (1 : Int32))), (3, .long ((v3 <<< ((8 : Int32).toInt64 &&& 63)) ||| ((μ.1 v0 v5.toNatClampNeg).toInt64))), (0, .ref (g.2.2 v0)), (2, .int v2)]) hx hb dX0_packed_22 hl (k := 3) rfl rfl (by decide) rfl (fun ls hl => ?_)
        refine lv_goto (tgt := 5) hx hb dX0_packed_25 (by decide) ?_
        exact ih5 ((v3 <<< ((8 : Int32).toInt64 &&& 63)) ||| ((μ.1 v0 v5.toNatClampNeg).toInt64)) (v5 + (1 : Int32)) μ _ _ _ hw (lv_sub hl [2, 3, 1, 0] rfl) h
  refine lv_lconst (v := (0 : Int64)) hx hb dX0_packed_0 (by decide) ?_
  refine lv_lstore_n (lv' := [(3, .long (0 : Int64)), (0, .ref (g.2.2 v0)), (1, .int v1), (2, .int v2)]) hx hb dX0_packed_1 rfl hl (by decide) rfl (fun ls hl => ?_)
  refine lv_iload_n hx hb dX0_packed_2 rfl (lv_at hl 2 rfl) ?_
  refine lv_istore (lv' := [(5, .int v1), (3, .long (0 : Int64)), (0, .ref (g.2.2 v0)), (1, .int v1), (2, .int v2)]) hx hb dX0_packed_3 hl (by decide) rfl (fun ls hl => ?_)
  exact B5 n (0 : Int64) v1 μ _ _ _ hw (lv_sub hl [2, 4, 1, 0] rfl) h
set_option maxRecDepth 100000 in
set_option maxHeartbeats 4000000 in
theorem c_X1_countWays (l : Launch) (g : Gw) (n : Nat) (μ : Mu) (r : Unit × Mu) (h : X1_countWays n  μ = some r) : Ct l g yX1_countWays cX1_countWays 5 none 1 [.ref (g.2.2 2)] μ none r.2 := by
  rw [X1_countWays] at h
  refine Ct.of (by decide) (Nat.le_of_ble_eq_true rfl) ?_
  intro p e s m args below meth c ls hC hw hr hlocks hl
  have hx := hC.1
  have hb := hC.2.1
  have hl : lv_has ls 5 [(0, .ref (g.2.2 2))] := hl
  have B9 : ∀ (k : Nat), ∀ (v1 : Int32) (μ : Mu) (H : Heap) (locs : List Loc) (ls : Array Slot), wd g μ s (Aw g s.heap.size) H locs → lv_has ls 5 [(0, .ref (g.2.2 2)), (1, .int v1)] → lpF (fun _ _ => none) (X1_countWays_9b n) k v1 μ = some r → WQ p l e (rmD 1) s m args below meth c g none r.2 H locs (F0 m 9 ls []) := by
    intro k
    induction k with
    | zero =>
      intro v1 μ H locs ls hw hl h
      cases h
    | succ k ih9 =>
      rw [lpF_s]
      generalize lpF (fun _ _ => none) (X1_countWays_9b n) k = k9 at ih9 ⊢
      intro v1 μ H locs ls hw hl h
      have B17 : ∀ (k : Nat), ∀ (v1 : Int32) (v2 : Int32) (μ : Mu) (H : Heap) (locs : List Loc) (ls : Array Slot), wd g μ s (Aw g s.heap.size) H locs → lv_has ls 5 [(0, .ref (g.2.2 2)), (1, .int v1), (2, .int v2)] → lpF (fun _ _ _ => none) (X1_countWays_17b n k9) k v1 v2 μ = some r → WQ p l e (rmD 1) s m args below meth c g none r.2 H locs (F0 m 17 ls []) := by
        intro k
        induction k with
        | zero =>
          intro v1 v2 μ H locs ls hw hl h
          cases h
        | succ k ih17 =>
          rw [lpF_s]
          generalize lpF (fun _ _ _ => none) (X1_countWays_17b n k9) k = k17 at ih17 ⊢
          intro v1 v2 μ H locs ls hw hl h
          have B58 : ∀ (v1 : Int32) (v2 : Int32) (v3 : Int32) (s0 : Int32) (μ : Mu) (H : Heap) (locs : List Loc) (ls : Array Slot), wd g μ s (Aw g s.heap.size) H locs → lv_has ls 5 [(0, .ref (g.2.2 2)), (1, .int v1), (2, .int v2), (3, .int v3)] → X1_countWays_58 n k9 k17 v1 v2 v3 s0 μ = some r → WQ p l e (rmD 1) s m args below meth c g none r.2 H locs (F0 m 58 ls [.int s0]) := by
            intro v1 v2 v3 s0 μ H locs ls hw hl h
            rw [X1_countWays_58] at h
            refine lv_istore (lv' := [(4, .int s0), (0, .ref (g.2.2 2)), (1, .int v1), (2, .int v2), (3, .int v3)]) hx hb dX1_countWays_58 hl (by decide) rfl (fun ls hl => ?_)
            refine lv_aload_n hx hb dX1_countWays_60 rfl (lv_at hl 1 rfl) ?_
            refine gR (t := 5) hC hw fl_X1_18 ok2 (by decide) ot2_6 dX1_countWays_61 ?_
            refine lv_iload_n hx hb dX1_countWays_64 rfl (lv_at hl 2 rfl) ?_
            refine lv_bipush (v := (41 : Int32)) hx hb dX1_countWays_65 (by decide) ?_
            refine lv_imul hx hb dX1_countWays_67 ?_
            refine lv_iload_n hx hb dX1_countWays_68 rfl (lv_at hl 3 rfl) ?_
            refine lv_iadd hx hb dX1_countWays_69 ?_
            refine lv_sipush (v := (6001 : Int32)) hx hb dX1_countWays_70 (by decide) ?_
            refine lv_iload_n hx hb dX1_countWays_73 rfl (lv_at hl 4 rfl) ?_
            refine lv_iload hx hb dX1_countWays_74 (lv_at hl 0 rfl) ?_
            refine lv_iadd hx hb dX1_countWays_76 ?_
            refine va_mmin (rest := [.int ((v1 * (41 : Int32)) + v2), .ref (g.2.2 5)]) hx hb (hC.2.2.1.trans hl.1.symm) hC.2.2.2.1 (hC.2.2.2.2.1 _ mm_X1_31) (hC.2.2.2.2.1 _ mw_min.1) (hC.2.2.2.2.1 _ mw_min.2.1) (hC.2.2.2.2.1 _ mw_min.2.2) (Nat.le_of_ble_eq_true rfl) (Nat.le_of_ble_eq_true rfl) (Nat.zero_le _) (Nat.zero_le _) dX1_countWays_77 ?_
            obtain ⟨hi80, h⟩ := gd_some h
            refine sI (j := ((v1 * (41 : Int32)) + v2).toNatClampNeg) hC hw ok5 on5 hi80 rfl dX1_countWays_80 (fun H locs hw => ?_)
            refine lv_iinc (v := (v2 + (1 : Int32))) (lv' := [(2, .int (v2 + (1 : Int32))), (4, .int s0), (0, .ref (g.2.2 2)), (1, .int v1), (3, .int v3)]) hx hb dX1_countWays_81 hl (k := 3) rfl rfl (by decide) rfl (fun ls hl => ?_)
            refine lv_goto (tgt := 17) hx hb dX1_countWays_84 (by decide) ?_
            exact ih17 v1 (v2 + (1 : Int32)) (si μ 5 ((v1 * (41 : Int32)) + v2).toNatClampNeg (if (v3 + s0) < (6001 : Int32) then (v3 + s0) else (6001 : Int32))) _ _ _ hw (lv_sub hl [2, 3, 0] rfl) h
          rw [X1_countWays_17b] at h
          refine lv_iload_n hx hb dX1_countWays_17 rfl (lv_at hl 2 rfl) ?_
          refine lv_bipush (v := (40 : Int32)) hx hb dX1_countWays_18 (by decide) ?_
          refine lv_icmp_gt (tgt := 87) hx hb dX1_countWays_20 (by decide) (fun hc => ?_) (fun hc => ?_)
          · rw [if_pos hc] at h
            refine lv_iinc (v := (v1 + (1 : Int32))) (lv' := [(1, .int (v1 + (1 : Int32))), (0, .ref (g.2.2 2)), (2, .int v2)]) hx hb dX1_countWays_87 hl (k := 1) rfl rfl (by decide) rfl (fun ls hl => ?_)
            refine lv_goto (tgt := 9) hx hb dX1_countWays_90 (by decide) ?_
            exact ih9 (v1 + (1 : Int32)) μ _ _ _ hw (lv_sub hl [1, 0] rfl) h
          · rw [if_neg hc] at h
            refine lv_aload_n hx hb dX1_countWays_23 rfl (lv_at hl 0 rfl) ?_
            refine gR (t := 5) hC hw fl_X1_18 ok2 (by decide) ot2_6 dX1_countWays_24 ?_
            refine lv_iload_n hx hb dX1_countWays_27 rfl (lv_at hl 1 rfl) ?_
            refine lv_iconst (v := (1 : Int32)) hx hb dX1_countWays_28 (by decide) ?_
            refine lv_isub hx hb dX1_countWays_29 ?_
            refine lv_bipush (v := (41 : Int32)) hx hb dX1_countWays_30 (by decide) ?_
            refine lv_imul hx hb dX1_countWays_32 ?_
            refine lv_iload_n hx hb dX1_countWays_33 rfl (lv_at hl 2 rfl) ?_
            refine lv_iadd hx hb dX1_countWays_34 ?_
            obtain ⟨hi35, h⟩ := gd_some h
            refine lI (j := (((v1 - (1 : Int32)) * (41 : Int32)) + v2).toNatClampNeg) hC hw ok5 on5 hi35 rfl dX1_countWays_35 ?_
            refine lv_istore_n (lv' := [(3, .int (μ.1 5 (((v1 - (1 : Int32)) * (41 : Int32)) + v2).toNatClampNeg)), (0, .ref (g.2.2 2)), (1, .int v1), (2, .int v2)]) hx hb dX1_countWays_36 rfl hl (by decide) rfl (fun ls hl => ?_)
            refine lv_iload_n hx hb dX1_countWays_37 rfl (lv_at hl 3 rfl) ?_
            refine lv_if_ne (tgt := 45) hx hb dX1_countWays_38 (by decide) (fun hc => ?_) (fun hc => ?_)
            · rw [if_neg hc] at h
              refine lv_aload_n hx hb dX1_countWays_45 rfl (lv_at hl 1 rfl) ?_
              refine gR (t := 5) hC hw fl_X1_18 ok2 (by decide) ot2_6 dX1_countWays_46 ?_
              refine lv_iload_n hx hb dX1_countWays_49 rfl (lv_at hl 2 rfl) ?_
              refine lv_bipush (v := (41 : Int32)) hx hb dX1_countWays_50 (by decide) ?_
              refine lv_imul hx hb dX1_countWays_52 ?_
              refine lv_iload_n hx hb dX1_countWays_53 rfl (lv_at hl 3 rfl) ?_
              refine lv_iadd hx hb dX1_countWays_54 ?_
              refine lv_iconst (v := (1 : Int32)) hx hb dX1_countWays_55 (by decide) ?_
              refine lv_isub hx hb dX1_countWays_56 ?_
              obtain ⟨hi57, h⟩ := gd_some h
              refine lI (j := (((v1 * (41 : Int32)) + v2) - (1 : Int32)).toNatClampNeg) hC hw ok5 on5 hi57 rfl dX1_countWays_57 ?_
              exact B58 v1 v2 (μ.1 5 (((v1 - (1 : Int32)) * (41 : Int32)) + v2).toNatClampNeg) (μ.1 5 (((v1 * (41 : Int32)) + v2) - (1 : Int32)).toNatClampNeg) μ _ _ _ hw (lv_sub hl [1, 2, 3, 0] rfl) h
            · rw [if_pos hc] at h
              refine lv_iconst (v := (0 : Int32)) hx hb dX1_countWays_41 (by decide) ?_
              refine lv_goto (tgt := 58) hx hb dX1_countWays_42 (by decide) ?_
              exact B58 v1 v2 (μ.1 5 (((v1 - (1 : Int32)) * (41 : Int32)) + v2).toNatClampNeg) (0 : Int32) μ _ _ _ hw (lv_sub hl [1, 2, 3, 0] rfl) h
      rw [X1_countWays_9b] at h
      refine lv_iload_n hx hb dX1_countWays_9 rfl (lv_at hl 1 rfl) ?_
      refine lv_bipush (v := (14 : Int32)) hx hb dX1_countWays_10 (by decide) ?_
      refine lv_icmp_ge (tgt := 93) hx hb dX1_countWays_12 (by decide) (fun hc => ?_) (fun hc => ?_)
      · rw [if_pos hc] at h
        exact rV hC hw hr hlocks rfl (by rw [← Option.some.inj h]) dX1_countWays_93
      · rw [if_neg hc] at h
        refine lv_iconst (v := (0 : Int32)) hx hb dX1_countWays_15 (by decide) ?_
        refine lv_istore_n (lv' := [(2, .int (0 : Int32)), (0, .ref (g.2.2 2)), (1, .int v1)]) hx hb dX1_countWays_16 rfl hl (by decide) rfl (fun ls hl => ?_)
        exact B17 n v1 (0 : Int32) μ _ _ _ hw (lv_sub hl [1, 2, 0] rfl) h
  refine lv_aload_n hx hb dX1_countWays_0 rfl (lv_at hl 0 rfl) ?_
  refine gR (t := 5) hC hw fl_X1_18 ok2 (by decide) ot2_6 dX1_countWays_1 ?_
  refine lv_iconst (v := (0 : Int32)) hx hb dX1_countWays_4 (by decide) ?_
  refine lv_iconst (v := (1 : Int32)) hx hb dX1_countWays_5 (by decide) ?_
  refine sI (j := 0) hC hw ok5 on5 (vin (by decide)) (by decide) dX1_countWays_6 (fun H locs hw => ?_)
  refine lv_iconst (v := (1 : Int32)) hx hb dX1_countWays_7 (by decide) ?_
  refine lv_istore_n (lv' := [(1, .int (1 : Int32)), (0, .ref (g.2.2 2))]) hx hb dX1_countWays_8 rfl hl (by decide) rfl (fun ls hl => ?_)
  exact B9 n (1 : Int32) (si μ 5 0 (1 : Int32)) _ _ _ hw (lv_sub hl [1, 0] rfl) h
set_option maxRecDepth 100000 in
set_option maxHeartbeats 4000000 in
theorem c_X1_pitAsSeen (l : Launch) (g : Gw) (n : Nat) (v1 : Int32) (v2 : Int32) (μ : Mu) (r : Int32 × Mu) (h : X1_pitAsSeen n v1 v2 μ = some r) : Ct l g yX1_pitAsSeen cX1_pitAsSeen 4 (some .int) 0 [.ref (g.2.2 2), .int v1, .int v2] μ (some (.int r.1)) r.2 := by
  rw [X1_pitAsSeen] at h
  refine Ct.of (by decide) (Nat.le_of_ble_eq_true rfl) ?_
  intro p e s m args below meth c ls hC hw hr hlocks hl
  have hx := hC.1
  have hb := hC.2.1
  have hl : lv_has ls 4 [(0, .ref (g.2.2 2)), (1, .int v1), (2, .int v2)] := hl
  have B40 : ∀ (s0 : Int32) (μ : Mu) (H : Heap) (locs : List Loc) (ls : Array Slot), wd g μ s (Aw g s.heap.size) H locs → lv_has ls 4 [] → X1_pitAsSeen_40 n v1 v2 s0 μ = some r → WQ p l e (rmD 0) s m args below meth c g (some (.int r.1)) r.2 H locs (F0 m 40 ls [.int s0]) := by
    intro s0 μ H locs ls hw hl h
    rw [X1_pitAsSeen_40] at h
    exact rI hC hw hr hlocks (by rw [← Option.some.inj h]) (by rw [← Option.some.inj h]) dX1_pitAsSeen_40
  refine lv_iload_n hx hb dX1_pitAsSeen_0 rfl (lv_at hl 1 rfl) ?_
  refine lv_aload_n hx hb dX1_pitAsSeen_1 rfl (lv_at hl 0 rfl) ?_
  refine gR (t := 1) hC hw fl_X1_21 ok2 (by decide) ot2_4 dX1_pitAsSeen_2 ?_
  refine gI hC hw fl_X1_66 ok1 (by decide) dX1_pitAsSeen_5 ?_
  refine lv_imul hx hb dX1_pitAsSeen_8 ?_
  refine lv_iload_n hx hb dX1_pitAsSeen_9 rfl (lv_at hl 2 rfl) ?_
  refine lv_iadd hx hb dX1_pitAsSeen_10 ?_
  refine lv_istore_n (lv' := [(3, .int ((v1 * (μ.1 1 1)) + v2)), (0, .ref (g.2.2 2)), (1, .int v1), (2, .int v2)]) hx hb dX1_pitAsSeen_11 rfl hl (by decide) rfl (fun ls hl => ?_)
  refine lv_iload_n hx hb dX1_pitAsSeen_12 rfl (lv_at hl 0 rfl) ?_
  refine lv_iconst (v := (2 : Int32)) hx hb dX1_pitAsSeen_13 (by decide) ?_
  refine lv_aload_n hx hb dX1_pitAsSeen_14 rfl (lv_at hl 1 rfl) ?_
  refine gR (t := 1) hC hw fl_X1_21 ok2 (by decide) ot2_4 dX1_pitAsSeen_15 ?_
  refine gI hC hw fl_X1_66 ok1 (by decide) dX1_pitAsSeen_18 ?_
  refine lv_imul hx hb dX1_pitAsSeen_21 ?_
  refine lv_icmp_ge (tgt := 29) hx hb dX1_pitAsSeen_22 (by decide) (fun hc => ?_) (fun hc => ?_)
  · rw [if_pos hc] at h
    refine lv_iload_n hx hb dX1_pitAsSeen_29 rfl (lv_at hl 0 rfl) ?_
    refine lv_iconst (v := (2 : Int32)) hx hb dX1_pitAsSeen_30 (by decide) ?_
    refine lv_aload_n hx hb dX1_pitAsSeen_31 rfl (lv_at hl 1 rfl) ?_
    refine gR (t := 1) hC hw fl_X1_21 ok2 (by decide) ot2_4 dX1_pitAsSeen_32 ?_
    refine gI hC hw fl_X1_66 ok1 (by decide) dX1_pitAsSeen_35 ?_
    refine lv_imul hx hb dX1_pitAsSeen_38 ?_
    refine lv_isub hx hb dX1_pitAsSeen_39 ?_
    exact B40 (((v1 * (μ.1 1 1)) + v2) - ((2 : Int32) * (μ.1 1 1))) μ _ _ _ hw (lv_sub hl [] rfl) h
  · rw [if_neg hc] at h
    refine lv_iload_n hx hb dX1_pitAsSeen_25 rfl (lv_at hl 0 rfl) ?_
    refine lv_goto (tgt := 40) hx hb dX1_pitAsSeen_26 (by decide) ?_
    exact B40 ((v1 * (μ.1 1 1)) + v2) μ _ _ _ hw (lv_sub hl [] rfl) h
set_option maxRecDepth 100000 in
set_option maxHeartbeats 4000000 in
theorem c_X1_positionsOf (l : Launch) (g : Gw) (n : Nat) (v1 : Int32) (μ : Mu) (r : Int32 × Mu) (h : X1_positionsOf n v1 μ = some r) : Ct l g yX1_positionsOf cX1_positionsOf 2 (some .int) 0 [.ref (g.2.2 2), .int v1] μ (some (.int r.1)) r.2 := by
  rw [X1_positionsOf] at h
  refine Ct.of (by decide) (Nat.le_of_ble_eq_true rfl) ?_
  intro p e s m args below meth c ls hC hw hr hlocks hl
  have hx := hC.1
  have hb := hC.2.1
  have hl : lv_has ls 2 [(0, .ref (g.2.2 2)), (1, .int v1)] := hl
  refine lv_aload_n hx hb dX1_positionsOf_0 rfl (lv_at hl 0 rfl) ?_
  refine gR (t := 5) hC hw fl_X1_18 ok2 (by decide) ot2_6 dX1_positionsOf_1 ?_
  refine lv_aload_n hx hb dX1_positionsOf_4 rfl (lv_at hl 0 rfl) ?_
  refine gI hC hw fl_X1_60 ok2 (by decide) dX1_positionsOf_5 ?_
  refine lv_bipush (v := (41 : Int32)) hx hb dX1_positionsOf_8 (by decide) ?_
  refine lv_imul hx hb dX1_positionsOf_10 ?_
  refine lv_iload_n hx hb dX1_positionsOf_11 rfl (lv_at hl 1 rfl) ?_
  refine lv_iadd hx hb dX1_positionsOf_12 ?_
  obtain ⟨hi13, h⟩ := gd_some h
  refine lI (j := (((μ.1 2 1) * (41 : Int32)) + v1).toNatClampNeg) hC hw ok5 on5 hi13 rfl dX1_positionsOf_13 ?_
  exact rI hC hw hr hlocks (by rw [← Option.some.inj h]) (by rw [← Option.some.inj h]) dX1_positionsOf_14
set_option maxRecDepth 100000 in
set_option maxHeartbeats 4000000 in
theorem c_X1_positionsUpTo (l : Launch) (g : Gw) (n : Nat) (v1 : Int32) (μ : Mu) (r : Int32 × Mu) (h : X1_positionsUpTo n v1 μ = some r) : Ct l g yX1_positionsUpTo cX1_positionsUpTo 2 (some .int) 0 [.ref (g.2.2 2), .int v1] μ (some (.int r.1)) r.2 := by
  rw [X1_positionsUpTo] at h
  refine Ct.of (by decide) (Nat.le_of_ble_eq_true rfl) ?_
  intro p e s m args below meth c ls hC hw hr hlocks hl
  have hx := hC.1
  have hb := hC.2.1
  have hl : lv_has ls 2 [(0, .ref (g.2.2 2)), (1, .int v1)] := hl
  have B24 : ∀ (s0 : Int32) (μ : Mu) (H : Heap) (locs : List Loc) (ls : Array Slot), wd g μ s (Aw g s.heap.size) H locs → lv_has ls 2 [] → X1_positionsUpTo_24 n v1 s0 μ = some r → WQ p l e (rmD 0) s m args below meth c g (some (.int r.1)) r.2 H locs (F0 m 24 ls [.int s0]) := by
    intro s0 μ H locs ls hw hl h
    rw [X1_positionsUpTo_24] at h
    exact rI hC hw hr hlocks (by rw [← Option.some.inj h]) (by rw [← Option.some.inj h]) dX1_positionsUpTo_24
  refine lv_iload_n hx hb dX1_positionsUpTo_0 rfl (lv_at hl 1 rfl) ?_
  refine lv_if_ge (tgt := 8) hx hb dX1_positionsUpTo_1 (by decide) (fun hc => ?_) (fun hc => ?_)
  · rw [if_pos hc] at h
    refine lv_aload_n hx hb dX1_positionsUpTo_8 rfl (lv_at hl 0 rfl) ?_
    refine gR (t := 5) hC hw fl_X1_18 ok2 (by decide) ot2_6 dX1_positionsUpTo_9 ?_
    refine lv_aload_n hx hb dX1_positionsUpTo_12 rfl (lv_at hl 0 rfl) ?_
    refine gI hC hw fl_X1_60 ok2 (by decide) dX1_positionsUpTo_13 ?_
    refine lv_iconst (v := (1 : Int32)) hx hb dX1_positionsUpTo_16 (by decide) ?_
    refine lv_iadd hx hb dX1_positionsUpTo_17 ?_
    refine lv_bipush (v := (41 : Int32)) hx hb dX1_positionsUpTo_18 (by decide) ?_
    refine lv_imul hx hb dX1_positionsUpTo_20 ?_
    refine lv_iload_n hx hb dX1_positionsUpTo_21 rfl (lv_at hl 1 rfl) ?_
    refine lv_iadd hx hb dX1_positionsUpTo_22 ?_
    obtain ⟨hi23, h⟩ := gd_some h
    refine lI (j := ((((μ.1 2 1) + (1 : Int32)) * (41 : Int32)) + v1).toNatClampNeg) hC hw ok5 on5 hi23 rfl dX1_positionsUpTo_23 ?_
    exact B24 (μ.1 5 ((((μ.1 2 1) + (1 : Int32)) * (41 : Int32)) + v1).toNatClampNeg) μ _ _ _ hw (lv_sub hl [] rfl) h
  · rw [if_neg hc] at h
    refine lv_iconst (v := (0 : Int32)) hx hb dX1_positionsUpTo_4 (by decide) ?_
    refine lv_goto (tgt := 24) hx hb dX1_positionsUpTo_5 (by decide) ?_
    exact B24 (0 : Int32) μ _ _ _ hw (lv_sub hl [] rfl) h
set_option maxRecDepth 100000 in
set_option maxHeartbeats 4000000 in
theorem c_X1_numberOf (l : Launch) (g : Gw) (n : Nat) (v1 : Nat) (v2 : Int32) (μ : Mu) (r : Int32 × Mu) (h : X1_numberOf n v1 v2 μ = some r) : Ct l g yX1_numberOf cX1_numberOf 7 (some .int) 0 [.ref (g.2.2 2), .ref (g.2.2 v1), .int v2] μ (some (.int r.1)) r.2 := by
  rw [X1_numberOf] at h
  obtain ⟨hk1, h⟩ := kd_some h
  refine Ct.of (by decide) (Nat.le_of_ble_eq_true rfl) ?_
  intro p e s m args below meth c ls hC hw hr hlocks hl
  have hx := hC.1
  have hb := hC.2.1
  have hl : lv_has ls 7 [(0, .ref (g.2.2 2)), (1, .ref (g.2.2 v1)), (2, .int v2)] := hl
  have B86 : ∀ (v5 : Int32) (μ : Mu) (H : Heap) (locs : List Loc) (ls : Array Slot), wd g μ s (Aw g s.heap.size) H locs → lv_has ls 7 [(5, .int v5)] → X1_numberOf_86 n v1 v2 v5 μ = some r → WQ p l e (rmD 0) s m args below meth c g (some (.int r.1)) r.2 H locs (F0 m 86 ls []) := by
    intro v5 μ H locs ls hw hl h
    rw [X1_numberOf_86] at h
    refine lv_iload hx hb dX1_numberOf_86 (lv_at hl 0 rfl) ?_
    exact rI hC hw hr hlocks (by rw [← Option.some.inj h]) (by rw [← Option.some.inj h]) dX1_numberOf_88
  have B17 : ∀ (k : Nat), ∀ (v3 : Int32) (v4 : Int32) (v5 : Int32) (v6 : Int32) (μ : Mu) (H : Heap) (locs : List Loc) (ls : Array Slot), wd g μ s (Aw g s.heap.size) H locs → lv_has ls 7 [(0, .ref (g.2.2 2)), (1, .ref (g.2.2 v1)), (3, .int v3), (4, .int v4), (5, .int v5), (6, .int v6)] → lpF (fun _ _ _ _ _ => none) (X1_numberOf_17b n v1 v2) k v3 v4 v5 v6 μ = some r → WQ p l e (rmD 0) s m args below meth c g (some (.int r.1)) r.2 H locs (F0 m 17 ls []) := by
    intro k
    induction k with
    | zero =>
      intro v3 v4 v5 v6 μ H locs ls hw hl h
      cases h
    | succ k ih17 =>
      rw [lpF_s]
      generalize lpF (fun _ _ _ _ _ => none) (X1_numberOf_17b n v1 v2) k = k17 at ih17 ⊢
      intro v3 v4 v5 v6 μ H locs ls hw hl h
      have B80 : ∀ (v3 : Int32) (v4 : Int32) (v5 : Int32) (v6 : Int32) (μ : Mu) (H : Heap) (locs : List Loc) (ls : Array Slot), wd g μ s (Aw g s.heap.size) H locs → lv_has ls 7 [(0, .ref (g.2.2 2)), (1, .ref (g.2.2 v1)), (3, .int v3), (4, .int v4), (5, .int v5), (6, .int v6)] → X1_numberOf_80 n v1 v2 k17 v3 v4 v5 v6 μ = some r → WQ p l e (rmD 0) s m args below meth c g (some (.int r.1)) r.2 H locs (F0 m 80 ls []) := by
        intro v3 v4 v5 v6 μ H locs ls hw hl h
        rw [X1_numberOf_80] at h
        refine lv_iinc (v := (v6 + (1 : Int32))) (lv' := [(6, .int (v6 + (1 : Int32))), (0, .ref (g.2.2 2)), (1, .ref (g.2.2 v1)), (3, .int v3), (4, .int v4), (5, .int v5)]) hx hb dX1_numberOf_80 hl (k := 5) rfl rfl (by decide) rfl (fun ls hl => ?_)
        refine lv_goto (tgt := 17) hx hb dX1_numberOf_83 (by decide) ?_
        exact ih17 v3 v4 v5 (v6 + (1 : Int32)) μ _ _ _ hw (lv_sub hl [1, 2, 3, 4, 5, 0] rfl) h
      rw [X1_numberOf_17b] at h
      refine lv_iload hx hb dX1_numberOf_17 (lv_at hl 5 rfl) ?_
      refine lv_aload_n hx hb dX1_numberOf_19 rfl (lv_at hl 0 rfl) ?_
      refine gI hC hw fl_X1_60 ok2 (by decide) dX1_numberOf_20 ?_
      refine lv_icmp_ge (tgt := 86) hx hb dX1_numberOf_23 (by decide) (fun hc => ?_) (fun hc => ?_)
      · rw [if_pos hc] at h
        exact B86 v5 μ _ _ _ hw (lv_sub hl [4] rfl) h
      · rw [if_neg hc] at h
        refine lv_iload hx hb dX1_numberOf_26 (lv_at hl 3 rfl) ?_
        refine lv_if_le (tgt := 86) hx hb dX1_numberOf_28 (by decide) (fun hc => ?_) (fun hc => ?_)
        · rw [if_pos hc] at h
          exact B86 v5 μ _ _ _ hw (lv_sub hl [4] rfl) h
        · rw [if_neg hc] at h
          refine lv_iload hx hb dX1_numberOf_31 (lv_at hl 3 rfl) ?_
          refine lv_aload_n hx hb dX1_numberOf_33 rfl (lv_at hl 1 rfl) ?_
          refine gR (t := (v1 + 1)) hC hw fl_X1_84 hk1 (by decide) (sc_T hk1) dX1_numberOf_34 ?_
          refine lv_aload_n hx hb dX1_numberOf_37 rfl (lv_at hl 0 rfl) ?_
          refine gR (t := 4) hC hw fl_X1_15 ok2 (by decide) ot2_5 dX1_numberOf_38 ?_
          refine lv_iload_n hx hb dX1_numberOf_41 rfl (lv_at hl 2 rfl) ?_
          refine lv_iload hx hb dX1_numberOf_42 (lv_at hl 5 rfl) ?_
          refine lv_iadd hx hb dX1_numberOf_44 ?_
          obtain ⟨hi45, h⟩ := gd_some h
          refine lI (j := (v3 + v6).toNatClampNeg) hC hw ok4 on4 hi45 rfl dX1_numberOf_45 ?_
          obtain ⟨hi46, h⟩ := gd_some h
          refine lI (j := (μ.1 4 (v3 + v6).toNatClampNeg).toNatClampNeg) hC hw (sc_K hk1) (sc_N hk1) hi46 rfl dX1_numberOf_46 ?_
          refine lv_isub hx hb dX1_numberOf_47 ?_
          refine lv_istore (lv' := [(4, .int (v4 - (μ.1 (v1 + 1) (μ.1 4 (v3 + v6).toNatClampNeg).toNatClampNeg))), (0, .ref (g.2.2 2)), (1, .ref (g.2.2 v1)), (3, .int v3), (5, .int v5), (6, .int v6)]) hx hb dX1_numberOf_48 hl (by decide) rfl (fun ls hl => ?_)
          refine lv_iload hx hb dX1_numberOf_50 (lv_at hl 0 rfl) ?_
          refine lv_if_le (tgt := 80) hx hb dX1_numberOf_52 (by decide) (fun hc => ?_) (fun hc => ?_)
          · rw [if_pos hc] at h
            exact B80 v3 (v4 - (μ.1 (v1 + 1) (μ.1 4 (v3 + v6).toNatClampNeg).toNatClampNeg)) v5 v6 μ _ _ _ hw (lv_sub hl [1, 2, 3, 0, 4, 5] rfl) h
          · rw [if_neg hc] at h
            refine lv_iload hx hb dX1_numberOf_55 (lv_at hl 4 rfl) ?_
            refine lv_aload_n hx hb dX1_numberOf_57 rfl (lv_at hl 1 rfl) ?_
            refine gR (t := 5) hC hw fl_X1_18 ok2 (by decide) ot2_6 dX1_numberOf_58 ?_
            refine lv_aload_n hx hb dX1_numberOf_61 rfl (lv_at hl 1 rfl) ?_
            refine gI hC hw fl_X1_60 ok2 (by decide) dX1_numberOf_62 ?_
            refine lv_iload hx hb dX1_numberOf_65 (lv_at hl 5 rfl) ?_
            refine lv_isub hx hb dX1_numberOf_67 ?_
            refine lv_bipush (v := (41 : Int32)) hx hb dX1_numberOf_68 (by decide) ?_
            refine lv_imul hx hb dX1_numberOf_70 ?_
            refine lv_iload hx hb dX1_numberOf_71 (lv_at hl 0 rfl) ?_
            refine lv_iadd hx hb dX1_numberOf_73 ?_
            refine lv_iconst (v := (1 : Int32)) hx hb dX1_numberOf_74 (by decide) ?_
            refine lv_isub hx hb dX1_numberOf_75 ?_
            obtain ⟨hi76, h⟩ := gd_some h
            refine lI (j := (((((μ.1 2 1) - v6) * (41 : Int32)) + (v4 - (μ.1 (v1 + 1) (μ.1 4 (v3 + v6).toNatClampNeg).toNatClampNeg))) - (1 : Int32)).toNatClampNeg) hC hw ok5 on5 hi76 rfl dX1_numberOf_76 ?_
            refine lv_iadd hx hb dX1_numberOf_77 ?_
            refine lv_istore (lv' := [(5, .int (v5 + (μ.1 5 (((((μ.1 2 1) - v6) * (41 : Int32)) + (v4 - (μ.1 (v1 + 1) (μ.1 4 (v3 + v6).toNatClampNeg).toNatClampNeg))) - (1 : Int32)).toNatClampNeg))), (4, .int (v4 - (μ.1 (v1 + 1) (μ.1 4 (v3 + v6).toNatClampNeg).toNatClampNeg))), (0, .ref (g.2.2 2)), (1, .ref (g.2.2 v1)), (3, .int v3), (6, .int v6)]) hx hb dX1_numberOf_78 hl (by decide) rfl (fun ls hl => ?_)
            exact B80 v3 (v4 - (μ.1 (v1 + 1) (μ.1 4 (v3 + v6).toNatClampNeg).toNatClampNeg)) (v5 + (μ.1 5 (((((μ.1 2 1) - v6) * (41 : Int32)) + (v4 - (μ.1 (v1 + 1) (μ.1 4 (v3 + v6).toNatClampNeg).toNatClampNeg))) - (1 : Int32)).toNatClampNeg)) v6 μ _ _ _ hw (lv_sub hl [2, 3, 4, 1, 0, 5] rfl) h
  refine lv_aload_n hx hb dX1_numberOf_0 rfl (lv_at hl 1 rfl) ?_
  refine gI hC hw fl_X1_79 hk1 (by decide) dX1_numberOf_1 ?_
  refine lv_bipush (v := (12 : Int32)) hx hb dX1_numberOf_4 (by decide) ?_
  refine lv_imul hx hb dX1_numberOf_6 ?_
  refine lv_istore_n (lv' := [(3, .int ((μ.1 v1 1) * (12 : Int32))), (0, .ref (g.2.2 2)), (1, .ref (g.2.2 v1)), (2, .int v2)]) hx hb dX1_numberOf_7 rfl hl (by decide) rfl (fun ls hl => ?_)
  refine lv_iload_n hx hb dX1_numberOf_8 rfl (lv_at hl 3 rfl) ?_
  refine lv_istore (lv' := [(4, .int v2), (3, .int ((μ.1 v1 1) * (12 : Int32))), (0, .ref (g.2.2 2)), (1, .ref (g.2.2 v1)), (2, .int v2)]) hx hb dX1_numberOf_9 hl (by decide) rfl (fun ls hl => ?_)
  refine lv_iconst (v := (0 : Int32)) hx hb dX1_numberOf_11 (by decide) ?_
  refine lv_istore (lv' := [(5, .int (0 : Int32)), (4, .int v2), (3, .int ((μ.1 v1 1) * (12 : Int32))), (0, .ref (g.2.2 2)), (1, .ref (g.2.2 v1)), (2, .int v2)]) hx hb dX1_numberOf_12 hl (by decide) rfl (fun ls hl => ?_)
  refine lv_iconst (v := (0 : Int32)) hx hb dX1_numberOf_14 (by decide) ?_
  refine lv_istore (lv' := [(6, .int (0 : Int32)), (5, .int (0 : Int32)), (4, .int v2), (3, .int ((μ.1 v1 1) * (12 : Int32))), (0, .ref (g.2.2 2)), (1, .ref (g.2.2 v1)), (2, .int v2)]) hx hb dX1_numberOf_15 hl (by decide) rfl (fun ls hl => ?_)
  exact B17 n ((μ.1 v1 1) * (12 : Int32)) v2 (0 : Int32) (0 : Int32) μ _ _ _ hw (lv_sub hl [4, 5, 3, 2, 1, 0] rfl) h
set_option maxRecDepth 100000 in
set_option maxHeartbeats 4000000 in
theorem c_X3_forget (l : Launch) (g : Gw) (n : Nat) (μ : Mu) (r : Unit × Mu) (h : X3_forget n  μ = some r) : Ct l g yX3_forget cX3_forget 1 none 0 [.ref (g.2.2 9)] μ none r.2 := by
  rw [X3_forget] at h
  refine Ct.of (by decide) (Nat.le_of_ble_eq_true rfl) ?_
  intro p e s m args below meth c ls hC hw hr hlocks hl
  have hx := hC.1
  have hb := hC.2.1
  have hl : lv_has ls 1 [(0, .ref (g.2.2 9))] := hl
  refine lv_aload_n hx hb dX3_forget_0 rfl (lv_at hl 0 rfl) ?_
  refine lv_iconst (v := (0 : Int32)) hx hb dX3_forget_1 (by decide) ?_
  refine pI hC hw fl_X3_22 fp_3_0 ok9 dX3_forget_2 (fun H locs hw => ?_)
  refine lv_aload_n hx hb dX3_forget_5 rfl (lv_at hl 0 rfl) ?_
  refine lv_iconst (v := (0 : Int32)) hx hb dX3_forget_6 (by decide) ?_
  refine pI hC hw fl_X3_26 fp_3_1 ok9 dX3_forget_7 (fun H locs hw => ?_)
  exact rV hC hw hr hlocks rfl (by rw [← Option.some.inj h]) dX3_forget_10
set_option maxRecDepth 100000 in
set_option maxHeartbeats 4000000 in
theorem c_X3_slot (l : Launch) (g : Gw) (n : Nat) (v1 : Int32) (μ : Mu) (r : Int32 × Mu) (h : X3_slot n v1 μ = some r) : Ct l g yX3_slot cX3_slot 3 (some .int) 0 [.ref (g.2.2 9), .int v1] μ (some (.int r.1)) r.2 := by
  rw [X3_slot] at h
  refine Ct.of (by decide) (Nat.le_of_ble_eq_true rfl) ?_
  intro p e s m args below meth c ls hC hw hr hlocks hl
  have hx := hC.1
  have hb := hC.2.1
  have hl : lv_has ls 3 [(0, .ref (g.2.2 9)), (1, .int v1)] := hl
  have B21 : ∀ (s0 : Int32) (μ : Mu) (H : Heap) (locs : List Loc) (ls : Array Slot), wd g μ s (Aw g s.heap.size) H locs → lv_has ls 3 [] → X3_slot_21 n v1 s0 μ = some r → WQ p l e (rmD 0) s m args below meth c g (some (.int r.1)) r.2 H locs (F0 m 21 ls [.int s0]) := by
    intro s0 μ H locs ls hw hl h
    rw [X3_slot_21] at h
    exact rI hC hw hr hlocks (by rw [← Option.some.inj h]) (by rw [← Option.some.inj h]) dX3_slot_21
  refine lv_aload_n hx hb dX3_slot_0 rfl (lv_at hl 0 rfl) ?_
  refine gI hC hw fl_X3_29 ok9 (by decide) dX3_slot_1 ?_
  refine lv_iload_n hx hb dX3_slot_4 rfl (lv_at hl 1 rfl) ?_
  refine lv_iadd hx hb dX3_slot_5 ?_
  refine lv_istore_n (lv' := [(2, .int ((μ.1 9 2) + v1)), (0, .ref (g.2.2 9)), (1, .int v1)]) hx hb dX3_slot_6 rfl hl (by decide) rfl (fun ls hl => ?_)
  refine lv_iload_n hx hb dX3_slot_7 rfl (lv_at hl 0 rfl) ?_
  refine lv_bipush (v := (40 : Int32)) hx hb dX3_slot_8 (by decide) ?_
  refine lv_icmp_ge (tgt := 17) hx hb dX3_slot_10 (by decide) (fun hc => ?_) (fun hc => ?_)
  · rw [if_pos hc] at h
    refine lv_iload_n hx hb dX3_slot_17 rfl (lv_at hl 0 rfl) ?_
    refine lv_bipush (v := (40 : Int32)) hx hb dX3_slot_18 (by decide) ?_
    refine lv_isub hx hb dX3_slot_20 ?_
    exact B21 (((μ.1 9 2) + v1) - (40 : Int32)) μ _ _ _ hw (lv_sub hl [] rfl) h
  · rw [if_neg hc] at h
    refine lv_iload_n hx hb dX3_slot_13 rfl (lv_at hl 0 rfl) ?_
    refine lv_goto (tgt := 21) hx hb dX3_slot_14 (by decide) ?_
    exact B21 ((μ.1 9 2) + v1) μ _ _ _ hw (lv_sub hl [] rfl) h
set_option maxRecDepth 100000 in
set_option maxHeartbeats 4000000 in
theorem c_X3_moveAt (l : Launch) (g : Gw) (n : Nat) (v1 : Int32) (μ : Mu) (r : Int32 × Mu) (h : X3_moveAt n v1 μ = some r) : Ct l g yX3_moveAt cX3_moveAt 2 (some .int) 1 [.ref (g.2.2 9), .int v1] μ (some (.int r.1)) r.2 := by
  rw [X3_moveAt] at h
  refine Ct.of (by decide) (Nat.le_of_ble_eq_true rfl) ?_
  intro p e s m args below meth c ls hC hw hr hlocks hl
  have hx := hC.1
  have hb := hC.2.1
  have hl : lv_has ls 2 [(0, .ref (g.2.2 9)), (1, .int v1)] := hl
  refine lv_aload_n hx hb dX3_moveAt_0 rfl (lv_at hl 0 rfl) ?_
  refine gR (t := 10) hC hw fl_X3_9 ok9 (by decide) ot9_3 dX3_moveAt_1 ?_
  refine lv_aload_n hx hb dX3_moveAt_4 rfl (lv_at hl 0 rfl) ?_
  refine lv_iload_n hx hb dX3_moveAt_5 rfl (lv_at hl 1 rfl) ?_
  obtain ⟨r6, hr6, h⟩ := bnd h
  refine cV (b := 9) (As := [.int v1]) (rest := [.ref (g.2.2 10)]) (st1 := [.int r6.1, .ref (g.2.2 10)]) hC hw (c_X3_slot l g n v1 μ r6 hr6) ml_X3_32 im_X3_slot se_X3_slot ok9 (CN := RX3) (T := TX3) (NF := 5) rfl rfl (by decide) rfl hl.1 ⟨Nat.le_of_ble_eq_true rfl, Nat.le_of_ble_eq_true rfl⟩ (Nat.le_of_ble_eq_true rfl) ⟨Nat.zero_le _, Nat.zero_le _⟩ rfl dX3_moveAt_6 (fun H locs hw => ?_)
  obtain ⟨hi9, h⟩ := gd_some h
  refine lI (j := r6.1.toNatClampNeg) hC hw ok10 on10 hi9 rfl dX3_moveAt_9 ?_
  exact rI hC hw hr hlocks (by rw [← Option.some.inj h]) (by rw [← Option.some.inj h]) dX3_moveAt_10
set_option maxRecDepth 100000 in
set_option maxHeartbeats 4000000 in
theorem c_X3_again (l : Launch) (g : Gw) (n : Nat) (μ : Mu) (r : Int32 × Mu) (h : X3_again n  μ = some r) : Ct l g yX3_again cX3_again 1 (some .int) 1 [.ref (g.2.2 9)] μ (some (.int r.1)) r.2 := by
  rw [X3_again] at h
  refine Ct.of (by decide) (Nat.le_of_ble_eq_true rfl) ?_
  intro p e s m args below meth c ls hC hw hr hlocks hl
  have hx := hC.1
  have hb := hC.2.1
  have hl : lv_has ls 1 [(0, .ref (g.2.2 9))] := hl
  refine lv_aload_n hx hb dX3_again_0 rfl (lv_at hl 0 rfl) ?_
  refine lv_dup hx hb dX3_again_1 rfl ?_
  refine gI hC hw fl_X3_22 ok9 (by decide) dX3_again_2 ?_
  refine lv_iconst (v := (1 : Int32)) hx hb dX3_again_5 (by decide) ?_
  refine lv_iadd hx hb dX3_again_6 ?_
  refine pI hC hw fl_X3_22 fp_3_0 ok9 dX3_again_7 (fun H locs hw => ?_)
  refine lv_aload_n hx hb dX3_again_10 rfl (lv_at hl 0 rfl) ?_
  refine lv_dup hx hb dX3_again_11 rfl ?_
  refine gI hC hw fl_X3_26 ok9 (by decide) dX3_again_12 ?_
  refine lv_iconst (v := (1 : Int32)) hx hb dX3_again_15 (by decide) ?_
  refine lv_isub hx hb dX3_again_16 ?_
  refine pI hC hw fl_X3_26 fp_3_1 ok9 dX3_again_17 (fun H locs hw => ?_)
  refine lv_aload_n hx hb dX3_again_20 rfl (lv_at hl 0 rfl) ?_
  refine gR (t := 10) hC hw fl_X3_9 ok9 (by decide) ot9_3 dX3_again_21 ?_
  refine lv_aload_n hx hb dX3_again_24 rfl (lv_at hl 0 rfl) ?_
  refine lv_aload_n hx hb dX3_again_25 rfl (lv_at hl 0 rfl) ?_
  refine gI hC hw fl_X3_22 ok9 (by decide) dX3_again_26 ?_
  refine lv_iconst (v := (1 : Int32)) hx hb dX3_again_29 (by decide) ?_
  refine lv_isub hx hb dX3_again_30 ?_
  obtain ⟨r31, hr31, h⟩ := bnd h
  refine cV (b := 9) (As := [.int (((si (si μ 9 0 ((μ.1 9 0) + (1 : Int32))) 9 1 (((si μ 9 0 ((μ.1 9 0) + (1 : Int32))).1 9 1) - (1 : Int32))).1 9 0) - (1 : Int32))]) (rest := [.ref (g.2.2 10)]) (st1 := [.int r31.1, .ref (g.2.2 10)]) hC hw (c_X3_slot l g n (((si (si μ 9 0 ((μ.1 9 0) + (1 : Int32))) 9 1 (((si μ 9 0 ((μ.1 9 0) + (1 : Int32))).1 9 1) - (1 : Int32))).1 9 0) - (1 : Int32)) (si (si μ 9 0 ((μ.1 9 0) + (1 : Int32))) 9 1 (((si μ 9 0 ((μ.1 9 0) + (1 : Int32))).1 9 1) - (1 : Int32))) r31 hr31) ml_X3_32 im_X3_slot se_X3_slot ok9 (CN := RX3) (T := TX3) (NF := 5) rfl rfl (by decide) rfl hl.1 ⟨Nat.le_of_ble_eq_true rfl, Nat.le_of_ble_eq_true rfl⟩ (Nat.le_of_ble_eq_true rfl) ⟨Nat.zero_le _, Nat.zero_le _⟩ rfl dX3_again_31 (fun H locs hw => ?_)
  obtain ⟨hi34, h⟩ := gd_some h
  refine lI (j := r31.1.toNatClampNeg) hC hw ok10 on10 hi34 rfl dX3_again_34 ?_
  exact rI hC hw hr hlocks (by rw [← Option.some.inj h]) (by rw [← Option.some.inj h]) dX3_again_35
set_option maxRecDepth 100000 in
set_option maxHeartbeats 4000000 in
theorem c_X4_append (l : Launch) (g : Gw) (n : Nat) (v1 : Int32) (μ : Mu) (r : Unit × Mu) (h : X4_append n v1 μ = some r) : Ct l g yX4_append cX4_append 3 none 0 [.ref (g.2.2 12), .int v1] μ none r.2 := by
  rw [X4_append] at h
  refine Ct.of (by decide) (Nat.le_of_ble_eq_true rfl) ?_
  intro p e s m args below meth c ls hC hw hr hlocks hl
  have hx := hC.1
  have hb := hC.2.1
  have hl : lv_has ls 3 [(0, .ref (g.2.2 12)), (1, .int v1)] := hl
  have B49 : ∀ (μ : Mu) (H : Heap) (locs : List Loc) (ls : Array Slot), wd g μ s (Aw g s.heap.size) H locs → lv_has ls 3 [] → X4_append_49 n v1  μ = some r → WQ p l e (rmD 0) s m args below meth c g none r.2 H locs (F0 m 49 ls []) := by
    intro μ H locs ls hw hl h
    rw [X4_append_49] at h
    exact rV hC hw hr hlocks rfl (by rw [← Option.some.inj h]) dX4_append_49
  have B3 : ∀ (k : Nat), ∀ (v2 : Int32) (μ : Mu) (H : Heap) (locs : List Loc) (ls : Array Slot), wd g μ s (Aw g s.heap.size) H locs → lv_has ls 3 [(0, .ref (g.2.2 12)), (1, .int v1), (2, .int v2)] → lpF (fun _ _ => none) (X4_append_3b n v1) k v2 μ = some r → WQ p l e (rmD 0) s m args below meth c g none r.2 H locs (F0 m 3 ls []) := by
    intro k
    induction k with
    | zero =>
      intro v2 μ H locs ls hw hl h
      cases h
    | succ k ih3 =>
      rw [lpF_s]
      generalize lpF (fun _ _ => none) (X4_append_3b n v1) k = k3 at ih3 ⊢
      intro v2 μ H locs ls hw hl h
      rw [X4_append_3b] at h
      refine lv_iload_n hx hb dX4_append_3 rfl (lv_at hl 2 rfl) ?_
      refine lv_if_lt (tgt := 49) hx hb dX4_append_4 (by decide) (fun hc => ?_) (fun hc => ?_)
      · rw [if_pos hc] at h
        exact B49 μ _ _ _ hw (lv_sub hl [] rfl) h
      · rw [if_neg hc] at h
        refine lv_aload_n hx hb dX4_append_7 rfl (lv_at hl 0 rfl) ?_
        refine gI hC hw fl_X4_33 ok12 (by decide) dX4_append_8 ?_
        refine lv_sipush (v := (500 : Int32)) hx hb dX4_append_11 (by decide) ?_
        refine lv_icmp_ge (tgt := 49) hx hb dX4_append_14 (by decide) (fun hc => ?_) (fun hc => ?_)
        · rw [if_pos hc] at h
          exact B49 μ _ _ _ hw (lv_sub hl [] rfl) h
        · rw [if_neg hc] at h
          refine lv_aload_n hx hb dX4_append_17 rfl (lv_at hl 0 rfl) ?_
          refine gR (t := 14) hC hw fl_X4_29 ok12 (by decide) ot12_5 dX4_append_18 ?_
          refine lv_aload_n hx hb dX4_append_21 rfl (lv_at hl 0 rfl) ?_
          refine gI hC hw fl_X4_33 ok12 (by decide) dX4_append_22 ?_
          refine lv_iload_n hx hb dX4_append_25 rfl (lv_at hl 1 rfl) ?_
          refine lv_iload_n hx hb dX4_append_26 rfl (lv_at hl 2 rfl) ?_
          refine lv_iushr hx hb dX4_append_27 rfl ?_
          refine lv_sipush (v := (255 : Int32)) hx hb dX4_append_28 (by decide) ?_
          refine lv_iand hx hb dX4_append_31 ?_
          obtain ⟨hi32, h⟩ := gd_some h
          refine sI (j := (μ.1 12 4).toNatClampNeg) hC hw ok14 on14 hi32 rfl dX4_append_32 (fun H locs hw => ?_)
          refine lv_aload_n hx hb dX4_append_33 rfl (lv_at hl 0 rfl) ?_
          refine lv_dup hx hb dX4_append_34 rfl ?_
          refine gI hC hw fl_X4_33 ok12 (by decide) dX4_append_35 ?_
          refine lv_iconst (v := (1 : Int32)) hx hb dX4_append_38 (by decide) ?_
          refine lv_iadd hx hb dX4_append_39 ?_
          refine pI hC hw fl_X4_33 fp_4_4 ok12 dX4_append_40 (fun H locs hw => ?_)
          refine lv_iinc (v := (v2 + ((-8) : Int32))) (lv' := [(2, .int (v2 + ((-8) : Int32))), (0, .ref (g.2.2 12)), (1, .int v1)]) hx hb dX4_append_43 hl (k := 2) rfl rfl (by decide) rfl (fun ls hl => ?_)
          refine lv_goto (tgt := 3) hx hb dX4_append_46 (by decide) ?_
          exact ih3 (v2 + ((-8) : Int32)) (si (si μ 14 (μ.1 12 4).toNatClampNeg (((v1.toUInt32 >>> (v2.toUInt32 &&& Int32.toUInt32 31)).toInt32) &&& (255 : Int32))) 12 4 (((si μ 14 (μ.1 12 4).toNatClampNeg (((v1.toUInt32 >>> (v2.toUInt32 &&& Int32.toUInt32 31)).toInt32) &&& (255 : Int32))).1 12 4) + (1 : Int32))) _ _ _ hw (lv_sub hl [1, 2, 0] rfl) h
  refine lv_bipush (v := (24 : Int32)) hx hb dX4_append_0 (by decide) ?_
  refine lv_istore_n (lv' := [(2, .int (24 : Int32)), (0, .ref (g.2.2 12)), (1, .int v1)]) hx hb dX4_append_2 rfl hl (by decide) rfl (fun ls hl => ?_)
  exact B3 n (24 : Int32) μ _ _ _ hw (lv_sub hl [1, 2, 0] rfl) h
set_option maxRecDepth 100000 in
set_option maxHeartbeats 4000000 in
theorem c_X4_refuse (l : Launch) (g : Gw) (n : Nat) (v1 : Int32) (μ : Mu) (r : Unit × Mu) (h : X4_refuse n v1 μ = some r) : Ct l g yX4_refuse cX4_refuse 2 none 0 [.ref (g.2.2 12), .int v1] μ none r.2 := by
  rw [X4_refuse] at h
  refine Ct.of (by decide) (Nat.le_of_ble_eq_true rfl) ?_
  intro p e s m args below meth c ls hC hw hr hlocks hl
  have hx := hC.1
  have hb := hC.2.1
  have hl : lv_has ls 2 [(0, .ref (g.2.2 12)), (1, .int v1)] := hl
  have B20 : ∀ (μ : Mu) (H : Heap) (locs : List Loc) (ls : Array Slot), wd g μ s (Aw g s.heap.size) H locs → lv_has ls 2 [] → X4_refuse_20 n v1  μ = some r → WQ p l e (rmD 0) s m args below meth c g none r.2 H locs (F0 m 20 ls []) := by
    intro μ H locs ls hw hl h
    rw [X4_refuse_20] at h
    exact rV hC hw hr hlocks rfl (by rw [← Option.some.inj h]) dX4_refuse_20
  refine lv_aload_n hx hb dX4_refuse_0 rfl (lv_at hl 0 rfl) ?_
  refine gI hC hw fl_X4_40 ok12 (by decide) dX4_refuse_1 ?_
  refine lv_if_ne (tgt := 20) hx hb dX4_refuse_4 (by decide) (fun hc => ?_) (fun hc => ?_)
  · rw [if_neg hc] at h
    exact B20 μ _ _ _ hw (lv_sub hl [] rfl) h
  · rw [if_pos hc] at h
    refine lv_aload_n hx hb dX4_refuse_7 rfl (lv_at hl 0 rfl) ?_
    refine lv_iload_n hx hb dX4_refuse_8 rfl (lv_at hl 1 rfl) ?_
    refine pI hC hw fl_X4_40 fp_4_2 ok12 dX4_refuse_9 (fun H locs hw => ?_)
    refine lv_aload_n hx hb dX4_refuse_12 rfl (lv_at hl 0 rfl) ?_
    refine lv_aload_n hx hb dX4_refuse_13 rfl (lv_at hl 0 rfl) ?_
    refine gI hC hw fl_X4_73 ok12 (by decide) dX4_refuse_14 ?_
    refine pI hC hw fl_X4_25 fp_4_3 ok12 dX4_refuse_17 (fun H locs hw => ?_)
    exact B20 (si (si μ 12 2 v1) 12 3 ((si μ 12 2 v1).1 12 8)) _ _ _ hw (lv_sub hl [] rfl) h
set_option maxRecDepth 100000 in
set_option maxHeartbeats 4000000 in
theorem c_X4_checkedNumber (l : Launch) (g : Gw) (n : Nat) (v1 : Int32) (v2 : Int32) (μ : Mu) (r : Int32 × Mu) (h : X4_checkedNumber n v1 v2 μ = some r) : Ct l g yX4_checkedNumber cX4_checkedNumber 3 (some .int) 1 [.ref (g.2.2 12), .int v1, .int v2] μ (some (.int r.1)) r.2 := by
  rw [X4_checkedNumber] at h
  refine Ct.of (by decide) (Nat.le_of_ble_eq_true rfl) ?_
  intro p e s m args below meth c ls hC hw hr hlocks hl
  have hx := hC.1
  have hb := hC.2.1
  have hl : lv_has ls 3 [(0, .ref (g.2.2 12)), (1, .int v1), (2, .int v2)] := hl
  have B31 : ∀ (μ : Mu) (H : Heap) (locs : List Loc) (ls : Array Slot), wd g μ s (Aw g s.heap.size) H locs → lv_has ls 3 [(0, .ref (g.2.2 12)), (1, .int v1)] → X4_checkedNumber_31 n v1 v2  μ = some r → WQ p l e (rmD 1) s m args below meth c g (some (.int r.1)) r.2 H locs (F0 m 31 ls []) := by
    intro μ H locs ls hw hl h
    rw [X4_checkedNumber_31] at h
    refine lv_aload_n hx hb dX4_checkedNumber_31 rfl (lv_at hl 0 rfl) ?_
    refine lv_iconst (v := (3 : Int32)) hx hb dX4_checkedNumber_32 (by decide) ?_
    obtain ⟨r33, hr33, h⟩ := bnd h
    refine cV (b := 12) (As := [.int (3 : Int32)]) (rest := []) (st1 := []) hC hw (c_X4_refuse l g n (3 : Int32) μ r33 hr33) ml_X4_120 im_X4_refuse se_X4_refuse ok12 (CN := RX4) (T := TX4) (NF := 11) rfl rfl (by decide) rfl hl.1 ⟨Nat.le_of_ble_eq_true rfl, Nat.le_of_ble_eq_true rfl⟩ (Nat.le_of_ble_eq_true rfl) ⟨Nat.zero_le _, Nat.zero_le _⟩ rfl dX4_checkedNumber_33 (fun H locs hw => ?_)
    refine lv_iload_n hx hb dX4_checkedNumber_36 rfl (lv_at hl 1 rfl) ?_
    exact rI hC hw hr hlocks (by rw [← Option.some.inj h]) (by rw [← Option.some.inj h]) dX4_checkedNumber_37
  refine lv_aload_n hx hb dX4_checkedNumber_0 rfl (lv_at hl 0 rfl) ?_
  refine gI hC hw fl_X4_52 ok12 (by decide) dX4_checkedNumber_1 ?_
  refine lv_iconst (v := (2 : Int32)) hx hb dX4_checkedNumber_4 (by decide) ?_
  refine lv_icmp_eq (tgt := 15) hx hb dX4_checkedNumber_5 (by decide) (fun hc => ?_) (fun hc => ?_)
  · rw [if_pos hc] at h
    refine lv_aload_n hx hb dX4_checkedNumber_15 rfl (lv_at hl 0 rfl) ?_
    refine gI hC hw fl_X4_158 ok12 (by decide) dX4_checkedNumber_16 ?_
    refine lv_iload_n hx hb dX4_checkedNumber_19 rfl (lv_at hl 1 rfl) ?_
    refine lv_icmp_lt (tgt := 31) hx hb dX4_checkedNumber_20 (by decide) (fun hc => ?_) (fun hc => ?_)
    · rw [if_pos hc] at h
      exact B31 μ _ _ _ hw (lv_sub hl [0, 1] rfl) h
    · rw [if_neg hc] at h
      refine lv_aload_n hx hb dX4_checkedNumber_23 rfl (lv_at hl 0 rfl) ?_
      refine gI hC hw fl_X4_158 ok12 (by decide) dX4_checkedNumber_24 ?_
      refine lv_iload_n hx hb dX4_checkedNumber_27 rfl (lv_at hl 2 rfl) ?_
      refine lv_icmp_le (tgt := 38) hx hb dX4_checkedNumber_28 (by decide) (fun hc => ?_) (fun hc => ?_)
      · rw [if_pos hc] at h
        refine lv_aload_n hx hb dX4_checkedNumber_38 rfl (lv_at hl 0 rfl) ?_
        refine gI hC hw fl_X4_158 ok12 (by decide) dX4_checkedNumber_39 ?_
        exact rI hC hw hr hlocks (by rw [← Option.some.inj h]) (by rw [← Option.some.inj h]) dX4_checkedNumber_42
      · rw [if_neg hc] at h
        exact B31 μ _ _ _ hw (lv_sub hl [0, 1] rfl) h
  · rw [if_neg hc] at h
    refine lv_aload_n hx hb dX4_checkedNumber_8 rfl (lv_at hl 0 rfl) ?_
    refine lv_iconst (v := (2 : Int32)) hx hb dX4_checkedNumber_9 (by decide) ?_
    obtain ⟨r10, hr10, h⟩ := bnd h
    refine cV (b := 12) (As := [.int (2 : Int32)]) (rest := []) (st1 := []) hC hw (c_X4_refuse l g n (2 : Int32) μ r10 hr10) ml_X4_120 im_X4_refuse se_X4_refuse ok12 (CN := RX4) (T := TX4) (NF := 11) rfl rfl (by decide) rfl hl.1 ⟨Nat.le_of_ble_eq_true rfl, Nat.le_of_ble_eq_true rfl⟩ (Nat.le_of_ble_eq_true rfl) ⟨Nat.zero_le _, Nat.zero_le _⟩ rfl dX4_checkedNumber_10 (fun H locs hw => ?_)
    refine lv_iload_n hx hb dX4_checkedNumber_13 rfl (lv_at hl 1 rfl) ?_
    exact rI hC hw hr hlocks (by rw [← Option.some.inj h]) (by rw [← Option.some.inj h]) dX4_checkedNumber_14
set_option maxRecDepth 100000 in
set_option maxHeartbeats 4000000 in
theorem c_X4_isDigit (l : Launch) (g : Gw) (n : Nat) (v1 : Int32) (μ : Mu) (r : Int32 × Mu) (h : X4_isDigit n v1 μ = some r) : Ct l g yX4_isDigit cX4_isDigit 2 (some .boolean) 0 [.ref (g.2.2 12), .int v1] μ (some (.int r.1)) r.2 := by
  rw [X4_isDigit] at h
  refine Ct.of (by decide) (Nat.le_of_ble_eq_true rfl) ?_
  intro p e s m args below meth c ls hC hw hr hlocks hl
  have hx := hC.1
  have hb := hC.2.1
  have hl : lv_has ls 2 [(0, .ref (g.2.2 12)), (1, .int v1)] := hl
  have B27 : ∀ (s0 : Int32) (μ : Mu) (H : Heap) (locs : List Loc) (ls : Array Slot), wd g μ s (Aw g s.heap.size) H locs → lv_has ls 2 [] → X4_isDigit_27 n v1 s0 μ = some r → WQ p l e (rmD 0) s m args below meth c g (some (.int r.1)) r.2 H locs (F0 m 27 ls [.int s0]) := by
    intro s0 μ H locs ls hw hl h
    rw [X4_isDigit_27] at h
    obtain ⟨hz27, h⟩ := bz_some h
    exact rZ hC hw hr hlocks hz27 (by rw [← Option.some.inj h]) (by rw [← Option.some.inj h]) dX4_isDigit_27
  have B26 : ∀ (μ : Mu) (H : Heap) (locs : List Loc) (ls : Array Slot), wd g μ s (Aw g s.heap.size) H locs → lv_has ls 2 [] → X4_isDigit_26 n v1  μ = some r → WQ p l e (rmD 0) s m args below meth c g (some (.int r.1)) r.2 H locs (F0 m 26 ls []) := by
    intro μ H locs ls hw hl h
    rw [X4_isDigit_26] at h
    refine lv_iconst (v := (0 : Int32)) hx hb dX4_isDigit_26 (by decide) ?_
    exact B27 (0 : Int32) μ _ _ _ hw (lv_sub hl [] rfl) h
  refine lv_aload_n hx hb dX4_isDigit_0 rfl (lv_at hl 0 rfl) ?_
  refine gR (t := 14) hC hw fl_X4_29 ok12 (by decide) ot12_5 dX4_isDigit_1 ?_
  refine lv_iload_n hx hb dX4_isDigit_4 rfl (lv_at hl 1 rfl) ?_
  obtain ⟨hi5, h⟩ := gd_some h
  refine lI (j := v1.toNatClampNeg) hC hw ok14 on14 hi5 rfl dX4_isDigit_5 ?_
  refine lv_bipush (v := (48 : Int32)) hx hb dX4_isDigit_6 (by decide) ?_
  refine lv_icmp_lt (tgt := 26) hx hb dX4_isDigit_8 (by decide) (fun hc => ?_) (fun hc => ?_)
  · rw [if_pos hc] at h
    exact B26 μ _ _ _ hw (lv_sub hl [] rfl) h
  · rw [if_neg hc] at h
    refine lv_aload_n hx hb dX4_isDigit_11 rfl (lv_at hl 0 rfl) ?_
    refine gR (t := 14) hC hw fl_X4_29 ok12 (by decide) ot12_5 dX4_isDigit_12 ?_
    refine lv_iload_n hx hb dX4_isDigit_15 rfl (lv_at hl 1 rfl) ?_
    refine lI (j := v1.toNatClampNeg) hC hw ok14 on14 hi5 rfl dX4_isDigit_16 ?_
    refine lv_bipush (v := (57 : Int32)) hx hb dX4_isDigit_17 (by decide) ?_
    refine lv_icmp_gt (tgt := 26) hx hb dX4_isDigit_19 (by decide) (fun hc => ?_) (fun hc => ?_)
    · rw [if_pos hc] at h
      exact B26 μ _ _ _ hw (lv_sub hl [] rfl) h
    · rw [if_neg hc] at h
      refine lv_iconst (v := (1 : Int32)) hx hb dX4_isDigit_22 (by decide) ?_
      refine lv_goto (tgt := 27) hx hb dX4_isDigit_23 (by decide) ?_
      exact B27 (1 : Int32) μ _ _ _ hw (lv_sub hl [] rfl) h
set_option maxRecDepth 100000 in
set_option maxHeartbeats 4000000 in
theorem c_X4_isLetter (l : Launch) (g : Gw) (n : Nat) (v1 : Int32) (μ : Mu) (r : Int32 × Mu) (h : X4_isLetter n v1 μ = some r) : Ct l g yX4_isLetter cX4_isLetter 2 (some .boolean) 0 [.ref (g.2.2 12), .int v1] μ (some (.int r.1)) r.2 := by
  rw [X4_isLetter] at h
  refine Ct.of (by decide) (Nat.le_of_ble_eq_true rfl) ?_
  intro p e s m args below meth c ls hC hw hr hlocks hl
  have hx := hC.1
  have hb := hC.2.1
  have hl : lv_has ls 2 [(0, .ref (g.2.2 12)), (1, .int v1)] := hl
  have B27 : ∀ (s0 : Int32) (μ : Mu) (H : Heap) (locs : List Loc) (ls : Array Slot), wd g μ s (Aw g s.heap.size) H locs → lv_has ls 2 [] → X4_isLetter_27 n v1 s0 μ = some r → WQ p l e (rmD 0) s m args below meth c g (some (.int r.1)) r.2 H locs (F0 m 27 ls [.int s0]) := by
    intro s0 μ H locs ls hw hl h
    rw [X4_isLetter_27] at h
    obtain ⟨hz27, h⟩ := bz_some h
    exact rZ hC hw hr hlocks hz27 (by rw [← Option.some.inj h]) (by rw [← Option.some.inj h]) dX4_isLetter_27
  have B26 : ∀ (μ : Mu) (H : Heap) (locs : List Loc) (ls : Array Slot), wd g μ s (Aw g s.heap.size) H locs → lv_has ls 2 [] → X4_isLetter_26 n v1  μ = some r → WQ p l e (rmD 0) s m args below meth c g (some (.int r.1)) r.2 H locs (F0 m 26 ls []) := by
    intro μ H locs ls hw hl h
    rw [X4_isLetter_26] at h
    refine lv_iconst (v := (0 : Int32)) hx hb dX4_isLetter_26 (by decide) ?_
    exact B27 (0 : Int32) μ _ _ _ hw (lv_sub hl [] rfl) h
  refine lv_aload_n hx hb dX4_isLetter_0 rfl (lv_at hl 0 rfl) ?_
  refine gR (t := 14) hC hw fl_X4_29 ok12 (by decide) ot12_5 dX4_isLetter_1 ?_
  refine lv_iload_n hx hb dX4_isLetter_4 rfl (lv_at hl 1 rfl) ?_
  obtain ⟨hi5, h⟩ := gd_some h
  refine lI (j := v1.toNatClampNeg) hC hw ok14 on14 hi5 rfl dX4_isLetter_5 ?_
  refine lv_bipush (v := (97 : Int32)) hx hb dX4_isLetter_6 (by decide) ?_
  refine lv_icmp_lt (tgt := 26) hx hb dX4_isLetter_8 (by decide) (fun hc => ?_) (fun hc => ?_)
  · rw [if_pos hc] at h
    exact B26 μ _ _ _ hw (lv_sub hl [] rfl) h
  · rw [if_neg hc] at h
    refine lv_aload_n hx hb dX4_isLetter_11 rfl (lv_at hl 0 rfl) ?_
    refine gR (t := 14) hC hw fl_X4_29 ok12 (by decide) ot12_5 dX4_isLetter_12 ?_
    refine lv_iload_n hx hb dX4_isLetter_15 rfl (lv_at hl 1 rfl) ?_
    refine lI (j := v1.toNatClampNeg) hC hw ok14 on14 hi5 rfl dX4_isLetter_16 ?_
    refine lv_bipush (v := (122 : Int32)) hx hb dX4_isLetter_17 (by decide) ?_
    refine lv_icmp_gt (tgt := 26) hx hb dX4_isLetter_19 (by decide) (fun hc => ?_) (fun hc => ?_)
    · rw [if_pos hc] at h
      exact B26 μ _ _ _ hw (lv_sub hl [] rfl) h
    · rw [if_neg hc] at h
      refine lv_iconst (v := (1 : Int32)) hx hb dX4_isLetter_22 (by decide) ?_
      refine lv_goto (tgt := 27) hx hb dX4_isLetter_23 (by decide) ?_
      exact B27 (1 : Int32) μ _ _ _ hw (lv_sub hl [] rfl) h
set_option maxRecDepth 100000 in
set_option maxHeartbeats 4000000 in
theorem c_X5_clear (l : Launch) (g : Gw) (n : Nat) (v0 : Nat) (μ : Mu) (r : Unit × Mu) (h : X5_clear n v0 μ = some r) : Ct l g yX5_clear cX5_clear 1 none 0 [.ref (g.2.2 v0)] μ none r.2 := by
  rw [X5_clear] at h
  obtain ⟨hk0, h⟩ := kd_some h
  refine Ct.of (by decide) (Nat.le_of_ble_eq_true rfl) ?_
  intro p e s m args below meth c ls hC hw hr hlocks hl
  have hx := hC.1
  have hb := hC.2.1
  have hl : lv_has ls 1 [(0, .ref (g.2.2 v0))] := hl
  refine lv_aload_n hx hb dX5_clear_0 rfl (lv_at hl 0 rfl) ?_
  refine lv_iconst (v := (0 : Int32)) hx hb dX5_clear_1 (by decide) ?_
  refine pI hC hw fl_X5_18 fp_5_0 hk0 dX5_clear_2 (fun H locs hw => ?_)
  refine lv_aload_n hx hb dX5_clear_5 rfl (lv_at hl 0 rfl) ?_
  refine lv_iconst (v := (3 : Int32)) hx hb dX5_clear_6 (by decide) ?_
  refine pI hC hw fl_X5_9 fp_5_1 hk0 dX5_clear_7 (fun H locs hw => ?_)
  refine lv_aload_n hx hb dX5_clear_10 rfl (lv_at hl 0 rfl) ?_
  refine lv_iconst (v := (0 : Int32)) hx hb dX5_clear_11 (by decide) ?_
  refine pI hC hw fl_X5_21 fp_5_2 hk0 dX5_clear_12 (fun H locs hw => ?_)
  refine lv_aload_n hx hb dX5_clear_15 rfl (lv_at hl 0 rfl) ?_
  refine lv_iconst (v := (0 : Int32)) hx hb dX5_clear_16 (by decide) ?_
  refine pI hC hw fl_X5_24 fp_5_3 hk0 dX5_clear_17 (fun H locs hw => ?_)
  refine lv_aload_n hx hb dX5_clear_20 rfl (lv_at hl 0 rfl) ?_
  refine lv_iconst (v := (0 : Int32)) hx hb dX5_clear_21 (by decide) ?_
  refine pI hC hw fl_X5_15 fp_5_4 hk0 dX5_clear_22 (fun H locs hw => ?_)
  refine lv_aload_n hx hb dX5_clear_25 rfl (lv_at hl 0 rfl) ?_
  refine lv_iconst (v := (0 : Int32)) hx hb dX5_clear_26 (by decide) ?_
  refine pZ hC hw fl_X5_27 fp_5_5 hk0 (Or.inl rfl) dX5_clear_27 (fun H locs hw => ?_)
  refine lv_aload_n hx hb dX5_clear_30 rfl (lv_at hl 0 rfl) ?_
  refine lv_iconst (v := (0 : Int32)) hx hb dX5_clear_31 (by decide) ?_
  refine pZ hC hw fl_X5_31 fp_5_6 hk0 (Or.inl rfl) dX5_clear_32 (fun H locs hw => ?_)
  refine lv_aload_n hx hb dX5_clear_35 rfl (lv_at hl 0 rfl) ?_
  refine lv_iconst (v := (0 : Int32)) hx hb dX5_clear_36 (by decide) ?_
  refine pZ hC hw fl_X5_34 fp_5_7 hk0 (Or.inl rfl) dX5_clear_37 (fun H locs hw => ?_)
  refine lv_aload_n hx hb dX5_clear_40 rfl (lv_at hl 0 rfl) ?_
  refine lv_iconst (v := (0 : Int32)) hx hb dX5_clear_41 (by decide) ?_
  refine pZ hC hw fl_X5_37 fp_5_8 hk0 (Or.inl rfl) dX5_clear_42 (fun H locs hw => ?_)
  exact rV hC hw hr hlocks rfl (by rw [← Option.some.inj h]) dX5_clear_45
set_option maxRecDepth 100000 in
set_option maxHeartbeats 4000000 in
theorem c_X5_copy (l : Launch) (g : Gw) (n : Nat) (v0 : Nat) (v1 : Nat) (μ : Mu) (r : Unit × Mu) (h : X5_copy n v0 v1 μ = some r) : Ct l g yX5_copy cX5_copy 2 none 0 [.ref (g.2.2 v0), .ref (g.2.2 v1)] μ none r.2 := by
  rw [X5_copy] at h
  obtain ⟨hk0, h⟩ := kd_some h
  obtain ⟨hk1, h⟩ := kd_some h
  refine Ct.of (by decide) (Nat.le_of_ble_eq_true rfl) ?_
  intro p e s m args below meth c ls hC hw hr hlocks hl
  have hx := hC.1
  have hb := hC.2.1
  have hl : lv_has ls 2 [(0, .ref (g.2.2 v0)), (1, .ref (g.2.2 v1))] := hl
  refine lv_aload_n hx hb dX5_copy_0 rfl (lv_at hl 0 rfl) ?_
  refine lv_aload_n hx hb dX5_copy_1 rfl (lv_at hl 1 rfl) ?_
  refine gI hC hw fl_X5_18 hk1 (by decide) dX5_copy_2 ?_
  refine pI hC hw fl_X5_18 fp_5_0 hk0 dX5_copy_5 (fun H locs hw => ?_)
  refine lv_aload_n hx hb dX5_copy_8 rfl (lv_at hl 0 rfl) ?_
  refine lv_aload_n hx hb dX5_copy_9 rfl (lv_at hl 1 rfl) ?_
  refine gI hC hw fl_X5_9 hk1 (by decide) dX5_copy_10 ?_
  refine pI hC hw fl_X5_9 fp_5_1 hk0 dX5_copy_13 (fun H locs hw => ?_)
  refine lv_aload_n hx hb dX5_copy_16 rfl (lv_at hl 0 rfl) ?_
  refine lv_aload_n hx hb dX5_copy_17 rfl (lv_at hl 1 rfl) ?_
  refine gI hC hw fl_X5_21 hk1 (by decide) dX5_copy_18 ?_
  refine pI hC hw fl_X5_21 fp_5_2 hk0 dX5_copy_21 (fun H locs hw => ?_)
  refine lv_aload_n hx hb dX5_copy_24 rfl (lv_at hl 0 rfl) ?_
  refine lv_aload_n hx hb dX5_copy_25 rfl (lv_at hl 1 rfl) ?_
  refine gI hC hw fl_X5_24 hk1 (by decide) dX5_copy_26 ?_
  refine pI hC hw fl_X5_24 fp_5_3 hk0 dX5_copy_29 (fun H locs hw => ?_)
  refine lv_aload_n hx hb dX5_copy_32 rfl (lv_at hl 0 rfl) ?_
  refine lv_aload_n hx hb dX5_copy_33 rfl (lv_at hl 1 rfl) ?_
  refine gI hC hw fl_X5_15 hk1 (by decide) dX5_copy_34 ?_
  refine pI hC hw fl_X5_15 fp_5_4 hk0 dX5_copy_37 (fun H locs hw => ?_)
  refine lv_aload_n hx hb dX5_copy_40 rfl (lv_at hl 0 rfl) ?_
  refine lv_aload_n hx hb dX5_copy_41 rfl (lv_at hl 1 rfl) ?_
  refine gI hC hw fl_X5_27 hk1 (by decide) dX5_copy_42 ?_
  obtain ⟨hz45, h⟩ := bz_some h
  refine pZ hC hw fl_X5_27 fp_5_5 hk0 hz45 dX5_copy_45 (fun H locs hw => ?_)
  refine lv_aload_n hx hb dX5_copy_48 rfl (lv_at hl 0 rfl) ?_
  refine lv_aload_n hx hb dX5_copy_49 rfl (lv_at hl 1 rfl) ?_
  refine gI hC hw fl_X5_31 hk1 (by decide) dX5_copy_50 ?_
  obtain ⟨hz53, h⟩ := bz_some h
  refine pZ hC hw fl_X5_31 fp_5_6 hk0 hz53 dX5_copy_53 (fun H locs hw => ?_)
  refine lv_aload_n hx hb dX5_copy_56 rfl (lv_at hl 0 rfl) ?_
  refine lv_aload_n hx hb dX5_copy_57 rfl (lv_at hl 1 rfl) ?_
  refine gI hC hw fl_X5_34 hk1 (by decide) dX5_copy_58 ?_
  obtain ⟨hz61, h⟩ := bz_some h
  refine pZ hC hw fl_X5_34 fp_5_7 hk0 hz61 dX5_copy_61 (fun H locs hw => ?_)
  refine lv_aload_n hx hb dX5_copy_64 rfl (lv_at hl 0 rfl) ?_
  refine lv_aload_n hx hb dX5_copy_65 rfl (lv_at hl 1 rfl) ?_
  refine gI hC hw fl_X5_37 hk1 (by decide) dX5_copy_66 ?_
  obtain ⟨hz69, h⟩ := bz_some h
  refine pZ hC hw fl_X5_37 fp_5_8 hk0 hz69 dX5_copy_69 (fun H locs hw => ?_)
  exact rV hC hw hr hlocks rfl (by rw [← Option.some.inj h]) dX5_copy_72
set_option maxRecDepth 100000 in
set_option maxHeartbeats 4000000 in
theorem c_X5_isLacking (l : Launch) (g : Gw) (n : Nat) (v0 : Nat) (v1 : Int32) (μ : Mu) (r : Int32 × Mu) (h : X5_isLacking n v0 v1 μ = some r) : Ct l g yX5_isLacking cX5_isLacking 2 (some .boolean) 0 [.ref (g.2.2 v0), .int v1] μ (some (.int r.1)) r.2 := by
  rw [X5_isLacking] at h
  obtain ⟨hk0, h⟩ := kd_some h
  refine Ct.of (by decide) (Nat.le_of_ble_eq_true rfl) ?_
  intro p e s m args below meth c ls hC hw hr hlocks hl
  have hx := hC.1
  have hb := hC.2.1
  have hl : lv_has ls 2 [(0, .ref (g.2.2 v0)), (1, .int v1)] := hl
  have B17 : ∀ (s0 : Int32) (μ : Mu) (H : Heap) (locs : List Loc) (ls : Array Slot), wd g μ s (Aw g s.heap.size) H locs → lv_has ls 2 [] → X5_isLacking_17 n v0 v1 s0 μ = some r → WQ p l e (rmD 0) s m args below meth c g (some (.int r.1)) r.2 H locs (F0 m 17 ls [.int s0]) := by
    intro s0 μ H locs ls hw hl h
    rw [X5_isLacking_17] at h
    obtain ⟨hz17, h⟩ := bz_some h
    exact rZ hC hw hr hlocks hz17 (by rw [← Option.some.inj h]) (by rw [← Option.some.inj h]) dX5_isLacking_17
  refine lv_aload_n hx hb dX5_isLacking_0 rfl (lv_at hl 0 rfl) ?_
  refine gI hC hw fl_X5_21 hk0 (by decide) dX5_isLacking_1 ?_
  refine lv_iload_n hx hb dX5_isLacking_4 rfl (lv_at hl 1 rfl) ?_
  refine lv_iushr hx hb dX5_isLacking_5 rfl ?_
  refine lv_iconst (v := (1 : Int32)) hx hb dX5_isLacking_6 (by decide) ?_
  refine lv_iand hx hb dX5_isLacking_7 ?_
  refine lv_iconst (v := (1 : Int32)) hx hb dX5_isLacking_8 (by decide) ?_
  refine lv_icmp_ne (tgt := 16) hx hb dX5_isLacking_9 (by decide) (fun hc => ?_) (fun hc => ?_)
  · rw [if_neg hc] at h
    refine lv_iconst (v := (0 : Int32)) hx hb dX5_isLacking_16 (by decide) ?_
    exact B17 (0 : Int32) μ _ _ _ hw (lv_sub hl [] rfl) h
  · rw [if_pos hc] at h
    refine lv_iconst (v := (1 : Int32)) hx hb dX5_isLacking_12 (by decide) ?_
    refine lv_goto (tgt := 17) hx hb dX5_isLacking_13 (by decide) ?_
    exact B17 (1 : Int32) μ _ _ _ hw (lv_sub hl [] rfl) h
set_option maxRecDepth 100000 in
set_option maxHeartbeats 4000000 in
theorem c_X5_key (l : Launch) (g : Gw) (n : Nat) (v0 : Nat) (μ : Mu) (r : Int32 × Mu) (h : X5_key n v0 μ = some r) : Ct l g yX5_key cX5_key 2 (some .int) 0 [.ref (g.2.2 v0)] μ (some (.int r.1)) r.2 := by
  rw [X5_key] at h
  obtain ⟨hk0, h⟩ := kd_some h
  refine Ct.of (by decide) (Nat.le_of_ble_eq_true rfl) ?_
  intro p e s m args below meth c ls hC hw hr hlocks hl
  have hx := hC.1
  have hb := hC.2.1
  have hl : lv_has ls 2 [(0, .ref (g.2.2 v0))] := hl
  have B51 : ∀ (s0 : Int32) (s1 : Int32) (μ : Mu) (H : Heap) (locs : List Loc) (ls : Array Slot), wd g μ s (Aw g s.heap.size) H locs → lv_has ls 2 [(0, .ref (g.2.2 v0))] → X5_key_51 n v0 s0 s1 μ = some r → WQ p l e (rmD 0) s m args below meth c g (some (.int r.1)) r.2 H locs (F0 m 51 ls [.int s1, .int s0]) := by
    intro s0 s1 μ H locs ls hw hl h
    rw [X5_key_51] at h
    refine lv_ior hx hb dX5_key_51 ?_
    refine lv_istore_n (lv' := [(1, .int (s0 ||| s1)), (0, .ref (g.2.2 v0))]) hx hb dX5_key_52 rfl hl (by decide) rfl (fun ls hl => ?_)
    refine lv_aload_n hx hb dX5_key_53 rfl (lv_at hl 1 rfl) ?_
    refine gI hC hw fl_X5_21 hk0 (by decide) dX5_key_54 ?_
    refine lv_iconst (v := (3 : Int32)) hx hb dX5_key_57 (by decide) ?_
    refine lv_ishl hx hb dX5_key_58 ?_
    refine lv_aload_n hx hb dX5_key_59 rfl (lv_at hl 1 rfl) ?_
    refine gI hC hw fl_X5_9 hk0 (by decide) dX5_key_60 ?_
    refine lv_ior hx hb dX5_key_63 ?_
    refine lv_iconst (v := (5 : Int32)) hx hb dX5_key_64 (by decide) ?_
    refine lv_ishl hx hb dX5_key_65 ?_
    refine lv_aload_n hx hb dX5_key_66 rfl (lv_at hl 1 rfl) ?_
    refine gI hC hw fl_X5_24 hk0 (by decide) dX5_key_67 ?_
    refine lv_ior hx hb dX5_key_70 ?_
    refine lv_bipush (v := (6 : Int32)) hx hb dX5_key_71 (by decide) ?_
    refine lv_ishl hx hb dX5_key_73 ?_
    refine lv_aload_n hx hb dX5_key_74 rfl (lv_at hl 1 rfl) ?_
    refine gI hC hw fl_X5_15 hk0 (by decide) dX5_key_75 ?_
    refine lv_iconst (v := (4 : Int32)) hx hb dX5_key_78 (by decide) ?_
    refine lv_ishl hx hb dX5_key_79 ?_
    refine lv_ior hx hb dX5_key_80 ?_
    refine lv_iload_n hx hb dX5_key_81 rfl (lv_at hl 0 rfl) ?_
    refine lv_ior hx hb dX5_key_82 ?_
    exact rI hC hw hr hlocks (by rw [← Option.some.inj h]) (by rw [← Option.some.inj h]) dX5_key_83
  have B37 : ∀ (s0 : Int32) (s1 : Int32) (μ : Mu) (H : Heap) (locs : List Loc) (ls : Array Slot), wd g μ s (Aw g s.heap.size) H locs → lv_has ls 2 [(0, .ref (g.2.2 v0))] → X5_key_37 n v0 s0 s1 μ = some r → WQ p l e (rmD 0) s m args below meth c g (some (.int r.1)) r.2 H locs (F0 m 37 ls [.int s1, .int s0]) := by
    intro s0 s1 μ H locs ls hw hl h
    rw [X5_key_37] at h
    refine lv_ior hx hb dX5_key_37 ?_
    refine lv_aload_n hx hb dX5_key_38 rfl (lv_at hl 0 rfl) ?_
    refine gI hC hw fl_X5_37 hk0 (by decide) dX5_key_39 ?_
    refine lv_if_eq (tgt := 50) hx hb dX5_key_42 (by decide) (fun hc => ?_) (fun hc => ?_)
    · rw [if_pos hc] at h
      refine lv_iconst (v := (0 : Int32)) hx hb dX5_key_50 (by decide) ?_
      exact B51 (s0 ||| s1) (0 : Int32) μ _ _ _ hw (lv_sub hl [0] rfl) h
    · rw [if_neg hc] at h
      refine lv_bipush (v := (8 : Int32)) hx hb dX5_key_45 (by decide) ?_
      refine lv_goto (tgt := 51) hx hb dX5_key_47 (by decide) ?_
      exact B51 (s0 ||| s1) (8 : Int32) μ _ _ _ hw (lv_sub hl [0] rfl) h
  have B24 : ∀ (s0 : Int32) (s1 : Int32) (μ : Mu) (H : Heap) (locs : List Loc) (ls : Array Slot), wd g μ s (Aw g s.heap.size) H locs → lv_has ls 2 [(0, .ref (g.2.2 v0))] → X5_key_24 n v0 s0 s1 μ = some r → WQ p l e (rmD 0) s m args below meth c g (some (.int r.1)) r.2 H locs (F0 m 24 ls [.int s1, .int s0]) := by
    intro s0 s1 μ H locs ls hw hl h
    rw [X5_key_24] at h
    refine lv_ior hx hb dX5_key_24 ?_
    refine lv_aload_n hx hb dX5_key_25 rfl (lv_at hl 0 rfl) ?_
    refine gI hC hw fl_X5_34 hk0 (by decide) dX5_key_26 ?_
    refine lv_if_eq (tgt := 36) hx hb dX5_key_29 (by decide) (fun hc => ?_) (fun hc => ?_)
    · rw [if_pos hc] at h
      refine lv_iconst (v := (0 : Int32)) hx hb dX5_key_36 (by decide) ?_
      exact B37 (s0 ||| s1) (0 : Int32) μ _ _ _ hw (lv_sub hl [0] rfl) h
    · rw [if_neg hc] at h
      refine lv_iconst (v := (4 : Int32)) hx hb dX5_key_32 (by decide) ?_
      refine lv_goto (tgt := 37) hx hb dX5_key_33 (by decide) ?_
      exact B37 (s0 ||| s1) (4 : Int32) μ _ _ _ hw (lv_sub hl [0] rfl) h
  have B12 : ∀ (s0 : Int32) (μ : Mu) (H : Heap) (locs : List Loc) (ls : Array Slot), wd g μ s (Aw g s.heap.size) H locs → lv_has ls 2 [(0, .ref (g.2.2 v0))] → X5_key_12 n v0 s0 μ = some r → WQ p l e (rmD 0) s m args below meth c g (some (.int r.1)) r.2 H locs (F0 m 12 ls [.int s0]) := by
    intro s0 μ H locs ls hw hl h
    rw [X5_key_12] at h
    refine lv_aload_n hx hb dX5_key_12 rfl (lv_at hl 0 rfl) ?_
    refine gI hC hw fl_X5_31 hk0 (by decide) dX5_key_13 ?_
    refine lv_if_eq (tgt := 23) hx hb dX5_key_16 (by decide) (fun hc => ?_) (fun hc => ?_)
    · rw [if_pos hc] at h
      refine lv_iconst (v := (0 : Int32)) hx hb dX5_key_23 (by decide) ?_
      exact B24 s0 (0 : Int32) μ _ _ _ hw (lv_sub hl [0] rfl) h
    · rw [if_neg hc] at h
      refine lv_iconst (v := (2 : Int32)) hx hb dX5_key_19 (by decide) ?_
      refine lv_goto (tgt := 24) hx hb dX5_key_20 (by decide) ?_
      exact B24 s0 (2 : Int32) μ _ _ _ hw (lv_sub hl [0] rfl) h
  refine lv_aload_n hx hb dX5_key_0 rfl (lv_at hl 0 rfl) ?_
  refine gI hC hw fl_X5_27 hk0 (by decide) dX5_key_1 ?_
  refine lv_if_eq (tgt := 11) hx hb dX5_key_4 (by decide) (fun hc => ?_) (fun hc => ?_)
  · rw [if_pos hc] at h
    refine lv_iconst (v := (0 : Int32)) hx hb dX5_key_11 (by decide) ?_
    exact B12 (0 : Int32) μ _ _ _ hw (lv_sub hl [0] rfl) h
  · rw [if_neg hc] at h
    refine lv_iconst (v := (1 : Int32)) hx hb dX5_key_7 (by decide) ?_
    refine lv_goto (tgt := 12) hx hb dX5_key_8 (by decide) ?_
    exact B12 (1 : Int32) μ _ _ _ hw (lv_sub hl [0] rfl) h
set_option maxRecDepth 100000 in
set_option maxHeartbeats 4000000 in
theorem c_X6_clear (l : Launch) (g : Gw) (n : Nat) (v0 : Nat) (μ : Mu) (r : Unit × Mu) (h : X6_clear n v0 μ = some r) : Ct l g yX6_clear cX6_clear 2 none 0 [.ref (g.2.2 v0)] μ none r.2 := by
  rw [X6_clear] at h
  obtain ⟨hk0, h⟩ := kd_some h
  refine Ct.of (by decide) (Nat.le_of_ble_eq_true rfl) ?_
  intro p e s m args below meth c ls hC hw hr hlocks hl
  have hx := hC.1
  have hb := hC.2.1
  have hl : lv_has ls 2 [(0, .ref (g.2.2 v0))] := hl
  have B2 : ∀ (k : Nat), ∀ (v1 : Int32) (μ : Mu) (H : Heap) (locs : List Loc) (ls : Array Slot), wd g μ s (Aw g s.heap.size) H locs → lv_has ls 2 [(0, .ref (g.2.2 v0)), (1, .int v1)] → lpF (fun _ _ => none) (X6_clear_2b n v0) k v1 μ = some r → WQ p l e (rmD 0) s m args below meth c g none r.2 H locs (F0 m 2 ls []) := by
    intro k
    induction k with
    | zero =>
      intro v1 μ H locs ls hw hl h
      cases h
    | succ k ih2 =>
      rw [lpF_s]
      generalize lpF (fun _ _ => none) (X6_clear_2b n v0) k = k2 at ih2 ⊢
      intro v1 μ H locs ls hw hl h
      rw [X6_clear_2b] at h
      refine lv_iload_n hx hb dX6_clear_2 rfl (lv_at hl 1 rfl) ?_
      refine lv_bipush (v := (14 : Int32)) hx hb dX6_clear_3 (by decide) ?_
      refine lv_icmp_ge (tgt := 21) hx hb dX6_clear_5 (by decide) (fun hc => ?_) (fun hc => ?_)
      · rw [if_pos hc] at h
        refine lv_aload_n hx hb dX6_clear_21 rfl (lv_at hl 0 rfl) ?_
        refine lv_iconst (v := (0 : Int32)) hx hb dX6_clear_22 (by decide) ?_
        refine pI hC hw fl_X6_15 fp_6_1 hk0 dX6_clear_23 (fun H locs hw => ?_)
        exact rV hC hw hr hlocks rfl (by rw [← Option.some.inj h]) dX6_clear_26
      · rw [if_neg hc] at h
        refine lv_aload_n hx hb dX6_clear_8 rfl (lv_at hl 0 rfl) ?_
        refine gR (t := (v0 + 1)) hC hw fl_X6_9 hk0 (by decide) (sc_T hk0) dX6_clear_9 ?_
        refine lv_iload_n hx hb dX6_clear_12 rfl (lv_at hl 1 rfl) ?_
        refine lv_iconst (v := (0 : Int32)) hx hb dX6_clear_13 (by decide) ?_
        obtain ⟨hi14, h⟩ := gd_some h
        refine sI (j := v1.toNatClampNeg) hC hw (sc_K hk0) (sc_N hk0) hi14 rfl dX6_clear_14 (fun H locs hw => ?_)
        refine lv_iinc (v := (v1 + (1 : Int32))) (lv' := [(1, .int (v1 + (1 : Int32))), (0, .ref (g.2.2 v0))]) hx hb dX6_clear_15 hl (k := 1) rfl rfl (by decide) rfl (fun ls hl => ?_)
        refine lv_goto (tgt := 2) hx hb dX6_clear_18 (by decide) ?_
        exact ih2 (v1 + (1 : Int32)) (si μ (v0 + 1) v1.toNatClampNeg (0 : Int32)) _ _ _ hw (lv_sub hl [1, 0] rfl) h
  refine lv_iconst (v := (0 : Int32)) hx hb dX6_clear_0 (by decide) ?_
  refine lv_istore_n (lv' := [(1, .int (0 : Int32)), (0, .ref (g.2.2 v0))]) hx hb dX6_clear_1 rfl hl (by decide) rfl (fun ls hl => ?_)
  exact B2 n (0 : Int32) μ _ _ _ hw (lv_sub hl [1, 0] rfl) h
set_option maxRecDepth 100000 in
set_option maxHeartbeats 4000000 in
theorem c_X6_copy (l : Launch) (g : Gw) (n : Nat) (v0 : Nat) (v1 : Nat) (μ : Mu) (r : Unit × Mu) (h : X6_copy n v0 v1 μ = some r) : Ct l g yX6_copy cX6_copy 2 none 1 [.ref (g.2.2 v0), .ref (g.2.2 v1)] μ none r.2 := by
  rw [X6_copy] at h
  obtain ⟨hk0, h⟩ := kd_some h
  obtain ⟨hk1, h⟩ := kd_some h
  refine Ct.of (by decide) (Nat.le_of_ble_eq_true rfl) ?_
  intro p e s m args below meth c ls hC hw hr hlocks hl
  have hx := hC.1
  have hb := hC.2.1
  have hl : lv_has ls 2 [(0, .ref (g.2.2 v0)), (1, .ref (g.2.2 v1))] := hl
  refine lv_aload_n hx hb dX6_copy_0 rfl (lv_at hl 1 rfl) ?_
  refine gR (t := (v1 + 1)) hC hw fl_X6_9 hk1 (by decide) (sc_T hk1) dX6_copy_1 ?_
  refine lv_iconst (v := (0 : Int32)) hx hb dX6_copy_4 (by decide) ?_
  refine lv_aload_n hx hb dX6_copy_5 rfl (lv_at hl 0 rfl) ?_
  refine gR (t := (v0 + 1)) hC hw fl_X6_9 hk0 (by decide) (sc_T hk0) dX6_copy_6 ?_
  refine lv_iconst (v := (0 : Int32)) hx hb dX6_copy_9 (by decide) ?_
  refine lv_bipush (v := (14 : Int32)) hx hb dX6_copy_10 (by decide) ?_
  refine cpI (rest := []) hC hw ac_X6_19 ac_w (sc_K hk1) (sc_N hk1) (sc_K hk0) (sc_N hk0) hl.1 (Nat.le_of_ble_eq_true rfl) (Nat.le_of_ble_eq_true rfl) dX6_copy_12 (fun H locs hw => ?_)
  refine lv_aload_n hx hb dX6_copy_15 rfl (lv_at hl 0 rfl) ?_
  refine lv_aload_n hx hb dX6_copy_16 rfl (lv_at hl 1 rfl) ?_
  refine gI hC hw fl_X6_15 hk1 (by decide) dX6_copy_17 ?_
  refine pI hC hw fl_X6_15 fp_6_1 hk0 dX6_copy_20 (fun H locs hw => ?_)
  exact rV hC hw hr hlocks rfl (by rw [← Option.some.inj h]) dX6_copy_23
set_option maxRecDepth 100000 in
set_option maxHeartbeats 4000000 in
theorem c_X6_isLike (l : Launch) (g : Gw) (n : Nat) (v0 : Nat) (v1 : Nat) (μ : Mu) (r : Int32 × Mu) (h : X6_isLike n v0 v1 μ = some r) : Ct l g yX6_isLike cX6_isLike 3 (some .boolean) 0 [.ref (g.2.2 v0), .ref (g.2.2 v1)] μ (some (.int r.1)) r.2 := by
  rw [X6_isLike] at h
  obtain ⟨hk0, h⟩ := kd_some h
  obtain ⟨hk1, h⟩ := kd_some h
  refine Ct.of (by decide) (Nat.le_of_ble_eq_true rfl) ?_
  intro p e s m args below meth c ls hC hw hr hlocks hl
  have hx := hC.1
  have hb := hC.2.1
  have hl : lv_has ls 3 [(0, .ref (g.2.2 v0)), (1, .ref (g.2.2 v1))] := hl
  have B47 : ∀ (s0 : Int32) (μ : Mu) (H : Heap) (locs : List Loc) (ls : Array Slot), wd g μ s (Aw g s.heap.size) H locs → lv_has ls 3 [] → X6_isLike_47 n v0 v1 s0 μ = some r → WQ p l e (rmD 0) s m args below meth c g (some (.int r.1)) r.2 H locs (F0 m 47 ls [.int s0]) := by
    intro s0 μ H locs ls hw hl h
    rw [X6_isLike_47] at h
    obtain ⟨hz47, h⟩ := bz_some h
    exact rZ hC hw hr hlocks hz47 (by rw [← Option.some.inj h]) (by rw [← Option.some.inj h]) dX6_isLike_47
  have B2 : ∀ (k : Nat), ∀ (v2 : Int32) (μ : Mu) (H : Heap) (locs : List Loc) (ls : Array Slot), wd g μ s (Aw g s.heap.size) H locs → lv_has ls 3 [(0, .ref (g.2.2 v0)), (1, .ref (g.2.2 v1)), (2, .int v2)] → lpF (fun _ _ => none) (X6_isLike_2b n v0 v1) k v2 μ = some r → WQ p l e (rmD 0) s m args below meth c g (some (.int r.1)) r.2 H locs (F0 m 2 ls []) := by
    intro k
    induction k with
    | zero =>
      intro v2 μ H locs ls hw hl h
      cases h
    | succ k ih2 =>
      rw [lpF_s]
      generalize lpF (fun _ _ => none) (X6_isLike_2b n v0 v1) k = k2 at ih2 ⊢
      intro v2 μ H locs ls hw hl h
      rw [X6_isLike_2b] at h
      refine lv_iload_n hx hb dX6_isLike_2 rfl (lv_at hl 2 rfl) ?_
      refine lv_bipush (v := (14 : Int32)) hx hb dX6_isLike_3 (by decide) ?_
      refine lv_icmp_ge (tgt := 31) hx hb dX6_isLike_5 (by decide) (fun hc => ?_) (fun hc => ?_)
      · rw [if_pos hc] at h
        refine lv_aload_n hx hb dX6_isLike_31 rfl (lv_at hl 0 rfl) ?_
        refine gI hC hw fl_X6_15 hk0 (by decide) dX6_isLike_32 ?_
        refine lv_aload_n hx hb dX6_isLike_35 rfl (lv_at hl 1 rfl) ?_
        refine gI hC hw fl_X6_15 hk1 (by decide) dX6_isLike_36 ?_
        refine lv_icmp_ne (tgt := 46) hx hb dX6_isLike_39 (by decide) (fun hc => ?_) (fun hc => ?_)
        · rw [if_neg hc] at h
          refine lv_iconst (v := (0 : Int32)) hx hb dX6_isLike_46 (by decide) ?_
          exact B47 (0 : Int32) μ _ _ _ hw (lv_sub hl [] rfl) h
        · rw [if_pos hc] at h
          refine lv_iconst (v := (1 : Int32)) hx hb dX6_isLike_42 (by decide) ?_
          refine lv_goto (tgt := 47) hx hb dX6_isLike_43 (by decide) ?_
          exact B47 (1 : Int32) μ _ _ _ hw (lv_sub hl [] rfl) h
      · rw [if_neg hc] at h
        refine lv_aload_n hx hb dX6_isLike_8 rfl (lv_at hl 0 rfl) ?_
        refine gR (t := (v0 + 1)) hC hw fl_X6_9 hk0 (by decide) (sc_T hk0) dX6_isLike_9 ?_
        refine lv_iload_n hx hb dX6_isLike_12 rfl (lv_at hl 2 rfl) ?_
        obtain ⟨hi13, h⟩ := gd_some h
        refine lI (j := v2.toNatClampNeg) hC hw (sc_K hk0) (sc_N hk0) hi13 rfl dX6_isLike_13 ?_
        refine lv_aload_n hx hb dX6_isLike_14 rfl (lv_at hl 1 rfl) ?_
        refine gR (t := (v1 + 1)) hC hw fl_X6_9 hk1 (by decide) (sc_T hk1) dX6_isLike_15 ?_
        refine lv_iload_n hx hb dX6_isLike_18 rfl (lv_at hl 2 rfl) ?_
        refine lI (j := v2.toNatClampNeg) hC hw (sc_K hk1) (sc_N hk1) hi13 rfl dX6_isLike_19 ?_
        refine lv_icmp_eq (tgt := 25) hx hb dX6_isLike_20 (by decide) (fun hc => ?_) (fun hc => ?_)
        · rw [if_pos hc] at h
          refine lv_iinc (v := (v2 + (1 : Int32))) (lv' := [(2, .int (v2 + (1 : Int32))), (0, .ref (g.2.2 v0)), (1, .ref (g.2.2 v1))]) hx hb dX6_isLike_25 hl (k := 2) rfl rfl (by decide) rfl (fun ls hl => ?_)
          refine lv_goto (tgt := 2) hx hb dX6_isLike_28 (by decide) ?_
          exact ih2 (v2 + (1 : Int32)) μ _ _ _ hw (lv_sub hl [1, 2, 0] rfl) h
        · rw [if_neg hc] at h
          refine lv_iconst (v := (0 : Int32)) hx hb dX6_isLike_23 (by decide) ?_
          exact rZ hC hw hr hlocks (Or.inl rfl) (by rw [← Option.some.inj h]) (by rw [← Option.some.inj h]) dX6_isLike_24
  refine lv_iconst (v := (0 : Int32)) hx hb dX6_isLike_0 (by decide) ?_
  refine lv_istore_n (lv' := [(2, .int (0 : Int32)), (0, .ref (g.2.2 v0)), (1, .ref (g.2.2 v1))]) hx hb dX6_isLike_1 rfl hl (by decide) rfl (fun ls hl => ?_)
  exact B2 n (0 : Int32) μ _ _ _ hw (lv_sub hl [1, 2, 0] rfl) h
set_option maxRecDepth 100000 in
set_option maxHeartbeats 4000000 in
theorem c_X6_inPits (l : Launch) (g : Gw) (n : Nat) (v0 : Nat) (μ : Mu) (r : Int32 × Mu) (h : X6_inPits n v0 μ = some r) : Ct l g yX6_inPits cX6_inPits 3 (some .int) 0 [.ref (g.2.2 v0)] μ (some (.int r.1)) r.2 := by
  rw [X6_inPits] at h
  obtain ⟨hk0, h⟩ := kd_some h
  refine Ct.of (by decide) (Nat.le_of_ble_eq_true rfl) ?_
  intro p e s m args below meth c ls hC hw hr hlocks hl
  have hx := hC.1
  have hb := hC.2.1
  have hl : lv_has ls 3 [(0, .ref (g.2.2 v0))] := hl
  have B4 : ∀ (k : Nat), ∀ (v1 : Int32) (v2 : Int32) (μ : Mu) (H : Heap) (locs : List Loc) (ls : Array Slot), wd g μ s (Aw g s.heap.size) H locs → lv_has ls 3 [(0, .ref (g.2.2 v0)), (1, .int v1), (2, .int v2)] → lpF (fun _ _ _ => none) (X6_inPits_4b n v0) k v1 v2 μ = some r → WQ p l e (rmD 0) s m args below meth c g (some (.int r.1)) r.2 H locs (F0 m 4 ls []) := by
    intro k
    induction k with
    | zero =>
      intro v1 v2 μ H locs ls hw hl h
      cases h
    | succ k ih4 =>
      rw [lpF_s]
      generalize lpF (fun _ _ _ => none) (X6_inPits_4b n v0) k = k4 at ih4 ⊢
      intro v1 v2 μ H locs ls hw hl h
      rw [X6_inPits_4b] at h
      refine lv_iload_n hx hb dX6_inPits_4 rfl (lv_at hl 2 rfl) ?_
      refine lv_bipush (v := (12 : Int32)) hx hb dX6_inPits_5 (by decide) ?_
      refine lv_icmp_ge (tgt := 25) hx hb dX6_inPits_7 (by decide) (fun hc => ?_) (fun hc => ?_)
      · rw [if_pos hc] at h
        refine lv_iload_n hx hb dX6_inPits_25 rfl (lv_at hl 1 rfl) ?_
        exact rI hC hw hr hlocks (by rw [← Option.some.inj h]) (by rw [← Option.some.inj h]) dX6_inPits_26
      · rw [if_neg hc] at h
        refine lv_iload_n hx hb dX6_inPits_10 rfl (lv_at hl 1 rfl) ?_
        refine lv_aload_n hx hb dX6_inPits_11 rfl (lv_at hl 0 rfl) ?_
        refine gR (t := (v0 + 1)) hC hw fl_X6_9 hk0 (by decide) (sc_T hk0) dX6_inPits_12 ?_
        refine lv_iload_n hx hb dX6_inPits_15 rfl (lv_at hl 2 rfl) ?_
        obtain ⟨hi16, h⟩ := gd_some h
        refine lI (j := v2.toNatClampNeg) hC hw (sc_K hk0) (sc_N hk0) hi16 rfl dX6_inPits_16 ?_
        refine lv_iadd hx hb dX6_inPits_17 ?_
        refine lv_istore_n (lv' := [(1, .int (v1 + (μ.1 (v0 + 1) v2.toNatClampNeg))), (0, .ref (g.2.2 v0)), (2, .int v2)]) hx hb dX6_inPits_18 rfl hl (by decide) rfl (fun ls hl => ?_)
        refine lv_iinc (v := (v2 + (1 : Int32))) (lv' := [(2, .int (v2 + (1 : Int32))), (1, .int (v1 + (μ.1 (v0 + 1) v2.toNatClampNeg))), (0, .ref (g.2.2 v0))]) hx hb dX6_inPits_19 hl (k := 2) rfl rfl (by decide) rfl (fun ls hl => ?_)
        refine lv_goto (tgt := 4) hx hb dX6_inPits_22 (by decide) ?_
        exact ih4 (v1 + (μ.1 (v0 + 1) v2.toNatClampNeg)) (v2 + (1 : Int32)) μ _ _ _ hw (lv_sub hl [2, 1, 0] rfl) h
  refine lv_iconst (v := (0 : Int32)) hx hb dX6_inPits_0 (by decide) ?_
  refine lv_istore_n (lv' := [(1, .int (0 : Int32)), (0, .ref (g.2.2 v0))]) hx hb dX6_inPits_1 rfl hl (by decide) rfl (fun ls hl => ?_)
  refine lv_iconst (v := (0 : Int32)) hx hb dX6_inPits_2 (by decide) ?_
  refine lv_istore_n (lv' := [(2, .int (0 : Int32)), (1, .int (0 : Int32)), (0, .ref (g.2.2 v0))]) hx hb dX6_inPits_3 rfl hl (by decide) rfl (fun ls hl => ?_)
  exact B4 n (0 : Int32) (0 : Int32) μ _ _ _ hw (lv_sub hl [2, 1, 0] rfl) h
set_option maxRecDepth 100000 in
set_option maxHeartbeats 4000000 in
theorem c_X6_filled (l : Launch) (g : Gw) (n : Nat) (v0 : Nat) (v1 : Int32) (μ : Mu) (r : Int32 × Mu) (h : X6_filled n v0 v1 μ = some r) : Ct l g yX6_filled cX6_filled 4 (some .int) 0 [.ref (g.2.2 v0), .int v1] μ (some (.int r.1)) r.2 := by
  rw [X6_filled] at h
  obtain ⟨hk0, h⟩ := kd_some h
  refine Ct.of (by decide) (Nat.le_of_ble_eq_true rfl) ?_
  intro p e s m args below meth c ls hC hw hr hlocks hl
  have hx := hC.1
  have hb := hC.2.1
  have hl : lv_has ls 4 [(0, .ref (g.2.2 v0)), (1, .int v1)] := hl
  have B9 : ∀ (k : Nat), ∀ (v2 : Int32) (v3 : Int32) (μ : Mu) (H : Heap) (locs : List Loc) (ls : Array Slot), wd g μ s (Aw g s.heap.size) H locs → lv_has ls 4 [(0, .ref (g.2.2 v0)), (1, .int v1), (2, .int v2), (3, .int v3)] → lpF (fun _ _ _ => none) (X6_filled_9b n v0 v1) k v2 v3 μ = some r → WQ p l e (rmD 0) s m args below meth c g (some (.int r.1)) r.2 H locs (F0 m 9 ls []) := by
    intro k
    induction k with
    | zero =>
      intro v2 v3 μ H locs ls hw hl h
      cases h
    | succ k ih9 =>
      rw [lpF_s]
      generalize lpF (fun _ _ _ => none) (X6_filled_9b n v0 v1) k = k9 at ih9 ⊢
      intro v2 v3 μ H locs ls hw hl h
      have B36 : ∀ (v2 : Int32) (v3 : Int32) (μ : Mu) (H : Heap) (locs : List Loc) (ls : Array Slot), wd g μ s (Aw g s.heap.size) H locs → lv_has ls 4 [(0, .ref (g.2.2 v0)), (1, .int v1), (2, .int v2), (3, .int v3)] → X6_filled_36 n v0 v1 k9 v2 v3 μ = some r → WQ p l e (rmD 0) s m args below meth c g (some (.int r.1)) r.2 H locs (F0 m 36 ls []) := by
        intro v2 v3 μ H locs ls hw hl h
        rw [X6_filled_36] at h
        refine lv_iinc (v := (v3 + (1 : Int32))) (lv' := [(3, .int (v3 + (1 : Int32))), (0, .ref (g.2.2 v0)), (1, .int v1), (2, .int v2)]) hx hb dX6_filled_36 hl (k := 3) rfl rfl (by decide) rfl (fun ls hl => ?_)
        refine lv_goto (tgt := 9) hx hb dX6_filled_39 (by decide) ?_
        exact ih9 v2 (v3 + (1 : Int32)) μ _ _ _ hw (lv_sub hl [1, 2, 3, 0] rfl) h
      rw [X6_filled_9b] at h
      refine lv_iload_n hx hb dX6_filled_9 rfl (lv_at hl 3 rfl) ?_
      refine lv_aload_n hx hb dX6_filled_10 rfl (lv_at hl 0 rfl) ?_
      refine gI hC hw fl_X6_15 hk0 (by decide) dX6_filled_11 ?_
      refine lv_iconst (v := (1 : Int32)) hx hb dX6_filled_14 (by decide) ?_
      refine lv_iadd hx hb dX6_filled_15 ?_
      refine lv_iload_n hx hb dX6_filled_16 rfl (lv_at hl 1 rfl) ?_
      refine lv_imul hx hb dX6_filled_17 ?_
      refine lv_icmp_ge (tgt := 42) hx hb dX6_filled_18 (by decide) (fun hc => ?_) (fun hc => ?_)
      · rw [if_pos hc] at h
        refine lv_iload_n hx hb dX6_filled_42 rfl (lv_at hl 2 rfl) ?_
        exact rI hC hw hr hlocks (by rw [← Option.some.inj h]) (by rw [← Option.some.inj h]) dX6_filled_43
      · rw [if_neg hc] at h
        refine lv_aload_n hx hb dX6_filled_21 rfl (lv_at hl 0 rfl) ?_
        refine gR (t := (v0 + 1)) hC hw fl_X6_9 hk0 (by decide) (sc_T hk0) dX6_filled_22 ?_
        refine lv_iload_n hx hb dX6_filled_25 rfl (lv_at hl 3 rfl) ?_
        obtain ⟨hi26, h⟩ := gd_some h
        refine lI (j := v3.toNatClampNeg) hC hw (sc_K hk0) (sc_N hk0) hi26 rfl dX6_filled_26 ?_
        refine lv_if_le (tgt := 36) hx hb dX6_filled_27 (by decide) (fun hc => ?_) (fun hc => ?_)
        · rw [if_pos hc] at h
          exact B36 v2 v3 μ _ _ _ hw (lv_sub hl [0, 1, 2, 3] rfl) h
        · rw [if_neg hc] at h
          refine lv_iload_n hx hb dX6_filled_30 rfl (lv_at hl 2 rfl) ?_
          refine lv_iconst (v := (1 : Int32)) hx hb dX6_filled_31 (by decide) ?_
          refine lv_iload_n hx hb dX6_filled_32 rfl (lv_at hl 3 rfl) ?_
          refine lv_ishl hx hb dX6_filled_33 ?_
          refine lv_ior hx hb dX6_filled_34 ?_
          refine lv_istore_n (lv' := [(2, .int (v2 ||| ((1 : Int32) <<< (v3 &&& 31)))), (0, .ref (g.2.2 v0)), (1, .int v1), (3, .int v3)]) hx hb dX6_filled_35 rfl hl (by decide) rfl (fun ls hl => ?_)
          exact B36 (v2 ||| ((1 : Int32) <<< (v3 &&& 31))) v3 μ _ _ _ hw (lv_sub hl [1, 2, 0, 3] rfl) h
  refine lv_iconst (v := (0 : Int32)) hx hb dX6_filled_0 (by decide) ?_
  refine lv_istore_n (lv' := [(2, .int (0 : Int32)), (0, .ref (g.2.2 v0)), (1, .int v1)]) hx hb dX6_filled_1 rfl hl (by decide) rfl (fun ls hl => ?_)
  refine lv_aload_n hx hb dX6_filled_2 rfl (lv_at hl 1 rfl) ?_
  refine gI hC hw fl_X6_15 hk0 (by decide) dX6_filled_3 ?_
  refine lv_iload_n hx hb dX6_filled_6 rfl (lv_at hl 2 rfl) ?_
  refine lv_imul hx hb dX6_filled_7 ?_
  refine lv_istore_n (lv' := [(3, .int ((μ.1 v0 1) * v1)), (2, .int (0 : Int32)), (0, .ref (g.2.2 v0)), (1, .int v1)]) hx hb dX6_filled_8 rfl hl (by decide) rfl (fun ls hl => ?_)
  exact B9 n (0 : Int32) ((μ.1 v0 1) * v1) μ _ _ _ hw (lv_sub hl [2, 3, 1, 0] rfl) h
set_option maxRecDepth 100000 in
set_option maxHeartbeats 4000000 in
theorem c_X6_inRow (l : Launch) (g : Gw) (n : Nat) (v0 : Nat) (v1 : Int32) (v2 : Int32) (μ : Mu) (r : Int32 × Mu) (h : X6_inRow n v0 v1 v2 μ = some r) : Ct l g yX6_inRow cX6_inRow 5 (some .int) 0 [.ref (g.2.2 v0), .int v1, .int v2] μ (some (.int r.1)) r.2 := by
  rw [X6_inRow] at h
  obtain ⟨hk0, h⟩ := kd_some h
  refine Ct.of (by decide) (Nat.le_of_ble_eq_true rfl) ?_
  intro p e s m args below meth c ls hC hw hr hlocks hl
  have hx := hC.1
  have hb := hC.2.1
  have hl : lv_has ls 5 [(0, .ref (g.2.2 v0)), (1, .int v1), (2, .int v2)] := hl
  have B7 : ∀ (k : Nat), ∀ (v3 : Int32) (v4 : Int32) (μ : Mu) (H : Heap) (locs : List Loc) (ls : Array Slot), wd g μ s (Aw g s.heap.size) H locs → lv_has ls 5 [(0, .ref (g.2.2 v0)), (1, .int v1), (2, .int v2), (3, .int v3), (4, .int v4)] → lpF (fun _ _ _ => none) (X6_inRow_7b n v0 v1 v2) k v3 v4 μ = some r → WQ p l e (rmD 0) s m args below meth c g (some (.int r.1)) r.2 H locs (F0 m 7 ls []) := by
    intro k
    induction k with
    | zero =>
      intro v3 v4 μ H locs ls hw hl h
      cases h
    | succ k ih7 =>
      rw [lpF_s]
      generalize lpF (fun _ _ _ => none) (X6_inRow_7b n v0 v1 v2) k = k7 at ih7 ⊢
      intro v3 v4 μ H locs ls hw hl h
      rw [X6_inRow_7b] at h
      refine lv_iload hx hb dX6_inRow_7 (lv_at hl 4 rfl) ?_
      refine lv_iload_n hx hb dX6_inRow_9 rfl (lv_at hl 1 rfl) ?_
      refine lv_iconst (v := (1 : Int32)) hx hb dX6_inRow_10 (by decide) ?_
      refine lv_iadd hx hb dX6_inRow_11 ?_
      refine lv_iload_n hx hb dX6_inRow_12 rfl (lv_at hl 2 rfl) ?_
      refine lv_imul hx hb dX6_inRow_13 ?_
      refine lv_icmp_ge (tgt := 33) hx hb dX6_inRow_14 (by decide) (fun hc => ?_) (fun hc => ?_)
      · rw [if_pos hc] at h
        refine lv_iload_n hx hb dX6_inRow_33 rfl (lv_at hl 3 rfl) ?_
        exact rI hC hw hr hlocks (by rw [← Option.some.inj h]) (by rw [← Option.some.inj h]) dX6_inRow_34
      · rw [if_neg hc] at h
        refine lv_iload_n hx hb dX6_inRow_17 rfl (lv_at hl 3 rfl) ?_
        refine lv_aload_n hx hb dX6_inRow_18 rfl (lv_at hl 0 rfl) ?_
        refine gR (t := (v0 + 1)) hC hw fl_X6_9 hk0 (by decide) (sc_T hk0) dX6_inRow_19 ?_
        refine lv_iload hx hb dX6_inRow_22 (lv_at hl 4 rfl) ?_
        obtain ⟨hi24, h⟩ := gd_some h
        refine lI (j := v4.toNatClampNeg) hC hw (sc_K hk0) (sc_N hk0) hi24 rfl dX6_inRow_24 ?_
        refine lv_iadd hx hb dX6_inRow_25 ?_
        refine lv_istore_n (lv' := [(3, .int (v3 + (μ.1 (v0 + 1) v4.toNatClampNeg))), (0, .ref (g.2.2 v0)), (1, .int v1), (2, .int v2), (4, .int v4)]) hx hb dX6_inRow_26 rfl hl (by decide) rfl (fun ls hl => ?_)
        refine lv_iinc (v := (v4 + (1 : Int32))) (lv' := [(4, .int (v4 + (1 : Int32))), (3, .int (v3 + (μ.1 (v0 + 1) v4.toNatClampNeg))), (0, .ref (g.2.2 v0)), (1, .int v1), (2, .int v2)]) hx hb dX6_inRow_27 hl (k := 4) rfl rfl (by decide) rfl (fun ls hl => ?_)
        refine lv_goto (tgt := 7) hx hb dX6_inRow_30 (by decide) ?_
        exact ih7 (v3 + (μ.1 (v0 + 1) v4.toNatClampNeg)) (v4 + (1 : Int32)) μ _ _ _ hw (lv_sub hl [2, 3, 4, 1, 0] rfl) h
  refine lv_iconst (v := (0 : Int32)) hx hb dX6_inRow_0 (by decide) ?_
  refine lv_istore_n (lv' := [(3, .int (0 : Int32)), (0, .ref (g.2.2 v0)), (1, .int v1), (2, .int v2)]) hx hb dX6_inRow_1 rfl hl (by decide) rfl (fun ls hl => ?_)
  refine lv_iload_n hx hb dX6_inRow_2 rfl (lv_at hl 2 rfl) ?_
  refine lv_iload_n hx hb dX6_inRow_3 rfl (lv_at hl 3 rfl) ?_
  refine lv_imul hx hb dX6_inRow_4 ?_
  refine lv_istore (lv' := [(4, .int (v1 * v2)), (3, .int (0 : Int32)), (0, .ref (g.2.2 v0)), (1, .int v1), (2, .int v2)]) hx hb dX6_inRow_5 hl (by decide) rfl (fun ls hl => ?_)
  exact B7 n (0 : Int32) (v1 * v2) μ _ _ _ hw (lv_sub hl [2, 3, 4, 1, 0] rfl) h
set_option maxRecDepth 100000 in
set_option maxHeartbeats 4000000 in
theorem c_X7_halfOf (l : Launch) (g : Gw) (n : Nat) (v1 : Int32) (μ : Mu) (r : Int32 × Mu) (h : X7_halfOf n v1 μ = some r) : Ct l g yX7_halfOf cX7_halfOf 2 (some .int) 0 [.ref (g.2.2 15), .int v1] μ (some (.int r.1)) r.2 := by
  rw [X7_halfOf] at h
  refine Ct.of (by decide) (Nat.le_of_ble_eq_true rfl) ?_
  intro p e s m args below meth c ls hC hw hr hlocks hl
  have hx := hC.1
  have hb := hC.2.1
  have hl : lv_has ls 2 [(0, .ref (g.2.2 15)), (1, .int v1)] := hl
  have B15 : ∀ (s0 : Int32) (μ : Mu) (H : Heap) (locs : List Loc) (ls : Array Slot), wd g μ s (Aw g s.heap.size) H locs → lv_has ls 2 [] → X7_halfOf_15 n v1 s0 μ = some r → WQ p l e (rmD 0) s m args below meth c g (some (.int r.1)) r.2 H locs (F0 m 15 ls [.int s0]) := by
    intro s0 μ H locs ls hw hl h
    rw [X7_halfOf_15] at h
    exact rI hC hw hr hlocks (by rw [← Option.some.inj h]) (by rw [← Option.some.inj h]) dX7_halfOf_15
  refine lv_aload_n hx hb dX7_halfOf_0 rfl (lv_at hl 0 rfl) ?_
  refine gR (t := 2) hC hw fl_X7_46 ok15 (by decide) ot15_3 dX7_halfOf_1 ?_
  refine gI hC hw fl_X7_83 ok2 (by decide) dX7_halfOf_4 ?_
  refine lv_if_eq (tgt := 14) hx hb dX7_halfOf_7 (by decide) (fun hc => ?_) (fun hc => ?_)
  · rw [if_pos hc] at h
    refine lv_iload_n hx hb dX7_halfOf_14 rfl (lv_at hl 1 rfl) ?_
    exact B15 v1 μ _ _ _ hw (lv_sub hl [] rfl) h
  · rw [if_neg hc] at h
    refine lv_iconst (v := (0 : Int32)) hx hb dX7_halfOf_10 (by decide) ?_
    refine lv_goto (tgt := 15) hx hb dX7_halfOf_11 (by decide) ?_
    exact B15 (0 : Int32) μ _ _ _ hw (lv_sub hl [] rfl) h
set_option maxRecDepth 100000 in
set_option maxHeartbeats 4000000 in
theorem c_X7_indexOf (l : Launch) (g : Gw) (n : Nat) (v1 : Int32) (v2 : Int32) (v3 : Int32) (μ : Mu) (r : Int32 × Mu) (h : X7_indexOf n v1 v2 v3 μ = some r) : Ct l g yX7_indexOf cX7_indexOf 4 (some .int) 1 [.ref (g.2.2 15), .int v1, .int v2, .int v3] μ (some (.int r.1)) r.2 := by
  rw [X7_indexOf] at h
  refine Ct.of (by decide) (Nat.le_of_ble_eq_true rfl) ?_
  intro p e s m args below meth c ls hC hw hr hlocks hl
  have hx := hC.1
  have hb := hC.2.1
  have hl : lv_has ls 4 [(0, .ref (g.2.2 15)), (1, .int v1), (2, .int v2), (3, .int v3)] := hl
  refine lv_aload_n hx hb dX7_indexOf_0 rfl (lv_at hl 0 rfl) ?_
  refine lv_iload_n hx hb dX7_indexOf_1 rfl (lv_at hl 1 rfl) ?_
  obtain ⟨r2, hr2, h⟩ := bnd h
  refine cV (b := 15) (As := [.int v1]) (rest := []) (st1 := [.int r2.1]) hC hw (c_X7_halfOf l g n v1 μ r2 hr2) ml_X7_72 im_X7_halfOf se_X7_halfOf ok15 (CN := RX7) (T := TX7) (NF := 13) rfl rfl (by decide) rfl hl.1 ⟨Nat.le_of_ble_eq_true rfl, Nat.le_of_ble_eq_true rfl⟩ (Nat.le_of_ble_eq_true rfl) ⟨Nat.zero_le _, Nat.zero_le _⟩ rfl dX7_indexOf_2 (fun H locs hw => ?_)
  refine lv_sipush (v := (6000 : Int32)) hx hb dX7_indexOf_5 (by decide) ?_
  refine lv_imul hx hb dX7_indexOf_8 ?_
  refine lv_aload_n hx hb dX7_indexOf_9 rfl (lv_at hl 0 rfl) ?_
  refine gR (t := 2) hC hw fl_X7_46 ok15 (by decide) ot15_3 dX7_indexOf_10 ?_
  refine lv_iload_n hx hb dX7_indexOf_13 rfl (lv_at hl 2 rfl) ?_
  refine lv_iconst (v := (1 : Int32)) hx hb dX7_indexOf_14 (by decide) ?_
  refine lv_isub hx hb dX7_indexOf_15 ?_
  obtain ⟨r16, hr16, h⟩ := bnd h
  refine cV (b := 2) (As := [.int (v2 - (1 : Int32))]) (rest := [.int (r2.1 * (6000 : Int32))]) (st1 := [.int r16.1, .int (r2.1 * (6000 : Int32))]) hC hw (c_X1_positionsUpTo l g n (v2 - (1 : Int32)) r2.2 r16 hr16) ml_X7_54 im_X1_positionsUpTo se_X1_positionsUpTo ok2 (CN := RX1) (T := TX1) (NF := 7) rfl rfl (by decide) rfl hl.1 ⟨Nat.le_of_ble_eq_true rfl, Nat.le_of_ble_eq_true rfl⟩ (Nat.le_of_ble_eq_true rfl) ⟨Nat.zero_le _, Nat.zero_le _⟩ rfl dX7_indexOf_16 (fun H locs hw => ?_)
  refine lv_iadd hx hb dX7_indexOf_19 ?_
  refine lv_iload_n hx hb dX7_indexOf_20 rfl (lv_at hl 3 rfl) ?_
  refine lv_iadd hx hb dX7_indexOf_21 ?_
  exact rI hC hw hr hlocks (by rw [← Option.some.inj h]) (by rw [← Option.some.inj h]) dX7_indexOf_22
set_option maxRecDepth 100000 in
set_option maxHeartbeats 4000000 in
theorem c_X7_indexAt (l : Launch) (g : Gw) (n : Nat) (v1 : Nat) (v2 : Int32) (μ : Mu) (r : Int32 × Mu) (h : X7_indexAt n v1 v2 μ = some r) : Ct l g yX7_indexAt cX7_indexAt 3 (some .int) 2 [.ref (g.2.2 15), .ref (g.2.2 v1), .int v2] μ (some (.int r.1)) r.2 := by
  rw [X7_indexAt] at h
  obtain ⟨hk1, h⟩ := kd_some h
  refine Ct.of (by decide) (Nat.le_of_ble_eq_true rfl) ?_
  intro p e s m args below meth c ls hC hw hr hlocks hl
  have hx := hC.1
  have hb := hC.2.1
  have hl : lv_has ls 3 [(0, .ref (g.2.2 15)), (1, .ref (g.2.2 v1)), (2, .int v2)] := hl
  refine lv_aload_n hx hb dX7_indexAt_0 rfl (lv_at hl 0 rfl) ?_
  refine lv_aload_n hx hb dX7_indexAt_1 rfl (lv_at hl 1 rfl) ?_
  refine gI hC hw fl_X7_87 hk1 (by decide) dX7_indexAt_2 ?_
  refine lv_iload_n hx hb dX7_indexAt_5 rfl (lv_at hl 2 rfl) ?_
  refine lv_aload_n hx hb dX7_indexAt_6 rfl (lv_at hl 0 rfl) ?_
  refine gR (t := 2) hC hw fl_X7_46 ok15 (by decide) ot15_3 dX7_indexAt_7 ?_
  refine lv_aload_n hx hb dX7_indexAt_10 rfl (lv_at hl 1 rfl) ?_
  refine lv_iload_n hx hb dX7_indexAt_11 rfl (lv_at hl 2 rfl) ?_
  obtain ⟨r12, hr12, h⟩ := bnd h
  refine cV (b := 2) (As := [.ref (g.2.2 v1), .int v2]) (rest := [.int v2, .int (μ.1 v1 1), .ref (g.2.2 15)]) (st1 := [.int r12.1, .int v2, .int (μ.1 v1 1), .ref (g.2.2 15)]) hC hw (c_X1_numberOf l g n v1 v2 μ r12 hr12) ml_X7_90 im_X1_numberOf se_X1_numberOf ok2 (CN := RX1) (T := TX1) (NF := 7) rfl rfl (by decide) rfl hl.1 ⟨Nat.le_of_ble_eq_true rfl, Nat.le_of_ble_eq_true rfl⟩ (Nat.le_of_ble_eq_true rfl) ⟨Nat.zero_le _, Nat.zero_le _⟩ rfl dX7_indexAt_12 (fun H locs hw => ?_)
  obtain ⟨r15, hr15, h⟩ := bnd h
  refine cV (b := 15) (As := [.int (μ.1 v1 1), .int v2, .int r12.1]) (rest := []) (st1 := [.int r15.1]) hC hw (c_X7_indexOf l g n (μ.1 v1 1) v2 r12.1 r12.2 r15 hr15) ml_X7_94 im_X7_indexOf se_X7_indexOf ok15 (CN := RX7) (T := TX7) (NF := 13) rfl rfl (by decide) rfl hl.1 ⟨Nat.le_of_ble_eq_true rfl, Nat.le_of_ble_eq_true rfl⟩ (Nat.le_of_ble_eq_true rfl) ⟨Nat.zero_le _, Nat.zero_le _⟩ rfl dX7_indexAt_15 (fun H locs hw => ?_)
  exact rI hC hw hr hlocks (by rw [← Option.some.inj h]) (by rw [← Option.some.inj h]) dX7_indexAt_18
set_option maxRecDepth 100000 in
set_option maxHeartbeats 4000000 in
theorem c_X7_readMove (l : Launch) (g : Gw) (n : Nat) (v1 : Int32) (v2 : Int32) (v3 : Int32) (μ : Mu) (r : Unit × Mu) (h : X7_readMove n v1 v2 v3 μ = some r) : Ct l g yX7_readMove cX7_readMove 7 none 3 [.ref (g.2.2 15), .int v1, .int v2, .int v3] μ none r.2 := by
  rw [X7_readMove] at h
  refine Ct.of (by decide) (Nat.le_of_ble_eq_true rfl) ?_
  intro p e s m args below meth c ls hC hw hr hlocks hl
  have hx := hC.1
  have hb := hC.2.1
  have hl : lv_has ls 7 [(0, .ref (g.2.2 15)), (1, .int v1), (2, .int v2), (3, .int v3)] := hl
  have B128 : ∀ (μ : Mu) (H : Heap) (locs : List Loc) (ls : Array Slot), wd g μ s (Aw g s.heap.size) H locs → lv_has ls 7 [] → X7_readMove_128 n v1 v2 v3  μ = some r → WQ p l e (rmD 3) s m args below meth c g none r.2 H locs (F0 m 128 ls []) := by
    intro μ H locs ls hw hl h
    rw [X7_readMove_128] at h
    exact rV hC hw hr hlocks rfl (by rw [← Option.some.inj h]) dX7_readMove_128
  have B75 : ∀ (v4 : Int32) (s0 : Int32) (μ : Mu) (H : Heap) (locs : List Loc) (ls : Array Slot), wd g μ s (Aw g s.heap.size) H locs → lv_has ls 7 [(0, .ref (g.2.2 15)), (1, .int v1), (4, .int v4)] → X7_readMove_75 n v1 v2 v3 v4 s0 μ = some r → WQ p l e (rmD 3) s m args below meth c g none r.2 H locs (F0 m 75 ls [.int s0]) := by
    intro v4 s0 μ H locs ls hw hl h
    rw [X7_readMove_75] at h
    refine lv_istore (lv' := [(6, .int s0), (0, .ref (g.2.2 15)), (1, .int v1), (4, .int v4)]) hx hb dX7_readMove_75 hl (by decide) rfl (fun ls hl => ?_)
    refine lv_aload_n hx hb dX7_readMove_77 rfl (lv_at hl 1 rfl) ?_
    refine gR (t := 18) hC hw fl_X7_29 ok15 (by decide) ot15_9 dX7_readMove_78 ?_
    refine lv_iload_n hx hb dX7_readMove_81 rfl (lv_at hl 2 rfl) ?_
    refine lv_aload_n hx hb dX7_readMove_82 rfl (lv_at hl 1 rfl) ?_
    refine gR (t := 18) hC hw fl_X7_29 ok15 (by decide) ot15_9 dX7_readMove_83 ?_
    refine lv_iload_n hx hb dX7_readMove_86 rfl (lv_at hl 2 rfl) ?_
    obtain ⟨hi87, h⟩ := gd_some h
    refine lI (j := v1.toNatClampNeg) hC hw ok18 on18 hi87 rfl dX7_readMove_87 ?_
    refine lv_iload hx hb dX7_readMove_88 (lv_at hl 3 rfl) ?_
    refine lv_iload hx hb dX7_readMove_90 (lv_at hl 0 rfl) ?_
    refine lv_iadd hx hb dX7_readMove_92 ?_
    refine va_mmax (rest := [.int v1, .ref (g.2.2 18)]) hx hb (hC.2.2.1.trans hl.1.symm) hC.2.2.2.1 (hC.2.2.2.2.1 _ mm_X7_140) (hC.2.2.2.2.1 _ mw_max.1) (hC.2.2.2.2.1 _ mw_max.2.1) (hC.2.2.2.2.1 _ mw_max.2.2) (Nat.le_of_ble_eq_true rfl) (Nat.le_of_ble_eq_true rfl) (Nat.zero_le _) (Nat.zero_le _) dX7_readMove_93 ?_
    refine sI (j := v1.toNatClampNeg) hC hw ok18 on18 hi87 rfl dX7_readMove_96 (fun H locs hw => ?_)
    refine lv_goto (tgt := 128) hx hb dX7_readMove_97 (by decide) ?_
    exact B128 (si μ 18 v1.toNatClampNeg (if (μ.1 18 v1.toNatClampNeg) < (v4 + s0) then (v4 + s0) else (μ.1 18 v1.toNatClampNeg))) _ _ _ hw (lv_sub hl [] rfl) h
  refine lv_aload_n hx hb dX7_readMove_0 rfl (lv_at hl 0 rfl) ?_
  refine gR (t := 6) hC hw fl_X7_50 ok15 (by decide) ot15_4 dX7_readMove_1 ?_
  refine gR (t := 8) hC hw fl_X7_130 ok6 (by decide) ot6_5 dX7_readMove_4 ?_
  refine lv_iload_n hx hb dX7_readMove_7 rfl (lv_at hl 3 rfl) ?_
  obtain ⟨hi8, h⟩ := gd_some h
  refine lI (j := v3.toNatClampNeg) hC hw ok8 on8 hi8 rfl dX7_readMove_8 ?_
  refine lv_istore (lv' := [(4, .int (μ.1 8 v3.toNatClampNeg)), (0, .ref (g.2.2 15)), (1, .int v1), (2, .int v2), (3, .int v3)]) hx hb dX7_readMove_9 hl (by decide) rfl (fun ls hl => ?_)
  refine lv_aload_n hx hb dX7_readMove_11 rfl (lv_at hl 1 rfl) ?_
  refine lv_aload_n hx hb dX7_readMove_12 rfl (lv_at hl 1 rfl) ?_
  refine gR (t := 6) hC hw fl_X7_50 ok15 (by decide) ot15_4 dX7_readMove_13 ?_
  refine gR (t := 7) hC hw fl_X7_133 ok6 (by decide) ot6_4 dX7_readMove_16 ?_
  refine lv_iload_n hx hb dX7_readMove_19 rfl (lv_at hl 4 rfl) ?_
  have ha20 : oK (57 + 2 * v3.toNatClampNeg) = 6 := aK7 hi8 rfl
  refine lA (t := (57 + 2 * v3.toNatClampNeg)) (CN := "SowingHouse$Scene") hC hw ok7 (by decide) rfl on7 hi8 (aT7 hi8 rfl) dX7_readMove_20 (by decide) ?_
  refine lv_iload_n hx hb dX7_readMove_21 rfl (lv_at hl 3 rfl) ?_
  refine lv_iload hx hb dX7_readMove_22 (lv_at hl 0 rfl) ?_
  refine lv_isub hx hb dX7_readMove_24 ?_
  obtain ⟨r25, hr25, h⟩ := bnd h
  refine cV (b := 15) (As := [.ref (g.2.2 (57 + 2 * v3.toNatClampNeg)), .int (v2 - (μ.1 8 v3.toNatClampNeg))]) (rest := []) (st1 := [.int r25.1]) hC hw (c_X7_indexAt l g n (57 + 2 * v3.toNatClampNeg) (v2 - (μ.1 8 v3.toNatClampNeg)) μ r25 hr25) ml_X7_137 im_X7_indexAt se_X7_indexAt ok15 (CN := RX7) (T := TX7) (NF := 13) rfl rfl (by decide) rfl hl.1 ⟨Nat.le_of_ble_eq_true rfl, Nat.le_of_ble_eq_true rfl⟩ (Nat.le_of_ble_eq_true rfl) ⟨Nat.zero_le _, Nat.zero_le _⟩ rfl dX7_readMove_25 (fun H locs hw => ?_)
  refine lv_istore (lv' := [(5, .int r25.1), (4, .int (μ.1 8 v3.toNatClampNeg)), (0, .ref (g.2.2 15)), (1, .int v1), (2, .int v2), (3, .int v3)]) hx hb dX7_readMove_28 hl (by decide) rfl (fun ls hl => ?_)
  refine lv_iload hx hb dX7_readMove_30 (lv_at hl 1 rfl) ?_
  refine lv_if_le (tgt := 100) hx hb dX7_readMove_32 (by decide) (fun hc => ?_) (fun hc => ?_)
  · rw [if_pos hc] at h
    refine lv_aload_n hx hb dX7_readMove_100 rfl (lv_at hl 2 rfl) ?_
    refine gR (t := 21) hC hw fl_X7_39 ok15 (by decide) ot15_12 dX7_readMove_101 ?_
    refine lv_iload_n hx hb dX7_readMove_104 rfl (lv_at hl 3 rfl) ?_
    refine lv_bipush (v := (6 : Int32)) hx hb dX7_readMove_105 (by decide) ?_
    refine lv_imul hx hb dX7_readMove_107 ?_
    refine lv_aload_n hx hb dX7_readMove_108 rfl (lv_at hl 2 rfl) ?_
    refine gR (t := 20) hC hw fl_X7_35 ok15 (by decide) ot15_11 dX7_readMove_109 ?_
    refine lv_iload_n hx hb dX7_readMove_112 rfl (lv_at hl 3 rfl) ?_
    obtain ⟨hi113, h⟩ := gd_some h
    refine lI (j := v1.toNatClampNeg) hC hw ok20 on20 hi113 rfl dX7_readMove_113 ?_
    refine lv_iadd hx hb dX7_readMove_114 ?_
    refine lv_iload hx hb dX7_readMove_115 (lv_at hl 0 rfl) ?_
    obtain ⟨hi117, h⟩ := gd_some h
    refine sI (j := ((v1 * (6 : Int32)) + (r25.2.1 20 v1.toNatClampNeg)).toNatClampNeg) hC hw ok21 on21 hi117 rfl dX7_readMove_117 (fun H locs hw => ?_)
    refine lv_aload_n hx hb dX7_readMove_118 rfl (lv_at hl 2 rfl) ?_
    refine gR (t := 20) hC hw fl_X7_35 ok15 (by decide) ot15_11 dX7_readMove_119 ?_
    refine lv_iload_n hx hb dX7_readMove_122 rfl (lv_at hl 3 rfl) ?_
    refine lv_dup2_11 hx hb dX7_readMove_123 rfl rfl ?_
    refine lI (j := v1.toNatClampNeg) hC hw ok20 on20 hi113 rfl dX7_readMove_124 ?_
    refine lv_iconst (v := (1 : Int32)) hx hb dX7_readMove_125 (by decide) ?_
    refine lv_iadd hx hb dX7_readMove_126 ?_
    refine sI (j := v1.toNatClampNeg) hC hw ok20 on20 hi113 rfl dX7_readMove_127 (fun H locs hw => ?_)
    exact B128 (si (si r25.2 21 ((v1 * (6 : Int32)) + (r25.2.1 20 v1.toNatClampNeg)).toNatClampNeg r25.1) 20 v1.toNatClampNeg (((si r25.2 21 ((v1 * (6 : Int32)) + (r25.2.1 20 v1.toNatClampNeg)).toNatClampNeg r25.1).1 20 v1.toNatClampNeg) + (1 : Int32))) _ _ _ hw (lv_sub hl [] rfl) h
  · rw [if_neg hc] at h
    refine lv_aload_n hx hb dX7_readMove_35 rfl (lv_at hl 2 rfl) ?_
    refine gR (t := 6) hC hw fl_X7_50 ok15 (by decide) ot15_4 dX7_readMove_36 ?_
    refine gR (t := 7) hC hw fl_X7_133 ok6 (by decide) ot6_4 dX7_readMove_39 ?_
    refine lv_iload_n hx hb dX7_readMove_42 rfl (lv_at hl 5 rfl) ?_
    have ha43 : oK (57 + 2 * v3.toNatClampNeg) = 6 := aK7 hi8 rfl
    refine lA (t := (57 + 2 * v3.toNatClampNeg)) (CN := "SowingHouse$Scene") hC hw ok7 (by decide) rfl on7 hi8 (aT7 hi8 rfl) dX7_readMove_43 (by decide) ?_
    refine gI hC hw fl_X7_87 ha43 (by decide) dX7_readMove_44 ?_
    refine lv_aload_n hx hb dX7_readMove_47 rfl (lv_at hl 2 rfl) ?_
    refine gR (t := 151) hC hw fl_X7_21 ok15 (by decide) ot15_5 dX7_readMove_48 ?_
    refine gI hC hw fl_X7_87 ok151 (by decide) dX7_readMove_51 ?_
    refine lv_icmp_ne (tgt := 67) hx hb dX7_readMove_54 (by decide) (fun hc => ?_) (fun hc => ?_)
    · rw [if_neg hc] at h
      refine lv_aload_n hx hb dX7_readMove_67 rfl (lv_at hl 2 rfl) ?_
      refine gR (t := 16) hC hw fl_X7_9 ok15 (by decide) ot15_0 dX7_readMove_68 ?_
      refine lv_iload hx hb dX7_readMove_71 (lv_at hl 0 rfl) ?_
      obtain ⟨hi73, h⟩ := gd_some h
      refine lI (j := r25.1.toNatClampNeg) hC hw ok16 on16 hi73 rfl dX7_readMove_73 ?_
      refine lv_ineg hx hb dX7_readMove_74 ?_
      exact B75 (μ.1 8 v3.toNatClampNeg) (-(r25.2.1 16 r25.1.toNatClampNeg)) r25.2 _ _ _ hw (lv_sub hl [2, 3, 1] rfl) h
    · rw [if_pos hc] at h
      refine lv_aload_n hx hb dX7_readMove_57 rfl (lv_at hl 2 rfl) ?_
      refine gR (t := 16) hC hw fl_X7_9 ok15 (by decide) ot15_0 dX7_readMove_58 ?_
      refine lv_iload hx hb dX7_readMove_61 (lv_at hl 0 rfl) ?_
      obtain ⟨hi63, h⟩ := gd_some h
      refine lI (j := r25.1.toNatClampNeg) hC hw ok16 on16 hi63 rfl dX7_readMove_63 ?_
      refine lv_goto (tgt := 75) hx hb dX7_readMove_64 (by decide) ?_
      exact B75 (μ.1 8 v3.toNatClampNeg) (r25.2.1 16 r25.1.toNatClampNeg) r25.2 _ _ _ hw (lv_sub hl [2, 3, 1] rfl) h
set_option maxRecDepth 100000 in
set_option maxHeartbeats 4000000 in
theorem c_X7_weighAll (l : Launch) (g : Gw) (n : Nat) (v1 : Int32) (v2 : Int32) (μ : Mu) (r : Unit × Mu) (h : X7_weighAll n v1 v2 μ = some r) : Ct l g yX7_weighAll cX7_weighAll 9 none 1 [.ref (g.2.2 15), .int v1, .int v2] μ none r.2 := by
  rw [X7_weighAll] at h
  refine Ct.of (by decide) (Nat.le_of_ble_eq_true rfl) ?_
  intro p e s m args below meth c ls hC hw hr hlocks hl
  have hx := hC.1
  have hb := hC.2.1
  have hl : lv_has ls 9 [(0, .ref (g.2.2 15)), (1, .int v1), (2, .int v2)] := hl
  have B22 : ∀ (k : Nat), ∀ (v3 : Int32) (v4 : Int32) (μ : Mu) (H : Heap) (locs : List Loc) (ls : Array Slot), wd g μ s (Aw g s.heap.size) H locs → lv_has ls 9 [(0, .ref (g.2.2 15)), (3, .int v3), (4, .int v4)] → lpF (fun _ _ _ => none) (X7_weighAll_22b n v1 v2) k v3 v4 μ = some r → WQ p l e (rmD 1) s m args below meth c g none r.2 H locs (F0 m 22 ls []) := by
    intro k
    induction k with
    | zero =>
      intro v3 v4 μ H locs ls hw hl h
      cases h
    | succ k ih22 =>
      rw [lpF_s]
      generalize lpF (fun _ _ _ => none) (X7_weighAll_22b n v1 v2) k = k22 at ih22 ⊢
      intro v3 v4 μ H locs ls hw hl h
      have B58 : ∀ (k : Nat), ∀ (v3 : Int32) (v4 : Int32) (v5 : Int32) (v6 : Int32) (v7 : Int32) (μ : Mu) (H : Heap) (locs : List Loc) (ls : Array Slot), wd g μ s (Aw g s.heap.size) H locs → lv_has ls 9 [(0, .ref (g.2.2 15)), (3, .int v3), (4, .int v4), (5, .int v5), (6, .int v6), (7, .int v7)] → lpF (fun _ _ _ _ _ _ => none) (X7_weighAll_58b n v1 v2 k22) k v3 v4 v5 v6 v7 μ = some r → WQ p l e (rmD 1) s m args below meth c g none r.2 H locs (F0 m 58 ls []) := by
        intro k
        induction k with
        | zero =>
          intro v3 v4 v5 v6 v7 μ H locs ls hw hl h
          cases h
        | succ k ih58 =>
          rw [lpF_s]
          generalize lpF (fun _ _ _ _ _ _ => none) (X7_weighAll_58b n v1 v2 k22) k = k58 at ih58 ⊢
          intro v3 v4 v5 v6 v7 μ H locs ls hw hl h
          have B91 : ∀ (v3 : Int32) (v4 : Int32) (v5 : Int32) (v6 : Int32) (v7 : Int32) (μ : Mu) (H : Heap) (locs : List Loc) (ls : Array Slot), wd g μ s (Aw g s.heap.size) H locs → lv_has ls 9 [(0, .ref (g.2.2 15)), (3, .int v3), (4, .int v4), (5, .int v5), (6, .int v6), (7, .int v7)] → X7_weighAll_91 n v1 v2 k22 k58 v3 v4 v5 v6 v7 μ = some r → WQ p l e (rmD 1) s m args below meth c g none r.2 H locs (F0 m 91 ls []) := by
            intro v3 v4 v5 v6 v7 μ H locs ls hw hl h
            rw [X7_weighAll_91] at h
            refine lv_iinc (v := (v7 + ((-1) : Int32))) (lv' := [(7, .int (v7 + ((-1) : Int32))), (0, .ref (g.2.2 15)), (3, .int v3), (4, .int v4), (5, .int v5), (6, .int v6)]) hx hb dX7_weighAll_91 hl (k := 5) rfl rfl (by decide) rfl (fun ls hl => ?_)
            refine lv_goto (tgt := 58) hx hb dX7_weighAll_94 (by decide) ?_
            exact ih58 v3 v4 v5 v6 (v7 + ((-1) : Int32)) μ _ _ _ hw (lv_sub hl [1, 2, 3, 4, 5, 0] rfl) h
          rw [X7_weighAll_58b] at h
          refine lv_iload hx hb dX7_weighAll_58 (lv_at hl 5 rfl) ?_
          refine lv_iload hx hb dX7_weighAll_60 (lv_at hl 4 rfl) ?_
          refine lv_icmp_lt (tgt := 97) hx hb dX7_weighAll_62 (by decide) (fun hc => ?_) (fun hc => ?_)
          · rw [if_pos hc] at h
            refine lv_aload_n hx hb dX7_weighAll_97 rfl (lv_at hl 0 rfl) ?_
            refine gR (t := 19) hC hw fl_X7_32 ok15 (by decide) ot15_10 dX7_weighAll_98 ?_
            refine lv_iload hx hb dX7_weighAll_101 (lv_at hl 2 rfl) ?_
            refine lv_iload hx hb dX7_weighAll_103 (lv_at hl 3 rfl) ?_
            obtain ⟨hi105, h⟩ := gd_some h
            refine sI (j := v4.toNatClampNeg) hC hw ok19 on19 hi105 rfl dX7_weighAll_105 (fun H locs hw => ?_)
            refine lv_iinc (v := (v4 + (1 : Int32))) (lv' := [(4, .int (v4 + (1 : Int32))), (0, .ref (g.2.2 15)), (3, .int v3), (5, .int v5), (6, .int v6), (7, .int v7)]) hx hb dX7_weighAll_106 hl (k := 2) rfl rfl (by decide) rfl (fun ls hl => ?_)
            refine lv_goto (tgt := 22) hx hb dX7_weighAll_109 (by decide) ?_
            exact ih22 v3 (v4 + (1 : Int32)) (si μ 19 v4.toNatClampNeg v5) _ _ _ hw (lv_sub hl [1, 2, 0] rfl) h
          · rw [if_neg hc] at h
            refine lv_aload_n hx hb dX7_weighAll_65 rfl (lv_at hl 0 rfl) ?_
            refine gR (t := 16) hC hw fl_X7_9 ok15 (by decide) ot15_0 dX7_weighAll_66 ?_
            refine lv_aload_n hx hb dX7_weighAll_69 rfl (lv_at hl 0 rfl) ?_
            refine gR (t := 21) hC hw fl_X7_39 ok15 (by decide) ot15_12 dX7_weighAll_70 ?_
            refine lv_iload hx hb dX7_weighAll_73 (lv_at hl 5 rfl) ?_
            obtain ⟨hi75, h⟩ := gd_some h
            refine lI (j := v7.toNatClampNeg) hC hw ok21 on21 hi75 rfl dX7_weighAll_75 ?_
            obtain ⟨hi76, h⟩ := gd_some h
            refine lI (j := (μ.1 21 v7.toNatClampNeg).toNatClampNeg) hC hw ok16 on16 hi76 rfl dX7_weighAll_76 ?_
            refine lv_ineg hx hb dX7_weighAll_77 ?_
            refine lv_istore (lv' := [(8, .int (-(μ.1 16 (μ.1 21 v7.toNatClampNeg).toNatClampNeg))), (0, .ref (g.2.2 15)), (3, .int v3), (4, .int v4), (5, .int v5), (6, .int v6), (7, .int v7)]) hx hb dX7_weighAll_78 hl (by decide) rfl (fun ls hl => ?_)
            refine lv_iload hx hb dX7_weighAll_80 (lv_at hl 0 rfl) ?_
            refine lv_iload hx hb dX7_weighAll_82 (lv_at hl 4 rfl) ?_
            refine lv_icmp_le (tgt := 91) hx hb dX7_weighAll_84 (by decide) (fun hc => ?_) (fun hc => ?_)
            · rw [if_pos hc] at h
              exact B91 v3 v4 v5 v6 v7 μ _ _ _ hw (lv_sub hl [1, 2, 3, 4, 5, 6] rfl) h
            · rw [if_neg hc] at h
              refine lv_iload hx hb dX7_weighAll_87 (lv_at hl 0 rfl) ?_
              refine lv_istore (lv' := [(5, .int (-(μ.1 16 (μ.1 21 v7.toNatClampNeg).toNatClampNeg))), (8, .int (-(μ.1 16 (μ.1 21 v7.toNatClampNeg).toNatClampNeg))), (0, .ref (g.2.2 15)), (3, .int v3), (4, .int v4), (6, .int v6), (7, .int v7)]) hx hb dX7_weighAll_89 hl (by decide) rfl (fun ls hl => ?_)
              exact B91 v3 v4 (-(μ.1 16 (μ.1 21 v7.toNatClampNeg).toNatClampNeg)) v6 v7 μ _ _ _ hw (lv_sub hl [2, 3, 4, 0, 5, 6] rfl) h
      rw [X7_weighAll_22b] at h
      refine lv_iload hx hb dX7_weighAll_22 (lv_at hl 2 rfl) ?_
      refine lv_iload_n hx hb dX7_weighAll_24 rfl (lv_at hl 1 rfl) ?_
      refine lv_icmp_ge (tgt := 112) hx hb dX7_weighAll_25 (by decide) (fun hc => ?_) (fun hc => ?_)
      · rw [if_pos hc] at h
        exact rV hC hw hr hlocks rfl (by rw [← Option.some.inj h]) dX7_weighAll_112
      · rw [if_neg hc] at h
        refine lv_aload_n hx hb dX7_weighAll_28 rfl (lv_at hl 0 rfl) ?_
        refine gR (t := 18) hC hw fl_X7_29 ok15 (by decide) ot15_9 dX7_weighAll_29 ?_
        refine lv_iload hx hb dX7_weighAll_32 (lv_at hl 2 rfl) ?_
        obtain ⟨hi34, h⟩ := gd_some h
        refine lI (j := v4.toNatClampNeg) hC hw ok18 on18 hi34 rfl dX7_weighAll_34 ?_
        refine lv_istore (lv' := [(5, .int (μ.1 18 v4.toNatClampNeg)), (0, .ref (g.2.2 15)), (3, .int v3), (4, .int v4)]) hx hb dX7_weighAll_35 hl (by decide) rfl (fun ls hl => ?_)
        refine lv_iload hx hb dX7_weighAll_37 (lv_at hl 3 rfl) ?_
        refine lv_bipush (v := (6 : Int32)) hx hb dX7_weighAll_39 (by decide) ?_
        refine lv_imul hx hb dX7_weighAll_41 ?_
        refine lv_istore (lv' := [(6, .int (v4 * (6 : Int32))), (5, .int (μ.1 18 v4.toNatClampNeg)), (0, .ref (g.2.2 15)), (3, .int v3), (4, .int v4)]) hx hb dX7_weighAll_42 hl (by decide) rfl (fun ls hl => ?_)
        refine lv_iload hx hb dX7_weighAll_44 (lv_at hl 0 rfl) ?_
        refine lv_aload_n hx hb dX7_weighAll_46 rfl (lv_at hl 2 rfl) ?_
        refine gR (t := 20) hC hw fl_X7_35 ok15 (by decide) ot15_11 dX7_weighAll_47 ?_
        refine lv_iload hx hb dX7_weighAll_50 (lv_at hl 4 rfl) ?_
        refine lI (j := v4.toNatClampNeg) hC hw ok20 on20 hi34 rfl dX7_weighAll_52 ?_
        refine lv_iadd hx hb dX7_weighAll_53 ?_
        refine lv_iconst (v := (1 : Int32)) hx hb dX7_weighAll_54 (by decide) ?_
        refine lv_isub hx hb dX7_weighAll_55 ?_
        refine lv_istore (lv' := [(7, .int (((v4 * (6 : Int32)) + (μ.1 20 v4.toNatClampNeg)) - (1 : Int32))), (6, .int (v4 * (6 : Int32))), (5, .int (μ.1 18 v4.toNatClampNeg)), (0, .ref (g.2.2 15)), (3, .int v3), (4, .int v4)]) hx hb dX7_weighAll_56 hl (by decide) rfl (fun ls hl => ?_)
        exact B58 n v3 v4 (μ.1 18 v4.toNatClampNeg) (v4 * (6 : Int32)) (((v4 * (6 : Int32)) + (μ.1 20 v4.toNatClampNeg)) - (1 : Int32)) μ _ _ _ hw (lv_sub hl [3, 4, 5, 2, 1, 0] rfl) h
  refine lv_iload_n hx hb dX7_weighAll_0 rfl (lv_at hl 1 rfl) ?_
  refine lv_sipush (v := (3003 : Int32)) hx hb dX7_weighAll_1 (by decide) ?_
  refine lv_imul hx hb dX7_weighAll_4 ?_
  refine lv_aload_n hx hb dX7_weighAll_5 rfl (lv_at hl 0 rfl) ?_
  refine gR (t := 2) hC hw fl_X7_46 ok15 (by decide) ot15_3 dX7_weighAll_6 ?_
  refine lv_iload_n hx hb dX7_weighAll_9 rfl (lv_at hl 2 rfl) ?_
  obtain ⟨r10, hr10, h⟩ := bnd h
  refine cV (b := 2) (As := [.int v2]) (rest := [.int (v1 * (3003 : Int32))]) (st1 := [.int r10.1, .int (v1 * (3003 : Int32))]) hC hw (c_X1_positionsOf l g n v2 μ r10 hr10) ml_X7_69 im_X1_positionsOf se_X1_positionsOf ok2 (CN := RX1) (T := TX1) (NF := 7) rfl rfl (by decide) rfl hl.1 ⟨Nat.le_of_ble_eq_true rfl, Nat.le_of_ble_eq_true rfl⟩ (Nat.le_of_ble_eq_true rfl) ⟨Nat.zero_le _, Nat.zero_le _⟩ rfl dX7_weighAll_10 (fun H locs hw => ?_)
  refine lv_iadd hx hb dX7_weighAll_13 ?_
  refine lv_istore_n (lv' := [(3, .int ((v1 * (3003 : Int32)) + r10.1)), (0, .ref (g.2.2 15)), (1, .int v1), (2, .int v2)]) hx hb dX7_weighAll_14 rfl hl (by decide) rfl (fun ls hl => ?_)
  refine lv_iload_n hx hb dX7_weighAll_15 rfl (lv_at hl 2 rfl) ?_
  refine lv_sipush (v := (3003 : Int32)) hx hb dX7_weighAll_16 (by decide) ?_
  refine lv_imul hx hb dX7_weighAll_19 ?_
  refine lv_istore (lv' := [(4, .int (v1 * (3003 : Int32))), (3, .int ((v1 * (3003 : Int32)) + r10.1)), (0, .ref (g.2.2 15)), (1, .int v1), (2, .int v2)]) hx hb dX7_weighAll_20 hl (by decide) rfl (fun ls hl => ?_)
  exact B22 n ((v1 * (3003 : Int32)) + r10.1) (v1 * (3003 : Int32)) r10.2 _ _ _ hw (lv_sub hl [2, 1, 0] rfl) h
set_option maxRecDepth 100000 in
set_option maxHeartbeats 4000000 in
theorem c_X7_settleAll (l : Launch) (g : Gw) (n : Nat) (v1 : Int32) (v2 : Int32) (v3 : Int32) (μ : Mu) (r : Int32 × Mu) (h : X7_settleAll n v1 v2 v3 μ = some r) : Ct l g yX7_settleAll cX7_settleAll 9 (some .boolean) 2 [.ref (g.2.2 15), .int v1, .int v2, .int v3] μ (some (.int r.1)) r.2 := by
  rw [X7_settleAll] at h
  refine Ct.of (by decide) (Nat.le_of_ble_eq_true rfl) ?_
  intro p e s m args below meth c ls hC hw hr hlocks hl
  have hx := hC.1
  have hb := hC.2.1
  have hl : lv_has ls 9 [(0, .ref (g.2.2 15)), (1, .int v1), (2, .int v2), (3, .int v3)] := hl
  have B25 : ∀ (k : Nat), ∀ (v4 : Int32) (v5 : Int32) (v6 : Int32) (v7 : Int32) (μ : Mu) (H : Heap) (locs : List Loc) (ls : Array Slot), wd g μ s (Aw g s.heap.size) H locs → lv_has ls 9 [(0, .ref (g.2.2 15)), (1, .int v1), (3, .int v3), (4, .int v4), (5, .int v5), (6, .int v6), (7, .int v7)] → lpF (fun _ _ _ _ _ => none) (X7_settleAll_25b n v1 v2 v3) k v4 v5 v6 v7 μ = some r → WQ p l e (rmD 2) s m args below meth c g (some (.int r.1)) r.2 H locs (F0 m 25 ls []) := by
    intro k
    induction k with
    | zero =>
      intro v4 v5 v6 v7 μ H locs ls hw hl h
      cases h
    | succ k ih25 =>
      rw [lpF_s]
      generalize lpF (fun _ _ _ _ _ => none) (X7_settleAll_25b n v1 v2 v3) k = k25 at ih25 ⊢
      intro v4 v5 v6 v7 μ H locs ls hw hl h
      have B102 : ∀ (v4 : Int32) (v5 : Int32) (v6 : Int32) (v7 : Int32) (μ : Mu) (H : Heap) (locs : List Loc) (ls : Array Slot), wd g μ s (Aw g s.heap.size) H locs → lv_has ls 9 [(0, .ref (g.2.2 15)), (1, .int v1), (3, .int v3), (4, .int v4), (5, .int v5), (6, .int v6), (7, .int v7)] → X7_settleAll_102 n v1 v2 v3 k25 v4 v5 v6 v7 μ = some r → WQ p l e (rmD 2) s m args below meth c g (some (.int r.1)) r.2 H locs (F0 m 102 ls []) := by
        intro v4 v5 v6 v7 μ H locs ls hw hl h
        rw [X7_settleAll_102] at h
        refine lv_iinc (v := (v7 + (1 : Int32))) (lv' := [(7, .int (v7 + (1 : Int32))), (0, .ref (g.2.2 15)), (1, .int v1), (3, .int v3), (4, .int v4), (5, .int v5), (6, .int v6)]) hx hb dX7_settleAll_102 hl (k := 6) rfl rfl (by decide) rfl (fun ls hl => ?_)
        refine lv_goto (tgt := 25) hx hb dX7_settleAll_105 (by decide) ?_
        exact ih25 v4 v5 v6 (v7 + (1 : Int32)) μ _ _ _ hw (lv_sub hl [1, 2, 3, 4, 5, 6, 0] rfl) h
      rw [X7_settleAll_25b] at h
      refine lv_iload hx hb dX7_settleAll_25 (lv_at hl 6 rfl) ?_
      refine lv_iload hx hb dX7_settleAll_27 (lv_at hl 3 rfl) ?_
      refine lv_icmp_ge (tgt := 108) hx hb dX7_settleAll_29 (by decide) (fun hc => ?_) (fun hc => ?_)
      · rw [if_pos hc] at h
        refine lv_iload hx hb dX7_settleAll_108 (lv_at hl 5 rfl) ?_
        obtain ⟨hz110, h⟩ := bz_some h
        exact rZ hC hw hr hlocks hz110 (by rw [← Option.some.inj h]) (by rw [← Option.some.inj h]) dX7_settleAll_110
      · rw [if_neg hc] at h
        refine lv_aload_n hx hb dX7_settleAll_32 rfl (lv_at hl 0 rfl) ?_
        refine gR (t := 19) hC hw fl_X7_32 ok15 (by decide) ot15_10 dX7_settleAll_33 ?_
        refine lv_iload_n hx hb dX7_settleAll_36 rfl (lv_at hl 1 rfl) ?_
        refine lv_sipush (v := (3003 : Int32)) hx hb dX7_settleAll_37 (by decide) ?_
        refine lv_imul hx hb dX7_settleAll_40 ?_
        refine lv_iload hx hb dX7_settleAll_41 (lv_at hl 6 rfl) ?_
        refine lv_iadd hx hb dX7_settleAll_43 ?_
        obtain ⟨hi44, h⟩ := gd_some h
        refine lI (j := ((v1 * (3003 : Int32)) + v7).toNatClampNeg) hC hw ok19 on19 hi44 rfl dX7_settleAll_44 ?_
        refine lv_istore (lv' := [(8, .int (μ.1 19 ((v1 * (3003 : Int32)) + v7).toNatClampNeg)), (0, .ref (g.2.2 15)), (1, .int v1), (3, .int v3), (4, .int v4), (5, .int v5), (6, .int v6), (7, .int v7)]) hx hb dX7_settleAll_45 hl (by decide) rfl (fun ls hl => ?_)
        refine lv_aload_n hx hb dX7_settleAll_47 rfl (lv_at hl 1 rfl) ?_
        refine gR (t := 17) hC hw fl_X7_15 ok15 (by decide) ot15_1 dX7_settleAll_48 ?_
        refine lv_iload hx hb dX7_settleAll_51 (lv_at hl 5 rfl) ?_
        refine lv_iload hx hb dX7_settleAll_53 (lv_at hl 7 rfl) ?_
        refine lv_iadd hx hb dX7_settleAll_55 ?_
        obtain ⟨hi56, h⟩ := gd_some h
        refine lI (j := (v5 + v7).toNatClampNeg) hC hw ok17 on17 hi56 rfl dX7_settleAll_56 ?_
        refine lv_iconst (v := ((-1) : Int32)) hx hb dX7_settleAll_57 (by decide) ?_
        refine lv_icmp_eq (tgt := 102) hx hb dX7_settleAll_58 (by decide) (fun hc => ?_) (fun hc => ?_)
        · rw [if_pos hc] at h
          exact B102 v4 v5 v6 v7 μ _ _ _ hw (lv_sub hl [1, 2, 3, 4, 5, 6, 7] rfl) h
        · rw [if_neg hc] at h
          refine lv_aload_n hx hb dX7_settleAll_61 rfl (lv_at hl 1 rfl) ?_
          refine gR (t := 16) hC hw fl_X7_9 ok15 (by decide) ot15_0 dX7_settleAll_62 ?_
          refine lv_iload hx hb dX7_settleAll_65 (lv_at hl 5 rfl) ?_
          refine lv_iload hx hb dX7_settleAll_67 (lv_at hl 7 rfl) ?_
          refine lv_iadd hx hb dX7_settleAll_69 ?_
          refine lI (j := (v5 + v7).toNatClampNeg) hC hw ok16 on16 hi56 rfl dX7_settleAll_70 ?_
          refine lv_iload hx hb dX7_settleAll_71 (lv_at hl 0 rfl) ?_
          refine lv_icmp_eq (tgt := 102) hx hb dX7_settleAll_73 (by decide) (fun hc => ?_) (fun hc => ?_)
          · rw [if_pos hc] at h
            exact B102 v4 v5 v6 v7 μ _ _ _ hw (lv_sub hl [1, 2, 3, 4, 5, 6, 7] rfl) h
          · rw [if_neg hc] at h
            refine lv_aload_n hx hb dX7_settleAll_76 rfl (lv_at hl 1 rfl) ?_
            refine gR (t := 16) hC hw fl_X7_9 ok15 (by decide) ot15_0 dX7_settleAll_77 ?_
            refine lv_iload hx hb dX7_settleAll_80 (lv_at hl 5 rfl) ?_
            refine lv_iload hx hb dX7_settleAll_82 (lv_at hl 7 rfl) ?_
            refine lv_iadd hx hb dX7_settleAll_84 ?_
            refine lv_iload hx hb dX7_settleAll_85 (lv_at hl 0 rfl) ?_
            refine sI (j := (v5 + v7).toNatClampNeg) hC hw ok16 on16 hi56 rfl dX7_settleAll_87 (fun H locs hw => ?_)
            refine lv_aload_n hx hb dX7_settleAll_88 rfl (lv_at hl 1 rfl) ?_
            refine gR (t := 17) hC hw fl_X7_15 ok15 (by decide) ot15_1 dX7_settleAll_89 ?_
            refine lv_iload hx hb dX7_settleAll_92 (lv_at hl 5 rfl) ?_
            refine lv_iload hx hb dX7_settleAll_94 (lv_at hl 7 rfl) ?_
            refine lv_iadd hx hb dX7_settleAll_96 ?_
            refine lv_iload_n hx hb dX7_settleAll_97 rfl (lv_at hl 3 rfl) ?_
            refine sI (j := (v5 + v7).toNatClampNeg) hC hw ok17 on17 hi56 rfl dX7_settleAll_98 (fun H locs hw => ?_)
            refine lv_iconst (v := (1 : Int32)) hx hb dX7_settleAll_99 (by decide) ?_
            refine lv_istore (lv' := [(6, .int (1 : Int32)), (8, .int (μ.1 19 ((v1 * (3003 : Int32)) + v7).toNatClampNeg)), (0, .ref (g.2.2 15)), (1, .int v1), (3, .int v3), (4, .int v4), (5, .int v5), (7, .int v7)]) hx hb dX7_settleAll_100 hl (by decide) rfl (fun ls hl => ?_)
            exact B102 v4 v5 (1 : Int32) v7 (si (si μ 16 (v5 + v7).toNatClampNeg (μ.1 19 ((v1 * (3003 : Int32)) + v7).toNatClampNeg)) 17 (v5 + v7).toNatClampNeg v3) _ _ _ hw (lv_sub hl [2, 3, 4, 5, 6, 0, 7] rfl) h
  refine lv_aload_n hx hb dX7_settleAll_0 rfl (lv_at hl 0 rfl) ?_
  refine gR (t := 2) hC hw fl_X7_46 ok15 (by decide) ot15_3 dX7_settleAll_1 ?_
  refine lv_iload_n hx hb dX7_settleAll_4 rfl (lv_at hl 2 rfl) ?_
  obtain ⟨r5, hr5, h⟩ := bnd h
  refine cV (b := 2) (As := [.int v2]) (rest := []) (st1 := [.int r5.1]) hC hw (c_X1_positionsOf l g n v2 μ r5 hr5) ml_X7_69 im_X1_positionsOf se_X1_positionsOf ok2 (CN := RX1) (T := TX1) (NF := 7) rfl rfl (by decide) rfl hl.1 ⟨Nat.le_of_ble_eq_true rfl, Nat.le_of_ble_eq_true rfl⟩ (Nat.le_of_ble_eq_true rfl) ⟨Nat.zero_le _, Nat.zero_le _⟩ rfl dX7_settleAll_5 (fun H locs hw => ?_)
  refine lv_istore (lv' := [(4, .int r5.1), (0, .ref (g.2.2 15)), (1, .int v1), (2, .int v2), (3, .int v3)]) hx hb dX7_settleAll_8 hl (by decide) rfl (fun ls hl => ?_)
  refine lv_aload_n hx hb dX7_settleAll_10 rfl (lv_at hl 1 rfl) ?_
  refine lv_iload_n hx hb dX7_settleAll_11 rfl (lv_at hl 2 rfl) ?_
  refine lv_iload_n hx hb dX7_settleAll_12 rfl (lv_at hl 3 rfl) ?_
  refine lv_iconst (v := (0 : Int32)) hx hb dX7_settleAll_13 (by decide) ?_
  obtain ⟨r14, hr14, h⟩ := bnd h
  refine cV (b := 15) (As := [.int v1, .int v2, .int (0 : Int32)]) (rest := []) (st1 := [.int r14.1]) hC hw (c_X7_indexOf l g n v1 v2 (0 : Int32) r5.2 r14 hr14) ml_X7_94 im_X7_indexOf se_X7_indexOf ok15 (CN := RX7) (T := TX7) (NF := 13) rfl rfl (by decide) rfl hl.1 ⟨Nat.le_of_ble_eq_true rfl, Nat.le_of_ble_eq_true rfl⟩ (Nat.le_of_ble_eq_true rfl) ⟨Nat.zero_le _, Nat.zero_le _⟩ rfl dX7_settleAll_14 (fun H locs hw => ?_)
  refine lv_istore (lv' := [(5, .int r14.1), (4, .int r5.1), (0, .ref (g.2.2 15)), (1, .int v1), (2, .int v2), (3, .int v3)]) hx hb dX7_settleAll_17 hl (by decide) rfl (fun ls hl => ?_)
  refine lv_iconst (v := (0 : Int32)) hx hb dX7_settleAll_19 (by decide) ?_
  refine lv_istore (lv' := [(6, .int (0 : Int32)), (5, .int r14.1), (4, .int r5.1), (0, .ref (g.2.2 15)), (1, .int v1), (2, .int v2), (3, .int v3)]) hx hb dX7_settleAll_20 hl (by decide) rfl (fun ls hl => ?_)
  refine lv_iconst (v := (0 : Int32)) hx hb dX7_settleAll_22 (by decide) ?_
  refine lv_istore (lv' := [(7, .int (0 : Int32)), (6, .int (0 : Int32)), (5, .int r14.1), (4, .int r5.1), (0, .ref (g.2.2 15)), (1, .int v1), (2, .int v2), (3, .int v3)]) hx hb dX7_settleAll_23 hl (by decide) rfl (fun ls hl => ?_)
  exact B25 n r5.1 r14.1 (0 : Int32) (0 : Int32) r14.2 _ _ _ hw (lv_sub hl [4, 5, 7, 3, 2, 1, 0] rfl) h
set_option maxRecDepth 100000 in
set_option maxHeartbeats 4000000 in
theorem c_X7_valueAt (l : Launch) (g : Gw) (n : Nat) (v1 : Nat) (μ : Mu) (r : Int32 × Mu) (h : X7_valueAt n v1 μ = some r) : Ct l g yX7_valueAt cX7_valueAt 2 (some .int) 3 [.ref (g.2.2 15), .ref (g.2.2 v1)] μ (some (.int r.1)) r.2 := by
  rw [X7_valueAt] at h
  obtain ⟨hk1, h⟩ := kd_some h
  refine Ct.of (by decide) (Nat.le_of_ble_eq_true rfl) ?_
  intro p e s m args below meth c ls hC hw hr hlocks hl
  have hx := hC.1
  have hb := hC.2.1
  have hl : lv_has ls 2 [(0, .ref (g.2.2 15)), (1, .ref (g.2.2 v1))] := hl
  refine lv_aload_n hx hb dX7_valueAt_0 rfl (lv_at hl 0 rfl) ?_
  refine gR (t := 16) hC hw fl_X7_9 ok15 (by decide) ot15_0 dX7_valueAt_1 ?_
  refine lv_aload_n hx hb dX7_valueAt_4 rfl (lv_at hl 0 rfl) ?_
  refine lv_aload_n hx hb dX7_valueAt_5 rfl (lv_at hl 1 rfl) ?_
  refine lv_aload_n hx hb dX7_valueAt_6 rfl (lv_at hl 1 rfl) ?_
  obtain ⟨r7, hr7, h⟩ := bnd h
  refine cV (b := v1) (As := []) (rest := [.ref (g.2.2 v1), .ref (g.2.2 15), .ref (g.2.2 16)]) (st1 := [.int r7.1, .ref (g.2.2 v1), .ref (g.2.2 15), .ref (g.2.2 16)]) hC hw (c_X6_inPits l g n v1 μ r7 hr7) ml_X7_145 im_X6_inPits se_X6_inPits hk1 (CN := RX6) (T := TX6) (NF := 2) rfl rfl (by decide) rfl hl.1 ⟨Nat.le_of_ble_eq_true rfl, Nat.le_of_ble_eq_true rfl⟩ (Nat.le_of_ble_eq_true rfl) ⟨Nat.zero_le _, Nat.zero_le _⟩ rfl dX7_valueAt_7 (fun H locs hw => ?_)
  obtain ⟨r10, hr10, h⟩ := bnd h
  refine cV (b := 15) (As := [.ref (g.2.2 v1), .int r7.1]) (rest := [.ref (g.2.2 16)]) (st1 := [.int r10.1, .ref (g.2.2 16)]) hC hw (c_X7_indexAt l g n v1 r7.1 r7.2 r10 hr10) ml_X7_137 im_X7_indexAt se_X7_indexAt ok15 (CN := RX7) (T := TX7) (NF := 13) rfl rfl (by decide) rfl hl.1 ⟨Nat.le_of_ble_eq_true rfl, Nat.le_of_ble_eq_true rfl⟩ (Nat.le_of_ble_eq_true rfl) ⟨Nat.zero_le _, Nat.zero_le _⟩ rfl dX7_valueAt_10 (fun H locs hw => ?_)
  obtain ⟨hi13, h⟩ := gd_some h
  refine lI (j := r10.1.toNatClampNeg) hC hw ok16 on16 hi13 rfl dX7_valueAt_13 ?_
  exact rI hC hw hr hlocks (by rw [← Option.some.inj h]) (by rw [← Option.some.inj h]) dX7_valueAt_14
set_option maxRecDepth 100000 in
set_option maxHeartbeats 4000000 in
theorem c_X7_rankOf (l : Launch) (g : Gw) (n : Nat) (v1 : Int32) (μ : Mu) (r : Int32 × Mu) (h : X7_rankOf n v1 μ = some r) : Ct l g yX7_rankOf cX7_rankOf 2 (some .int) 1 [.ref (g.2.2 15), .int v1] μ (some (.int r.1)) r.2 := by
  rw [X7_rankOf] at h
  refine Ct.of (by decide) (Nat.le_of_ble_eq_true rfl) ?_
  intro p e s m args below meth c ls hC hw hr hlocks hl
  have hx := hC.1
  have hb := hC.2.1
  have hl : lv_has ls 2 [(0, .ref (g.2.2 15)), (1, .int v1)] := hl
  refine lv_iconst (v := (0 : Int32)) hx hb dX7_rankOf_0 (by decide) ?_
  refine lv_aload_n hx hb dX7_rankOf_1 rfl (lv_at hl 0 rfl) ?_
  refine gR (t := 17) hC hw fl_X7_15 ok15 (by decide) ot15_1 dX7_rankOf_2 ?_
  refine lv_iload_n hx hb dX7_rankOf_5 rfl (lv_at hl 1 rfl) ?_
  obtain ⟨hi6, h⟩ := gd_some h
  refine lI (j := v1.toNatClampNeg) hC hw ok17 on17 hi6 rfl dX7_rankOf_6 ?_
  refine va_mmax (rest := []) hx hb (hC.2.2.1.trans hl.1.symm) hC.2.2.2.1 (hC.2.2.2.2.1 _ mm_X7_140) (hC.2.2.2.2.1 _ mw_max.1) (hC.2.2.2.2.1 _ mw_max.2.1) (hC.2.2.2.2.1 _ mw_max.2.2) (Nat.le_of_ble_eq_true rfl) (Nat.le_of_ble_eq_true rfl) (Nat.zero_le _) (Nat.zero_le _) dX7_rankOf_7 ?_
  exact rI hC hw hr hlocks (by rw [← Option.some.inj h]) (by rw [← Option.some.inj h]) dX7_rankOf_10
set_option maxRecDepth 100000 in
set_option maxHeartbeats 4000000 in
theorem c_X7_markOf (l : Launch) (g : Gw) (n : Nat) (v1 : Nat) (μ : Mu) (r : Int32 × Mu) (h : X7_markOf n v1 μ = some r) : Ct l g yX7_markOf cX7_markOf 3 (some .int) 1 [.ref (g.2.2 15), .ref (g.2.2 v1)] μ (some (.int r.1)) r.2 := by
  rw [X7_markOf] at h
  obtain ⟨hk1, h⟩ := kd_some h
  refine Ct.of (by decide) (Nat.le_of_ble_eq_true rfl) ?_
  intro p e s m args below meth c ls hC hw hr hlocks hl
  have hx := hC.1
  have hb := hC.2.1
  have hl : lv_has ls 3 [(0, .ref (g.2.2 15)), (1, .ref (g.2.2 v1))] := hl
  refine lv_aload_n hx hb dX7_markOf_0 rfl (lv_at hl 1 rfl) ?_
  obtain ⟨r1, hr1, h⟩ := bnd h
  refine cV (b := v1) (As := []) (rest := []) (st1 := [.int r1.1]) hC hw (c_X6_inPits l g n v1 μ r1 hr1) ml_X7_145 im_X6_inPits se_X6_inPits hk1 (CN := RX6) (T := TX6) (NF := 2) rfl rfl (by decide) rfl hl.1 ⟨Nat.le_of_ble_eq_true rfl, Nat.le_of_ble_eq_true rfl⟩ (Nat.le_of_ble_eq_true rfl) ⟨Nat.zero_le _, Nat.zero_le _⟩ rfl dX7_markOf_1 (fun H locs hw => ?_)
  refine lv_istore_n (lv' := [(2, .int r1.1), (0, .ref (g.2.2 15)), (1, .ref (g.2.2 v1))]) hx hb dX7_markOf_4 rfl hl (by decide) rfl (fun ls hl => ?_)
  refine lv_iconst (v := (2 : Int32)) hx hb dX7_markOf_5 (by decide) ?_
  refine lv_aload_n hx hb dX7_markOf_6 rfl (lv_at hl 1 rfl) ?_
  refine gR (t := 2) hC hw fl_X7_46 ok15 (by decide) ot15_3 dX7_markOf_7 ?_
  refine lv_iload_n hx hb dX7_markOf_10 rfl (lv_at hl 0 rfl) ?_
  refine lv_iconst (v := (1 : Int32)) hx hb dX7_markOf_11 (by decide) ?_
  refine lv_isub hx hb dX7_markOf_12 ?_
  obtain ⟨r13, hr13, h⟩ := bnd h
  refine cV (b := 2) (As := [.int (r1.1 - (1 : Int32))]) (rest := [.int (2 : Int32)]) (st1 := [.int r13.1, .int (2 : Int32)]) hC hw (c_X1_positionsUpTo l g n (r1.1 - (1 : Int32)) r1.2 r13 hr13) ml_X7_54 im_X1_positionsUpTo se_X1_positionsUpTo ok2 (CN := RX1) (T := TX1) (NF := 7) rfl rfl (by decide) rfl hl.1 ⟨Nat.le_of_ble_eq_true rfl, Nat.le_of_ble_eq_true rfl⟩ (Nat.le_of_ble_eq_true rfl) ⟨Nat.zero_le _, Nat.zero_le _⟩ rfl dX7_markOf_13 (fun H locs hw => ?_)
  refine lv_aload_n hx hb dX7_markOf_16 rfl (lv_at hl 1 rfl) ?_
  refine gR (t := 2) hC hw fl_X7_46 ok15 (by decide) ot15_3 dX7_markOf_17 ?_
  refine lv_aload_n hx hb dX7_markOf_20 rfl (lv_at hl 2 rfl) ?_
  refine lv_iload_n hx hb dX7_markOf_21 rfl (lv_at hl 0 rfl) ?_
  obtain ⟨r22, hr22, h⟩ := bnd h
  refine cV (b := 2) (As := [.ref (g.2.2 v1), .int r1.1]) (rest := [.int r13.1, .int (2 : Int32)]) (st1 := [.int r22.1, .int r13.1, .int (2 : Int32)]) hC hw (c_X1_numberOf l g n v1 r1.1 r13.2 r22 hr22) ml_X7_90 im_X1_numberOf se_X1_numberOf ok2 (CN := RX1) (T := TX1) (NF := 7) rfl rfl (by decide) rfl hl.1 ⟨Nat.le_of_ble_eq_true rfl, Nat.le_of_ble_eq_true rfl⟩ (Nat.le_of_ble_eq_true rfl) ⟨Nat.zero_le _, Nat.zero_le _⟩ rfl dX7_markOf_22 (fun H locs hw => ?_)
  refine lv_iadd hx hb dX7_markOf_25 ?_
  refine lv_imul hx hb dX7_markOf_26 ?_
  refine lv_aload_n hx hb dX7_markOf_27 rfl (lv_at hl 2 rfl) ?_
  refine gI hC hw fl_X7_87 hk1 (by decide) dX7_markOf_28 ?_
  refine lv_iadd hx hb dX7_markOf_31 ?_
  exact rI hC hw hr hlocks (by rw [← Option.some.inj h]) (by rw [← Option.some.inj h]) dX7_markOf_32
set_option maxRecDepth 100000 in
set_option maxHeartbeats 4000000 in
theorem c_X7_isOfKind (l : Launch) (g : Gw) (n : Nat) (v1 : Int32) (v2 : Int32) (μ : Mu) (r : Int32 × Mu) (h : X7_isOfKind n v1 v2 μ = some r) : Ct l g yX7_isOfKind cX7_isOfKind 3 (some .boolean) 0 [.ref (g.2.2 15), .int v1, .int v2] μ (some (.int r.1)) r.2 := by
  rw [X7_isOfKind] at h
  refine Ct.of (by decide) (Nat.le_of_ble_eq_true rfl) ?_
  intro p e s m args below meth c ls hC hw hr hlocks hl
  have hx := hC.1
  have hb := hC.2.1
  have hl : lv_has ls 3 [(0, .ref (g.2.2 15)), (1, .int v1), (2, .int v2)] := hl
  have B42 : ∀ (s0 : Int32) (μ : Mu) (H : Heap) (locs : List Loc) (ls : Array Slot), wd g μ s (Aw g s.heap.size) H locs → lv_has ls 3 [] → X7_isOfKind_42 n v1 v2 s0 μ = some r → WQ p l e (rmD 0) s m args below meth c g (some (.int r.1)) r.2 H locs (F0 m 42 ls [.int s0]) := by
    intro s0 μ H locs ls hw hl h
    rw [X7_isOfKind_42] at h
    obtain ⟨hz42, h⟩ := bz_some h
    exact rZ hC hw hr hlocks hz42 (by rw [← Option.some.inj h]) (by rw [← Option.some.inj h]) dX7_isOfKind_42
  have B57 : ∀ (s0 : Int32) (μ : Mu) (H : Heap) (locs : List Loc) (ls : Array Slot), wd g μ s (Aw g s.heap.size) H locs → lv_has ls 3 [] → X7_isOfKind_57 n v1 v2 s0 μ = some r → WQ p l e (rmD 0) s m args below meth c g (some (.int r.1)) r.2 H locs (F0 m 57 ls [.int s0]) := by
    intro s0 μ H locs ls hw hl h
    rw [X7_isOfKind_57] at h
    obtain ⟨hz57, h⟩ := bz_some h
    exact rZ hC hw hr hlocks hz57 (by rw [← Option.some.inj h]) (by rw [← Option.some.inj h]) dX7_isOfKind_57
  have B72 : ∀ (s0 : Int32) (μ : Mu) (H : Heap) (locs : List Loc) (ls : Array Slot), wd g μ s (Aw g s.heap.size) H locs → lv_has ls 3 [] → X7_isOfKind_72 n v1 v2 s0 μ = some r → WQ p l e (rmD 0) s m args below meth c g (some (.int r.1)) r.2 H locs (F0 m 72 ls [.int s0]) := by
    intro s0 μ H locs ls hw hl h
    rw [X7_isOfKind_72] at h
    obtain ⟨hz72, h⟩ := bz_some h
    exact rZ hC hw hr hlocks hz72 (by rw [← Option.some.inj h]) (by rw [← Option.some.inj h]) dX7_isOfKind_72
  have B88 : ∀ (s0 : Int32) (μ : Mu) (H : Heap) (locs : List Loc) (ls : Array Slot), wd g μ s (Aw g s.heap.size) H locs → lv_has ls 3 [] → X7_isOfKind_88 n v1 v2 s0 μ = some r → WQ p l e (rmD 0) s m args below meth c g (some (.int r.1)) r.2 H locs (F0 m 88 ls [.int s0]) := by
    intro s0 μ H locs ls hw hl h
    rw [X7_isOfKind_88] at h
    obtain ⟨hz88, h⟩ := bz_some h
    exact rZ hC hw hr hlocks hz88 (by rw [← Option.some.inj h]) (by rw [← Option.some.inj h]) dX7_isOfKind_88
  refine lv_iload_n hx hb dX7_isOfKind_0 rfl (lv_at hl 2 rfl) ?_
  by_cases hs1_0 : v2 = (0 : Int32)
  · rw [if_pos hs1_0] at h
    refine lv_tableIn (off := 27) (tgt := 28) hx hb dX7_isOfKind_1 (by rw [hs1_0]; decide) (by rw [hs1_0]; decide) (by rw [hs1_0]; decide) (by decide) ?_
    refine lv_aload_n hx hb dX7_isOfKind_28 rfl (lv_at hl 0 rfl) ?_
    refine gR (t := 16) hC hw fl_X7_9 ok15 (by decide) ot15_0 dX7_isOfKind_29 ?_
    refine lv_iload_n hx hb dX7_isOfKind_32 rfl (lv_at hl 1 rfl) ?_
    obtain ⟨hi33, h⟩ := gd_some h
    refine lI (j := v1.toNatClampNeg) hC hw ok16 on16 hi33 rfl dX7_isOfKind_33 ?_
    refine lv_if_le (tgt := 41) hx hb dX7_isOfKind_34 (by decide) (fun hc => ?_) (fun hc => ?_)
    · rw [if_pos hc] at h
      refine lv_iconst (v := (0 : Int32)) hx hb dX7_isOfKind_41 (by decide) ?_
      exact B42 (0 : Int32) μ _ _ _ hw (lv_sub hl [] rfl) h
    · rw [if_neg hc] at h
      refine lv_iconst (v := (1 : Int32)) hx hb dX7_isOfKind_37 (by decide) ?_
      refine lv_goto (tgt := 42) hx hb dX7_isOfKind_38 (by decide) ?_
      exact B42 (1 : Int32) μ _ _ _ hw (lv_sub hl [] rfl) h
  rw [if_neg hs1_0] at h
  by_cases hs1_1 : v2 = (1 : Int32)
  · rw [if_pos hs1_1] at h
    refine lv_tableIn (off := 42) (tgt := 43) hx hb dX7_isOfKind_1 (by rw [hs1_1]; decide) (by rw [hs1_1]; decide) (by rw [hs1_1]; decide) (by decide) ?_
    refine lv_aload_n hx hb dX7_isOfKind_43 rfl (lv_at hl 0 rfl) ?_
    refine gR (t := 16) hC hw fl_X7_9 ok15 (by decide) ot15_0 dX7_isOfKind_44 ?_
    refine lv_iload_n hx hb dX7_isOfKind_47 rfl (lv_at hl 1 rfl) ?_
    obtain ⟨hi48, h⟩ := gd_some h
    refine lI (j := v1.toNatClampNeg) hC hw ok16 on16 hi48 rfl dX7_isOfKind_48 ?_
    refine lv_if_ne (tgt := 56) hx hb dX7_isOfKind_49 (by decide) (fun hc => ?_) (fun hc => ?_)
    · rw [if_neg hc] at h
      refine lv_iconst (v := (0 : Int32)) hx hb dX7_isOfKind_56 (by decide) ?_
      exact B57 (0 : Int32) μ _ _ _ hw (lv_sub hl [] rfl) h
    · rw [if_pos hc] at h
      refine lv_iconst (v := (1 : Int32)) hx hb dX7_isOfKind_52 (by decide) ?_
      refine lv_goto (tgt := 57) hx hb dX7_isOfKind_53 (by decide) ?_
      exact B57 (1 : Int32) μ _ _ _ hw (lv_sub hl [] rfl) h
  rw [if_neg hs1_1] at h
  by_cases hs1_2 : v2 = (2 : Int32)
  · rw [if_pos hs1_2] at h
    refine lv_tableIn (off := 57) (tgt := 58) hx hb dX7_isOfKind_1 (by rw [hs1_2]; decide) (by rw [hs1_2]; decide) (by rw [hs1_2]; decide) (by decide) ?_
    refine lv_aload_n hx hb dX7_isOfKind_58 rfl (lv_at hl 0 rfl) ?_
    refine gR (t := 16) hC hw fl_X7_9 ok15 (by decide) ot15_0 dX7_isOfKind_59 ?_
    refine lv_iload_n hx hb dX7_isOfKind_62 rfl (lv_at hl 1 rfl) ?_
    obtain ⟨hi63, h⟩ := gd_some h
    refine lI (j := v1.toNatClampNeg) hC hw ok16 on16 hi63 rfl dX7_isOfKind_63 ?_
    refine lv_if_ge (tgt := 71) hx hb dX7_isOfKind_64 (by decide) (fun hc => ?_) (fun hc => ?_)
    · rw [if_pos hc] at h
      refine lv_iconst (v := (0 : Int32)) hx hb dX7_isOfKind_71 (by decide) ?_
      exact B72 (0 : Int32) μ _ _ _ hw (lv_sub hl [] rfl) h
    · rw [if_neg hc] at h
      refine lv_iconst (v := (1 : Int32)) hx hb dX7_isOfKind_67 (by decide) ?_
      refine lv_goto (tgt := 72) hx hb dX7_isOfKind_68 (by decide) ?_
      exact B72 (1 : Int32) μ _ _ _ hw (lv_sub hl [] rfl) h
  rw [if_neg hs1_2] at h
  have ht0 := lv_neT (a := 0) hs1_0 (by decide)
  have ht1 := lv_neT (a := 1) hs1_1 (by decide)
  have ht2 := lv_neT (a := 2) hs1_2 (by decide)
  refine lv_tableOut (tgt := 73) hx hb dX7_isOfKind_1 (by omega) (by decide) ?_
  refine lv_aload_n hx hb dX7_isOfKind_73 rfl (lv_at hl 0 rfl) ?_
  refine gR (t := 17) hC hw fl_X7_15 ok15 (by decide) ot15_1 dX7_isOfKind_74 ?_
  refine lv_iload_n hx hb dX7_isOfKind_77 rfl (lv_at hl 1 rfl) ?_
  obtain ⟨hi78, h⟩ := gd_some h
  refine lI (j := v1.toNatClampNeg) hC hw ok17 on17 hi78 rfl dX7_isOfKind_78 ?_
  refine lv_iconst (v := ((-1) : Int32)) hx hb dX7_isOfKind_79 (by decide) ?_
  refine lv_icmp_ne (tgt := 87) hx hb dX7_isOfKind_80 (by decide) (fun hc => ?_) (fun hc => ?_)
  · rw [if_neg hc] at h
    refine lv_iconst (v := (0 : Int32)) hx hb dX7_isOfKind_87 (by decide) ?_
    exact B88 (0 : Int32) μ _ _ _ hw (lv_sub hl [] rfl) h
  · rw [if_pos hc] at h
    refine lv_iconst (v := (1 : Int32)) hx hb dX7_isOfKind_83 (by decide) ?_
    refine lv_goto (tgt := 88) hx hb dX7_isOfKind_84 (by decide) ?_
    exact B88 (1 : Int32) μ _ _ _ hw (lv_sub hl [] rfl) h
set_option maxRecDepth 100000 in
set_option maxHeartbeats 4000000 in
theorem c_X7_measure (l : Launch) (g : Gw) (n : Nat) (v1 : Int32) (v2 : Int32) (μ : Mu) (r : Int32 × Mu) (h : X7_measure n v1 v2 μ = some r) : Ct l g yX7_measure cX7_measure 3 (some .int) 2 [.ref (g.2.2 15), .int v1, .int v2] μ (some (.int r.1)) r.2 := by
  rw [X7_measure] at h
  refine Ct.of (by decide) (Nat.le_of_ble_eq_true rfl) ?_
  intro p e s m args below meth c ls hC hw hr hlocks hl
  have hx := hC.1
  have hb := hC.2.1
  have hl : lv_has ls 3 [(0, .ref (g.2.2 15)), (1, .int v1), (2, .int v2)] := hl
  refine lv_iload_n hx hb dX7_measure_0 rfl (lv_at hl 2 rfl) ?_
  by_cases hs1_0 : v2 = (0 : Int32)
  · rw [if_pos hs1_0] at h
    refine lv_lookup (off := 27) (tgt := 28) hx hb dX7_measure_1 (by decide) (by rw [hs1_0]; decide) (by decide) ?_
    refine lv_aload_n hx hb dX7_measure_28 rfl (lv_at hl 0 rfl) ?_
    refine gR (t := 16) hC hw fl_X7_9 ok15 (by decide) ot15_0 dX7_measure_29 ?_
    refine lv_iload_n hx hb dX7_measure_32 rfl (lv_at hl 1 rfl) ?_
    obtain ⟨hi33, h⟩ := gd_some h
    refine lI (j := v1.toNatClampNeg) hC hw ok16 on16 hi33 rfl dX7_measure_33 ?_
    exact rI hC hw hr hlocks (by rw [← Option.some.inj h]) (by rw [← Option.some.inj h]) dX7_measure_34
  rw [if_neg hs1_0] at h
  by_cases hs1_1 : v2 = (1 : Int32)
  · rw [if_pos hs1_1] at h
    refine lv_lookup (off := 34) (tgt := 35) hx hb dX7_measure_1 (by decide) (by rw [hs1_1]; decide) (by decide) ?_
    refine lv_aload_n hx hb dX7_measure_35 rfl (lv_at hl 0 rfl) ?_
    refine gR (t := 16) hC hw fl_X7_9 ok15 (by decide) ot15_0 dX7_measure_36 ?_
    refine lv_iload_n hx hb dX7_measure_39 rfl (lv_at hl 1 rfl) ?_
    obtain ⟨hi40, h⟩ := gd_some h
    refine lI (j := v1.toNatClampNeg) hC hw ok16 on16 hi40 rfl dX7_measure_40 ?_
    refine lv_ineg hx hb dX7_measure_41 ?_
    exact rI hC hw hr hlocks (by rw [← Option.some.inj h]) (by rw [← Option.some.inj h]) dX7_measure_42
  rw [if_neg hs1_1] at h
  refine lv_lookup (off := 42) (tgt := 43) hx hb dX7_measure_1 (by decide) (by rw [lv_osw hs1_0 (by decide), lv_osw hs1_1 (by decide)]; rfl) (by decide) ?_
  refine lv_aload_n hx hb dX7_measure_43 rfl (lv_at hl 0 rfl) ?_
  refine lv_iload_n hx hb dX7_measure_44 rfl (lv_at hl 1 rfl) ?_
  obtain ⟨r45, hr45, h⟩ := bnd h
  refine cV (b := 15) (As := [.int v1]) (rest := []) (st1 := [.int r45.1]) hC hw (c_X7_rankOf l g n v1 μ r45 hr45) ml_X7_148 im_X7_rankOf se_X7_rankOf ok15 (CN := RX7) (T := TX7) (NF := 13) rfl rfl (by decide) rfl hl.1 ⟨Nat.le_of_ble_eq_true rfl, Nat.le_of_ble_eq_true rfl⟩ (Nat.le_of_ble_eq_true rfl) ⟨Nat.zero_le _, Nat.zero_le _⟩ rfl dX7_measure_45 (fun H locs hw => ?_)
  exact rI hC hw hr hlocks (by rw [← Option.some.inj h]) (by rw [← Option.some.inj h]) dX7_measure_48
set_option maxRecDepth 100000 in
set_option maxHeartbeats 4000000 in
theorem c_X7_worthOfTried (l : Launch) (g : Gw) (n : Nat) (v1 : Nat) (v2 : Int32) (μ : Mu) (r : Int32 × Mu) (h : X7_worthOfTried n v1 v2 μ = some r) : Ct l g yX7_worthOfTried cX7_worthOfTried 5 (some .int) 3 [.ref (g.2.2 15), .ref (g.2.2 v1), .int v2] μ (some (.int r.1)) r.2 := by
  rw [X7_worthOfTried] at h
  obtain ⟨hk1, h⟩ := kd_some h
  refine Ct.of (by decide) (Nat.le_of_ble_eq_true rfl) ?_
  intro p e s m args below meth c ls hC hw hr hlocks hl
  have hx := hC.1
  have hb := hC.2.1
  have hl : lv_has ls 5 [(0, .ref (g.2.2 15)), (1, .ref (g.2.2 v1)), (2, .int v2)] := hl
  have B85 : ∀ (s0 : Int32) (s1 : Int32) (μ : Mu) (H : Heap) (locs : List Loc) (ls : Array Slot), wd g μ s (Aw g s.heap.size) H locs → lv_has ls 5 [] → X7_worthOfTried_85 n v1 v2 s0 s1 μ = some r → WQ p l e (rmD 3) s m args below meth c g (some (.int r.1)) r.2 H locs (F0 m 85 ls [.int s1, .int s0]) := by
    intro s0 s1 μ H locs ls hw hl h
    rw [X7_worthOfTried_85] at h
    refine lv_iadd hx hb dX7_worthOfTried_85 ?_
    exact rI hC hw hr hlocks (by rw [← Option.some.inj h]) (by rw [← Option.some.inj h]) dX7_worthOfTried_86
  have B44 : ∀ (v3 : Nat) (v4 : Int32) (s1 : Int32) (μ : Mu) (H : Heap) (locs : List Loc) (ls : Array Slot), wd g μ s (Aw g s.heap.size) H locs → lv_has ls 5 [(0, .ref (g.2.2 15)), (1, .ref (g.2.2 v1)), (2, .int v2), (3, .ref (g.2.2 v3)), (4, .int v4)] → X7_worthOfTried_44 n v1 v2 v3 v4 s1 μ = some r → WQ p l e (rmD 3) s m args below meth c g (some (.int r.1)) r.2 H locs (F0 m 44 ls [.int s1, .ref (g.2.2 15)]) := by
    intro v3 v4 s1 μ H locs ls hw hl h
    rw [X7_worthOfTried_44] at h
    obtain ⟨hqv3_44, h⟩ := kd_some h
    refine pI hC hw fl_X7_151 fp_7_8 ok15 dX7_worthOfTried_44 (fun H locs hw => ?_)
    refine lv_aload_n hx hb dX7_worthOfTried_47 rfl (lv_at hl 0 rfl) ?_
    refine gR (t := 6) hC hw fl_X7_50 ok15 (by decide) ot15_4 dX7_worthOfTried_48 ?_
    refine gR (t := 8) hC hw fl_X7_130 ok6 (by decide) ot6_5 dX7_worthOfTried_51 ?_
    refine lv_iload_n hx hb dX7_worthOfTried_54 rfl (lv_at hl 2 rfl) ?_
    obtain ⟨hi55, h⟩ := gd_some h
    refine lI (j := v2.toNatClampNeg) hC hw ok8 on8 hi55 rfl dX7_worthOfTried_55 ?_
    refine lv_aload_n hx hb dX7_worthOfTried_56 rfl (lv_at hl 3 rfl) ?_
    refine gI hC hw fl_X7_87 hqv3_44 (by decide) dX7_worthOfTried_57 ?_
    refine lv_aload_n hx hb dX7_worthOfTried_60 rfl (lv_at hl 1 rfl) ?_
    refine gI hC hw fl_X7_87 hk1 (by decide) dX7_worthOfTried_61 ?_
    refine lv_icmp_ne (tgt := 77) hx hb dX7_worthOfTried_64 (by decide) (fun hc => ?_) (fun hc => ?_)
    · rw [if_neg hc] at h
      refine lv_aload_n hx hb dX7_worthOfTried_77 rfl (lv_at hl 0 rfl) ?_
      refine gR (t := 16) hC hw fl_X7_9 ok15 (by decide) ot15_0 dX7_worthOfTried_78 ?_
      refine lv_iload hx hb dX7_worthOfTried_81 (lv_at hl 4 rfl) ?_
      obtain ⟨hi83, h⟩ := gd_some h
      refine lI (j := v4.toNatClampNeg) hC hw ok16 on16 hi83 rfl dX7_worthOfTried_83 ?_
      refine lv_ineg hx hb dX7_worthOfTried_84 ?_
      exact B85 ((si μ 15 8 s1).1 8 v2.toNatClampNeg) (-((si μ 15 8 s1).1 16 v4.toNatClampNeg)) (si μ 15 8 s1) _ _ _ hw (lv_sub hl [] rfl) h
    · rw [if_pos hc] at h
      refine lv_aload_n hx hb dX7_worthOfTried_67 rfl (lv_at hl 0 rfl) ?_
      refine gR (t := 16) hC hw fl_X7_9 ok15 (by decide) ot15_0 dX7_worthOfTried_68 ?_
      refine lv_iload hx hb dX7_worthOfTried_71 (lv_at hl 4 rfl) ?_
      obtain ⟨hi73, h⟩ := gd_some h
      refine lI (j := v4.toNatClampNeg) hC hw ok16 on16 hi73 rfl dX7_worthOfTried_73 ?_
      refine lv_goto (tgt := 85) hx hb dX7_worthOfTried_74 (by decide) ?_
      exact B85 ((si μ 15 8 s1).1 8 v2.toNatClampNeg) ((si μ 15 8 s1).1 16 v4.toNatClampNeg) (si μ 15 8 s1) _ _ _ hw (lv_sub hl [] rfl) h
  refine lv_aload_n hx hb dX7_worthOfTried_0 rfl (lv_at hl 0 rfl) ?_
  refine gR (t := 6) hC hw fl_X7_50 ok15 (by decide) ot15_4 dX7_worthOfTried_1 ?_
  refine gR (t := 7) hC hw fl_X7_133 ok6 (by decide) ot6_4 dX7_worthOfTried_4 ?_
  refine lv_iload_n hx hb dX7_worthOfTried_7 rfl (lv_at hl 2 rfl) ?_
  obtain ⟨hi8, h⟩ := gd_some h
  have ha8 : oK (57 + 2 * v2.toNatClampNeg) = 6 := aK7 hi8 rfl
  refine lA (t := (57 + 2 * v2.toNatClampNeg)) (CN := "SowingHouse$Scene") hC hw ok7 (by decide) rfl on7 hi8 (aT7 hi8 rfl) dX7_worthOfTried_8 (by decide) ?_
  refine lv_astore_n (lv' := [(3, .ref (g.2.2 (57 + 2 * v2.toNatClampNeg))), (0, .ref (g.2.2 15)), (1, .ref (g.2.2 v1)), (2, .int v2)]) hx hb dX7_worthOfTried_9 rfl hl (by decide) rfl (fun ls hl => ?_)
  refine lv_aload_n hx hb dX7_worthOfTried_10 rfl (lv_at hl 1 rfl) ?_
  refine lv_aload_n hx hb dX7_worthOfTried_11 rfl (lv_at hl 0 rfl) ?_
  refine lv_aload_n hx hb dX7_worthOfTried_12 rfl (lv_at hl 0 rfl) ?_
  obtain ⟨r13, hr13, h⟩ := bnd h
  refine cV (b := (57 + 2 * v2.toNatClampNeg)) (As := []) (rest := [.ref (g.2.2 (57 + 2 * v2.toNatClampNeg)), .ref (g.2.2 15)]) (st1 := [.int r13.1, .ref (g.2.2 (57 + 2 * v2.toNatClampNeg)), .ref (g.2.2 15)]) hC hw (c_X6_inPits l g n (57 + 2 * v2.toNatClampNeg) μ r13 hr13) ml_X7_145 im_X6_inPits se_X6_inPits ha8 (CN := RX6) (T := TX6) (NF := 2) rfl rfl (by decide) rfl hl.1 ⟨Nat.le_of_ble_eq_true rfl, Nat.le_of_ble_eq_true rfl⟩ (Nat.le_of_ble_eq_true rfl) ⟨Nat.zero_le _, Nat.zero_le _⟩ rfl dX7_worthOfTried_13 (fun H locs hw => ?_)
  obtain ⟨r16, hr16, h⟩ := bnd h
  refine cV (b := 15) (As := [.ref (g.2.2 (57 + 2 * v2.toNatClampNeg)), .int r13.1]) (rest := []) (st1 := [.int r16.1]) hC hw (c_X7_indexAt l g n (57 + 2 * v2.toNatClampNeg) r13.1 r13.2 r16 hr16) ml_X7_137 im_X7_indexAt se_X7_indexAt ok15 (CN := RX7) (T := TX7) (NF := 13) rfl rfl (by decide) rfl hl.1 ⟨Nat.le_of_ble_eq_true rfl, Nat.le_of_ble_eq_true rfl⟩ (Nat.le_of_ble_eq_true rfl) ⟨Nat.zero_le _, Nat.zero_le _⟩ rfl dX7_worthOfTried_16 (fun H locs hw => ?_)
  refine lv_istore (lv' := [(4, .int r16.1), (3, .ref (g.2.2 (57 + 2 * v2.toNatClampNeg))), (0, .ref (g.2.2 15)), (1, .ref (g.2.2 v1)), (2, .int v2)]) hx hb dX7_worthOfTried_19 hl (by decide) rfl (fun ls hl => ?_)
  refine lv_aload_n hx hb dX7_worthOfTried_21 rfl (lv_at hl 2 rfl) ?_
  refine lv_aload_n hx hb dX7_worthOfTried_22 rfl (lv_at hl 2 rfl) ?_
  refine gR (t := 6) hC hw fl_X7_50 ok15 (by decide) ot15_4 dX7_worthOfTried_23 ?_
  refine gR (t := 8) hC hw fl_X7_130 ok6 (by decide) ot6_5 dX7_worthOfTried_26 ?_
  refine lv_iload_n hx hb dX7_worthOfTried_29 rfl (lv_at hl 4 rfl) ?_
  refine lI (j := v2.toNatClampNeg) hC hw ok8 on8 hi8 rfl dX7_worthOfTried_30 ?_
  refine lv_if_le (tgt := 38) hx hb dX7_worthOfTried_31 (by decide) (fun hc => ?_) (fun hc => ?_)
  · rw [if_pos hc] at h
    refine lv_aload_n hx hb dX7_worthOfTried_38 rfl (lv_at hl 2 rfl) ?_
    refine lv_iload hx hb dX7_worthOfTried_39 (lv_at hl 0 rfl) ?_
    obtain ⟨r41, hr41, h⟩ := bnd h
    refine cV (b := 15) (As := [.int r16.1]) (rest := [.ref (g.2.2 15)]) (st1 := [.int r41.1, .ref (g.2.2 15)]) hC hw (c_X7_rankOf l g n r16.1 r16.2 r41 hr41) ml_X7_148 im_X7_rankOf se_X7_rankOf ok15 (CN := RX7) (T := TX7) (NF := 13) rfl rfl (by decide) rfl hl.1 ⟨Nat.le_of_ble_eq_true rfl, Nat.le_of_ble_eq_true rfl⟩ (Nat.le_of_ble_eq_true rfl) ⟨Nat.zero_le _, Nat.zero_le _⟩ rfl dX7_worthOfTried_41 (fun H locs hw => ?_)
    exact B44 (57 + 2 * v2.toNatClampNeg) r16.1 r41.1 r41.2 _ _ _ hw (lv_sub hl [2, 3, 4, 1, 0] rfl) h
  · rw [if_neg hc] at h
    refine lv_iconst (v := (0 : Int32)) hx hb dX7_worthOfTried_34 (by decide) ?_
    refine lv_goto (tgt := 44) hx hb dX7_worthOfTried_35 (by decide) ?_
    exact B44 (57 + 2 * v2.toNatClampNeg) r16.1 (0 : Int32) r16.2 _ _ _ hw (lv_sub hl [2, 3, 4, 1, 0] rfl) h
set_option maxRecDepth 100000 in
set_option maxHeartbeats 4000000 in
theorem c_X8_isOwn (l : Launch) (g : Gw) (n : Nat) (v1 : Nat) (v2 : Int64) (μ : Mu) (r : Int32 × Mu) (h : X8_isOwn n v1 v2 μ = some r) : Ct l g yX8_isOwn cX8_isOwn 6 (some .boolean) 1 [.ref (g.2.2 6), .ref (g.2.2 v1), .long v2] μ (some (.int r.1)) r.2 := by
  rw [X8_isOwn] at h
  obtain ⟨hk1, h⟩ := kd_some h
  refine Ct.of (by decide) (Nat.le_of_ble_eq_true rfl) ?_
  intro p e s m args below meth c ls hC hw hr hlocks hl
  have hx := hC.1
  have hb := hC.2.1
  have hl : lv_has ls 6 [(0, .ref (g.2.2 6)), (1, .ref (g.2.2 v1)), (2, .long v2)] := hl
  have B55 : ∀ (s0 : Int32) (μ : Mu) (H : Heap) (locs : List Loc) (ls : Array Slot), wd g μ s (Aw g s.heap.size) H locs → lv_has ls 6 [] → X8_isOwn_55 n v1 v2 s0 μ = some r → WQ p l e (rmD 1) s m args below meth c g (some (.int r.1)) r.2 H locs (F0 m 55 ls [.int s0]) := by
    intro s0 μ H locs ls hw hl h
    rw [X8_isOwn_55] at h
    obtain ⟨hz55, h⟩ := bz_some h
    exact rZ hC hw hr hlocks hz55 (by rw [← Option.some.inj h]) (by rw [← Option.some.inj h]) dX8_isOwn_55
  have B54 : ∀ (μ : Mu) (H : Heap) (locs : List Loc) (ls : Array Slot), wd g μ s (Aw g s.heap.size) H locs → lv_has ls 6 [] → X8_isOwn_54 n v1 v2  μ = some r → WQ p l e (rmD 1) s m args below meth c g (some (.int r.1)) r.2 H locs (F0 m 54 ls []) := by
    intro μ H locs ls hw hl h
    rw [X8_isOwn_54] at h
    refine lv_iconst (v := (0 : Int32)) hx hb dX8_isOwn_54 (by decide) ?_
    exact B55 (0 : Int32) μ _ _ _ hw (lv_sub hl [] rfl) h
  refine lv_lload_n hx hb dX8_isOwn_0 rfl (lv_at hl 2 rfl) ?_
  refine lv_aload_n hx hb dX8_isOwn_1 rfl (lv_at hl 1 rfl) ?_
  refine gI hC hw fl_X8_30 hk1 (by decide) dX8_isOwn_2 ?_
  refine lv_aload_n hx hb dX8_isOwn_5 rfl (lv_at hl 0 rfl) ?_
  refine gR (t := 1) hC hw fl_X8_21 ok6 (by decide) ot6_6 dX8_isOwn_6 ?_
  refine gI hC hw fl_X8_34 ok1 (by decide) dX8_isOwn_9 ?_
  refine lv_imul hx hb dX8_isOwn_12 ?_
  refine lv_i2l hx hb dX8_isOwn_13 rfl ?_
  refine lv_lsub hx hb dX8_isOwn_14 ?_
  refine lv_lstore (lv' := [(4, .long (v2 - (((μ.1 v1 1) * (μ.1 1 1)).toInt64))), (0, .ref (g.2.2 6)), (1, .ref (g.2.2 v1)), (2, .long v2)]) hx hb dX8_isOwn_15 hl (by decide) rfl (fun ls hl => ?_)
  refine lv_lload hx hb dX8_isOwn_17 (lv_at hl 0 rfl) ?_
  refine lv_lconst (v := (0 : Int64)) hx hb dX8_isOwn_19 (by decide) ?_
  refine W.lcmp hx hb dX8_isOwn_20 ?_
  refine lv_if_lt (tgt := 54) hx hb dX8_isOwn_21 (by decide) (fun hc => ?_) (fun hc => ?_)
  · rw [if_pos hc] at h
    exact B54 μ _ _ _ hw (lv_sub hl [] rfl) h
  · rw [if_neg hc] at h
    refine lv_lload hx hb dX8_isOwn_24 (lv_at hl 0 rfl) ?_
    refine lv_aload_n hx hb dX8_isOwn_26 rfl (lv_at hl 1 rfl) ?_
    refine gR (t := 1) hC hw fl_X8_21 ok6 (by decide) ot6_6 dX8_isOwn_27 ?_
    refine gI hC hw fl_X8_34 ok1 (by decide) dX8_isOwn_30 ?_
    refine lv_i2l hx hb dX8_isOwn_33 rfl ?_
    refine W.lcmp hx hb dX8_isOwn_34 ?_
    refine lv_if_ge (tgt := 54) hx hb dX8_isOwn_35 (by decide) (fun hc => ?_) (fun hc => ?_)
    · rw [if_pos hc] at h
      exact B54 μ _ _ _ hw (lv_sub hl [] rfl) h
    · rw [if_neg hc] at h
      refine lv_aload_n hx hb dX8_isOwn_38 rfl (lv_at hl 1 rfl) ?_
      refine gR (t := 1) hC hw fl_X8_21 ok6 (by decide) ot6_6 dX8_isOwn_39 ?_
      refine lv_lload_n hx hb dX8_isOwn_42 rfl (lv_at hl 3 rfl) ?_
      refine lv_l2i hx hb dX8_isOwn_43 rfl ?_
      obtain ⟨r44, hr44, h⟩ := bnd h
      refine cV (b := 1) (As := [.int (v2.toInt32)]) (rest := []) (st1 := [.int r44.1]) hC hw (c_X5_isLacking l g n 1 (v2.toInt32) μ r44 hr44) ml_X8_39 im_X5_isLacking se_X5_isLacking ok1 (CN := RX5) (T := TX5) (NF := 9) rfl rfl (by decide) rfl hl.1 ⟨Nat.le_of_ble_eq_true rfl, Nat.le_of_ble_eq_true rfl⟩ (Nat.le_of_ble_eq_true rfl) ⟨Nat.zero_le _, Nat.zero_le _⟩ rfl dX8_isOwn_44 (fun H locs hw => ?_)
      refine lv_if_ne (tgt := 54) hx hb dX8_isOwn_47 (by decide) (fun hc => ?_) (fun hc => ?_)
      · rw [if_neg hc] at h
        exact B54 r44.2 _ _ _ hw (lv_sub hl [] rfl) h
      · rw [if_pos hc] at h
        refine lv_iconst (v := (1 : Int32)) hx hb dX8_isOwn_50 (by decide) ?_
        refine lv_goto (tgt := 55) hx hb dX8_isOwn_51 (by decide) ?_
        exact B55 (1 : Int32) r44.2 _ _ _ hw (lv_sub hl [] rfl) h
