set_option maxRecDepth 100000 in
set_option maxHeartbeats 4000000 in
theorem c_X12_betters (l : Launch) (g : Gw) (n : Nat) (v1 : Int32) (v2 : Int32) (v3 : Int32) (μ : Mu) (r : Int32 × Mu) (h : X12_betters n v1 v2 v3 μ = some r) : Ct l g yX12_betters cX12_betters 7 (some .boolean) 1 [.ref (g.2.2 171), .int v1, .int v2, .int v3] μ (some (.int r.1)) r.2 := by
  rw [X12_betters] at h
  refine Ct.of (by decide) (Nat.le_of_ble_eq_true rfl) ?_
  intro p e s m args below meth c ls hC hw hr hlocks hl
  have hx := hC.1
  have hb := hC.2.1
  have hl : lv_has ls 7 [(0, .ref (g.2.2 171)), (1, .int v1), (2, .int v2), (3, .int v3)] := hl
  have B19 : ∀ (k : Nat), ∀ (v4 : Int32) (v5 : Int32) (μ : Mu) (H : Heap) (locs : List Loc) (ls : Array Slot), wd g μ s (Aw g s.heap.size) H locs → lv_has ls 7 [(0, .ref (g.2.2 171)), (1, .int v1), (3, .int v3), (4, .int v4), (5, .int v5)] → lpF (fun _ _ _ => none) (X12_betters_19b n v1 v2 v3) k v4 v5 μ = some r → WQ p l e (rmD 1) s m args below meth c g (some (.int r.1)) r.2 H locs (F0 m 19 ls []) := by
    intro k
    induction k with
    | zero =>
      intro v4 v5 μ H locs ls hw hl h
      cases h
    | succ k ih19 =>
      rw [lpF_s]
      generalize lpF (fun _ _ _ => none) (X12_betters_19b n v1 v2 v3) k = k19 at ih19 ⊢
      intro v4 v5 μ H locs ls hw hl h
      have B93 : ∀ (v4 : Int32) (v5 : Int32) (μ : Mu) (H : Heap) (locs : List Loc) (ls : Array Slot), wd g μ s (Aw g s.heap.size) H locs → lv_has ls 7 [(0, .ref (g.2.2 171)), (1, .int v1), (3, .int v3), (4, .int v4), (5, .int v5)] → X12_betters_93 n v1 v2 v3 k19 v4 v5 μ = some r → WQ p l e (rmD 1) s m args below meth c g (some (.int r.1)) r.2 H locs (F0 m 93 ls []) := by
        intro v4 v5 μ H locs ls hw hl h
        rw [X12_betters_93] at h
        refine lv_iinc (v := (v5 + (1 : Int32))) (lv' := [(5, .int (v5 + (1 : Int32))), (0, .ref (g.2.2 171)), (1, .int v1), (3, .int v3), (4, .int v4)]) hx hb dX12_betters_93 hl (k := 4) rfl rfl (by decide) rfl (fun ls hl => ?_)
        refine lv_goto (tgt := 19) hx hb dX12_betters_96 (by decide) ?_
        exact ih19 v4 (v5 + (1 : Int32)) μ _ _ _ hw (lv_sub hl [1, 2, 3, 4, 0] rfl) h
      have B85 : ∀ (v5 : Int32) (s0 : Int32) (s2 : Int32) (s3 : Int32) (s4 : Nat) (μ : Mu) (H : Heap) (locs : List Loc) (ls : Array Slot), wd g μ s (Aw g s.heap.size) H locs → lv_has ls 7 [(0, .ref (g.2.2 171)), (1, .int v1), (3, .int v3), (5, .int v5)] → X12_betters_85 n v1 v2 v3 k19 v5 s0 s2 s3 s4 μ = some r → WQ p l e (rmD 1) s m args below meth c g (some (.int r.1)) r.2 H locs (F0 m 85 ls [.ref (g.2.2 s4), .int s3, .int s2, .ref (g.2.2 171), .int s0]) := by
        intro v5 s0 s2 s3 s4 μ H locs ls hw hl h
        rw [X12_betters_85] at h
        obtain ⟨hqs4_85, h⟩ := kd_some h
        obtain ⟨r85, hr85, h⟩ := bnd h
        refine cV (b := 171) (As := [.int s2, .int s3, .ref (g.2.2 s4)]) (rest := [.int s0]) (st1 := [.int r85.1, .int s0]) hC hw (c_X12_worthOf l g n s2 s3 s4 μ r85 hr85) ml_X12_398 im_X12_worthOf se_X12_worthOf ok171 (CN := RX12) (T := TX12) (NF := 54) rfl rfl (by decide) rfl hl.1 ⟨Nat.le_of_ble_eq_true rfl, Nat.le_of_ble_eq_true rfl⟩ (Nat.le_of_ble_eq_true rfl) ⟨Nat.zero_le _, Nat.zero_le _⟩ rfl dX12_betters_85 (fun H locs hw => ?_)
        refine va_mmax (rest := []) hx hb (hC.2.2.1.trans hl.1.symm) hC.2.2.2.1 (hC.2.2.2.2.1 _ mm_X12_402) (hC.2.2.2.2.1 _ mw_max.1) (hC.2.2.2.2.1 _ mw_max.2.1) (hC.2.2.2.2.1 _ mw_max.2.2) (Nat.le_of_ble_eq_true rfl) (Nat.le_of_ble_eq_true rfl) (Nat.zero_le _) (Nat.zero_le _) dX12_betters_88 ?_
        refine lv_istore (lv' := [(4, .int (if s0 < r85.1 then r85.1 else s0)), (0, .ref (g.2.2 171)), (1, .int v1), (3, .int v3), (5, .int v5)]) hx hb dX12_betters_91 hl (by decide) rfl (fun ls hl => ?_)
        exact B93 (if s0 < r85.1 then r85.1 else s0) v5 r85.2 _ _ _ hw (lv_sub hl [1, 2, 3, 0, 4] rfl) h
      rw [X12_betters_19b] at h
      refine lv_iload hx hb dX12_betters_19 (lv_at hl 4 rfl) ?_
      refine lv_aload_n hx hb dX12_betters_21 rfl (lv_at hl 0 rfl) ?_
      refine gR (t := 172) hC hw fl_X12_9 ok171 (by decide) ot171_0 dX12_betters_22 ?_
      refine lv_iconst (v := (1 : Int32)) hx hb dX12_betters_25 (by decide) ?_
      refine lI (j := 1) hC hw ok172 on172 (vin (by decide)) (by decide) dX12_betters_26 ?_
      refine lv_icmp_ge (tgt := 99) hx hb dX12_betters_27 (by decide) (fun hc => ?_) (fun hc => ?_)
      · rw [if_pos hc] at h
        refine lv_iload hx hb dX12_betters_99 (lv_at hl 3 rfl) ?_
        refine lv_aload_n hx hb dX12_betters_101 rfl (lv_at hl 0 rfl) ?_
        refine gR (t := 184) hC hw fl_X12_51 ok171 (by decide) ot171_32 dX12_betters_102 ?_
        refine lv_iload_n hx hb dX12_betters_105 rfl (lv_at hl 1 rfl) ?_
        obtain ⟨hi106, h⟩ := gd_some h
        refine lI (j := v1.toNatClampNeg) hC hw ok184 on184 hi106 rfl dX12_betters_106 ?_
        refine lv_icmp_ne (tgt := 112) hx hb dX12_betters_107 (by decide) (fun hc => ?_) (fun hc => ?_)
        · rw [if_neg hc] at h
          refine lv_aload_n hx hb dX12_betters_112 rfl (lv_at hl 0 rfl) ?_
          refine gR (t := 184) hC hw fl_X12_51 ok171 (by decide) ot171_32 dX12_betters_113 ?_
          refine lv_iload_n hx hb dX12_betters_116 rfl (lv_at hl 1 rfl) ?_
          refine lv_iload hx hb dX12_betters_117 (lv_at hl 3 rfl) ?_
          refine sI (j := v1.toNatClampNeg) hC hw ok184 on184 hi106 rfl dX12_betters_119 (fun H locs hw => ?_)
          refine lv_aload_n hx hb dX12_betters_120 rfl (lv_at hl 0 rfl) ?_
          refine gR (t := 185) hC hw fl_X12_54 ok171 (by decide) ot171_33 dX12_betters_121 ?_
          refine lv_iload_n hx hb dX12_betters_124 rfl (lv_at hl 1 rfl) ?_
          refine lv_iload_n hx hb dX12_betters_125 rfl (lv_at hl 2 rfl) ?_
          refine sI (j := v1.toNatClampNeg) hC hw ok185 on185 hi106 rfl dX12_betters_126 (fun H locs hw => ?_)
          refine lv_iconst (v := (1 : Int32)) hx hb dX12_betters_127 (by decide) ?_
          exact rZ hC hw hr hlocks (Or.inr rfl) (by rw [← Option.some.inj h]) (by rw [← Option.some.inj h]) dX12_betters_128
        · rw [if_pos hc] at h
          refine lv_iconst (v := (0 : Int32)) hx hb dX12_betters_110 (by decide) ?_
          exact rZ hC hw hr hlocks (Or.inl rfl) (by rw [← Option.some.inj h]) (by rw [← Option.some.inj h]) dX12_betters_111
      · rw [if_neg hc] at h
        refine lv_aload_n hx hb dX12_betters_30 rfl (lv_at hl 0 rfl) ?_
        refine gR (t := 187) hC hw fl_X12_61 ok171 (by decide) ot171_35 dX12_betters_31 ?_
        refine lv_bipush (v := (6 : Int32)) hx hb dX12_betters_34 (by decide) ?_
        refine lv_iload_n hx hb dX12_betters_36 rfl (lv_at hl 1 rfl) ?_
        refine lv_imul hx hb dX12_betters_37 ?_
        refine lv_iload hx hb dX12_betters_38 (lv_at hl 4 rfl) ?_
        refine lv_iadd hx hb dX12_betters_40 ?_
        obtain ⟨hi41, h⟩ := gd_some h
        refine lI (j := (((6 : Int32) * v1) + v5).toNatClampNeg) hC hw ok187 on187 hi41 rfl dX12_betters_41 ?_
        refine lv_istore (lv' := [(6, .int (μ.1 187 (((6 : Int32) * v1) + v5).toNatClampNeg)), (0, .ref (g.2.2 171)), (1, .int v1), (3, .int v3), (4, .int v4), (5, .int v5)]) hx hb dX12_betters_42 hl (by decide) rfl (fun ls hl => ?_)
        refine lv_iload hx hb dX12_betters_44 (lv_at hl 0 rfl) ?_
        refine lv_iconst (v := ((-1) : Int32)) hx hb dX12_betters_46 (by decide) ?_
        refine lv_icmp_ne (tgt := 53) hx hb dX12_betters_47 (by decide) (fun hc => ?_) (fun hc => ?_)
        · rw [if_neg hc] at h
          refine lv_iload hx hb dX12_betters_53 (lv_at hl 4 rfl) ?_
          refine lv_aload_n hx hb dX12_betters_55 rfl (lv_at hl 1 rfl) ?_
          refine lv_iload_n hx hb dX12_betters_56 rfl (lv_at hl 2 rfl) ?_
          refine lv_iload hx hb dX12_betters_57 (lv_at hl 5 rfl) ?_
          refine lv_aload_n hx hb dX12_betters_59 rfl (lv_at hl 1 rfl) ?_
          refine gR (t := 188) hC hw fl_X12_64 ok171 (by decide) ot171_36 dX12_betters_60 ?_
          refine lv_bipush (v := (6 : Int32)) hx hb dX12_betters_63 (by decide) ?_
          refine lv_iload_n hx hb dX12_betters_65 rfl (lv_at hl 2 rfl) ?_
          refine lv_imul hx hb dX12_betters_66 ?_
          refine lv_iload hx hb dX12_betters_67 (lv_at hl 5 rfl) ?_
          refine lv_iadd hx hb dX12_betters_69 ?_
          refine lI (j := (((6 : Int32) * v1) + v5).toNatClampNeg) hC hw ok188 on188 hi41 rfl dX12_betters_70 ?_
          refine lv_if_le (tgt := 81) hx hb dX12_betters_71 (by decide) (fun hc => ?_) (fun hc => ?_)
          · rw [if_pos hc] at h
            refine lv_aload_n hx hb dX12_betters_81 rfl (lv_at hl 1 rfl) ?_
            refine gR (t := 186) hC hw fl_X12_57 ok171 (by decide) ot171_34 dX12_betters_82 ?_
            exact B85 v5 v4 v1 v5 186 μ _ _ _ hw (lv_sub hl [1, 2, 3, 5] rfl) h
          · rw [if_neg hc] at h
            refine lv_aload_n hx hb dX12_betters_74 rfl (lv_at hl 1 rfl) ?_
            refine gR (t := 184) hC hw fl_X12_51 ok171 (by decide) ot171_32 dX12_betters_75 ?_
            refine lv_goto (tgt := 85) hx hb dX12_betters_78 (by decide) ?_
            exact B85 v5 v4 v1 v5 184 μ _ _ _ hw (lv_sub hl [1, 2, 3, 5] rfl) h
        · rw [if_pos hc] at h
          refine lv_goto (tgt := 93) hx hb dX12_betters_50 (by decide) ?_
          exact B93 v4 v5 μ _ _ _ hw (lv_sub hl [1, 2, 3, 4, 5] rfl) h
  refine lv_aload_n hx hb dX12_betters_0 rfl (lv_at hl 0 rfl) ?_
  refine gR (t := 190) hC hw fl_X12_70 ok171 (by decide) ot171_38 dX12_betters_1 ?_
  refine lv_iload_n hx hb dX12_betters_4 rfl (lv_at hl 1 rfl) ?_
  obtain ⟨hi5, h⟩ := gd_some h
  refine lZ (j := v1.toNatClampNeg) hC hw ok190 on190 hi5 rfl dX12_betters_5 ?_
  refine lv_if_eq (tgt := 11) hx hb dX12_betters_6 (by decide) (fun hc => ?_) (fun hc => ?_)
  · rw [if_pos hc] at h
    refine lv_sipush (v := ((-1000) : Int32)) hx hb dX12_betters_11 (by decide) ?_
    refine lv_istore (lv' := [(4, .int ((-1000) : Int32)), (0, .ref (g.2.2 171)), (1, .int v1), (2, .int v2), (3, .int v3)]) hx hb dX12_betters_14 hl (by decide) rfl (fun ls hl => ?_)
    refine lv_iconst (v := (0 : Int32)) hx hb dX12_betters_16 (by decide) ?_
    refine lv_istore (lv' := [(5, .int (0 : Int32)), (4, .int ((-1000) : Int32)), (0, .ref (g.2.2 171)), (1, .int v1), (2, .int v2), (3, .int v3)]) hx hb dX12_betters_17 hl (by decide) rfl (fun ls hl => ?_)
    exact B19 n ((-1000) : Int32) (0 : Int32) μ _ _ _ hw (lv_sub hl [2, 3, 5, 1, 0] rfl) h
  · rw [if_neg hc] at h
    refine lv_iconst (v := (0 : Int32)) hx hb dX12_betters_9 (by decide) ?_
    exact rZ hC hw hr hlocks (Or.inl rfl) (by rw [← Option.some.inj h]) (by rw [← Option.some.inj h]) dX12_betters_10
set_option maxRecDepth 100000 in
set_option maxHeartbeats 4000000 in
theorem c_X12_seatNow (l : Launch) (g : Gw) (n : Nat) (μ : Mu) (r : Int32 × Mu) (h : X12_seatNow n  μ = some r) : Ct l g yX12_seatNow cX12_seatNow 1 (some .int) 3 [.ref (g.2.2 171)] μ (some (.int r.1)) r.2 := by
  rw [X12_seatNow] at h
  refine Ct.of (by decide) (Nat.le_of_ble_eq_true rfl) ?_
  intro p e s m args below meth c ls hC hw hr hlocks hl
  have hx := hC.1
  have hb := hC.2.1
  have hl : lv_has ls 1 [(0, .ref (g.2.2 171))] := hl
  refine lv_aload_n hx hb dX12_seatNow_0 rfl (lv_at hl 0 rfl) ?_
  obtain ⟨r1, hr1, h⟩ := bnd h
  refine cV (b := 171) (As := []) (rest := []) (st1 := []) hC hw (c_X12_takesUp l g n μ r1 hr1) ml_X12_293 im_X12_takesUp se_X12_takesUp ok171 (CN := RX12) (T := TX12) (NF := 54) rfl rfl (by decide) rfl hl.1 ⟨Nat.le_of_ble_eq_true rfl, Nat.le_of_ble_eq_true rfl⟩ (Nat.le_of_ble_eq_true rfl) ⟨Nat.zero_le _, Nat.zero_le _⟩ rfl dX12_seatNow_1 (fun H locs hw => ?_)
  refine lv_aload_n hx hb dX12_seatNow_4 rfl (lv_at hl 0 rfl) ?_
  refine lv_aload_n hx hb dX12_seatNow_5 rfl (lv_at hl 0 rfl) ?_
  refine gR (t := 172) hC hw fl_X12_9 ok171 (by decide) ot171_0 dX12_seatNow_6 ?_
  refine lv_iconst (v := (2 : Int32)) hx hb dX12_seatNow_9 (by decide) ?_
  refine lI (j := 2) hC hw ok172 on172 (vin (by decide)) (by decide) dX12_seatNow_10 ?_
  refine lv_aload_n hx hb dX12_seatNow_11 rfl (lv_at hl 0 rfl) ?_
  obtain ⟨r12, hr12, h⟩ := bnd h
  refine cV (b := 171) (As := []) (rest := [.int (r1.2.1 172 2), .ref (g.2.2 171)]) (st1 := [.int r12.1, .int (r1.2.1 172 2), .ref (g.2.2 171)]) hC hw (c_X12_seedsNow l g n r1.2 r12 hr12) ml_X12_365 im_X12_seedsNow se_X12_seedsNow ok171 (CN := RX12) (T := TX12) (NF := 54) rfl rfl (by decide) rfl hl.1 ⟨Nat.le_of_ble_eq_true rfl, Nat.le_of_ble_eq_true rfl⟩ (Nat.le_of_ble_eq_true rfl) ⟨Nat.zero_le _, Nat.zero_le _⟩ rfl dX12_seatNow_12 (fun H locs hw => ?_)
  refine lv_aload_n hx hb dX12_seatNow_15 rfl (lv_at hl 0 rfl) ?_
  refine lv_aload_n hx hb dX12_seatNow_16 rfl (lv_at hl 0 rfl) ?_
  refine gR (t := 172) hC hw fl_X12_9 ok171 (by decide) ot171_0 dX12_seatNow_17 ?_
  refine lv_iconst (v := (2 : Int32)) hx hb dX12_seatNow_20 (by decide) ?_
  refine lI (j := 2) hC hw ok172 on172 (vin (by decide)) (by decide) dX12_seatNow_21 ?_
  obtain ⟨r22, hr22, h⟩ := bnd h
  refine cV (b := 171) (As := [.int (r12.2.1 172 2)]) (rest := [.int r12.1, .int (r1.2.1 172 2), .ref (g.2.2 171)]) (st1 := [.int r22.1, .int r12.1, .int (r1.2.1 172 2), .ref (g.2.2 171)]) hC hw (c_X12_numberOf l g n (r12.2.1 172 2) r12.2 r22 hr22) ml_X12_368 im_X12_numberOf se_X12_numberOf ok171 (CN := RX12) (T := TX12) (NF := 54) rfl rfl (by decide) rfl hl.1 ⟨Nat.le_of_ble_eq_true rfl, Nat.le_of_ble_eq_true rfl⟩ (Nat.le_of_ble_eq_true rfl) ⟨Nat.zero_le _, Nat.zero_le _⟩ rfl dX12_seatNow_22 (fun H locs hw => ?_)
  obtain ⟨r25, hr25, h⟩ := bnd h
  refine cV (b := 171) (As := [.int (r1.2.1 172 2), .int r12.1, .int r22.1]) (rest := []) (st1 := [.int r25.1]) hC hw (c_X12_seat l g n (r1.2.1 172 2) r12.1 r22.1 r22.2 r25 hr25) ml_X12_384 im_X12_seat se_X12_seat ok171 (CN := RX12) (T := TX12) (NF := 54) rfl rfl (by decide) rfl hl.1 ⟨Nat.le_of_ble_eq_true rfl, Nat.le_of_ble_eq_true rfl⟩ (Nat.le_of_ble_eq_true rfl) ⟨Nat.zero_le _, Nat.zero_le _⟩ rfl dX12_seatNow_25 (fun H locs hw => ?_)
  exact rI hC hw hr hlocks (by rw [← Option.some.inj h]) (by rw [← Option.some.inj h]) dX12_seatNow_28
set_option maxRecDepth 100000 in
set_option maxHeartbeats 4000000 in
theorem c_X12_bestAt (l : Launch) (g : Gw) (n : Nat) (v1 : Int32) (μ : Mu) (r : Int32 × Mu) (h : X12_bestAt n v1 μ = some r) : Ct l g yX12_bestAt cX12_bestAt 7 (some .int) 1 [.ref (g.2.2 171), .int v1] μ (some (.int r.1)) r.2 := by
  rw [X12_bestAt] at h
  refine Ct.of (by decide) (Nat.le_of_ble_eq_true rfl) ?_
  intro p e s m args below meth c ls hC hw hr hlocks hl
  have hx := hC.1
  have hb := hC.2.1
  have hl : lv_has ls 7 [(0, .ref (g.2.2 171)), (1, .int v1)] := hl
  have B124 : ∀ (v2 : Int32) (μ : Mu) (H : Heap) (locs : List Loc) (ls : Array Slot), wd g μ s (Aw g s.heap.size) H locs → lv_has ls 7 [(2, .int v2)] → X12_bestAt_124 n v1 v2 μ = some r → WQ p l e (rmD 1) s m args below meth c g (some (.int r.1)) r.2 H locs (F0 m 124 ls []) := by
    intro v2 μ H locs ls hw hl h
    rw [X12_bestAt_124] at h
    refine lv_iload_n hx hb dX12_bestAt_124 rfl (lv_at hl 0 rfl) ?_
    exact rI hC hw hr hlocks (by rw [← Option.some.inj h]) (by rw [← Option.some.inj h]) dX12_bestAt_125
  have B7 : ∀ (k : Nat), ∀ (v2 : Int32) (v3 : Int32) (v4 : Int32) (μ : Mu) (H : Heap) (locs : List Loc) (ls : Array Slot), wd g μ s (Aw g s.heap.size) H locs → lv_has ls 7 [(0, .ref (g.2.2 171)), (1, .int v1), (2, .int v2), (3, .int v3), (4, .int v4)] → lpF (fun _ _ _ _ => none) (X12_bestAt_7b n v1) k v2 v3 v4 μ = some r → WQ p l e (rmD 1) s m args below meth c g (some (.int r.1)) r.2 H locs (F0 m 7 ls []) := by
    intro k
    induction k with
    | zero =>
      intro v2 v3 v4 μ H locs ls hw hl h
      cases h
    | succ k ih7 =>
      rw [lpF_s]
      generalize lpF (fun _ _ _ _ => none) (X12_bestAt_7b n v1) k = k7 at ih7 ⊢
      intro v2 v3 v4 μ H locs ls hw hl h
      have B118 : ∀ (v2 : Int32) (v3 : Int32) (v4 : Int32) (μ : Mu) (H : Heap) (locs : List Loc) (ls : Array Slot), wd g μ s (Aw g s.heap.size) H locs → lv_has ls 7 [(0, .ref (g.2.2 171)), (1, .int v1), (2, .int v2), (3, .int v3), (4, .int v4)] → X12_bestAt_118 n v1 k7 v2 v3 v4 μ = some r → WQ p l e (rmD 1) s m args below meth c g (some (.int r.1)) r.2 H locs (F0 m 118 ls []) := by
        intro v2 v3 v4 μ H locs ls hw hl h
        rw [X12_bestAt_118] at h
        refine lv_iinc (v := (v4 + (1 : Int32))) (lv' := [(4, .int (v4 + (1 : Int32))), (0, .ref (g.2.2 171)), (1, .int v1), (2, .int v2), (3, .int v3)]) hx hb dX12_bestAt_118 hl (k := 4) rfl rfl (by decide) rfl (fun ls hl => ?_)
        refine lv_goto (tgt := 7) hx hb dX12_bestAt_121 (by decide) ?_
        exact ih7 v2 v3 (v4 + (1 : Int32)) μ _ _ _ hw (lv_sub hl [1, 2, 3, 4, 0] rfl) h
      have B112 : ∀ (v4 : Int32) (v6 : Int32) (μ : Mu) (H : Heap) (locs : List Loc) (ls : Array Slot), wd g μ s (Aw g s.heap.size) H locs → lv_has ls 7 [(0, .ref (g.2.2 171)), (1, .int v1), (4, .int v4), (6, .int v6)] → X12_bestAt_112 n v1 k7 v4 v6 μ = some r → WQ p l e (rmD 1) s m args below meth c g (some (.int r.1)) r.2 H locs (F0 m 112 ls []) := by
        intro v4 v6 μ H locs ls hw hl h
        rw [X12_bestAt_112] at h
        refine lv_iload hx hb dX12_bestAt_112 (lv_at hl 2 rfl) ?_
        refine lv_istore_n (lv' := [(2, .int v4), (0, .ref (g.2.2 171)), (1, .int v1), (4, .int v4), (6, .int v6)]) hx hb dX12_bestAt_114 rfl hl (by decide) rfl (fun ls hl => ?_)
        refine lv_iload hx hb dX12_bestAt_115 (lv_at hl 4 rfl) ?_
        refine lv_istore_n (lv' := [(3, .int v6), (2, .int v4), (0, .ref (g.2.2 171)), (1, .int v1), (4, .int v4), (6, .int v6)]) hx hb dX12_bestAt_117 rfl hl (by decide) rfl (fun ls hl => ?_)
        exact B118 v4 v6 v4 μ _ _ _ hw (lv_sub hl [2, 3, 1, 0, 4] rfl) h
      have B96 : ∀ (v2 : Int32) (v3 : Int32) (v4 : Int32) (s0 : Int32) (μ : Mu) (H : Heap) (locs : List Loc) (ls : Array Slot), wd g μ s (Aw g s.heap.size) H locs → lv_has ls 7 [(0, .ref (g.2.2 171)), (1, .int v1), (2, .int v2), (3, .int v3), (4, .int v4)] → X12_bestAt_96 n v1 k7 v2 v3 v4 s0 μ = some r → WQ p l e (rmD 1) s m args below meth c g (some (.int r.1)) r.2 H locs (F0 m 96 ls [.int s0]) := by
        intro v2 v3 v4 s0 μ H locs ls hw hl h
        rw [X12_bestAt_96] at h
        refine lv_istore (lv' := [(6, .int s0), (0, .ref (g.2.2 171)), (1, .int v1), (2, .int v2), (3, .int v3), (4, .int v4)]) hx hb dX12_bestAt_96 hl (by decide) rfl (fun ls hl => ?_)
        refine lv_iload_n hx hb dX12_bestAt_98 rfl (lv_at hl 3 rfl) ?_
        refine lv_iconst (v := ((-1) : Int32)) hx hb dX12_bestAt_99 (by decide) ?_
        refine lv_icmp_eq (tgt := 112) hx hb dX12_bestAt_100 (by decide) (fun hc => ?_) (fun hc => ?_)
        · rw [if_pos hc] at h
          exact B112 v4 s0 μ _ _ _ hw (lv_sub hl [1, 2, 5, 0] rfl) h
        · rw [if_neg hc] at h
          refine lv_iload hx hb dX12_bestAt_103 (lv_at hl 0 rfl) ?_
          refine lv_iload_n hx hb dX12_bestAt_105 rfl (lv_at hl 4 rfl) ?_
          refine lv_icmp_lt (tgt := 112) hx hb dX12_bestAt_106 (by decide) (fun hc => ?_) (fun hc => ?_)
          · rw [if_pos hc] at h
            exact B112 v4 s0 μ _ _ _ hw (lv_sub hl [1, 2, 5, 0] rfl) h
          · rw [if_neg hc] at h
            refine lv_goto (tgt := 118) hx hb dX12_bestAt_109 (by decide) ?_
            exact B118 v2 v3 v4 μ _ _ _ hw (lv_sub hl [1, 2, 3, 4, 5] rfl) h
      rw [X12_bestAt_7b] at h
      refine lv_iload hx hb dX12_bestAt_7 (lv_at hl 4 rfl) ?_
      refine lv_aload_n hx hb dX12_bestAt_9 rfl (lv_at hl 0 rfl) ?_
      refine gR (t := 172) hC hw fl_X12_9 ok171 (by decide) ot171_0 dX12_bestAt_10 ?_
      refine lv_iconst (v := (1 : Int32)) hx hb dX12_bestAt_13 (by decide) ?_
      refine lI (j := 1) hC hw ok172 on172 (vin (by decide)) (by decide) dX12_bestAt_14 ?_
      refine lv_icmp_ge (tgt := 124) hx hb dX12_bestAt_15 (by decide) (fun hc => ?_) (fun hc => ?_)
      · rw [if_pos hc] at h
        exact B124 v2 μ _ _ _ hw (lv_sub hl [2] rfl) h
      · rw [if_neg hc] at h
        refine lv_aload_n hx hb dX12_bestAt_18 rfl (lv_at hl 0 rfl) ?_
        refine gR (t := 190) hC hw fl_X12_70 ok171 (by decide) ot171_38 dX12_bestAt_19 ?_
        refine lv_iload_n hx hb dX12_bestAt_22 rfl (lv_at hl 1 rfl) ?_
        obtain ⟨hi23, h⟩ := gd_some h
        refine lZ (j := v1.toNatClampNeg) hC hw ok190 on190 hi23 rfl dX12_bestAt_23 ?_
        refine lv_if_ne (tgt := 124) hx hb dX12_bestAt_24 (by decide) (fun hc => ?_) (fun hc => ?_)
        · rw [if_neg hc] at h
          exact B124 v2 μ _ _ _ hw (lv_sub hl [2] rfl) h
        · rw [if_pos hc] at h
          refine lv_aload_n hx hb dX12_bestAt_27 rfl (lv_at hl 0 rfl) ?_
          refine gR (t := 187) hC hw fl_X12_61 ok171 (by decide) ot171_35 dX12_bestAt_28 ?_
          refine lv_bipush (v := (6 : Int32)) hx hb dX12_bestAt_31 (by decide) ?_
          refine lv_iload_n hx hb dX12_bestAt_33 rfl (lv_at hl 1 rfl) ?_
          refine lv_imul hx hb dX12_bestAt_34 ?_
          refine lv_iload hx hb dX12_bestAt_35 (lv_at hl 4 rfl) ?_
          refine lv_iadd hx hb dX12_bestAt_37 ?_
          obtain ⟨hi38, h⟩ := gd_some h
          refine lI (j := (((6 : Int32) * v1) + v4).toNatClampNeg) hC hw ok187 on187 hi38 rfl dX12_bestAt_38 ?_
          refine lv_istore (lv' := [(5, .int (μ.1 187 (((6 : Int32) * v1) + v4).toNatClampNeg)), (0, .ref (g.2.2 171)), (1, .int v1), (2, .int v2), (3, .int v3), (4, .int v4)]) hx hb dX12_bestAt_39 hl (by decide) rfl (fun ls hl => ?_)
          refine lv_iload hx hb dX12_bestAt_41 (lv_at hl 0 rfl) ?_
          refine lv_iconst (v := ((-1) : Int32)) hx hb dX12_bestAt_43 (by decide) ?_
          refine lv_icmp_eq (tgt := 118) hx hb dX12_bestAt_44 (by decide) (fun hc => ?_) (fun hc => ?_)
          · rw [if_pos hc] at h
            exact B118 v2 v3 v4 μ _ _ _ hw (lv_sub hl [1, 2, 3, 4, 5] rfl) h
          · rw [if_neg hc] at h
            refine lv_aload_n hx hb dX12_bestAt_47 rfl (lv_at hl 1 rfl) ?_
            refine lv_iload_n hx hb dX12_bestAt_48 rfl (lv_at hl 2 rfl) ?_
            refine lv_iload hx hb dX12_bestAt_49 (lv_at hl 5 rfl) ?_
            refine lv_aload_n hx hb dX12_bestAt_51 rfl (lv_at hl 1 rfl) ?_
            refine gR (t := 184) hC hw fl_X12_51 ok171 (by decide) ot171_32 dX12_bestAt_52 ?_
            obtain ⟨r55, hr55, h⟩ := bnd h
            refine cV (b := 171) (As := [.int v1, .int v4, .ref (g.2.2 184)]) (rest := []) (st1 := [.int r55.1]) hC hw (c_X12_worthOf l g n v1 v4 184 μ r55 hr55) ml_X12_398 im_X12_worthOf se_X12_worthOf ok171 (CN := RX12) (T := TX12) (NF := 54) rfl rfl (by decide) rfl hl.1 ⟨Nat.le_of_ble_eq_true rfl, Nat.le_of_ble_eq_true rfl⟩ (Nat.le_of_ble_eq_true rfl) ⟨Nat.zero_le _, Nat.zero_le _⟩ rfl dX12_bestAt_55 (fun H locs hw => ?_)
            refine lv_aload_n hx hb dX12_bestAt_58 rfl (lv_at hl 1 rfl) ?_
            refine gR (t := 184) hC hw fl_X12_51 ok171 (by decide) ot171_32 dX12_bestAt_59 ?_
            refine lv_iload_n hx hb dX12_bestAt_62 rfl (lv_at hl 2 rfl) ?_
            refine lI (j := v1.toNatClampNeg) hC hw ok184 on184 hi23 rfl dX12_bestAt_63 ?_
            refine lv_icmp_eq (tgt := 70) hx hb dX12_bestAt_64 (by decide) (fun hc => ?_) (fun hc => ?_)
            · rw [if_pos hc] at h
              refine lv_aload_n hx hb dX12_bestAt_70 rfl (lv_at hl 1 rfl) ?_
              refine gR (t := 188) hC hw fl_X12_64 ok171 (by decide) ot171_36 dX12_bestAt_71 ?_
              refine lv_bipush (v := (6 : Int32)) hx hb dX12_bestAt_74 (by decide) ?_
              refine lv_iload_n hx hb dX12_bestAt_76 rfl (lv_at hl 2 rfl) ?_
              refine lv_imul hx hb dX12_bestAt_77 ?_
              refine lv_iload hx hb dX12_bestAt_78 (lv_at hl 5 rfl) ?_
              refine lv_iadd hx hb dX12_bestAt_80 ?_
              refine lI (j := (((6 : Int32) * v1) + v4).toNatClampNeg) hC hw ok188 on188 hi38 rfl dX12_bestAt_81 ?_
              refine lv_if_le (tgt := 89) hx hb dX12_bestAt_82 (by decide) (fun hc => ?_) (fun hc => ?_)
              · rw [if_pos hc] at h
                refine lv_aload_n hx hb dX12_bestAt_89 rfl (lv_at hl 1 rfl) ?_
                refine gR (t := 185) hC hw fl_X12_54 ok171 (by decide) ot171_33 dX12_bestAt_90 ?_
                refine lv_iload hx hb dX12_bestAt_93 (lv_at hl 0 rfl) ?_
                obtain ⟨hi95, h⟩ := gd_some h
                refine lI (j := (μ.1 187 (((6 : Int32) * v1) + v4).toNatClampNeg).toNatClampNeg) hC hw ok185 on185 hi95 rfl dX12_bestAt_95 ?_
                exact B96 v2 v3 v4 (r55.2.1 185 (μ.1 187 (((6 : Int32) * v1) + v4).toNatClampNeg).toNatClampNeg) r55.2 _ _ _ hw (lv_sub hl [1, 2, 3, 4, 5] rfl) h
              · rw [if_neg hc] at h
                refine lv_iconst (v := (0 : Int32)) hx hb dX12_bestAt_85 (by decide) ?_
                refine lv_goto (tgt := 96) hx hb dX12_bestAt_86 (by decide) ?_
                exact B96 v2 v3 v4 (0 : Int32) r55.2 _ _ _ hw (lv_sub hl [1, 2, 3, 4, 5] rfl) h
            · rw [if_neg hc] at h
              refine lv_goto (tgt := 118) hx hb dX12_bestAt_67 (by decide) ?_
              exact B118 v2 v3 v4 r55.2 _ _ _ hw (lv_sub hl [1, 2, 3, 4, 5] rfl) h
  refine lv_iconst (v := ((-1) : Int32)) hx hb dX12_bestAt_0 (by decide) ?_
  refine lv_istore_n (lv' := [(2, .int ((-1) : Int32)), (0, .ref (g.2.2 171)), (1, .int v1)]) hx hb dX12_bestAt_1 rfl hl (by decide) rfl (fun ls hl => ?_)
  refine lv_iconst (v := (0 : Int32)) hx hb dX12_bestAt_2 (by decide) ?_
  refine lv_istore_n (lv' := [(3, .int (0 : Int32)), (2, .int ((-1) : Int32)), (0, .ref (g.2.2 171)), (1, .int v1)]) hx hb dX12_bestAt_3 rfl hl (by decide) rfl (fun ls hl => ?_)
  refine lv_iconst (v := (0 : Int32)) hx hb dX12_bestAt_4 (by decide) ?_
  refine lv_istore (lv' := [(4, .int (0 : Int32)), (3, .int (0 : Int32)), (2, .int ((-1) : Int32)), (0, .ref (g.2.2 171)), (1, .int v1)]) hx hb dX12_bestAt_5 hl (by decide) rfl (fun ls hl => ?_)
  exact B7 n ((-1) : Int32) (0 : Int32) (0 : Int32) μ _ _ _ hw (lv_sub hl [3, 4, 2, 1, 0] rfl) h
set_option maxRecDepth 100000 in
set_option maxHeartbeats 4000000 in
theorem c_X12_bestNow (l : Launch) (g : Gw) (n : Nat) (μ : Mu) (r : Int32 × Mu) (h : X12_bestNow n  μ = some r) : Ct l g yX12_bestNow cX12_bestNow 2 (some .int) 4 [.ref (g.2.2 171)] μ (some (.int r.1)) r.2 := by
  rw [X12_bestNow] at h
  refine Ct.of (by decide) (Nat.le_of_ble_eq_true rfl) ?_
  intro p e s m args below meth c ls hC hw hr hlocks hl
  have hx := hC.1
  have hb := hC.2.1
  have hl : lv_has ls 2 [(0, .ref (g.2.2 171))] := hl
  have B39 : ∀ (s0 : Int32) (μ : Mu) (H : Heap) (locs : List Loc) (ls : Array Slot), wd g μ s (Aw g s.heap.size) H locs → lv_has ls 2 [] → X12_bestNow_39 n s0 μ = some r → WQ p l e (rmD 4) s m args below meth c g (some (.int r.1)) r.2 H locs (F0 m 39 ls [.int s0]) := by
    intro s0 μ H locs ls hw hl h
    rw [X12_bestNow_39] at h
    exact rI hC hw hr hlocks (by rw [← Option.some.inj h]) (by rw [← Option.some.inj h]) dX12_bestNow_39
  have B38 : ∀ (s0 : Int32) (s1 : Int32) (μ : Mu) (H : Heap) (locs : List Loc) (ls : Array Slot), wd g μ s (Aw g s.heap.size) H locs → lv_has ls 2 [] → X12_bestNow_38 n s0 s1 μ = some r → WQ p l e (rmD 4) s m args below meth c g (some (.int r.1)) r.2 H locs (F0 m 38 ls [.int s1, .int s0]) := by
    intro s0 s1 μ H locs ls hw hl h
    rw [X12_bestNow_38] at h
    refine lv_iadd hx hb dX12_bestNow_38 ?_
    exact B39 (s0 + s1) μ _ _ _ hw (lv_sub hl [] rfl) h
  refine lv_aload_n hx hb dX12_bestNow_0 rfl (lv_at hl 0 rfl) ?_
  refine lv_aload_n hx hb dX12_bestNow_1 rfl (lv_at hl 0 rfl) ?_
  obtain ⟨r2, hr2, h⟩ := bnd h
  refine cV (b := 171) (As := []) (rest := [.ref (g.2.2 171)]) (st1 := [.int r2.1, .ref (g.2.2 171)]) hC hw (c_X12_seatNow l g n μ r2 hr2) ml_X12_410 im_X12_seatNow se_X12_seatNow ok171 (CN := RX12) (T := TX12) (NF := 54) rfl rfl (by decide) rfl hl.1 ⟨Nat.le_of_ble_eq_true rfl, Nat.le_of_ble_eq_true rfl⟩ (Nat.le_of_ble_eq_true rfl) ⟨Nat.zero_le _, Nat.zero_le _⟩ rfl dX12_bestNow_2 (fun H locs hw => ?_)
  obtain ⟨r5, hr5, h⟩ := bnd h
  refine cV (b := 171) (As := [.int r2.1]) (rest := []) (st1 := [.int r5.1]) hC hw (c_X12_bestAt l g n r2.1 r2.2 r5 hr5) ml_X12_413 im_X12_bestAt se_X12_bestAt ok171 (CN := RX12) (T := TX12) (NF := 54) rfl rfl (by decide) rfl hl.1 ⟨Nat.le_of_ble_eq_true rfl, Nat.le_of_ble_eq_true rfl⟩ (Nat.le_of_ble_eq_true rfl) ⟨Nat.zero_le _, Nat.zero_le _⟩ rfl dX12_bestNow_5 (fun H locs hw => ?_)
  refine lv_istore_n (lv' := [(1, .int r5.1), (0, .ref (g.2.2 171))]) hx hb dX12_bestNow_8 rfl hl (by decide) rfl (fun ls hl => ?_)
  refine lv_iload_n hx hb dX12_bestNow_9 rfl (lv_at hl 0 rfl) ?_
  refine lv_iconst (v := ((-1) : Int32)) hx hb dX12_bestNow_10 (by decide) ?_
  refine lv_icmp_ne (tgt := 18) hx hb dX12_bestNow_11 (by decide) (fun hc => ?_) (fun hc => ?_)
  · rw [if_neg hc] at h
    refine lv_iload_n hx hb dX12_bestNow_18 rfl (lv_at hl 0 rfl) ?_
    refine lv_aload_n hx hb dX12_bestNow_19 rfl (lv_at hl 1 rfl) ?_
    refine gR (t := 172) hC hw fl_X12_9 ok171 (by decide) ot171_0 dX12_bestNow_20 ?_
    refine lv_iconst (v := (2 : Int32)) hx hb dX12_bestNow_23 (by decide) ?_
    refine lI (j := 2) hC hw ok172 on172 (vin (by decide)) (by decide) dX12_bestNow_24 ?_
    refine lv_if_ne (tgt := 32) hx hb dX12_bestNow_25 (by decide) (fun hc => ?_) (fun hc => ?_)
    · rw [if_neg hc] at h
      refine lv_aload_n hx hb dX12_bestNow_32 rfl (lv_at hl 1 rfl) ?_
      refine gR (t := 172) hC hw fl_X12_9 ok171 (by decide) ot171_0 dX12_bestNow_33 ?_
      refine lv_iconst (v := (1 : Int32)) hx hb dX12_bestNow_36 (by decide) ?_
      refine lI (j := 1) hC hw ok172 on172 (vin (by decide)) (by decide) dX12_bestNow_37 ?_
      exact B38 r5.1 (r5.2.1 172 1) r5.2 _ _ _ hw (lv_sub hl [] rfl) h
    · rw [if_pos hc] at h
      refine lv_iconst (v := (0 : Int32)) hx hb dX12_bestNow_28 (by decide) ?_
      refine lv_goto (tgt := 38) hx hb dX12_bestNow_29 (by decide) ?_
      exact B38 r5.1 (0 : Int32) r5.2 _ _ _ hw (lv_sub hl [] rfl) h
  · rw [if_pos hc] at h
    refine lv_iconst (v := ((-1) : Int32)) hx hb dX12_bestNow_14 (by decide) ?_
    refine lv_goto (tgt := 39) hx hb dX12_bestNow_15 (by decide) ?_
    exact B39 ((-1) : Int32) r5.2 _ _ _ hw (lv_sub hl [] rfl) h
set_option maxRecDepth 100000 in
set_option maxHeartbeats 4000000 in
theorem c_X12_canAt (l : Launch) (g : Gw) (n : Nat) (v1 : Int32) (v2 : Int32) (μ : Mu) (r : Int32 × Mu) (h : X12_canAt n v1 v2 μ = some r) : Ct l g yX12_canAt cX12_canAt 5 (some .int) 1 [.ref (g.2.2 171), .int v1, .int v2] μ (some (.int r.1)) r.2 := by
  rw [X12_canAt] at h
  refine Ct.of (by decide) (Nat.le_of_ble_eq_true rfl) ?_
  intro p e s m args below meth c ls hC hw hr hlocks hl
  have hx := hC.1
  have hb := hC.2.1
  have hl : lv_has ls 5 [(0, .ref (g.2.2 171)), (1, .int v1), (2, .int v2)] := hl
  have B5 : ∀ (k : Nat), ∀ (v3 : Int32) (v4 : Int32) (μ : Mu) (H : Heap) (locs : List Loc) (ls : Array Slot), wd g μ s (Aw g s.heap.size) H locs → lv_has ls 5 [(0, .ref (g.2.2 171)), (1, .int v1), (2, .int v2), (3, .int v3), (4, .int v4)] → lpF (fun _ _ _ => none) (X12_canAt_5b n v1 v2) k v3 v4 μ = some r → WQ p l e (rmD 1) s m args below meth c g (some (.int r.1)) r.2 H locs (F0 m 5 ls []) := by
    intro k
    induction k with
    | zero =>
      intro v3 v4 μ H locs ls hw hl h
      cases h
    | succ k ih5 =>
      rw [lpF_s]
      generalize lpF (fun _ _ _ => none) (X12_canAt_5b n v1 v2) k = k5 at ih5 ⊢
      intro v3 v4 μ H locs ls hw hl h
      have B62 : ∀ (v4 : Int32) (s0 : Int32) (s1 : Int32) (μ : Mu) (H : Heap) (locs : List Loc) (ls : Array Slot), wd g μ s (Aw g s.heap.size) H locs → lv_has ls 5 [(0, .ref (g.2.2 171)), (1, .int v1), (2, .int v2), (4, .int v4)] → X12_canAt_62 n v1 v2 k5 v4 s0 s1 μ = some r → WQ p l e (rmD 1) s m args below meth c g (some (.int r.1)) r.2 H locs (F0 m 62 ls [.int s1, .int s0]) := by
        intro v4 s0 s1 μ H locs ls hw hl h
        rw [X12_canAt_62] at h
        refine lv_iadd hx hb dX12_canAt_62 ?_
        refine lv_istore_n (lv' := [(3, .int (s0 + s1)), (0, .ref (g.2.2 171)), (1, .int v1), (2, .int v2), (4, .int v4)]) hx hb dX12_canAt_63 rfl hl (by decide) rfl (fun ls hl => ?_)
        refine lv_iinc (v := (v4 + (1 : Int32))) (lv' := [(4, .int (v4 + (1 : Int32))), (3, .int (s0 + s1)), (0, .ref (g.2.2 171)), (1, .int v1), (2, .int v2)]) hx hb dX12_canAt_64 hl (k := 4) rfl rfl (by decide) rfl (fun ls hl => ?_)
        refine lv_goto (tgt := 5) hx hb dX12_canAt_67 (by decide) ?_
        exact ih5 (s0 + s1) (v4 + (1 : Int32)) μ _ _ _ hw (lv_sub hl [2, 3, 4, 1, 0] rfl) h
      have B57 : ∀ (v4 : Int32) (s0 : Int32) (μ : Mu) (H : Heap) (locs : List Loc) (ls : Array Slot), wd g μ s (Aw g s.heap.size) H locs → lv_has ls 5 [(0, .ref (g.2.2 171)), (1, .int v1), (2, .int v2), (4, .int v4)] → X12_canAt_57 n v1 v2 k5 v4 s0 μ = some r → WQ p l e (rmD 1) s m args below meth c g (some (.int r.1)) r.2 H locs (F0 m 57 ls [.int s0]) := by
        intro v4 s0 μ H locs ls hw hl h
        rw [X12_canAt_57] at h
        refine lv_iconst (v := (1 : Int32)) hx hb dX12_canAt_57 (by decide) ?_
        refine lv_goto (tgt := 62) hx hb dX12_canAt_58 (by decide) ?_
        exact B62 v4 s0 (1 : Int32) μ _ _ _ hw (lv_sub hl [0, 1, 2, 3] rfl) h
      have B61 : ∀ (v4 : Int32) (s0 : Int32) (μ : Mu) (H : Heap) (locs : List Loc) (ls : Array Slot), wd g μ s (Aw g s.heap.size) H locs → lv_has ls 5 [(0, .ref (g.2.2 171)), (1, .int v1), (2, .int v2), (4, .int v4)] → X12_canAt_61 n v1 v2 k5 v4 s0 μ = some r → WQ p l e (rmD 1) s m args below meth c g (some (.int r.1)) r.2 H locs (F0 m 61 ls [.int s0]) := by
        intro v4 s0 μ H locs ls hw hl h
        rw [X12_canAt_61] at h
        refine lv_iconst (v := (0 : Int32)) hx hb dX12_canAt_61 (by decide) ?_
        exact B62 v4 s0 (0 : Int32) μ _ _ _ hw (lv_sub hl [0, 1, 2, 3] rfl) h
      rw [X12_canAt_5b] at h
      refine lv_iload hx hb dX12_canAt_5 (lv_at hl 4 rfl) ?_
      refine lv_aload_n hx hb dX12_canAt_7 rfl (lv_at hl 0 rfl) ?_
      refine gR (t := 172) hC hw fl_X12_9 ok171 (by decide) ot171_0 dX12_canAt_8 ?_
      refine lv_iconst (v := (1 : Int32)) hx hb dX12_canAt_11 (by decide) ?_
      refine lI (j := 1) hC hw ok172 on172 (vin (by decide)) (by decide) dX12_canAt_12 ?_
      refine lv_icmp_ge (tgt := 70) hx hb dX12_canAt_13 (by decide) (fun hc => ?_) (fun hc => ?_)
      · rw [if_pos hc] at h
        refine lv_iload_n hx hb dX12_canAt_70 rfl (lv_at hl 3 rfl) ?_
        exact rI hC hw hr hlocks (by rw [← Option.some.inj h]) (by rw [← Option.some.inj h]) dX12_canAt_71
      · rw [if_neg hc] at h
        refine lv_iload_n hx hb dX12_canAt_16 rfl (lv_at hl 3 rfl) ?_
        refine lv_aload_n hx hb dX12_canAt_17 rfl (lv_at hl 0 rfl) ?_
        refine gR (t := 187) hC hw fl_X12_61 ok171 (by decide) ot171_35 dX12_canAt_18 ?_
        refine lv_bipush (v := (6 : Int32)) hx hb dX12_canAt_21 (by decide) ?_
        refine lv_iload_n hx hb dX12_canAt_23 rfl (lv_at hl 1 rfl) ?_
        refine lv_imul hx hb dX12_canAt_24 ?_
        refine lv_iload hx hb dX12_canAt_25 (lv_at hl 4 rfl) ?_
        refine lv_iadd hx hb dX12_canAt_27 ?_
        obtain ⟨hi28, h⟩ := gd_some h
        refine lI (j := (((6 : Int32) * v1) + v4).toNatClampNeg) hC hw ok187 on187 hi28 rfl dX12_canAt_28 ?_
        refine lv_iconst (v := ((-1) : Int32)) hx hb dX12_canAt_29 (by decide) ?_
        refine lv_icmp_eq (tgt := 61) hx hb dX12_canAt_30 (by decide) (fun hc => ?_) (fun hc => ?_)
        · rw [if_pos hc] at h
          exact B61 v4 v3 μ _ _ _ hw (lv_sub hl [0, 1, 2, 4] rfl) h
        · rw [if_neg hc] at h
          refine lv_iload_n hx hb dX12_canAt_33 rfl (lv_at hl 2 rfl) ?_
          refine lv_if_eq (tgt := 57) hx hb dX12_canAt_34 (by decide) (fun hc => ?_) (fun hc => ?_)
          · rw [if_pos hc] at h
            exact B57 v4 v3 μ _ _ _ hw (lv_sub hl [0, 1, 2, 4] rfl) h
          · rw [if_neg hc] at h
            refine lv_aload_n hx hb dX12_canAt_37 rfl (lv_at hl 0 rfl) ?_
            refine lv_iload_n hx hb dX12_canAt_38 rfl (lv_at hl 1 rfl) ?_
            refine lv_iload hx hb dX12_canAt_39 (lv_at hl 4 rfl) ?_
            refine lv_aload_n hx hb dX12_canAt_41 rfl (lv_at hl 0 rfl) ?_
            refine gR (t := 184) hC hw fl_X12_51 ok171 (by decide) ot171_32 dX12_canAt_42 ?_
            obtain ⟨r45, hr45, h⟩ := bnd h
            refine cV (b := 171) (As := [.int v1, .int v4, .ref (g.2.2 184)]) (rest := [.int v3]) (st1 := [.int r45.1, .int v3]) hC hw (c_X12_worthOf l g n v1 v4 184 μ r45 hr45) ml_X12_398 im_X12_worthOf se_X12_worthOf ok171 (CN := RX12) (T := TX12) (NF := 54) rfl rfl (by decide) rfl hl.1 ⟨Nat.le_of_ble_eq_true rfl, Nat.le_of_ble_eq_true rfl⟩ (Nat.le_of_ble_eq_true rfl) ⟨Nat.zero_le _, Nat.zero_le _⟩ rfl dX12_canAt_45 (fun H locs hw => ?_)
            refine lv_aload_n hx hb dX12_canAt_48 rfl (lv_at hl 0 rfl) ?_
            refine gR (t := 184) hC hw fl_X12_51 ok171 (by decide) ot171_32 dX12_canAt_49 ?_
            refine lv_iload_n hx hb dX12_canAt_52 rfl (lv_at hl 1 rfl) ?_
            obtain ⟨hi53, h⟩ := gd_some h
            refine lI (j := v1.toNatClampNeg) hC hw ok184 on184 hi53 rfl dX12_canAt_53 ?_
            refine lv_icmp_ne (tgt := 61) hx hb dX12_canAt_54 (by decide) (fun hc => ?_) (fun hc => ?_)
            · rw [if_neg hc] at h
              exact B61 v4 v3 r45.2 _ _ _ hw (lv_sub hl [0, 1, 2, 4] rfl) h
            · rw [if_pos hc] at h
              exact B57 v4 v3 r45.2 _ _ _ hw (lv_sub hl [0, 1, 2, 4] rfl) h
  refine lv_iconst (v := (0 : Int32)) hx hb dX12_canAt_0 (by decide) ?_
  refine lv_istore_n (lv' := [(3, .int (0 : Int32)), (0, .ref (g.2.2 171)), (1, .int v1), (2, .int v2)]) hx hb dX12_canAt_1 rfl hl (by decide) rfl (fun ls hl => ?_)
  refine lv_iconst (v := (0 : Int32)) hx hb dX12_canAt_2 (by decide) ?_
  refine lv_istore (lv' := [(4, .int (0 : Int32)), (3, .int (0 : Int32)), (0, .ref (g.2.2 171)), (1, .int v1), (2, .int v2)]) hx hb dX12_canAt_3 hl (by decide) rfl (fun ls hl => ?_)
  exact B5 n (0 : Int32) (0 : Int32) μ _ _ _ hw (lv_sub hl [2, 3, 4, 1, 0] rfl) h
set_option maxRecDepth 100000 in
set_option maxHeartbeats 4000000 in
theorem c_X12_isBoard (l : Launch) (g : Gw) (n : Nat) (v1 : Int32) (μ : Mu) (r : Int32 × Mu) (h : X12_isBoard n v1 μ = some r) : Ct l g yX12_isBoard cX12_isBoard 3 (some .boolean) 0 [.ref (g.2.2 171), .int v1] μ (some (.int r.1)) r.2 := by
  rw [X12_isBoard] at h
  refine Ct.of (by decide) (Nat.le_of_ble_eq_true rfl) ?_
  intro p e s m args below meth c ls hC hw hr hlocks hl
  have hx := hC.1
  have hb := hC.2.1
  have hl : lv_has ls 3 [(0, .ref (g.2.2 171)), (1, .int v1)] := hl
  have B2 : ∀ (k : Nat), ∀ (v2 : Int32) (μ : Mu) (H : Heap) (locs : List Loc) (ls : Array Slot), wd g μ s (Aw g s.heap.size) H locs → lv_has ls 3 [(0, .ref (g.2.2 171)), (1, .int v1), (2, .int v2)] → lpF (fun _ _ => none) (X12_isBoard_2b n v1) k v2 μ = some r → WQ p l e (rmD 0) s m args below meth c g (some (.int r.1)) r.2 H locs (F0 m 2 ls []) := by
    intro k
    induction k with
    | zero =>
      intro v2 μ H locs ls hw hl h
      cases h
    | succ k ih2 =>
      rw [lpF_s]
      generalize lpF (fun _ _ => none) (X12_isBoard_2b n v1) k = k2 at ih2 ⊢
      intro v2 μ H locs ls hw hl h
      rw [X12_isBoard_2b] at h
      refine lv_iload_n hx hb dX12_isBoard_2 rfl (lv_at hl 2 rfl) ?_
      refine lv_bipush (v := (25 : Int32)) hx hb dX12_isBoard_3 (by decide) ?_
      refine lv_icmp_ge (tgt := 36) hx hb dX12_isBoard_5 (by decide) (fun hc => ?_) (fun hc => ?_)
      · rw [if_pos hc] at h
        refine lv_iconst (v := (1 : Int32)) hx hb dX12_isBoard_36 (by decide) ?_
        exact rZ hC hw hr hlocks (Or.inr rfl) (by rw [← Option.some.inj h]) (by rw [← Option.some.inj h]) dX12_isBoard_37
      · rw [if_neg hc] at h
        refine lv_aload_n hx hb dX12_isBoard_8 rfl (lv_at hl 0 rfl) ?_
        refine gR (t := 196) hC hw fl_X12_91 ok171 (by decide) ot171_46 dX12_isBoard_9 ?_
        refine lv_bipush (v := (25 : Int32)) hx hb dX12_isBoard_12 (by decide) ?_
        refine lv_iload_n hx hb dX12_isBoard_14 rfl (lv_at hl 1 rfl) ?_
        refine lv_imul hx hb dX12_isBoard_15 ?_
        refine lv_iload_n hx hb dX12_isBoard_16 rfl (lv_at hl 2 rfl) ?_
        refine lv_iadd hx hb dX12_isBoard_17 ?_
        obtain ⟨hi18, h⟩ := gd_some h
        refine lI (j := (((25 : Int32) * v1) + v2).toNatClampNeg) hC hw ok196 on196 hi18 rfl dX12_isBoard_18 ?_
        refine lv_aload_n hx hb dX12_isBoard_19 rfl (lv_at hl 0 rfl) ?_
        refine gR (t := 172) hC hw fl_X12_9 ok171 (by decide) ot171_0 dX12_isBoard_20 ?_
        refine lv_iload_n hx hb dX12_isBoard_23 rfl (lv_at hl 2 rfl) ?_
        obtain ⟨hi24, h⟩ := gd_some h
        refine lI (j := v2.toNatClampNeg) hC hw ok172 on172 hi24 rfl dX12_isBoard_24 ?_
        refine lv_icmp_eq (tgt := 30) hx hb dX12_isBoard_25 (by decide) (fun hc => ?_) (fun hc => ?_)
        · rw [if_pos hc] at h
          refine lv_iinc (v := (v2 + (1 : Int32))) (lv' := [(2, .int (v2 + (1 : Int32))), (0, .ref (g.2.2 171)), (1, .int v1)]) hx hb dX12_isBoard_30 hl (k := 2) rfl rfl (by decide) rfl (fun ls hl => ?_)
          refine lv_goto (tgt := 2) hx hb dX12_isBoard_33 (by decide) ?_
          exact ih2 (v2 + (1 : Int32)) μ _ _ _ hw (lv_sub hl [1, 2, 0] rfl) h
        · rw [if_neg hc] at h
          refine lv_iconst (v := (0 : Int32)) hx hb dX12_isBoard_28 (by decide) ?_
          exact rZ hC hw hr hlocks (Or.inl rfl) (by rw [← Option.some.inj h]) (by rw [← Option.some.inj h]) dX12_isBoard_29
  refine lv_iconst (v := (0 : Int32)) hx hb dX12_isBoard_0 (by decide) ?_
  refine lv_istore_n (lv' := [(2, .int (0 : Int32)), (0, .ref (g.2.2 171)), (1, .int v1)]) hx hb dX12_isBoard_1 rfl hl (by decide) rfl (fun ls hl => ?_)
  exact B2 n (0 : Int32) μ _ _ _ hw (lv_sub hl [1, 2, 0] rfl) h
set_option maxRecDepth 100000 in
set_option maxHeartbeats 4000000 in
theorem c_X12_draw (l : Launch) (g : Gw) (n : Nat) (v1 : Int32) (μ : Mu) (r : Int32 × Mu) (h : X12_draw n v1 μ = some r) : Ct l g yX12_draw cX12_draw 2 (some .int) 0 [.ref (g.2.2 171), .int v1] μ (some (.int r.1)) r.2 := by
  rw [X12_draw] at h
  refine Ct.of (by decide) (Nat.le_of_ble_eq_true rfl) ?_
  intro p e s m args below meth c ls hC hw hr hlocks hl
  have hx := hC.1
  have hb := hC.2.1
  have hl : lv_has ls 2 [(0, .ref (g.2.2 171)), (1, .int v1)] := hl
  refine lv_aload_n hx hb dX12_draw_0 rfl (lv_at hl 0 rfl) ?_
  refine lv_ldcw (v := (1103515245 : Int32)) hx hb hC.2.2.2.1 (hC.2.2.2.2.1 _ cn_X12_458) dX12_draw_1 ?_
  refine lv_aload_n hx hb dX12_draw_4 rfl (lv_at hl 0 rfl) ?_
  refine gI hC hw fl_X12_459 ok171 (by decide) dX12_draw_5 ?_
  refine lv_imul hx hb dX12_draw_8 ?_
  refine lv_sipush (v := (12345 : Int32)) hx hb dX12_draw_9 (by decide) ?_
  refine lv_iadd hx hb dX12_draw_12 ?_
  refine pI hC hw fl_X12_459 fp_12_49 ok171 dX12_draw_13 (fun H locs hw => ?_)
  refine lv_aload_n hx hb dX12_draw_16 rfl (lv_at hl 0 rfl) ?_
  refine gI hC hw fl_X12_459 ok171 (by decide) dX12_draw_17 ?_
  refine lv_bipush (v := (16 : Int32)) hx hb dX12_draw_20 (by decide) ?_
  refine lv_iushr hx hb dX12_draw_22 rfl ?_
  refine lv_iload_n hx hb dX12_draw_23 rfl (lv_at hl 1 rfl) ?_
  obtain ⟨hd24, h⟩ := dv_some h
  refine lv_irem hx hb dX12_draw_24 hd24 ?_
  exact rI hC hw hr hlocks (by rw [← Option.some.inj h]) (by rw [← Option.some.inj h]) dX12_draw_25
set_option maxRecDepth 100000 in
set_option maxHeartbeats 4000000 in
theorem c_X12_isTray (l : Launch) (g : Gw) (n : Nat) (v0 : Int32) (μ : Mu) (r : Int32 × Mu) (h : X12_isTray n v0 μ = some r) : Ct l g yX12_isTray cX12_isTray 1 (some .boolean) 1 [.int v0] μ (some (.int r.1)) r.2 := by
  rw [X12_isTray] at h
  refine Ct.of (by decide) (Nat.le_of_ble_eq_true rfl) ?_
  intro p e s m args below meth c ls hC hw hr hlocks hl
  have hx := hC.1
  have hb := hC.2.1
  have hl : lv_has ls 1 [(0, .int v0)] := hl
  refine lv_iload_n hx hb dX12_isTray_0 rfl (lv_at hl 0 rfl) ?_
  refine lv_i2l hx hb dX12_isTray_1 rfl ?_
  refine lv_lconst (v := (0 : Int64)) hx hb dX12_isTray_2 (by decide) ?_
  refine lv_ldc2 (v := (3 : Int64)) hx hb hC.2.2.2.1 (hC.2.2.2.2.1 _ cl_X12_314) dX12_isTray_3 ?_
  obtain ⟨r6, hr6, h⟩ := bnd h
  refine cS (As := [.long (v0.toInt64), .long (0 : Int64), .long (3 : Int64)]) (rest := []) (st1 := [.int r6.1]) hC hw (c_X12_within l g n (v0.toInt64) (0 : Int64) (3 : Int64) μ r6 hr6) ml_X12_166 st_X12_within rfl hl.1 ⟨Nat.le_of_ble_eq_true rfl, Nat.le_of_ble_eq_true rfl⟩ (Nat.le_of_ble_eq_true rfl) ⟨Nat.zero_le _, Nat.zero_le _⟩ rfl dX12_isTray_6 (fun H locs hw => ?_)
  obtain ⟨hz9, h⟩ := bz_some h
  exact rZ hC hw hr hlocks hz9 (by rw [← Option.some.inj h]) (by rw [← Option.some.inj h]) dX12_isTray_9
set_option maxRecDepth 100000 in
set_option maxHeartbeats 4000000 in
theorem c_X12_tray (l : Launch) (g : Gw) (n : Nat) (v1 : Int32) (v2 : Int32) (v3 : Int32) (μ : Mu) (r : Unit × Mu) (h : X12_tray n v1 v2 v3 μ = some r) : Ct l g yX12_tray cX12_tray 5 none 2 [.ref (g.2.2 171), .int v1, .int v2, .int v3] μ none r.2 := by
  rw [X12_tray] at h
  refine Ct.of (by decide) (Nat.le_of_ble_eq_true rfl) ?_
  intro p e s m args below meth c ls hC hw hr hlocks hl
  have hx := hC.1
  have hb := hC.2.1
  have hl : lv_has ls 5 [(0, .ref (g.2.2 171)), (1, .int v1), (2, .int v2), (3, .int v3)] := hl
  have B69 : ∀ (k : Nat), ∀ (v4 : Int32) (μ : Mu) (H : Heap) (locs : List Loc) (ls : Array Slot), wd g μ s (Aw g s.heap.size) H locs → lv_has ls 5 [(0, .ref (g.2.2 171)), (1, .int v1), (4, .int v4)] → lpF (fun _ _ => none) (X12_tray_69b n v1 v2 v3) k v4 μ = some r → WQ p l e (rmD 2) s m args below meth c g none r.2 H locs (F0 m 69 ls []) := by
    intro k
    induction k with
    | zero =>
      intro v4 μ H locs ls hw hl h
      cases h
    | succ k ih69 =>
      rw [lpF_s]
      generalize lpF (fun _ _ => none) (X12_tray_69b n v1 v2 v3) k = k69 at ih69 ⊢
      intro v4 μ H locs ls hw hl h
      rw [X12_tray_69b] at h
      refine lv_iload hx hb dX12_tray_69 (lv_at hl 2 rfl) ?_
      refine lv_bipush (v := (40 : Int32)) hx hb dX12_tray_71 (by decide) ?_
      refine lv_icmp_ge (tgt := 95) hx hb dX12_tray_73 (by decide) (fun hc => ?_) (fun hc => ?_)
      · rw [if_pos hc] at h
        exact rV hC hw hr hlocks rfl (by rw [← Option.some.inj h]) dX12_tray_95
      · rw [if_neg hc] at h
        refine lv_aload_n hx hb dX12_tray_76 rfl (lv_at hl 0 rfl) ?_
        refine gR (t := 200) hC hw fl_X12_103 ok171 (by decide) ot171_53 dX12_tray_77 ?_
        refine lv_bipush (v := (40 : Int32)) hx hb dX12_tray_80 (by decide) ?_
        refine lv_iload_n hx hb dX12_tray_82 rfl (lv_at hl 1 rfl) ?_
        refine lv_imul hx hb dX12_tray_83 ?_
        refine lv_iload hx hb dX12_tray_84 (lv_at hl 2 rfl) ?_
        refine lv_iadd hx hb dX12_tray_86 ?_
        refine lv_lconst (v := (0 : Int64)) hx hb dX12_tray_87 (by decide) ?_
        obtain ⟨hi88, h⟩ := gd_some h
        refine sJ (j := (((40 : Int32) * v1) + v4).toNatClampNeg) hC hw ok200 on200 hi88 rfl dX12_tray_88 (fun H locs hw => ?_)
        refine lv_iinc (v := (v4 + (1 : Int32))) (lv' := [(4, .int (v4 + (1 : Int32))), (0, .ref (g.2.2 171)), (1, .int v1)]) hx hb dX12_tray_89 hl (k := 2) rfl rfl (by decide) rfl (fun ls hl => ?_)
        refine lv_goto (tgt := 69) hx hb dX12_tray_92 (by decide) ?_
        exact ih69 (v4 + (1 : Int32)) (sj μ 200 (((40 : Int32) * v1) + v4).toNatClampNeg (0 : Int64)) _ _ _ hw (lv_sub hl [1, 2, 0] rfl) h
  have B41 : ∀ (s1 : Int32) (μ : Mu) (H : Heap) (locs : List Loc) (ls : Array Slot), wd g μ s (Aw g s.heap.size) H locs → lv_has ls 5 [(0, .ref (g.2.2 171)), (1, .int v1), (2, .int v2), (3, .int v3)] → X12_tray_41 n v1 v2 v3 s1 μ = some r → WQ p l e (rmD 2) s m args below meth c g none r.2 H locs (F0 m 41 ls [.int s1, .ref (g.2.2 171)]) := by
    intro s1 μ H locs ls hw hl h
    rw [X12_tray_41] at h
    refine pI hC hw fl_X12_107 fp_12_5 ok171 dX12_tray_41 (fun H locs hw => ?_)
    refine lv_aload_n hx hb dX12_tray_44 rfl (lv_at hl 0 rfl) ?_
    refine gI hC hw fl_X12_107 ok171 (by decide) dX12_tray_45 ?_
    refine lv_if_le (tgt := 52) hx hb dX12_tray_48 (by decide) (fun hc => ?_) (fun hc => ?_)
    · rw [if_pos hc] at h
      refine lv_aload_n hx hb dX12_tray_52 rfl (lv_at hl 0 rfl) ?_
      refine gR (t := 198) hC hw fl_X12_97 ok171 (by decide) ot171_51 dX12_tray_53 ?_
      refine lv_iload_n hx hb dX12_tray_56 rfl (lv_at hl 1 rfl) ?_
      refine lv_iload_n hx hb dX12_tray_57 rfl (lv_at hl 2 rfl) ?_
      obtain ⟨hi58, h⟩ := gd_some h
      refine sI (j := v1.toNatClampNeg) hC hw ok198 on198 hi58 rfl dX12_tray_58 (fun H locs hw => ?_)
      refine lv_aload_n hx hb dX12_tray_59 rfl (lv_at hl 0 rfl) ?_
      refine gR (t := 199) hC hw fl_X12_100 ok171 (by decide) ot171_52 dX12_tray_60 ?_
      refine lv_iload_n hx hb dX12_tray_63 rfl (lv_at hl 1 rfl) ?_
      refine lv_iload_n hx hb dX12_tray_64 rfl (lv_at hl 3 rfl) ?_
      refine sI (j := v1.toNatClampNeg) hC hw ok199 on199 hi58 rfl dX12_tray_65 (fun H locs hw => ?_)
      refine lv_iconst (v := (0 : Int32)) hx hb dX12_tray_66 (by decide) ?_
      refine lv_istore (lv' := [(4, .int (0 : Int32)), (0, .ref (g.2.2 171)), (1, .int v1), (2, .int v2), (3, .int v3)]) hx hb dX12_tray_67 hl (by decide) rfl (fun ls hl => ?_)
      exact B69 n (0 : Int32) (si (si (si μ 171 5 s1) 198 v1.toNatClampNeg v2) 199 v1.toNatClampNeg v3) _ _ _ hw (lv_sub hl [1, 2, 0] rfl) h
    · rw [if_neg hc] at h
      exact rV hC hw hr hlocks rfl (by rw [← Option.some.inj h]) dX12_tray_51
  have B36 : ∀ (μ : Mu) (H : Heap) (locs : List Loc) (ls : Array Slot), wd g μ s (Aw g s.heap.size) H locs → lv_has ls 5 [(0, .ref (g.2.2 171)), (1, .int v1), (2, .int v2), (3, .int v3)] → X12_tray_36 n v1 v2 v3  μ = some r → WQ p l e (rmD 2) s m args below meth c g none r.2 H locs (F0 m 36 ls [.ref (g.2.2 171)]) := by
    intro μ H locs ls hw hl h
    rw [X12_tray_36] at h
    refine lv_iconst (v := (2 : Int32)) hx hb dX12_tray_36 (by decide) ?_
    refine lv_goto (tgt := 41) hx hb dX12_tray_37 (by decide) ?_
    exact B41 (2 : Int32) μ _ _ _ hw (lv_sub hl [0, 1, 2, 3] rfl) h
  refine lv_aload_n hx hb dX12_tray_0 rfl (lv_at hl 0 rfl) ?_
  refine lv_iload_n hx hb dX12_tray_1 rfl (lv_at hl 1 rfl) ?_
  obtain ⟨r2, hr2, h⟩ := bnd h
  refine cS (As := [.int v1]) (rest := [.ref (g.2.2 171)]) (st1 := [.int r2.1, .ref (g.2.2 171)]) hC hw (c_X12_isTray l g n v1 μ r2 hr2) ml_X12_335 st_X12_isTray rfl hl.1 ⟨Nat.le_of_ble_eq_true rfl, Nat.le_of_ble_eq_true rfl⟩ (Nat.le_of_ble_eq_true rfl) ⟨Nat.zero_le _, Nat.zero_le _⟩ rfl dX12_tray_2 (fun H locs hw => ?_)
  refine lv_if_ne (tgt := 12) hx hb dX12_tray_5 (by decide) (fun hc => ?_) (fun hc => ?_)
  · rw [if_neg hc] at h
    refine lv_iload_n hx hb dX12_tray_12 rfl (lv_at hl 2 rfl) ?_
    refine lv_i2l hx hb dX12_tray_13 rfl ?_
    refine lv_lconst (v := (0 : Int64)) hx hb dX12_tray_14 (by decide) ?_
    refine lv_ldc2 (v := (3 : Int64)) hx hb hC.2.2.2.1 (hC.2.2.2.2.1 _ cl_X12_314) dX12_tray_15 ?_
    obtain ⟨r18, hr18, h⟩ := bnd h
    refine cS (As := [.long (v2.toInt64), .long (0 : Int64), .long (3 : Int64)]) (rest := [.ref (g.2.2 171)]) (st1 := [.int r18.1, .ref (g.2.2 171)]) hC hw (c_X12_within l g n (v2.toInt64) (0 : Int64) (3 : Int64) r2.2 r18 hr18) ml_X12_166 st_X12_within rfl hl.1 ⟨Nat.le_of_ble_eq_true rfl, Nat.le_of_ble_eq_true rfl⟩ (Nat.le_of_ble_eq_true rfl) ⟨Nat.zero_le _, Nat.zero_le _⟩ rfl dX12_tray_18 (fun H locs hw => ?_)
    refine lv_if_eq (tgt := 36) hx hb dX12_tray_21 (by decide) (fun hc => ?_) (fun hc => ?_)
    · rw [if_pos hc] at h
      exact B36 r18.2 _ _ _ hw (lv_sub hl [0, 1, 2, 3] rfl) h
    · rw [if_neg hc] at h
      refine lv_iload_n hx hb dX12_tray_24 rfl (lv_at hl 3 rfl) ?_
      refine lv_i2l hx hb dX12_tray_25 rfl ?_
      refine lv_lconst (v := (0 : Int64)) hx hb dX12_tray_26 (by decide) ?_
      refine lv_ldc2 (v := (40 : Int64)) hx hb hC.2.2.2.1 (hC.2.2.2.2.1 _ cl_X12_357) dX12_tray_27 ?_
      obtain ⟨r30, hr30, h⟩ := bnd h
      refine cS (As := [.long (v3.toInt64), .long (0 : Int64), .long (40 : Int64)]) (rest := [.ref (g.2.2 171)]) (st1 := [.int r30.1, .ref (g.2.2 171)]) hC hw (c_X12_within l g n (v3.toInt64) (0 : Int64) (40 : Int64) r18.2 r30 hr30) ml_X12_166 st_X12_within rfl hl.1 ⟨Nat.le_of_ble_eq_true rfl, Nat.le_of_ble_eq_true rfl⟩ (Nat.le_of_ble_eq_true rfl) ⟨Nat.zero_le _, Nat.zero_le _⟩ rfl dX12_tray_30 (fun H locs hw => ?_)
      refine lv_if_ne (tgt := 40) hx hb dX12_tray_33 (by decide) (fun hc => ?_) (fun hc => ?_)
      · rw [if_neg hc] at h
        refine lv_iconst (v := (0 : Int32)) hx hb dX12_tray_40 (by decide) ?_
        exact B41 (0 : Int32) r30.2 _ _ _ hw (lv_sub hl [0, 1, 2, 3] rfl) h
      · rw [if_pos hc] at h
        exact B36 r30.2 _ _ _ hw (lv_sub hl [0, 1, 2, 3] rfl) h
  · rw [if_pos hc] at h
    refine lv_iconst (v := (1 : Int32)) hx hb dX12_tray_8 (by decide) ?_
    refine lv_goto (tgt := 41) hx hb dX12_tray_9 (by decide) ?_
    exact B41 (1 : Int32) r2.2 _ _ _ hw (lv_sub hl [0, 1, 2, 3] rfl) h
set_option maxRecDepth 100000 in
set_option maxHeartbeats 4000000 in
theorem c_X12_cut (l : Launch) (g : Gw) (n : Nat) (v1 : Int32) (v2 : Int32) (v3 : Int64) (μ : Mu) (r : Int64 × Mu) (h : X12_cut n v1 v2 v3 μ = some r) : Ct l g yX12_cut cX12_cut 6 (some .long) 0 [.ref (g.2.2 171), .int v1, .int v2, .long v3] μ (some (.long r.1)) r.2 := by
  rw [X12_cut] at h
  refine Ct.of (by decide) (Nat.le_of_ble_eq_true rfl) ?_
  intro p e s m args below meth c ls hC hw hr hlocks hl
  have hx := hC.1
  have hb := hC.2.1
  have hl : lv_has ls 6 [(0, .ref (g.2.2 171)), (1, .int v1), (2, .int v2), (3, .long v3)] := hl
  refine lv_bipush (v := (64 : Int32)) hx hb dX12_cut_0 (by decide) ?_
  refine lv_bipush (v := (8 : Int32)) hx hb dX12_cut_2 (by decide) ?_
  refine lv_aload_n hx hb dX12_cut_4 rfl (lv_at hl 0 rfl) ?_
  refine gR (t := 198) hC hw fl_X12_97 ok171 (by decide) ot171_51 dX12_cut_5 ?_
  refine lv_iload_n hx hb dX12_cut_8 rfl (lv_at hl 1 rfl) ?_
  obtain ⟨hi9, h⟩ := gd_some h
  refine lI (j := v1.toNatClampNeg) hC hw ok198 on198 hi9 rfl dX12_cut_9 ?_
  refine lv_ishl hx hb dX12_cut_10 ?_
  refine lv_isub hx hb dX12_cut_11 ?_
  refine lv_istore (lv' := [(5, .int ((64 : Int32) - ((8 : Int32) <<< ((μ.1 198 v1.toNatClampNeg) &&& 31)))), (0, .ref (g.2.2 171)), (1, .int v1), (2, .int v2), (3, .long v3)]) hx hb dX12_cut_12 hl (by decide) rfl (fun ls hl => ?_)
  refine lv_aload_n hx hb dX12_cut_14 rfl (lv_at hl 1 rfl) ?_
  refine gR (t := 200) hC hw fl_X12_103 ok171 (by decide) ot171_53 dX12_cut_15 ?_
  refine lv_bipush (v := (40 : Int32)) hx hb dX12_cut_18 (by decide) ?_
  refine lv_iload_n hx hb dX12_cut_20 rfl (lv_at hl 2 rfl) ?_
  refine lv_imul hx hb dX12_cut_21 ?_
  refine lv_iload_n hx hb dX12_cut_22 rfl (lv_at hl 3 rfl) ?_
  refine lv_iadd hx hb dX12_cut_23 ?_
  refine lv_lload_n hx hb dX12_cut_24 rfl (lv_at hl 4 rfl) ?_
  refine lv_iload hx hb dX12_cut_25 (lv_at hl 0 rfl) ?_
  refine lv_lshl hx hb dX12_cut_27 rfl ?_
  refine lv_iload hx hb dX12_cut_28 (lv_at hl 0 rfl) ?_
  refine lv_lshr hx hb dX12_cut_30 rfl ?_
  obtain ⟨hi31, h⟩ := gd_some h
  refine sJ (j := (((40 : Int32) * v1) + v2).toNatClampNeg) hC hw ok200 on200 hi31 rfl dX12_cut_31 (fun H locs hw => ?_)
  refine lv_aload_n hx hb dX12_cut_32 rfl (lv_at hl 1 rfl) ?_
  refine gR (t := 200) hC hw fl_X12_103 ok171 (by decide) ot171_53 dX12_cut_33 ?_
  refine lv_bipush (v := (40 : Int32)) hx hb dX12_cut_36 (by decide) ?_
  refine lv_iload_n hx hb dX12_cut_38 rfl (lv_at hl 2 rfl) ?_
  refine lv_imul hx hb dX12_cut_39 ?_
  refine lv_iload_n hx hb dX12_cut_40 rfl (lv_at hl 3 rfl) ?_
  refine lv_iadd hx hb dX12_cut_41 ?_
  refine lJ (j := (((40 : Int32) * v1) + v2).toNatClampNeg) hC hw ok200 on200 hi31 rfl dX12_cut_42 ?_
  exact rL hC hw hr hlocks (by rw [← Option.some.inj h]) (by rw [← Option.some.inj h]) dX12_cut_43
set_option maxRecDepth 100000 in
set_option maxHeartbeats 4000000 in
theorem c_X12_image (l : Launch) (g : Gw) (n : Nat) (v1 : Int32) (μ : Mu) (r : Unit × Mu) (h : X12_image n v1 μ = some r) : Ct l g yX12_image cX12_image 2 none 1 [.ref (g.2.2 171), .int v1] μ none r.2 := by
  rw [X12_image] at h
  refine Ct.of (by decide) (Nat.le_of_ble_eq_true rfl) ?_
  intro p e s m args below meth c ls hC hw hr hlocks hl
  have hx := hC.1
  have hb := hC.2.1
  have hl : lv_has ls 2 [(0, .ref (g.2.2 171)), (1, .int v1)] := hl
  have B18 : ∀ (s1 : Int32) (μ : Mu) (H : Heap) (locs : List Loc) (ls : Array Slot), wd g μ s (Aw g s.heap.size) H locs → lv_has ls 2 [(0, .ref (g.2.2 171)), (1, .int v1)] → X12_image_18 n v1 s1 μ = some r → WQ p l e (rmD 1) s m args below meth c g none r.2 H locs (F0 m 18 ls [.int s1, .ref (g.2.2 171)]) := by
    intro s1 μ H locs ls hw hl h
    rw [X12_image_18] at h
    refine pI hC hw fl_X12_107 fp_12_5 ok171 dX12_image_18 (fun H locs hw => ?_)
    refine lv_aload_n hx hb dX12_image_21 rfl (lv_at hl 0 rfl) ?_
    refine gI hC hw fl_X12_107 ok171 (by decide) dX12_image_22 ?_
    refine lv_if_le (tgt := 29) hx hb dX12_image_25 (by decide) (fun hc => ?_) (fun hc => ?_)
    · rw [if_pos hc] at h
      refine lv_aload_n hx hb dX12_image_29 rfl (lv_at hl 0 rfl) ?_
      refine gR (t := 176) hC hw fl_X12_22 ok171 (by decide) ot171_4 dX12_image_30 ?_
      refine lv_iload_n hx hb dX12_image_33 rfl (lv_at hl 1 rfl) ?_
      refine lv_iconst (v := (1 : Int32)) hx hb dX12_image_34 (by decide) ?_
      obtain ⟨hi35, h⟩ := gd_some h
      refine sZ (j := v1.toNatClampNeg) hC hw ok176 on176 hi35 rfl (Or.inr rfl) dX12_image_35 (fun H locs hw => ?_)
      refine lv_aload_n hx hb dX12_image_36 rfl (lv_at hl 0 rfl) ?_
      refine gR (t := 174) hC hw fl_X12_16 ok171 (by decide) ot171_2 dX12_image_37 ?_
      refine lv_iload_n hx hb dX12_image_40 rfl (lv_at hl 1 rfl) ?_
      refine lv_aload_n hx hb dX12_image_41 rfl (lv_at hl 0 rfl) ?_
      refine gR (t := 172) hC hw fl_X12_9 ok171 (by decide) ot171_0 dX12_image_42 ?_
      obtain ⟨r45, hr45, h⟩ := bnd h
      refine cS (As := [.ref (g.2.2 174), .int v1, .ref (g.2.2 172)]) (rest := []) (st1 := []) hC hw (c_X12_puts l g n 174 v1 172 (si (si μ 171 5 s1) 176 v1.toNatClampNeg (1 : Int32)) r45 hr45) ml_X12_319 st_X12_puts rfl hl.1 ⟨Nat.le_of_ble_eq_true rfl, Nat.le_of_ble_eq_true rfl⟩ (Nat.le_of_ble_eq_true rfl) ⟨Nat.zero_le _, Nat.zero_le _⟩ rfl dX12_image_45 (fun H locs hw => ?_)
      exact rV hC hw hr hlocks rfl (by rw [← Option.some.inj h]) dX12_image_48
    · rw [if_neg hc] at h
      exact rV hC hw hr hlocks rfl (by rw [← Option.some.inj h]) dX12_image_28
  refine lv_aload_n hx hb dX12_image_0 rfl (lv_at hl 0 rfl) ?_
  refine lv_iload_n hx hb dX12_image_1 rfl (lv_at hl 1 rfl) ?_
  refine lv_i2l hx hb dX12_image_2 rfl ?_
  refine lv_lconst (v := (0 : Int64)) hx hb dX12_image_3 (by decide) ?_
  refine lv_ldc2 (v := (2 : Int64)) hx hb hC.2.2.2.1 (hC.2.2.2.2.1 _ cl_X12_453) dX12_image_4 ?_
  obtain ⟨r7, hr7, h⟩ := bnd h
  refine cS (As := [.long (v1.toInt64), .long (0 : Int64), .long (2 : Int64)]) (rest := [.ref (g.2.2 171)]) (st1 := [.int r7.1, .ref (g.2.2 171)]) hC hw (c_X12_within l g n (v1.toInt64) (0 : Int64) (2 : Int64) μ r7 hr7) ml_X12_166 st_X12_within rfl hl.1 ⟨Nat.le_of_ble_eq_true rfl, Nat.le_of_ble_eq_true rfl⟩ (Nat.le_of_ble_eq_true rfl) ⟨Nat.zero_le _, Nat.zero_le _⟩ rfl dX12_image_7 (fun H locs hw => ?_)
  refine lv_if_eq (tgt := 17) hx hb dX12_image_10 (by decide) (fun hc => ?_) (fun hc => ?_)
  · rw [if_pos hc] at h
    refine lv_iconst (v := (1 : Int32)) hx hb dX12_image_17 (by decide) ?_
    exact B18 (1 : Int32) r7.2 _ _ _ hw (lv_sub hl [0, 1] rfl) h
  · rw [if_neg hc] at h
    refine lv_iconst (v := (0 : Int32)) hx hb dX12_image_13 (by decide) ?_
    refine lv_goto (tgt := 18) hx hb dX12_image_14 (by decide) ?_
    exact B18 (0 : Int32) r7.2 _ _ _ hw (lv_sub hl [0, 1] rfl) h
set_option maxRecDepth 100000 in
set_option maxHeartbeats 4000000 in
theorem c_X12_restore (l : Launch) (g : Gw) (n : Nat) (v1 : Int32) (μ : Mu) (r : Unit × Mu) (h : X12_restore n v1 μ = some r) : Ct l g yX12_restore cX12_restore 2 none 1 [.ref (g.2.2 171), .int v1] μ none r.2 := by
  rw [X12_restore] at h
  refine Ct.of (by decide) (Nat.le_of_ble_eq_true rfl) ?_
  intro p e s m args below meth c ls hC hw hr hlocks hl
  have hx := hC.1
  have hb := hC.2.1
  have hl : lv_has ls 2 [(0, .ref (g.2.2 171)), (1, .int v1)] := hl
  have B31 : ∀ (s1 : Int32) (μ : Mu) (H : Heap) (locs : List Loc) (ls : Array Slot), wd g μ s (Aw g s.heap.size) H locs → lv_has ls 2 [(0, .ref (g.2.2 171)), (1, .int v1)] → X12_restore_31 n v1 s1 μ = some r → WQ p l e (rmD 1) s m args below meth c g none r.2 H locs (F0 m 31 ls [.int s1, .ref (g.2.2 171)]) := by
    intro s1 μ H locs ls hw hl h
    rw [X12_restore_31] at h
    refine pI hC hw fl_X12_107 fp_12_5 ok171 dX12_restore_31 (fun H locs hw => ?_)
    refine lv_aload_n hx hb dX12_restore_34 rfl (lv_at hl 0 rfl) ?_
    refine gI hC hw fl_X12_107 ok171 (by decide) dX12_restore_35 ?_
    refine lv_if_le (tgt := 42) hx hb dX12_restore_38 (by decide) (fun hc => ?_) (fun hc => ?_)
    · rw [if_pos hc] at h
      refine lv_aload_n hx hb dX12_restore_42 rfl (lv_at hl 0 rfl) ?_
      refine gR (t := 174) hC hw fl_X12_16 ok171 (by decide) ot171_2 dX12_restore_43 ?_
      refine lv_iload_n hx hb dX12_restore_46 rfl (lv_at hl 1 rfl) ?_
      refine lv_aload_n hx hb dX12_restore_47 rfl (lv_at hl 0 rfl) ?_
      refine gR (t := 172) hC hw fl_X12_9 ok171 (by decide) ot171_0 dX12_restore_48 ?_
      obtain ⟨r51, hr51, h⟩ := bnd h
      refine cS (As := [.ref (g.2.2 174), .int v1, .ref (g.2.2 172)]) (rest := []) (st1 := []) hC hw (c_X12_gets l g n 174 v1 172 (si μ 171 5 s1) r51 hr51) ml_X12_332 st_X12_gets rfl hl.1 ⟨Nat.le_of_ble_eq_true rfl, Nat.le_of_ble_eq_true rfl⟩ (Nat.le_of_ble_eq_true rfl) ⟨Nat.zero_le _, Nat.zero_le _⟩ rfl dX12_restore_51 (fun H locs hw => ?_)
      refine lv_aload_n hx hb dX12_restore_54 rfl (lv_at hl 0 rfl) ?_
      refine lv_iconst (v := (0 : Int32)) hx hb dX12_restore_55 (by decide) ?_
      refine pI hC hw fl_X12_239 fp_12_28 ok171 dX12_restore_56 (fun H locs hw => ?_)
      refine lv_aload_n hx hb dX12_restore_59 rfl (lv_at hl 0 rfl) ?_
      refine lv_iconst (v := (0 : Int32)) hx hb dX12_restore_60 (by decide) ?_
      refine pI hC hw fl_X12_242 fp_12_29 ok171 dX12_restore_61 (fun H locs hw => ?_)
      exact rV hC hw hr hlocks rfl (by rw [← Option.some.inj h]) dX12_restore_64
    · rw [if_neg hc] at h
      exact rV hC hw hr hlocks rfl (by rw [← Option.some.inj h]) dX12_restore_41
  refine lv_aload_n hx hb dX12_restore_0 rfl (lv_at hl 0 rfl) ?_
  refine lv_iload_n hx hb dX12_restore_1 rfl (lv_at hl 1 rfl) ?_
  refine lv_i2l hx hb dX12_restore_2 rfl ?_
  refine lv_lconst (v := (0 : Int64)) hx hb dX12_restore_3 (by decide) ?_
  refine lv_ldc2 (v := (2 : Int64)) hx hb hC.2.2.2.1 (hC.2.2.2.2.1 _ cl_X12_453) dX12_restore_4 ?_
  obtain ⟨r7, hr7, h⟩ := bnd h
  refine cS (As := [.long (v1.toInt64), .long (0 : Int64), .long (2 : Int64)]) (rest := [.ref (g.2.2 171)]) (st1 := [.int r7.1, .ref (g.2.2 171)]) hC hw (c_X12_within l g n (v1.toInt64) (0 : Int64) (2 : Int64) μ r7 hr7) ml_X12_166 st_X12_within rfl hl.1 ⟨Nat.le_of_ble_eq_true rfl, Nat.le_of_ble_eq_true rfl⟩ (Nat.le_of_ble_eq_true rfl) ⟨Nat.zero_le _, Nat.zero_le _⟩ rfl dX12_restore_7 (fun H locs hw => ?_)
  refine lv_if_ne (tgt := 17) hx hb dX12_restore_10 (by decide) (fun hc => ?_) (fun hc => ?_)
  · rw [if_neg hc] at h
    refine lv_aload_n hx hb dX12_restore_17 rfl (lv_at hl 0 rfl) ?_
    refine gR (t := 176) hC hw fl_X12_22 ok171 (by decide) ot171_4 dX12_restore_18 ?_
    refine lv_iload_n hx hb dX12_restore_21 rfl (lv_at hl 1 rfl) ?_
    obtain ⟨hi22, h⟩ := gd_some h
    refine lZ (j := v1.toNatClampNeg) hC hw ok176 on176 hi22 rfl dX12_restore_22 ?_
    refine lv_if_ne (tgt := 30) hx hb dX12_restore_23 (by decide) (fun hc => ?_) (fun hc => ?_)
    · rw [if_neg hc] at h
      refine lv_iconst (v := (0 : Int32)) hx hb dX12_restore_30 (by decide) ?_
      exact B31 (0 : Int32) r7.2 _ _ _ hw (lv_sub hl [0, 1] rfl) h
    · rw [if_pos hc] at h
      refine lv_iconst (v := (2 : Int32)) hx hb dX12_restore_26 (by decide) ?_
      refine lv_goto (tgt := 31) hx hb dX12_restore_27 (by decide) ?_
      exact B31 (2 : Int32) r7.2 _ _ _ hw (lv_sub hl [0, 1] rfl) h
  · rw [if_pos hc] at h
    refine lv_iconst (v := (1 : Int32)) hx hb dX12_restore_13 (by decide) ?_
    refine lv_goto (tgt := 31) hx hb dX12_restore_14 (by decide) ?_
    exact B31 (1 : Int32) r7.2 _ _ _ hw (lv_sub hl [0, 1] rfl) h
set_option maxRecDepth 100000 in
set_option maxHeartbeats 4000000 in
theorem c_X12_count (l : Launch) (g : Gw) (n : Nat) (v1 : Int32) (μ : Mu) (r : Int32 × Mu) (h : X12_count n v1 μ = some r) : Ct l g yX12_count cX12_count 4 (some .int) 2 [.ref (g.2.2 171), .int v1] μ (some (.int r.1)) r.2 := by
  rw [X12_count] at h
  refine Ct.of (by decide) (Nat.le_of_ble_eq_true rfl) ?_
  intro p e s m args below meth c ls hC hw hr hlocks hl
  have hx := hC.1
  have hb := hC.2.1
  have hl : lv_has ls 4 [(0, .ref (g.2.2 171)), (1, .int v1)] := hl
  have B9 : ∀ (k : Nat), ∀ (v2 : Int32) (v3 : Int32) (μ : Mu) (H : Heap) (locs : List Loc) (ls : Array Slot), wd g μ s (Aw g s.heap.size) H locs → lv_has ls 4 [(0, .ref (g.2.2 171)), (1, .int v1), (2, .int v2), (3, .int v3)] → lpF (fun _ _ _ => none) (X12_count_9b n v1) k v2 v3 μ = some r → WQ p l e (rmD 2) s m args below meth c g (some (.int r.1)) r.2 H locs (F0 m 9 ls []) := by
    intro k
    induction k with
    | zero =>
      intro v2 v3 μ H locs ls hw hl h
      cases h
    | succ k ih9 =>
      rw [lpF_s]
      generalize lpF (fun _ _ _ => none) (X12_count_9b n v1) k = k9 at ih9 ⊢
      intro v2 v3 μ H locs ls hw hl h
      have B31 : ∀ (v3 : Int32) (s0 : Int32) (s1 : Int32) (μ : Mu) (H : Heap) (locs : List Loc) (ls : Array Slot), wd g μ s (Aw g s.heap.size) H locs → lv_has ls 4 [(0, .ref (g.2.2 171)), (1, .int v1), (3, .int v3)] → X12_count_31 n v1 k9 v3 s0 s1 μ = some r → WQ p l e (rmD 2) s m args below meth c g (some (.int r.1)) r.2 H locs (F0 m 31 ls [.int s1, .int s0]) := by
        intro v3 s0 s1 μ H locs ls hw hl h
        rw [X12_count_31] at h
        refine lv_iadd hx hb dX12_count_31 ?_
        refine lv_istore_n (lv' := [(2, .int (s0 + s1)), (0, .ref (g.2.2 171)), (1, .int v1), (3, .int v3)]) hx hb dX12_count_32 rfl hl (by decide) rfl (fun ls hl => ?_)
        refine lv_iinc (v := (v3 + (1 : Int32))) (lv' := [(3, .int (v3 + (1 : Int32))), (2, .int (s0 + s1)), (0, .ref (g.2.2 171)), (1, .int v1)]) hx hb dX12_count_33 hl (k := 3) rfl rfl (by decide) rfl (fun ls hl => ?_)
        refine lv_goto (tgt := 9) hx hb dX12_count_36 (by decide) ?_
        exact ih9 (s0 + s1) (v3 + (1 : Int32)) μ _ _ _ hw (lv_sub hl [2, 3, 1, 0] rfl) h
      rw [X12_count_9b] at h
      refine lv_iload_n hx hb dX12_count_9 rfl (lv_at hl 3 rfl) ?_
      refine lv_aload_n hx hb dX12_count_10 rfl (lv_at hl 0 rfl) ?_
      obtain ⟨r11, hr11, h⟩ := bnd h
      refine cV (b := 171) (As := []) (rest := [.int v3]) (st1 := [.int r11.1, .int v3]) hC hw (c_X12_pitMany l g n μ r11 hr11) ml_X12_245 im_X12_pitMany se_X12_pitMany ok171 (CN := RX12) (T := TX12) (NF := 54) rfl rfl (by decide) rfl hl.1 ⟨Nat.le_of_ble_eq_true rfl, Nat.le_of_ble_eq_true rfl⟩ (Nat.le_of_ble_eq_true rfl) ⟨Nat.zero_le _, Nat.zero_le _⟩ rfl dX12_count_11 (fun H locs hw => ?_)
      refine lv_icmp_ge (tgt := 39) hx hb dX12_count_14 (by decide) (fun hc => ?_) (fun hc => ?_)
      · rw [if_pos hc] at h
        refine lv_iload_n hx hb dX12_count_39 rfl (lv_at hl 1 rfl) ?_
        by_cases hs40_0 : v1 = (0 : Int32)
        · rw [if_pos hs40_0] at h
          refine lv_tableIn (off := 44) (tgt := 84) hx hb dX12_count_40 (by rw [hs40_0]; decide) (by rw [hs40_0]; decide) (by rw [hs40_0]; decide) (by decide) ?_
          refine lv_aload_n hx hb dX12_count_84 rfl (lv_at hl 0 rfl) ?_
          refine gR (t := 172) hC hw fl_X12_9 ok171 (by decide) ot171_0 dX12_count_85 ?_
          refine lv_iconst (v := (0 : Int32)) hx hb dX12_count_88 (by decide) ?_
          refine lI (j := 0) hC hw ok172 on172 (vin (by decide)) (by decide) dX12_count_89 ?_
          exact rI hC hw hr hlocks (by rw [← Option.some.inj h]) (by rw [← Option.some.inj h]) dX12_count_90
        rw [if_neg hs40_0] at h
        by_cases hs40_1 : v1 = (1 : Int32)
        · rw [if_pos hs40_1] at h
          refine lv_tableIn (off := 51) (tgt := 91) hx hb dX12_count_40 (by rw [hs40_1]; decide) (by rw [hs40_1]; decide) (by rw [hs40_1]; decide) (by decide) ?_
          refine lv_aload_n hx hb dX12_count_91 rfl (lv_at hl 0 rfl) ?_
          refine gR (t := 172) hC hw fl_X12_9 ok171 (by decide) ot171_0 dX12_count_92 ?_
          refine lv_iconst (v := (1 : Int32)) hx hb dX12_count_95 (by decide) ?_
          refine lI (j := 1) hC hw ok172 on172 (vin (by decide)) (by decide) dX12_count_96 ?_
          exact rI hC hw hr hlocks (by rw [← Option.some.inj h]) (by rw [← Option.some.inj h]) dX12_count_97
        rw [if_neg hs40_1] at h
        by_cases hs40_2 : v1 = (2 : Int32)
        · rw [if_pos hs40_2] at h
          refine lv_tableIn (off := 58) (tgt := 98) hx hb dX12_count_40 (by rw [hs40_2]; decide) (by rw [hs40_2]; decide) (by rw [hs40_2]; decide) (by decide) ?_
          refine lv_aload_n hx hb dX12_count_98 rfl (lv_at hl 0 rfl) ?_
          obtain ⟨r99, hr99, h⟩ := bnd h
          refine cV (b := 171) (As := []) (rest := []) (st1 := [.int r99.1]) hC hw (c_X12_seedsNow l g n r11.2 r99 hr99) ml_X12_365 im_X12_seedsNow se_X12_seedsNow ok171 (CN := RX12) (T := TX12) (NF := 54) rfl rfl (by decide) rfl hl.1 ⟨Nat.le_of_ble_eq_true rfl, Nat.le_of_ble_eq_true rfl⟩ (Nat.le_of_ble_eq_true rfl) ⟨Nat.zero_le _, Nat.zero_le _⟩ rfl dX12_count_99 (fun H locs hw => ?_)
          exact rI hC hw hr hlocks (by rw [← Option.some.inj h]) (by rw [← Option.some.inj h]) dX12_count_102
        rw [if_neg hs40_2] at h
        by_cases hs40_3 : v1 = (3 : Int32)
        · rw [if_pos hs40_3] at h
          refine lv_tableIn (off := 63) (tgt := 103) hx hb dX12_count_40 (by rw [hs40_3]; decide) (by rw [hs40_3]; decide) (by rw [hs40_3]; decide) (by decide) ?_
          refine lv_iload_n hx hb dX12_count_103 rfl (lv_at hl 2 rfl) ?_
          exact rI hC hw hr hlocks (by rw [← Option.some.inj h]) (by rw [← Option.some.inj h]) dX12_count_104
        rw [if_neg hs40_3] at h
        by_cases hs40_4 : v1 = (4 : Int32)
        · rw [if_pos hs40_4] at h
          refine lv_tableIn (off := 65) (tgt := 105) hx hb dX12_count_40 (by rw [hs40_4]; decide) (by rw [hs40_4]; decide) (by rw [hs40_4]; decide) (by decide) ?_
          refine lv_aload_n hx hb dX12_count_105 rfl (lv_at hl 0 rfl) ?_
          refine gI hC hw fl_X12_239 ok171 (by decide) dX12_count_106 ?_
          exact rI hC hw hr hlocks (by rw [← Option.some.inj h]) (by rw [← Option.some.inj h]) dX12_count_109
        rw [if_neg hs40_4] at h
        by_cases hs40_5 : v1 = (5 : Int32)
        · rw [if_pos hs40_5] at h
          refine lv_tableIn (off := 70) (tgt := 110) hx hb dX12_count_40 (by rw [hs40_5]; decide) (by rw [hs40_5]; decide) (by rw [hs40_5]; decide) (by decide) ?_
          refine lv_aload_n hx hb dX12_count_110 rfl (lv_at hl 0 rfl) ?_
          refine gI hC hw fl_X12_242 ok171 (by decide) dX12_count_111 ?_
          exact rI hC hw hr hlocks (by rw [← Option.some.inj h]) (by rw [← Option.some.inj h]) dX12_count_114
        rw [if_neg hs40_5] at h
        by_cases hs40_6 : v1 = (6 : Int32)
        · rw [if_pos hs40_6] at h
          refine lv_tableIn (off := 75) (tgt := 115) hx hb dX12_count_40 (by rw [hs40_6]; decide) (by rw [hs40_6]; decide) (by rw [hs40_6]; decide) (by decide) ?_
          refine lv_aload_n hx hb dX12_count_115 rfl (lv_at hl 0 rfl) ?_
          refine gI hC hw fl_X12_110 ok171 (by decide) dX12_count_116 ?_
          exact rI hC hw hr hlocks (by rw [← Option.some.inj h]) (by rw [← Option.some.inj h]) dX12_count_119
        rw [if_neg hs40_6] at h
        have ht0 := lv_neT (a := 0) hs40_0 (by decide)
        have ht1 := lv_neT (a := 1) hs40_1 (by decide)
        have ht2 := lv_neT (a := 2) hs40_2 (by decide)
        have ht3 := lv_neT (a := 3) hs40_3 (by decide)
        have ht4 := lv_neT (a := 4) hs40_4 (by decide)
        have ht5 := lv_neT (a := 5) hs40_5 (by decide)
        have ht6 := lv_neT (a := 6) hs40_6 (by decide)
        refine lv_tableOut (tgt := 120) hx hb dX12_count_40 (by omega) (by decide) ?_
        refine lv_iconst (v := ((-1) : Int32)) hx hb dX12_count_120 (by decide) ?_
        exact rI hC hw hr hlocks (by rw [← Option.some.inj h]) (by rw [← Option.some.inj h]) dX12_count_121
      · rw [if_neg hc] at h
        refine lv_iload_n hx hb dX12_count_17 rfl (lv_at hl 2 rfl) ?_
        refine lv_aload_n hx hb dX12_count_18 rfl (lv_at hl 0 rfl) ?_
        refine lv_iload_n hx hb dX12_count_19 rfl (lv_at hl 3 rfl) ?_
        obtain ⟨r20, hr20, h⟩ := bnd h
        refine cV (b := 171) (As := [.int v3]) (rest := [.int v2]) (st1 := [.int r20.1, .int v2]) hC hw (c_X12_isLacking l g n v3 r11.2 r20 hr20) ml_X12_251 im_X12_isLacking se_X12_isLacking ok171 (CN := RX12) (T := TX12) (NF := 54) rfl rfl (by decide) rfl hl.1 ⟨Nat.le_of_ble_eq_true rfl, Nat.le_of_ble_eq_true rfl⟩ (Nat.le_of_ble_eq_true rfl) ⟨Nat.zero_le _, Nat.zero_le _⟩ rfl dX12_count_20 (fun H locs hw => ?_)
        refine lv_if_eq (tgt := 30) hx hb dX12_count_23 (by decide) (fun hc => ?_) (fun hc => ?_)
        · rw [if_pos hc] at h
          refine lv_iconst (v := (0 : Int32)) hx hb dX12_count_30 (by decide) ?_
          exact B31 v3 v2 (0 : Int32) r20.2 _ _ _ hw (lv_sub hl [0, 1, 3] rfl) h
        · rw [if_neg hc] at h
          refine lv_iconst (v := (1 : Int32)) hx hb dX12_count_26 (by decide) ?_
          refine lv_goto (tgt := 31) hx hb dX12_count_27 (by decide) ?_
          exact B31 v3 v2 (1 : Int32) r20.2 _ _ _ hw (lv_sub hl [0, 1, 3] rfl) h
  refine lv_aload_n hx hb dX12_count_0 rfl (lv_at hl 0 rfl) ?_
  refine lv_iconst (v := (0 : Int32)) hx hb dX12_count_1 (by decide) ?_
  refine pI hC hw fl_X12_107 fp_12_5 ok171 dX12_count_2 (fun H locs hw => ?_)
  refine lv_iconst (v := (0 : Int32)) hx hb dX12_count_5 (by decide) ?_
  refine lv_istore_n (lv' := [(2, .int (0 : Int32)), (0, .ref (g.2.2 171)), (1, .int v1)]) hx hb dX12_count_6 rfl hl (by decide) rfl (fun ls hl => ?_)
  refine lv_iconst (v := (0 : Int32)) hx hb dX12_count_7 (by decide) ?_
  refine lv_istore_n (lv' := [(3, .int (0 : Int32)), (2, .int (0 : Int32)), (0, .ref (g.2.2 171)), (1, .int v1)]) hx hb dX12_count_8 rfl hl (by decide) rfl (fun ls hl => ?_)
  exact B9 n (0 : Int32) (0 : Int32) (si μ 171 5 (0 : Int32)) _ _ _ hw (lv_sub hl [2, 3, 1, 0] rfl) h
set_option maxRecDepth 100000 in
set_option maxHeartbeats 4000000 in
theorem c_J6_bitCount_0f7a4 (l : Launch) (g : Gw) (n : Nat) (v0 : Int32) (μ : Mu) (r : Int32 × Mu) (h : J6_bitCount_0f7a4 n v0 μ = some r) : Ct l g yJ6_bitCount_0f7a4 cJ6_bitCount_0f7a4 1 (some .int) 0 [.int v0] μ (some (.int r.1)) r.2 := by
  rw [J6_bitCount_0f7a4] at h
  refine Ct.of (by decide) (Nat.le_of_ble_eq_true rfl) ?_
  intro p e s m args below meth c ls hC hw hr hlocks hl
  have hx := hC.1
  have hb := hC.2.1
  have hl : lv_has ls 1 [(0, .int v0)] := hl
  refine lv_iload_n hx hb dJ6_bitCount_0f7a4_0 rfl (lv_at hl 0 rfl) ?_
  refine lv_iload_n hx hb dJ6_bitCount_0f7a4_1 rfl (lv_at hl 0 rfl) ?_
  refine lv_iconst (v := (1 : Int32)) hx hb dJ6_bitCount_0f7a4_2 (by decide) ?_
  refine lv_iushr hx hb dJ6_bitCount_0f7a4_3 rfl ?_
  refine lv_ldcw (v := (1431655765 : Int32)) hx hb hC.2.2.2.1 (hC.2.2.2.2.1 _ cn_J6_265) dJ6_bitCount_0f7a4_4 ?_
  refine lv_iand hx hb dJ6_bitCount_0f7a4_7 ?_
  refine lv_isub hx hb dJ6_bitCount_0f7a4_8 ?_
  refine lv_istore_n (lv' := [(0, .int (v0 - (((v0.toUInt32 >>> ((1 : Int32).toUInt32 &&& Int32.toUInt32 31)).toInt32) &&& (1431655765 : Int32))))]) hx hb dJ6_bitCount_0f7a4_9 rfl hl (by decide) rfl (fun ls hl => ?_)
  refine lv_iload_n hx hb dJ6_bitCount_0f7a4_10 rfl (lv_at hl 0 rfl) ?_
  refine lv_ldcw (v := (858993459 : Int32)) hx hb hC.2.2.2.1 (hC.2.2.2.2.1 _ cn_J6_266) dJ6_bitCount_0f7a4_11 ?_
  refine lv_iand hx hb dJ6_bitCount_0f7a4_14 ?_
  refine lv_iload_n hx hb dJ6_bitCount_0f7a4_15 rfl (lv_at hl 0 rfl) ?_
  refine lv_iconst (v := (2 : Int32)) hx hb dJ6_bitCount_0f7a4_16 (by decide) ?_
  refine lv_iushr hx hb dJ6_bitCount_0f7a4_17 rfl ?_
  refine lv_ldcw (v := (858993459 : Int32)) hx hb hC.2.2.2.1 (hC.2.2.2.2.1 _ cn_J6_266) dJ6_bitCount_0f7a4_18 ?_
  refine lv_iand hx hb dJ6_bitCount_0f7a4_21 ?_
  refine lv_iadd hx hb dJ6_bitCount_0f7a4_22 ?_
  refine lv_istore_n (lv' := [(0, .int (((v0 - (((v0.toUInt32 >>> ((1 : Int32).toUInt32 &&& Int32.toUInt32 31)).toInt32) &&& (1431655765 : Int32))) &&& (858993459 : Int32)) + ((((v0 - (((v0.toUInt32 >>> ((1 : Int32).toUInt32 &&& Int32.toUInt32 31)).toInt32) &&& (1431655765 : Int32))).toUInt32 >>> ((2 : Int32).toUInt32 &&& Int32.toUInt32 31)).toInt32) &&& (858993459 : Int32))))]) hx hb dJ6_bitCount_0f7a4_23 rfl hl (by decide) rfl (fun ls hl => ?_)
  refine lv_iload_n hx hb dJ6_bitCount_0f7a4_24 rfl (lv_at hl 0 rfl) ?_
  refine lv_iload_n hx hb dJ6_bitCount_0f7a4_25 rfl (lv_at hl 0 rfl) ?_
  refine lv_iconst (v := (4 : Int32)) hx hb dJ6_bitCount_0f7a4_26 (by decide) ?_
  refine lv_iushr hx hb dJ6_bitCount_0f7a4_27 rfl ?_
  refine lv_iadd hx hb dJ6_bitCount_0f7a4_28 ?_
  refine lv_ldcw (v := (252645135 : Int32)) hx hb hC.2.2.2.1 (hC.2.2.2.2.1 _ cn_J6_267) dJ6_bitCount_0f7a4_29 ?_
  refine lv_iand hx hb dJ6_bitCount_0f7a4_32 ?_
  refine lv_istore_n (lv' := [(0, .int (((((v0 - (((v0.toUInt32 >>> ((1 : Int32).toUInt32 &&& Int32.toUInt32 31)).toInt32) &&& (1431655765 : Int32))) &&& (858993459 : Int32)) + ((((v0 - (((v0.toUInt32 >>> ((1 : Int32).toUInt32 &&& Int32.toUInt32 31)).toInt32) &&& (1431655765 : Int32))).toUInt32 >>> ((2 : Int32).toUInt32 &&& Int32.toUInt32 31)).toInt32) &&& (858993459 : Int32))) + (((((v0 - (((v0.toUInt32 >>> ((1 : Int32).toUInt32 &&& Int32.toUInt32 31)).toInt32) &&& (1431655765 : Int32))) &&& (858993459 : Int32)) + ((((v0 - (((v0.toUInt32 >>> ((1 : Int32).toUInt32 &&& Int32.toUInt32 31)).toInt32) &&& (1431655765 : Int32))).toUInt32 >>> ((2 : Int32).toUInt32 &&& Int32.toUInt32 31)).toInt32) &&& (858993459 : Int32))).toUInt32 >>> ((4 : Int32).toUInt32 &&& Int32.toUInt32 31)).toInt32)) &&& (252645135 : Int32)))]) hx hb dJ6_bitCount_0f7a4_33 rfl hl (by decide) rfl (fun ls hl => ?_)
  refine lv_iload_n hx hb dJ6_bitCount_0f7a4_34 rfl (lv_at hl 0 rfl) ?_
  refine lv_iload_n hx hb dJ6_bitCount_0f7a4_35 rfl (lv_at hl 0 rfl) ?_
  refine lv_bipush (v := (8 : Int32)) hx hb dJ6_bitCount_0f7a4_36 (by decide) ?_
  refine lv_iushr hx hb dJ6_bitCount_0f7a4_38 rfl ?_
  refine lv_iadd hx hb dJ6_bitCount_0f7a4_39 ?_
  refine lv_istore_n (lv' := [(0, .int ((((((v0 - (((v0.toUInt32 >>> ((1 : Int32).toUInt32 &&& Int32.toUInt32 31)).toInt32) &&& (1431655765 : Int32))) &&& (858993459 : Int32)) + ((((v0 - (((v0.toUInt32 >>> ((1 : Int32).toUInt32 &&& Int32.toUInt32 31)).toInt32) &&& (1431655765 : Int32))).toUInt32 >>> ((2 : Int32).toUInt32 &&& Int32.toUInt32 31)).toInt32) &&& (858993459 : Int32))) + (((((v0 - (((v0.toUInt32 >>> ((1 : Int32).toUInt32 &&& Int32.toUInt32 31)).toInt32) &&& (1431655765 : Int32))) &&& (858993459 : Int32)) + ((((v0 - (((v0.toUInt32 >>> ((1 : Int32).toUInt32 &&& Int32.toUInt32 31)).toInt32) &&& (1431655765 : Int32))).toUInt32 >>> ((2 : Int32).toUInt32 &&& Int32.toUInt32 31)).toInt32) &&& (858993459 : Int32))).toUInt32 >>> ((4 : Int32).toUInt32 &&& Int32.toUInt32 31)).toInt32)) &&& (252645135 : Int32)) + (((((((v0 - (((v0.toUInt32 >>> ((1 : Int32).toUInt32 &&& Int32.toUInt32 31)).toInt32) &&& (1431655765 : Int32))) &&& (858993459 : Int32)) + ((((v0 - (((v0.toUInt32 >>> ((1 : Int32).toUInt32 &&& Int32.toUInt32 31)).toInt32) &&& (1431655765 : Int32))).toUInt32 >>> ((2 : Int32).toUInt32 &&& Int32.toUInt32 31)).toInt32) &&& (858993459 : Int32))) + (((((v0 - (((v0.toUInt32 >>> ((1 : Int32).toUInt32 &&& Int32.toUInt32 31)).toInt32) &&& (1431655765 : Int32))) &&& (858993459 : Int32)) + ((((v0 - (((v0.toUInt32 >>> ((1 : Int32).toUInt32 &&& Int32.toUInt32 31)).toInt32) &&& (1431655765 : Int32))).toUInt32 >>> ((2 : Int32).toUInt32 &&& Int32.toUInt32 31)).toInt32) &&& (858993459 : Int32))).toUInt32 >>> ((4 : Int32).toUInt32 &&& Int32.toUInt32 31)).toInt32)) &&& (252645135 : Int32)).toUInt32 >>> ((8 : Int32).toUInt32 &&& Int32.toUInt32 31)).toInt32)))]) hx hb dJ6_bitCount_0f7a4_40 rfl hl (by decide) rfl (fun ls hl => ?_)
  refine lv_iload_n hx hb dJ6_bitCount_0f7a4_41 rfl (lv_at hl 0 rfl) ?_
  refine lv_iload_n hx hb dJ6_bitCount_0f7a4_42 rfl (lv_at hl 0 rfl) ?_
  refine lv_bipush (v := (16 : Int32)) hx hb dJ6_bitCount_0f7a4_43 (by decide) ?_
  refine lv_iushr hx hb dJ6_bitCount_0f7a4_45 rfl ?_
  refine lv_iadd hx hb dJ6_bitCount_0f7a4_46 ?_
  refine lv_istore_n (lv' := [(0, .int (((((((v0 - (((v0.toUInt32 >>> ((1 : Int32).toUInt32 &&& Int32.toUInt32 31)).toInt32) &&& (1431655765 : Int32))) &&& (858993459 : Int32)) + ((((v0 - (((v0.toUInt32 >>> ((1 : Int32).toUInt32 &&& Int32.toUInt32 31)).toInt32) &&& (1431655765 : Int32))).toUInt32 >>> ((2 : Int32).toUInt32 &&& Int32.toUInt32 31)).toInt32) &&& (858993459 : Int32))) + (((((v0 - (((v0.toUInt32 >>> ((1 : Int32).toUInt32 &&& Int32.toUInt32 31)).toInt32) &&& (1431655765 : Int32))) &&& (858993459 : Int32)) + ((((v0 - (((v0.toUInt32 >>> ((1 : Int32).toUInt32 &&& Int32.toUInt32 31)).toInt32) &&& (1431655765 : Int32))).toUInt32 >>> ((2 : Int32).toUInt32 &&& Int32.toUInt32 31)).toInt32) &&& (858993459 : Int32))).toUInt32 >>> ((4 : Int32).toUInt32 &&& Int32.toUInt32 31)).toInt32)) &&& (252645135 : Int32)) + (((((((v0 - (((v0.toUInt32 >>> ((1 : Int32).toUInt32 &&& Int32.toUInt32 31)).toInt32) &&& (1431655765 : Int32))) &&& (858993459 : Int32)) + ((((v0 - (((v0.toUInt32 >>> ((1 : Int32).toUInt32 &&& Int32.toUInt32 31)).toInt32) &&& (1431655765 : Int32))).toUInt32 >>> ((2 : Int32).toUInt32 &&& Int32.toUInt32 31)).toInt32) &&& (858993459 : Int32))) + (((((v0 - (((v0.toUInt32 >>> ((1 : Int32).toUInt32 &&& Int32.toUInt32 31)).toInt32) &&& (1431655765 : Int32))) &&& (858993459 : Int32)) + ((((v0 - (((v0.toUInt32 >>> ((1 : Int32).toUInt32 &&& Int32.toUInt32 31)).toInt32) &&& (1431655765 : Int32))).toUInt32 >>> ((2 : Int32).toUInt32 &&& Int32.toUInt32 31)).toInt32) &&& (858993459 : Int32))).toUInt32 >>> ((4 : Int32).toUInt32 &&& Int32.toUInt32 31)).toInt32)) &&& (252645135 : Int32)).toUInt32 >>> ((8 : Int32).toUInt32 &&& Int32.toUInt32 31)).toInt32)) + ((((((((v0 - (((v0.toUInt32 >>> ((1 : Int32).toUInt32 &&& Int32.toUInt32 31)).toInt32) &&& (1431655765 : Int32))) &&& (858993459 : Int32)) + ((((v0 - (((v0.toUInt32 >>> ((1 : Int32).toUInt32 &&& Int32.toUInt32 31)).toInt32) &&& (1431655765 : Int32))).toUInt32 >>> ((2 : Int32).toUInt32 &&& Int32.toUInt32 31)).toInt32) &&& (858993459 : Int32))) + (((((v0 - (((v0.toUInt32 >>> ((1 : Int32).toUInt32 &&& Int32.toUInt32 31)).toInt32) &&& (1431655765 : Int32))) &&& (858993459 : Int32)) + ((((v0 - (((v0.toUInt32 >>> ((1 : Int32).toUInt32 &&& Int32.toUInt32 31)).toInt32) &&& (1431655765 : Int32))).toUInt32 >>> ((2 : Int32).toUInt32 &&& Int32.toUInt32 31)).toInt32) &&& (858993459 : Int32))).toUInt32 >>> ((4 : Int32).toUInt32 &&& Int32.toUInt32 31)).toInt32)) &&& (252645135 : Int32)) + (((((((v0 - (((v0.toUInt32 >>> ((1 : Int32).toUInt32 &&& Int32.toUInt32 31)).toInt32) &&& (1431655765 : Int32))) &&& (858993459 : Int32)) + ((((v0 - (((v0.toUInt32 >>> ((1 : Int32).toUInt32 &&& Int32.toUInt32 31)).toInt32) &&& (1431655765 : Int32))).toUInt32 >>> ((2 : Int32).toUInt32 &&& Int32.toUInt32 31)).toInt32) &&& (858993459 : Int32))) + (((((v0 - (((v0.toUInt32 >>> ((1 : Int32).toUInt32 &&& Int32.toUInt32 31)).toInt32) &&& (1431655765 : Int32))) &&& (858993459 : Int32)) + ((((v0 - (((v0.toUInt32 >>> ((1 : Int32).toUInt32 &&& Int32.toUInt32 31)).toInt32) &&& (1431655765 : Int32))).toUInt32 >>> ((2 : Int32).toUInt32 &&& Int32.toUInt32 31)).toInt32) &&& (858993459 : Int32))).toUInt32 >>> ((4 : Int32).toUInt32 &&& Int32.toUInt32 31)).toInt32)) &&& (252645135 : Int32)).toUInt32 >>> ((8 : Int32).toUInt32 &&& Int32.toUInt32 31)).toInt32)).toUInt32 >>> ((16 : Int32).toUInt32 &&& Int32.toUInt32 31)).toInt32)))]) hx hb dJ6_bitCount_0f7a4_47 rfl hl (by decide) rfl (fun ls hl => ?_)
  refine lv_iload_n hx hb dJ6_bitCount_0f7a4_48 rfl (lv_at hl 0 rfl) ?_
  refine lv_bipush (v := (63 : Int32)) hx hb dJ6_bitCount_0f7a4_49 (by decide) ?_
  refine lv_iand hx hb dJ6_bitCount_0f7a4_51 ?_
  exact rI hC hw hr hlocks (by rw [← Option.some.inj h]) (by rw [← Option.some.inj h]) dJ6_bitCount_0f7a4_52
set_option maxRecDepth 100000 in
set_option maxHeartbeats 4000000 in
theorem c_X0_note (l : Launch) (g : Gw) (n : Nat) (v1 : Nat) (μ : Mu) (r : Unit × Mu) (h : X0_note n v1 μ = some r) : Ct l g yX0_note cX0_note 11 none 1 [.ref (g.2.2 25), .ref (g.2.2 v1)] μ none r.2 := by
  rw [X0_note] at h
  obtain ⟨hk1, h⟩ := kd_some h
  refine Ct.of (by decide) (Nat.le_of_ble_eq_true rfl) ?_
  intro p e s m args below meth c ls hC hw hr hlocks hl
  have hx := hC.1
  have hb := hC.2.1
  have hl : lv_has ls 11 [(0, .ref (g.2.2 25)), (1, .ref (g.2.2 v1))] := hl
  have B180 : ∀ (μ : Mu) (H : Heap) (locs : List Loc) (ls : Array Slot), wd g μ s (Aw g s.heap.size) H locs → lv_has ls 11 [] → X0_note_180 n v1  μ = some r → WQ p l e (rmD 1) s m args below meth c g none r.2 H locs (F0 m 180 ls []) := by
    intro μ H locs ls hw hl h
    rw [X0_note_180] at h
    exact rV hC hw hr hlocks rfl (by rw [← Option.some.inj h]) dX0_note_180
  have B59 : ∀ (k : Nat), ∀ (v2 : Int64) (v4 : Int64) (v8 : Int32) (v9 : Int32) (μ : Mu) (H : Heap) (locs : List Loc) (ls : Array Slot), wd g μ s (Aw g s.heap.size) H locs → lv_has ls 11 [(0, .ref (g.2.2 25)), (2, .long v2), (4, .long v4), (8, .int v8), (9, .int v9)] → lpF (fun _ _ _ _ _ => none) (X0_note_59b n v1) k v2 v4 v8 v9 μ = some r → WQ p l e (rmD 1) s m args below meth c g none r.2 H locs (F0 m 59 ls []) := by
    intro k
    induction k with
    | zero =>
      intro v2 v4 v8 v9 μ H locs ls hw hl h
      cases h
    | succ k ih59 =>
      rw [lpF_s]
      generalize lpF (fun _ _ _ _ _ => none) (X0_note_59b n v1) k = k59 at ih59 ⊢
      intro v2 v4 v8 v9 μ H locs ls hw hl h
      have B164 : ∀ (v2 : Int64) (v4 : Int64) (v8 : Int32) (v9 : Int32) (μ : Mu) (H : Heap) (locs : List Loc) (ls : Array Slot), wd g μ s (Aw g s.heap.size) H locs → lv_has ls 11 [(0, .ref (g.2.2 25)), (2, .long v2), (4, .long v4), (8, .int v8), (9, .int v9)] → X0_note_164 n v1 k59 v2 v4 v8 v9 μ = some r → WQ p l e (rmD 1) s m args below meth c g none r.2 H locs (F0 m 164 ls []) := by
        intro v2 v4 v8 v9 μ H locs ls hw hl h
        rw [X0_note_164] at h
        refine lv_iload hx hb dX0_note_164 (lv_at hl 3 rfl) ?_
        refine lv_iconst (v := (1 : Int32)) hx hb dX0_note_166 (by decide) ?_
        refine lv_iadd hx hb dX0_note_167 ?_
        refine lv_sipush (v := (4095 : Int32)) hx hb dX0_note_168 (by decide) ?_
        refine lv_iand hx hb dX0_note_171 ?_
        refine lv_istore (lv' := [(8, .int ((v8 + (1 : Int32)) &&& (4095 : Int32))), (0, .ref (g.2.2 25)), (2, .long v2), (4, .long v4), (9, .int v9)]) hx hb dX0_note_172 hl (by decide) rfl (fun ls hl => ?_)
        refine lv_iinc (v := (v9 + (1 : Int32))) (lv' := [(9, .int (v9 + (1 : Int32))), (8, .int ((v8 + (1 : Int32)) &&& (4095 : Int32))), (0, .ref (g.2.2 25)), (2, .long v2), (4, .long v4)]) hx hb dX0_note_174 hl (k := 4) rfl rfl (by decide) rfl (fun ls hl => ?_)
        refine lv_goto (tgt := 59) hx hb dX0_note_177 (by decide) ?_
        exact ih59 v2 v4 ((v8 + (1 : Int32)) &&& (4095 : Int32)) (v9 + (1 : Int32)) μ _ _ _ hw (lv_sub hl [2, 3, 4, 1, 0] rfl) h
      rw [X0_note_59b] at h
      refine lv_iload hx hb dX0_note_59 (lv_at hl 4 rfl) ?_
      refine lv_sipush (v := (4096 : Int32)) hx hb dX0_note_61 (by decide) ?_
      refine lv_icmp_ge (tgt := 180) hx hb dX0_note_64 (by decide) (fun hc => ?_) (fun hc => ?_)
      · rw [if_pos hc] at h
        exact B180 μ _ _ _ hw (lv_sub hl [] rfl) h
      · rw [if_neg hc] at h
        refine lv_aload_n hx hb dX0_note_67 rfl (lv_at hl 0 rfl) ?_
        refine gI hC hw fl_X0_76 ok25 (by decide) dX0_note_68 ?_
        refine lv_sipush (v := (1296 : Int32)) hx hb dX0_note_71 (by decide) ?_
        refine lv_icmp_ge (tgt := 180) hx hb dX0_note_74 (by decide) (fun hc => ?_) (fun hc => ?_)
        · rw [if_pos hc] at h
          exact B180 μ _ _ _ hw (lv_sub hl [] rfl) h
        · rw [if_neg hc] at h
          refine lv_aload_n hx hb dX0_note_77 rfl (lv_at hl 0 rfl) ?_
          refine gR (t := 30) hC hw fl_X0_33 ok25 (by decide) ot25_10 dX0_note_78 ?_
          refine lv_iload hx hb dX0_note_81 (lv_at hl 3 rfl) ?_
          obtain ⟨hi83, h⟩ := gd_some h
          refine lI (j := v8.toNatClampNeg) hC hw ok30 on30 hi83 rfl dX0_note_83 ?_
          refine lv_istore (lv' := [(10, .int (μ.1 30 v8.toNatClampNeg)), (0, .ref (g.2.2 25)), (2, .long v2), (4, .long v4), (8, .int v8), (9, .int v9)]) hx hb dX0_note_84 hl (by decide) rfl (fun ls hl => ?_)
          refine lv_iload hx hb dX0_note_86 (lv_at hl 0 rfl) ?_
          refine lv_if_ne (tgt := 134) hx hb dX0_note_88 (by decide) (fun hc => ?_) (fun hc => ?_)
          · rw [if_neg hc] at h
            refine lv_aload_n hx hb dX0_note_134 rfl (lv_at hl 1 rfl) ?_
            refine gR (t := 28) hC hw fl_X0_26 ok25 (by decide) ot25_8 dX0_note_135 ?_
            refine lv_iload hx hb dX0_note_138 (lv_at hl 0 rfl) ?_
            refine lv_iconst (v := (1 : Int32)) hx hb dX0_note_140 (by decide) ?_
            refine lv_isub hx hb dX0_note_141 ?_
            obtain ⟨hi142, h⟩ := gd_some h
            refine lJ (j := ((μ.1 30 v8.toNatClampNeg) - (1 : Int32)).toNatClampNeg) hC hw ok28 on28 hi142 rfl dX0_note_142 ?_
            refine lv_lload_n hx hb dX0_note_143 rfl (lv_at hl 2 rfl) ?_
            refine W.lcmp hx hb dX0_note_144 ?_
            refine lv_if_ne (tgt := 164) hx hb dX0_note_145 (by decide) (fun hc => ?_) (fun hc => ?_)
            · rw [if_neg hc] at h
              exact B164 v2 v4 v8 v9 μ _ _ _ hw (lv_sub hl [1, 2, 3, 4, 5] rfl) h
            · rw [if_pos hc] at h
              refine lv_aload_n hx hb dX0_note_148 rfl (lv_at hl 1 rfl) ?_
              refine gR (t := 29) hC hw fl_X0_30 ok25 (by decide) ot25_9 dX0_note_149 ?_
              refine lv_iload hx hb dX0_note_152 (lv_at hl 0 rfl) ?_
              refine lv_iconst (v := (1 : Int32)) hx hb dX0_note_154 (by decide) ?_
              refine lv_isub hx hb dX0_note_155 ?_
              refine lJ (j := ((μ.1 30 v8.toNatClampNeg) - (1 : Int32)).toNatClampNeg) hC hw ok29 on29 hi142 rfl dX0_note_156 ?_
              refine lv_lload hx hb dX0_note_157 (lv_at hl 3 rfl) ?_
              refine W.lcmp hx hb dX0_note_159 ?_
              refine lv_if_ne (tgt := 164) hx hb dX0_note_160 (by decide) (fun hc => ?_) (fun hc => ?_)
              · rw [if_neg hc] at h
                exact B164 v2 v4 v8 v9 μ _ _ _ hw (lv_sub hl [1, 2, 3, 4, 5] rfl) h
              · rw [if_pos hc] at h
                exact rV hC hw hr hlocks rfl (by rw [← Option.some.inj h]) dX0_note_163
          · rw [if_pos hc] at h
            refine lv_aload_n hx hb dX0_note_91 rfl (lv_at hl 1 rfl) ?_
            refine gR (t := 28) hC hw fl_X0_26 ok25 (by decide) ot25_8 dX0_note_92 ?_
            refine lv_aload_n hx hb dX0_note_95 rfl (lv_at hl 1 rfl) ?_
            refine gI hC hw fl_X0_76 ok25 (by decide) dX0_note_96 ?_
            refine lv_lload_n hx hb dX0_note_99 rfl (lv_at hl 2 rfl) ?_
            obtain ⟨hi100, h⟩ := gd_some h
            refine sJ (j := (μ.1 25 11).toNatClampNeg) hC hw ok28 on28 hi100 rfl dX0_note_100 (fun H locs hw => ?_)
            refine lv_aload_n hx hb dX0_note_101 rfl (lv_at hl 1 rfl) ?_
            refine gR (t := 29) hC hw fl_X0_30 ok25 (by decide) ot25_9 dX0_note_102 ?_
            refine lv_aload_n hx hb dX0_note_105 rfl (lv_at hl 1 rfl) ?_
            refine gI hC hw fl_X0_76 ok25 (by decide) dX0_note_106 ?_
            refine lv_lload hx hb dX0_note_109 (lv_at hl 3 rfl) ?_
            obtain ⟨hi111, h⟩ := gd_some h
            refine sJ (j := ((sj μ 28 (μ.1 25 11).toNatClampNeg v2).1 25 11).toNatClampNeg) hC hw ok29 on29 hi111 rfl dX0_note_111 (fun H locs hw => ?_)
            refine lv_aload_n hx hb dX0_note_112 rfl (lv_at hl 1 rfl) ?_
            refine lv_dup hx hb dX0_note_113 rfl ?_
            refine gI hC hw fl_X0_76 ok25 (by decide) dX0_note_114 ?_
            refine lv_iconst (v := (1 : Int32)) hx hb dX0_note_117 (by decide) ?_
            refine lv_iadd hx hb dX0_note_118 ?_
            refine pI hC hw fl_X0_76 fp_0_11 ok25 dX0_note_119 (fun H locs hw => ?_)
            refine lv_aload_n hx hb dX0_note_122 rfl (lv_at hl 1 rfl) ?_
            refine gR (t := 30) hC hw fl_X0_33 ok25 (by decide) ot25_10 dX0_note_123 ?_
            refine lv_iload hx hb dX0_note_126 (lv_at hl 4 rfl) ?_
            refine lv_aload_n hx hb dX0_note_128 rfl (lv_at hl 1 rfl) ?_
            refine gI hC hw fl_X0_76 ok25 (by decide) dX0_note_129 ?_
            refine sI (j := v8.toNatClampNeg) hC hw ok30 on30 hi83 rfl dX0_note_132 (fun H locs hw => ?_)
            exact rV hC hw hr hlocks rfl (by rw [← Option.some.inj h]) dX0_note_133
  refine lv_aload_n hx hb dX0_note_0 rfl (lv_at hl 1 rfl) ?_
  refine gR (t := (v1 + 1)) hC hw fl_X0_86 hk1 (by decide) (sc_T hk1) dX0_note_1 ?_
  refine lv_iconst (v := (0 : Int32)) hx hb dX0_note_4 (by decide) ?_
  refine lv_bipush (v := (7 : Int32)) hx hb dX0_note_5 (by decide) ?_
  obtain ⟨r7, hr7, h⟩ := bnd h
  refine cS (As := [.ref (g.2.2 (v1 + 1)), .int (0 : Int32), .int (7 : Int32)]) (rest := []) (st1 := [.long r7.1]) hC hw (c_X0_packed l g n (v1 + 1) (0 : Int32) (7 : Int32) μ r7 hr7) ml_X0_89 st_X0_packed rfl hl.1 ⟨Nat.le_of_ble_eq_true rfl, Nat.le_of_ble_eq_true rfl⟩ (Nat.le_of_ble_eq_true rfl) ⟨Nat.zero_le _, Nat.zero_le _⟩ rfl dX0_note_7 (fun H locs hw => ?_)
  refine lv_lstore_n (lv' := [(2, .long r7.1), (0, .ref (g.2.2 25)), (1, .ref (g.2.2 v1))]) hx hb dX0_note_10 rfl hl (by decide) rfl (fun ls hl => ?_)
  refine lv_aload_n hx hb dX0_note_11 rfl (lv_at hl 2 rfl) ?_
  refine gR (t := (v1 + 1)) hC hw fl_X0_86 hk1 (by decide) (sc_T hk1) dX0_note_12 ?_
  refine lv_bipush (v := (7 : Int32)) hx hb dX0_note_15 (by decide) ?_
  refine lv_bipush (v := (14 : Int32)) hx hb dX0_note_17 (by decide) ?_
  obtain ⟨r19, hr19, h⟩ := bnd h
  refine cS (As := [.ref (g.2.2 (v1 + 1)), .int (7 : Int32), .int (14 : Int32)]) (rest := []) (st1 := [.long r19.1]) hC hw (c_X0_packed l g n (v1 + 1) (7 : Int32) (14 : Int32) r7.2 r19 hr19) ml_X0_89 st_X0_packed rfl hl.1 ⟨Nat.le_of_ble_eq_true rfl, Nat.le_of_ble_eq_true rfl⟩ (Nat.le_of_ble_eq_true rfl) ⟨Nat.zero_le _, Nat.zero_le _⟩ rfl dX0_note_19 (fun H locs hw => ?_)
  refine lv_ldc2 (v := (2 : Int64)) hx hb hC.2.2.2.1 (hC.2.2.2.2.1 _ cl_X0_93) dX0_note_22 ?_
  refine lv_lmul hx hb dX0_note_25 ?_
  refine lv_aload_n hx hb dX0_note_26 rfl (lv_at hl 2 rfl) ?_
  refine gI hC hw fl_X0_95 hk1 (by decide) dX0_note_27 ?_
  refine lv_i2l hx hb dX0_note_30 rfl ?_
  refine lv_ladd hx hb dX0_note_31 ?_
  refine lv_lstore (lv' := [(4, .long ((r19.1 * (2 : Int64)) + ((r19.2.1 v1 1).toInt64))), (2, .long r7.1), (0, .ref (g.2.2 25)), (1, .ref (g.2.2 v1))]) hx hb dX0_note_32 hl (by decide) rfl (fun ls hl => ?_)
  refine lv_lload_n hx hb dX0_note_34 rfl (lv_at hl 1 rfl) ?_
  refine lv_ldc2 (v := (31 : Int64)) hx hb hC.2.2.2.1 (hC.2.2.2.2.1 _ cl_X0_98) dX0_note_35 ?_
  refine lv_lmul hx hb dX0_note_38 ?_
  refine lv_lload hx hb dX0_note_39 (lv_at hl 0 rfl) ?_
  refine lv_ladd hx hb dX0_note_41 ?_
  refine lv_ldc2 (v := ((-7046029254386353131) : Int64)) hx hb hC.2.2.2.1 (hC.2.2.2.2.1 _ cl_X0_100) dX0_note_42 ?_
  refine lv_lmul hx hb dX0_note_45 ?_
  refine lv_lstore (lv' := [(6, .long (((r7.1 * (31 : Int64)) + ((r19.1 * (2 : Int64)) + ((r19.2.1 v1 1).toInt64))) * ((-7046029254386353131) : Int64))), (4, .long ((r19.1 * (2 : Int64)) + ((r19.2.1 v1 1).toInt64))), (2, .long r7.1), (0, .ref (g.2.2 25)), (1, .ref (g.2.2 v1))]) hx hb dX0_note_46 hl (by decide) rfl (fun ls hl => ?_)
  refine lv_lload hx hb dX0_note_48 (lv_at hl 0 rfl) ?_
  refine lv_bipush (v := (52 : Int32)) hx hb dX0_note_50 (by decide) ?_
  refine lv_lushr hx hb dX0_note_52 rfl ?_
  refine lv_l2i hx hb dX0_note_53 rfl ?_
  refine lv_istore (lv' := [(8, .int ((((((r7.1 * (31 : Int64)) + ((r19.1 * (2 : Int64)) + ((r19.2.1 v1 1).toInt64))) * ((-7046029254386353131) : Int64)).toUInt64 >>> ((52 : Int32).toInt64.toUInt64 &&& Int64.toUInt64 63)).toInt64).toInt32)), (6, .long (((r7.1 * (31 : Int64)) + ((r19.1 * (2 : Int64)) + ((r19.2.1 v1 1).toInt64))) * ((-7046029254386353131) : Int64))), (4, .long ((r19.1 * (2 : Int64)) + ((r19.2.1 v1 1).toInt64))), (2, .long r7.1), (0, .ref (g.2.2 25)), (1, .ref (g.2.2 v1))]) hx hb dX0_note_54 hl (by decide) rfl (fun ls hl => ?_)
  refine lv_iconst (v := (0 : Int32)) hx hb dX0_note_56 (by decide) ?_
  refine lv_istore (lv' := [(9, .int (0 : Int32)), (8, .int ((((((r7.1 * (31 : Int64)) + ((r19.1 * (2 : Int64)) + ((r19.2.1 v1 1).toInt64))) * ((-7046029254386353131) : Int64)).toUInt64 >>> ((52 : Int32).toInt64.toUInt64 &&& Int64.toUInt64 63)).toInt64).toInt32)), (6, .long (((r7.1 * (31 : Int64)) + ((r19.1 * (2 : Int64)) + ((r19.2.1 v1 1).toInt64))) * ((-7046029254386353131) : Int64))), (4, .long ((r19.1 * (2 : Int64)) + ((r19.2.1 v1 1).toInt64))), (2, .long r7.1), (0, .ref (g.2.2 25)), (1, .ref (g.2.2 v1))]) hx hb dX0_note_57 hl (by decide) rfl (fun ls hl => ?_)
  exact B59 n r7.1 ((r19.1 * (2 : Int64)) + ((r19.2.1 v1 1).toInt64)) ((((((r7.1 * (31 : Int64)) + ((r19.1 * (2 : Int64)) + ((r19.2.1 v1 1).toInt64))) * ((-7046029254386353131) : Int64)).toUInt64 >>> ((52 : Int32).toInt64.toUInt64 &&& Int64.toUInt64 63)).toInt64).toInt32) (0 : Int32) r19.2 _ _ _ hw (lv_sub hl [5, 4, 3, 1, 0] rfl) h
set_option maxRecDepth 100000 in
set_option maxHeartbeats 4000000 in
theorem c_X1_cellOnWay (l : Launch) (g : Gw) (n : Nat) (v1 : Int32) (v2 : Int32) (μ : Mu) (r : Int32 × Mu) (h : X1_cellOnWay n v1 v2 μ = some r) : Ct l g yX1_cellOnWay cX1_cellOnWay 4 (some .int) 1 [.ref (g.2.2 2), .int v1, .int v2] μ (some (.int r.1)) r.2 := by
  rw [X1_cellOnWay] at h
  refine Ct.of (by decide) (Nat.le_of_ble_eq_true rfl) ?_
  intro p e s m args below meth c ls hC hw hr hlocks hl
  have hx := hC.1
  have hb := hC.2.1
  have hl : lv_has ls 4 [(0, .ref (g.2.2 2)), (1, .int v1), (2, .int v2)] := hl
  have B29 : ∀ (s0 : Int32) (μ : Mu) (H : Heap) (locs : List Loc) (ls : Array Slot), wd g μ s (Aw g s.heap.size) H locs → lv_has ls 4 [] → X1_cellOnWay_29 n v1 v2 s0 μ = some r → WQ p l e (rmD 1) s m args below meth c g (some (.int r.1)) r.2 H locs (F0 m 29 ls [.int s0]) := by
    intro s0 μ H locs ls hw hl h
    rw [X1_cellOnWay_29] at h
    exact rI hC hw hr hlocks (by rw [← Option.some.inj h]) (by rw [← Option.some.inj h]) dX1_cellOnWay_29
  have B70 : ∀ (s0 : Int32) (μ : Mu) (H : Heap) (locs : List Loc) (ls : Array Slot), wd g μ s (Aw g s.heap.size) H locs → lv_has ls 4 [] → X1_cellOnWay_70 n v1 v2 s0 μ = some r → WQ p l e (rmD 1) s m args below meth c g (some (.int r.1)) r.2 H locs (F0 m 70 ls [.int s0]) := by
    intro s0 μ H locs ls hw hl h
    rw [X1_cellOnWay_70] at h
    exact rI hC hw hr hlocks (by rw [← Option.some.inj h]) (by rw [← Option.some.inj h]) dX1_cellOnWay_70
  have B50 : ∀ (s1 : Int32) (s2 : Int32) (μ : Mu) (H : Heap) (locs : List Loc) (ls : Array Slot), wd g μ s (Aw g s.heap.size) H locs → lv_has ls 4 [(0, .ref (g.2.2 2))] → X1_cellOnWay_50 n v1 v2 s1 s2 μ = some r → WQ p l e (rmD 1) s m args below meth c g (some (.int r.1)) r.2 H locs (F0 m 50 ls [.int s2, .int s1, .ref (g.2.2 2)]) := by
    intro s1 s2 μ H locs ls hw hl h
    rw [X1_cellOnWay_50] at h
    obtain ⟨r50, hr50, h⟩ := bnd h
    refine cV (b := 2) (As := [.int s1, .int s2]) (rest := []) (st1 := [.int r50.1]) hC hw (c_X1_pitAsSeen l g n s1 s2 μ r50 hr50) ml_X1_72 im_X1_pitAsSeen se_X1_pitAsSeen ok2 (CN := RX1) (T := TX1) (NF := 7) rfl rfl (by decide) rfl hl.1 ⟨Nat.le_of_ble_eq_true rfl, Nat.le_of_ble_eq_true rfl⟩ (Nat.le_of_ble_eq_true rfl) ⟨Nat.zero_le _, Nat.zero_le _⟩ rfl dX1_cellOnWay_50 (fun H locs hw => ?_)
    refine lv_istore_n (lv' := [(3, .int r50.1), (0, .ref (g.2.2 2))]) hx hb dX1_cellOnWay_53 rfl hl (by decide) rfl (fun ls hl => ?_)
    refine lv_aload_n hx hb dX1_cellOnWay_54 rfl (lv_at hl 1 rfl) ?_
    refine gR (t := 1) hC hw fl_X1_21 ok2 (by decide) ot2_4 dX1_cellOnWay_55 ?_
    refine lv_iload_n hx hb dX1_cellOnWay_58 rfl (lv_at hl 0 rfl) ?_
    obtain ⟨r59, hr59, h⟩ := bnd h
    refine cV (b := 1) (As := [.int r50.1]) (rest := []) (st1 := [.int r59.1]) hC hw (c_X5_isLacking l g n 1 r50.1 r50.2 r59 hr59) ml_X1_75 im_X5_isLacking se_X5_isLacking ok1 (CN := RX5) (T := TX5) (NF := 9) rfl rfl (by decide) rfl hl.1 ⟨Nat.le_of_ble_eq_true rfl, Nat.le_of_ble_eq_true rfl⟩ (Nat.le_of_ble_eq_true rfl) ⟨Nat.zero_le _, Nat.zero_le _⟩ rfl dX1_cellOnWay_59 (fun H locs hw => ?_)
    refine lv_if_eq (tgt := 69) hx hb dX1_cellOnWay_62 (by decide) (fun hc => ?_) (fun hc => ?_)
    · rw [if_pos hc] at h
      refine lv_iload_n hx hb dX1_cellOnWay_69 rfl (lv_at hl 0 rfl) ?_
      exact B70 r50.1 r59.2 _ _ _ hw (lv_sub hl [] rfl) h
    · rw [if_neg hc] at h
      refine lv_iconst (v := ((-1) : Int32)) hx hb dX1_cellOnWay_65 (by decide) ?_
      refine lv_goto (tgt := 70) hx hb dX1_cellOnWay_66 (by decide) ?_
      exact B70 ((-1) : Int32) r59.2 _ _ _ hw (lv_sub hl [] rfl) h
  refine lv_iload_n hx hb dX1_cellOnWay_0 rfl (lv_at hl 2 rfl) ?_
  refine lv_aload_n hx hb dX1_cellOnWay_1 rfl (lv_at hl 0 rfl) ?_
  refine gR (t := 1) hC hw fl_X1_21 ok2 (by decide) ot2_4 dX1_cellOnWay_2 ?_
  refine gI hC hw fl_X1_66 ok1 (by decide) dX1_cellOnWay_5 ?_
  refine lv_icmp_ne (tgt := 30) hx hb dX1_cellOnWay_8 (by decide) (fun hc => ?_) (fun hc => ?_)
  · rw [if_neg hc] at h
    refine lv_aload_n hx hb dX1_cellOnWay_30 rfl (lv_at hl 0 rfl) ?_
    refine lv_iload_n hx hb dX1_cellOnWay_31 rfl (lv_at hl 1 rfl) ?_
    refine lv_iload_n hx hb dX1_cellOnWay_32 rfl (lv_at hl 2 rfl) ?_
    refine lv_aload_n hx hb dX1_cellOnWay_33 rfl (lv_at hl 0 rfl) ?_
    refine gR (t := 1) hC hw fl_X1_21 ok2 (by decide) ot2_4 dX1_cellOnWay_34 ?_
    refine gI hC hw fl_X1_66 ok1 (by decide) dX1_cellOnWay_37 ?_
    refine lv_icmp_ge (tgt := 47) hx hb dX1_cellOnWay_40 (by decide) (fun hc => ?_) (fun hc => ?_)
    · rw [if_pos hc] at h
      refine lv_iload_n hx hb dX1_cellOnWay_47 rfl (lv_at hl 2 rfl) ?_
      refine lv_iconst (v := (1 : Int32)) hx hb dX1_cellOnWay_48 (by decide) ?_
      refine lv_isub hx hb dX1_cellOnWay_49 ?_
      exact B50 v1 (v2 - (1 : Int32)) μ _ _ _ hw (lv_sub hl [0] rfl) h
    · rw [if_neg hc] at h
      refine lv_iload_n hx hb dX1_cellOnWay_43 rfl (lv_at hl 2 rfl) ?_
      refine lv_goto (tgt := 50) hx hb dX1_cellOnWay_44 (by decide) ?_
      exact B50 v1 v2 μ _ _ _ hw (lv_sub hl [0] rfl) h
  · rw [if_pos hc] at h
    refine lv_aload_n hx hb dX1_cellOnWay_11 rfl (lv_at hl 0 rfl) ?_
    refine gR (t := 1) hC hw fl_X1_21 ok2 (by decide) ot2_4 dX1_cellOnWay_12 ?_
    refine gI hC hw fl_X1_57 ok1 (by decide) dX1_cellOnWay_15 ?_
    refine lv_if_eq (tgt := 28) hx hb dX1_cellOnWay_18 (by decide) (fun hc => ?_) (fun hc => ?_)
    · rw [if_pos hc] at h
      refine lv_iconst (v := ((-1) : Int32)) hx hb dX1_cellOnWay_28 (by decide) ?_
      exact B29 ((-1) : Int32) μ _ _ _ hw (lv_sub hl [] rfl) h
    · rw [if_neg hc] at h
      refine lv_bipush (v := (12 : Int32)) hx hb dX1_cellOnWay_21 (by decide) ?_
      refine lv_iload_n hx hb dX1_cellOnWay_23 rfl (lv_at hl 1 rfl) ?_
      refine lv_iadd hx hb dX1_cellOnWay_24 ?_
      refine lv_goto (tgt := 29) hx hb dX1_cellOnWay_25 (by decide) ?_
      exact B29 ((12 : Int32) + v1) μ _ _ _ hw (lv_sub hl [] rfl) h
set_option maxRecDepth 100000 in
set_option maxHeartbeats 4000000 in
theorem c_X1_listSeen (l : Launch) (g : Gw) (n : Nat) (v1 : Int32) (μ : Mu) (r : Unit × Mu) (h : X1_listSeen n v1 μ = some r) : Ct l g yX1_listSeen cX1_listSeen 4 none 1 [.ref (g.2.2 2), .int v1] μ none r.2 := by
  rw [X1_listSeen] at h
  refine Ct.of (by decide) (Nat.le_of_ble_eq_true rfl) ?_
  intro p e s m args below meth c ls hC hw hr hlocks hl
  have hx := hC.1
  have hb := hC.2.1
  have hl : lv_has ls 4 [(0, .ref (g.2.2 2)), (1, .int v1)] := hl
  have B7 : ∀ (k : Nat), ∀ (v2 : Int32) (μ : Mu) (H : Heap) (locs : List Loc) (ls : Array Slot), wd g μ s (Aw g s.heap.size) H locs → lv_has ls 4 [(0, .ref (g.2.2 2)), (1, .int v1), (2, .int v2)] → lpF (fun _ _ => none) (X1_listSeen_7b n v1) k v2 μ = some r → WQ p l e (rmD 1) s m args below meth c g none r.2 H locs (F0 m 7 ls []) := by
    intro k
    induction k with
    | zero =>
      intro v2 μ H locs ls hw hl h
      cases h
    | succ k ih7 =>
      rw [lpF_s]
      generalize lpF (fun _ _ => none) (X1_listSeen_7b n v1) k = k7 at ih7 ⊢
      intro v2 μ H locs ls hw hl h
      have B87 : ∀ (v2 : Int32) (μ : Mu) (H : Heap) (locs : List Loc) (ls : Array Slot), wd g μ s (Aw g s.heap.size) H locs → lv_has ls 4 [(0, .ref (g.2.2 2)), (1, .int v1), (2, .int v2)] → X1_listSeen_87 n v1 k7 v2 μ = some r → WQ p l e (rmD 1) s m args below meth c g none r.2 H locs (F0 m 87 ls []) := by
        intro v2 μ H locs ls hw hl h
        rw [X1_listSeen_87] at h
        refine lv_iinc (v := (v2 + (1 : Int32))) (lv' := [(2, .int (v2 + (1 : Int32))), (0, .ref (g.2.2 2)), (1, .int v1)]) hx hb dX1_listSeen_87 hl (k := 2) rfl rfl (by decide) rfl (fun ls hl => ?_)
        refine lv_goto (tgt := 7) hx hb dX1_listSeen_90 (by decide) ?_
        exact ih7 (v2 + (1 : Int32)) μ _ _ _ hw (lv_sub hl [1, 2, 0] rfl) h
      have B51 : ∀ (v2 : Int32) (v3 : Int32) (μ : Mu) (H : Heap) (locs : List Loc) (ls : Array Slot), wd g μ s (Aw g s.heap.size) H locs → lv_has ls 4 [(0, .ref (g.2.2 2)), (1, .int v1), (2, .int v2), (3, .int v3)] → X1_listSeen_51 n v1 k7 v2 v3 μ = some r → WQ p l e (rmD 1) s m args below meth c g none r.2 H locs (F0 m 51 ls []) := by
        intro v2 v3 μ H locs ls hw hl h
        rw [X1_listSeen_51] at h
        refine lv_aload_n hx hb dX1_listSeen_51 rfl (lv_at hl 0 rfl) ?_
        refine gR (t := 1) hC hw fl_X1_21 ok2 (by decide) ot2_4 dX1_listSeen_52 ?_
        refine lv_iload_n hx hb dX1_listSeen_55 rfl (lv_at hl 3 rfl) ?_
        obtain ⟨r56, hr56, h⟩ := bnd h
        refine cV (b := 1) (As := [.int v3]) (rest := []) (st1 := [.int r56.1]) hC hw (c_X5_isLacking l g n 1 v3 μ r56 hr56) ml_X1_75 im_X5_isLacking se_X5_isLacking ok1 (CN := RX5) (T := TX5) (NF := 9) rfl rfl (by decide) rfl hl.1 ⟨Nat.le_of_ble_eq_true rfl, Nat.le_of_ble_eq_true rfl⟩ (Nat.le_of_ble_eq_true rfl) ⟨Nat.zero_le _, Nat.zero_le _⟩ rfl dX1_listSeen_56 (fun H locs hw => ?_)
        refine lv_if_ne (tgt := 87) hx hb dX1_listSeen_59 (by decide) (fun hc => ?_) (fun hc => ?_)
        · rw [if_neg hc] at h
          exact B87 v2 r56.2 _ _ _ hw (lv_sub hl [0, 1, 2] rfl) h
        · rw [if_pos hc] at h
          refine lv_aload_n hx hb dX1_listSeen_62 rfl (lv_at hl 0 rfl) ?_
          refine gR (t := 4) hC hw fl_X1_15 ok2 (by decide) ot2_5 dX1_listSeen_63 ?_
          refine lv_iload_n hx hb dX1_listSeen_66 rfl (lv_at hl 1 rfl) ?_
          refine lv_bipush (v := (12 : Int32)) hx hb dX1_listSeen_67 (by decide) ?_
          refine lv_imul hx hb dX1_listSeen_69 ?_
          refine lv_aload_n hx hb dX1_listSeen_70 rfl (lv_at hl 0 rfl) ?_
          refine gI hC hw fl_X1_60 ok2 (by decide) dX1_listSeen_71 ?_
          refine lv_iadd hx hb dX1_listSeen_74 ?_
          refine lv_iload_n hx hb dX1_listSeen_75 rfl (lv_at hl 3 rfl) ?_
          obtain ⟨hi76, h⟩ := gd_some h
          refine sI (j := ((v1 * (12 : Int32)) + (r56.2.1 2 1)).toNatClampNeg) hC hw ok4 on4 hi76 rfl dX1_listSeen_76 (fun H locs hw => ?_)
          refine lv_aload_n hx hb dX1_listSeen_77 rfl (lv_at hl 0 rfl) ?_
          refine lv_dup hx hb dX1_listSeen_78 rfl ?_
          refine gI hC hw fl_X1_60 ok2 (by decide) dX1_listSeen_79 ?_
          refine lv_iconst (v := (1 : Int32)) hx hb dX1_listSeen_82 (by decide) ?_
          refine lv_iadd hx hb dX1_listSeen_83 ?_
          refine pI hC hw fl_X1_60 fp_1_1 ok2 dX1_listSeen_84 (fun H locs hw => ?_)
          exact B87 v2 (si (si r56.2 4 ((v1 * (12 : Int32)) + (r56.2.1 2 1)).toNatClampNeg v3) 2 1 (((si r56.2 4 ((v1 * (12 : Int32)) + (r56.2.1 2 1)).toNatClampNeg v3).1 2 1) + (1 : Int32))) _ _ _ hw (lv_sub hl [0, 1, 2] rfl) h
      rw [X1_listSeen_7b] at h
      refine lv_iload_n hx hb dX1_listSeen_7 rfl (lv_at hl 2 rfl) ?_
      refine lv_iconst (v := (2 : Int32)) hx hb dX1_listSeen_8 (by decide) ?_
      refine lv_aload_n hx hb dX1_listSeen_9 rfl (lv_at hl 0 rfl) ?_
      refine gR (t := 1) hC hw fl_X1_21 ok2 (by decide) ot2_4 dX1_listSeen_10 ?_
      refine gI hC hw fl_X1_66 ok1 (by decide) dX1_listSeen_13 ?_
      refine lv_imul hx hb dX1_listSeen_16 ?_
      refine lv_icmp_ge (tgt := 93) hx hb dX1_listSeen_17 (by decide) (fun hc => ?_) (fun hc => ?_)
      · rw [if_pos hc] at h
        exact rV hC hw hr hlocks rfl (by rw [← Option.some.inj h]) dX1_listSeen_93
      · rw [if_neg hc] at h
        refine lv_aload_n hx hb dX1_listSeen_20 rfl (lv_at hl 0 rfl) ?_
        refine lv_iload_n hx hb dX1_listSeen_21 rfl (lv_at hl 1 rfl) ?_
        refine lv_iload_n hx hb dX1_listSeen_22 rfl (lv_at hl 2 rfl) ?_
        obtain ⟨r23, hr23, h⟩ := bnd h
        refine cV (b := 2) (As := [.int v1, .int v2]) (rest := []) (st1 := [.int r23.1]) hC hw (c_X1_pitAsSeen l g n v1 v2 μ r23 hr23) ml_X1_72 im_X1_pitAsSeen se_X1_pitAsSeen ok2 (CN := RX1) (T := TX1) (NF := 7) rfl rfl (by decide) rfl hl.1 ⟨Nat.le_of_ble_eq_true rfl, Nat.le_of_ble_eq_true rfl⟩ (Nat.le_of_ble_eq_true rfl) ⟨Nat.zero_le _, Nat.zero_le _⟩ rfl dX1_listSeen_23 (fun H locs hw => ?_)
        refine lv_istore_n (lv' := [(3, .int r23.1), (0, .ref (g.2.2 2)), (1, .int v1), (2, .int v2)]) hx hb dX1_listSeen_26 rfl hl (by decide) rfl (fun ls hl => ?_)
        refine lv_aload_n hx hb dX1_listSeen_27 rfl (lv_at hl 1 rfl) ?_
        refine gR (t := 1) hC hw fl_X1_21 ok2 (by decide) ot2_4 dX1_listSeen_28 ?_
        refine lv_iload_n hx hb dX1_listSeen_31 rfl (lv_at hl 0 rfl) ?_
        obtain ⟨r32, hr32, h⟩ := bnd h
        refine cV (b := 1) (As := [.int r23.1]) (rest := []) (st1 := [.int r32.1]) hC hw (c_X5_isLacking l g n 1 r23.1 r23.2 r32 hr32) ml_X1_75 im_X5_isLacking se_X5_isLacking ok1 (CN := RX5) (T := TX5) (NF := 9) rfl rfl (by decide) rfl hl.1 ⟨Nat.le_of_ble_eq_true rfl, Nat.le_of_ble_eq_true rfl⟩ (Nat.le_of_ble_eq_true rfl) ⟨Nat.zero_le _, Nat.zero_le _⟩ rfl dX1_listSeen_32 (fun H locs hw => ?_)
        refine lv_aload_n hx hb dX1_listSeen_35 rfl (lv_at hl 1 rfl) ?_
        refine gR (t := 1) hC hw fl_X1_21 ok2 (by decide) ot2_4 dX1_listSeen_36 ?_
        refine lv_iload_n hx hb dX1_listSeen_39 rfl (lv_at hl 3 rfl) ?_
        obtain ⟨r40, hr40, h⟩ := bnd h
        refine cV (b := 1) (As := [.int v2]) (rest := [.int r32.1]) (st1 := [.int r40.1, .int r32.1]) hC hw (c_X5_isLacking l g n 1 v2 r32.2 r40 hr40) ml_X1_75 im_X5_isLacking se_X5_isLacking ok1 (CN := RX5) (T := TX5) (NF := 9) rfl rfl (by decide) rfl hl.1 ⟨Nat.le_of_ble_eq_true rfl, Nat.le_of_ble_eq_true rfl⟩ (Nat.le_of_ble_eq_true rfl) ⟨Nat.zero_le _, Nat.zero_le _⟩ rfl dX1_listSeen_40 (fun H locs hw => ?_)
        refine lv_icmp_eq (tgt := 51) hx hb dX1_listSeen_43 (by decide) (fun hc => ?_) (fun hc => ?_)
        · rw [if_pos hc] at h
          exact B51 v2 r23.1 r40.2 _ _ _ hw (lv_sub hl [1, 2, 3, 0] rfl) h
        · rw [if_neg hc] at h
          refine lv_aload_n hx hb dX1_listSeen_46 rfl (lv_at hl 1 rfl) ?_
          refine lv_iconst (v := (0 : Int32)) hx hb dX1_listSeen_47 (by decide) ?_
          refine pZ hC hw fl_X1_37 fp_1_2 ok2 (Or.inl rfl) dX1_listSeen_48 (fun H locs hw => ?_)
          exact B51 v2 r23.1 (si r40.2 2 2 (0 : Int32)) _ _ _ hw (lv_sub hl [1, 2, 3, 0] rfl) h
  refine lv_aload_n hx hb dX1_listSeen_0 rfl (lv_at hl 0 rfl) ?_
  refine lv_iconst (v := (0 : Int32)) hx hb dX1_listSeen_1 (by decide) ?_
  refine pI hC hw fl_X1_60 fp_1_1 ok2 dX1_listSeen_2 (fun H locs hw => ?_)
  refine lv_iconst (v := (0 : Int32)) hx hb dX1_listSeen_5 (by decide) ?_
  refine lv_istore_n (lv' := [(2, .int (0 : Int32)), (0, .ref (g.2.2 2)), (1, .int v1)]) hx hb dX1_listSeen_6 rfl hl (by decide) rfl (fun ls hl => ?_)
  exact B7 n (0 : Int32) (si μ 2 1 (0 : Int32)) _ _ _ hw (lv_sub hl [1, 2, 0] rfl) h
set_option maxRecDepth 100000 in
set_option maxHeartbeats 4000000 in
theorem c_X1_lay (l : Launch) (g : Gw) (n : Nat) (v1 : Nat) (v2 : Int32) (v3 : Int32) (v4 : Int32) (μ : Mu) (r : Unit × Mu) (h : X1_lay n v1 v2 v3 v4 μ = some r) : Ct l g yX1_lay cX1_lay 11 none 1 [.ref (g.2.2 2), .ref (g.2.2 v1), .int v2, .int v3, .int v4] μ none r.2 := by
  rw [X1_lay] at h
  obtain ⟨hk1, h⟩ := kd_some h
  refine Ct.of (by decide) (Nat.le_of_ble_eq_true rfl) ?_
  intro p e s m args below meth c ls hC hw hr hlocks hl
  have hx := hC.1
  have hb := hC.2.1
  have hl : lv_has ls 11 [(0, .ref (g.2.2 2)), (1, .ref (g.2.2 v1)), (2, .int v2), (3, .int v3), (4, .int v4)] := hl
  have B134 : ∀ (μ : Mu) (H : Heap) (locs : List Loc) (ls : Array Slot), wd g μ s (Aw g s.heap.size) H locs → lv_has ls 11 [] → X1_lay_134 n v1 v2 v3 v4  μ = some r → WQ p l e (rmD 1) s m args below meth c g none r.2 H locs (F0 m 134 ls []) := by
    intro μ H locs ls hw hl h
    rw [X1_lay_134] at h
    exact rV hC hw hr hlocks rfl (by rw [← Option.some.inj h]) dX1_lay_134
  have B25 : ∀ (k : Nat), ∀ (v5 : Int32) (v6 : Int32) (v7 : Int32) (v8 : Int32) (μ : Mu) (H : Heap) (locs : List Loc) (ls : Array Slot), wd g μ s (Aw g s.heap.size) H locs → lv_has ls 11 [(0, .ref (g.2.2 2)), (1, .ref (g.2.2 v1)), (5, .int v5), (6, .int v6), (7, .int v7), (8, .int v8)] → lpF (fun _ _ _ _ _ => none) (X1_lay_25b n v1 v2 v3 v4) k v5 v6 v7 v8 μ = some r → WQ p l e (rmD 1) s m args below meth c g none r.2 H locs (F0 m 25 ls []) := by
    intro k
    induction k with
    | zero =>
      intro v5 v6 v7 v8 μ H locs ls hw hl h
      cases h
    | succ k ih25 =>
      rw [lpF_s]
      generalize lpF (fun _ _ _ _ _ => none) (X1_lay_25b n v1 v2 v3 v4) k = k25 at ih25 ⊢
      intro v5 v6 v7 v8 μ H locs ls hw hl h
      have B104 : ∀ (v5 : Int32) (v6 : Int32) (v7 : Int32) (v8 : Int32) (v10 : Int32) (μ : Mu) (H : Heap) (locs : List Loc) (ls : Array Slot), wd g μ s (Aw g s.heap.size) H locs → lv_has ls 11 [(0, .ref (g.2.2 2)), (1, .ref (g.2.2 v1)), (5, .int v5), (6, .int v6), (7, .int v7), (8, .int v8), (10, .int v10)] → X1_lay_104 n v1 v2 v3 v4 k25 v5 v6 v7 v8 v10 μ = some r → WQ p l e (rmD 1) s m args below meth c g none r.2 H locs (F0 m 104 ls []) := by
        intro v5 v6 v7 v8 v10 μ H locs ls hw hl h
        rw [X1_lay_104] at h
        refine lv_aload_n hx hb dX1_lay_104 rfl (lv_at hl 1 rfl) ?_
        refine gR (t := (v1 + 1)) hC hw fl_X1_84 hk1 (by decide) (sc_T hk1) dX1_lay_105 ?_
        refine lv_aload_n hx hb dX1_lay_108 rfl (lv_at hl 0 rfl) ?_
        refine gR (t := 4) hC hw fl_X1_15 ok2 (by decide) ot2_5 dX1_lay_109 ?_
        refine lv_iload hx hb dX1_lay_112 (lv_at hl 2 rfl) ?_
        refine lv_iload hx hb dX1_lay_114 (lv_at hl 5 rfl) ?_
        refine lv_iadd hx hb dX1_lay_116 ?_
        obtain ⟨hi117, h⟩ := gd_some h
        refine lI (j := (v5 + v8).toNatClampNeg) hC hw ok4 on4 hi117 rfl dX1_lay_117 ?_
        refine lv_iload hx hb dX1_lay_118 (lv_at hl 3 rfl) ?_
        refine lv_iload hx hb dX1_lay_120 (lv_at hl 6 rfl) ?_
        refine lv_isub hx hb dX1_lay_122 ?_
        obtain ⟨hi123, h⟩ := gd_some h
        refine sI (j := (μ.1 4 (v5 + v8).toNatClampNeg).toNatClampNeg) hC hw (sc_K hk1) (sc_N hk1) hi123 rfl dX1_lay_123 (fun H locs hw => ?_)
        refine lv_iload hx hb dX1_lay_124 (lv_at hl 6 rfl) ?_
        refine lv_istore (lv' := [(6, .int v10), (0, .ref (g.2.2 2)), (1, .ref (g.2.2 v1)), (5, .int v5), (7, .int v7), (8, .int v8), (10, .int v10)]) hx hb dX1_lay_126 hl (by decide) rfl (fun ls hl => ?_)
        refine lv_iinc (v := (v8 + (1 : Int32))) (lv' := [(8, .int (v8 + (1 : Int32))), (6, .int v10), (0, .ref (g.2.2 2)), (1, .ref (g.2.2 v1)), (5, .int v5), (7, .int v7), (10, .int v10)]) hx hb dX1_lay_128 hl (k := 5) rfl rfl (by decide) rfl (fun ls hl => ?_)
        refine lv_goto (tgt := 25) hx hb dX1_lay_131 (by decide) ?_
        exact ih25 v5 v10 v7 (v8 + (1 : Int32)) (si μ (v1 + 1) (μ.1 4 (v5 + v8).toNatClampNeg).toNatClampNeg (v6 - v10)) _ _ _ hw (lv_sub hl [2, 3, 4, 1, 5, 0] rfl) h
      have B82 : ∀ (v5 : Int32) (v6 : Int32) (v7 : Int32) (v8 : Int32) (v9 : Int32) (v10 : Int32) (μ : Mu) (H : Heap) (locs : List Loc) (ls : Array Slot), wd g μ s (Aw g s.heap.size) H locs → lv_has ls 11 [(0, .ref (g.2.2 2)), (1, .ref (g.2.2 v1)), (5, .int v5), (6, .int v6), (7, .int v7), (8, .int v8), (9, .int v9), (10, .int v10)] → X1_lay_82 n v1 v2 v3 v4 k25 v5 v6 v7 v8 v9 v10 μ = some r → WQ p l e (rmD 1) s m args below meth c g none r.2 H locs (F0 m 82 ls []) := by
        intro v5 v6 v7 v8 v9 v10 μ H locs ls hw hl h
        rw [X1_lay_82] at h
        refine lv_iload hx hb dX1_lay_82 (lv_at hl 7 rfl) ?_
        refine lv_if_le (tgt := 104) hx hb dX1_lay_84 (by decide) (fun hc => ?_) (fun hc => ?_)
        · rw [if_pos hc] at h
          exact B104 v5 v6 v7 v8 v10 μ _ _ _ hw (lv_sub hl [0, 1, 2, 3, 4, 5, 7] rfl) h
        · rw [if_neg hc] at h
          refine lv_iload hx hb dX1_lay_87 (lv_at hl 4 rfl) ?_
          refine lv_aload_n hx hb dX1_lay_89 rfl (lv_at hl 0 rfl) ?_
          refine gR (t := 5) hC hw fl_X1_18 ok2 (by decide) ot2_6 dX1_lay_90 ?_
          refine lv_iload hx hb dX1_lay_93 (lv_at hl 6 rfl) ?_
          refine lv_iload hx hb dX1_lay_95 (lv_at hl 7 rfl) ?_
          refine lv_iadd hx hb dX1_lay_97 ?_
          refine lv_iconst (v := (1 : Int32)) hx hb dX1_lay_98 (by decide) ?_
          refine lv_isub hx hb dX1_lay_99 ?_
          obtain ⟨hi100, h⟩ := gd_some h
          refine lI (j := ((v9 + v10) - (1 : Int32)).toNatClampNeg) hC hw ok5 on5 hi100 rfl dX1_lay_100 ?_
          refine lv_isub hx hb dX1_lay_101 ?_
          refine lv_istore (lv' := [(7, .int (v7 - (μ.1 5 ((v9 + v10) - (1 : Int32)).toNatClampNeg))), (0, .ref (g.2.2 2)), (1, .ref (g.2.2 v1)), (5, .int v5), (6, .int v6), (8, .int v8), (9, .int v9), (10, .int v10)]) hx hb dX1_lay_102 hl (by decide) rfl (fun ls hl => ?_)
          exact B104 v5 v6 (v7 - (μ.1 5 ((v9 + v10) - (1 : Int32)).toNatClampNeg)) v8 v10 μ _ _ _ hw (lv_sub hl [1, 2, 3, 4, 0, 5, 7] rfl) h
      have B54 : ∀ (k : Nat), ∀ (v5 : Int32) (v6 : Int32) (v7 : Int32) (v8 : Int32) (v9 : Int32) (v10 : Int32) (μ : Mu) (H : Heap) (locs : List Loc) (ls : Array Slot), wd g μ s (Aw g s.heap.size) H locs → lv_has ls 11 [(0, .ref (g.2.2 2)), (1, .ref (g.2.2 v1)), (5, .int v5), (6, .int v6), (7, .int v7), (8, .int v8), (9, .int v9), (10, .int v10)] → lpF (fun _ _ _ _ _ _ _ => none) (X1_lay_54b n v1 v2 v3 v4 k25) k v5 v6 v7 v8 v9 v10 μ = some r → WQ p l e (rmD 1) s m args below meth c g none r.2 H locs (F0 m 54 ls []) := by
        intro k
        induction k with
        | zero =>
          intro v5 v6 v7 v8 v9 v10 μ H locs ls hw hl h
          cases h
        | succ k ih54 =>
          rw [lpF_s]
          generalize lpF (fun _ _ _ _ _ _ _ => none) (X1_lay_54b n v1 v2 v3 v4 k25) k = k54 at ih54 ⊢
          intro v5 v6 v7 v8 v9 v10 μ H locs ls hw hl h
          rw [X1_lay_54b] at h
          refine lv_iload hx hb dX1_lay_54 (lv_at hl 7 rfl) ?_
          refine lv_iload hx hb dX1_lay_56 (lv_at hl 3 rfl) ?_
          refine lv_icmp_ge (tgt := 82) hx hb dX1_lay_58 (by decide) (fun hc => ?_) (fun hc => ?_)
          · rw [if_pos hc] at h
            exact B82 v5 v6 v7 v8 v9 v10 μ _ _ _ hw (lv_sub hl [0, 1, 2, 3, 4, 5, 6, 7] rfl) h
          · rw [if_neg hc] at h
            refine lv_iload hx hb dX1_lay_61 (lv_at hl 4 rfl) ?_
            refine lv_aload_n hx hb dX1_lay_63 rfl (lv_at hl 0 rfl) ?_
            refine gR (t := 5) hC hw fl_X1_18 ok2 (by decide) ot2_6 dX1_lay_64 ?_
            refine lv_iload hx hb dX1_lay_67 (lv_at hl 6 rfl) ?_
            refine lv_iload hx hb dX1_lay_69 (lv_at hl 7 rfl) ?_
            refine lv_iadd hx hb dX1_lay_71 ?_
            obtain ⟨hi72, h⟩ := gd_some h
            refine lI (j := (v9 + v10).toNatClampNeg) hC hw ok5 on5 hi72 rfl dX1_lay_72 ?_
            refine lv_icmp_lt (tgt := 82) hx hb dX1_lay_73 (by decide) (fun hc => ?_) (fun hc => ?_)
            · rw [if_pos hc] at h
              exact B82 v5 v6 v7 v8 v9 v10 μ _ _ _ hw (lv_sub hl [0, 1, 2, 3, 4, 5, 6, 7] rfl) h
            · rw [if_neg hc] at h
              refine lv_iinc (v := (v10 + (1 : Int32))) (lv' := [(10, .int (v10 + (1 : Int32))), (0, .ref (g.2.2 2)), (1, .ref (g.2.2 v1)), (5, .int v5), (6, .int v6), (7, .int v7), (8, .int v8), (9, .int v9)]) hx hb dX1_lay_76 hl (k := 7) rfl rfl (by decide) rfl (fun ls hl => ?_)
              refine lv_goto (tgt := 54) hx hb dX1_lay_79 (by decide) ?_
              exact ih54 v5 v6 v7 v8 v9 (v10 + (1 : Int32)) μ _ _ _ hw (lv_sub hl [1, 2, 3, 4, 5, 6, 7, 0] rfl) h
      rw [X1_lay_25b] at h
      refine lv_iload hx hb dX1_lay_25 (lv_at hl 5 rfl) ?_
      refine lv_aload_n hx hb dX1_lay_27 rfl (lv_at hl 0 rfl) ?_
      refine gI hC hw fl_X1_60 ok2 (by decide) dX1_lay_28 ?_
      refine lv_icmp_ge (tgt := 134) hx hb dX1_lay_31 (by decide) (fun hc => ?_) (fun hc => ?_)
      · rw [if_pos hc] at h
        exact B134 μ _ _ _ hw (lv_sub hl [] rfl) h
      · rw [if_neg hc] at h
        refine lv_iload hx hb dX1_lay_34 (lv_at hl 3 rfl) ?_
        refine lv_if_le (tgt := 134) hx hb dX1_lay_36 (by decide) (fun hc => ?_) (fun hc => ?_)
        · rw [if_pos hc] at h
          exact B134 μ _ _ _ hw (lv_sub hl [] rfl) h
        · rw [if_neg hc] at h
          refine lv_aload_n hx hb dX1_lay_39 rfl (lv_at hl 0 rfl) ?_
          refine gI hC hw fl_X1_60 ok2 (by decide) dX1_lay_40 ?_
          refine lv_iload hx hb dX1_lay_43 (lv_at hl 5 rfl) ?_
          refine lv_isub hx hb dX1_lay_45 ?_
          refine lv_bipush (v := (41 : Int32)) hx hb dX1_lay_46 (by decide) ?_
          refine lv_imul hx hb dX1_lay_48 ?_
          refine lv_istore (lv' := [(9, .int (((μ.1 2 1) - v8) * (41 : Int32))), (0, .ref (g.2.2 2)), (1, .ref (g.2.2 v1)), (5, .int v5), (6, .int v6), (7, .int v7), (8, .int v8)]) hx hb dX1_lay_49 hl (by decide) rfl (fun ls hl => ?_)
          refine lv_iconst (v := (0 : Int32)) hx hb dX1_lay_51 (by decide) ?_
          refine lv_istore (lv' := [(10, .int (0 : Int32)), (9, .int (((μ.1 2 1) - v8) * (41 : Int32))), (0, .ref (g.2.2 2)), (1, .ref (g.2.2 v1)), (5, .int v5), (6, .int v6), (7, .int v7), (8, .int v8)]) hx hb dX1_lay_52 hl (by decide) rfl (fun ls hl => ?_)
          exact B54 n v5 v6 v7 v8 (((μ.1 2 1) - v8) * (41 : Int32)) (0 : Int32) μ _ _ _ hw (lv_sub hl [2, 3, 4, 5, 6, 7, 1, 0] rfl) h
  refine lv_aload_n hx hb dX1_lay_0 rfl (lv_at hl 1 rfl) ?_
  obtain ⟨r1, hr1, h⟩ := bnd h
  refine cV (b := v1) (As := []) (rest := []) (st1 := []) hC hw (c_X6_clear l g n v1 μ r1 hr1) ml_X1_87 im_X6_clear se_X6_clear hk1 (CN := RX6) (T := TX6) (NF := 2) rfl rfl (by decide) rfl hl.1 ⟨Nat.le_of_ble_eq_true rfl, Nat.le_of_ble_eq_true rfl⟩ (Nat.le_of_ble_eq_true rfl) ⟨Nat.zero_le _, Nat.zero_le _⟩ rfl dX1_lay_1 (fun H locs hw => ?_)
  refine lv_aload_n hx hb dX1_lay_4 rfl (lv_at hl 1 rfl) ?_
  refine lv_iload_n hx hb dX1_lay_5 rfl (lv_at hl 2 rfl) ?_
  refine pI hC hw fl_X1_79 fp_6_1 hk1 dX1_lay_6 (fun H locs hw => ?_)
  refine lv_iload_n hx hb dX1_lay_9 rfl (lv_at hl 2 rfl) ?_
  refine lv_bipush (v := (12 : Int32)) hx hb dX1_lay_10 (by decide) ?_
  refine lv_imul hx hb dX1_lay_12 ?_
  refine lv_istore (lv' := [(5, .int (v2 * (12 : Int32))), (0, .ref (g.2.2 2)), (1, .ref (g.2.2 v1)), (2, .int v2), (3, .int v3), (4, .int v4)]) hx hb dX1_lay_13 hl (by decide) rfl (fun ls hl => ?_)
  refine lv_iload_n hx hb dX1_lay_15 rfl (lv_at hl 4 rfl) ?_
  refine lv_istore (lv' := [(6, .int v3), (5, .int (v2 * (12 : Int32))), (0, .ref (g.2.2 2)), (1, .ref (g.2.2 v1)), (2, .int v2), (3, .int v3), (4, .int v4)]) hx hb dX1_lay_16 hl (by decide) rfl (fun ls hl => ?_)
  refine lv_iload hx hb dX1_lay_18 (lv_at hl 6 rfl) ?_
  refine lv_istore (lv' := [(7, .int v4), (6, .int v3), (5, .int (v2 * (12 : Int32))), (0, .ref (g.2.2 2)), (1, .ref (g.2.2 v1)), (2, .int v2), (3, .int v3), (4, .int v4)]) hx hb dX1_lay_20 hl (by decide) rfl (fun ls hl => ?_)
  refine lv_iconst (v := (0 : Int32)) hx hb dX1_lay_22 (by decide) ?_
  refine lv_istore (lv' := [(8, .int (0 : Int32)), (7, .int v4), (6, .int v3), (5, .int (v2 * (12 : Int32))), (0, .ref (g.2.2 2)), (1, .ref (g.2.2 v1)), (2, .int v2), (3, .int v3), (4, .int v4)]) hx hb dX1_lay_23 hl (by decide) rfl (fun ls hl => ?_)
  exact B25 n (v2 * (12 : Int32)) v3 v4 (0 : Int32) (si r1.2 v1 1 v2) _ _ _ hw (lv_sub hl [4, 5, 3, 2, 1, 0] rfl) h
set_option maxRecDepth 100000 in
set_option maxHeartbeats 4000000 in
theorem c_X3_keep (l : Launch) (g : Gw) (n : Nat) (v1 : Nat) (v2 : Int32) (μ : Mu) (r : Unit × Mu) (h : X3_keep n v1 v2 μ = some r) : Ct l g yX3_keep cX3_keep 4 none 2 [.ref (g.2.2 9), .ref (g.2.2 v1), .int v2] μ none r.2 := by
  rw [X3_keep] at h
  obtain ⟨hk1, h⟩ := kd_some h
  refine Ct.of (by decide) (Nat.le_of_ble_eq_true rfl) ?_
  intro p e s m args below meth c ls hC hw hr hlocks hl
  have hx := hC.1
  have hb := hC.2.1
  have hl : lv_has ls 4 [(0, .ref (g.2.2 9)), (1, .ref (g.2.2 v1)), (2, .int v2)] := hl
  have B28 : ∀ (μ : Mu) (H : Heap) (locs : List Loc) (ls : Array Slot), wd g μ s (Aw g s.heap.size) H locs → lv_has ls 4 [(0, .ref (g.2.2 9)), (1, .ref (g.2.2 v1)), (2, .int v2)] → X3_keep_28 n v1 v2  μ = some r → WQ p l e (rmD 2) s m args below meth c g none r.2 H locs (F0 m 28 ls []) := by
    intro μ H locs ls hw hl h
    rw [X3_keep_28] at h
    refine lv_aload_n hx hb dX3_keep_28 rfl (lv_at hl 0 rfl) ?_
    refine lv_aload_n hx hb dX3_keep_29 rfl (lv_at hl 0 rfl) ?_
    refine gI hC hw fl_X3_22 ok9 (by decide) dX3_keep_30 ?_
    obtain ⟨r33, hr33, h⟩ := bnd h
    refine cV (b := 9) (As := [.int (μ.1 9 0)]) (rest := []) (st1 := [.int r33.1]) hC hw (c_X3_slot l g n (μ.1 9 0) μ r33 hr33) ml_X3_32 im_X3_slot se_X3_slot ok9 (CN := RX3) (T := TX3) (NF := 5) rfl rfl (by decide) rfl hl.1 ⟨Nat.le_of_ble_eq_true rfl, Nat.le_of_ble_eq_true rfl⟩ (Nat.le_of_ble_eq_true rfl) ⟨Nat.zero_le _, Nat.zero_le _⟩ rfl dX3_keep_33 (fun H locs hw => ?_)
    refine lv_istore_n (lv' := [(3, .int r33.1), (0, .ref (g.2.2 9)), (1, .ref (g.2.2 v1)), (2, .int v2)]) hx hb dX3_keep_36 rfl hl (by decide) rfl (fun ls hl => ?_)
    refine lv_aload_n hx hb dX3_keep_37 rfl (lv_at hl 1 rfl) ?_
    refine gR (t := 10) hC hw fl_X3_9 ok9 (by decide) ot9_3 dX3_keep_38 ?_
    refine lv_iload_n hx hb dX3_keep_41 rfl (lv_at hl 0 rfl) ?_
    refine lv_iload_n hx hb dX3_keep_42 rfl (lv_at hl 3 rfl) ?_
    obtain ⟨hi43, h⟩ := gd_some h
    refine sI (j := r33.1.toNatClampNeg) hC hw ok10 on10 hi43 rfl dX3_keep_43 (fun H locs hw => ?_)
    refine lv_aload_n hx hb dX3_keep_44 rfl (lv_at hl 1 rfl) ?_
    refine gR (t := 11) hC hw fl_X3_17 ok9 (by decide) ot9_4 dX3_keep_45 ?_
    refine lv_iload_n hx hb dX3_keep_48 rfl (lv_at hl 0 rfl) ?_
    have ha49 : oK (69 + 2 * r33.1.toNatClampNeg) = 6 := aK11 hi43 rfl
    refine lA (t := (69 + 2 * r33.1.toNatClampNeg)) (CN := "SowingHouse$Scene") hC hw ok11 (by decide) rfl on11 hi43 (aT11 hi43 rfl) dX3_keep_49 (by decide) ?_
    refine lv_aload_n hx hb dX3_keep_50 rfl (lv_at hl 2 rfl) ?_
    obtain ⟨r51, hr51, h⟩ := bnd h
    refine cV (b := (69 + 2 * r33.1.toNatClampNeg)) (As := [.ref (g.2.2 v1)]) (rest := []) (st1 := []) hC hw (c_X6_copy l g n (69 + 2 * r33.1.toNatClampNeg) v1 (si r33.2 10 r33.1.toNatClampNeg v2) r51 hr51) ml_X3_36 im_X6_copy se_X6_copy ha49 (CN := RX6) (T := TX6) (NF := 2) rfl rfl (by decide) rfl hl.1 ⟨Nat.le_of_ble_eq_true rfl, Nat.le_of_ble_eq_true rfl⟩ (Nat.le_of_ble_eq_true rfl) ⟨Nat.zero_le _, Nat.zero_le _⟩ rfl dX3_keep_51 (fun H locs hw => ?_)
    refine lv_aload_n hx hb dX3_keep_54 rfl (lv_at hl 1 rfl) ?_
    refine lv_dup hx hb dX3_keep_55 rfl ?_
    refine gI hC hw fl_X3_22 ok9 (by decide) dX3_keep_56 ?_
    refine lv_iconst (v := (1 : Int32)) hx hb dX3_keep_59 (by decide) ?_
    refine lv_iadd hx hb dX3_keep_60 ?_
    refine pI hC hw fl_X3_22 fp_3_0 ok9 dX3_keep_61 (fun H locs hw => ?_)
    refine lv_aload_n hx hb dX3_keep_64 rfl (lv_at hl 1 rfl) ?_
    refine lv_iconst (v := (0 : Int32)) hx hb dX3_keep_65 (by decide) ?_
    refine pI hC hw fl_X3_26 fp_3_1 ok9 dX3_keep_66 (fun H locs hw => ?_)
    exact rV hC hw hr hlocks rfl (by rw [← Option.some.inj h]) dX3_keep_69
  refine lv_aload_n hx hb dX3_keep_0 rfl (lv_at hl 0 rfl) ?_
  refine gI hC hw fl_X3_22 ok9 (by decide) dX3_keep_1 ?_
  refine lv_bipush (v := (40 : Int32)) hx hb dX3_keep_4 (by decide) ?_
  refine lv_icmp_ne (tgt := 28) hx hb dX3_keep_6 (by decide) (fun hc => ?_) (fun hc => ?_)
  · rw [if_neg hc] at h
    exact B28 μ _ _ _ hw (lv_sub hl [0, 1, 2] rfl) h
  · rw [if_pos hc] at h
    refine lv_aload_n hx hb dX3_keep_9 rfl (lv_at hl 0 rfl) ?_
    refine lv_aload_n hx hb dX3_keep_10 rfl (lv_at hl 0 rfl) ?_
    refine lv_iconst (v := (1 : Int32)) hx hb dX3_keep_11 (by decide) ?_
    obtain ⟨r12, hr12, h⟩ := bnd h
    refine cV (b := 9) (As := [.int (1 : Int32)]) (rest := [.ref (g.2.2 9)]) (st1 := [.int r12.1, .ref (g.2.2 9)]) hC hw (c_X3_slot l g n (1 : Int32) μ r12 hr12) ml_X3_32 im_X3_slot se_X3_slot ok9 (CN := RX3) (T := TX3) (NF := 5) rfl rfl (by decide) rfl hl.1 ⟨Nat.le_of_ble_eq_true rfl, Nat.le_of_ble_eq_true rfl⟩ (Nat.le_of_ble_eq_true rfl) ⟨Nat.zero_le _, Nat.zero_le _⟩ rfl dX3_keep_12 (fun H locs hw => ?_)
    refine pI hC hw fl_X3_29 fp_3_2 ok9 dX3_keep_15 (fun H locs hw => ?_)
    refine lv_aload_n hx hb dX3_keep_18 rfl (lv_at hl 0 rfl) ?_
    refine lv_dup hx hb dX3_keep_19 rfl ?_
    refine gI hC hw fl_X3_22 ok9 (by decide) dX3_keep_20 ?_
    refine lv_iconst (v := (1 : Int32)) hx hb dX3_keep_23 (by decide) ?_
    refine lv_isub hx hb dX3_keep_24 ?_
    refine pI hC hw fl_X3_22 fp_3_0 ok9 dX3_keep_25 (fun H locs hw => ?_)
    exact B28 (si (si r12.2 9 2 r12.1) 9 0 (((si r12.2 9 2 r12.1).1 9 0) - (1 : Int32))) _ _ _ hw (lv_sub hl [0, 1, 2] rfl) h
set_option maxRecDepth 100000 in
set_option maxHeartbeats 4000000 in
theorem c_X3_back (l : Launch) (g : Gw) (n : Nat) (v1 : Nat) (μ : Mu) (r : Unit × Mu) (h : X3_back n v1 μ = some r) : Ct l g yX3_back cX3_back 2 none 2 [.ref (g.2.2 9), .ref (g.2.2 v1)] μ none r.2 := by
  rw [X3_back] at h
  obtain ⟨hk1, h⟩ := kd_some h
  refine Ct.of (by decide) (Nat.le_of_ble_eq_true rfl) ?_
  intro p e s m args below meth c ls hC hw hr hlocks hl
  have hx := hC.1
  have hb := hC.2.1
  have hl : lv_has ls 2 [(0, .ref (g.2.2 9)), (1, .ref (g.2.2 v1))] := hl
  refine lv_aload_n hx hb dX3_back_0 rfl (lv_at hl 0 rfl) ?_
  refine lv_dup hx hb dX3_back_1 rfl ?_
  refine gI hC hw fl_X3_22 ok9 (by decide) dX3_back_2 ?_
  refine lv_iconst (v := (1 : Int32)) hx hb dX3_back_5 (by decide) ?_
  refine lv_isub hx hb dX3_back_6 ?_
  refine pI hC hw fl_X3_22 fp_3_0 ok9 dX3_back_7 (fun H locs hw => ?_)
  refine lv_aload_n hx hb dX3_back_10 rfl (lv_at hl 0 rfl) ?_
  refine lv_dup hx hb dX3_back_11 rfl ?_
  refine gI hC hw fl_X3_26 ok9 (by decide) dX3_back_12 ?_
  refine lv_iconst (v := (1 : Int32)) hx hb dX3_back_15 (by decide) ?_
  refine lv_iadd hx hb dX3_back_16 ?_
  refine pI hC hw fl_X3_26 fp_3_1 ok9 dX3_back_17 (fun H locs hw => ?_)
  refine lv_aload_n hx hb dX3_back_20 rfl (lv_at hl 1 rfl) ?_
  refine lv_aload_n hx hb dX3_back_21 rfl (lv_at hl 0 rfl) ?_
  refine gR (t := 11) hC hw fl_X3_17 ok9 (by decide) ot9_4 dX3_back_22 ?_
  refine lv_aload_n hx hb dX3_back_25 rfl (lv_at hl 0 rfl) ?_
  refine lv_aload_n hx hb dX3_back_26 rfl (lv_at hl 0 rfl) ?_
  refine gI hC hw fl_X3_22 ok9 (by decide) dX3_back_27 ?_
  obtain ⟨r30, hr30, h⟩ := bnd h
  refine cV (b := 9) (As := [.int ((si (si μ 9 0 ((μ.1 9 0) - (1 : Int32))) 9 1 (((si μ 9 0 ((μ.1 9 0) - (1 : Int32))).1 9 1) + (1 : Int32))).1 9 0)]) (rest := [.ref (g.2.2 11), .ref (g.2.2 v1)]) (st1 := [.int r30.1, .ref (g.2.2 11), .ref (g.2.2 v1)]) hC hw (c_X3_slot l g n ((si (si μ 9 0 ((μ.1 9 0) - (1 : Int32))) 9 1 (((si μ 9 0 ((μ.1 9 0) - (1 : Int32))).1 9 1) + (1 : Int32))).1 9 0) (si (si μ 9 0 ((μ.1 9 0) - (1 : Int32))) 9 1 (((si μ 9 0 ((μ.1 9 0) - (1 : Int32))).1 9 1) + (1 : Int32))) r30 hr30) ml_X3_32 im_X3_slot se_X3_slot ok9 (CN := RX3) (T := TX3) (NF := 5) rfl rfl (by decide) rfl hl.1 ⟨Nat.le_of_ble_eq_true rfl, Nat.le_of_ble_eq_true rfl⟩ (Nat.le_of_ble_eq_true rfl) ⟨Nat.zero_le _, Nat.zero_le _⟩ rfl dX3_back_30 (fun H locs hw => ?_)
  obtain ⟨hi33, h⟩ := gd_some h
  have ha33 : oK (69 + 2 * r30.1.toNatClampNeg) = 6 := aK11 hi33 rfl
  refine lA (t := (69 + 2 * r30.1.toNatClampNeg)) (CN := "SowingHouse$Scene") hC hw ok11 (by decide) rfl on11 hi33 (aT11 hi33 rfl) dX3_back_33 (by decide) ?_
  obtain ⟨r34, hr34, h⟩ := bnd h
  refine cV (b := v1) (As := [.ref (g.2.2 (69 + 2 * r30.1.toNatClampNeg))]) (rest := []) (st1 := []) hC hw (c_X6_copy l g n v1 (69 + 2 * r30.1.toNatClampNeg) r30.2 r34 hr34) ml_X3_36 im_X6_copy se_X6_copy hk1 (CN := RX6) (T := TX6) (NF := 2) rfl rfl (by decide) rfl hl.1 ⟨Nat.le_of_ble_eq_true rfl, Nat.le_of_ble_eq_true rfl⟩ (Nat.le_of_ble_eq_true rfl) ⟨Nat.zero_le _, Nat.zero_le _⟩ rfl dX3_back_34 (fun H locs hw => ?_)
  exact rV hC hw hr hlocks rfl (by rw [← Option.some.inj h]) dX3_back_37
set_option maxRecDepth 100000 in
set_option maxHeartbeats 4000000 in
theorem c_X4_isSound (l : Launch) (g : Gw) (n : Nat) (μ : Mu) (r : Int32 × Mu) (h : X4_isSound n  μ = some r) : Ct l g yX4_isSound cX4_isSound 2 (some .boolean) 1 [.ref (g.2.2 12)] μ (some (.int r.1)) r.2 := by
  rw [X4_isSound] at h
  refine Ct.of (by decide) (Nat.le_of_ble_eq_true rfl) ?_
  intro p e s m args below meth c ls hC hw hr hlocks hl
  have hx := hC.1
  have hb := hC.2.1
  have hl : lv_has ls 2 [(0, .ref (g.2.2 12))] := hl
  have B56 : ∀ (s0 : Int32) (μ : Mu) (H : Heap) (locs : List Loc) (ls : Array Slot), wd g μ s (Aw g s.heap.size) H locs → lv_has ls 2 [] → X4_isSound_56 n s0 μ = some r → WQ p l e (rmD 1) s m args below meth c g (some (.int r.1)) r.2 H locs (F0 m 56 ls [.int s0]) := by
    intro s0 μ H locs ls hw hl h
    rw [X4_isSound_56] at h
    obtain ⟨hz56, h⟩ := bz_some h
    exact rZ hC hw hr hlocks hz56 (by rw [← Option.some.inj h]) (by rw [← Option.some.inj h]) dX4_isSound_56
  have B2 : ∀ (k : Nat), ∀ (v1 : Int32) (μ : Mu) (H : Heap) (locs : List Loc) (ls : Array Slot), wd g μ s (Aw g s.heap.size) H locs → lv_has ls 2 [(0, .ref (g.2.2 12)), (1, .int v1)] → lpF (fun _ _ => none) (X4_isSound_2b n) k v1 μ = some r → WQ p l e (rmD 1) s m args below meth c g (some (.int r.1)) r.2 H locs (F0 m 2 ls []) := by
    intro k
    induction k with
    | zero =>
      intro v1 μ H locs ls hw hl h
      cases h
    | succ k ih2 =>
      rw [lpF_s]
      generalize lpF (fun _ _ => none) (X4_isSound_2b n) k = k2 at ih2 ⊢
      intro v1 μ H locs ls hw hl h
      have B33 : ∀ (v1 : Int32) (μ : Mu) (H : Heap) (locs : List Loc) (ls : Array Slot), wd g μ s (Aw g s.heap.size) H locs → lv_has ls 2 [(0, .ref (g.2.2 12)), (1, .int v1)] → X4_isSound_33 n k2 v1 μ = some r → WQ p l e (rmD 1) s m args below meth c g (some (.int r.1)) r.2 H locs (F0 m 33 ls []) := by
        intro v1 μ H locs ls hw hl h
        rw [X4_isSound_33] at h
        refine lv_iinc (v := (v1 + (1 : Int32))) (lv' := [(1, .int (v1 + (1 : Int32))), (0, .ref (g.2.2 12))]) hx hb dX4_isSound_33 hl (k := 1) rfl rfl (by decide) rfl (fun ls hl => ?_)
        refine lv_goto (tgt := 2) hx hb dX4_isSound_36 (by decide) ?_
        exact ih2 (v1 + (1 : Int32)) μ _ _ _ hw (lv_sub hl [1, 0] rfl) h
      rw [X4_isSound_2b] at h
      refine lv_iload_n hx hb dX4_isSound_2 rfl (lv_at hl 1 rfl) ?_
      refine lv_bipush (v := (12 : Int32)) hx hb dX4_isSound_3 (by decide) ?_
      refine lv_icmp_ge (tgt := 39) hx hb dX4_isSound_5 (by decide) (fun hc => ?_) (fun hc => ?_)
      · rw [if_pos hc] at h
        refine lv_aload_n hx hb dX4_isSound_39 rfl (lv_at hl 0 rfl) ?_
        refine gR (t := 149) hC hw fl_X4_21 ok12 (by decide) ot12_1 dX4_isSound_40 ?_
        obtain ⟨r43, hr43, h⟩ := bnd h
        refine cV (b := 149) (As := []) (rest := []) (st1 := [.int r43.1]) hC hw (c_X6_inPits l g n 149 μ r43 hr43) ml_X4_69 im_X6_inPits se_X6_inPits ok149 (CN := RX6) (T := TX6) (NF := 2) rfl rfl (by decide) rfl hl.1 ⟨Nat.le_of_ble_eq_true rfl, Nat.le_of_ble_eq_true rfl⟩ (Nat.le_of_ble_eq_true rfl) ⟨Nat.zero_le _, Nat.zero_le _⟩ rfl dX4_isSound_43 (fun H locs hw => ?_)
        refine lv_bipush (v := (40 : Int32)) hx hb dX4_isSound_46 (by decide) ?_
        refine lv_icmp_gt (tgt := 55) hx hb dX4_isSound_48 (by decide) (fun hc => ?_) (fun hc => ?_)
        · rw [if_pos hc] at h
          refine lv_iconst (v := (0 : Int32)) hx hb dX4_isSound_55 (by decide) ?_
          exact B56 (0 : Int32) r43.2 _ _ _ hw (lv_sub hl [] rfl) h
        · rw [if_neg hc] at h
          refine lv_iconst (v := (1 : Int32)) hx hb dX4_isSound_51 (by decide) ?_
          refine lv_goto (tgt := 56) hx hb dX4_isSound_52 (by decide) ?_
          exact B56 (1 : Int32) r43.2 _ _ _ hw (lv_sub hl [] rfl) h
      · rw [if_neg hc] at h
        refine lv_aload_n hx hb dX4_isSound_8 rfl (lv_at hl 0 rfl) ?_
        refine gR (t := 13) hC hw fl_X4_12 ok12 (by decide) ot12_0 dX4_isSound_9 ?_
        refine lv_iload_n hx hb dX4_isSound_12 rfl (lv_at hl 1 rfl) ?_
        obtain ⟨r13, hr13, h⟩ := bnd h
        refine cV (b := 13) (As := [.int v1]) (rest := []) (st1 := [.int r13.1]) hC hw (c_X5_isLacking l g n 13 v1 μ r13 hr13) ml_X4_62 im_X5_isLacking se_X5_isLacking ok13 (CN := RX5) (T := TX5) (NF := 9) rfl rfl (by decide) rfl hl.1 ⟨Nat.le_of_ble_eq_true rfl, Nat.le_of_ble_eq_true rfl⟩ (Nat.le_of_ble_eq_true rfl) ⟨Nat.zero_le _, Nat.zero_le _⟩ rfl dX4_isSound_13 (fun H locs hw => ?_)
        refine lv_if_eq (tgt := 33) hx hb dX4_isSound_16 (by decide) (fun hc => ?_) (fun hc => ?_)
        · rw [if_pos hc] at h
          exact B33 v1 r13.2 _ _ _ hw (lv_sub hl [0, 1] rfl) h
        · rw [if_neg hc] at h
          refine lv_aload_n hx hb dX4_isSound_19 rfl (lv_at hl 0 rfl) ?_
          refine gR (t := 149) hC hw fl_X4_21 ok12 (by decide) ot12_1 dX4_isSound_20 ?_
          refine gR (t := 150) hC hw fl_X4_66 ok149 (by decide) ot149_0 dX4_isSound_23 ?_
          refine lv_iload_n hx hb dX4_isSound_26 rfl (lv_at hl 1 rfl) ?_
          obtain ⟨hi27, h⟩ := gd_some h
          refine lI (j := v1.toNatClampNeg) hC hw ok150 on150 hi27 rfl dX4_isSound_27 ?_
          refine lv_if_le (tgt := 33) hx hb dX4_isSound_28 (by decide) (fun hc => ?_) (fun hc => ?_)
          · rw [if_pos hc] at h
            exact B33 v1 r13.2 _ _ _ hw (lv_sub hl [0, 1] rfl) h
          · rw [if_neg hc] at h
            refine lv_iconst (v := (0 : Int32)) hx hb dX4_isSound_31 (by decide) ?_
            exact rZ hC hw hr hlocks (Or.inl rfl) (by rw [← Option.some.inj h]) (by rw [← Option.some.inj h]) dX4_isSound_32
  refine lv_iconst (v := (0 : Int32)) hx hb dX4_isSound_0 (by decide) ?_
  refine lv_istore_n (lv' := [(1, .int (0 : Int32)), (0, .ref (g.2.2 12))]) hx hb dX4_isSound_1 rfl hl (by decide) rfl (fun ls hl => ?_)
  exact B2 n (0 : Int32) μ _ _ _ hw (lv_sub hl [1, 0] rfl) h
set_option maxRecDepth 100000 in
set_option maxHeartbeats 4000000 in
theorem c_X4_stepNumber (l : Launch) (g : Gw) (n : Nat) (μ : Mu) (r : Unit × Mu) (h : X4_stepNumber n  μ = some r) : Ct l g yX4_stepNumber cX4_stepNumber 1 none 1 [.ref (g.2.2 12)] μ none r.2 := by
  rw [X4_stepNumber] at h
  refine Ct.of (by decide) (Nat.le_of_ble_eq_true rfl) ?_
  intro p e s m args below meth c ls hC hw hr hlocks hl
  have hx := hC.1
  have hb := hC.2.1
  have hl : lv_has ls 1 [(0, .ref (g.2.2 12))] := hl
  have B105 : ∀ (μ : Mu) (H : Heap) (locs : List Loc) (ls : Array Slot), wd g μ s (Aw g s.heap.size) H locs → lv_has ls 1 [] → X4_stepNumber_105 n  μ = some r → WQ p l e (rmD 1) s m args below meth c g none r.2 H locs (F0 m 105 ls []) := by
    intro μ H locs ls hw hl h
    rw [X4_stepNumber_105] at h
    exact rV hC hw hr hlocks rfl (by rw [← Option.some.inj h]) dX4_stepNumber_105
  have B82 : ∀ (μ : Mu) (H : Heap) (locs : List Loc) (ls : Array Slot), wd g μ s (Aw g s.heap.size) H locs → lv_has ls 1 [(0, .ref (g.2.2 12))] → X4_stepNumber_82 n  μ = some r → WQ p l e (rmD 1) s m args below meth c g none r.2 H locs (F0 m 82 ls []) := by
    intro μ H locs ls hw hl h
    rw [X4_stepNumber_82] at h
    refine lv_aload_n hx hb dX4_stepNumber_82 rfl (lv_at hl 0 rfl) ?_
    refine gI hC hw fl_X4_46 ok12 (by decide) dX4_stepNumber_83 ?_
    refine lv_aload_n hx hb dX4_stepNumber_86 rfl (lv_at hl 0 rfl) ?_
    refine gI hC hw fl_X4_73 ok12 (by decide) dX4_stepNumber_87 ?_
    refine lv_isub hx hb dX4_stepNumber_90 ?_
    refine lv_iconst (v := (3 : Int32)) hx hb dX4_stepNumber_91 (by decide) ?_
    refine lv_icmp_le (tgt := 105) hx hb dX4_stepNumber_92 (by decide) (fun hc => ?_) (fun hc => ?_)
    · rw [if_pos hc] at h
      exact B105 μ _ _ _ hw (lv_sub hl [] rfl) h
    · rw [if_neg hc] at h
      refine lv_aload_n hx hb dX4_stepNumber_95 rfl (lv_at hl 0 rfl) ?_
      refine lv_iconst (v := (4 : Int32)) hx hb dX4_stepNumber_96 (by decide) ?_
      refine pI hC hw fl_X4_52 fp_4_7 ok12 dX4_stepNumber_97 (fun H locs hw => ?_)
      refine lv_aload_n hx hb dX4_stepNumber_100 rfl (lv_at hl 0 rfl) ?_
      refine lv_iconst (v := (1 : Int32)) hx hb dX4_stepNumber_101 (by decide) ?_
      obtain ⟨r102, hr102, h⟩ := bnd h
      refine cV (b := 12) (As := [.int (1 : Int32)]) (rest := []) (st1 := []) hC hw (c_X4_refuse l g n (1 : Int32) (si μ 12 7 (4 : Int32)) r102 hr102) ml_X4_120 im_X4_refuse se_X4_refuse ok12 (CN := RX4) (T := TX4) (NF := 11) rfl rfl (by decide) rfl hl.1 ⟨Nat.le_of_ble_eq_true rfl, Nat.le_of_ble_eq_true rfl⟩ (Nat.le_of_ble_eq_true rfl) ⟨Nat.zero_le _, Nat.zero_le _⟩ rfl dX4_stepNumber_102 (fun H locs hw => ?_)
      exact B105 r102.2 _ _ _ hw (lv_sub hl [] rfl) h
  have B10 : ∀ (k : Nat), ∀ (μ : Mu) (H : Heap) (locs : List Loc) (ls : Array Slot), wd g μ s (Aw g s.heap.size) H locs → lv_has ls 1 [(0, .ref (g.2.2 12))] → lpF (fun _ => none) (X4_stepNumber_10b n) k  μ = some r → WQ p l e (rmD 1) s m args below meth c g none r.2 H locs (F0 m 10 ls []) := by
    intro k
    induction k with
    | zero =>
      intro μ H locs ls hw hl h
      cases h
    | succ k ih10 =>
      rw [lpF_s]
      generalize lpF (fun _ => none) (X4_stepNumber_10b n) k = k10 at ih10 ⊢
      intro μ H locs ls hw hl h
      rw [X4_stepNumber_10b] at h
      refine lv_aload_n hx hb dX4_stepNumber_10 rfl (lv_at hl 0 rfl) ?_
      refine gI hC hw fl_X4_46 ok12 (by decide) dX4_stepNumber_11 ?_
      refine lv_aload_n hx hb dX4_stepNumber_14 rfl (lv_at hl 0 rfl) ?_
      refine gI hC hw fl_X4_43 ok12 (by decide) dX4_stepNumber_15 ?_
      refine lv_icmp_ge (tgt := 82) hx hb dX4_stepNumber_18 (by decide) (fun hc => ?_) (fun hc => ?_)
      · rw [if_pos hc] at h
        exact B82 μ _ _ _ hw (lv_sub hl [0] rfl) h
      · rw [if_neg hc] at h
        refine lv_aload_n hx hb dX4_stepNumber_21 rfl (lv_at hl 0 rfl) ?_
        refine gI hC hw fl_X4_46 ok12 (by decide) dX4_stepNumber_22 ?_
        refine lv_aload_n hx hb dX4_stepNumber_25 rfl (lv_at hl 0 rfl) ?_
        refine gI hC hw fl_X4_73 ok12 (by decide) dX4_stepNumber_26 ?_
        refine lv_isub hx hb dX4_stepNumber_29 ?_
        refine lv_iconst (v := (4 : Int32)) hx hb dX4_stepNumber_30 (by decide) ?_
        refine lv_icmp_ge (tgt := 82) hx hb dX4_stepNumber_31 (by decide) (fun hc => ?_) (fun hc => ?_)
        · rw [if_pos hc] at h
          exact B82 μ _ _ _ hw (lv_sub hl [0] rfl) h
        · rw [if_neg hc] at h
          refine lv_aload_n hx hb dX4_stepNumber_34 rfl (lv_at hl 0 rfl) ?_
          refine lv_aload_n hx hb dX4_stepNumber_35 rfl (lv_at hl 0 rfl) ?_
          refine gI hC hw fl_X4_46 ok12 (by decide) dX4_stepNumber_36 ?_
          obtain ⟨r39, hr39, h⟩ := bnd h
          refine cV (b := 12) (As := [.int (μ.1 12 9)]) (rest := []) (st1 := [.int r39.1]) hC hw (c_X4_isDigit l g n (μ.1 12 9) μ r39 hr39) ml_X4_169 im_X4_isDigit se_X4_isDigit ok12 (CN := RX4) (T := TX4) (NF := 11) rfl rfl (by decide) rfl hl.1 ⟨Nat.le_of_ble_eq_true rfl, Nat.le_of_ble_eq_true rfl⟩ (Nat.le_of_ble_eq_true rfl) ⟨Nat.zero_le _, Nat.zero_le _⟩ rfl dX4_stepNumber_39 (fun H locs hw => ?_)
          refine lv_if_eq (tgt := 82) hx hb dX4_stepNumber_42 (by decide) (fun hc => ?_) (fun hc => ?_)
          · rw [if_pos hc] at h
            exact B82 r39.2 _ _ _ hw (lv_sub hl [0] rfl) h
          · rw [if_neg hc] at h
            refine lv_aload_n hx hb dX4_stepNumber_45 rfl (lv_at hl 0 rfl) ?_
            refine lv_bipush (v := (10 : Int32)) hx hb dX4_stepNumber_46 (by decide) ?_
            refine lv_aload_n hx hb dX4_stepNumber_48 rfl (lv_at hl 0 rfl) ?_
            refine gI hC hw fl_X4_158 ok12 (by decide) dX4_stepNumber_49 ?_
            refine lv_imul hx hb dX4_stepNumber_52 ?_
            refine lv_aload_n hx hb dX4_stepNumber_53 rfl (lv_at hl 0 rfl) ?_
            refine gR (t := 14) hC hw fl_X4_29 ok12 (by decide) ot12_5 dX4_stepNumber_54 ?_
            refine lv_aload_n hx hb dX4_stepNumber_57 rfl (lv_at hl 0 rfl) ?_
            refine gI hC hw fl_X4_46 ok12 (by decide) dX4_stepNumber_58 ?_
            obtain ⟨hi61, h⟩ := gd_some h
            refine lI (j := (r39.2.1 12 9).toNatClampNeg) hC hw ok14 on14 hi61 rfl dX4_stepNumber_61 ?_
            refine lv_iadd hx hb dX4_stepNumber_62 ?_
            refine lv_bipush (v := (48 : Int32)) hx hb dX4_stepNumber_63 (by decide) ?_
            refine lv_isub hx hb dX4_stepNumber_65 ?_
            refine pI hC hw fl_X4_158 fp_4_10 ok12 dX4_stepNumber_66 (fun H locs hw => ?_)
            refine lv_aload_n hx hb dX4_stepNumber_69 rfl (lv_at hl 0 rfl) ?_
            refine lv_dup hx hb dX4_stepNumber_70 rfl ?_
            refine gI hC hw fl_X4_46 ok12 (by decide) dX4_stepNumber_71 ?_
            refine lv_iconst (v := (1 : Int32)) hx hb dX4_stepNumber_74 (by decide) ?_
            refine lv_iadd hx hb dX4_stepNumber_75 ?_
            refine pI hC hw fl_X4_46 fp_4_9 ok12 dX4_stepNumber_76 (fun H locs hw => ?_)
            refine lv_goto (tgt := 10) hx hb dX4_stepNumber_79 (by decide) ?_
            exact ih10 (si (si r39.2 12 10 ((((10 : Int32) * (r39.2.1 12 10)) + (r39.2.1 14 (r39.2.1 12 9).toNatClampNeg)) - (48 : Int32))) 12 9 (((si r39.2 12 10 ((((10 : Int32) * (r39.2.1 12 10)) + (r39.2.1 14 (r39.2.1 12 9).toNatClampNeg)) - (48 : Int32))).1 12 9) + (1 : Int32))) _ _ _ hw (lv_sub hl [0] rfl) h
  refine lv_aload_n hx hb dX4_stepNumber_0 rfl (lv_at hl 0 rfl) ?_
  refine lv_iconst (v := (2 : Int32)) hx hb dX4_stepNumber_1 (by decide) ?_
  refine pI hC hw fl_X4_52 fp_4_7 ok12 dX4_stepNumber_2 (fun H locs hw => ?_)
  refine lv_aload_n hx hb dX4_stepNumber_5 rfl (lv_at hl 0 rfl) ?_
  refine lv_iconst (v := (0 : Int32)) hx hb dX4_stepNumber_6 (by decide) ?_
  refine pI hC hw fl_X4_158 fp_4_10 ok12 dX4_stepNumber_7 (fun H locs hw => ?_)
  exact B10 n (si (si μ 12 7 (2 : Int32)) 12 10 (0 : Int32)) _ _ _ hw (lv_sub hl [0] rfl) h
set_option maxRecDepth 100000 in
set_option maxHeartbeats 4000000 in
theorem c_X4_stepWord (l : Launch) (g : Gw) (n : Nat) (μ : Mu) (r : Unit × Mu) (h : X4_stepWord n  μ = some r) : Ct l g yX4_stepWord cX4_stepWord 1 none 1 [.ref (g.2.2 12)] μ none r.2 := by
  rw [X4_stepWord] at h
  refine Ct.of (by decide) (Nat.le_of_ble_eq_true rfl) ?_
  intro p e s m args below meth c ls hC hw hr hlocks hl
  have hx := hC.1
  have hb := hC.2.1
  have hl : lv_has ls 1 [(0, .ref (g.2.2 12))] := hl
  have B40 : ∀ (μ : Mu) (H : Heap) (locs : List Loc) (ls : Array Slot), wd g μ s (Aw g s.heap.size) H locs → lv_has ls 1 [] → X4_stepWord_40 n  μ = some r → WQ p l e (rmD 1) s m args below meth c g none r.2 H locs (F0 m 40 ls []) := by
    intro μ H locs ls hw hl h
    rw [X4_stepWord_40] at h
    exact rV hC hw hr hlocks rfl (by rw [← Option.some.inj h]) dX4_stepWord_40
  have B5 : ∀ (k : Nat), ∀ (μ : Mu) (H : Heap) (locs : List Loc) (ls : Array Slot), wd g μ s (Aw g s.heap.size) H locs → lv_has ls 1 [(0, .ref (g.2.2 12))] → lpF (fun _ => none) (X4_stepWord_5b n) k  μ = some r → WQ p l e (rmD 1) s m args below meth c g none r.2 H locs (F0 m 5 ls []) := by
    intro k
    induction k with
    | zero =>
      intro μ H locs ls hw hl h
      cases h
    | succ k ih5 =>
      rw [lpF_s]
      generalize lpF (fun _ => none) (X4_stepWord_5b n) k = k5 at ih5 ⊢
      intro μ H locs ls hw hl h
      rw [X4_stepWord_5b] at h
      refine lv_aload_n hx hb dX4_stepWord_5 rfl (lv_at hl 0 rfl) ?_
      refine gI hC hw fl_X4_46 ok12 (by decide) dX4_stepWord_6 ?_
      refine lv_aload_n hx hb dX4_stepWord_9 rfl (lv_at hl 0 rfl) ?_
      refine gI hC hw fl_X4_43 ok12 (by decide) dX4_stepWord_10 ?_
      refine lv_icmp_ge (tgt := 40) hx hb dX4_stepWord_13 (by decide) (fun hc => ?_) (fun hc => ?_)
      · rw [if_pos hc] at h
        exact B40 μ _ _ _ hw (lv_sub hl [] rfl) h
      · rw [if_neg hc] at h
        refine lv_aload_n hx hb dX4_stepWord_16 rfl (lv_at hl 0 rfl) ?_
        refine lv_aload_n hx hb dX4_stepWord_17 rfl (lv_at hl 0 rfl) ?_
        refine gI hC hw fl_X4_46 ok12 (by decide) dX4_stepWord_18 ?_
        obtain ⟨r21, hr21, h⟩ := bnd h
        refine cV (b := 12) (As := [.int (μ.1 12 9)]) (rest := []) (st1 := [.int r21.1]) hC hw (c_X4_isLetter l g n (μ.1 12 9) μ r21 hr21) ml_X4_175 im_X4_isLetter se_X4_isLetter ok12 (CN := RX4) (T := TX4) (NF := 11) rfl rfl (by decide) rfl hl.1 ⟨Nat.le_of_ble_eq_true rfl, Nat.le_of_ble_eq_true rfl⟩ (Nat.le_of_ble_eq_true rfl) ⟨Nat.zero_le _, Nat.zero_le _⟩ rfl dX4_stepWord_21 (fun H locs hw => ?_)
        refine lv_if_eq (tgt := 40) hx hb dX4_stepWord_24 (by decide) (fun hc => ?_) (fun hc => ?_)
        · rw [if_pos hc] at h
          exact B40 r21.2 _ _ _ hw (lv_sub hl [] rfl) h
        · rw [if_neg hc] at h
          refine lv_aload_n hx hb dX4_stepWord_27 rfl (lv_at hl 0 rfl) ?_
          refine lv_dup hx hb dX4_stepWord_28 rfl ?_
          refine gI hC hw fl_X4_46 ok12 (by decide) dX4_stepWord_29 ?_
          refine lv_iconst (v := (1 : Int32)) hx hb dX4_stepWord_32 (by decide) ?_
          refine lv_iadd hx hb dX4_stepWord_33 ?_
          refine pI hC hw fl_X4_46 fp_4_9 ok12 dX4_stepWord_34 (fun H locs hw => ?_)
          refine lv_goto (tgt := 5) hx hb dX4_stepWord_37 (by decide) ?_
          exact ih5 (si r21.2 12 9 ((r21.2.1 12 9) + (1 : Int32))) _ _ _ hw (lv_sub hl [0] rfl) h
  refine lv_aload_n hx hb dX4_stepWord_0 rfl (lv_at hl 0 rfl) ?_
  refine lv_iconst (v := (1 : Int32)) hx hb dX4_stepWord_1 (by decide) ?_
  refine pI hC hw fl_X4_52 fp_4_7 ok12 dX4_stepWord_2 (fun H locs hw => ?_)
  exact B5 n (si μ 12 7 (1 : Int32)) _ _ _ hw (lv_sub hl [0] rfl) h
