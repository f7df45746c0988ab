set_option maxRecDepth 100000 in
set_option maxHeartbeats 4000000 in
theorem c_X4_isWord (l : Launch) (g : Gw) (n : Nat) (v1 : Nat) (μ : Mu) (r : Int32 × Mu) (h : X4_isWord n v1 μ = some r) : Ct l g yX4_isWord cX4_isWord 3 (some .boolean) 4 [.ref (g.2.2 12), .ref (g.2.2 v1)] μ (some (.int r.1)) r.2 := by
  rw [X4_isWord] at h
  obtain ⟨hk1, h⟩ := kd_some h
  refine Ct.of (by decide) (Nat.le_of_ble_eq_true rfl) ?_
  intro p e s m args below meth c ls hC hw hr hlocks hl
  have hx := hC.1
  have hb := hC.2.1
  have hl : lv_has ls 3 [(0, .ref (g.2.2 12)), (1, .ref (g.2.2 v1))] := hl
  have B24 : ∀ (μ : Mu) (H : Heap) (locs : List Loc) (ls : Array Slot), wd g μ s (Aw g s.heap.size) H locs → lv_has ls 3 [] → X4_isWord_24 n v1  μ = some r → WQ p l e (rmD 4) s m args below meth c g (some (.int r.1)) r.2 H locs (F0 m 24 ls []) := by
    intro μ H locs ls hw hl h
    rw [X4_isWord_24] at h
    refine lv_iconst (v := (0 : Int32)) hx hb dX4_isWord_24 (by decide) ?_
    exact rZ hC hw hr hlocks (Or.inl rfl) (by rw [← Option.some.inj h]) (by rw [← Option.some.inj h]) dX4_isWord_25
  have B28 : ∀ (k : Nat), ∀ (v2 : Int32) (μ : Mu) (H : Heap) (locs : List Loc) (ls : Array Slot), wd g μ s (Aw g s.heap.size) H locs → lv_has ls 3 [(0, .ref (g.2.2 12)), (1, .ref (g.2.2 v1)), (2, .int v2)] → lpF (fun _ _ => none) (X4_isWord_28b n v1) k v2 μ = some r → WQ p l e (rmD 4) s m args below meth c g (some (.int r.1)) r.2 H locs (F0 m 28 ls []) := by
    intro k
    induction k with
    | zero =>
      intro v2 μ H locs ls hw hl h
      cases h
    | succ k ih28 =>
      rw [lpF_s]
      generalize lpF (fun _ _ => none) (X4_isWord_28b n v1) k = k28 at ih28 ⊢
      intro v2 μ H locs ls hw hl h
      rw [X4_isWord_28b] at h
      refine lv_iload_n hx hb dX4_isWord_28 rfl (lv_at hl 2 rfl) ?_
      refine lv_aload_n hx hb dX4_isWord_29 rfl (lv_at hl 1 rfl) ?_
      obtain ⟨r30, hr30, h⟩ := bnd h
      refine cVS (b := v1) (As := []) (rest := [.int v2]) (st1 := [.int r30.1, .int v2]) hC hw (c_J0_length_8abf5 l g n v1 μ r30 hr30) ml_X4_161 im_J0_length_8abf5 se_J0_length_8abf5 hk1 rfl rfl hl.1 ⟨Nat.le_of_ble_eq_true rfl, Nat.le_of_ble_eq_true rfl⟩ (Nat.le_of_ble_eq_true rfl) ⟨Nat.zero_le _, Nat.zero_le _⟩ rfl dX4_isWord_30 (fun H locs hw => ?_)
      refine lv_icmp_ge (tgt := 63) hx hb dX4_isWord_33 (by decide) (fun hc => ?_) (fun hc => ?_)
      · rw [if_pos hc] at h
        refine lv_iconst (v := (1 : Int32)) hx hb dX4_isWord_63 (by decide) ?_
        exact rZ hC hw hr hlocks (Or.inr rfl) (by rw [← Option.some.inj h]) (by rw [← Option.some.inj h]) dX4_isWord_64
      · rw [if_neg hc] at h
        refine lv_aload_n hx hb dX4_isWord_36 rfl (lv_at hl 0 rfl) ?_
        refine gR (t := 14) hC hw fl_X4_29 ok12 (by decide) ot12_5 dX4_isWord_37 ?_
        refine lv_aload_n hx hb dX4_isWord_40 rfl (lv_at hl 0 rfl) ?_
        refine gI hC hw fl_X4_73 ok12 (by decide) dX4_isWord_41 ?_
        refine lv_iload_n hx hb dX4_isWord_44 rfl (lv_at hl 2 rfl) ?_
        refine lv_iadd hx hb dX4_isWord_45 ?_
        obtain ⟨hi46, h⟩ := gd_some h
        refine lI (j := ((r30.2.1 12 8) + v2).toNatClampNeg) hC hw ok14 on14 hi46 rfl dX4_isWord_46 ?_
        refine lv_aload_n hx hb dX4_isWord_47 rfl (lv_at hl 1 rfl) ?_
        refine lv_iload_n hx hb dX4_isWord_48 rfl (lv_at hl 2 rfl) ?_
        obtain ⟨r49, hr49, h⟩ := bnd h
        refine cVS (b := v1) (As := [.int v2]) (rest := [.int (r30.2.1 14 ((r30.2.1 12 8) + v2).toNatClampNeg)]) (st1 := [.int r49.1, .int (r30.2.1 14 ((r30.2.1 12 8) + v2).toNatClampNeg)]) hC hw (c_J0_charAt_5068e l g n v1 v2 r30.2 r49 hr49) ml_X4_165 im_J0_charAt_5068e se_J0_charAt_5068e hk1 rfl rfl hl.1 ⟨Nat.le_of_ble_eq_true rfl, Nat.le_of_ble_eq_true rfl⟩ (Nat.le_of_ble_eq_true rfl) ⟨Nat.zero_le _, Nat.zero_le _⟩ rfl dX4_isWord_49 (fun H locs hw => ?_)
        refine lv_icmp_eq (tgt := 57) hx hb dX4_isWord_52 (by decide) (fun hc => ?_) (fun hc => ?_)
        · rw [if_pos hc] at h
          refine lv_iinc (v := (v2 + (1 : Int32))) (lv' := [(2, .int (v2 + (1 : Int32))), (0, .ref (g.2.2 12)), (1, .ref (g.2.2 v1))]) hx hb dX4_isWord_57 hl (k := 2) rfl rfl (by decide) rfl (fun ls hl => ?_)
          refine lv_goto (tgt := 28) hx hb dX4_isWord_60 (by decide) ?_
          exact ih28 (v2 + (1 : Int32)) r49.2 _ _ _ hw (lv_sub hl [1, 2, 0] rfl) h
        · rw [if_neg hc] at h
          refine lv_iconst (v := (0 : Int32)) hx hb dX4_isWord_55 (by decide) ?_
          exact rZ hC hw hr hlocks (Or.inl rfl) (by rw [← Option.some.inj h]) (by rw [← Option.some.inj h]) dX4_isWord_56
  refine lv_aload_n hx hb dX4_isWord_0 rfl (lv_at hl 0 rfl) ?_
  refine gI hC hw fl_X4_52 ok12 (by decide) dX4_isWord_1 ?_
  refine lv_iconst (v := (1 : Int32)) hx hb dX4_isWord_4 (by decide) ?_
  refine lv_icmp_ne (tgt := 24) hx hb dX4_isWord_5 (by decide) (fun hc => ?_) (fun hc => ?_)
  · rw [if_neg hc] at h
    exact B24 μ _ _ _ hw (lv_sub hl [] rfl) h
  · rw [if_pos hc] at h
    refine lv_aload_n hx hb dX4_isWord_8 rfl (lv_at hl 0 rfl) ?_
    refine gI hC hw fl_X4_46 ok12 (by decide) dX4_isWord_9 ?_
    refine lv_aload_n hx hb dX4_isWord_12 rfl (lv_at hl 0 rfl) ?_
    refine gI hC hw fl_X4_73 ok12 (by decide) dX4_isWord_13 ?_
    refine lv_isub hx hb dX4_isWord_16 ?_
    refine lv_aload_n hx hb dX4_isWord_17 rfl (lv_at hl 1 rfl) ?_
    obtain ⟨r18, hr18, h⟩ := bnd h
    refine cVS (b := v1) (As := []) (rest := [.int ((μ.1 12 9) - (μ.1 12 8))]) (st1 := [.int r18.1, .int ((μ.1 12 9) - (μ.1 12 8))]) hC hw (c_J0_length_8abf5 l g n v1 μ r18 hr18) ml_X4_161 im_J0_length_8abf5 se_J0_length_8abf5 hk1 rfl rfl hl.1 ⟨Nat.le_of_ble_eq_true rfl, Nat.le_of_ble_eq_true rfl⟩ (Nat.le_of_ble_eq_true rfl) ⟨Nat.zero_le _, Nat.zero_le _⟩ rfl dX4_isWord_18 (fun H locs hw => ?_)
    refine lv_icmp_eq (tgt := 26) hx hb dX4_isWord_21 (by decide) (fun hc => ?_) (fun hc => ?_)
    · rw [if_pos hc] at h
      refine lv_iconst (v := (0 : Int32)) hx hb dX4_isWord_26 (by decide) ?_
      refine lv_istore_n (lv' := [(2, .int (0 : Int32)), (0, .ref (g.2.2 12)), (1, .ref (g.2.2 v1))]) hx hb dX4_isWord_27 rfl hl (by decide) rfl (fun ls hl => ?_)
      exact B28 n (0 : Int32) r18.2 _ _ _ hw (lv_sub hl [1, 2, 0] rfl) h
    · rw [if_neg hc] at h
      exact B24 r18.2 _ _ _ hw (lv_sub hl [] rfl) h
set_option maxRecDepth 100000 in
set_option maxHeartbeats 4000000 in
theorem c_X12_isWord (l : Launch) (g : Gw) (n : Nat) (v1 : Nat) (μ : Mu) (r : Int32 × Mu) (h : X12_isWord n v1 μ = some r) : Ct l g yX12_isWord cX12_isWord 4 (some .boolean) 4 [.ref (g.2.2 171), .ref (g.2.2 v1)] μ (some (.int r.1)) r.2 := by
  rw [X12_isWord] at h
  obtain ⟨hk1, h⟩ := kd_some h
  refine Ct.of (by decide) (Nat.le_of_ble_eq_true rfl) ?_
  intro p e s m args below meth c ls hC hw hr hlocks hl
  have hx := hC.1
  have hb := hC.2.1
  have hl : lv_has ls 4 [(0, .ref (g.2.2 171)), (1, .ref (g.2.2 v1))] := hl
  have B82 : ∀ (v2 : Int32) (μ : Mu) (H : Heap) (locs : List Loc) (ls : Array Slot), wd g μ s (Aw g s.heap.size) H locs → lv_has ls 4 [(2, .int v2)] → X12_isWord_82 n v1 v2 μ = some r → WQ p l e (rmD 4) s m args below meth c g (some (.int r.1)) r.2 H locs (F0 m 82 ls []) := by
    intro v2 μ H locs ls hw hl h
    rw [X12_isWord_82] at h
    refine lv_iload_n hx hb dX12_isWord_82 rfl (lv_at hl 0 rfl) ?_
    obtain ⟨hz83, h⟩ := bz_some h
    exact rZ hC hw hr hlocks hz83 (by rw [← Option.some.inj h]) (by rw [← Option.some.inj h]) dX12_isWord_83
  have B39 : ∀ (k : Nat), ∀ (v2 : Int32) (v3 : Int32) (μ : Mu) (H : Heap) (locs : List Loc) (ls : Array Slot), wd g μ s (Aw g s.heap.size) H locs → lv_has ls 4 [(0, .ref (g.2.2 171)), (1, .ref (g.2.2 v1)), (2, .int v2), (3, .int v3)] → lpF (fun _ _ _ => none) (X12_isWord_39b n v1) k v2 v3 μ = some r → WQ p l e (rmD 4) s m args below meth c g (some (.int r.1)) r.2 H locs (F0 m 39 ls []) := by
    intro k
    induction k with
    | zero =>
      intro v2 v3 μ H locs ls hw hl h
      cases h
    | succ k ih39 =>
      rw [lpF_s]
      generalize lpF (fun _ _ _ => none) (X12_isWord_39b n v1) k = k39 at ih39 ⊢
      intro v2 v3 μ H locs ls hw hl h
      have B75 : ∀ (v3 : Int32) (s0 : Int32) (μ : Mu) (H : Heap) (locs : List Loc) (ls : Array Slot), wd g μ s (Aw g s.heap.size) H locs → lv_has ls 4 [(0, .ref (g.2.2 171)), (1, .ref (g.2.2 v1)), (3, .int v3)] → X12_isWord_75 n v1 k39 v3 s0 μ = some r → WQ p l e (rmD 4) s m args below meth c g (some (.int r.1)) r.2 H locs (F0 m 75 ls [.int s0]) := by
        intro v3 s0 μ H locs ls hw hl h
        rw [X12_isWord_75] at h
        refine lv_istore_n (lv' := [(2, .int s0), (0, .ref (g.2.2 171)), (1, .ref (g.2.2 v1)), (3, .int v3)]) hx hb dX12_isWord_75 rfl hl (by decide) rfl (fun ls hl => ?_)
        refine lv_iinc (v := (v3 + (1 : Int32))) (lv' := [(3, .int (v3 + (1 : Int32))), (2, .int s0), (0, .ref (g.2.2 171)), (1, .ref (g.2.2 v1))]) hx hb dX12_isWord_76 hl (k := 3) rfl rfl (by decide) rfl (fun ls hl => ?_)
        refine lv_goto (tgt := 39) hx hb dX12_isWord_79 (by decide) ?_
        exact ih39 s0 (v3 + (1 : Int32)) μ _ _ _ hw (lv_sub hl [2, 3, 1, 0] rfl) h
      rw [X12_isWord_39b] at h
      refine lv_iload_n hx hb dX12_isWord_39 rfl (lv_at hl 2 rfl) ?_
      refine lv_if_eq (tgt := 82) hx hb dX12_isWord_40 (by decide) (fun hc => ?_) (fun hc => ?_)
      · rw [if_pos hc] at h
        exact B82 v2 μ _ _ _ hw (lv_sub hl [2] rfl) h
      · rw [if_neg hc] at h
        refine lv_iload_n hx hb dX12_isWord_43 rfl (lv_at hl 3 rfl) ?_
        refine lv_aload_n hx hb dX12_isWord_44 rfl (lv_at hl 1 rfl) ?_
        obtain ⟨r45, hr45, h⟩ := bnd h
        refine cVS (b := v1) (As := []) (rest := [.int v3]) (st1 := [.int r45.1, .int v3]) hC hw (c_J0_length_8abf5 l g n v1 μ r45 hr45) ml_X12_145 im_J0_length_8abf5 se_J0_length_8abf5 hk1 rfl rfl hl.1 ⟨Nat.le_of_ble_eq_true rfl, Nat.le_of_ble_eq_true rfl⟩ (Nat.le_of_ble_eq_true rfl) ⟨Nat.zero_le _, Nat.zero_le _⟩ rfl dX12_isWord_45 (fun H locs hw => ?_)
        refine lv_icmp_ge (tgt := 82) hx hb dX12_isWord_48 (by decide) (fun hc => ?_) (fun hc => ?_)
        · rw [if_pos hc] at h
          exact B82 v2 r45.2 _ _ _ hw (lv_sub hl [2] rfl) h
        · rw [if_neg hc] at h
          refine lv_aload_n hx hb dX12_isWord_51 rfl (lv_at hl 0 rfl) ?_
          refine gR (t := 177) hC hw fl_X12_26 ok171 (by decide) ot171_6 dX12_isWord_52 ?_
          refine lv_aload_n hx hb dX12_isWord_55 rfl (lv_at hl 0 rfl) ?_
          refine gI hC hw fl_X12_119 ok171 (by decide) dX12_isWord_56 ?_
          refine lv_iload_n hx hb dX12_isWord_59 rfl (lv_at hl 3 rfl) ?_
          refine lv_iadd hx hb dX12_isWord_60 ?_
          obtain ⟨hi61, h⟩ := gd_some h
          refine lI (j := ((r45.2.1 171 10) + v3).toNatClampNeg) hC hw ok177 on177 hi61 rfl dX12_isWord_61 ?_
          refine lv_aload_n hx hb dX12_isWord_62 rfl (lv_at hl 1 rfl) ?_
          refine lv_iload_n hx hb dX12_isWord_63 rfl (lv_at hl 3 rfl) ?_
          obtain ⟨r64, hr64, h⟩ := bnd h
          refine cVS (b := v1) (As := [.int v3]) (rest := [.int (r45.2.1 177 ((r45.2.1 171 10) + v3).toNatClampNeg)]) (st1 := [.int r64.1, .int (r45.2.1 177 ((r45.2.1 171 10) + v3).toNatClampNeg)]) hC hw (c_J0_charAt_5068e l g n v1 v3 r45.2 r64 hr64) ml_X12_151 im_J0_charAt_5068e se_J0_charAt_5068e hk1 rfl rfl hl.1 ⟨Nat.le_of_ble_eq_true rfl, Nat.le_of_ble_eq_true rfl⟩ (Nat.le_of_ble_eq_true rfl) ⟨Nat.zero_le _, Nat.zero_le _⟩ rfl dX12_isWord_64 (fun H locs hw => ?_)
          refine lv_icmp_ne (tgt := 74) hx hb dX12_isWord_67 (by decide) (fun hc => ?_) (fun hc => ?_)
          · rw [if_neg hc] at h
            refine lv_iconst (v := (0 : Int32)) hx hb dX12_isWord_74 (by decide) ?_
            exact B75 v3 (0 : Int32) r64.2 _ _ _ hw (lv_sub hl [0, 1, 3] rfl) h
          · rw [if_pos hc] at h
            refine lv_iconst (v := (1 : Int32)) hx hb dX12_isWord_70 (by decide) ?_
            refine lv_goto (tgt := 75) hx hb dX12_isWord_71 (by decide) ?_
            exact B75 v3 (1 : Int32) r64.2 _ _ _ hw (lv_sub hl [0, 1, 3] rfl) h
  have B36 : ∀ (s0 : Int32) (μ : Mu) (H : Heap) (locs : List Loc) (ls : Array Slot), wd g μ s (Aw g s.heap.size) H locs → lv_has ls 4 [(0, .ref (g.2.2 171)), (1, .ref (g.2.2 v1))] → X12_isWord_36 n v1 s0 μ = some r → WQ p l e (rmD 4) s m args below meth c g (some (.int r.1)) r.2 H locs (F0 m 36 ls [.int s0]) := by
    intro s0 μ H locs ls hw hl h
    rw [X12_isWord_36] at h
    refine lv_istore_n (lv' := [(2, .int s0), (0, .ref (g.2.2 171)), (1, .ref (g.2.2 v1))]) hx hb dX12_isWord_36 rfl hl (by decide) rfl (fun ls hl => ?_)
    refine lv_iconst (v := (0 : Int32)) hx hb dX12_isWord_37 (by decide) ?_
    refine lv_istore_n (lv' := [(3, .int (0 : Int32)), (2, .int s0), (0, .ref (g.2.2 171)), (1, .ref (g.2.2 v1))]) hx hb dX12_isWord_38 rfl hl (by decide) rfl (fun ls hl => ?_)
    exact B39 n s0 (0 : Int32) μ _ _ _ hw (lv_sub hl [2, 3, 1, 0] rfl) h
  have B35 : ∀ (μ : Mu) (H : Heap) (locs : List Loc) (ls : Array Slot), wd g μ s (Aw g s.heap.size) H locs → lv_has ls 4 [(0, .ref (g.2.2 171)), (1, .ref (g.2.2 v1))] → X12_isWord_35 n v1  μ = some r → WQ p l e (rmD 4) s m args below meth c g (some (.int r.1)) r.2 H locs (F0 m 35 ls []) := by
    intro μ H locs ls hw hl h
    rw [X12_isWord_35] at h
    refine lv_iconst (v := (0 : Int32)) hx hb dX12_isWord_35 (by decide) ?_
    exact B36 (0 : Int32) μ _ _ _ hw (lv_sub hl [0, 1] rfl) h
  refine lv_aload_n hx hb dX12_isWord_0 rfl (lv_at hl 0 rfl) ?_
  refine gI hC hw fl_X12_139 ok171 (by decide) dX12_isWord_1 ?_
  refine lv_if_ne (tgt := 35) hx hb dX12_isWord_4 (by decide) (fun hc => ?_) (fun hc => ?_)
  · rw [if_neg hc] at h
    exact B35 μ _ _ _ hw (lv_sub hl [0, 1] rfl) h
  · rw [if_pos hc] at h
    refine lv_aload_n hx hb dX12_isWord_7 rfl (lv_at hl 0 rfl) ?_
    refine gI hC hw fl_X12_122 ok171 (by decide) dX12_isWord_8 ?_
    refine lv_iconst (v := (1 : Int32)) hx hb dX12_isWord_11 (by decide) ?_
    refine lv_icmp_ne (tgt := 35) hx hb dX12_isWord_12 (by decide) (fun hc => ?_) (fun hc => ?_)
    · rw [if_neg hc] at h
      exact B35 μ _ _ _ hw (lv_sub hl [0, 1] rfl) h
    · rw [if_pos hc] at h
      refine lv_aload_n hx hb dX12_isWord_15 rfl (lv_at hl 0 rfl) ?_
      refine gI hC hw fl_X12_116 ok171 (by decide) dX12_isWord_16 ?_
      refine lv_aload_n hx hb dX12_isWord_19 rfl (lv_at hl 0 rfl) ?_
      refine gI hC hw fl_X12_119 ok171 (by decide) dX12_isWord_20 ?_
      refine lv_isub hx hb dX12_isWord_23 ?_
      refine lv_aload_n hx hb dX12_isWord_24 rfl (lv_at hl 1 rfl) ?_
      obtain ⟨r25, hr25, h⟩ := bnd h
      refine cVS (b := v1) (As := []) (rest := [.int ((μ.1 171 9) - (μ.1 171 10))]) (st1 := [.int r25.1, .int ((μ.1 171 9) - (μ.1 171 10))]) hC hw (c_J0_length_8abf5 l g n v1 μ r25 hr25) ml_X12_145 im_J0_length_8abf5 se_J0_length_8abf5 hk1 rfl rfl hl.1 ⟨Nat.le_of_ble_eq_true rfl, Nat.le_of_ble_eq_true rfl⟩ (Nat.le_of_ble_eq_true rfl) ⟨Nat.zero_le _, Nat.zero_le _⟩ rfl dX12_isWord_25 (fun H locs hw => ?_)
      refine lv_icmp_ne (tgt := 35) hx hb dX12_isWord_28 (by decide) (fun hc => ?_) (fun hc => ?_)
      · rw [if_neg hc] at h
        exact B35 r25.2 _ _ _ hw (lv_sub hl [0, 1] rfl) h
      · rw [if_pos hc] at h
        refine lv_iconst (v := (1 : Int32)) hx hb dX12_isWord_31 (by decide) ?_
        refine lv_goto (tgt := 36) hx hb dX12_isWord_32 (by decide) ?_
        exact B36 (1 : Int32) r25.2 _ _ _ hw (lv_sub hl [0, 1] rfl) h
set_option maxRecDepth 100000 in
set_option maxHeartbeats 4000000 in
theorem c_X12_took (l : Launch) (g : Gw) (n : Nat) (v1 : Nat) (μ : Mu) (r : Int32 × Mu) (h : X12_took n v1 μ = some r) : Ct l g yX12_took cX12_took 3 (some .boolean) 5 [.ref (g.2.2 171), .ref (g.2.2 v1)] μ (some (.int r.1)) r.2 := by
  rw [X12_took] at h
  obtain ⟨hk1, h⟩ := kd_some h
  refine Ct.of (by decide) (Nat.le_of_ble_eq_true rfl) ?_
  intro p e s m args below meth c ls hC hw hr hlocks hl
  have hx := hC.1
  have hb := hC.2.1
  have hl : lv_has ls 3 [(0, .ref (g.2.2 171)), (1, .ref (g.2.2 v1))] := hl
  have B14 : ∀ (v2 : Int32) (μ : Mu) (H : Heap) (locs : List Loc) (ls : Array Slot), wd g μ s (Aw g s.heap.size) H locs → lv_has ls 3 [(2, .int v2)] → X12_took_14 n v1 v2 μ = some r → WQ p l e (rmD 5) s m args below meth c g (some (.int r.1)) r.2 H locs (F0 m 14 ls []) := by
    intro v2 μ H locs ls hw hl h
    rw [X12_took_14] at h
    refine lv_iload_n hx hb dX12_took_14 rfl (lv_at hl 0 rfl) ?_
    obtain ⟨hz15, h⟩ := bz_some h
    exact rZ hC hw hr hlocks hz15 (by rw [← Option.some.inj h]) (by rw [← Option.some.inj h]) dX12_took_15
  refine lv_aload_n hx hb dX12_took_0 rfl (lv_at hl 0 rfl) ?_
  refine lv_aload_n hx hb dX12_took_1 rfl (lv_at hl 1 rfl) ?_
  obtain ⟨r2, hr2, h⟩ := bnd h
  refine cV (b := 171) (As := [.ref (g.2.2 v1)]) (rest := []) (st1 := [.int r2.1]) hC hw (c_X12_isWord l g n v1 μ r2 hr2) ml_X12_155 im_X12_isWord se_X12_isWord ok171 (CN := RX12) (T := TX12) (NF := 54) rfl rfl (by decide) rfl hl.1 ⟨Nat.le_of_ble_eq_true rfl, Nat.le_of_ble_eq_true rfl⟩ (Nat.le_of_ble_eq_true rfl) ⟨Nat.zero_le _, Nat.zero_le _⟩ rfl dX12_took_2 (fun H locs hw => ?_)
  refine lv_istore_n (lv' := [(2, .int r2.1), (0, .ref (g.2.2 171)), (1, .ref (g.2.2 v1))]) hx hb dX12_took_5 rfl hl (by decide) rfl (fun ls hl => ?_)
  refine lv_iload_n hx hb dX12_took_6 rfl (lv_at hl 0 rfl) ?_
  refine lv_if_eq (tgt := 14) hx hb dX12_took_7 (by decide) (fun hc => ?_) (fun hc => ?_)
  · rw [if_pos hc] at h
    exact B14 r2.1 r2.2 _ _ _ hw (lv_sub hl [0] rfl) h
  · rw [if_neg hc] at h
    refine lv_aload_n hx hb dX12_took_10 rfl (lv_at hl 1 rfl) ?_
    obtain ⟨r11, hr11, h⟩ := bnd h
    refine cV (b := 171) (As := []) (rest := []) (st1 := []) hC hw (c_X12_reads l g n r2.2 r11 hr11) ml_X12_159 im_X12_reads se_X12_reads ok171 (CN := RX12) (T := TX12) (NF := 54) rfl rfl (by decide) rfl hl.1 ⟨Nat.le_of_ble_eq_true rfl, Nat.le_of_ble_eq_true rfl⟩ (Nat.le_of_ble_eq_true rfl) ⟨Nat.zero_le _, Nat.zero_le _⟩ rfl dX12_took_11 (fun H locs hw => ?_)
    exact B14 r2.1 r11.2 _ _ _ hw (lv_sub hl [0] rfl) h
set_option maxRecDepth 100000 in
set_option maxHeartbeats 4000000 in
theorem c_X12_readTake (l : Launch) (g : Gw) (n : Nat) (μ : Mu) (r : Unit × Mu) (h : X12_readTake n  μ = some r) : Ct l g yX12_readTake cX12_readTake 2 none 6 [.ref (g.2.2 171)] μ none r.2 := by
  rw [X12_readTake] at h
  refine Ct.of (by decide) (Nat.le_of_ble_eq_true rfl) ?_
  intro p e s m args below meth c ls hC hw hr hlocks hl
  have hx := hC.1
  have hb := hC.2.1
  have hl : lv_has ls 2 [(0, .ref (g.2.2 171))] := hl
  have B96 : ∀ (s1 : Int32) (s2 : Int32) (μ : Mu) (H : Heap) (locs : List Loc) (ls : Array Slot), wd g μ s (Aw g s.heap.size) H locs → lv_has ls 2 [] → X12_readTake_96 n s1 s2 μ = some r → WQ p l e (rmD 6) s m args below meth c g none r.2 H locs (F0 m 96 ls [.int s2, .int s1, .ref (g.2.2 173)]) := by
    intro s1 s2 μ H locs ls hw hl h
    rw [X12_readTake_96] at h
    obtain ⟨hi96, h⟩ := gd_some h
    refine sI (j := s1.toNatClampNeg) hC hw ok173 on173 hi96 rfl dX12_readTake_96 (fun H locs hw => ?_)
    exact rV hC hw hr hlocks rfl (by rw [← Option.some.inj h]) dX12_readTake_97
  have B95 : ∀ (s1 : Int32) (μ : Mu) (H : Heap) (locs : List Loc) (ls : Array Slot), wd g μ s (Aw g s.heap.size) H locs → lv_has ls 2 [] → X12_readTake_95 n s1 μ = some r → WQ p l e (rmD 6) s m args below meth c g none r.2 H locs (F0 m 95 ls [.int s1, .ref (g.2.2 173)]) := by
    intro s1 μ H locs ls hw hl h
    rw [X12_readTake_95] at h
    refine lv_iconst (v := (0 : Int32)) hx hb dX12_readTake_95 (by decide) ?_
    exact B96 s1 (0 : Int32) μ _ _ _ hw (lv_sub hl [] rfl) h
  have B51 : ∀ (v1 : Int32) (μ : Mu) (H : Heap) (locs : List Loc) (ls : Array Slot), wd g μ s (Aw g s.heap.size) H locs → lv_has ls 2 [(0, .ref (g.2.2 171)), (1, .int v1)] → X12_readTake_51 n v1 μ = some r → WQ p l e (rmD 6) s m args below meth c g none r.2 H locs (F0 m 51 ls []) := by
    intro v1 μ H locs ls hw hl h
    rw [X12_readTake_51] at h
    refine lv_aload_n hx hb dX12_readTake_51 rfl (lv_at hl 0 rfl) ?_
    refine gI hC hw fl_X12_139 ok171 (by decide) dX12_readTake_52 ?_
    refine lv_if_eq (tgt := 59) hx hb dX12_readTake_55 (by decide) (fun hc => ?_) (fun hc => ?_)
    · rw [if_pos hc] at h
      refine lv_aload_n hx hb dX12_readTake_59 rfl (lv_at hl 0 rfl) ?_
      obtain ⟨r60, hr60, h⟩ := bnd h
      refine cV (b := 171) (As := []) (rest := []) (st1 := []) hC hw (c_X12_reads l g n μ r60 hr60) ml_X12_159 im_X12_reads se_X12_reads ok171 (CN := RX12) (T := TX12) (NF := 54) rfl rfl (by decide) rfl hl.1 ⟨Nat.le_of_ble_eq_true rfl, Nat.le_of_ble_eq_true rfl⟩ (Nat.le_of_ble_eq_true rfl) ⟨Nat.zero_le _, Nat.zero_le _⟩ rfl dX12_readTake_60 (fun H locs hw => ?_)
      refine lv_aload_n hx hb dX12_readTake_63 rfl (lv_at hl 0 rfl) ?_
      refine gR (t := 173) hC hw fl_X12_13 ok171 (by decide) ot171_1 dX12_readTake_64 ?_
      refine lv_bipush (v := (7 : Int32)) hx hb dX12_readTake_67 (by decide) ?_
      refine lv_iload_n hx hb dX12_readTake_69 rfl (lv_at hl 1 rfl) ?_
      refine sI (j := 7) hC hw ok173 on173 (vin (by decide)) (by decide) dX12_readTake_70 (fun H locs hw => ?_)
      refine lv_aload_n hx hb dX12_readTake_71 rfl (lv_at hl 0 rfl) ?_
      refine gR (t := 173) hC hw fl_X12_13 ok171 (by decide) ot171_1 dX12_readTake_72 ?_
      refine lv_bipush (v := (8 : Int32)) hx hb dX12_readTake_75 (by decide) ?_
      refine lv_iload_n hx hb dX12_readTake_77 rfl (lv_at hl 1 rfl) ?_
      refine lv_iconst (v := (2 : Int32)) hx hb dX12_readTake_78 (by decide) ?_
      refine lv_icmp_ne (tgt := 95) hx hb dX12_readTake_79 (by decide) (fun hc => ?_) (fun hc => ?_)
      · rw [if_neg hc] at h
        exact B95 (8 : Int32) (si r60.2 173 7 v1) _ _ _ hw (lv_sub hl [] rfl) h
      · rw [if_pos hc] at h
        refine lv_aload_n hx hb dX12_readTake_82 rfl (lv_at hl 0 rfl) ?_
        have hz83 := (hC.2.2.2.2.2.2.2.2.1 44 (by decide)).2.2.2.2
        refine va_ldcS (own := RX12) (index := 182) (tx := "starve") (q := g.2.2 1044) hx hb hC.2.2.2.1 hz83 dX12_readTake_83 ?_
        obtain ⟨r85, hr85, h⟩ := bnd h
        refine cV (b := 171) (As := [.ref (g.2.2 1044)]) (rest := [.int (8 : Int32), .ref (g.2.2 173)]) (st1 := [.int r85.1, .int (8 : Int32), .ref (g.2.2 173)]) hC hw (c_X12_took l g n 1044 (si r60.2 173 7 v1) r85 hr85) ml_X12_184 im_X12_took se_X12_took ok171 (CN := RX12) (T := TX12) (NF := 54) rfl rfl (by decide) rfl hl.1 ⟨Nat.le_of_ble_eq_true rfl, Nat.le_of_ble_eq_true rfl⟩ (Nat.le_of_ble_eq_true rfl) ⟨Nat.zero_le _, Nat.zero_le _⟩ rfl dX12_readTake_85 (fun H locs hw => ?_)
        refine lv_if_eq (tgt := 95) hx hb dX12_readTake_88 (by decide) (fun hc => ?_) (fun hc => ?_)
        · rw [if_pos hc] at h
          exact B95 (8 : Int32) r85.2 _ _ _ hw (lv_sub hl [] rfl) h
        · rw [if_neg hc] at h
          refine lv_iconst (v := (1 : Int32)) hx hb dX12_readTake_91 (by decide) ?_
          refine lv_goto (tgt := 96) hx hb dX12_readTake_92 (by decide) ?_
          exact B96 (8 : Int32) (1 : Int32) r85.2 _ _ _ hw (lv_sub hl [] rfl) h
    · rw [if_neg hc] at h
      exact rV hC hw hr hlocks rfl (by rw [← Option.some.inj h]) dX12_readTake_58
  have B40 : ∀ (s0 : Int32) (μ : Mu) (H : Heap) (locs : List Loc) (ls : Array Slot), wd g μ s (Aw g s.heap.size) H locs → lv_has ls 2 [(0, .ref (g.2.2 171))] → X12_readTake_40 n s0 μ = some r → WQ p l e (rmD 6) s m args below meth c g none r.2 H locs (F0 m 40 ls [.int s0]) := by
    intro s0 μ H locs ls hw hl h
    rw [X12_readTake_40] at h
    refine lv_istore_n (lv' := [(1, .int s0), (0, .ref (g.2.2 171))]) hx hb dX12_readTake_40 rfl hl (by decide) rfl (fun ls hl => ?_)
    refine lv_iload_n hx hb dX12_readTake_41 rfl (lv_at hl 0 rfl) ?_
    refine lv_iconst (v := ((-1) : Int32)) hx hb dX12_readTake_42 (by decide) ?_
    refine lv_icmp_ne (tgt := 51) hx hb dX12_readTake_43 (by decide) (fun hc => ?_) (fun hc => ?_)
    · rw [if_neg hc] at h
      exact B51 s0 μ _ _ _ hw (lv_sub hl [1, 0] rfl) h
    · rw [if_pos hc] at h
      refine lv_aload_n hx hb dX12_readTake_46 rfl (lv_at hl 1 rfl) ?_
      refine lv_iconst (v := (2 : Int32)) hx hb dX12_readTake_47 (by decide) ?_
      obtain ⟨r48, hr48, h⟩ := bnd h
      refine cV (b := 171) (As := [.int (2 : Int32)]) (rest := []) (st1 := []) hC hw (c_X12_blames l g n (2 : Int32) μ r48 hr48) ml_X12_162 im_X12_blames se_X12_blames ok171 (CN := RX12) (T := TX12) (NF := 54) rfl rfl (by decide) rfl hl.1 ⟨Nat.le_of_ble_eq_true rfl, Nat.le_of_ble_eq_true rfl⟩ (Nat.le_of_ble_eq_true rfl) ⟨Nat.zero_le _, Nat.zero_le _⟩ rfl dX12_readTake_48 (fun H locs hw => ?_)
      exact B51 s0 r48.2 _ _ _ hw (lv_sub hl [1, 0] rfl) h
  refine lv_aload_n hx hb dX12_readTake_0 rfl (lv_at hl 0 rfl) ?_
  have hz1 := (hC.2.2.2.2.2.2.2.2.1 41 (by decide)).2.2.2.2
  refine va_ldcS (own := RX12) (index := 176) (tx := "none") (q := g.2.2 1041) hx hb hC.2.2.2.1 hz1 dX12_readTake_1 ?_
  obtain ⟨r3, hr3, h⟩ := bnd h
  refine cV (b := 171) (As := [.ref (g.2.2 1041)]) (rest := []) (st1 := [.int r3.1]) hC hw (c_X12_isWord l g n 1041 μ r3 hr3) ml_X12_155 im_X12_isWord se_X12_isWord ok171 (CN := RX12) (T := TX12) (NF := 54) rfl rfl (by decide) rfl hl.1 ⟨Nat.le_of_ble_eq_true rfl, Nat.le_of_ble_eq_true rfl⟩ (Nat.le_of_ble_eq_true rfl) ⟨Nat.zero_le _, Nat.zero_le _⟩ rfl dX12_readTake_3 (fun H locs hw => ?_)
  refine lv_if_eq (tgt := 13) hx hb dX12_readTake_6 (by decide) (fun hc => ?_) (fun hc => ?_)
  · rw [if_pos hc] at h
    refine lv_aload_n hx hb dX12_readTake_13 rfl (lv_at hl 0 rfl) ?_
    have hz14 := (hC.2.2.2.2.2.2.2.2.1 42 (by decide)).2.2.2.2
    refine va_ldcS (own := RX12) (index := 178) (tx := "opposite") (q := g.2.2 1042) hx hb hC.2.2.2.1 hz14 dX12_readTake_14 ?_
    obtain ⟨r16, hr16, h⟩ := bnd h
    refine cV (b := 171) (As := [.ref (g.2.2 1042)]) (rest := []) (st1 := [.int r16.1]) hC hw (c_X12_isWord l g n 1042 r3.2 r16 hr16) ml_X12_155 im_X12_isWord se_X12_isWord ok171 (CN := RX12) (T := TX12) (NF := 54) rfl rfl (by decide) rfl hl.1 ⟨Nat.le_of_ble_eq_true rfl, Nat.le_of_ble_eq_true rfl⟩ (Nat.le_of_ble_eq_true rfl) ⟨Nat.zero_le _, Nat.zero_le _⟩ rfl dX12_readTake_16 (fun H locs hw => ?_)
    refine lv_if_eq (tgt := 26) hx hb dX12_readTake_19 (by decide) (fun hc => ?_) (fun hc => ?_)
    · rw [if_pos hc] at h
      refine lv_aload_n hx hb dX12_readTake_26 rfl (lv_at hl 0 rfl) ?_
      have hz27 := (hC.2.2.2.2.2.2.2.2.1 43 (by decide)).2.2.2.2
      refine va_ldcS (own := RX12) (index := 180) (tx := "grand") (q := g.2.2 1043) hx hb hC.2.2.2.1 hz27 dX12_readTake_27 ?_
      obtain ⟨r29, hr29, h⟩ := bnd h
      refine cV (b := 171) (As := [.ref (g.2.2 1043)]) (rest := []) (st1 := [.int r29.1]) hC hw (c_X12_isWord l g n 1043 r16.2 r29 hr29) ml_X12_155 im_X12_isWord se_X12_isWord ok171 (CN := RX12) (T := TX12) (NF := 54) rfl rfl (by decide) rfl hl.1 ⟨Nat.le_of_ble_eq_true rfl, Nat.le_of_ble_eq_true rfl⟩ (Nat.le_of_ble_eq_true rfl) ⟨Nat.zero_le _, Nat.zero_le _⟩ rfl dX12_readTake_29 (fun H locs hw => ?_)
      refine lv_if_eq (tgt := 39) hx hb dX12_readTake_32 (by decide) (fun hc => ?_) (fun hc => ?_)
      · rw [if_pos hc] at h
        refine lv_iconst (v := ((-1) : Int32)) hx hb dX12_readTake_39 (by decide) ?_
        exact B40 ((-1) : Int32) r29.2 _ _ _ hw (lv_sub hl [0] rfl) h
      · rw [if_neg hc] at h
        refine lv_iconst (v := (2 : Int32)) hx hb dX12_readTake_35 (by decide) ?_
        refine lv_goto (tgt := 40) hx hb dX12_readTake_36 (by decide) ?_
        exact B40 (2 : Int32) r29.2 _ _ _ hw (lv_sub hl [0] rfl) h
    · rw [if_neg hc] at h
      refine lv_iconst (v := (1 : Int32)) hx hb dX12_readTake_22 (by decide) ?_
      refine lv_goto (tgt := 40) hx hb dX12_readTake_23 (by decide) ?_
      exact B40 (1 : Int32) r16.2 _ _ _ hw (lv_sub hl [0] rfl) h
  · rw [if_neg hc] at h
    refine lv_iconst (v := (0 : Int32)) hx hb dX12_readTake_9 (by decide) ?_
    refine lv_goto (tgt := 40) hx hb dX12_readTake_10 (by decide) ?_
    exact B40 (0 : Int32) r3.2 _ _ _ hw (lv_sub hl [0] rfl) h
set_option maxRecDepth 100000 in
set_option maxHeartbeats 4000000 in
theorem c_X12_readLine (l : Launch) (g : Gw) (n : Nat) (v1 : Int32) (μ : Mu) (r : Unit × Mu) (h : X12_readLine n v1 μ = some r) : Ct l g yX12_readLine cX12_readLine 2 none 7 [.ref (g.2.2 171), .int v1] μ none r.2 := by
  rw [X12_readLine] at h
  refine Ct.of (by decide) (Nat.le_of_ble_eq_true rfl) ?_
  intro p e s m args below meth c ls hC hw hr hlocks hl
  have hx := hC.1
  have hb := hC.2.1
  have hl : lv_has ls 2 [(0, .ref (g.2.2 171)), (1, .int v1)] := hl
  have B282 : ∀ (μ : Mu) (H : Heap) (locs : List Loc) (ls : Array Slot), wd g μ s (Aw g s.heap.size) H locs → lv_has ls 2 [] → X12_readLine_282 n v1  μ = some r → WQ p l e (rmD 7) s m args below meth c g none r.2 H locs (F0 m 282 ls []) := by
    intro μ H locs ls hw hl h
    rw [X12_readLine_282] at h
    exact rV hC hw hr hlocks rfl (by rw [← Option.some.inj h]) dX12_readLine_282
  have B265 : ∀ (μ : Mu) (H : Heap) (locs : List Loc) (ls : Array Slot), wd g μ s (Aw g s.heap.size) H locs → lv_has ls 2 [(0, .ref (g.2.2 171))] → X12_readLine_265 n v1  μ = some r → WQ p l e (rmD 7) s m args below meth c g none r.2 H locs (F0 m 265 ls []) := by
    intro μ H locs ls hw hl h
    rw [X12_readLine_265] at h
    refine lv_aload_n hx hb dX12_readLine_265 rfl (lv_at hl 0 rfl) ?_
    refine gI hC hw fl_X12_139 ok171 (by decide) dX12_readLine_266 ?_
    refine lv_if_ne (tgt := 282) hx hb dX12_readLine_269 (by decide) (fun hc => ?_) (fun hc => ?_)
    · rw [if_neg hc] at h
      exact B282 μ _ _ _ hw (lv_sub hl [] rfl) h
    · rw [if_pos hc] at h
      refine lv_aload_n hx hb dX12_readLine_272 rfl (lv_at hl 0 rfl) ?_
      refine gR (t := 173) hC hw fl_X12_13 ok171 (by decide) ot171_1 dX12_readLine_273 ?_
      refine lv_iconst (v := (0 : Int32)) hx hb dX12_readLine_276 (by decide) ?_
      refine lv_dup2_11 hx hb dX12_readLine_277 rfl rfl ?_
      refine lI (j := 0) hC hw ok173 on173 (vin (by decide)) (by decide) dX12_readLine_278 ?_
      refine lv_iconst (v := (1 : Int32)) hx hb dX12_readLine_279 (by decide) ?_
      refine lv_iadd hx hb dX12_readLine_280 ?_
      refine sI (j := 0) hC hw ok173 on173 (vin (by decide)) (by decide) dX12_readLine_281 (fun H locs hw => ?_)
      exact B282 (si μ 173 0 ((μ.1 173 0) + (1 : Int32))) _ _ _ hw (lv_sub hl [] rfl) h
  have B254 : ∀ (μ : Mu) (H : Heap) (locs : List Loc) (ls : Array Slot), wd g μ s (Aw g s.heap.size) H locs → lv_has ls 2 [(0, .ref (g.2.2 171))] → X12_readLine_254 n v1  μ = some r → WQ p l e (rmD 7) s m args below meth c g none r.2 H locs (F0 m 254 ls []) := by
    intro μ H locs ls hw hl h
    rw [X12_readLine_254] at h
    refine lv_aload_n hx hb dX12_readLine_254 rfl (lv_at hl 0 rfl) ?_
    refine gI hC hw fl_X12_139 ok171 (by decide) dX12_readLine_255 ?_
    refine lv_if_ne (tgt := 265) hx hb dX12_readLine_258 (by decide) (fun hc => ?_) (fun hc => ?_)
    · rw [if_neg hc] at h
      exact B265 μ _ _ _ hw (lv_sub hl [0] rfl) h
    · rw [if_pos hc] at h
      refine lv_aload_n hx hb dX12_readLine_261 rfl (lv_at hl 0 rfl) ?_
      obtain ⟨r262, hr262, h⟩ := bnd h
      refine cV (b := 171) (As := []) (rest := []) (st1 := []) hC hw (c_X12_reads l g n μ r262 hr262) ml_X12_159 im_X12_reads se_X12_reads ok171 (CN := RX12) (T := TX12) (NF := 54) rfl rfl (by decide) rfl hl.1 ⟨Nat.le_of_ble_eq_true rfl, Nat.le_of_ble_eq_true rfl⟩ (Nat.le_of_ble_eq_true rfl) ⟨Nat.zero_le _, Nat.zero_le _⟩ rfl dX12_readLine_262 (fun H locs hw => ?_)
      exact B265 r262.2 _ _ _ hw (lv_sub hl [0] rfl) h
  have B241 : ∀ (μ : Mu) (H : Heap) (locs : List Loc) (ls : Array Slot), wd g μ s (Aw g s.heap.size) H locs → lv_has ls 2 [(0, .ref (g.2.2 171))] → X12_readLine_241 n v1  μ = some r → WQ p l e (rmD 7) s m args below meth c g none r.2 H locs (F0 m 241 ls []) := by
    intro μ H locs ls hw hl h
    rw [X12_readLine_241] at h
    refine lv_aload_n hx hb dX12_readLine_241 rfl (lv_at hl 0 rfl) ?_
    refine gI hC hw fl_X12_122 ok171 (by decide) dX12_readLine_242 ?_
    refine lv_iconst (v := (3 : Int32)) hx hb dX12_readLine_245 (by decide) ?_
    refine lv_icmp_eq (tgt := 254) hx hb dX12_readLine_246 (by decide) (fun hc => ?_) (fun hc => ?_)
    · rw [if_pos hc] at h
      exact B254 μ _ _ _ hw (lv_sub hl [0] rfl) h
    · rw [if_neg hc] at h
      refine lv_aload_n hx hb dX12_readLine_249 rfl (lv_at hl 0 rfl) ?_
      refine lv_iconst (v := (2 : Int32)) hx hb dX12_readLine_250 (by decide) ?_
      obtain ⟨r251, hr251, h⟩ := bnd h
      refine cV (b := 171) (As := [.int (2 : Int32)]) (rest := []) (st1 := []) hC hw (c_X12_blames l g n (2 : Int32) μ r251 hr251) ml_X12_162 im_X12_blames se_X12_blames ok171 (CN := RX12) (T := TX12) (NF := 54) rfl rfl (by decide) rfl hl.1 ⟨Nat.le_of_ble_eq_true rfl, Nat.le_of_ble_eq_true rfl⟩ (Nat.le_of_ble_eq_true rfl) ⟨Nat.zero_le _, Nat.zero_le _⟩ rfl dX12_readLine_251 (fun H locs hw => ?_)
      exact B254 r251.2 _ _ _ hw (lv_sub hl [0] rfl) h
  have B29 : ∀ (μ : Mu) (H : Heap) (locs : List Loc) (ls : Array Slot), wd g μ s (Aw g s.heap.size) H locs → lv_has ls 2 [(0, .ref (g.2.2 171))] → X12_readLine_29 n v1  μ = some r → WQ p l e (rmD 7) s m args below meth c g none r.2 H locs (F0 m 29 ls []) := by
    intro μ H locs ls hw hl h
    rw [X12_readLine_29] at h
    refine lv_aload_n hx hb dX12_readLine_29 rfl (lv_at hl 0 rfl) ?_
    have hz30 := (hC.2.2.2.2.2.2.2.2.1 33 (by decide)).2.2.2.2
    refine va_ldcS (own := RX12) (index := 189) (tx := "lay") (q := g.2.2 1033) hx hb hC.2.2.2.1 hz30 dX12_readLine_30 ?_
    obtain ⟨r32, hr32, h⟩ := bnd h
    refine cV (b := 171) (As := [.ref (g.2.2 1033)]) (rest := []) (st1 := [.int r32.1]) hC hw (c_X12_took l g n 1033 μ r32 hr32) ml_X12_184 im_X12_took se_X12_took ok171 (CN := RX12) (T := TX12) (NF := 54) rfl rfl (by decide) rfl hl.1 ⟨Nat.le_of_ble_eq_true rfl, Nat.le_of_ble_eq_true rfl⟩ (Nat.le_of_ble_eq_true rfl) ⟨Nat.zero_le _, Nat.zero_le _⟩ rfl dX12_readLine_32 (fun H locs hw => ?_)
    refine lv_if_eq (tgt := 45) hx hb dX12_readLine_35 (by decide) (fun hc => ?_) (fun hc => ?_)
    · rw [if_pos hc] at h
      refine lv_aload_n hx hb dX12_readLine_45 rfl (lv_at hl 0 rfl) ?_
      have hz46 := (hC.2.2.2.2.2.2.2.2.1 34 (by decide)).2.2.2.2
      refine va_ldcS (own := RX12) (index := 194) (tx := "stored") (q := g.2.2 1034) hx hb hC.2.2.2.1 hz46 dX12_readLine_46 ?_
      obtain ⟨r48, hr48, h⟩ := bnd h
      refine cV (b := 171) (As := [.ref (g.2.2 1034)]) (rest := []) (st1 := [.int r48.1]) hC hw (c_X12_took l g n 1034 r32.2 r48 hr48) ml_X12_184 im_X12_took se_X12_took ok171 (CN := RX12) (T := TX12) (NF := 54) rfl rfl (by decide) rfl hl.1 ⟨Nat.le_of_ble_eq_true rfl, Nat.le_of_ble_eq_true rfl⟩ (Nat.le_of_ble_eq_true rfl) ⟨Nat.zero_le _, Nat.zero_le _⟩ rfl dX12_readLine_48 (fun H locs hw => ?_)
      refine lv_if_eq (tgt := 61) hx hb dX12_readLine_51 (by decide) (fun hc => ?_) (fun hc => ?_)
      · rw [if_pos hc] at h
        refine lv_aload_n hx hb dX12_readLine_61 rfl (lv_at hl 0 rfl) ?_
        have hz62 := (hC.2.2.2.2.2.2.2.2.1 35 (by decide)).2.2.2.2
        refine va_ldcS (own := RX12) (index := 199) (tx := "lacking") (q := g.2.2 1035) hx hb hC.2.2.2.1 hz62 dX12_readLine_62 ?_
        obtain ⟨r64, hr64, h⟩ := bnd h
        refine cV (b := 171) (As := [.ref (g.2.2 1035)]) (rest := []) (st1 := [.int r64.1]) hC hw (c_X12_took l g n 1035 r48.2 r64 hr64) ml_X12_184 im_X12_took se_X12_took ok171 (CN := RX12) (T := TX12) (NF := 54) rfl rfl (by decide) rfl hl.1 ⟨Nat.le_of_ble_eq_true rfl, Nat.le_of_ble_eq_true rfl⟩ (Nat.le_of_ble_eq_true rfl) ⟨Nat.zero_le _, Nat.zero_le _⟩ rfl dX12_readLine_64 (fun H locs hw => ?_)
        refine lv_if_eq (tgt := 92) hx hb dX12_readLine_67 (by decide) (fun hc => ?_) (fun hc => ?_)
        · rw [if_pos hc] at h
          refine lv_aload_n hx hb dX12_readLine_92 rfl (lv_at hl 0 rfl) ?_
          have hz93 := (hC.2.2.2.2.2.2.2.2.1 36 (by decide)).2.2.2.2
          refine va_ldcS (own := RX12) (index := 204) (tx := "first") (q := g.2.2 1036) hx hb hC.2.2.2.1 hz93 dX12_readLine_93 ?_
          obtain ⟨r95, hr95, h⟩ := bnd h
          refine cV (b := 171) (As := [.ref (g.2.2 1036)]) (rest := []) (st1 := [.int r95.1]) hC hw (c_X12_took l g n 1036 r64.2 r95 hr95) ml_X12_184 im_X12_took se_X12_took ok171 (CN := RX12) (T := TX12) (NF := 54) rfl rfl (by decide) rfl hl.1 ⟨Nat.le_of_ble_eq_true rfl, Nat.le_of_ble_eq_true rfl⟩ (Nat.le_of_ble_eq_true rfl) ⟨Nat.zero_le _, Nat.zero_le _⟩ rfl dX12_readLine_95 (fun H locs hw => ?_)
          refine lv_if_eq (tgt := 116) hx hb dX12_readLine_98 (by decide) (fun hc => ?_) (fun hc => ?_)
          · rw [if_pos hc] at h
            refine lv_aload_n hx hb dX12_readLine_116 rfl (lv_at hl 0 rfl) ?_
            have hz117 := (hC.2.2.2.2.2.2.2.2.1 37 (by decide)).2.2.2.2
            refine va_ldcS (own := RX12) (index := 206) (tx := "stores") (q := g.2.2 1037) hx hb hC.2.2.2.1 hz117 dX12_readLine_117 ?_
            obtain ⟨r119, hr119, h⟩ := bnd h
            refine cV (b := 171) (As := [.ref (g.2.2 1037)]) (rest := []) (st1 := [.int r119.1]) hC hw (c_X12_took l g n 1037 r95.2 r119 hr119) ml_X12_184 im_X12_took se_X12_took ok171 (CN := RX12) (T := TX12) (NF := 54) rfl rfl (by decide) rfl hl.1 ⟨Nat.le_of_ble_eq_true rfl, Nat.le_of_ble_eq_true rfl⟩ (Nat.le_of_ble_eq_true rfl) ⟨Nat.zero_le _, Nat.zero_le _⟩ rfl dX12_readLine_119 (fun H locs hw => ?_)
            refine lv_if_eq (tgt := 135) hx hb dX12_readLine_122 (by decide) (fun hc => ?_) (fun hc => ?_)
            · rw [if_pos hc] at h
              refine lv_aload_n hx hb dX12_readLine_135 rfl (lv_at hl 0 rfl) ?_
              have hz136 := (hC.2.2.2.2.2.2.2.2.1 38 (by decide)).2.2.2.2
              refine va_ldcS (own := RX12) (index := 208) (tx := "skip") (q := g.2.2 1038) hx hb hC.2.2.2.1 hz136 dX12_readLine_136 ?_
              obtain ⟨r138, hr138, h⟩ := bnd h
              refine cV (b := 171) (As := [.ref (g.2.2 1038)]) (rest := []) (st1 := [.int r138.1]) hC hw (c_X12_took l g n 1038 r119.2 r138 hr138) ml_X12_184 im_X12_took se_X12_took ok171 (CN := RX12) (T := TX12) (NF := 54) rfl rfl (by decide) rfl hl.1 ⟨Nat.le_of_ble_eq_true rfl, Nat.le_of_ble_eq_true rfl⟩ (Nat.le_of_ble_eq_true rfl) ⟨Nat.zero_le _, Nat.zero_le _⟩ rfl dX12_readLine_138 (fun H locs hw => ?_)
              refine lv_if_eq (tgt := 154) hx hb dX12_readLine_141 (by decide) (fun hc => ?_) (fun hc => ?_)
              · rw [if_pos hc] at h
                refine lv_aload_n hx hb dX12_readLine_154 rfl (lv_at hl 0 rfl) ?_
                have hz155 := (hC.2.2.2.2.2.2.2.2.1 39 (by decide)).2.2.2.2
                refine va_ldcS (own := RX12) (index := 210) (tx := "relay") (q := g.2.2 1039) hx hb hC.2.2.2.1 hz155 dX12_readLine_155 ?_
                obtain ⟨r157, hr157, h⟩ := bnd h
                refine cV (b := 171) (As := [.ref (g.2.2 1039)]) (rest := []) (st1 := [.int r157.1]) hC hw (c_X12_took l g n 1039 r138.2 r157 hr157) ml_X12_184 im_X12_took se_X12_took ok171 (CN := RX12) (T := TX12) (NF := 54) rfl rfl (by decide) rfl hl.1 ⟨Nat.le_of_ble_eq_true rfl, Nat.le_of_ble_eq_true rfl⟩ (Nat.le_of_ble_eq_true rfl) ⟨Nat.zero_le _, Nat.zero_le _⟩ rfl dX12_readLine_157 (fun H locs hw => ?_)
                refine lv_if_eq (tgt := 180) hx hb dX12_readLine_160 (by decide) (fun hc => ?_) (fun hc => ?_)
                · rw [if_pos hc] at h
                  refine lv_aload_n hx hb dX12_readLine_180 rfl (lv_at hl 0 rfl) ?_
                  have hz181 := (hC.2.2.2.2.2.2.2.2.1 40 (by decide)).2.2.2.2
                  refine va_ldcS (own := RX12) (index := 212) (tx := "take") (q := g.2.2 1040) hx hb hC.2.2.2.1 hz181 dX12_readLine_181 ?_
                  obtain ⟨r183, hr183, h⟩ := bnd h
                  refine cV (b := 171) (As := [.ref (g.2.2 1040)]) (rest := []) (st1 := [.int r183.1]) hC hw (c_X12_took l g n 1040 r157.2 r183 hr183) ml_X12_184 im_X12_took se_X12_took ok171 (CN := RX12) (T := TX12) (NF := 54) rfl rfl (by decide) rfl hl.1 ⟨Nat.le_of_ble_eq_true rfl, Nat.le_of_ble_eq_true rfl⟩ (Nat.le_of_ble_eq_true rfl) ⟨Nat.zero_le _, Nat.zero_le _⟩ rfl dX12_readLine_183 (fun H locs hw => ?_)
                  refine lv_if_eq (tgt := 196) hx hb dX12_readLine_186 (by decide) (fun hc => ?_) (fun hc => ?_)
                  · rw [if_pos hc] at h
                    refine lv_aload_n hx hb dX12_readLine_196 rfl (lv_at hl 0 rfl) ?_
                    have hz197 := (hC.2.2.2.2.2.2.2.2.1 45 (by decide)).2.2.2.2
                    refine va_ldcS (own := RX12) (index := 217) (tx := "again") (q := g.2.2 1045) hx hb hC.2.2.2.1 hz197 dX12_readLine_197 ?_
                    obtain ⟨r199, hr199, h⟩ := bnd h
                    refine cV (b := 171) (As := [.ref (g.2.2 1045)]) (rest := []) (st1 := [.int r199.1]) hC hw (c_X12_took l g n 1045 r183.2 r199 hr199) ml_X12_184 im_X12_took se_X12_took ok171 (CN := RX12) (T := TX12) (NF := 54) rfl rfl (by decide) rfl hl.1 ⟨Nat.le_of_ble_eq_true rfl, Nat.le_of_ble_eq_true rfl⟩ (Nat.le_of_ble_eq_true rfl) ⟨Nat.zero_le _, Nat.zero_le _⟩ rfl dX12_readLine_199 (fun H locs hw => ?_)
                    refine lv_if_eq (tgt := 216) hx hb dX12_readLine_202 (by decide) (fun hc => ?_) (fun hc => ?_)
                    · rw [if_pos hc] at h
                      refine lv_aload_n hx hb dX12_readLine_216 rfl (lv_at hl 0 rfl) ?_
                      have hz217 := (hC.2.2.2.2.2.2.2.2.1 46 (by decide)).2.2.2.2
                      refine va_ldcS (own := RX12) (index := 219) (tx := "feed") (q := g.2.2 1046) hx hb hC.2.2.2.1 hz217 dX12_readLine_217 ?_
                      obtain ⟨r219, hr219, h⟩ := bnd h
                      refine cV (b := 171) (As := [.ref (g.2.2 1046)]) (rest := []) (st1 := [.int r219.1]) hC hw (c_X12_took l g n 1046 r199.2 r219 hr219) ml_X12_184 im_X12_took se_X12_took ok171 (CN := RX12) (T := TX12) (NF := 54) rfl rfl (by decide) rfl hl.1 ⟨Nat.le_of_ble_eq_true rfl, Nat.le_of_ble_eq_true rfl⟩ (Nat.le_of_ble_eq_true rfl) ⟨Nat.zero_le _, Nat.zero_le _⟩ rfl dX12_readLine_219 (fun H locs hw => ?_)
                      refine lv_if_eq (tgt := 236) hx hb dX12_readLine_222 (by decide) (fun hc => ?_) (fun hc => ?_)
                      · rw [if_pos hc] at h
                        refine lv_aload_n hx hb dX12_readLine_236 rfl (lv_at hl 0 rfl) ?_
                        refine lv_iconst (v := (2 : Int32)) hx hb dX12_readLine_237 (by decide) ?_
                        obtain ⟨r238, hr238, h⟩ := bnd h
                        refine cV (b := 171) (As := [.int (2 : Int32)]) (rest := []) (st1 := []) hC hw (c_X12_blames l g n (2 : Int32) r219.2 r238 hr238) ml_X12_162 im_X12_blames se_X12_blames ok171 (CN := RX12) (T := TX12) (NF := 54) rfl rfl (by decide) rfl hl.1 ⟨Nat.le_of_ble_eq_true rfl, Nat.le_of_ble_eq_true rfl⟩ (Nat.le_of_ble_eq_true rfl) ⟨Nat.zero_le _, Nat.zero_le _⟩ rfl dX12_readLine_238 (fun H locs hw => ?_)
                        exact B241 r238.2 _ _ _ hw (lv_sub hl [0] rfl) h
                      · rw [if_neg hc] at h
                        refine lv_aload_n hx hb dX12_readLine_225 rfl (lv_at hl 0 rfl) ?_
                        refine gR (t := 173) hC hw fl_X12_13 ok171 (by decide) ot171_1 dX12_readLine_226 ?_
                        refine lv_bipush (v := (10 : Int32)) hx hb dX12_readLine_229 (by decide) ?_
                        refine lv_iconst (v := (1 : Int32)) hx hb dX12_readLine_231 (by decide) ?_
                        refine sI (j := 10) hC hw ok173 on173 (vin (by decide)) (by decide) dX12_readLine_232 (fun H locs hw => ?_)
                        refine lv_goto (tgt := 241) hx hb dX12_readLine_233 (by decide) ?_
                        exact B241 (si r219.2 173 10 (1 : Int32)) _ _ _ hw (lv_sub hl [0] rfl) h
                    · rw [if_neg hc] at h
                      refine lv_aload_n hx hb dX12_readLine_205 rfl (lv_at hl 0 rfl) ?_
                      refine gR (t := 173) hC hw fl_X12_13 ok171 (by decide) ot171_1 dX12_readLine_206 ?_
                      refine lv_bipush (v := (9 : Int32)) hx hb dX12_readLine_209 (by decide) ?_
                      refine lv_iconst (v := (1 : Int32)) hx hb dX12_readLine_211 (by decide) ?_
                      refine sI (j := 9) hC hw ok173 on173 (vin (by decide)) (by decide) dX12_readLine_212 (fun H locs hw => ?_)
                      refine lv_goto (tgt := 241) hx hb dX12_readLine_213 (by decide) ?_
                      exact B241 (si r199.2 173 9 (1 : Int32)) _ _ _ hw (lv_sub hl [0] rfl) h
                  · rw [if_neg hc] at h
                    refine lv_aload_n hx hb dX12_readLine_189 rfl (lv_at hl 0 rfl) ?_
                    obtain ⟨r190, hr190, h⟩ := bnd h
                    refine cV (b := 171) (As := []) (rest := []) (st1 := []) hC hw (c_X12_readTake l g n r183.2 r190 hr190) ml_X12_214 im_X12_readTake se_X12_readTake ok171 (CN := RX12) (T := TX12) (NF := 54) rfl rfl (by decide) rfl hl.1 ⟨Nat.le_of_ble_eq_true rfl, Nat.le_of_ble_eq_true rfl⟩ (Nat.le_of_ble_eq_true rfl) ⟨Nat.zero_le _, Nat.zero_le _⟩ rfl dX12_readLine_190 (fun H locs hw => ?_)
                    refine lv_goto (tgt := 241) hx hb dX12_readLine_193 (by decide) ?_
                    exact B241 r190.2 _ _ _ hw (lv_sub hl [0] rfl) h
                · rw [if_neg hc] at h
                  refine lv_aload_n hx hb dX12_readLine_163 rfl (lv_at hl 0 rfl) ?_
                  refine gR (t := 173) hC hw fl_X12_13 ok171 (by decide) ot171_1 dX12_readLine_164 ?_
                  refine lv_bipush (v := (6 : Int32)) hx hb dX12_readLine_167 (by decide) ?_
                  refine lv_aload_n hx hb dX12_readLine_169 rfl (lv_at hl 0 rfl) ?_
                  refine lv_iconst (v := (1 : Int32)) hx hb dX12_readLine_170 (by decide) ?_
                  refine lv_bipush (v := (20 : Int32)) hx hb dX12_readLine_171 (by decide) ?_
                  obtain ⟨r173, hr173, h⟩ := bnd h
                  refine cV (b := 171) (As := [.int (1 : Int32), .int (20 : Int32)]) (rest := [.int (6 : Int32), .ref (g.2.2 173)]) (st1 := [.int r173.1, .int (6 : Int32), .ref (g.2.2 173)]) hC hw (c_X12_number l g n (1 : Int32) (20 : Int32) r157.2 r173 hr173) ml_X12_172 im_X12_number se_X12_number ok171 (CN := RX12) (T := TX12) (NF := 54) rfl rfl (by decide) rfl hl.1 ⟨Nat.le_of_ble_eq_true rfl, Nat.le_of_ble_eq_true rfl⟩ (Nat.le_of_ble_eq_true rfl) ⟨Nat.zero_le _, Nat.zero_le _⟩ rfl dX12_readLine_173 (fun H locs hw => ?_)
                  refine sI (j := 6) hC hw ok173 on173 (vin (by decide)) (by decide) dX12_readLine_176 (fun H locs hw => ?_)
                  refine lv_goto (tgt := 241) hx hb dX12_readLine_177 (by decide) ?_
                  exact B241 (si r173.2 173 6 r173.1) _ _ _ hw (lv_sub hl [0] rfl) h
              · rw [if_neg hc] at h
                refine lv_aload_n hx hb dX12_readLine_144 rfl (lv_at hl 0 rfl) ?_
                refine gR (t := 173) hC hw fl_X12_13 ok171 (by decide) ot171_1 dX12_readLine_145 ?_
                refine lv_iconst (v := (5 : Int32)) hx hb dX12_readLine_148 (by decide) ?_
                refine lv_iconst (v := (1 : Int32)) hx hb dX12_readLine_149 (by decide) ?_
                refine sI (j := 5) hC hw ok173 on173 (vin (by decide)) (by decide) dX12_readLine_150 (fun H locs hw => ?_)
                refine lv_goto (tgt := 241) hx hb dX12_readLine_151 (by decide) ?_
                exact B241 (si r138.2 173 5 (1 : Int32)) _ _ _ hw (lv_sub hl [0] rfl) h
            · rw [if_neg hc] at h
              refine lv_aload_n hx hb dX12_readLine_125 rfl (lv_at hl 0 rfl) ?_
              refine gR (t := 173) hC hw fl_X12_13 ok171 (by decide) ot171_1 dX12_readLine_126 ?_
              refine lv_iconst (v := (4 : Int32)) hx hb dX12_readLine_129 (by decide) ?_
              refine lv_iconst (v := (1 : Int32)) hx hb dX12_readLine_130 (by decide) ?_
              refine sI (j := 4) hC hw ok173 on173 (vin (by decide)) (by decide) dX12_readLine_131 (fun H locs hw => ?_)
              refine lv_goto (tgt := 241) hx hb dX12_readLine_132 (by decide) ?_
              exact B241 (si r119.2 173 4 (1 : Int32)) _ _ _ hw (lv_sub hl [0] rfl) h
          · rw [if_neg hc] at h
            refine lv_aload_n hx hb dX12_readLine_101 rfl (lv_at hl 0 rfl) ?_
            refine gR (t := 173) hC hw fl_X12_13 ok171 (by decide) ot171_1 dX12_readLine_102 ?_
            refine lv_iconst (v := (2 : Int32)) hx hb dX12_readLine_105 (by decide) ?_
            refine lv_aload_n hx hb dX12_readLine_106 rfl (lv_at hl 0 rfl) ?_
            refine lv_iconst (v := (0 : Int32)) hx hb dX12_readLine_107 (by decide) ?_
            refine lv_iconst (v := (1 : Int32)) hx hb dX12_readLine_108 (by decide) ?_
            obtain ⟨r109, hr109, h⟩ := bnd h
            refine cV (b := 171) (As := [.int (0 : Int32), .int (1 : Int32)]) (rest := [.int (2 : Int32), .ref (g.2.2 173)]) (st1 := [.int r109.1, .int (2 : Int32), .ref (g.2.2 173)]) hC hw (c_X12_number l g n (0 : Int32) (1 : Int32) r95.2 r109 hr109) ml_X12_172 im_X12_number se_X12_number ok171 (CN := RX12) (T := TX12) (NF := 54) rfl rfl (by decide) rfl hl.1 ⟨Nat.le_of_ble_eq_true rfl, Nat.le_of_ble_eq_true rfl⟩ (Nat.le_of_ble_eq_true rfl) ⟨Nat.zero_le _, Nat.zero_le _⟩ rfl dX12_readLine_109 (fun H locs hw => ?_)
            refine sI (j := 2) hC hw ok173 on173 (vin (by decide)) (by decide) dX12_readLine_112 (fun H locs hw => ?_)
            refine lv_goto (tgt := 241) hx hb dX12_readLine_113 (by decide) ?_
            exact B241 (si r109.2 173 2 r109.1) _ _ _ hw (lv_sub hl [0] rfl) h
        · rw [if_neg hc] at h
          refine lv_aload_n hx hb dX12_readLine_70 rfl (lv_at hl 0 rfl) ?_
          refine lv_aload_n hx hb dX12_readLine_71 rfl (lv_at hl 0 rfl) ?_
          refine lv_iconst (v := (0 : Int32)) hx hb dX12_readLine_72 (by decide) ?_
          refine lv_iconst (v := (2 : Int32)) hx hb dX12_readLine_73 (by decide) ?_
          refine lv_aload_n hx hb dX12_readLine_74 rfl (lv_at hl 0 rfl) ?_
          refine gR (t := 173) hC hw fl_X12_13 ok171 (by decide) ot171_1 dX12_readLine_75 ?_
          refine lv_iconst (v := (1 : Int32)) hx hb dX12_readLine_78 (by decide) ?_
          refine lI (j := 1) hC hw ok173 on173 (vin (by decide)) (by decide) dX12_readLine_79 ?_
          refine lv_imul hx hb dX12_readLine_80 ?_
          refine lv_iconst (v := (1 : Int32)) hx hb dX12_readLine_81 (by decide) ?_
          refine lv_isub hx hb dX12_readLine_82 ?_
          obtain ⟨r83, hr83, h⟩ := bnd h
          refine cV (b := 171) (As := [.int (0 : Int32), .int (((2 : Int32) * (r64.2.1 173 1)) - (1 : Int32))]) (rest := [.ref (g.2.2 171)]) (st1 := [.int r83.1, .ref (g.2.2 171)]) hC hw (c_X12_number l g n (0 : Int32) (((2 : Int32) * (r64.2.1 173 1)) - (1 : Int32)) r64.2 r83 hr83) ml_X12_172 im_X12_number se_X12_number ok171 (CN := RX12) (T := TX12) (NF := 54) rfl rfl (by decide) rfl hl.1 ⟨Nat.le_of_ble_eq_true rfl, Nat.le_of_ble_eq_true rfl⟩ (Nat.le_of_ble_eq_true rfl) ⟨Nat.zero_le _, Nat.zero_le _⟩ rfl dX12_readLine_83 (fun H locs hw => ?_)
          obtain ⟨r86, hr86, h⟩ := bnd h
          refine cV (b := 171) (As := [.int r83.1]) (rest := []) (st1 := []) hC hw (c_X12_lacks l g n r83.1 r83.2 r86 hr86) ml_X12_201 im_X12_lacks se_X12_lacks ok171 (CN := RX12) (T := TX12) (NF := 54) rfl rfl (by decide) rfl hl.1 ⟨Nat.le_of_ble_eq_true rfl, Nat.le_of_ble_eq_true rfl⟩ (Nat.le_of_ble_eq_true rfl) ⟨Nat.zero_le _, Nat.zero_le _⟩ rfl dX12_readLine_86 (fun H locs hw => ?_)
          refine lv_goto (tgt := 241) hx hb dX12_readLine_89 (by decide) ?_
          exact B241 r86.2 _ _ _ hw (lv_sub hl [0] rfl) h
      · rw [if_neg hc] at h
        refine lv_aload_n hx hb dX12_readLine_54 rfl (lv_at hl 0 rfl) ?_
        obtain ⟨r55, hr55, h⟩ := bnd h
        refine cV (b := 171) (As := []) (rest := []) (st1 := []) hC hw (c_X12_readStored l g n r48.2 r55 hr55) ml_X12_196 im_X12_readStored se_X12_readStored ok171 (CN := RX12) (T := TX12) (NF := 54) rfl rfl (by decide) rfl hl.1 ⟨Nat.le_of_ble_eq_true rfl, Nat.le_of_ble_eq_true rfl⟩ (Nat.le_of_ble_eq_true rfl) ⟨Nat.zero_le _, Nat.zero_le _⟩ rfl dX12_readLine_55 (fun H locs hw => ?_)
        refine lv_goto (tgt := 241) hx hb dX12_readLine_58 (by decide) ?_
        exact B241 r55.2 _ _ _ hw (lv_sub hl [0] rfl) h
    · rw [if_neg hc] at h
      refine lv_aload_n hx hb dX12_readLine_38 rfl (lv_at hl 0 rfl) ?_
      obtain ⟨r39, hr39, h⟩ := bnd h
      refine cV (b := 171) (As := []) (rest := []) (st1 := []) hC hw (c_X12_readLay l g n r32.2 r39 hr39) ml_X12_191 im_X12_readLay se_X12_readLay ok171 (CN := RX12) (T := TX12) (NF := 54) rfl rfl (by decide) rfl hl.1 ⟨Nat.le_of_ble_eq_true rfl, Nat.le_of_ble_eq_true rfl⟩ (Nat.le_of_ble_eq_true rfl) ⟨Nat.zero_le _, Nat.zero_le _⟩ rfl dX12_readLine_39 (fun H locs hw => ?_)
      refine lv_goto (tgt := 241) hx hb dX12_readLine_42 (by decide) ?_
      exact B241 r39.2 _ _ _ hw (lv_sub hl [0] rfl) h
  refine lv_iload_n hx hb dX12_readLine_0 rfl (lv_at hl 1 rfl) ?_
  refine lv_if_eq (tgt := 29) hx hb dX12_readLine_1 (by decide) (fun hc => ?_) (fun hc => ?_)
  · rw [if_pos hc] at h
    exact B29 μ _ _ _ hw (lv_sub hl [0] rfl) h
  · rw [if_neg hc] at h
    refine lv_aload_n hx hb dX12_readLine_4 rfl (lv_at hl 0 rfl) ?_
    have hz5 := (hC.2.2.2.2.2.2.2.2.1 32 (by decide)).2.2.2.2
    refine va_ldcS (own := RX12) (index := 187) (tx := "pits") (q := g.2.2 1032) hx hb hC.2.2.2.1 hz5 dX12_readLine_5 ?_
    obtain ⟨r7, hr7, h⟩ := bnd h
    refine cV (b := 171) (As := [.ref (g.2.2 1032)]) (rest := []) (st1 := [.int r7.1]) hC hw (c_X12_took l g n 1032 μ r7 hr7) ml_X12_184 im_X12_took se_X12_took ok171 (CN := RX12) (T := TX12) (NF := 54) rfl rfl (by decide) rfl hl.1 ⟨Nat.le_of_ble_eq_true rfl, Nat.le_of_ble_eq_true rfl⟩ (Nat.le_of_ble_eq_true rfl) ⟨Nat.zero_le _, Nat.zero_le _⟩ rfl dX12_readLine_7 (fun H locs hw => ?_)
    refine lv_if_eq (tgt := 29) hx hb dX12_readLine_10 (by decide) (fun hc => ?_) (fun hc => ?_)
    · rw [if_pos hc] at h
      exact B29 r7.2 _ _ _ hw (lv_sub hl [0] rfl) h
    · rw [if_neg hc] at h
      refine lv_aload_n hx hb dX12_readLine_13 rfl (lv_at hl 0 rfl) ?_
      refine gR (t := 173) hC hw fl_X12_13 ok171 (by decide) ot171_1 dX12_readLine_14 ?_
      refine lv_iconst (v := (1 : Int32)) hx hb dX12_readLine_17 (by decide) ?_
      refine lv_aload_n hx hb dX12_readLine_18 rfl (lv_at hl 0 rfl) ?_
      refine lv_iconst (v := (1 : Int32)) hx hb dX12_readLine_19 (by decide) ?_
      refine lv_bipush (v := (6 : Int32)) hx hb dX12_readLine_20 (by decide) ?_
      obtain ⟨r22, hr22, h⟩ := bnd h
      refine cV (b := 171) (As := [.int (1 : Int32), .int (6 : Int32)]) (rest := [.int (1 : Int32), .ref (g.2.2 173)]) (st1 := [.int r22.1, .int (1 : Int32), .ref (g.2.2 173)]) hC hw (c_X12_number l g n (1 : Int32) (6 : Int32) r7.2 r22 hr22) ml_X12_172 im_X12_number se_X12_number ok171 (CN := RX12) (T := TX12) (NF := 54) rfl rfl (by decide) rfl hl.1 ⟨Nat.le_of_ble_eq_true rfl, Nat.le_of_ble_eq_true rfl⟩ (Nat.le_of_ble_eq_true rfl) ⟨Nat.zero_le _, Nat.zero_le _⟩ rfl dX12_readLine_22 (fun H locs hw => ?_)
      refine sI (j := 1) hC hw ok173 on173 (vin (by decide)) (by decide) dX12_readLine_25 (fun H locs hw => ?_)
      refine lv_goto (tgt := 241) hx hb dX12_readLine_26 (by decide) ?_
      exact B241 (si r22.2 173 1 r22.1) _ _ _ hw (lv_sub hl [0] rfl) h
set_option maxRecDepth 100000 in
set_option maxHeartbeats 4000000 in
theorem c_X12_board (l : Launch) (g : Gw) (n : Nat) (v1 : Int32) (μ : Mu) (r : Int32 × Mu) (h : X12_board n v1 μ = some r) : Ct l g yX12_board cX12_board 3 (some .int) 8 [.ref (g.2.2 171), .int v1] μ (some (.int r.1)) r.2 := by
  rw [X12_board] at h
  refine Ct.of (by decide) (Nat.le_of_ble_eq_true rfl) ?_
  intro p e s m args below meth c ls hC hw hr hlocks hl
  have hx := hC.1
  have hb := hC.2.1
  have hl : lv_has ls 3 [(0, .ref (g.2.2 171)), (1, .int v1)] := hl
  have B151 : ∀ (s1 : Int32) (μ : Mu) (H : Heap) (locs : List Loc) (ls : Array Slot), wd g μ s (Aw g s.heap.size) H locs → lv_has ls 3 [(0, .ref (g.2.2 171))] → X12_board_151 n v1 s1 μ = some r → WQ p l e (rmD 8) s m args below meth c g (some (.int r.1)) r.2 H locs (F0 m 151 ls [.int s1, .ref (g.2.2 171)]) := by
    intro s1 μ H locs ls hw hl h
    rw [X12_board_151] at h
    refine pI hC hw fl_X12_29 fp_12_16 ok171 dX12_board_151 (fun H locs hw => ?_)
    refine lv_aload_n hx hb dX12_board_154 rfl (lv_at hl 0 rfl) ?_
    refine gI hC hw fl_X12_139 ok171 (by decide) dX12_board_155 ?_
    refine lv_if_eq (tgt := 169) hx hb dX12_board_158 (by decide) (fun hc => ?_) (fun hc => ?_)
    · rw [if_pos hc] at h
      refine lv_aload_n hx hb dX12_board_169 rfl (lv_at hl 0 rfl) ?_
      refine gR (t := 173) hC hw fl_X12_13 ok171 (by decide) ot171_1 dX12_board_170 ?_
      refine lv_aload_n hx hb dX12_board_173 rfl (lv_at hl 0 rfl) ?_
      refine gR (t := 172) hC hw fl_X12_9 ok171 (by decide) ot171_0 dX12_board_174 ?_
      obtain ⟨r177, hr177, h⟩ := bnd h
      refine cS (As := [.ref (g.2.2 173), .ref (g.2.2 172)]) (rest := []) (st1 := []) hC hw (c_X12_copies l g n 173 172 (si μ 171 16 s1) r177 hr177) ml_X12_235 st_X12_copies rfl hl.1 ⟨Nat.le_of_ble_eq_true rfl, Nat.le_of_ble_eq_true rfl⟩ (Nat.le_of_ble_eq_true rfl) ⟨Nat.zero_le _, Nat.zero_le _⟩ rfl dX12_board_177 (fun H locs hw => ?_)
      refine lv_aload_n hx hb dX12_board_180 rfl (lv_at hl 0 rfl) ?_
      refine lv_iconst (v := (0 : Int32)) hx hb dX12_board_181 (by decide) ?_
      refine pI hC hw fl_X12_239 fp_12_28 ok171 dX12_board_182 (fun H locs hw => ?_)
      refine lv_aload_n hx hb dX12_board_185 rfl (lv_at hl 0 rfl) ?_
      refine lv_iconst (v := (0 : Int32)) hx hb dX12_board_186 (by decide) ?_
      refine pI hC hw fl_X12_242 fp_12_29 ok171 dX12_board_187 (fun H locs hw => ?_)
      refine lv_aload_n hx hb dX12_board_190 rfl (lv_at hl 0 rfl) ?_
      refine gR (t := 172) hC hw fl_X12_9 ok171 (by decide) ot171_0 dX12_board_191 ?_
      refine lv_iconst (v := (0 : Int32)) hx hb dX12_board_194 (by decide) ?_
      refine lI (j := 0) hC hw ok172 on172 (vin (by decide)) (by decide) dX12_board_195 ?_
      exact rI hC hw hr hlocks (by rw [← Option.some.inj h]) (by rw [← Option.some.inj h]) dX12_board_196
    · rw [if_neg hc] at h
      refine lv_bipush (v := ((-10) : Int32)) hx hb dX12_board_161 (by decide) ?_
      refine lv_aload_n hx hb dX12_board_163 rfl (lv_at hl 0 rfl) ?_
      refine gI hC hw fl_X12_139 ok171 (by decide) dX12_board_164 ?_
      refine lv_isub hx hb dX12_board_167 ?_
      exact rI hC hw hr hlocks (by rw [← Option.some.inj h]) (by rw [← Option.some.inj h]) dX12_board_168
  have B127 : ∀ (μ : Mu) (H : Heap) (locs : List Loc) (ls : Array Slot), wd g μ s (Aw g s.heap.size) H locs → lv_has ls 3 [(0, .ref (g.2.2 171))] → X12_board_127 n v1  μ = some r → WQ p l e (rmD 8) s m args below meth c g (some (.int r.1)) r.2 H locs (F0 m 127 ls []) := by
    intro μ H locs ls hw hl h
    rw [X12_board_127] at h
    refine lv_aload_n hx hb dX12_board_127 rfl (lv_at hl 0 rfl) ?_
    refine lv_aload_n hx hb dX12_board_128 rfl (lv_at hl 0 rfl) ?_
    refine gI hC hw fl_X12_139 ok171 (by decide) dX12_board_129 ?_
    refine pI hC hw fl_X12_232 fp_12_15 ok171 dX12_board_132 (fun H locs hw => ?_)
    refine lv_aload_n hx hb dX12_board_135 rfl (lv_at hl 0 rfl) ?_
    refine lv_aload_n hx hb dX12_board_136 rfl (lv_at hl 0 rfl) ?_
    refine gI hC hw fl_X12_139 ok171 (by decide) dX12_board_137 ?_
    refine lv_if_ne (tgt := 147) hx hb dX12_board_140 (by decide) (fun hc => ?_) (fun hc => ?_)
    · rw [if_neg hc] at h
      refine lv_aload_n hx hb dX12_board_147 rfl (lv_at hl 0 rfl) ?_
      refine gI hC hw fl_X12_142 ok171 (by decide) dX12_board_148 ?_
      exact B151 ((si μ 171 15 (μ.1 171 13)).1 171 14) (si μ 171 15 (μ.1 171 13)) _ _ _ hw (lv_sub hl [0] rfl) h
    · rw [if_pos hc] at h
      refine lv_iconst (v := ((-1) : Int32)) hx hb dX12_board_143 (by decide) ?_
      refine lv_goto (tgt := 151) hx hb dX12_board_144 (by decide) ?_
      exact B151 ((-1) : Int32) (si μ 171 15 (μ.1 171 13)) _ _ _ hw (lv_sub hl [0] rfl) h
  have B103 : ∀ (μ : Mu) (H : Heap) (locs : List Loc) (ls : Array Slot), wd g μ s (Aw g s.heap.size) H locs → lv_has ls 3 [(0, .ref (g.2.2 171)), (1, .int v1)] → X12_board_103 n v1  μ = some r → WQ p l e (rmD 8) s m args below meth c g (some (.int r.1)) r.2 H locs (F0 m 103 ls []) := by
    intro μ H locs ls hw hl h
    rw [X12_board_103] at h
    refine lv_aload_n hx hb dX12_board_103 rfl (lv_at hl 0 rfl) ?_
    refine gI hC hw fl_X12_139 ok171 (by decide) dX12_board_104 ?_
    refine lv_if_ne (tgt := 127) hx hb dX12_board_107 (by decide) (fun hc => ?_) (fun hc => ?_)
    · rw [if_neg hc] at h
      exact B127 μ _ _ _ hw (lv_sub hl [0] rfl) h
    · rw [if_pos hc] at h
      refine lv_aload_n hx hb dX12_board_110 rfl (lv_at hl 0 rfl) ?_
      obtain ⟨r111, hr111, h⟩ := bnd h
      refine cV (b := 171) (As := []) (rest := []) (st1 := [.int r111.1]) hC hw (c_X12_isWrong l g n μ r111 hr111) ml_X12_228 im_X12_isWrong se_X12_isWrong ok171 (CN := RX12) (T := TX12) (NF := 54) rfl rfl (by decide) rfl hl.1 ⟨Nat.le_of_ble_eq_true rfl, Nat.le_of_ble_eq_true rfl⟩ (Nat.le_of_ble_eq_true rfl) ⟨Nat.zero_le _, Nat.zero_le _⟩ rfl dX12_board_111 (fun H locs hw => ?_)
      refine lv_if_eq (tgt := 127) hx hb dX12_board_114 (by decide) (fun hc => ?_) (fun hc => ?_)
      · rw [if_pos hc] at h
        exact B127 r111.2 _ _ _ hw (lv_sub hl [0] rfl) h
      · rw [if_neg hc] at h
        refine lv_aload_n hx hb dX12_board_117 rfl (lv_at hl 0 rfl) ?_
        refine lv_iconst (v := (5 : Int32)) hx hb dX12_board_118 (by decide) ?_
        refine pI hC hw fl_X12_139 fp_12_13 ok171 dX12_board_119 (fun H locs hw => ?_)
        refine lv_aload_n hx hb dX12_board_122 rfl (lv_at hl 0 rfl) ?_
        refine lv_iload_n hx hb dX12_board_123 rfl (lv_at hl 1 rfl) ?_
        refine pI hC hw fl_X12_142 fp_12_14 ok171 dX12_board_124 (fun H locs hw => ?_)
        exact B127 (si (si r111.2 171 13 (5 : Int32)) 171 14 v1) _ _ _ hw (lv_sub hl [0] rfl) h
  have B79 : ∀ (k : Nat), ∀ (v2 : Int32) (μ : Mu) (H : Heap) (locs : List Loc) (ls : Array Slot), wd g μ s (Aw g s.heap.size) H locs → lv_has ls 3 [(0, .ref (g.2.2 171)), (1, .int v1), (2, .int v2)] → lpF (fun _ _ => none) (X12_board_79b n v1) k v2 μ = some r → WQ p l e (rmD 8) s m args below meth c g (some (.int r.1)) r.2 H locs (F0 m 79 ls []) := by
    intro k
    induction k with
    | zero =>
      intro v2 μ H locs ls hw hl h
      cases h
    | succ k ih79 =>
      rw [lpF_s]
      generalize lpF (fun _ _ => none) (X12_board_79b n v1) k = k79 at ih79 ⊢
      intro v2 μ H locs ls hw hl h
      rw [X12_board_79b] at h
      refine lv_aload_n hx hb dX12_board_79 rfl (lv_at hl 0 rfl) ?_
      refine gI hC hw fl_X12_139 ok171 (by decide) dX12_board_80 ?_
      refine lv_if_ne (tgt := 103) hx hb dX12_board_83 (by decide) (fun hc => ?_) (fun hc => ?_)
      · rw [if_neg hc] at h
        exact B103 μ _ _ _ hw (lv_sub hl [0, 1] rfl) h
      · rw [if_pos hc] at h
        refine lv_aload_n hx hb dX12_board_86 rfl (lv_at hl 0 rfl) ?_
        refine gI hC hw fl_X12_122 ok171 (by decide) dX12_board_87 ?_
        refine lv_if_eq (tgt := 103) hx hb dX12_board_90 (by decide) (fun hc => ?_) (fun hc => ?_)
        · rw [if_pos hc] at h
          exact B103 μ _ _ _ hw (lv_sub hl [0, 1] rfl) h
        · rw [if_neg hc] at h
          refine lv_aload_n hx hb dX12_board_93 rfl (lv_at hl 0 rfl) ?_
          refine lv_iload_n hx hb dX12_board_94 rfl (lv_at hl 2 rfl) ?_
          obtain ⟨r95, hr95, h⟩ := bnd h
          refine cV (b := 171) (As := [.int v2]) (rest := []) (st1 := []) hC hw (c_X12_readLine l g n v2 μ r95 hr95) ml_X12_224 im_X12_readLine se_X12_readLine ok171 (CN := RX12) (T := TX12) (NF := 54) rfl rfl (by decide) rfl hl.1 ⟨Nat.le_of_ble_eq_true rfl, Nat.le_of_ble_eq_true rfl⟩ (Nat.le_of_ble_eq_true rfl) ⟨Nat.zero_le _, Nat.zero_le _⟩ rfl dX12_board_95 (fun H locs hw => ?_)
          refine lv_iconst (v := (0 : Int32)) hx hb dX12_board_98 (by decide) ?_
          refine lv_istore_n (lv' := [(2, .int (0 : Int32)), (0, .ref (g.2.2 171)), (1, .int v1)]) hx hb dX12_board_99 rfl hl (by decide) rfl (fun ls hl => ?_)
          refine lv_goto (tgt := 79) hx hb dX12_board_100 (by decide) ?_
          exact ih79 (0 : Int32) r95.2 _ _ _ hw (lv_sub hl [1, 2, 0] rfl) h
  have B47 : ∀ (k : Nat), ∀ (v2 : Int32) (μ : Mu) (H : Heap) (locs : List Loc) (ls : Array Slot), wd g μ s (Aw g s.heap.size) H locs → lv_has ls 3 [(0, .ref (g.2.2 171)), (1, .int v1), (2, .int v2)] → lpF (fun _ _ => none) (X12_board_47b n v1) k v2 μ = some r → WQ p l e (rmD 8) s m args below meth c g (some (.int r.1)) r.2 H locs (F0 m 47 ls []) := by
    intro k
    induction k with
    | zero =>
      intro v2 μ H locs ls hw hl h
      cases h
    | succ k ih47 =>
      rw [lpF_s]
      generalize lpF (fun _ _ => none) (X12_board_47b n v1) k = k47 at ih47 ⊢
      intro v2 μ H locs ls hw hl h
      rw [X12_board_47b] at h
      refine lv_iload_n hx hb dX12_board_47 rfl (lv_at hl 2 rfl) ?_
      refine lv_bipush (v := (25 : Int32)) hx hb dX12_board_48 (by decide) ?_
      refine lv_icmp_ge (tgt := 66) hx hb dX12_board_50 (by decide) (fun hc => ?_) (fun hc => ?_)
      · rw [if_pos hc] at h
        refine lv_aload_n hx hb dX12_board_66 rfl (lv_at hl 0 rfl) ?_
        refine gR (t := 173) hC hw fl_X12_13 ok171 (by decide) ot171_1 dX12_board_67 ?_
        refine lv_iconst (v := (1 : Int32)) hx hb dX12_board_70 (by decide) ?_
        refine lv_iconst (v := (3 : Int32)) hx hb dX12_board_71 (by decide) ?_
        refine sI (j := 1) hC hw ok173 on173 (vin (by decide)) (by decide) dX12_board_72 (fun H locs hw => ?_)
        refine lv_aload_n hx hb dX12_board_73 rfl (lv_at hl 0 rfl) ?_
        obtain ⟨r74, hr74, h⟩ := bnd h
        refine cV (b := 171) (As := []) (rest := []) (st1 := []) hC hw (c_X12_reads l g n (si μ 173 1 (3 : Int32)) r74 hr74) ml_X12_159 im_X12_reads se_X12_reads ok171 (CN := RX12) (T := TX12) (NF := 54) rfl rfl (by decide) rfl hl.1 ⟨Nat.le_of_ble_eq_true rfl, Nat.le_of_ble_eq_true rfl⟩ (Nat.le_of_ble_eq_true rfl) ⟨Nat.zero_le _, Nat.zero_le _⟩ rfl dX12_board_74 (fun H locs hw => ?_)
        refine lv_iconst (v := (1 : Int32)) hx hb dX12_board_77 (by decide) ?_
        refine lv_istore_n (lv' := [(2, .int (1 : Int32)), (0, .ref (g.2.2 171)), (1, .int v1)]) hx hb dX12_board_78 rfl hl (by decide) rfl (fun ls hl => ?_)
        exact B79 n (1 : Int32) r74.2 _ _ _ hw (lv_sub hl [1, 2, 0] rfl) h
      · rw [if_neg hc] at h
        refine lv_aload_n hx hb dX12_board_53 rfl (lv_at hl 0 rfl) ?_
        refine gR (t := 173) hC hw fl_X12_13 ok171 (by decide) ot171_1 dX12_board_54 ?_
        refine lv_iload_n hx hb dX12_board_57 rfl (lv_at hl 2 rfl) ?_
        refine lv_iconst (v := (0 : Int32)) hx hb dX12_board_58 (by decide) ?_
        obtain ⟨hi59, h⟩ := gd_some h
        refine sI (j := v2.toNatClampNeg) hC hw ok173 on173 hi59 rfl dX12_board_59 (fun H locs hw => ?_)
        refine lv_iinc (v := (v2 + (1 : Int32))) (lv' := [(2, .int (v2 + (1 : Int32))), (0, .ref (g.2.2 171)), (1, .int v1)]) hx hb dX12_board_60 hl (k := 2) rfl rfl (by decide) rfl (fun ls hl => ?_)
        refine lv_goto (tgt := 47) hx hb dX12_board_63 (by decide) ?_
        exact ih47 (v2 + (1 : Int32)) (si μ 173 v2.toNatClampNeg (0 : Int32)) _ _ _ hw (lv_sub hl [1, 2, 0] rfl) h
  refine lv_aload_n hx hb dX12_board_0 rfl (lv_at hl 0 rfl) ?_
  refine lv_iconst (v := (0 : Int32)) hx hb dX12_board_1 (by decide) ?_
  refine pI hC hw fl_X12_107 fp_12_5 ok171 dX12_board_2 (fun H locs hw => ?_)
  refine lv_iload_n hx hb dX12_board_5 rfl (lv_at hl 1 rfl) ?_
  refine lv_i2l hx hb dX12_board_6 rfl ?_
  refine lv_lconst (v := (0 : Int64)) hx hb dX12_board_7 (by decide) ?_
  refine lv_aload_n hx hb dX12_board_8 rfl (lv_at hl 0 rfl) ?_
  refine gI hC hw fl_X12_110 ok171 (by decide) dX12_board_9 ?_
  refine lv_i2l hx hb dX12_board_12 rfl ?_
  obtain ⟨r13, hr13, h⟩ := bnd h
  refine cS (As := [.long (v1.toInt64), .long (0 : Int64), .long (((si μ 171 5 (0 : Int32)).1 171 7).toInt64)]) (rest := []) (st1 := [.int r13.1]) hC hw (c_X12_within l g n (v1.toInt64) (0 : Int64) (((si μ 171 5 (0 : Int32)).1 171 7).toInt64) (si μ 171 5 (0 : Int32)) r13 hr13) ml_X12_166 st_X12_within rfl hl.1 ⟨Nat.le_of_ble_eq_true rfl, Nat.le_of_ble_eq_true rfl⟩ (Nat.le_of_ble_eq_true rfl) ⟨Nat.zero_le _, Nat.zero_le _⟩ rfl dX12_board_13 (fun H locs hw => ?_)
  refine lv_if_ne (tgt := 25) hx hb dX12_board_16 (by decide) (fun hc => ?_) (fun hc => ?_)
  · rw [if_neg hc] at h
    refine lv_aload_n hx hb dX12_board_25 rfl (lv_at hl 0 rfl) ?_
    refine lv_iload_n hx hb dX12_board_26 rfl (lv_at hl 1 rfl) ?_
    refine pI hC hw fl_X12_113 fp_12_8 ok171 dX12_board_27 (fun H locs hw => ?_)
    refine lv_aload_n hx hb dX12_board_30 rfl (lv_at hl 0 rfl) ?_
    refine lv_iconst (v := (0 : Int32)) hx hb dX12_board_31 (by decide) ?_
    refine pI hC hw fl_X12_110 fp_12_7 ok171 dX12_board_32 (fun H locs hw => ?_)
    refine lv_aload_n hx hb dX12_board_35 rfl (lv_at hl 0 rfl) ?_
    refine lv_iconst (v := (0 : Int32)) hx hb dX12_board_36 (by decide) ?_
    refine pI hC hw fl_X12_116 fp_12_9 ok171 dX12_board_37 (fun H locs hw => ?_)
    refine lv_aload_n hx hb dX12_board_40 rfl (lv_at hl 0 rfl) ?_
    refine lv_iconst (v := (0 : Int32)) hx hb dX12_board_41 (by decide) ?_
    refine pI hC hw fl_X12_139 fp_12_13 ok171 dX12_board_42 (fun H locs hw => ?_)
    refine lv_iconst (v := (0 : Int32)) hx hb dX12_board_45 (by decide) ?_
    refine lv_istore_n (lv' := [(2, .int (0 : Int32)), (0, .ref (g.2.2 171)), (1, .int v1)]) hx hb dX12_board_46 rfl hl (by decide) rfl (fun ls hl => ?_)
    exact B47 n (0 : Int32) (si (si (si (si r13.2 171 8 v1) 171 7 (0 : Int32)) 171 9 (0 : Int32)) 171 13 (0 : Int32)) _ _ _ hw (lv_sub hl [1, 2, 0] rfl) h
  · rw [if_pos hc] at h
    refine lv_aload_n hx hb dX12_board_19 rfl (lv_at hl 0 rfl) ?_
    refine lv_iconst (v := (1 : Int32)) hx hb dX12_board_20 (by decide) ?_
    obtain ⟨r21, hr21, h⟩ := bnd h
    refine cV (b := 171) (As := [.int (1 : Int32)]) (rest := []) (st1 := [.int r21.1]) hC hw (c_X12_fails l g n (1 : Int32) r13.2 r21 hr21) ml_X12_221 im_X12_fails se_X12_fails ok171 (CN := RX12) (T := TX12) (NF := 54) rfl rfl (by decide) rfl hl.1 ⟨Nat.le_of_ble_eq_true rfl, Nat.le_of_ble_eq_true rfl⟩ (Nat.le_of_ble_eq_true rfl) ⟨Nat.zero_le _, Nat.zero_le _⟩ rfl dX12_board_21 (fun H locs hw => ?_)
    exact rI hC hw hr hlocks (by rw [← Option.some.inj h]) (by rw [← Option.some.inj h]) dX12_board_24
set_option maxRecDepth 100000 in
set_option maxHeartbeats 4000000 in
theorem c_X4_readTake (l : Launch) (g : Gw) (n : Nat) (μ : Mu) (r : Unit × Mu) (h : X4_readTake n  μ = some r) : Ct l g yX4_readTake cX4_readTake 1 none 5 [.ref (g.2.2 12)] μ none r.2 := by
  rw [X4_readTake] at h
  refine Ct.of (by decide) (Nat.le_of_ble_eq_true rfl) ?_
  intro p e s m args below meth c ls hC hw hr hlocks hl
  have hx := hC.1
  have hb := hC.2.1
  have hl : lv_has ls 1 [(0, .ref (g.2.2 12))] := hl
  have B106 : ∀ (μ : Mu) (H : Heap) (locs : List Loc) (ls : Array Slot), wd g μ s (Aw g s.heap.size) H locs → lv_has ls 1 [] → X4_readTake_106 n  μ = some r → WQ p l e (rmD 5) s m args below meth c g none r.2 H locs (F0 m 106 ls []) := by
    intro μ H locs ls hw hl h
    rw [X4_readTake_106] at h
    exact rV hC hw hr hlocks rfl (by rw [← Option.some.inj h]) dX4_readTake_106
  have B70 : ∀ (μ : Mu) (H : Heap) (locs : List Loc) (ls : Array Slot), wd g μ s (Aw g s.heap.size) H locs → lv_has ls 1 [(0, .ref (g.2.2 12))] → X4_readTake_70 n  μ = some r → WQ p l e (rmD 5) s m args below meth c g none r.2 H locs (F0 m 70 ls []) := by
    intro μ H locs ls hw hl h
    rw [X4_readTake_70] at h
    refine lv_aload_n hx hb dX4_readTake_70 rfl (lv_at hl 0 rfl) ?_
    obtain ⟨r71, hr71, h⟩ := bnd h
    refine cV (b := 12) (As := []) (rest := []) (st1 := []) hC hw (c_X4_step l g n μ r71 hr71) ml_X4_49 im_X4_step se_X4_step ok12 (CN := RX4) (T := TX4) (NF := 11) rfl rfl (by decide) rfl hl.1 ⟨Nat.le_of_ble_eq_true rfl, Nat.le_of_ble_eq_true rfl⟩ (Nat.le_of_ble_eq_true rfl) ⟨Nat.zero_le _, Nat.zero_le _⟩ rfl dX4_readTake_71 (fun H locs hw => ?_)
    refine lv_aload_n hx hb dX4_readTake_74 rfl (lv_at hl 0 rfl) ?_
    refine gR (t := 13) hC hw fl_X4_12 ok12 (by decide) ot12_0 dX4_readTake_75 ?_
    refine gI hC hw fl_X4_132 ok13 (by decide) dX4_readTake_78 ?_
    refine lv_iconst (v := (2 : Int32)) hx hb dX4_readTake_81 (by decide) ?_
    refine lv_icmp_ne (tgt := 106) hx hb dX4_readTake_82 (by decide) (fun hc => ?_) (fun hc => ?_)
    · rw [if_neg hc] at h
      exact B106 r71.2 _ _ _ hw (lv_sub hl [] rfl) h
    · rw [if_pos hc] at h
      refine lv_aload_n hx hb dX4_readTake_85 rfl (lv_at hl 0 rfl) ?_
      have hz86 := (hC.2.2.2.2.2.2.2.2.1 7 (by decide)).2.2.2.2
      refine va_ldcS (own := RX4) (index := 138) (tx := "starve") (q := g.2.2 1007) hx hb hC.2.2.2.1 hz86 dX4_readTake_86 ?_
      obtain ⟨r88, hr88, h⟩ := bnd h
      refine cV (b := 12) (As := [.ref (g.2.2 1007)]) (rest := []) (st1 := [.int r88.1]) hC hw (c_X4_isWord l g n 1007 r71.2 r88 hr88) ml_X4_78 im_X4_isWord se_X4_isWord ok12 (CN := RX4) (T := TX4) (NF := 11) rfl rfl (by decide) rfl hl.1 ⟨Nat.le_of_ble_eq_true rfl, Nat.le_of_ble_eq_true rfl⟩ (Nat.le_of_ble_eq_true rfl) ⟨Nat.zero_le _, Nat.zero_le _⟩ rfl dX4_readTake_88 (fun H locs hw => ?_)
      refine lv_if_eq (tgt := 106) hx hb dX4_readTake_91 (by decide) (fun hc => ?_) (fun hc => ?_)
      · rw [if_pos hc] at h
        exact B106 r88.2 _ _ _ hw (lv_sub hl [] rfl) h
      · rw [if_neg hc] at h
        refine lv_aload_n hx hb dX4_readTake_94 rfl (lv_at hl 0 rfl) ?_
        refine gR (t := 13) hC hw fl_X4_12 ok12 (by decide) ot12_0 dX4_readTake_95 ?_
        refine lv_iconst (v := (3 : Int32)) hx hb dX4_readTake_98 (by decide) ?_
        refine pI hC hw fl_X4_132 fp_5_4 ok13 dX4_readTake_99 (fun H locs hw => ?_)
        refine lv_aload_n hx hb dX4_readTake_102 rfl (lv_at hl 0 rfl) ?_
        obtain ⟨r103, hr103, h⟩ := bnd h
        refine cV (b := 12) (As := []) (rest := []) (st1 := []) hC hw (c_X4_step l g n (si r88.2 13 4 (3 : Int32)) r103 hr103) ml_X4_49 im_X4_step se_X4_step ok12 (CN := RX4) (T := TX4) (NF := 11) rfl rfl (by decide) rfl hl.1 ⟨Nat.le_of_ble_eq_true rfl, Nat.le_of_ble_eq_true rfl⟩ (Nat.le_of_ble_eq_true rfl) ⟨Nat.zero_le _, Nat.zero_le _⟩ rfl dX4_readTake_103 (fun H locs hw => ?_)
        exact B106 r103.2 _ _ _ hw (lv_sub hl [] rfl) h
  refine lv_aload_n hx hb dX4_readTake_0 rfl (lv_at hl 0 rfl) ?_
  obtain ⟨r1, hr1, h⟩ := bnd h
  refine cV (b := 12) (As := []) (rest := []) (st1 := []) hC hw (c_X4_step l g n μ r1 hr1) ml_X4_49 im_X4_step se_X4_step ok12 (CN := RX4) (T := TX4) (NF := 11) rfl rfl (by decide) rfl hl.1 ⟨Nat.le_of_ble_eq_true rfl, Nat.le_of_ble_eq_true rfl⟩ (Nat.le_of_ble_eq_true rfl) ⟨Nat.zero_le _, Nat.zero_le _⟩ rfl dX4_readTake_1 (fun H locs hw => ?_)
  refine lv_aload_n hx hb dX4_readTake_4 rfl (lv_at hl 0 rfl) ?_
  have hz5 := (hC.2.2.2.2.2.2.2.2.1 4 (by decide)).2.2.2.2
  refine va_ldcS (own := RX4) (index := 130) (tx := "none") (q := g.2.2 1004) hx hb hC.2.2.2.1 hz5 dX4_readTake_5 ?_
  obtain ⟨r7, hr7, h⟩ := bnd h
  refine cV (b := 12) (As := [.ref (g.2.2 1004)]) (rest := []) (st1 := [.int r7.1]) hC hw (c_X4_isWord l g n 1004 r1.2 r7 hr7) ml_X4_78 im_X4_isWord se_X4_isWord ok12 (CN := RX4) (T := TX4) (NF := 11) rfl rfl (by decide) rfl hl.1 ⟨Nat.le_of_ble_eq_true rfl, Nat.le_of_ble_eq_true rfl⟩ (Nat.le_of_ble_eq_true rfl) ⟨Nat.zero_le _, Nat.zero_le _⟩ rfl dX4_readTake_7 (fun H locs hw => ?_)
  refine lv_if_eq (tgt := 24) hx hb dX4_readTake_10 (by decide) (fun hc => ?_) (fun hc => ?_)
  · rw [if_pos hc] at h
    refine lv_aload_n hx hb dX4_readTake_24 rfl (lv_at hl 0 rfl) ?_
    have hz25 := (hC.2.2.2.2.2.2.2.2.1 5 (by decide)).2.2.2.2
    refine va_ldcS (own := RX4) (index := 134) (tx := "opposite") (q := g.2.2 1005) hx hb hC.2.2.2.1 hz25 dX4_readTake_25 ?_
    obtain ⟨r27, hr27, h⟩ := bnd h
    refine cV (b := 12) (As := [.ref (g.2.2 1005)]) (rest := []) (st1 := [.int r27.1]) hC hw (c_X4_isWord l g n 1005 r7.2 r27 hr27) ml_X4_78 im_X4_isWord se_X4_isWord ok12 (CN := RX4) (T := TX4) (NF := 11) rfl rfl (by decide) rfl hl.1 ⟨Nat.le_of_ble_eq_true rfl, Nat.le_of_ble_eq_true rfl⟩ (Nat.le_of_ble_eq_true rfl) ⟨Nat.zero_le _, Nat.zero_le _⟩ rfl dX4_readTake_27 (fun H locs hw => ?_)
    refine lv_if_eq (tgt := 44) hx hb dX4_readTake_30 (by decide) (fun hc => ?_) (fun hc => ?_)
    · rw [if_pos hc] at h
      refine lv_aload_n hx hb dX4_readTake_44 rfl (lv_at hl 0 rfl) ?_
      have hz45 := (hC.2.2.2.2.2.2.2.2.1 6 (by decide)).2.2.2.2
      refine va_ldcS (own := RX4) (index := 136) (tx := "grand") (q := g.2.2 1006) hx hb hC.2.2.2.1 hz45 dX4_readTake_45 ?_
      obtain ⟨r47, hr47, h⟩ := bnd h
      refine cV (b := 12) (As := [.ref (g.2.2 1006)]) (rest := []) (st1 := [.int r47.1]) hC hw (c_X4_isWord l g n 1006 r27.2 r47 hr47) ml_X4_78 im_X4_isWord se_X4_isWord ok12 (CN := RX4) (T := TX4) (NF := 11) rfl rfl (by decide) rfl hl.1 ⟨Nat.le_of_ble_eq_true rfl, Nat.le_of_ble_eq_true rfl⟩ (Nat.le_of_ble_eq_true rfl) ⟨Nat.zero_le _, Nat.zero_le _⟩ rfl dX4_readTake_47 (fun H locs hw => ?_)
      refine lv_if_eq (tgt := 64) hx hb dX4_readTake_50 (by decide) (fun hc => ?_) (fun hc => ?_)
      · rw [if_pos hc] at h
        refine lv_aload_n hx hb dX4_readTake_64 rfl (lv_at hl 0 rfl) ?_
        refine lv_iconst (v := (2 : Int32)) hx hb dX4_readTake_65 (by decide) ?_
        obtain ⟨r66, hr66, h⟩ := bnd h
        refine cV (b := 12) (As := [.int (2 : Int32)]) (rest := []) (st1 := []) hC hw (c_X4_refuse l g n (2 : Int32) r47.2 r66 hr66) ml_X4_120 im_X4_refuse se_X4_refuse ok12 (CN := RX4) (T := TX4) (NF := 11) rfl rfl (by decide) rfl hl.1 ⟨Nat.le_of_ble_eq_true rfl, Nat.le_of_ble_eq_true rfl⟩ (Nat.le_of_ble_eq_true rfl) ⟨Nat.zero_le _, Nat.zero_le _⟩ rfl dX4_readTake_66 (fun H locs hw => ?_)
        exact rV hC hw hr hlocks rfl (by rw [← Option.some.inj h]) dX4_readTake_69
      · rw [if_neg hc] at h
        refine lv_aload_n hx hb dX4_readTake_53 rfl (lv_at hl 0 rfl) ?_
        refine gR (t := 13) hC hw fl_X4_12 ok12 (by decide) ot12_0 dX4_readTake_54 ?_
        refine lv_iconst (v := (2 : Int32)) hx hb dX4_readTake_57 (by decide) ?_
        refine pI hC hw fl_X4_132 fp_5_4 ok13 dX4_readTake_58 (fun H locs hw => ?_)
        refine lv_goto (tgt := 70) hx hb dX4_readTake_61 (by decide) ?_
        exact B70 (si r47.2 13 4 (2 : Int32)) _ _ _ hw (lv_sub hl [0] rfl) h
    · rw [if_neg hc] at h
      refine lv_aload_n hx hb dX4_readTake_33 rfl (lv_at hl 0 rfl) ?_
      refine gR (t := 13) hC hw fl_X4_12 ok12 (by decide) ot12_0 dX4_readTake_34 ?_
      refine lv_iconst (v := (1 : Int32)) hx hb dX4_readTake_37 (by decide) ?_
      refine pI hC hw fl_X4_132 fp_5_4 ok13 dX4_readTake_38 (fun H locs hw => ?_)
      refine lv_goto (tgt := 70) hx hb dX4_readTake_41 (by decide) ?_
      exact B70 (si r27.2 13 4 (1 : Int32)) _ _ _ hw (lv_sub hl [0] rfl) h
  · rw [if_neg hc] at h
    refine lv_aload_n hx hb dX4_readTake_13 rfl (lv_at hl 0 rfl) ?_
    refine gR (t := 13) hC hw fl_X4_12 ok12 (by decide) ot12_0 dX4_readTake_14 ?_
    refine lv_iconst (v := (0 : Int32)) hx hb dX4_readTake_17 (by decide) ?_
    refine pI hC hw fl_X4_132 fp_5_4 ok13 dX4_readTake_18 (fun H locs hw => ?_)
    refine lv_goto (tgt := 70) hx hb dX4_readTake_21 (by decide) ?_
    exact B70 (si r7.2 13 4 (0 : Int32)) _ _ _ hw (lv_sub hl [0] rfl) h
set_option maxRecDepth 100000 in
set_option maxHeartbeats 4000000 in
theorem c_X4_readFlag (l : Launch) (g : Gw) (n : Nat) (μ : Mu) (r : Unit × Mu) (h : X4_readFlag n  μ = some r) : Ct l g yX4_readFlag cX4_readFlag 1 none 5 [.ref (g.2.2 12)] μ none r.2 := by
  rw [X4_readFlag] at h
  refine Ct.of (by decide) (Nat.le_of_ble_eq_true rfl) ?_
  intro p e s m args below meth c ls hC hw hr hlocks hl
  have hx := hC.1
  have hb := hC.2.1
  have hl : lv_has ls 1 [(0, .ref (g.2.2 12))] := hl
  have B86 : ∀ (μ : Mu) (H : Heap) (locs : List Loc) (ls : Array Slot), wd g μ s (Aw g s.heap.size) H locs → lv_has ls 1 [(0, .ref (g.2.2 12))] → X4_readFlag_86 n  μ = some r → WQ p l e (rmD 5) s m args below meth c g none r.2 H locs (F0 m 86 ls []) := by
    intro μ H locs ls hw hl h
    rw [X4_readFlag_86] at h
    refine lv_aload_n hx hb dX4_readFlag_86 rfl (lv_at hl 0 rfl) ?_
    obtain ⟨r87, hr87, h⟩ := bnd h
    refine cV (b := 12) (As := []) (rest := []) (st1 := []) hC hw (c_X4_step l g n μ r87 hr87) ml_X4_49 im_X4_step se_X4_step ok12 (CN := RX4) (T := TX4) (NF := 11) rfl rfl (by decide) rfl hl.1 ⟨Nat.le_of_ble_eq_true rfl, Nat.le_of_ble_eq_true rfl⟩ (Nat.le_of_ble_eq_true rfl) ⟨Nat.zero_le _, Nat.zero_le _⟩ rfl dX4_readFlag_87 (fun H locs hw => ?_)
    exact rV hC hw hr hlocks rfl (by rw [← Option.some.inj h]) dX4_readFlag_90
  refine lv_aload_n hx hb dX4_readFlag_0 rfl (lv_at hl 0 rfl) ?_
  have hz1 := (hC.2.2.2.2.2.2.2.2.1 12 (by decide)).2.2.2.2
  refine va_ldcS (own := RX4) (index := 140) (tx := "stores") (q := g.2.2 1012) hx hb hC.2.2.2.1 hz1 dX4_readFlag_1 ?_
  obtain ⟨r3, hr3, h⟩ := bnd h
  refine cV (b := 12) (As := [.ref (g.2.2 1012)]) (rest := []) (st1 := [.int r3.1]) hC hw (c_X4_isWord l g n 1012 μ r3 hr3) ml_X4_78 im_X4_isWord se_X4_isWord ok12 (CN := RX4) (T := TX4) (NF := 11) rfl rfl (by decide) rfl hl.1 ⟨Nat.le_of_ble_eq_true rfl, Nat.le_of_ble_eq_true rfl⟩ (Nat.le_of_ble_eq_true rfl) ⟨Nat.zero_le _, Nat.zero_le _⟩ rfl dX4_readFlag_3 (fun H locs hw => ?_)
  refine lv_if_eq (tgt := 20) hx hb dX4_readFlag_6 (by decide) (fun hc => ?_) (fun hc => ?_)
  · rw [if_pos hc] at h
    refine lv_aload_n hx hb dX4_readFlag_20 rfl (lv_at hl 0 rfl) ?_
    have hz21 := (hC.2.2.2.2.2.2.2.2.1 13 (by decide)).2.2.2.2
    refine va_ldcS (own := RX4) (index := 145) (tx := "skip") (q := g.2.2 1013) hx hb hC.2.2.2.1 hz21 dX4_readFlag_21 ?_
    obtain ⟨r23, hr23, h⟩ := bnd h
    refine cV (b := 12) (As := [.ref (g.2.2 1013)]) (rest := []) (st1 := [.int r23.1]) hC hw (c_X4_isWord l g n 1013 r3.2 r23 hr23) ml_X4_78 im_X4_isWord se_X4_isWord ok12 (CN := RX4) (T := TX4) (NF := 11) rfl rfl (by decide) rfl hl.1 ⟨Nat.le_of_ble_eq_true rfl, Nat.le_of_ble_eq_true rfl⟩ (Nat.le_of_ble_eq_true rfl) ⟨Nat.zero_le _, Nat.zero_le _⟩ rfl dX4_readFlag_23 (fun H locs hw => ?_)
    refine lv_if_eq (tgt := 40) hx hb dX4_readFlag_26 (by decide) (fun hc => ?_) (fun hc => ?_)
    · rw [if_pos hc] at h
      refine lv_aload_n hx hb dX4_readFlag_40 rfl (lv_at hl 0 rfl) ?_
      have hz41 := (hC.2.2.2.2.2.2.2.2.1 14 (by decide)).2.2.2.2
      refine va_ldcS (own := RX4) (index := 149) (tx := "again") (q := g.2.2 1014) hx hb hC.2.2.2.1 hz41 dX4_readFlag_41 ?_
      obtain ⟨r43, hr43, h⟩ := bnd h
      refine cV (b := 12) (As := [.ref (g.2.2 1014)]) (rest := []) (st1 := [.int r43.1]) hC hw (c_X4_isWord l g n 1014 r23.2 r43 hr43) ml_X4_78 im_X4_isWord se_X4_isWord ok12 (CN := RX4) (T := TX4) (NF := 11) rfl rfl (by decide) rfl hl.1 ⟨Nat.le_of_ble_eq_true rfl, Nat.le_of_ble_eq_true rfl⟩ (Nat.le_of_ble_eq_true rfl) ⟨Nat.zero_le _, Nat.zero_le _⟩ rfl dX4_readFlag_43 (fun H locs hw => ?_)
      refine lv_if_eq (tgt := 60) hx hb dX4_readFlag_46 (by decide) (fun hc => ?_) (fun hc => ?_)
      · rw [if_pos hc] at h
        refine lv_aload_n hx hb dX4_readFlag_60 rfl (lv_at hl 0 rfl) ?_
        have hz61 := (hC.2.2.2.2.2.2.2.2.1 15 (by decide)).2.2.2.2
        refine va_ldcS (own := RX4) (index := 153) (tx := "feed") (q := g.2.2 1015) hx hb hC.2.2.2.1 hz61 dX4_readFlag_61 ?_
        obtain ⟨r63, hr63, h⟩ := bnd h
        refine cV (b := 12) (As := [.ref (g.2.2 1015)]) (rest := []) (st1 := [.int r63.1]) hC hw (c_X4_isWord l g n 1015 r43.2 r63 hr63) ml_X4_78 im_X4_isWord se_X4_isWord ok12 (CN := RX4) (T := TX4) (NF := 11) rfl rfl (by decide) rfl hl.1 ⟨Nat.le_of_ble_eq_true rfl, Nat.le_of_ble_eq_true rfl⟩ (Nat.le_of_ble_eq_true rfl) ⟨Nat.zero_le _, Nat.zero_le _⟩ rfl dX4_readFlag_63 (fun H locs hw => ?_)
        refine lv_if_eq (tgt := 80) hx hb dX4_readFlag_66 (by decide) (fun hc => ?_) (fun hc => ?_)
        · rw [if_pos hc] at h
          refine lv_aload_n hx hb dX4_readFlag_80 rfl (lv_at hl 0 rfl) ?_
          refine lv_iconst (v := (2 : Int32)) hx hb dX4_readFlag_81 (by decide) ?_
          obtain ⟨r82, hr82, h⟩ := bnd h
          refine cV (b := 12) (As := [.int (2 : Int32)]) (rest := []) (st1 := []) hC hw (c_X4_refuse l g n (2 : Int32) r63.2 r82 hr82) ml_X4_120 im_X4_refuse se_X4_refuse ok12 (CN := RX4) (T := TX4) (NF := 11) rfl rfl (by decide) rfl hl.1 ⟨Nat.le_of_ble_eq_true rfl, Nat.le_of_ble_eq_true rfl⟩ (Nat.le_of_ble_eq_true rfl) ⟨Nat.zero_le _, Nat.zero_le _⟩ rfl dX4_readFlag_82 (fun H locs hw => ?_)
          exact rV hC hw hr hlocks rfl (by rw [← Option.some.inj h]) dX4_readFlag_85
        · rw [if_neg hc] at h
          refine lv_aload_n hx hb dX4_readFlag_69 rfl (lv_at hl 0 rfl) ?_
          refine gR (t := 13) hC hw fl_X4_12 ok12 (by decide) ot12_0 dX4_readFlag_70 ?_
          refine lv_iconst (v := (1 : Int32)) hx hb dX4_readFlag_73 (by decide) ?_
          refine pZ hC hw fl_X4_155 fp_5_8 ok13 (Or.inr rfl) dX4_readFlag_74 (fun H locs hw => ?_)
          refine lv_goto (tgt := 86) hx hb dX4_readFlag_77 (by decide) ?_
          exact B86 (si r63.2 13 8 (1 : Int32)) _ _ _ hw (lv_sub hl [0] rfl) h
      · rw [if_neg hc] at h
        refine lv_aload_n hx hb dX4_readFlag_49 rfl (lv_at hl 0 rfl) ?_
        refine gR (t := 13) hC hw fl_X4_12 ok12 (by decide) ot12_0 dX4_readFlag_50 ?_
        refine lv_iconst (v := (1 : Int32)) hx hb dX4_readFlag_53 (by decide) ?_
        refine pZ hC hw fl_X4_151 fp_5_7 ok13 (Or.inr rfl) dX4_readFlag_54 (fun H locs hw => ?_)
        refine lv_goto (tgt := 86) hx hb dX4_readFlag_57 (by decide) ?_
        exact B86 (si r43.2 13 7 (1 : Int32)) _ _ _ hw (lv_sub hl [0] rfl) h
    · rw [if_neg hc] at h
      refine lv_aload_n hx hb dX4_readFlag_29 rfl (lv_at hl 0 rfl) ?_
      refine gR (t := 13) hC hw fl_X4_12 ok12 (by decide) ot12_0 dX4_readFlag_30 ?_
      refine lv_iconst (v := (1 : Int32)) hx hb dX4_readFlag_33 (by decide) ?_
      refine pZ hC hw fl_X4_147 fp_5_6 ok13 (Or.inr rfl) dX4_readFlag_34 (fun H locs hw => ?_)
      refine lv_goto (tgt := 86) hx hb dX4_readFlag_37 (by decide) ?_
      exact B86 (si r23.2 13 6 (1 : Int32)) _ _ _ hw (lv_sub hl [0] rfl) h
  · rw [if_neg hc] at h
    refine lv_aload_n hx hb dX4_readFlag_9 rfl (lv_at hl 0 rfl) ?_
    refine gR (t := 13) hC hw fl_X4_12 ok12 (by decide) ot12_0 dX4_readFlag_10 ?_
    refine lv_iconst (v := (1 : Int32)) hx hb dX4_readFlag_13 (by decide) ?_
    refine pZ hC hw fl_X4_142 fp_5_5 ok13 (Or.inr rfl) dX4_readFlag_14 (fun H locs hw => ?_)
    refine lv_goto (tgt := 86) hx hb dX4_readFlag_17 (by decide) ?_
    exact B86 (si r3.2 13 5 (1 : Int32)) _ _ _ hw (lv_sub hl [0] rfl) h
set_option maxRecDepth 100000 in
set_option maxHeartbeats 4000000 in
theorem c_X4_readLine (l : Launch) (g : Gw) (n : Nat) (μ : Mu) (r : Unit × Mu) (h : X4_readLine n  μ = some r) : Ct l g yX4_readLine cX4_readLine 1 none 6 [.ref (g.2.2 12)] μ none r.2 := by
  rw [X4_readLine] at h
  refine Ct.of (by decide) (Nat.le_of_ble_eq_true rfl) ?_
  intro p e s m args below meth c ls hC hw hr hlocks hl
  have hx := hC.1
  have hb := hC.2.1
  have hl : lv_has ls 1 [(0, .ref (g.2.2 12))] := hl
  have B244 : ∀ (μ : Mu) (H : Heap) (locs : List Loc) (ls : Array Slot), wd g μ s (Aw g s.heap.size) H locs → lv_has ls 1 [] → X4_readLine_244 n  μ = some r → WQ p l e (rmD 6) s m args below meth c g none r.2 H locs (F0 m 244 ls []) := by
    intro μ H locs ls hw hl h
    rw [X4_readLine_244] at h
    exact rV hC hw hr hlocks rfl (by rw [← Option.some.inj h]) dX4_readLine_244
  have B220 : ∀ (μ : Mu) (H : Heap) (locs : List Loc) (ls : Array Slot), wd g μ s (Aw g s.heap.size) H locs → lv_has ls 1 [(0, .ref (g.2.2 12))] → X4_readLine_220 n  μ = some r → WQ p l e (rmD 6) s m args below meth c g none r.2 H locs (F0 m 220 ls []) := by
    intro μ H locs ls hw hl h
    rw [X4_readLine_220] at h
    refine lv_aload_n hx hb dX4_readLine_220 rfl (lv_at hl 0 rfl) ?_
    refine gI hC hw fl_X4_40 ok12 (by decide) dX4_readLine_221 ?_
    refine lv_if_ne (tgt := 244) hx hb dX4_readLine_224 (by decide) (fun hc => ?_) (fun hc => ?_)
    · rw [if_neg hc] at h
      exact B244 μ _ _ _ hw (lv_sub hl [] rfl) h
    · rw [if_pos hc] at h
      refine lv_aload_n hx hb dX4_readLine_227 rfl (lv_at hl 0 rfl) ?_
      refine gR (t := 13) hC hw fl_X4_12 ok12 (by decide) ot12_0 dX4_readLine_228 ?_
      refine lv_dup hx hb dX4_readLine_231 rfl ?_
      refine gI hC hw fl_X4_124 ok13 (by decide) dX4_readLine_232 ?_
      refine lv_iconst (v := (1 : Int32)) hx hb dX4_readLine_235 (by decide) ?_
      refine lv_iadd hx hb dX4_readLine_236 ?_
      refine pI hC hw fl_X4_124 fp_5_0 ok13 dX4_readLine_237 (fun H locs hw => ?_)
      refine lv_aload_n hx hb dX4_readLine_240 rfl (lv_at hl 0 rfl) ?_
      obtain ⟨r241, hr241, h⟩ := bnd h
      refine cV (b := 12) (As := []) (rest := []) (st1 := []) hC hw (c_X4_step l g n (si μ 13 0 ((μ.1 13 0) + (1 : Int32))) r241 hr241) ml_X4_49 im_X4_step se_X4_step ok12 (CN := RX4) (T := TX4) (NF := 11) rfl rfl (by decide) rfl hl.1 ⟨Nat.le_of_ble_eq_true rfl, Nat.le_of_ble_eq_true rfl⟩ (Nat.le_of_ble_eq_true rfl) ⟨Nat.zero_le _, Nat.zero_le _⟩ rfl dX4_readLine_241 (fun H locs hw => ?_)
      exact B244 r241.2 _ _ _ hw (lv_sub hl [] rfl) h
  have B207 : ∀ (μ : Mu) (H : Heap) (locs : List Loc) (ls : Array Slot), wd g μ s (Aw g s.heap.size) H locs → lv_has ls 1 [(0, .ref (g.2.2 12))] → X4_readLine_207 n  μ = some r → WQ p l e (rmD 6) s m args below meth c g none r.2 H locs (F0 m 207 ls []) := by
    intro μ H locs ls hw hl h
    rw [X4_readLine_207] at h
    refine lv_aload_n hx hb dX4_readLine_207 rfl (lv_at hl 0 rfl) ?_
    refine gI hC hw fl_X4_52 ok12 (by decide) dX4_readLine_208 ?_
    refine lv_iconst (v := (3 : Int32)) hx hb dX4_readLine_211 (by decide) ?_
    refine lv_icmp_eq (tgt := 220) hx hb dX4_readLine_212 (by decide) (fun hc => ?_) (fun hc => ?_)
    · rw [if_pos hc] at h
      exact B220 μ _ _ _ hw (lv_sub hl [0] rfl) h
    · rw [if_neg hc] at h
      refine lv_aload_n hx hb dX4_readLine_215 rfl (lv_at hl 0 rfl) ?_
      refine lv_iconst (v := (2 : Int32)) hx hb dX4_readLine_216 (by decide) ?_
      obtain ⟨r217, hr217, h⟩ := bnd h
      refine cV (b := 12) (As := [.int (2 : Int32)]) (rest := []) (st1 := []) hC hw (c_X4_refuse l g n (2 : Int32) μ r217 hr217) ml_X4_120 im_X4_refuse se_X4_refuse ok12 (CN := RX4) (T := TX4) (NF := 11) rfl rfl (by decide) rfl hl.1 ⟨Nat.le_of_ble_eq_true rfl, Nat.le_of_ble_eq_true rfl⟩ (Nat.le_of_ble_eq_true rfl) ⟨Nat.zero_le _, Nat.zero_le _⟩ rfl dX4_readLine_217 (fun H locs hw => ?_)
      exact B220 r217.2 _ _ _ hw (lv_sub hl [0] rfl) h
  refine lv_aload_n hx hb dX4_readLine_0 rfl (lv_at hl 0 rfl) ?_
  have hz1 := (hC.2.2.2.2.2.2.2.2.1 1 (by decide)).2.2.2.2
  refine va_ldcS (own := RX4) (index := 76) (tx := "pits") (q := g.2.2 1001) hx hb hC.2.2.2.1 hz1 dX4_readLine_1 ?_
  obtain ⟨r3, hr3, h⟩ := bnd h
  refine cV (b := 12) (As := [.ref (g.2.2 1001)]) (rest := []) (st1 := [.int r3.1]) hC hw (c_X4_isWord l g n 1001 μ r3 hr3) ml_X4_78 im_X4_isWord se_X4_isWord ok12 (CN := RX4) (T := TX4) (NF := 11) rfl rfl (by decide) rfl hl.1 ⟨Nat.le_of_ble_eq_true rfl, Nat.le_of_ble_eq_true rfl⟩ (Nat.le_of_ble_eq_true rfl) ⟨Nat.zero_le _, Nat.zero_le _⟩ rfl dX4_readLine_3 (fun H locs hw => ?_)
  refine lv_if_eq (tgt := 16) hx hb dX4_readLine_6 (by decide) (fun hc => ?_) (fun hc => ?_)
  · rw [if_pos hc] at h
    refine lv_aload_n hx hb dX4_readLine_16 rfl (lv_at hl 0 rfl) ?_
    have hz17 := (hC.2.2.2.2.2.2.2.2.1 2 (by decide)).2.2.2.2
    refine va_ldcS (own := RX4) (index := 85) (tx := "lay") (q := g.2.2 1002) hx hb hC.2.2.2.1 hz17 dX4_readLine_17 ?_
    obtain ⟨r19, hr19, h⟩ := bnd h
    refine cV (b := 12) (As := [.ref (g.2.2 1002)]) (rest := []) (st1 := [.int r19.1]) hC hw (c_X4_isWord l g n 1002 r3.2 r19 hr19) ml_X4_78 im_X4_isWord se_X4_isWord ok12 (CN := RX4) (T := TX4) (NF := 11) rfl rfl (by decide) rfl hl.1 ⟨Nat.le_of_ble_eq_true rfl, Nat.le_of_ble_eq_true rfl⟩ (Nat.le_of_ble_eq_true rfl) ⟨Nat.zero_le _, Nat.zero_le _⟩ rfl dX4_readLine_19 (fun H locs hw => ?_)
    refine lv_if_eq (tgt := 32) hx hb dX4_readLine_22 (by decide) (fun hc => ?_) (fun hc => ?_)
    · rw [if_pos hc] at h
      refine lv_aload_n hx hb dX4_readLine_32 rfl (lv_at hl 0 rfl) ?_
      have hz33 := (hC.2.2.2.2.2.2.2.2.1 3 (by decide)).2.2.2.2
      refine va_ldcS (own := RX4) (index := 90) (tx := "take") (q := g.2.2 1003) hx hb hC.2.2.2.1 hz33 dX4_readLine_33 ?_
      obtain ⟨r35, hr35, h⟩ := bnd h
      refine cV (b := 12) (As := [.ref (g.2.2 1003)]) (rest := []) (st1 := [.int r35.1]) hC hw (c_X4_isWord l g n 1003 r19.2 r35 hr35) ml_X4_78 im_X4_isWord se_X4_isWord ok12 (CN := RX4) (T := TX4) (NF := 11) rfl rfl (by decide) rfl hl.1 ⟨Nat.le_of_ble_eq_true rfl, Nat.le_of_ble_eq_true rfl⟩ (Nat.le_of_ble_eq_true rfl) ⟨Nat.zero_le _, Nat.zero_le _⟩ rfl dX4_readLine_35 (fun H locs hw => ?_)
      refine lv_if_eq (tgt := 48) hx hb dX4_readLine_38 (by decide) (fun hc => ?_) (fun hc => ?_)
      · rw [if_pos hc] at h
        refine lv_aload_n hx hb dX4_readLine_48 rfl (lv_at hl 0 rfl) ?_
        have hz49 := (hC.2.2.2.2.2.2.2.2.1 8 (by decide)).2.2.2.2
        refine va_ldcS (own := RX4) (index := 95) (tx := "stored") (q := g.2.2 1008) hx hb hC.2.2.2.1 hz49 dX4_readLine_49 ?_
        obtain ⟨r51, hr51, h⟩ := bnd h
        refine cV (b := 12) (As := [.ref (g.2.2 1008)]) (rest := []) (st1 := [.int r51.1]) hC hw (c_X4_isWord l g n 1008 r35.2 r51 hr51) ml_X4_78 im_X4_isWord se_X4_isWord ok12 (CN := RX4) (T := TX4) (NF := 11) rfl rfl (by decide) rfl hl.1 ⟨Nat.le_of_ble_eq_true rfl, Nat.le_of_ble_eq_true rfl⟩ (Nat.le_of_ble_eq_true rfl) ⟨Nat.zero_le _, Nat.zero_le _⟩ rfl dX4_readLine_51 (fun H locs hw => ?_)
        refine lv_if_eq (tgt := 98) hx hb dX4_readLine_54 (by decide) (fun hc => ?_) (fun hc => ?_)
        · rw [if_pos hc] at h
          refine lv_aload_n hx hb dX4_readLine_98 rfl (lv_at hl 0 rfl) ?_
          have hz99 := (hC.2.2.2.2.2.2.2.2.1 9 (by decide)).2.2.2.2
          refine va_ldcS (own := RX4) (index := 101) (tx := "lacking") (q := g.2.2 1009) hx hb hC.2.2.2.1 hz99 dX4_readLine_99 ?_
          obtain ⟨r101, hr101, h⟩ := bnd h
          refine cV (b := 12) (As := [.ref (g.2.2 1009)]) (rest := []) (st1 := [.int r101.1]) hC hw (c_X4_isWord l g n 1009 r51.2 r101 hr101) ml_X4_78 im_X4_isWord se_X4_isWord ok12 (CN := RX4) (T := TX4) (NF := 11) rfl rfl (by decide) rfl hl.1 ⟨Nat.le_of_ble_eq_true rfl, Nat.le_of_ble_eq_true rfl⟩ (Nat.le_of_ble_eq_true rfl) ⟨Nat.zero_le _, Nat.zero_le _⟩ rfl dX4_readLine_101 (fun H locs hw => ?_)
          refine lv_if_eq (tgt := 144) hx hb dX4_readLine_104 (by decide) (fun hc => ?_) (fun hc => ?_)
          · rw [if_pos hc] at h
            refine lv_aload_n hx hb dX4_readLine_144 rfl (lv_at hl 0 rfl) ?_
            have hz145 := (hC.2.2.2.2.2.2.2.2.1 10 (by decide)).2.2.2.2
            refine va_ldcS (own := RX4) (index := 108) (tx := "first") (q := g.2.2 1010) hx hb hC.2.2.2.1 hz145 dX4_readLine_145 ?_
            obtain ⟨r147, hr147, h⟩ := bnd h
            refine cV (b := 12) (As := [.ref (g.2.2 1010)]) (rest := []) (st1 := [.int r147.1]) hC hw (c_X4_isWord l g n 1010 r101.2 r147 hr147) ml_X4_78 im_X4_isWord se_X4_isWord ok12 (CN := RX4) (T := TX4) (NF := 11) rfl rfl (by decide) rfl hl.1 ⟨Nat.le_of_ble_eq_true rfl, Nat.le_of_ble_eq_true rfl⟩ (Nat.le_of_ble_eq_true rfl) ⟨Nat.zero_le _, Nat.zero_le _⟩ rfl dX4_readLine_147 (fun H locs hw => ?_)
            refine lv_if_eq (tgt := 173) hx hb dX4_readLine_150 (by decide) (fun hc => ?_) (fun hc => ?_)
            · rw [if_pos hc] at h
              refine lv_aload_n hx hb dX4_readLine_173 rfl (lv_at hl 0 rfl) ?_
              have hz174 := (hC.2.2.2.2.2.2.2.2.1 11 (by decide)).2.2.2.2
              refine va_ldcS (own := RX4) (index := 113) (tx := "relay") (q := g.2.2 1011) hx hb hC.2.2.2.1 hz174 dX4_readLine_174 ?_
              obtain ⟨r176, hr176, h⟩ := bnd h
              refine cV (b := 12) (As := [.ref (g.2.2 1011)]) (rest := []) (st1 := [.int r176.1]) hC hw (c_X4_isWord l g n 1011 r147.2 r176 hr176) ml_X4_78 im_X4_isWord se_X4_isWord ok12 (CN := RX4) (T := TX4) (NF := 11) rfl rfl (by decide) rfl hl.1 ⟨Nat.le_of_ble_eq_true rfl, Nat.le_of_ble_eq_true rfl⟩ (Nat.le_of_ble_eq_true rfl) ⟨Nat.zero_le _, Nat.zero_le _⟩ rfl dX4_readLine_176 (fun H locs hw => ?_)
              refine lv_if_eq (tgt := 203) hx hb dX4_readLine_179 (by decide) (fun hc => ?_) (fun hc => ?_)
              · rw [if_pos hc] at h
                refine lv_aload_n hx hb dX4_readLine_203 rfl (lv_at hl 0 rfl) ?_
                obtain ⟨r204, hr204, h⟩ := bnd h
                refine cV (b := 12) (As := []) (rest := []) (st1 := []) hC hw (c_X4_readFlag l g n r176.2 r204 hr204) ml_X4_117 im_X4_readFlag se_X4_readFlag ok12 (CN := RX4) (T := TX4) (NF := 11) rfl rfl (by decide) rfl hl.1 ⟨Nat.le_of_ble_eq_true rfl, Nat.le_of_ble_eq_true rfl⟩ (Nat.le_of_ble_eq_true rfl) ⟨Nat.zero_le _, Nat.zero_le _⟩ rfl dX4_readLine_204 (fun H locs hw => ?_)
                exact B207 r204.2 _ _ _ hw (lv_sub hl [0] rfl) h
              · rw [if_neg hc] at h
                refine lv_aload_n hx hb dX4_readLine_182 rfl (lv_at hl 0 rfl) ?_
                obtain ⟨r183, hr183, h⟩ := bnd h
                refine cV (b := 12) (As := []) (rest := []) (st1 := []) hC hw (c_X4_step l g n r176.2 r183 hr183) ml_X4_49 im_X4_step se_X4_step ok12 (CN := RX4) (T := TX4) (NF := 11) rfl rfl (by decide) rfl hl.1 ⟨Nat.le_of_ble_eq_true rfl, Nat.le_of_ble_eq_true rfl⟩ (Nat.le_of_ble_eq_true rfl) ⟨Nat.zero_le _, Nat.zero_le _⟩ rfl dX4_readLine_183 (fun H locs hw => ?_)
                refine lv_aload_n hx hb dX4_readLine_186 rfl (lv_at hl 0 rfl) ?_
                refine gR (t := 13) hC hw fl_X4_12 ok12 (by decide) ot12_0 dX4_readLine_187 ?_
                refine lv_aload_n hx hb dX4_readLine_190 rfl (lv_at hl 0 rfl) ?_
                refine lv_iconst (v := (1 : Int32)) hx hb dX4_readLine_191 (by decide) ?_
                refine lv_bipush (v := (20 : Int32)) hx hb dX4_readLine_192 (by decide) ?_
                obtain ⟨r194, hr194, h⟩ := bnd h
                refine cV (b := 12) (As := [.int (1 : Int32), .int (20 : Int32)]) (rest := [.ref (g.2.2 13)]) (st1 := [.int r194.1, .ref (g.2.2 13)]) hC hw (c_X4_readNumber l g n (1 : Int32) (20 : Int32) r183.2 r194 hr194) ml_X4_97 im_X4_readNumber se_X4_readNumber ok12 (CN := RX4) (T := TX4) (NF := 11) rfl rfl (by decide) rfl hl.1 ⟨Nat.le_of_ble_eq_true rfl, Nat.le_of_ble_eq_true rfl⟩ (Nat.le_of_ble_eq_true rfl) ⟨Nat.zero_le _, Nat.zero_le _⟩ rfl dX4_readLine_194 (fun H locs hw => ?_)
                refine pI hC hw fl_X4_115 fp_5_3 ok13 dX4_readLine_197 (fun H locs hw => ?_)
                refine lv_goto (tgt := 207) hx hb dX4_readLine_200 (by decide) ?_
                exact B207 (si r194.2 13 3 r194.1) _ _ _ hw (lv_sub hl [0] rfl) h
            · rw [if_neg hc] at h
              refine lv_aload_n hx hb dX4_readLine_153 rfl (lv_at hl 0 rfl) ?_
              obtain ⟨r154, hr154, h⟩ := bnd h
              refine cV (b := 12) (As := []) (rest := []) (st1 := []) hC hw (c_X4_step l g n r147.2 r154 hr154) ml_X4_49 im_X4_step se_X4_step ok12 (CN := RX4) (T := TX4) (NF := 11) rfl rfl (by decide) rfl hl.1 ⟨Nat.le_of_ble_eq_true rfl, Nat.le_of_ble_eq_true rfl⟩ (Nat.le_of_ble_eq_true rfl) ⟨Nat.zero_le _, Nat.zero_le _⟩ rfl dX4_readLine_154 (fun H locs hw => ?_)
              refine lv_aload_n hx hb dX4_readLine_157 rfl (lv_at hl 0 rfl) ?_
              refine gR (t := 149) hC hw fl_X4_21 ok12 (by decide) ot12_1 dX4_readLine_158 ?_
              refine lv_aload_n hx hb dX4_readLine_161 rfl (lv_at hl 0 rfl) ?_
              refine lv_iconst (v := (0 : Int32)) hx hb dX4_readLine_162 (by decide) ?_
              refine lv_iconst (v := (1 : Int32)) hx hb dX4_readLine_163 (by decide) ?_
              obtain ⟨r164, hr164, h⟩ := bnd h
              refine cV (b := 12) (As := [.int (0 : Int32), .int (1 : Int32)]) (rest := [.ref (g.2.2 149)]) (st1 := [.int r164.1, .ref (g.2.2 149)]) hC hw (c_X4_readNumber l g n (0 : Int32) (1 : Int32) r154.2 r164 hr164) ml_X4_97 im_X4_readNumber se_X4_readNumber ok12 (CN := RX4) (T := TX4) (NF := 11) rfl rfl (by decide) rfl hl.1 ⟨Nat.le_of_ble_eq_true rfl, Nat.le_of_ble_eq_true rfl⟩ (Nat.le_of_ble_eq_true rfl) ⟨Nat.zero_le _, Nat.zero_le _⟩ rfl dX4_readLine_164 (fun H locs hw => ?_)
              refine pI hC hw fl_X4_110 fp_6_1 ok149 dX4_readLine_167 (fun H locs hw => ?_)
              refine lv_goto (tgt := 207) hx hb dX4_readLine_170 (by decide) ?_
              exact B207 (si r164.2 149 1 r164.1) _ _ _ hw (lv_sub hl [0] rfl) h
          · rw [if_neg hc] at h
            refine lv_aload_n hx hb dX4_readLine_107 rfl (lv_at hl 0 rfl) ?_
            obtain ⟨r108, hr108, h⟩ := bnd h
            refine cV (b := 12) (As := []) (rest := []) (st1 := []) hC hw (c_X4_step l g n r101.2 r108 hr108) ml_X4_49 im_X4_step se_X4_step ok12 (CN := RX4) (T := TX4) (NF := 11) rfl rfl (by decide) rfl hl.1 ⟨Nat.le_of_ble_eq_true rfl, Nat.le_of_ble_eq_true rfl⟩ (Nat.le_of_ble_eq_true rfl) ⟨Nat.zero_le _, Nat.zero_le _⟩ rfl dX4_readLine_108 (fun H locs hw => ?_)
            refine lv_aload_n hx hb dX4_readLine_111 rfl (lv_at hl 0 rfl) ?_
            refine gR (t := 13) hC hw fl_X4_12 ok12 (by decide) ot12_0 dX4_readLine_112 ?_
            refine lv_dup hx hb dX4_readLine_115 rfl ?_
            refine gI hC hw fl_X4_103 ok13 (by decide) dX4_readLine_116 ?_
            refine lv_iconst (v := (1 : Int32)) hx hb dX4_readLine_119 (by decide) ?_
            refine lv_aload_n hx hb dX4_readLine_120 rfl (lv_at hl 0 rfl) ?_
            refine lv_iconst (v := (0 : Int32)) hx hb dX4_readLine_121 (by decide) ?_
            refine lv_iconst (v := (2 : Int32)) hx hb dX4_readLine_122 (by decide) ?_
            refine lv_aload_n hx hb dX4_readLine_123 rfl (lv_at hl 0 rfl) ?_
            refine gR (t := 13) hC hw fl_X4_12 ok12 (by decide) ot12_0 dX4_readLine_124 ?_
            refine gI hC hw fl_X4_105 ok13 (by decide) dX4_readLine_127 ?_
            refine lv_imul hx hb dX4_readLine_130 ?_
            refine lv_iconst (v := (1 : Int32)) hx hb dX4_readLine_131 (by decide) ?_
            refine lv_isub hx hb dX4_readLine_132 ?_
            obtain ⟨r133, hr133, h⟩ := bnd h
            refine cV (b := 12) (As := [.int (0 : Int32), .int (((2 : Int32) * (r108.2.1 13 1)) - (1 : Int32))]) (rest := [.int (1 : Int32), .int (r108.2.1 13 2), .ref (g.2.2 13)]) (st1 := [.int r133.1, .int (1 : Int32), .int (r108.2.1 13 2), .ref (g.2.2 13)]) hC hw (c_X4_readNumber l g n (0 : Int32) (((2 : Int32) * (r108.2.1 13 1)) - (1 : Int32)) r108.2 r133 hr133) ml_X4_97 im_X4_readNumber se_X4_readNumber ok12 (CN := RX4) (T := TX4) (NF := 11) rfl rfl (by decide) rfl hl.1 ⟨Nat.le_of_ble_eq_true rfl, Nat.le_of_ble_eq_true rfl⟩ (Nat.le_of_ble_eq_true rfl) ⟨Nat.zero_le _, Nat.zero_le _⟩ rfl dX4_readLine_133 (fun H locs hw => ?_)
            refine lv_ishl hx hb dX4_readLine_136 ?_
            refine lv_ior hx hb dX4_readLine_137 ?_
            refine pI hC hw fl_X4_103 fp_5_2 ok13 dX4_readLine_138 (fun H locs hw => ?_)
            refine lv_goto (tgt := 207) hx hb dX4_readLine_141 (by decide) ?_
            exact B207 (si r133.2 13 2 ((r108.2.1 13 2) ||| ((1 : Int32) <<< (r133.1 &&& 31)))) _ _ _ hw (lv_sub hl [0] rfl) h
        · rw [if_neg hc] at h
          refine lv_aload_n hx hb dX4_readLine_57 rfl (lv_at hl 0 rfl) ?_
          obtain ⟨r58, hr58, h⟩ := bnd h
          refine cV (b := 12) (As := []) (rest := []) (st1 := []) hC hw (c_X4_step l g n r51.2 r58 hr58) ml_X4_49 im_X4_step se_X4_step ok12 (CN := RX4) (T := TX4) (NF := 11) rfl rfl (by decide) rfl hl.1 ⟨Nat.le_of_ble_eq_true rfl, Nat.le_of_ble_eq_true rfl⟩ (Nat.le_of_ble_eq_true rfl) ⟨Nat.zero_le _, Nat.zero_le _⟩ rfl dX4_readLine_58 (fun H locs hw => ?_)
          refine lv_aload_n hx hb dX4_readLine_61 rfl (lv_at hl 0 rfl) ?_
          refine gR (t := 149) hC hw fl_X4_21 ok12 (by decide) ot12_1 dX4_readLine_62 ?_
          refine gR (t := 150) hC hw fl_X4_66 ok149 (by decide) ot149_0 dX4_readLine_65 ?_
          refine lv_bipush (v := (12 : Int32)) hx hb dX4_readLine_68 (by decide) ?_
          refine lv_aload_n hx hb dX4_readLine_70 rfl (lv_at hl 0 rfl) ?_
          refine lv_iconst (v := (0 : Int32)) hx hb dX4_readLine_71 (by decide) ?_
          refine lv_bipush (v := (99 : Int32)) hx hb dX4_readLine_72 (by decide) ?_
          obtain ⟨r74, hr74, h⟩ := bnd h
          refine cV (b := 12) (As := [.int (0 : Int32), .int (99 : Int32)]) (rest := [.int (12 : Int32), .ref (g.2.2 150)]) (st1 := [.int r74.1, .int (12 : Int32), .ref (g.2.2 150)]) hC hw (c_X4_readNumber l g n (0 : Int32) (99 : Int32) r58.2 r74 hr74) ml_X4_97 im_X4_readNumber se_X4_readNumber ok12 (CN := RX4) (T := TX4) (NF := 11) rfl rfl (by decide) rfl hl.1 ⟨Nat.le_of_ble_eq_true rfl, Nat.le_of_ble_eq_true rfl⟩ (Nat.le_of_ble_eq_true rfl) ⟨Nat.zero_le _, Nat.zero_le _⟩ rfl dX4_readLine_74 (fun H locs hw => ?_)
          refine sI (j := 12) hC hw ok150 on150 (vin (by decide)) (by decide) dX4_readLine_77 (fun H locs hw => ?_)
          refine lv_aload_n hx hb dX4_readLine_78 rfl (lv_at hl 0 rfl) ?_
          refine gR (t := 149) hC hw fl_X4_21 ok12 (by decide) ot12_1 dX4_readLine_79 ?_
          refine gR (t := 150) hC hw fl_X4_66 ok149 (by decide) ot149_0 dX4_readLine_82 ?_
          refine lv_bipush (v := (13 : Int32)) hx hb dX4_readLine_85 (by decide) ?_
          refine lv_aload_n hx hb dX4_readLine_87 rfl (lv_at hl 0 rfl) ?_
          refine lv_iconst (v := (0 : Int32)) hx hb dX4_readLine_88 (by decide) ?_
          refine lv_bipush (v := (99 : Int32)) hx hb dX4_readLine_89 (by decide) ?_
          obtain ⟨r91, hr91, h⟩ := bnd h
          refine cV (b := 12) (As := [.int (0 : Int32), .int (99 : Int32)]) (rest := [.int (13 : Int32), .ref (g.2.2 150)]) (st1 := [.int r91.1, .int (13 : Int32), .ref (g.2.2 150)]) hC hw (c_X4_readNumber l g n (0 : Int32) (99 : Int32) (si r74.2 150 12 r74.1) r91 hr91) ml_X4_97 im_X4_readNumber se_X4_readNumber ok12 (CN := RX4) (T := TX4) (NF := 11) rfl rfl (by decide) rfl hl.1 ⟨Nat.le_of_ble_eq_true rfl, Nat.le_of_ble_eq_true rfl⟩ (Nat.le_of_ble_eq_true rfl) ⟨Nat.zero_le _, Nat.zero_le _⟩ rfl dX4_readLine_91 (fun H locs hw => ?_)
          refine sI (j := 13) hC hw ok150 on150 (vin (by decide)) (by decide) dX4_readLine_94 (fun H locs hw => ?_)
          refine lv_goto (tgt := 207) hx hb dX4_readLine_95 (by decide) ?_
          exact B207 (si r91.2 150 13 r91.1) _ _ _ hw (lv_sub hl [0] rfl) h
      · rw [if_neg hc] at h
        refine lv_aload_n hx hb dX4_readLine_41 rfl (lv_at hl 0 rfl) ?_
        obtain ⟨r42, hr42, h⟩ := bnd h
        refine cV (b := 12) (As := []) (rest := []) (st1 := []) hC hw (c_X4_readTake l g n r35.2 r42 hr42) ml_X4_92 im_X4_readTake se_X4_readTake ok12 (CN := RX4) (T := TX4) (NF := 11) rfl rfl (by decide) rfl hl.1 ⟨Nat.le_of_ble_eq_true rfl, Nat.le_of_ble_eq_true rfl⟩ (Nat.le_of_ble_eq_true rfl) ⟨Nat.zero_le _, Nat.zero_le _⟩ rfl dX4_readLine_42 (fun H locs hw => ?_)
        refine lv_goto (tgt := 207) hx hb dX4_readLine_45 (by decide) ?_
        exact B207 r42.2 _ _ _ hw (lv_sub hl [0] rfl) h
    · rw [if_neg hc] at h
      refine lv_aload_n hx hb dX4_readLine_25 rfl (lv_at hl 0 rfl) ?_
      obtain ⟨r26, hr26, h⟩ := bnd h
      refine cV (b := 12) (As := []) (rest := []) (st1 := []) hC hw (c_X4_readSeeds l g n r19.2 r26 hr26) ml_X4_87 im_X4_readSeeds se_X4_readSeeds ok12 (CN := RX4) (T := TX4) (NF := 11) rfl rfl (by decide) rfl hl.1 ⟨Nat.le_of_ble_eq_true rfl, Nat.le_of_ble_eq_true rfl⟩ (Nat.le_of_ble_eq_true rfl) ⟨Nat.zero_le _, Nat.zero_le _⟩ rfl dX4_readLine_26 (fun H locs hw => ?_)
      refine lv_goto (tgt := 207) hx hb dX4_readLine_29 (by decide) ?_
      exact B207 r26.2 _ _ _ hw (lv_sub hl [0] rfl) h
  · rw [if_neg hc] at h
    refine lv_aload_n hx hb dX4_readLine_9 rfl (lv_at hl 0 rfl) ?_
    obtain ⟨r10, hr10, h⟩ := bnd h
    refine cV (b := 12) (As := []) (rest := []) (st1 := []) hC hw (c_X4_readPerSide l g n r3.2 r10 hr10) ml_X4_82 im_X4_readPerSide se_X4_readPerSide ok12 (CN := RX4) (T := TX4) (NF := 11) rfl rfl (by decide) rfl hl.1 ⟨Nat.le_of_ble_eq_true rfl, Nat.le_of_ble_eq_true rfl⟩ (Nat.le_of_ble_eq_true rfl) ⟨Nat.zero_le _, Nat.zero_le _⟩ rfl dX4_readLine_10 (fun H locs hw => ?_)
    refine lv_goto (tgt := 207) hx hb dX4_readLine_13 (by decide) ?_
    exact B207 r10.2 _ _ _ hw (lv_sub hl [0] rfl) h
set_option maxRecDepth 100000 in
set_option maxHeartbeats 4000000 in
theorem c_X4_read (l : Launch) (g : Gw) (n : Nat) (v1 : Int32) (μ : Mu) (r : Unit × Mu) (h : X4_read n v1 μ = some r) : Ct l g yX4_read cX4_read 3 none 7 [.ref (g.2.2 12), .int v1] μ none r.2 := by
  rw [X4_read] at h
  refine Ct.of (by decide) (Nat.le_of_ble_eq_true rfl) ?_
  intro p e s m args below meth c ls hC hw hr hlocks hl
  have hx := hC.1
  have hb := hC.2.1
  have hl : lv_has ls 3 [(0, .ref (g.2.2 12)), (1, .int v1)] := hl
  have B99 : ∀ (μ : Mu) (H : Heap) (locs : List Loc) (ls : Array Slot), wd g μ s (Aw g s.heap.size) H locs → lv_has ls 3 [] → X4_read_99 n v1  μ = some r → WQ p l e (rmD 7) s m args below meth c g none r.2 H locs (F0 m 99 ls []) := by
    intro μ H locs ls hw hl h
    rw [X4_read_99] at h
    exact rV hC hw hr hlocks rfl (by rw [← Option.some.inj h]) dX4_read_99
  have B72 : ∀ (μ : Mu) (H : Heap) (locs : List Loc) (ls : Array Slot), wd g μ s (Aw g s.heap.size) H locs → lv_has ls 3 [(0, .ref (g.2.2 12))] → X4_read_72 n v1  μ = some r → WQ p l e (rmD 7) s m args below meth c g none r.2 H locs (F0 m 72 ls []) := by
    intro μ H locs ls hw hl h
    rw [X4_read_72] at h
    refine lv_aload_n hx hb dX4_read_72 rfl (lv_at hl 0 rfl) ?_
    refine gI hC hw fl_X4_40 ok12 (by decide) dX4_read_73 ?_
    refine lv_if_ne (tgt := 99) hx hb dX4_read_76 (by decide) (fun hc => ?_) (fun hc => ?_)
    · rw [if_neg hc] at h
      exact B99 μ _ _ _ hw (lv_sub hl [] rfl) h
    · rw [if_pos hc] at h
      refine lv_aload_n hx hb dX4_read_79 rfl (lv_at hl 0 rfl) ?_
      obtain ⟨r80, hr80, h⟩ := bnd h
      refine cV (b := 12) (As := []) (rest := []) (st1 := [.int r80.1]) hC hw (c_X4_isSound l g n μ r80 hr80) ml_X4_58 im_X4_isSound se_X4_isSound ok12 (CN := RX4) (T := TX4) (NF := 11) rfl rfl (by decide) rfl hl.1 ⟨Nat.le_of_ble_eq_true rfl, Nat.le_of_ble_eq_true rfl⟩ (Nat.le_of_ble_eq_true rfl) ⟨Nat.zero_le _, Nat.zero_le _⟩ rfl dX4_read_80 (fun H locs hw => ?_)
      refine lv_if_ne (tgt := 99) hx hb dX4_read_83 (by decide) (fun hc => ?_) (fun hc => ?_)
      · rw [if_neg hc] at h
        exact B99 r80.2 _ _ _ hw (lv_sub hl [] rfl) h
      · rw [if_pos hc] at h
        refine lv_aload_n hx hb dX4_read_86 rfl (lv_at hl 0 rfl) ?_
        refine lv_iconst (v := (5 : Int32)) hx hb dX4_read_87 (by decide) ?_
        refine pI hC hw fl_X4_40 fp_4_2 ok12 dX4_read_88 (fun H locs hw => ?_)
        refine lv_aload_n hx hb dX4_read_91 rfl (lv_at hl 0 rfl) ?_
        refine lv_aload_n hx hb dX4_read_92 rfl (lv_at hl 0 rfl) ?_
        refine gI hC hw fl_X4_43 ok12 (by decide) dX4_read_93 ?_
        refine pI hC hw fl_X4_25 fp_4_3 ok12 dX4_read_96 (fun H locs hw => ?_)
        exact B99 (si (si r80.2 12 2 (5 : Int32)) 12 3 ((si r80.2 12 2 (5 : Int32)).1 12 6)) _ _ _ hw (lv_sub hl [] rfl) h
  have B40 : ∀ (k : Nat), ∀ (v2 : Int32) (μ : Mu) (H : Heap) (locs : List Loc) (ls : Array Slot), wd g μ s (Aw g s.heap.size) H locs → lv_has ls 3 [(0, .ref (g.2.2 12)), (2, .int v2)] → lpF (fun _ _ => none) (X4_read_40b n v1) k v2 μ = some r → WQ p l e (rmD 7) s m args below meth c g none r.2 H locs (F0 m 40 ls []) := by
    intro k
    induction k with
    | zero =>
      intro v2 μ H locs ls hw hl h
      cases h
    | succ k ih40 =>
      rw [lpF_s]
      generalize lpF (fun _ _ => none) (X4_read_40b n v1) k = k40 at ih40 ⊢
      intro v2 μ H locs ls hw hl h
      rw [X4_read_40b] at h
      refine lv_iload_n hx hb dX4_read_40 rfl (lv_at hl 1 rfl) ?_
      refine lv_aload_n hx hb dX4_read_41 rfl (lv_at hl 0 rfl) ?_
      refine gI hC hw fl_X4_43 ok12 (by decide) dX4_read_42 ?_
      refine lv_icmp_ge (tgt := 72) hx hb dX4_read_45 (by decide) (fun hc => ?_) (fun hc => ?_)
      · rw [if_pos hc] at h
        exact B72 μ _ _ _ hw (lv_sub hl [0] rfl) h
      · rw [if_neg hc] at h
        refine lv_aload_n hx hb dX4_read_48 rfl (lv_at hl 0 rfl) ?_
        refine gI hC hw fl_X4_40 ok12 (by decide) dX4_read_49 ?_
        refine lv_if_ne (tgt := 72) hx hb dX4_read_52 (by decide) (fun hc => ?_) (fun hc => ?_)
        · rw [if_neg hc] at h
          exact B72 μ _ _ _ hw (lv_sub hl [0] rfl) h
        · rw [if_pos hc] at h
          refine lv_aload_n hx hb dX4_read_55 rfl (lv_at hl 0 rfl) ?_
          refine gI hC hw fl_X4_52 ok12 (by decide) dX4_read_56 ?_
          refine lv_if_eq (tgt := 72) hx hb dX4_read_59 (by decide) (fun hc => ?_) (fun hc => ?_)
          · rw [if_pos hc] at h
            exact B72 μ _ _ _ hw (lv_sub hl [0] rfl) h
          · rw [if_neg hc] at h
            refine lv_aload_n hx hb dX4_read_62 rfl (lv_at hl 0 rfl) ?_
            obtain ⟨r63, hr63, h⟩ := bnd h
            refine cV (b := 12) (As := []) (rest := []) (st1 := []) hC hw (c_X4_readLine l g n μ r63 hr63) ml_X4_55 im_X4_readLine se_X4_readLine ok12 (CN := RX4) (T := TX4) (NF := 11) rfl rfl (by decide) rfl hl.1 ⟨Nat.le_of_ble_eq_true rfl, Nat.le_of_ble_eq_true rfl⟩ (Nat.le_of_ble_eq_true rfl) ⟨Nat.zero_le _, Nat.zero_le _⟩ rfl dX4_read_63 (fun H locs hw => ?_)
            refine lv_iinc (v := (v2 + (1 : Int32))) (lv' := [(2, .int (v2 + (1 : Int32))), (0, .ref (g.2.2 12))]) hx hb dX4_read_66 hl (k := 1) rfl rfl (by decide) rfl (fun ls hl => ?_)
            refine lv_goto (tgt := 40) hx hb dX4_read_69 (by decide) ?_
            exact ih40 (v2 + (1 : Int32)) r63.2 _ _ _ hw (lv_sub hl [1, 0] rfl) h
  refine lv_aload_n hx hb dX4_read_0 rfl (lv_at hl 0 rfl) ?_
  refine gR (t := 13) hC hw fl_X4_12 ok12 (by decide) ot12_0 dX4_read_1 ?_
  obtain ⟨r4, hr4, h⟩ := bnd h
  refine cV (b := 13) (As := []) (rest := []) (st1 := []) hC hw (c_X5_clear l g n 13 μ r4 hr4) ml_X4_36 im_X5_clear se_X5_clear ok13 (CN := RX5) (T := TX5) (NF := 9) rfl rfl (by decide) rfl hl.1 ⟨Nat.le_of_ble_eq_true rfl, Nat.le_of_ble_eq_true rfl⟩ (Nat.le_of_ble_eq_true rfl) ⟨Nat.zero_le _, Nat.zero_le _⟩ rfl dX4_read_4 (fun H locs hw => ?_)
  refine lv_aload_n hx hb dX4_read_7 rfl (lv_at hl 0 rfl) ?_
  refine gR (t := 149) hC hw fl_X4_21 ok12 (by decide) ot12_1 dX4_read_8 ?_
  obtain ⟨r11, hr11, h⟩ := bnd h
  refine cV (b := 149) (As := []) (rest := []) (st1 := []) hC hw (c_X6_clear l g n 149 r4.2 r11 hr11) ml_X4_39 im_X6_clear se_X6_clear ok149 (CN := RX6) (T := TX6) (NF := 2) rfl rfl (by decide) rfl hl.1 ⟨Nat.le_of_ble_eq_true rfl, Nat.le_of_ble_eq_true rfl⟩ (Nat.le_of_ble_eq_true rfl) ⟨Nat.zero_le _, Nat.zero_le _⟩ rfl dX4_read_11 (fun H locs hw => ?_)
  refine lv_aload_n hx hb dX4_read_14 rfl (lv_at hl 0 rfl) ?_
  refine lv_iconst (v := (0 : Int32)) hx hb dX4_read_15 (by decide) ?_
  refine pI hC hw fl_X4_40 fp_4_2 ok12 dX4_read_16 (fun H locs hw => ?_)
  refine lv_aload_n hx hb dX4_read_19 rfl (lv_at hl 0 rfl) ?_
  refine lv_iconst (v := ((-1) : Int32)) hx hb dX4_read_20 (by decide) ?_
  refine pI hC hw fl_X4_25 fp_4_3 ok12 dX4_read_21 (fun H locs hw => ?_)
  refine lv_aload_n hx hb dX4_read_24 rfl (lv_at hl 0 rfl) ?_
  refine lv_iload_n hx hb dX4_read_25 rfl (lv_at hl 1 rfl) ?_
  refine pI hC hw fl_X4_43 fp_4_6 ok12 dX4_read_26 (fun H locs hw => ?_)
  refine lv_aload_n hx hb dX4_read_29 rfl (lv_at hl 0 rfl) ?_
  refine lv_iconst (v := (0 : Int32)) hx hb dX4_read_30 (by decide) ?_
  refine pI hC hw fl_X4_46 fp_4_9 ok12 dX4_read_31 (fun H locs hw => ?_)
  refine lv_aload_n hx hb dX4_read_34 rfl (lv_at hl 0 rfl) ?_
  obtain ⟨r35, hr35, h⟩ := bnd h
  refine cV (b := 12) (As := []) (rest := []) (st1 := []) hC hw (c_X4_step l g n (si (si (si (si r11.2 12 2 (0 : Int32)) 12 3 ((-1) : Int32)) 12 6 v1) 12 9 (0 : Int32)) r35 hr35) ml_X4_49 im_X4_step se_X4_step ok12 (CN := RX4) (T := TX4) (NF := 11) rfl rfl (by decide) rfl hl.1 ⟨Nat.le_of_ble_eq_true rfl, Nat.le_of_ble_eq_true rfl⟩ (Nat.le_of_ble_eq_true rfl) ⟨Nat.zero_le _, Nat.zero_le _⟩ rfl dX4_read_35 (fun H locs hw => ?_)
  refine lv_iconst (v := (0 : Int32)) hx hb dX4_read_38 (by decide) ?_
  refine lv_istore_n (lv' := [(2, .int (0 : Int32)), (0, .ref (g.2.2 12)), (1, .int v1)]) hx hb dX4_read_39 rfl hl (by decide) rfl (fun ls hl => ?_)
  exact B40 n (0 : Int32) r35.2 _ _ _ hw (lv_sub hl [1, 0] rfl) h
