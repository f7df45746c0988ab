set_option maxRecDepth 100000 in
set_option maxHeartbeats 4000000 in
theorem c_X7_weighLevel (l : Launch) (g : Gw) (n : Nat) (v1 : Int32) (μ : Mu) (r : Unit × Mu) (h : X7_weighLevel n v1 μ = some r) : Ct l g yX7_weighLevel cX7_weighLevel 5 none 3 [.ref (g.2.2 15), .int v1] μ none r.2 := by
  rw [X7_weighLevel] at h
  refine Ct.of (by decide) (Nat.le_of_ble_eq_true rfl) ?_
  intro p e s m args below meth c ls hC hw hr hlocks hl
  have hx := hC.1
  have hb := hC.2.1
  have hl : lv_has ls 5 [(0, .ref (g.2.2 15)), (1, .int v1)] := hl
  have B79 : ∀ (μ : Mu) (H : Heap) (locs : List Loc) (ls : Array Slot), wd g μ s (Aw g s.heap.size) H locs → lv_has ls 5 [] → X7_weighLevel_79 n v1  μ = some r → WQ p l e (rmD 3) s m args below meth c g none r.2 H locs (F0 m 79 ls []) := by
    intro μ H locs ls hw hl h
    rw [X7_weighLevel_79] at h
    exact rV hC hw hr hlocks rfl (by rw [← Option.some.inj h]) dX7_weighLevel_79
  have B4 : ∀ (k : Nat), ∀ (v2 : Int32) (v3 : Int32) (μ : Mu) (H : Heap) (locs : List Loc) (ls : Array Slot), wd g μ s (Aw g s.heap.size) H locs → lv_has ls 5 [(0, .ref (g.2.2 15)), (1, .int v1), (2, .int v2), (3, .int v3)] → lpF (fun _ _ _ => none) (X7_weighLevel_4b n v1) k v2 v3 μ = some r → WQ p l e (rmD 3) s m args below meth c g none r.2 H locs (F0 m 4 ls []) := by
    intro k
    induction k with
    | zero =>
      intro v2 v3 μ H locs ls hw hl h
      cases h
    | succ k ih4 =>
      rw [lpF_s]
      generalize lpF (fun _ _ _ => none) (X7_weighLevel_4b n v1) k = k4 at ih4 ⊢
      intro v2 v3 μ H locs ls hw hl h
      have B46 : ∀ (k : Nat), ∀ (v2 : Int32) (v3 : Int32) (v4 : Int32) (μ : Mu) (H : Heap) (locs : List Loc) (ls : Array Slot), wd g μ s (Aw g s.heap.size) H locs → lv_has ls 5 [(0, .ref (g.2.2 15)), (1, .int v1), (2, .int v2), (3, .int v3), (4, .int v4)] → lpF (fun _ _ _ _ => none) (X7_weighLevel_46b n v1 k4) k v2 v3 v4 μ = some r → WQ p l e (rmD 3) s m args below meth c g none r.2 H locs (F0 m 46 ls []) := by
        intro k
        induction k with
        | zero =>
          intro v2 v3 v4 μ H locs ls hw hl h
          cases h
        | succ k ih46 =>
          rw [lpF_s]
          generalize lpF (fun _ _ _ _ => none) (X7_weighLevel_46b n v1 k4) k = k46 at ih46 ⊢
          intro v2 v3 v4 μ H locs ls hw hl h
          rw [X7_weighLevel_46b] at h
          refine lv_iload hx hb dX7_weighLevel_46 (lv_at hl 4 rfl) ?_
          refine lv_aload_n hx hb dX7_weighLevel_48 rfl (lv_at hl 0 rfl) ?_
          refine lv_iconst (v := (1 : Int32)) hx hb dX7_weighLevel_49 (by decide) ?_
          obtain ⟨r50, hr50, h⟩ := bnd h
          refine cV (b := 15) (As := [.int (1 : Int32)]) (rest := [.int v4]) (st1 := [.int r50.1, .int v4]) hC hw (c_X7_halfOf l g n (1 : Int32) μ r50 hr50) ml_X7_72 im_X7_halfOf se_X7_halfOf ok15 (CN := RX7) (T := TX7) (NF := 13) rfl rfl (by decide) rfl hl.1 ⟨Nat.le_of_ble_eq_true rfl, Nat.le_of_ble_eq_true rfl⟩ (Nat.le_of_ble_eq_true rfl) ⟨Nat.zero_le _, Nat.zero_le _⟩ rfl dX7_weighLevel_50 (fun H locs hw => ?_)
          refine lv_icmp_gt (tgt := 73) hx hb dX7_weighLevel_53 (by decide) (fun hc => ?_) (fun hc => ?_)
          · rw [if_pos hc] at h
            refine lv_iinc (v := (v3 + (1 : Int32))) (lv' := [(3, .int (v3 + (1 : Int32))), (0, .ref (g.2.2 15)), (1, .int v1), (2, .int v2), (4, .int v4)]) hx hb dX7_weighLevel_73 hl (k := 3) rfl rfl (by decide) rfl (fun ls hl => ?_)
            refine lv_goto (tgt := 4) hx hb dX7_weighLevel_76 (by decide) ?_
            exact ih4 v2 (v3 + (1 : Int32)) r50.2 _ _ _ hw (lv_sub hl [1, 2, 3, 0] rfl) h
          · rw [if_neg hc] at h
            refine lv_iload_n hx hb dX7_weighLevel_56 rfl (lv_at hl 2 rfl) ?_
            refine lv_aload_n hx hb dX7_weighLevel_57 rfl (lv_at hl 0 rfl) ?_
            refine lv_iload hx hb dX7_weighLevel_58 (lv_at hl 4 rfl) ?_
            refine lv_iload_n hx hb dX7_weighLevel_60 rfl (lv_at hl 1 rfl) ?_
            refine lv_iload_n hx hb dX7_weighLevel_61 rfl (lv_at hl 3 rfl) ?_
            obtain ⟨r62, hr62, h⟩ := bnd h
            refine cV (b := 15) (As := [.int v4, .int v1, .int v3]) (rest := [.int v2]) (st1 := [.int r62.1, .int v2]) hC hw (c_X7_settleAll l g n v4 v1 v3 r50.2 r62 hr62) ml_X7_102 im_X7_settleAll se_X7_settleAll ok15 (CN := RX7) (T := TX7) (NF := 13) rfl rfl (by decide) rfl hl.1 ⟨Nat.le_of_ble_eq_true rfl, Nat.le_of_ble_eq_true rfl⟩ (Nat.le_of_ble_eq_true rfl) ⟨Nat.zero_le _, Nat.zero_le _⟩ rfl dX7_weighLevel_62 (fun H locs hw => ?_)
            refine lv_ior hx hb dX7_weighLevel_65 ?_
            refine lv_istore_n (lv' := [(2, .int (v2 ||| r62.1)), (0, .ref (g.2.2 15)), (1, .int v1), (3, .int v3), (4, .int v4)]) hx hb dX7_weighLevel_66 rfl hl (by decide) rfl (fun ls hl => ?_)
            refine lv_iinc (v := (v4 + (1 : Int32))) (lv' := [(4, .int (v4 + (1 : Int32))), (2, .int (v2 ||| r62.1)), (0, .ref (g.2.2 15)), (1, .int v1), (3, .int v3)]) hx hb dX7_weighLevel_67 hl (k := 4) rfl rfl (by decide) rfl (fun ls hl => ?_)
            refine lv_goto (tgt := 46) hx hb dX7_weighLevel_70 (by decide) ?_
            exact ih46 (v2 ||| r62.1) v3 (v4 + (1 : Int32)) r62.2 _ _ _ hw (lv_sub hl [2, 3, 1, 4, 0] rfl) h
      have B20 : ∀ (k : Nat), ∀ (v2 : Int32) (v3 : Int32) (v4 : Int32) (μ : Mu) (H : Heap) (locs : List Loc) (ls : Array Slot), wd g μ s (Aw g s.heap.size) H locs → lv_has ls 5 [(0, .ref (g.2.2 15)), (1, .int v1), (2, .int v2), (3, .int v3), (4, .int v4)] → lpF (fun _ _ _ _ => none) (X7_weighLevel_20b n v1 k4) k v2 v3 v4 μ = some r → WQ p l e (rmD 3) s m args below meth c g none r.2 H locs (F0 m 20 ls []) := by
        intro k
        induction k with
        | zero =>
          intro v2 v3 v4 μ H locs ls hw hl h
          cases h
        | succ k ih20 =>
          rw [lpF_s]
          generalize lpF (fun _ _ _ _ => none) (X7_weighLevel_20b n v1 k4) k = k20 at ih20 ⊢
          intro v2 v3 v4 μ H locs ls hw hl h
          rw [X7_weighLevel_20b] at h
          refine lv_iload hx hb dX7_weighLevel_20 (lv_at hl 4 rfl) ?_
          refine lv_aload_n hx hb dX7_weighLevel_22 rfl (lv_at hl 0 rfl) ?_
          refine lv_iconst (v := (1 : Int32)) hx hb dX7_weighLevel_23 (by decide) ?_
          obtain ⟨r24, hr24, h⟩ := bnd h
          refine cV (b := 15) (As := [.int (1 : Int32)]) (rest := [.int v4]) (st1 := [.int r24.1, .int v4]) hC hw (c_X7_halfOf l g n (1 : Int32) μ r24 hr24) ml_X7_72 im_X7_halfOf se_X7_halfOf ok15 (CN := RX7) (T := TX7) (NF := 13) rfl rfl (by decide) rfl hl.1 ⟨Nat.le_of_ble_eq_true rfl, Nat.le_of_ble_eq_true rfl⟩ (Nat.le_of_ble_eq_true rfl) ⟨Nat.zero_le _, Nat.zero_le _⟩ rfl dX7_weighLevel_24 (fun H locs hw => ?_)
          refine lv_icmp_gt (tgt := 43) hx hb dX7_weighLevel_27 (by decide) (fun hc => ?_) (fun hc => ?_)
          · rw [if_pos hc] at h
            refine lv_iconst (v := (0 : Int32)) hx hb dX7_weighLevel_43 (by decide) ?_
            refine lv_istore (lv' := [(4, .int (0 : Int32)), (0, .ref (g.2.2 15)), (1, .int v1), (2, .int v2), (3, .int v3)]) hx hb dX7_weighLevel_44 hl (by decide) rfl (fun ls hl => ?_)
            exact B46 n v2 v3 (0 : Int32) r24.2 _ _ _ hw (lv_sub hl [1, 2, 3, 4, 0] rfl) h
          · rw [if_neg hc] at h
            refine lv_aload_n hx hb dX7_weighLevel_30 rfl (lv_at hl 0 rfl) ?_
            refine lv_iload hx hb dX7_weighLevel_31 (lv_at hl 4 rfl) ?_
            refine lv_iload_n hx hb dX7_weighLevel_33 rfl (lv_at hl 1 rfl) ?_
            obtain ⟨r34, hr34, h⟩ := bnd h
            refine cV (b := 15) (As := [.int v4, .int v1]) (rest := []) (st1 := []) hC hw (c_X7_weighAll l g n v4 v1 r24.2 r34 hr34) ml_X7_98 im_X7_weighAll se_X7_weighAll ok15 (CN := RX7) (T := TX7) (NF := 13) rfl rfl (by decide) rfl hl.1 ⟨Nat.le_of_ble_eq_true rfl, Nat.le_of_ble_eq_true rfl⟩ (Nat.le_of_ble_eq_true rfl) ⟨Nat.zero_le _, Nat.zero_le _⟩ rfl dX7_weighLevel_34 (fun H locs hw => ?_)
            refine lv_iinc (v := (v4 + (1 : Int32))) (lv' := [(4, .int (v4 + (1 : Int32))), (0, .ref (g.2.2 15)), (1, .int v1), (2, .int v2), (3, .int v3)]) hx hb dX7_weighLevel_37 hl (k := 4) rfl rfl (by decide) rfl (fun ls hl => ?_)
            refine lv_goto (tgt := 20) hx hb dX7_weighLevel_40 (by decide) ?_
            exact ih20 v2 v3 (v4 + (1 : Int32)) r34.2 _ _ _ hw (lv_sub hl [1, 2, 3, 4, 0] rfl) h
      rw [X7_weighLevel_4b] at h
      refine lv_iload_n hx hb dX7_weighLevel_4 rfl (lv_at hl 2 rfl) ?_
      refine lv_if_eq (tgt := 79) hx hb dX7_weighLevel_5 (by decide) (fun hc => ?_) (fun hc => ?_)
      · rw [if_pos hc] at h
        exact B79 μ _ _ _ hw (lv_sub hl [] rfl) h
      · rw [if_neg hc] at h
        refine lv_iload_n hx hb dX7_weighLevel_8 rfl (lv_at hl 3 rfl) ?_
        refine lv_sipush (v := (6007 : Int32)) hx hb dX7_weighLevel_9 (by decide) ?_
        refine lv_icmp_gt (tgt := 79) hx hb dX7_weighLevel_12 (by decide) (fun hc => ?_) (fun hc => ?_)
        · rw [if_pos hc] at h
          exact B79 μ _ _ _ hw (lv_sub hl [] rfl) h
        · rw [if_neg hc] at h
          refine lv_iconst (v := (0 : Int32)) hx hb dX7_weighLevel_15 (by decide) ?_
          refine lv_istore_n (lv' := [(2, .int (0 : Int32)), (0, .ref (g.2.2 15)), (1, .int v1), (3, .int v3)]) hx hb dX7_weighLevel_16 rfl hl (by decide) rfl (fun ls hl => ?_)
          refine lv_iconst (v := (0 : Int32)) hx hb dX7_weighLevel_17 (by decide) ?_
          refine lv_istore (lv' := [(4, .int (0 : Int32)), (2, .int (0 : Int32)), (0, .ref (g.2.2 15)), (1, .int v1), (3, .int v3)]) hx hb dX7_weighLevel_18 hl (by decide) rfl (fun ls hl => ?_)
          exact B20 n (0 : Int32) v3 (0 : Int32) μ _ _ _ hw (lv_sub hl [2, 3, 1, 4, 0] rfl) h
  refine lv_iconst (v := (1 : Int32)) hx hb dX7_weighLevel_0 (by decide) ?_
  refine lv_istore_n (lv' := [(2, .int (1 : Int32)), (0, .ref (g.2.2 15)), (1, .int v1)]) hx hb dX7_weighLevel_1 rfl hl (by decide) rfl (fun ls hl => ?_)
  refine lv_iconst (v := (1 : Int32)) hx hb dX7_weighLevel_2 (by decide) ?_
  refine lv_istore_n (lv' := [(3, .int (1 : Int32)), (2, .int (1 : Int32)), (0, .ref (g.2.2 15)), (1, .int v1)]) hx hb dX7_weighLevel_3 rfl hl (by decide) rfl (fun ls hl => ?_)
  exact B4 n (1 : Int32) (1 : Int32) μ _ _ _ hw (lv_sub hl [2, 3, 1, 0] rfl) h
set_option maxRecDepth 100000 in
set_option maxHeartbeats 4000000 in
theorem c_X7_rankAt (l : Launch) (g : Gw) (n : Nat) (v1 : Nat) (μ : Mu) (r : Int32 × Mu) (h : X7_rankAt n v1 μ = some r) : Ct l g yX7_rankAt cX7_rankAt 2 (some .int) 3 [.ref (g.2.2 15), .ref (g.2.2 v1)] μ (some (.int r.1)) r.2 := by
  rw [X7_rankAt] at h
  obtain ⟨hk1, h⟩ := kd_some h
  refine Ct.of (by decide) (Nat.le_of_ble_eq_true rfl) ?_
  intro p e s m args below meth c ls hC hw hr hlocks hl
  have hx := hC.1
  have hb := hC.2.1
  have hl : lv_has ls 2 [(0, .ref (g.2.2 15)), (1, .ref (g.2.2 v1))] := hl
  refine lv_aload_n hx hb dX7_rankAt_0 rfl (lv_at hl 0 rfl) ?_
  refine lv_aload_n hx hb dX7_rankAt_1 rfl (lv_at hl 0 rfl) ?_
  refine lv_aload_n hx hb dX7_rankAt_2 rfl (lv_at hl 1 rfl) ?_
  refine lv_aload_n hx hb dX7_rankAt_3 rfl (lv_at hl 1 rfl) ?_
  obtain ⟨r4, hr4, h⟩ := bnd h
  refine cV (b := v1) (As := []) (rest := [.ref (g.2.2 v1), .ref (g.2.2 15), .ref (g.2.2 15)]) (st1 := [.int r4.1, .ref (g.2.2 v1), .ref (g.2.2 15), .ref (g.2.2 15)]) hC hw (c_X6_inPits l g n v1 μ r4 hr4) ml_X7_145 im_X6_inPits se_X6_inPits hk1 (CN := RX6) (T := TX6) (NF := 2) rfl rfl (by decide) rfl hl.1 ⟨Nat.le_of_ble_eq_true rfl, Nat.le_of_ble_eq_true rfl⟩ (Nat.le_of_ble_eq_true rfl) ⟨Nat.zero_le _, Nat.zero_le _⟩ rfl dX7_rankAt_4 (fun H locs hw => ?_)
  obtain ⟨r7, hr7, h⟩ := bnd h
  refine cV (b := 15) (As := [.ref (g.2.2 v1), .int r4.1]) (rest := [.ref (g.2.2 15)]) (st1 := [.int r7.1, .ref (g.2.2 15)]) hC hw (c_X7_indexAt l g n v1 r4.1 r4.2 r7 hr7) ml_X7_137 im_X7_indexAt se_X7_indexAt ok15 (CN := RX7) (T := TX7) (NF := 13) rfl rfl (by decide) rfl hl.1 ⟨Nat.le_of_ble_eq_true rfl, Nat.le_of_ble_eq_true rfl⟩ (Nat.le_of_ble_eq_true rfl) ⟨Nat.zero_le _, Nat.zero_le _⟩ rfl dX7_rankAt_7 (fun H locs hw => ?_)
  obtain ⟨r10, hr10, h⟩ := bnd h
  refine cV (b := 15) (As := [.int r7.1]) (rest := []) (st1 := [.int r10.1]) hC hw (c_X7_rankOf l g n r7.1 r7.2 r10 hr10) ml_X7_148 im_X7_rankOf se_X7_rankOf ok15 (CN := RX7) (T := TX7) (NF := 13) rfl rfl (by decide) rfl hl.1 ⟨Nat.le_of_ble_eq_true rfl, Nat.le_of_ble_eq_true rfl⟩ (Nat.le_of_ble_eq_true rfl) ⟨Nat.zero_le _, Nat.zero_le _⟩ rfl dX7_rankAt_10 (fun H locs hw => ?_)
  exact rI hC hw hr hlocks (by rw [← Option.some.inj h]) (by rw [← Option.some.inj h]) dX7_rankAt_13
set_option maxRecDepth 100000 in
set_option maxHeartbeats 4000000 in
theorem c_X8_sow (l : Launch) (g : Gw) (n : Nat) (v1 : Nat) (v2 : Int32) (μ : Mu) (r : Int32 × Mu) (h : X8_sow n v1 v2 μ = some r) : Ct l g yX8_sow cX8_sow 6 (some .boolean) 2 [.ref (g.2.2 6), .ref (g.2.2 v1), .int v2] μ (some (.int r.1)) r.2 := by
  rw [X8_sow] at h
  obtain ⟨hk1, h⟩ := kd_some h
  refine Ct.of (by decide) (Nat.le_of_ble_eq_true rfl) ?_
  intro p e s m args below meth c ls hC hw hr hlocks hl
  have hx := hC.1
  have hb := hC.2.1
  have hl : lv_has ls 6 [(0, .ref (g.2.2 6)), (1, .ref (g.2.2 v1)), (2, .int v2)] := hl
  have B207 : ∀ (s1 : Int32) (μ : Mu) (H : Heap) (locs : List Loc) (ls : Array Slot), wd g μ s (Aw g s.heap.size) H locs → lv_has ls 6 [] → X8_sow_207 n v1 v2 s1 μ = some r → WQ p l e (rmD 2) s m args below meth c g (some (.int r.1)) r.2 H locs (F0 m 207 ls [.int s1, .ref (g.2.2 v1)]) := by
    intro s1 μ H locs ls hw hl h
    rw [X8_sow_207] at h
    refine pI hC hw fl_X8_30 fp_6_1 hk1 dX8_sow_207 (fun H locs hw => ?_)
    refine lv_iconst (v := (1 : Int32)) hx hb dX8_sow_210 (by decide) ?_
    exact rZ hC hw hr hlocks (Or.inr rfl) (by rw [← Option.some.inj h]) (by rw [← Option.some.inj h]) dX8_sow_211
  have B201 : ∀ (μ : Mu) (H : Heap) (locs : List Loc) (ls : Array Slot), wd g μ s (Aw g s.heap.size) H locs → lv_has ls 6 [(1, .ref (g.2.2 v1))] → X8_sow_201 n v1 v2  μ = some r → WQ p l e (rmD 2) s m args below meth c g (some (.int r.1)) r.2 H locs (F0 m 201 ls [.ref (g.2.2 v1)]) := by
    intro μ H locs ls hw hl h
    rw [X8_sow_201] at h
    refine lv_iconst (v := (1 : Int32)) hx hb dX8_sow_201 (by decide) ?_
    refine lv_aload_n hx hb dX8_sow_202 rfl (lv_at hl 0 rfl) ?_
    refine gI hC hw fl_X8_30 hk1 (by decide) dX8_sow_203 ?_
    refine lv_isub hx hb dX8_sow_206 ?_
    exact B207 ((1 : Int32) - (μ.1 v1 1)) μ _ _ _ hw (lv_sub hl [] rfl) h
  have B152 : ∀ (v4 : Int32) (s1 : Int32) (μ : Mu) (H : Heap) (locs : List Loc) (ls : Array Slot), wd g μ s (Aw g s.heap.size) H locs → lv_has ls 6 [(0, .ref (g.2.2 6)), (1, .ref (g.2.2 v1)), (4, .int v4)] → X8_sow_152 n v1 v2 v4 s1 μ = some r → WQ p l e (rmD 2) s m args below meth c g (some (.int r.1)) r.2 H locs (F0 m 152 ls [.int s1, .ref (g.2.2 6)]) := by
    intro v4 s1 μ H locs ls hw hl h
    rw [X8_sow_152] at h
    refine pI hC hw fl_X8_79 fp_8_2 ok6 dX8_sow_152 (fun H locs hw => ?_)
    refine lv_aload_n hx hb dX8_sow_155 rfl (lv_at hl 0 rfl) ?_
    refine lv_aload_n hx hb dX8_sow_156 rfl (lv_at hl 1 rfl) ?_
    refine gR (t := (v1 + 1)) hC hw fl_X8_43 hk1 (by decide) (sc_T hk1) dX8_sow_157 ?_
    refine lv_bipush (v := (12 : Int32)) hx hb dX8_sow_160 (by decide) ?_
    refine lv_aload_n hx hb dX8_sow_162 rfl (lv_at hl 1 rfl) ?_
    refine gI hC hw fl_X8_30 hk1 (by decide) dX8_sow_163 ?_
    refine lv_iadd hx hb dX8_sow_166 ?_
    obtain ⟨hi167, h⟩ := gd_some h
    refine lI (j := ((12 : Int32) + ((si μ 6 2 s1).1 v1 1)).toNatClampNeg) hC hw (sc_K hk1) (sc_N hk1) hi167 rfl dX8_sow_167 ?_
    refine lv_iload hx hb dX8_sow_168 (lv_at hl 2 rfl) ?_
    refine lv_isub hx hb dX8_sow_170 ?_
    refine pI hC hw fl_X8_82 fp_8_3 ok6 dX8_sow_171 (fun H locs hw => ?_)
    refine lv_aload_n hx hb dX8_sow_174 rfl (lv_at hl 1 rfl) ?_
    refine lv_aload_n hx hb dX8_sow_175 rfl (lv_at hl 0 rfl) ?_
    refine gR (t := 1) hC hw fl_X8_21 ok6 (by decide) ot6_6 dX8_sow_176 ?_
    refine gI hC hw fl_X8_85 ok1 (by decide) dX8_sow_179 ?_
    refine lv_if_eq (tgt := 201) hx hb dX8_sow_182 (by decide) (fun hc => ?_) (fun hc => ?_)
    · rw [if_pos hc] at h
      exact B201 (si (si μ 6 2 s1) 6 3 (((si μ 6 2 s1).1 (v1 + 1) ((12 : Int32) + ((si μ 6 2 s1).1 v1 1)).toNatClampNeg) - v4)) _ _ _ hw (lv_sub hl [1] rfl) h
    · rw [if_neg hc] at h
      refine lv_aload_n hx hb dX8_sow_185 rfl (lv_at hl 0 rfl) ?_
      refine gI hC hw fl_X8_62 ok6 (by decide) dX8_sow_186 ?_
      refine lv_bipush (v := (12 : Int32)) hx hb dX8_sow_189 (by decide) ?_
      refine lv_icmp_lt (tgt := 201) hx hb dX8_sow_191 (by decide) (fun hc => ?_) (fun hc => ?_)
      · rw [if_pos hc] at h
        exact B201 (si (si μ 6 2 s1) 6 3 (((si μ 6 2 s1).1 (v1 + 1) ((12 : Int32) + ((si μ 6 2 s1).1 v1 1)).toNatClampNeg) - v4)) _ _ _ hw (lv_sub hl [1] rfl) h
      · rw [if_neg hc] at h
        refine lv_aload_n hx hb dX8_sow_194 rfl (lv_at hl 1 rfl) ?_
        refine gI hC hw fl_X8_30 hk1 (by decide) dX8_sow_195 ?_
        refine lv_goto (tgt := 207) hx hb dX8_sow_198 (by decide) ?_
        exact B207 ((si (si μ 6 2 s1) 6 3 (((si μ 6 2 s1).1 (v1 + 1) ((12 : Int32) + ((si μ 6 2 s1).1 v1 1)).toNatClampNeg) - v4)).1 v1 1) (si (si μ 6 2 s1) 6 3 (((si μ 6 2 s1).1 (v1 + 1) ((12 : Int32) + ((si μ 6 2 s1).1 v1 1)).toNatClampNeg) - v4)) _ _ _ hw (lv_sub hl [] rfl) h
  have B106 : ∀ (v4 : Int32) (v5 : Int32) (μ : Mu) (H : Heap) (locs : List Loc) (ls : Array Slot), wd g μ s (Aw g s.heap.size) H locs → lv_has ls 6 [(0, .ref (g.2.2 6)), (1, .ref (g.2.2 v1)), (4, .int v4), (5, .int v5)] → X8_sow_106 n v1 v2 v4 v5 μ = some r → WQ p l e (rmD 2) s m args below meth c g (some (.int r.1)) r.2 H locs (F0 m 106 ls []) := by
    intro v4 v5 μ H locs ls hw hl h
    rw [X8_sow_106] at h
    refine lv_aload_n hx hb dX8_sow_106 rfl (lv_at hl 0 rfl) ?_
    refine lv_iload hx hb dX8_sow_107 (lv_at hl 3 rfl) ?_
    refine pI hC hw fl_X8_65 fp_8_1 ok6 dX8_sow_109 (fun H locs hw => ?_)
    refine lv_aload_n hx hb dX8_sow_112 rfl (lv_at hl 0 rfl) ?_
    refine lv_aload_n hx hb dX8_sow_113 rfl (lv_at hl 0 rfl) ?_
    refine gI hC hw fl_X8_62 ok6 (by decide) dX8_sow_114 ?_
    refine lv_bipush (v := (12 : Int32)) hx hb dX8_sow_117 (by decide) ?_
    refine lv_icmp_lt (tgt := 126) hx hb dX8_sow_119 (by decide) (fun hc => ?_) (fun hc => ?_)
    · rw [if_pos hc] at h
      refine lv_aload_n hx hb dX8_sow_126 rfl (lv_at hl 0 rfl) ?_
      refine lv_aload_n hx hb dX8_sow_127 rfl (lv_at hl 1 rfl) ?_
      refine lv_aload_n hx hb dX8_sow_128 rfl (lv_at hl 0 rfl) ?_
      refine gI hC hw fl_X8_62 ok6 (by decide) dX8_sow_129 ?_
      refine lv_i2l hx hb dX8_sow_132 rfl ?_
      obtain ⟨r133, hr133, h⟩ := bnd h
      refine cV (b := 6) (As := [.ref (g.2.2 v1), .long (((si μ 6 1 v5).1 6 0).toInt64)]) (rest := [.ref (g.2.2 6)]) (st1 := [.int r133.1, .ref (g.2.2 6)]) hC hw (c_X8_isOwn l g n v1 (((si μ 6 1 v5).1 6 0).toInt64) (si μ 6 1 v5) r133 hr133) ml_X8_68 im_X8_isOwn se_X8_isOwn ok6 (CN := RX8) (T := TX8) (NF := 8) rfl rfl (by decide) rfl hl.1 ⟨Nat.le_of_ble_eq_true rfl, Nat.le_of_ble_eq_true rfl⟩ (Nat.le_of_ble_eq_true rfl) ⟨Nat.zero_le _, Nat.zero_le _⟩ rfl dX8_sow_133 (fun H locs hw => ?_)
      refine lv_if_eq (tgt := 147) hx hb dX8_sow_136 (by decide) (fun hc => ?_) (fun hc => ?_)
      · rw [if_pos hc] at h
        refine lv_aload_n hx hb dX8_sow_147 rfl (lv_at hl 0 rfl) ?_
        refine lv_aload_n hx hb dX8_sow_148 rfl (lv_at hl 1 rfl) ?_
        obtain ⟨r149, hr149, h⟩ := bnd h
        refine cV (b := 6) (As := [.ref (g.2.2 v1)]) (rest := [.ref (g.2.2 6)]) (st1 := [.int r149.1, .ref (g.2.2 6)]) hC hw (c_X8_takeGrand l g n v1 r133.2 r149 hr149) ml_X8_76 im_X8_takeGrand se_X8_takeGrand ok6 (CN := RX8) (T := TX8) (NF := 8) rfl rfl (by decide) rfl hl.1 ⟨Nat.le_of_ble_eq_true rfl, Nat.le_of_ble_eq_true rfl⟩ (Nat.le_of_ble_eq_true rfl) ⟨Nat.zero_le _, Nat.zero_le _⟩ rfl dX8_sow_149 (fun H locs hw => ?_)
        exact B152 v4 r149.1 r149.2 _ _ _ hw (lv_sub hl [0, 1, 2] rfl) h
      · rw [if_neg hc] at h
        refine lv_aload_n hx hb dX8_sow_139 rfl (lv_at hl 0 rfl) ?_
        refine lv_aload_n hx hb dX8_sow_140 rfl (lv_at hl 1 rfl) ?_
        obtain ⟨r141, hr141, h⟩ := bnd h
        refine cV (b := 6) (As := [.ref (g.2.2 v1)]) (rest := [.ref (g.2.2 6)]) (st1 := [.int r141.1, .ref (g.2.2 6)]) hC hw (c_X8_takeOpposite l g n v1 r133.2 r141 hr141) ml_X8_72 im_X8_takeOpposite se_X8_takeOpposite ok6 (CN := RX8) (T := TX8) (NF := 8) rfl rfl (by decide) rfl hl.1 ⟨Nat.le_of_ble_eq_true rfl, Nat.le_of_ble_eq_true rfl⟩ (Nat.le_of_ble_eq_true rfl) ⟨Nat.zero_le _, Nat.zero_le _⟩ rfl dX8_sow_141 (fun H locs hw => ?_)
        refine lv_goto (tgt := 152) hx hb dX8_sow_144 (by decide) ?_
        exact B152 v4 r141.1 r141.2 _ _ _ hw (lv_sub hl [0, 1, 2] rfl) h
    · rw [if_neg hc] at h
      refine lv_iconst (v := (0 : Int32)) hx hb dX8_sow_122 (by decide) ?_
      refine lv_goto (tgt := 152) hx hb dX8_sow_123 (by decide) ?_
      exact B152 v4 (0 : Int32) (si μ 6 1 v5) _ _ _ hw (lv_sub hl [0, 1, 2] rfl) h
  have B19 : ∀ (k : Nat), ∀ (v3 : Int32) (v4 : Int32) (v5 : Int32) (μ : Mu) (H : Heap) (locs : List Loc) (ls : Array Slot), wd g μ s (Aw g s.heap.size) H locs → lv_has ls 6 [(0, .ref (g.2.2 6)), (1, .ref (g.2.2 v1)), (3, .int v3), (4, .int v4), (5, .int v5)] → lpF (fun _ _ _ _ => none) (X8_sow_19b n v1 v2) k v3 v4 v5 μ = some r → WQ p l e (rmD 2) s m args below meth c g (some (.int r.1)) r.2 H locs (F0 m 19 ls []) := by
    intro k
    induction k with
    | zero =>
      intro v3 v4 v5 μ H locs ls hw hl h
      cases h
    | succ k ih19 =>
      rw [lpF_s]
      generalize lpF (fun _ _ _ _ => none) (X8_sow_19b n v1 v2) k = k19 at ih19 ⊢
      intro v3 v4 v5 μ H locs ls hw hl h
      have B64 : ∀ (v3 : Int32) (v4 : Int32) (v5 : Int32) (μ : Mu) (H : Heap) (locs : List Loc) (ls : Array Slot), wd g μ s (Aw g s.heap.size) H locs → lv_has ls 6 [(0, .ref (g.2.2 6)), (1, .ref (g.2.2 v1)), (3, .int v3), (4, .int v4), (5, .int v5)] → X8_sow_64 n v1 v2 k19 v3 v4 v5 μ = some r → WQ p l e (rmD 2) s m args below meth c g (some (.int r.1)) r.2 H locs (F0 m 64 ls []) := by
        intro v3 v4 v5 μ H locs ls hw hl h
        rw [X8_sow_64] at h
        refine lv_aload_n hx hb dX8_sow_64 rfl (lv_at hl 0 rfl) ?_
        refine lv_aload_n hx hb dX8_sow_65 rfl (lv_at hl 0 rfl) ?_
        refine lv_aload_n hx hb dX8_sow_66 rfl (lv_at hl 1 rfl) ?_
        refine lv_iload_n hx hb dX8_sow_67 rfl (lv_at hl 2 rfl) ?_
        obtain ⟨r68, hr68, h⟩ := bnd h
        refine cV (b := 6) (As := [.ref (g.2.2 v1), .int v3]) (rest := [.ref (g.2.2 6)]) (st1 := [.int r68.1, .ref (g.2.2 6)]) hC hw (c_X8_scatter l g n v1 v3 μ r68 hr68) ml_X8_58 im_X8_scatter se_X8_scatter ok6 (CN := RX8) (T := TX8) (NF := 8) rfl rfl (by decide) rfl hl.1 ⟨Nat.le_of_ble_eq_true rfl, Nat.le_of_ble_eq_true rfl⟩ (Nat.le_of_ble_eq_true rfl) ⟨Nat.zero_le _, Nat.zero_le _⟩ rfl dX8_sow_68 (fun H locs hw => ?_)
        refine pI hC hw fl_X8_62 fp_8_0 ok6 dX8_sow_71 (fun H locs hw => ?_)
        refine lv_aload_n hx hb dX8_sow_74 rfl (lv_at hl 0 rfl) ?_
        refine gR (t := 1) hC hw fl_X8_21 ok6 (by decide) ot6_6 dX8_sow_75 ?_
        refine gI hC hw fl_X8_46 ok1 (by decide) dX8_sow_78 ?_
        refine lv_if_eq (tgt := 106) hx hb dX8_sow_81 (by decide) (fun hc => ?_) (fun hc => ?_)
        · rw [if_pos hc] at h
          exact B106 v4 v5 (si r68.2 6 0 r68.1) _ _ _ hw (lv_sub hl [0, 1, 3, 4] rfl) h
        · rw [if_neg hc] at h
          refine lv_aload_n hx hb dX8_sow_84 rfl (lv_at hl 0 rfl) ?_
          refine gI hC hw fl_X8_62 ok6 (by decide) dX8_sow_85 ?_
          refine lv_bipush (v := (12 : Int32)) hx hb dX8_sow_88 (by decide) ?_
          refine lv_icmp_ge (tgt := 106) hx hb dX8_sow_90 (by decide) (fun hc => ?_) (fun hc => ?_)
          · rw [if_pos hc] at h
            exact B106 v4 v5 (si r68.2 6 0 r68.1) _ _ _ hw (lv_sub hl [0, 1, 3, 4] rfl) h
          · rw [if_neg hc] at h
            refine lv_aload_n hx hb dX8_sow_93 rfl (lv_at hl 1 rfl) ?_
            refine gR (t := (v1 + 1)) hC hw fl_X8_43 hk1 (by decide) (sc_T hk1) dX8_sow_94 ?_
            refine lv_aload_n hx hb dX8_sow_97 rfl (lv_at hl 0 rfl) ?_
            refine gI hC hw fl_X8_62 ok6 (by decide) dX8_sow_98 ?_
            obtain ⟨hi101, h⟩ := gd_some h
            refine lI (j := ((si r68.2 6 0 r68.1).1 6 0).toNatClampNeg) hC hw (sc_K hk1) (sc_N hk1) hi101 rfl dX8_sow_101 ?_
            refine lv_iconst (v := (1 : Int32)) hx hb dX8_sow_102 (by decide) ?_
            refine lv_icmp_ne (tgt := 212) hx hb dX8_sow_103 (by decide) (fun hc => ?_) (fun hc => ?_)
            · rw [if_neg hc] at h
              refine lv_aload_n hx hb dX8_sow_212 rfl (lv_at hl 0 rfl) ?_
              refine gI hC hw fl_X8_62 ok6 (by decide) dX8_sow_213 ?_
              refine lv_istore_n (lv' := [(3, .int ((si r68.2 6 0 r68.1).1 6 0)), (0, .ref (g.2.2 6)), (1, .ref (g.2.2 v1)), (4, .int v4), (5, .int v5)]) hx hb dX8_sow_216 rfl hl (by decide) rfl (fun ls hl => ?_)
              refine lv_iinc (v := (v5 + (1 : Int32))) (lv' := [(5, .int (v5 + (1 : Int32))), (3, .int ((si r68.2 6 0 r68.1).1 6 0)), (0, .ref (g.2.2 6)), (1, .ref (g.2.2 v1)), (4, .int v4)]) hx hb dX8_sow_217 hl (k := 4) rfl rfl (by decide) rfl (fun ls hl => ?_)
              refine lv_goto (tgt := 19) hx hb dX8_sow_220 (by decide) ?_
              exact ih19 ((si r68.2 6 0 r68.1).1 6 0) v4 (v5 + (1 : Int32)) (si r68.2 6 0 r68.1) _ _ _ hw (lv_sub hl [2, 3, 1, 4, 0] rfl) h
            · rw [if_pos hc] at h
              exact B106 v4 v5 (si r68.2 6 0 r68.1) _ _ _ hw (lv_sub hl [0, 1, 3, 4] rfl) h
      rw [X8_sow_19b] at h
      refine lv_iload hx hb dX8_sow_19 (lv_at hl 4 rfl) ?_
      refine lv_aload_n hx hb dX8_sow_21 rfl (lv_at hl 0 rfl) ?_
      refine gR (t := 1) hC hw fl_X8_21 ok6 (by decide) ot6_6 dX8_sow_22 ?_
      refine gI hC hw fl_X8_46 ok1 (by decide) dX8_sow_25 ?_
      refine lv_icmp_gt (tgt := 223) hx hb dX8_sow_28 (by decide) (fun hc => ?_) (fun hc => ?_)
      · rw [if_pos hc] at h
        refine lv_iconst (v := (0 : Int32)) hx hb dX8_sow_223 (by decide) ?_
        exact rZ hC hw hr hlocks (Or.inl rfl) (by rw [← Option.some.inj h]) (by rw [← Option.some.inj h]) dX8_sow_224
      · rw [if_neg hc] at h
        refine lv_aload_n hx hb dX8_sow_31 rfl (lv_at hl 0 rfl) ?_
        refine gR (t := 1) hC hw fl_X8_21 ok6 (by decide) ot6_6 dX8_sow_32 ?_
        refine gI hC hw fl_X8_49 ok1 (by decide) dX8_sow_35 ?_
        refine lv_if_eq (tgt := 64) hx hb dX8_sow_38 (by decide) (fun hc => ?_) (fun hc => ?_)
        · rw [if_pos hc] at h
          exact B64 v3 v4 v5 μ _ _ _ hw (lv_sub hl [0, 1, 2, 3, 4] rfl) h
        · rw [if_neg hc] at h
          refine lv_aload_n hx hb dX8_sow_41 rfl (lv_at hl 0 rfl) ?_
          refine gR (t := 2) hC hw fl_X8_25 ok6 (by decide) ot6_7 dX8_sow_42 ?_
          refine gR (t := 3) hC hw fl_X8_53 ok2 (by decide) ot2_0 dX8_sow_45 ?_
          refine lv_aload_n hx hb dX8_sow_48 rfl (lv_at hl 1 rfl) ?_
          refine gI hC hw fl_X8_30 hk1 (by decide) dX8_sow_49 ?_
          refine lv_bipush (v := (14 : Int32)) hx hb dX8_sow_52 (by decide) ?_
          refine lv_imul hx hb dX8_sow_54 ?_
          refine lv_iload_n hx hb dX8_sow_55 rfl (lv_at hl 2 rfl) ?_
          refine lv_iadd hx hb dX8_sow_56 ?_
          obtain ⟨hi57, h⟩ := gd_some h
          refine lI (j := (((μ.1 v1 1) * (14 : Int32)) + v3).toNatClampNeg) hC hw ok3 on3 hi57 rfl dX8_sow_57 ?_
          refine lv_iload_n hx hb dX8_sow_58 rfl (lv_at hl 2 rfl) ?_
          refine lv_icmp_ne (tgt := 64) hx hb dX8_sow_59 (by decide) (fun hc => ?_) (fun hc => ?_)
          · rw [if_neg hc] at h
            exact B64 v3 v4 v5 μ _ _ _ hw (lv_sub hl [0, 1, 2, 3, 4] rfl) h
          · rw [if_pos hc] at h
            refine lv_iconst (v := (0 : Int32)) hx hb dX8_sow_62 (by decide) ?_
            exact rZ hC hw hr hlocks (Or.inl rfl) (by rw [← Option.some.inj h]) (by rw [← Option.some.inj h]) dX8_sow_63
  refine lv_iload_n hx hb dX8_sow_0 rfl (lv_at hl 2 rfl) ?_
  refine lv_istore_n (lv' := [(3, .int v2), (0, .ref (g.2.2 6)), (1, .ref (g.2.2 v1)), (2, .int v2)]) hx hb dX8_sow_1 rfl hl (by decide) rfl (fun ls hl => ?_)
  refine lv_aload_n hx hb dX8_sow_2 rfl (lv_at hl 2 rfl) ?_
  refine gR (t := (v1 + 1)) hC hw fl_X8_43 hk1 (by decide) (sc_T hk1) dX8_sow_3 ?_
  refine lv_bipush (v := (12 : Int32)) hx hb dX8_sow_6 (by decide) ?_
  refine lv_aload_n hx hb dX8_sow_8 rfl (lv_at hl 2 rfl) ?_
  refine gI hC hw fl_X8_30 hk1 (by decide) dX8_sow_9 ?_
  refine lv_iadd hx hb dX8_sow_12 ?_
  obtain ⟨hi13, h⟩ := gd_some h
  refine lI (j := ((12 : Int32) + (μ.1 v1 1)).toNatClampNeg) hC hw (sc_K hk1) (sc_N hk1) hi13 rfl dX8_sow_13 ?_
  refine lv_istore (lv' := [(4, .int (μ.1 (v1 + 1) ((12 : Int32) + (μ.1 v1 1)).toNatClampNeg)), (3, .int v2), (0, .ref (g.2.2 6)), (1, .ref (g.2.2 v1)), (2, .int v2)]) hx hb dX8_sow_14 hl (by decide) rfl (fun ls hl => ?_)
  refine lv_iconst (v := (0 : Int32)) hx hb dX8_sow_16 (by decide) ?_
  refine lv_istore (lv' := [(5, .int (0 : Int32)), (4, .int (μ.1 (v1 + 1) ((12 : Int32) + (μ.1 v1 1)).toNatClampNeg)), (3, .int v2), (0, .ref (g.2.2 6)), (1, .ref (g.2.2 v1)), (2, .int v2)]) hx hb dX8_sow_17 hl (by decide) rfl (fun ls hl => ?_)
  exact B19 n v2 (μ.1 (v1 + 1) ((12 : Int32) + (μ.1 v1 1)).toNatClampNeg) (0 : Int32) μ _ _ _ hw (lv_sub hl [3, 4, 2, 1, 0] rfl) h
set_option maxRecDepth 100000 in
set_option maxHeartbeats 4000000 in
theorem c_X8_tryAll (l : Launch) (g : Gw) (n : Nat) (v1 : Nat) (μ : Mu) (r : Int32 × Mu) (h : X8_tryAll n v1 μ = some r) : Ct l g yX8_tryAll cX8_tryAll 6 (some .int) 3 [.ref (g.2.2 6), .ref (g.2.2 v1)] μ (some (.int r.1)) r.2 := by
  rw [X8_tryAll] at h
  obtain ⟨hk1, h⟩ := kd_some h
  refine Ct.of (by decide) (Nat.le_of_ble_eq_true rfl) ?_
  intro p e s m args below meth c ls hC hw hr hlocks hl
  have hx := hC.1
  have hb := hC.2.1
  have hl : lv_has ls 6 [(0, .ref (g.2.2 6)), (1, .ref (g.2.2 v1))] := hl
  have B161 : ∀ (s0 : Int32) (μ : Mu) (H : Heap) (locs : List Loc) (ls : Array Slot), wd g μ s (Aw g s.heap.size) H locs → lv_has ls 6 [] → X8_tryAll_161 n v1 s0 μ = some r → WQ p l e (rmD 3) s m args below meth c g (some (.int r.1)) r.2 H locs (F0 m 161 ls [.int s0]) := by
    intro s0 μ H locs ls hw hl h
    rw [X8_tryAll_161] at h
    exact rI hC hw hr hlocks (by rw [← Option.some.inj h]) (by rw [← Option.some.inj h]) dX8_tryAll_161
  have B160 : ∀ (v3 : Int32) (μ : Mu) (H : Heap) (locs : List Loc) (ls : Array Slot), wd g μ s (Aw g s.heap.size) H locs → lv_has ls 6 [(3, .int v3)] → X8_tryAll_160 n v1 v3 μ = some r → WQ p l e (rmD 3) s m args below meth c g (some (.int r.1)) r.2 H locs (F0 m 160 ls []) := by
    intro v3 μ H locs ls hw hl h
    rw [X8_tryAll_160] at h
    refine lv_iload_n hx hb dX8_tryAll_160 rfl (lv_at hl 0 rfl) ?_
    exact B161 v3 μ _ _ _ hw (lv_sub hl [] rfl) h
  have B21 : ∀ (k : Nat), ∀ (v2 : Int32) (v3 : Int32) (v4 : Int32) (v5 : Int32) (μ : Mu) (H : Heap) (locs : List Loc) (ls : Array Slot), wd g μ s (Aw g s.heap.size) H locs → lv_has ls 6 [(0, .ref (g.2.2 6)), (1, .ref (g.2.2 v1)), (2, .int v2), (3, .int v3), (4, .int v4), (5, .int v5)] → lpF (fun _ _ _ _ _ => none) (X8_tryAll_21b n v1) k v2 v3 v4 v5 μ = some r → WQ p l e (rmD 3) s m args below meth c g (some (.int r.1)) r.2 H locs (F0 m 21 ls []) := by
    intro k
    induction k with
    | zero =>
      intro v2 v3 v4 v5 μ H locs ls hw hl h
      cases h
    | succ k ih21 =>
      rw [lpF_s]
      generalize lpF (fun _ _ _ _ _ => none) (X8_tryAll_21b n v1) k = k21 at ih21 ⊢
      intro v2 v3 v4 v5 μ H locs ls hw hl h
      have B134 : ∀ (v2 : Int32) (v3 : Int32) (v4 : Int32) (v5 : Int32) (μ : Mu) (H : Heap) (locs : List Loc) (ls : Array Slot), wd g μ s (Aw g s.heap.size) H locs → lv_has ls 6 [(0, .ref (g.2.2 6)), (1, .ref (g.2.2 v1)), (2, .int v2), (3, .int v3), (4, .int v4), (5, .int v5)] → X8_tryAll_134 n v1 k21 v2 v3 v4 v5 μ = some r → WQ p l e (rmD 3) s m args below meth c g (some (.int r.1)) r.2 H locs (F0 m 134 ls []) := by
        intro v2 v3 v4 v5 μ H locs ls hw hl h
        rw [X8_tryAll_134] at h
        refine lv_iinc (v := (v5 + (1 : Int32))) (lv' := [(5, .int (v5 + (1 : Int32))), (0, .ref (g.2.2 6)), (1, .ref (g.2.2 v1)), (2, .int v2), (3, .int v3), (4, .int v4)]) hx hb dX8_tryAll_134 hl (k := 5) rfl rfl (by decide) rfl (fun ls hl => ?_)
        refine lv_goto (tgt := 21) hx hb dX8_tryAll_137 (by decide) ?_
        exact ih21 v2 v3 v4 (v5 + (1 : Int32)) μ _ _ _ hw (lv_sub hl [1, 2, 3, 4, 5, 0] rfl) h
      rw [X8_tryAll_21b] at h
      refine lv_iload hx hb dX8_tryAll_21 (lv_at hl 5 rfl) ?_
      refine lv_aload_n hx hb dX8_tryAll_23 rfl (lv_at hl 0 rfl) ?_
      refine gR (t := 1) hC hw fl_X8_21 ok6 (by decide) ot6_6 dX8_tryAll_24 ?_
      refine gI hC hw fl_X8_34 ok1 (by decide) dX8_tryAll_27 ?_
      refine lv_icmp_ge (tgt := 140) hx hb dX8_tryAll_30 (by decide) (fun hc => ?_) (fun hc => ?_)
      · rw [if_pos hc] at h
        refine lv_aload_n hx hb dX8_tryAll_140 rfl (lv_at hl 0 rfl) ?_
        refine gR (t := 1) hC hw fl_X8_21 ok6 (by decide) ot6_6 dX8_tryAll_141 ?_
        refine gI hC hw fl_X8_95 ok1 (by decide) dX8_tryAll_144 ?_
        refine lv_if_eq (tgt := 160) hx hb dX8_tryAll_147 (by decide) (fun hc => ?_) (fun hc => ?_)
        · rw [if_pos hc] at h
          exact B160 v3 μ _ _ _ hw (lv_sub hl [3] rfl) h
        · rw [if_neg hc] at h
          refine lv_iload hx hb dX8_tryAll_150 (lv_at hl 4 rfl) ?_
          refine lv_if_eq (tgt := 160) hx hb dX8_tryAll_152 (by decide) (fun hc => ?_) (fun hc => ?_)
          · rw [if_pos hc] at h
            exact B160 v3 μ _ _ _ hw (lv_sub hl [3] rfl) h
          · rw [if_neg hc] at h
            refine lv_iload hx hb dX8_tryAll_155 (lv_at hl 4 rfl) ?_
            refine lv_goto (tgt := 161) hx hb dX8_tryAll_157 (by decide) ?_
            exact B161 v4 μ _ _ _ hw (lv_sub hl [] rfl) h
      · rw [if_neg hc] at h
        refine lv_aload_n hx hb dX8_tryAll_33 rfl (lv_at hl 1 rfl) ?_
        refine gR (t := (v1 + 1)) hC hw fl_X8_43 hk1 (by decide) (sc_T hk1) dX8_tryAll_34 ?_
        refine lv_iload_n hx hb dX8_tryAll_37 rfl (lv_at hl 2 rfl) ?_
        refine lv_iload hx hb dX8_tryAll_38 (lv_at hl 5 rfl) ?_
        refine lv_iadd hx hb dX8_tryAll_40 ?_
        obtain ⟨hi41, h⟩ := gd_some h
        refine lI (j := (v2 + v5).toNatClampNeg) hC hw (sc_K hk1) (sc_N hk1) hi41 rfl dX8_tryAll_41 ?_
        refine lv_if_ne (tgt := 48) hx hb dX8_tryAll_42 (by decide) (fun hc => ?_) (fun hc => ?_)
        · rw [if_neg hc] at h
          refine lv_aload_n hx hb dX8_tryAll_48 rfl (lv_at hl 0 rfl) ?_
          refine gR (t := 7) hC hw fl_X8_11 ok6 (by decide) ot6_4 dX8_tryAll_49 ?_
          refine lv_iload hx hb dX8_tryAll_52 (lv_at hl 5 rfl) ?_
          obtain ⟨hi54, h⟩ := gd_some h
          have ha54 : oK (57 + 2 * v5.toNatClampNeg) = 6 := aK7 hi54 rfl
          refine lA (t := (57 + 2 * v5.toNatClampNeg)) (CN := "SowingHouse$Scene") hC hw ok7 (by decide) rfl on7 hi54 (aT7 hi54 rfl) dX8_tryAll_54 (by decide) ?_
          refine lv_aload_n hx hb dX8_tryAll_55 rfl (lv_at hl 1 rfl) ?_
          obtain ⟨r56, hr56, h⟩ := bnd h
          refine cV (b := (57 + 2 * v5.toNatClampNeg)) (As := [.ref (g.2.2 v1)]) (rest := []) (st1 := []) hC hw (c_X6_copy l g n (57 + 2 * v5.toNatClampNeg) v1 μ r56 hr56) ml_X8_108 im_X6_copy se_X6_copy ha54 (CN := RX6) (T := TX6) (NF := 2) rfl rfl (by decide) rfl hl.1 ⟨Nat.le_of_ble_eq_true rfl, Nat.le_of_ble_eq_true rfl⟩ (Nat.le_of_ble_eq_true rfl) ⟨Nat.zero_le _, Nat.zero_le _⟩ rfl dX8_tryAll_56 (fun H locs hw => ?_)
          refine lv_aload_n hx hb dX8_tryAll_59 rfl (lv_at hl 0 rfl) ?_
          refine lv_aload_n hx hb dX8_tryAll_60 rfl (lv_at hl 0 rfl) ?_
          refine gR (t := 7) hC hw fl_X8_11 ok6 (by decide) ot6_4 dX8_tryAll_61 ?_
          refine lv_iload hx hb dX8_tryAll_64 (lv_at hl 5 rfl) ?_
          have ha66 : oK (57 + 2 * v5.toNatClampNeg) = 6 := aK7 hi54 rfl
          refine lA (t := (57 + 2 * v5.toNatClampNeg)) (CN := "SowingHouse$Scene") hC hw ok7 (by decide) rfl on7 hi54 (aT7 hi54 rfl) dX8_tryAll_66 (by decide) ?_
          refine lv_iload_n hx hb dX8_tryAll_67 rfl (lv_at hl 2 rfl) ?_
          refine lv_iload hx hb dX8_tryAll_68 (lv_at hl 5 rfl) ?_
          refine lv_iadd hx hb dX8_tryAll_70 ?_
          obtain ⟨r71, hr71, h⟩ := bnd h
          refine cV (b := 6) (As := [.ref (g.2.2 (57 + 2 * v5.toNatClampNeg)), .int (v2 + v5)]) (rest := []) (st1 := [.int r71.1]) hC hw (c_X8_sow l g n (57 + 2 * v5.toNatClampNeg) (v2 + v5) r56.2 r71 hr71) ml_X8_112 im_X8_sow se_X8_sow ok6 (CN := RX8) (T := TX8) (NF := 8) rfl rfl (by decide) rfl hl.1 ⟨Nat.le_of_ble_eq_true rfl, Nat.le_of_ble_eq_true rfl⟩ (Nat.le_of_ble_eq_true rfl) ⟨Nat.zero_le _, Nat.zero_le _⟩ rfl dX8_tryAll_71 (fun H locs hw => ?_)
          refine lv_if_eq (tgt := 134) hx hb dX8_tryAll_74 (by decide) (fun hc => ?_) (fun hc => ?_)
          · rw [if_pos hc] at h
            exact B134 v2 v3 v4 v5 r71.2 _ _ _ hw (lv_sub hl [0, 1, 2, 3, 4, 5] rfl) h
          · rw [if_neg hc] at h
            refine lv_aload_n hx hb dX8_tryAll_77 rfl (lv_at hl 0 rfl) ?_
            refine gR (t := 8) hC hw fl_X8_17 ok6 (by decide) ot6_5 dX8_tryAll_78 ?_
            refine lv_iload hx hb dX8_tryAll_81 (lv_at hl 5 rfl) ?_
            refine lv_aload_n hx hb dX8_tryAll_83 rfl (lv_at hl 0 rfl) ?_
            refine gI hC hw fl_X8_82 ok6 (by decide) dX8_tryAll_84 ?_
            refine sI (j := v5.toNatClampNeg) hC hw ok8 on8 hi54 rfl dX8_tryAll_87 (fun H locs hw => ?_)
            refine lv_iload_n hx hb dX8_tryAll_88 rfl (lv_at hl 3 rfl) ?_
            refine lv_iconst (v := (1 : Int32)) hx hb dX8_tryAll_89 (by decide) ?_
            refine lv_iload_n hx hb dX8_tryAll_90 rfl (lv_at hl 2 rfl) ?_
            refine lv_iload hx hb dX8_tryAll_91 (lv_at hl 5 rfl) ?_
            refine lv_iadd hx hb dX8_tryAll_93 ?_
            refine lv_ishl hx hb dX8_tryAll_94 ?_
            refine lv_ior hx hb dX8_tryAll_95 ?_
            refine lv_istore_n (lv' := [(3, .int (v3 ||| ((1 : Int32) <<< ((v2 + v5) &&& 31)))), (0, .ref (g.2.2 6)), (1, .ref (g.2.2 v1)), (2, .int v2), (4, .int v4), (5, .int v5)]) hx hb dX8_tryAll_96 rfl hl (by decide) rfl (fun ls hl => ?_)
            refine lv_aload_n hx hb dX8_tryAll_97 rfl (lv_at hl 1 rfl) ?_
            refine gR (t := 7) hC hw fl_X8_11 ok6 (by decide) ot6_4 dX8_tryAll_98 ?_
            refine lv_iload hx hb dX8_tryAll_101 (lv_at hl 5 rfl) ?_
            have ha103 : oK (57 + 2 * v5.toNatClampNeg) = 6 := aK7 hi54 rfl
            refine lA (t := (57 + 2 * v5.toNatClampNeg)) (CN := "SowingHouse$Scene") hC hw ok7 (by decide) rfl on7 hi54 (aT7 hi54 rfl) dX8_tryAll_103 (by decide) ?_
            refine lv_iconst (v := (1 : Int32)) hx hb dX8_tryAll_104 (by decide) ?_
            refine lv_aload_n hx hb dX8_tryAll_105 rfl (lv_at hl 2 rfl) ?_
            refine gI hC hw fl_X8_30 hk1 (by decide) dX8_tryAll_106 ?_
            refine lv_isub hx hb dX8_tryAll_109 ?_
            refine lv_aload_n hx hb dX8_tryAll_110 rfl (lv_at hl 1 rfl) ?_
            refine gR (t := 1) hC hw fl_X8_21 ok6 (by decide) ot6_6 dX8_tryAll_111 ?_
            refine gI hC hw fl_X8_34 ok1 (by decide) dX8_tryAll_114 ?_
            obtain ⟨r117, hr117, h⟩ := bnd h
            refine cV (b := (57 + 2 * v5.toNatClampNeg)) (As := [.int ((1 : Int32) - ((si r71.2 8 v5.toNatClampNeg (r71.2.1 6 3)).1 v1 1)), .int ((si r71.2 8 v5.toNatClampNeg (r71.2.1 6 3)).1 1 1)]) (rest := []) (st1 := [.int r117.1]) hC hw (c_X6_inRow l g n (57 + 2 * v5.toNatClampNeg) ((1 : Int32) - ((si r71.2 8 v5.toNatClampNeg (r71.2.1 6 3)).1 v1 1)) ((si r71.2 8 v5.toNatClampNeg (r71.2.1 6 3)).1 1 1) (si r71.2 8 v5.toNatClampNeg (r71.2.1 6 3)) r117 hr117) ml_X8_91 im_X6_inRow se_X6_inRow ha103 (CN := RX6) (T := TX6) (NF := 2) rfl rfl (by decide) rfl hl.1 ⟨Nat.le_of_ble_eq_true rfl, Nat.le_of_ble_eq_true rfl⟩ (Nat.le_of_ble_eq_true rfl) ⟨Nat.zero_le _, Nat.zero_le _⟩ rfl dX8_tryAll_117 (fun H locs hw => ?_)
            refine lv_if_le (tgt := 134) hx hb dX8_tryAll_120 (by decide) (fun hc => ?_) (fun hc => ?_)
            · rw [if_pos hc] at h
              exact B134 v2 (v3 ||| ((1 : Int32) <<< ((v2 + v5) &&& 31))) v4 v5 r117.2 _ _ _ hw (lv_sub hl [1, 2, 3, 0, 4, 5] rfl) h
            · rw [if_neg hc] at h
              refine lv_iload hx hb dX8_tryAll_123 (lv_at hl 4 rfl) ?_
              refine lv_iconst (v := (1 : Int32)) hx hb dX8_tryAll_125 (by decide) ?_
              refine lv_iload_n hx hb dX8_tryAll_126 rfl (lv_at hl 3 rfl) ?_
              refine lv_iload hx hb dX8_tryAll_127 (lv_at hl 5 rfl) ?_
              refine lv_iadd hx hb dX8_tryAll_129 ?_
              refine lv_ishl hx hb dX8_tryAll_130 ?_
              refine lv_ior hx hb dX8_tryAll_131 ?_
              refine lv_istore (lv' := [(4, .int (v4 ||| ((1 : Int32) <<< ((v2 + v5) &&& 31)))), (3, .int (v3 ||| ((1 : Int32) <<< ((v2 + v5) &&& 31)))), (0, .ref (g.2.2 6)), (1, .ref (g.2.2 v1)), (2, .int v2), (5, .int v5)]) hx hb dX8_tryAll_132 hl (by decide) rfl (fun ls hl => ?_)
              exact B134 v2 (v3 ||| ((1 : Int32) <<< ((v2 + v5) &&& 31))) (v4 ||| ((1 : Int32) <<< ((v2 + v5) &&& 31))) v5 r117.2 _ _ _ hw (lv_sub hl [2, 3, 4, 1, 0, 5] rfl) h
        · rw [if_pos hc] at h
          refine lv_goto (tgt := 134) hx hb dX8_tryAll_45 (by decide) ?_
          exact B134 v2 v3 v4 v5 μ _ _ _ hw (lv_sub hl [0, 1, 2, 3, 4, 5] rfl) h
  refine lv_aload_n hx hb dX8_tryAll_0 rfl (lv_at hl 1 rfl) ?_
  refine gI hC hw fl_X8_30 hk1 (by decide) dX8_tryAll_1 ?_
  refine lv_aload_n hx hb dX8_tryAll_4 rfl (lv_at hl 0 rfl) ?_
  refine gR (t := 1) hC hw fl_X8_21 ok6 (by decide) ot6_6 dX8_tryAll_5 ?_
  refine gI hC hw fl_X8_34 ok1 (by decide) dX8_tryAll_8 ?_
  refine lv_imul hx hb dX8_tryAll_11 ?_
  refine lv_istore_n (lv' := [(2, .int ((μ.1 v1 1) * (μ.1 1 1))), (0, .ref (g.2.2 6)), (1, .ref (g.2.2 v1))]) hx hb dX8_tryAll_12 rfl hl (by decide) rfl (fun ls hl => ?_)
  refine lv_iconst (v := (0 : Int32)) hx hb dX8_tryAll_13 (by decide) ?_
  refine lv_istore_n (lv' := [(3, .int (0 : Int32)), (2, .int ((μ.1 v1 1) * (μ.1 1 1))), (0, .ref (g.2.2 6)), (1, .ref (g.2.2 v1))]) hx hb dX8_tryAll_14 rfl hl (by decide) rfl (fun ls hl => ?_)
  refine lv_iconst (v := (0 : Int32)) hx hb dX8_tryAll_15 (by decide) ?_
  refine lv_istore (lv' := [(4, .int (0 : Int32)), (3, .int (0 : Int32)), (2, .int ((μ.1 v1 1) * (μ.1 1 1))), (0, .ref (g.2.2 6)), (1, .ref (g.2.2 v1))]) hx hb dX8_tryAll_16 hl (by decide) rfl (fun ls hl => ?_)
  refine lv_iconst (v := (0 : Int32)) hx hb dX8_tryAll_18 (by decide) ?_
  refine lv_istore (lv' := [(5, .int (0 : Int32)), (4, .int (0 : Int32)), (3, .int (0 : Int32)), (2, .int ((μ.1 v1 1) * (μ.1 1 1))), (0, .ref (g.2.2 6)), (1, .ref (g.2.2 v1))]) hx hb dX8_tryAll_19 hl (by decide) rfl (fun ls hl => ?_)
  exact B21 n ((μ.1 v1 1) * (μ.1 1 1)) (0 : Int32) (0 : Int32) (0 : Int32) μ _ _ _ hw (lv_sub hl [4, 5, 3, 2, 1, 0] rfl) h
set_option maxRecDepth 100000 in
set_option maxHeartbeats 4000000 in
theorem c_X8_isLong (l : Launch) (g : Gw) (n : Nat) (v1 : Nat) (v2 : Int32) (μ : Mu) (r : Int32 × Mu) (h : X8_isLong n v1 v2 μ = some r) : Ct l g yX8_isLong cX8_isLong 3 (some .boolean) 3 [.ref (g.2.2 6), .ref (g.2.2 v1), .int v2] μ (some (.int r.1)) r.2 := by
  rw [X8_isLong] at h
  obtain ⟨hk1, h⟩ := kd_some h
  refine Ct.of (by decide) (Nat.le_of_ble_eq_true rfl) ?_
  intro p e s m args below meth c ls hC hw hr hlocks hl
  have hx := hC.1
  have hb := hC.2.1
  have hl : lv_has ls 3 [(0, .ref (g.2.2 6)), (1, .ref (g.2.2 v1)), (2, .int v2)] := hl
  have B42 : ∀ (s0 : Int32) (μ : Mu) (H : Heap) (locs : List Loc) (ls : Array Slot), wd g μ s (Aw g s.heap.size) H locs → lv_has ls 3 [] → X8_isLong_42 n v1 v2 s0 μ = some r → WQ p l e (rmD 3) s m args below meth c g (some (.int r.1)) r.2 H locs (F0 m 42 ls [.int s0]) := by
    intro s0 μ H locs ls hw hl h
    rw [X8_isLong_42] at h
    obtain ⟨hz42, h⟩ := bz_some h
    exact rZ hC hw hr hlocks hz42 (by rw [← Option.some.inj h]) (by rw [← Option.some.inj h]) dX8_isLong_42
  refine lv_aload_n hx hb dX8_isLong_0 rfl (lv_at hl 0 rfl) ?_
  refine gR (t := 7) hC hw fl_X8_11 ok6 (by decide) ot6_4 dX8_isLong_1 ?_
  refine lv_iload_n hx hb dX8_isLong_4 rfl (lv_at hl 2 rfl) ?_
  obtain ⟨hi5, h⟩ := gd_some h
  have ha5 : oK (57 + 2 * v2.toNatClampNeg) = 6 := aK7 hi5 rfl
  refine lA (t := (57 + 2 * v2.toNatClampNeg)) (CN := "SowingHouse$Scene") hC hw ok7 (by decide) rfl on7 hi5 (aT7 hi5 rfl) dX8_isLong_5 (by decide) ?_
  refine lv_aload_n hx hb dX8_isLong_6 rfl (lv_at hl 1 rfl) ?_
  obtain ⟨r7, hr7, h⟩ := bnd h
  refine cV (b := (57 + 2 * v2.toNatClampNeg)) (As := [.ref (g.2.2 v1)]) (rest := []) (st1 := []) hC hw (c_X6_copy l g n (57 + 2 * v2.toNatClampNeg) v1 μ r7 hr7) ml_X8_108 im_X6_copy se_X6_copy ha5 (CN := RX6) (T := TX6) (NF := 2) rfl rfl (by decide) rfl hl.1 ⟨Nat.le_of_ble_eq_true rfl, Nat.le_of_ble_eq_true rfl⟩ (Nat.le_of_ble_eq_true rfl) ⟨Nat.zero_le _, Nat.zero_le _⟩ rfl dX8_isLong_7 (fun H locs hw => ?_)
  refine lv_aload_n hx hb dX8_isLong_10 rfl (lv_at hl 0 rfl) ?_
  refine lv_aload_n hx hb dX8_isLong_11 rfl (lv_at hl 0 rfl) ?_
  refine gR (t := 7) hC hw fl_X8_11 ok6 (by decide) ot6_4 dX8_isLong_12 ?_
  refine lv_iload_n hx hb dX8_isLong_15 rfl (lv_at hl 2 rfl) ?_
  have ha16 : oK (57 + 2 * v2.toNatClampNeg) = 6 := aK7 hi5 rfl
  refine lA (t := (57 + 2 * v2.toNatClampNeg)) (CN := "SowingHouse$Scene") hC hw ok7 (by decide) rfl on7 hi5 (aT7 hi5 rfl) dX8_isLong_16 (by decide) ?_
  refine lv_aload_n hx hb dX8_isLong_17 rfl (lv_at hl 1 rfl) ?_
  refine gI hC hw fl_X8_30 hk1 (by decide) dX8_isLong_18 ?_
  refine lv_aload_n hx hb dX8_isLong_21 rfl (lv_at hl 0 rfl) ?_
  refine gR (t := 1) hC hw fl_X8_21 ok6 (by decide) ot6_6 dX8_isLong_22 ?_
  refine gI hC hw fl_X8_34 ok1 (by decide) dX8_isLong_25 ?_
  refine lv_imul hx hb dX8_isLong_28 ?_
  refine lv_iload_n hx hb dX8_isLong_29 rfl (lv_at hl 2 rfl) ?_
  refine lv_iadd hx hb dX8_isLong_30 ?_
  obtain ⟨r31, hr31, h⟩ := bnd h
  refine cV (b := 6) (As := [.ref (g.2.2 (57 + 2 * v2.toNatClampNeg)), .int (((r7.2.1 v1 1) * (r7.2.1 1 1)) + v2)]) (rest := []) (st1 := [.int r31.1]) hC hw (c_X8_sow l g n (57 + 2 * v2.toNatClampNeg) (((r7.2.1 v1 1) * (r7.2.1 1 1)) + v2) r7.2 r31 hr31) ml_X8_112 im_X8_sow se_X8_sow ok6 (CN := RX8) (T := TX8) (NF := 8) rfl rfl (by decide) rfl hl.1 ⟨Nat.le_of_ble_eq_true rfl, Nat.le_of_ble_eq_true rfl⟩ (Nat.le_of_ble_eq_true rfl) ⟨Nat.zero_le _, Nat.zero_le _⟩ rfl dX8_isLong_31 (fun H locs hw => ?_)
  refine lv_if_ne (tgt := 41) hx hb dX8_isLong_34 (by decide) (fun hc => ?_) (fun hc => ?_)
  · rw [if_neg hc] at h
    refine lv_iconst (v := (0 : Int32)) hx hb dX8_isLong_41 (by decide) ?_
    exact B42 (0 : Int32) r31.2 _ _ _ hw (lv_sub hl [] rfl) h
  · rw [if_pos hc] at h
    refine lv_iconst (v := (1 : Int32)) hx hb dX8_isLong_37 (by decide) ?_
    refine lv_goto (tgt := 42) hx hb dX8_isLong_38 (by decide) ?_
    exact B42 (1 : Int32) r31.2 _ _ _ hw (lv_sub hl [] rfl) h
set_option maxRecDepth 100000 in
set_option maxHeartbeats 4000000 in
theorem c_X8_isOver (l : Launch) (g : Gw) (n : Nat) (v1 : Nat) (μ : Mu) (r : Int32 × Mu) (h : X8_isOver n v1 μ = some r) : Ct l g yX8_isOver cX8_isOver 4 (some .boolean) 4 [.ref (g.2.2 6), .ref (g.2.2 v1)] μ (some (.int r.1)) r.2 := by
  rw [X8_isOver] at h
  obtain ⟨hk1, h⟩ := kd_some h
  refine Ct.of (by decide) (Nat.le_of_ble_eq_true rfl) ?_
  intro p e s m args below meth c ls hC hw hr hlocks hl
  have hx := hC.1
  have hb := hC.2.1
  have hl : lv_has ls 4 [(0, .ref (g.2.2 6)), (1, .ref (g.2.2 v1))] := hl
  have B56 : ∀ (μ : Mu) (H : Heap) (locs : List Loc) (ls : Array Slot), wd g μ s (Aw g s.heap.size) H locs → lv_has ls 4 [] → X8_isOver_56 n v1  μ = some r → WQ p l e (rmD 4) s m args below meth c g (some (.int r.1)) r.2 H locs (F0 m 56 ls []) := by
    intro μ H locs ls hw hl h
    rw [X8_isOver_56] at h
    refine lv_iconst (v := (0 : Int32)) hx hb dX8_isOver_56 (by decide) ?_
    exact rZ hC hw hr hlocks (Or.inl rfl) (by rw [← Option.some.inj h]) (by rw [← Option.some.inj h]) dX8_isOver_57
  have B15 : ∀ (k : Nat), ∀ (v2 : Int32) (v3 : Int32) (μ : Mu) (H : Heap) (locs : List Loc) (ls : Array Slot), wd g μ s (Aw g s.heap.size) H locs → lv_has ls 4 [(0, .ref (g.2.2 6)), (1, .ref (g.2.2 v1)), (2, .int v2), (3, .int v3)] → lpF (fun _ _ _ => none) (X8_isOver_15b n v1) k v2 v3 μ = some r → WQ p l e (rmD 4) s m args below meth c g (some (.int r.1)) r.2 H locs (F0 m 15 ls []) := by
    intro k
    induction k with
    | zero =>
      intro v2 v3 μ H locs ls hw hl h
      cases h
    | succ k ih15 =>
      rw [lpF_s]
      generalize lpF (fun _ _ _ => none) (X8_isOver_15b n v1) k = k15 at ih15 ⊢
      intro v2 v3 μ H locs ls hw hl h
      have B58 : ∀ (v2 : Int32) (v3 : Int32) (μ : Mu) (H : Heap) (locs : List Loc) (ls : Array Slot), wd g μ s (Aw g s.heap.size) H locs → lv_has ls 4 [(0, .ref (g.2.2 6)), (1, .ref (g.2.2 v1)), (2, .int v2), (3, .int v3)] → X8_isOver_58 n v1 k15 v2 v3 μ = some r → WQ p l e (rmD 4) s m args below meth c g (some (.int r.1)) r.2 H locs (F0 m 58 ls []) := by
        intro v2 v3 μ H locs ls hw hl h
        rw [X8_isOver_58] at h
        refine lv_iinc (v := (v3 + (1 : Int32))) (lv' := [(3, .int (v3 + (1 : Int32))), (0, .ref (g.2.2 6)), (1, .ref (g.2.2 v1)), (2, .int v2)]) hx hb dX8_isOver_58 hl (k := 3) rfl rfl (by decide) rfl (fun ls hl => ?_)
        refine lv_goto (tgt := 15) hx hb dX8_isOver_61 (by decide) ?_
        exact ih15 v2 (v3 + (1 : Int32)) μ _ _ _ hw (lv_sub hl [1, 2, 3, 0] rfl) h
      rw [X8_isOver_15b] at h
      refine lv_iload_n hx hb dX8_isOver_15 rfl (lv_at hl 3 rfl) ?_
      refine lv_aload_n hx hb dX8_isOver_16 rfl (lv_at hl 0 rfl) ?_
      refine gR (t := 1) hC hw fl_X8_21 ok6 (by decide) ot6_6 dX8_isOver_17 ?_
      refine gI hC hw fl_X8_34 ok1 (by decide) dX8_isOver_20 ?_
      refine lv_icmp_ge (tgt := 64) hx hb dX8_isOver_23 (by decide) (fun hc => ?_) (fun hc => ?_)
      · rw [if_pos hc] at h
        refine lv_iconst (v := (1 : Int32)) hx hb dX8_isOver_64 (by decide) ?_
        exact rZ hC hw hr hlocks (Or.inr rfl) (by rw [← Option.some.inj h]) (by rw [← Option.some.inj h]) dX8_isOver_65
      · rw [if_neg hc] at h
        refine lv_aload_n hx hb dX8_isOver_26 rfl (lv_at hl 1 rfl) ?_
        refine gR (t := (v1 + 1)) hC hw fl_X8_43 hk1 (by decide) (sc_T hk1) dX8_isOver_27 ?_
        refine lv_iload_n hx hb dX8_isOver_30 rfl (lv_at hl 2 rfl) ?_
        refine lv_iload_n hx hb dX8_isOver_31 rfl (lv_at hl 3 rfl) ?_
        refine lv_iadd hx hb dX8_isOver_32 ?_
        obtain ⟨hi33, h⟩ := gd_some h
        refine lI (j := (v2 + v3).toNatClampNeg) hC hw (sc_K hk1) (sc_N hk1) hi33 rfl dX8_isOver_33 ?_
        refine lv_if_le (tgt := 58) hx hb dX8_isOver_34 (by decide) (fun hc => ?_) (fun hc => ?_)
        · rw [if_pos hc] at h
          exact B58 v2 v3 μ _ _ _ hw (lv_sub hl [0, 1, 2, 3] rfl) h
        · rw [if_neg hc] at h
          refine lv_aload_n hx hb dX8_isOver_37 rfl (lv_at hl 0 rfl) ?_
          refine gR (t := 2) hC hw fl_X8_25 ok6 (by decide) ot6_7 dX8_isOver_38 ?_
          refine gI hC hw fl_X8_98 ok2 (by decide) dX8_isOver_41 ?_
          refine lv_if_eq (tgt := 56) hx hb dX8_isOver_44 (by decide) (fun hc => ?_) (fun hc => ?_)
          · rw [if_pos hc] at h
            exact B56 μ _ _ _ hw (lv_sub hl [] rfl) h
          · rw [if_neg hc] at h
            refine lv_aload_n hx hb dX8_isOver_47 rfl (lv_at hl 0 rfl) ?_
            refine lv_aload_n hx hb dX8_isOver_48 rfl (lv_at hl 1 rfl) ?_
            refine lv_iload_n hx hb dX8_isOver_49 rfl (lv_at hl 3 rfl) ?_
            obtain ⟨r50, hr50, h⟩ := bnd h
            refine cV (b := 6) (As := [.ref (g.2.2 v1), .int v3]) (rest := []) (st1 := [.int r50.1]) hC hw (c_X8_isLong l g n v1 v3 μ r50 hr50) ml_X8_116 im_X8_isLong se_X8_isLong ok6 (CN := RX8) (T := TX8) (NF := 8) rfl rfl (by decide) rfl hl.1 ⟨Nat.le_of_ble_eq_true rfl, Nat.le_of_ble_eq_true rfl⟩ (Nat.le_of_ble_eq_true rfl) ⟨Nat.zero_le _, Nat.zero_le _⟩ rfl dX8_isOver_50 (fun H locs hw => ?_)
            refine lv_if_ne (tgt := 58) hx hb dX8_isOver_53 (by decide) (fun hc => ?_) (fun hc => ?_)
            · rw [if_neg hc] at h
              exact B58 v2 v3 r50.2 _ _ _ hw (lv_sub hl [0, 1, 2, 3] rfl) h
            · rw [if_pos hc] at h
              exact B56 r50.2 _ _ _ hw (lv_sub hl [] rfl) h
  refine lv_aload_n hx hb dX8_isOver_0 rfl (lv_at hl 1 rfl) ?_
  refine gI hC hw fl_X8_30 hk1 (by decide) dX8_isOver_1 ?_
  refine lv_aload_n hx hb dX8_isOver_4 rfl (lv_at hl 0 rfl) ?_
  refine gR (t := 1) hC hw fl_X8_21 ok6 (by decide) ot6_6 dX8_isOver_5 ?_
  refine gI hC hw fl_X8_34 ok1 (by decide) dX8_isOver_8 ?_
  refine lv_imul hx hb dX8_isOver_11 ?_
  refine lv_istore_n (lv' := [(2, .int ((μ.1 v1 1) * (μ.1 1 1))), (0, .ref (g.2.2 6)), (1, .ref (g.2.2 v1))]) hx hb dX8_isOver_12 rfl hl (by decide) rfl (fun ls hl => ?_)
  refine lv_iconst (v := (0 : Int32)) hx hb dX8_isOver_13 (by decide) ?_
  refine lv_istore_n (lv' := [(3, .int (0 : Int32)), (2, .int ((μ.1 v1 1) * (μ.1 1 1))), (0, .ref (g.2.2 6)), (1, .ref (g.2.2 v1))]) hx hb dX8_isOver_14 rfl hl (by decide) rfl (fun ls hl => ?_)
  exact B15 n ((μ.1 v1 1) * (μ.1 1 1)) (0 : Int32) μ _ _ _ hw (lv_sub hl [2, 3, 1, 0] rfl) h
set_option maxRecDepth 100000 in
set_option maxHeartbeats 4000000 in
theorem c_X8_scoreOf (l : Launch) (g : Gw) (n : Nat) (v1 : Nat) (μ : Mu) (r : Int32 × Mu) (h : X8_scoreOf n v1 μ = some r) : Ct l g yX8_scoreOf cX8_scoreOf 3 (some .int) 5 [.ref (g.2.2 6), .ref (g.2.2 v1)] μ (some (.int r.1)) r.2 := by
  rw [X8_scoreOf] at h
  obtain ⟨hk1, h⟩ := kd_some h
  refine Ct.of (by decide) (Nat.le_of_ble_eq_true rfl) ?_
  intro p e s m args below meth c ls hC hw hr hlocks hl
  have hx := hC.1
  have hb := hC.2.1
  have hl : lv_has ls 3 [(0, .ref (g.2.2 6)), (1, .ref (g.2.2 v1))] := hl
  refine lv_aload_n hx hb dX8_scoreOf_0 rfl (lv_at hl 1 rfl) ?_
  refine gR (t := (v1 + 1)) hC hw fl_X8_43 hk1 (by decide) (sc_T hk1) dX8_scoreOf_1 ?_
  refine lv_bipush (v := (12 : Int32)) hx hb dX8_scoreOf_4 (by decide) ?_
  refine lI (j := 12) hC hw (sc_K hk1) (sc_N hk1) (vin (by decide)) (by decide) dX8_scoreOf_6 ?_
  refine lv_aload_n hx hb dX8_scoreOf_7 rfl (lv_at hl 1 rfl) ?_
  refine gR (t := (v1 + 1)) hC hw fl_X8_43 hk1 (by decide) (sc_T hk1) dX8_scoreOf_8 ?_
  refine lv_bipush (v := (13 : Int32)) hx hb dX8_scoreOf_11 (by decide) ?_
  refine lI (j := 13) hC hw (sc_K hk1) (sc_N hk1) (vin (by decide)) (by decide) dX8_scoreOf_13 ?_
  refine lv_isub hx hb dX8_scoreOf_14 ?_
  refine lv_istore_n (lv' := [(2, .int ((μ.1 (v1 + 1) 12) - (μ.1 (v1 + 1) 13))), (0, .ref (g.2.2 6)), (1, .ref (g.2.2 v1))]) hx hb dX8_scoreOf_15 rfl hl (by decide) rfl (fun ls hl => ?_)
  refine lv_aload_n hx hb dX8_scoreOf_16 rfl (lv_at hl 1 rfl) ?_
  refine lv_aload_n hx hb dX8_scoreOf_17 rfl (lv_at hl 2 rfl) ?_
  obtain ⟨r18, hr18, h⟩ := bnd h
  refine cV (b := 6) (As := [.ref (g.2.2 v1)]) (rest := []) (st1 := [.int r18.1]) hC hw (c_X8_isOver l g n v1 μ r18 hr18) ml_X8_126 im_X8_isOver se_X8_isOver ok6 (CN := RX8) (T := TX8) (NF := 8) rfl rfl (by decide) rfl hl.1 ⟨Nat.le_of_ble_eq_true rfl, Nat.le_of_ble_eq_true rfl⟩ (Nat.le_of_ble_eq_true rfl) ⟨Nat.zero_le _, Nat.zero_le _⟩ rfl dX8_scoreOf_18 (fun H locs hw => ?_)
  refine lv_if_ne (tgt := 26) hx hb dX8_scoreOf_21 (by decide) (fun hc => ?_) (fun hc => ?_)
  · rw [if_neg hc] at h
    refine lv_iload_n hx hb dX8_scoreOf_26 rfl (lv_at hl 0 rfl) ?_
    refine lv_aload_n hx hb dX8_scoreOf_27 rfl (lv_at hl 2 rfl) ?_
    refine lv_iconst (v := (0 : Int32)) hx hb dX8_scoreOf_28 (by decide) ?_
    refine lv_aload_n hx hb dX8_scoreOf_29 rfl (lv_at hl 1 rfl) ?_
    refine gR (t := 1) hC hw fl_X8_21 ok6 (by decide) ot6_6 dX8_scoreOf_30 ?_
    refine gI hC hw fl_X8_34 ok1 (by decide) dX8_scoreOf_33 ?_
    obtain ⟨r36, hr36, h⟩ := bnd h
    refine cV (b := v1) (As := [.int (0 : Int32), .int (r18.2.1 1 1)]) (rest := [.int ((μ.1 (v1 + 1) 12) - (μ.1 (v1 + 1) 13))]) (st1 := [.int r36.1, .int ((μ.1 (v1 + 1) 12) - (μ.1 (v1 + 1) 13))]) hC hw (c_X6_inRow l g n v1 (0 : Int32) (r18.2.1 1 1) r18.2 r36 hr36) ml_X8_91 im_X6_inRow se_X6_inRow hk1 (CN := RX6) (T := TX6) (NF := 2) rfl rfl (by decide) rfl hl.1 ⟨Nat.le_of_ble_eq_true rfl, Nat.le_of_ble_eq_true rfl⟩ (Nat.le_of_ble_eq_true rfl) ⟨Nat.zero_le _, Nat.zero_le _⟩ rfl dX8_scoreOf_36 (fun H locs hw => ?_)
    refine lv_iadd hx hb dX8_scoreOf_39 ?_
    refine lv_aload_n hx hb dX8_scoreOf_40 rfl (lv_at hl 2 rfl) ?_
    refine lv_iconst (v := (1 : Int32)) hx hb dX8_scoreOf_41 (by decide) ?_
    refine lv_aload_n hx hb dX8_scoreOf_42 rfl (lv_at hl 1 rfl) ?_
    refine gR (t := 1) hC hw fl_X8_21 ok6 (by decide) ot6_6 dX8_scoreOf_43 ?_
    refine gI hC hw fl_X8_34 ok1 (by decide) dX8_scoreOf_46 ?_
    obtain ⟨r49, hr49, h⟩ := bnd h
    refine cV (b := v1) (As := [.int (1 : Int32), .int (r36.2.1 1 1)]) (rest := [.int (((μ.1 (v1 + 1) 12) - (μ.1 (v1 + 1) 13)) + r36.1)]) (st1 := [.int r49.1, .int (((μ.1 (v1 + 1) 12) - (μ.1 (v1 + 1) 13)) + r36.1)]) hC hw (c_X6_inRow l g n v1 (1 : Int32) (r36.2.1 1 1) r36.2 r49 hr49) ml_X8_91 im_X6_inRow se_X6_inRow hk1 (CN := RX6) (T := TX6) (NF := 2) rfl rfl (by decide) rfl hl.1 ⟨Nat.le_of_ble_eq_true rfl, Nat.le_of_ble_eq_true rfl⟩ (Nat.le_of_ble_eq_true rfl) ⟨Nat.zero_le _, Nat.zero_le _⟩ rfl dX8_scoreOf_49 (fun H locs hw => ?_)
    refine lv_isub hx hb dX8_scoreOf_52 ?_
    exact rI hC hw hr hlocks (by rw [← Option.some.inj h]) (by rw [← Option.some.inj h]) dX8_scoreOf_53
  · rw [if_pos hc] at h
    refine lv_iload_n hx hb dX8_scoreOf_24 rfl (lv_at hl 0 rfl) ?_
    exact rI hC hw hr hlocks (by rw [← Option.some.inj h]) (by rw [← Option.some.inj h]) dX8_scoreOf_25
set_option maxRecDepth 100000 in
set_option maxHeartbeats 4000000 in
theorem c_X10_go (l : Launch) (g : Gw) (n : Nat) (v1 : Int32) (μ : Mu) (r : Unit × Mu) (h : X10_go n v1 μ = some r) : Ct l g yX10_go cX10_go 2 none 3 [.ref (g.2.2 22), .int v1] μ none r.2 := by
  rw [X10_go] at h
  refine Ct.of (by decide) (Nat.le_of_ble_eq_true rfl) ?_
  intro p e s m args below meth c ls hC hw hr hlocks hl
  have hx := hC.1
  have hb := hC.2.1
  have hl : lv_has ls 2 [(0, .ref (g.2.2 22)), (1, .int v1)] := hl
  refine lv_aload_n hx hb dX10_go_0 rfl (lv_at hl 0 rfl) ?_
  refine gR (t := 6) hC hw fl_X10_25 ok22 (by decide) ot22_4 dX10_go_1 ?_
  refine lv_aload_n hx hb dX10_go_4 rfl (lv_at hl 0 rfl) ?_
  refine gR (t := 153) hC hw fl_X10_12 ok22 (by decide) ot22_0 dX10_go_5 ?_
  refine lv_iload_n hx hb dX10_go_8 rfl (lv_at hl 1 rfl) ?_
  obtain ⟨r9, hr9, h⟩ := bnd h
  refine cV (b := 6) (As := [.ref (g.2.2 153), .int v1]) (rest := []) (st1 := [.int r9.1]) hC hw (c_X8_sow l g n 153 v1 μ r9 hr9) ml_X10_45 im_X8_sow se_X8_sow ok6 (CN := RX8) (T := TX8) (NF := 8) rfl rfl (by decide) rfl hl.1 ⟨Nat.le_of_ble_eq_true rfl, Nat.le_of_ble_eq_true rfl⟩ (Nat.le_of_ble_eq_true rfl) ⟨Nat.zero_le _, Nat.zero_le _⟩ rfl dX10_go_9 (fun H locs hw => ?_)
  refine lv_pop hx hb dX10_go_12 rfl ?_
  refine lv_aload_n hx hb dX10_go_13 rfl (lv_at hl 0 rfl) ?_
  refine gR (t := 23) hC hw fl_X10_18 ok22 (by decide) ot22_1 dX10_go_14 ?_
  refine lv_aload_n hx hb dX10_go_17 rfl (lv_at hl 0 rfl) ?_
  refine gI hC hw fl_X10_37 ok22 (by decide) dX10_go_18 ?_
  refine lv_iload_n hx hb dX10_go_21 rfl (lv_at hl 1 rfl) ?_
  obtain ⟨hi22, h⟩ := gd_some h
  refine sI (j := (r9.2.1 22 2).toNatClampNeg) hC hw ok23 on23 hi22 rfl dX10_go_22 (fun H locs hw => ?_)
  refine lv_aload_n hx hb dX10_go_23 rfl (lv_at hl 0 rfl) ?_
  refine lv_dup hx hb dX10_go_24 rfl ?_
  refine gI hC hw fl_X10_37 ok22 (by decide) dX10_go_25 ?_
  refine lv_iconst (v := (1 : Int32)) hx hb dX10_go_28 (by decide) ?_
  refine lv_iadd hx hb dX10_go_29 ?_
  refine pI hC hw fl_X10_37 fp_10_2 ok22 dX10_go_30 (fun H locs hw => ?_)
  exact rV hC hw hr hlocks rfl (by rw [← Option.some.inj h]) dX10_go_33
set_option maxRecDepth 100000 in
set_option maxHeartbeats 4000000 in
theorem c_X10_pick (l : Launch) (g : Gw) (n : Nat) (v0 : Int32) (v1 : Int32) (μ : Mu) (r : Int32 × Mu) (h : X10_pick n v0 v1 μ = some r) : Ct l g yX10_pick cX10_pick 5 (some .int) 1 [.int v0, .int v1] μ (some (.int r.1)) r.2 := by
  rw [X10_pick] at h
  refine Ct.of (by decide) (Nat.le_of_ble_eq_true rfl) ?_
  intro p e s m args below meth c ls hC hw hr hlocks hl
  have hx := hC.1
  have hb := hC.2.1
  have hl : lv_has ls 5 [(0, .int v0), (1, .int v1)] := hl
  have B20 : ∀ (k : Nat), ∀ (v3 : Int32) (v4 : Int32) (μ : Mu) (H : Heap) (locs : List Loc) (ls : Array Slot), wd g μ s (Aw g s.heap.size) H locs → lv_has ls 5 [(0, .int v0), (3, .int v3), (4, .int v4)] → lpF (fun _ _ _ => none) (X10_pick_20b n v0 v1) k v3 v4 μ = some r → WQ p l e (rmD 1) s m args below meth c g (some (.int r.1)) r.2 H locs (F0 m 20 ls []) := by
    intro k
    induction k with
    | zero =>
      intro v3 v4 μ H locs ls hw hl h
      cases h
    | succ k ih20 =>
      rw [lpF_s]
      generalize lpF (fun _ _ _ => none) (X10_pick_20b n v0 v1) k = k20 at ih20 ⊢
      intro v3 v4 μ H locs ls hw hl h
      have B46 : ∀ (v3 : Int32) (v4 : Int32) (μ : Mu) (H : Heap) (locs : List Loc) (ls : Array Slot), wd g μ s (Aw g s.heap.size) H locs → lv_has ls 5 [(0, .int v0), (3, .int v3), (4, .int v4)] → X10_pick_46 n v0 v1 k20 v3 v4 μ = some r → WQ p l e (rmD 1) s m args below meth c g (some (.int r.1)) r.2 H locs (F0 m 46 ls []) := by
        intro v3 v4 μ H locs ls hw hl h
        rw [X10_pick_46] at h
        refine lv_iinc (v := (v4 + (1 : Int32))) (lv' := [(4, .int (v4 + (1 : Int32))), (0, .int v0), (3, .int v3)]) hx hb dX10_pick_46 hl (k := 2) rfl rfl (by decide) rfl (fun ls hl => ?_)
        refine lv_goto (tgt := 20) hx hb dX10_pick_49 (by decide) ?_
        exact ih20 v3 (v4 + (1 : Int32)) μ _ _ _ hw (lv_sub hl [1, 2, 0] rfl) h
      rw [X10_pick_20b] at h
      refine lv_iload hx hb dX10_pick_20 (lv_at hl 2 rfl) ?_
      refine lv_bipush (v := (12 : Int32)) hx hb dX10_pick_22 (by decide) ?_
      refine lv_icmp_ge (tgt := 52) hx hb dX10_pick_24 (by decide) (fun hc => ?_) (fun hc => ?_)
      · rw [if_pos hc] at h
        refine lv_iconst (v := ((-1) : Int32)) hx hb dX10_pick_52 (by decide) ?_
        exact rI hC hw hr hlocks (by rw [← Option.some.inj h]) (by rw [← Option.some.inj h]) dX10_pick_53
      · rw [if_neg hc] at h
        refine lv_iload_n hx hb dX10_pick_27 rfl (lv_at hl 0 rfl) ?_
        refine lv_iload hx hb dX10_pick_28 (lv_at hl 2 rfl) ?_
        obtain ⟨r30, hr30, h⟩ := bnd h
        refine cSN (As := [.int v0, .int v4]) (rest := []) (st1 := [.int r30.1]) hC hw (c_X11_has l g n v0 v4 μ r30 hr30) mn_X10_88 st_X11_has rfl hl.1 ⟨Nat.le_of_ble_eq_true rfl, Nat.le_of_ble_eq_true rfl⟩ (Nat.le_of_ble_eq_true rfl) ⟨Nat.zero_le _, Nat.zero_le _⟩ rfl dX10_pick_30 (fun H locs hw => ?_)
        refine lv_if_eq (tgt := 46) hx hb dX10_pick_33 (by decide) (fun hc => ?_) (fun hc => ?_)
        · rw [if_pos hc] at h
          exact B46 v3 v4 r30.2 _ _ _ hw (lv_sub hl [0, 1, 2] rfl) h
        · rw [if_neg hc] at h
          refine lv_iload_n hx hb dX10_pick_36 rfl (lv_at hl 1 rfl) ?_
          refine lv_if_ne (tgt := 43) hx hb dX10_pick_37 (by decide) (fun hc => ?_) (fun hc => ?_)
          · rw [if_neg hc] at h
            refine lv_iinc (v := (v3 + ((-1) : Int32))) (lv' := [(3, .int (v3 + ((-1) : Int32))), (0, .int v0), (4, .int v4)]) hx hb dX10_pick_43 hl (k := 1) rfl rfl (by decide) rfl (fun ls hl => ?_)
            exact B46 (v3 + ((-1) : Int32)) v4 r30.2 _ _ _ hw (lv_sub hl [1, 0, 2] rfl) h
          · rw [if_pos hc] at h
            refine lv_iload hx hb dX10_pick_40 (lv_at hl 2 rfl) ?_
            exact rI hC hw hr hlocks (by rw [← Option.some.inj h]) (by rw [← Option.some.inj h]) dX10_pick_42
  have B16 : ∀ (s0 : Int32) (μ : Mu) (H : Heap) (locs : List Loc) (ls : Array Slot), wd g μ s (Aw g s.heap.size) H locs → lv_has ls 5 [(0, .int v0)] → X10_pick_16 n v0 v1 s0 μ = some r → WQ p l e (rmD 1) s m args below meth c g (some (.int r.1)) r.2 H locs (F0 m 16 ls [.int s0]) := by
    intro s0 μ H locs ls hw hl h
    rw [X10_pick_16] at h
    refine lv_istore_n (lv' := [(3, .int s0), (0, .int v0)]) hx hb dX10_pick_16 rfl hl (by decide) rfl (fun ls hl => ?_)
    refine lv_iconst (v := (0 : Int32)) hx hb dX10_pick_17 (by decide) ?_
    refine lv_istore (lv' := [(4, .int (0 : Int32)), (3, .int s0), (0, .int v0)]) hx hb dX10_pick_18 hl (by decide) rfl (fun ls hl => ?_)
    exact B20 n s0 (0 : Int32) μ _ _ _ hw (lv_sub hl [2, 1, 0] rfl) h
  refine lv_iload_n hx hb dX10_pick_0 rfl (lv_at hl 0 rfl) ?_
  obtain ⟨r1, hr1, h⟩ := bnd h
  refine cS (As := [.int v0]) (rest := []) (st1 := [.int r1.1]) hC hw (c_J6_bitCount_0f7a4 l g n v0 μ r1 hr1) ml_X10_74 st_J6_bitCount_0f7a4 rfl hl.1 ⟨Nat.le_of_ble_eq_true rfl, Nat.le_of_ble_eq_true rfl⟩ (Nat.le_of_ble_eq_true rfl) ⟨Nat.zero_le _, Nat.zero_le _⟩ rfl dX10_pick_1 (fun H locs hw => ?_)
  refine lv_istore_n (lv' := [(2, .int r1.1), (0, .int v0), (1, .int v1)]) hx hb dX10_pick_4 rfl hl (by decide) rfl (fun ls hl => ?_)
  refine lv_iload_n hx hb dX10_pick_5 rfl (lv_at hl 0 rfl) ?_
  refine lv_if_ne (tgt := 13) hx hb dX10_pick_6 (by decide) (fun hc => ?_) (fun hc => ?_)
  · rw [if_neg hc] at h
    refine lv_iload_n hx hb dX10_pick_13 rfl (lv_at hl 2 rfl) ?_
    refine lv_iload_n hx hb dX10_pick_14 rfl (lv_at hl 0 rfl) ?_
    obtain ⟨hd15, h⟩ := dv_some h
    refine lv_irem hx hb dX10_pick_15 hd15 ?_
    exact B16 (v1 - v1 / r1.1 * r1.1) r1.2 _ _ _ hw (lv_sub hl [1] rfl) h
  · rw [if_pos hc] at h
    refine lv_iconst (v := (0 : Int32)) hx hb dX10_pick_9 (by decide) ?_
    refine lv_goto (tgt := 16) hx hb dX10_pick_10 (by decide) ?_
    exact B16 (0 : Int32) r1.2 _ _ _ hw (lv_sub hl [1] rfl) h
set_option maxRecDepth 100000 in
set_option maxHeartbeats 4000000 in
theorem c_X11_undo (l : Launch) (g : Gw) (n : Nat) (μ : Mu) (r : Int32 × Mu) (h : X11_undo n  μ = some r) : Ct l g yX11_undo cX11_undo 1 (some .boolean) 3 [.ref (g.2.2 0)] μ (some (.int r.1)) r.2 := by
  rw [X11_undo] at h
  refine Ct.of (by decide) (Nat.le_of_ble_eq_true rfl) ?_
  intro p e s m args below meth c ls hC hw hr hlocks hl
  have hx := hC.1
  have hb := hC.2.1
  have hl : lv_has ls 1 [(0, .ref (g.2.2 0))] := hl
  refine lv_aload_n hx hb dX11_undo_0 rfl (lv_at hl 0 rfl) ?_
  refine gR (t := 9) hC hw fl_X11_47 ok0 (by decide) ot0_5 dX11_undo_1 ?_
  refine gI hC hw fl_X11_197 ok9 (by decide) dX11_undo_4 ?_
  refine lv_if_ne (tgt := 12) hx hb dX11_undo_7 (by decide) (fun hc => ?_) (fun hc => ?_)
  · rw [if_neg hc] at h
    refine lv_aload_n hx hb dX11_undo_12 rfl (lv_at hl 0 rfl) ?_
    refine gR (t := 9) hC hw fl_X11_47 ok0 (by decide) ot0_5 dX11_undo_13 ?_
    refine lv_aload_n hx hb dX11_undo_16 rfl (lv_at hl 0 rfl) ?_
    refine gR (t := 53) hC hw fl_X11_37 ok0 (by decide) ot0_3 dX11_undo_17 ?_
    obtain ⟨r20, hr20, h⟩ := bnd h
    refine cV (b := 9) (As := [.ref (g.2.2 53)]) (rest := []) (st1 := []) hC hw (c_X3_back l g n 53 μ r20 hr20) ml_X11_200 im_X3_back se_X3_back ok9 (CN := RX3) (T := TX3) (NF := 5) rfl rfl (by decide) rfl hl.1 ⟨Nat.le_of_ble_eq_true rfl, Nat.le_of_ble_eq_true rfl⟩ (Nat.le_of_ble_eq_true rfl) ⟨Nat.zero_le _, Nat.zero_le _⟩ rfl dX11_undo_20 (fun H locs hw => ?_)
    refine lv_iconst (v := (1 : Int32)) hx hb dX11_undo_23 (by decide) ?_
    exact rZ hC hw hr hlocks (Or.inr rfl) (by rw [← Option.some.inj h]) (by rw [← Option.some.inj h]) dX11_undo_24
  · rw [if_pos hc] at h
    refine lv_iconst (v := (0 : Int32)) hx hb dX11_undo_10 (by decide) ?_
    exact rZ hC hw hr hlocks (Or.inl rfl) (by rw [← Option.some.inj h]) (by rw [← Option.some.inj h]) dX11_undo_11
set_option maxRecDepth 100000 in
set_option maxHeartbeats 4000000 in
theorem c_X11_redo (l : Launch) (g : Gw) (n : Nat) (μ : Mu) (r : Int32 × Mu) (h : X11_redo n  μ = some r) : Ct l g yX11_redo cX11_redo 1 (some .boolean) 3 [.ref (g.2.2 0)] μ (some (.int r.1)) r.2 := by
  rw [X11_redo] at h
  refine Ct.of (by decide) (Nat.le_of_ble_eq_true rfl) ?_
  intro p e s m args below meth c ls hC hw hr hlocks hl
  have hx := hC.1
  have hb := hC.2.1
  have hl : lv_has ls 1 [(0, .ref (g.2.2 0))] := hl
  refine lv_aload_n hx hb dX11_redo_0 rfl (lv_at hl 0 rfl) ?_
  refine gR (t := 9) hC hw fl_X11_47 ok0 (by decide) ot0_5 dX11_redo_1 ?_
  refine gI hC hw fl_X11_203 ok9 (by decide) dX11_redo_4 ?_
  refine lv_if_ne (tgt := 12) hx hb dX11_redo_7 (by decide) (fun hc => ?_) (fun hc => ?_)
  · rw [if_neg hc] at h
    refine lv_aload_n hx hb dX11_redo_12 rfl (lv_at hl 0 rfl) ?_
    refine gR (t := 6) hC hw fl_X11_30 ok0 (by decide) ot0_2 dX11_redo_13 ?_
    refine lv_aload_n hx hb dX11_redo_16 rfl (lv_at hl 0 rfl) ?_
    refine gR (t := 53) hC hw fl_X11_37 ok0 (by decide) ot0_3 dX11_redo_17 ?_
    refine lv_aload_n hx hb dX11_redo_20 rfl (lv_at hl 0 rfl) ?_
    refine gR (t := 9) hC hw fl_X11_47 ok0 (by decide) ot0_5 dX11_redo_21 ?_
    obtain ⟨r24, hr24, h⟩ := bnd h
    refine cV (b := 9) (As := []) (rest := [.ref (g.2.2 53), .ref (g.2.2 6)]) (st1 := [.int r24.1, .ref (g.2.2 53), .ref (g.2.2 6)]) hC hw (c_X3_again l g n μ r24 hr24) ml_X11_206 im_X3_again se_X3_again ok9 (CN := RX3) (T := TX3) (NF := 5) rfl rfl (by decide) rfl hl.1 ⟨Nat.le_of_ble_eq_true rfl, Nat.le_of_ble_eq_true rfl⟩ (Nat.le_of_ble_eq_true rfl) ⟨Nat.zero_le _, Nat.zero_le _⟩ rfl dX11_redo_24 (fun H locs hw => ?_)
    obtain ⟨r27, hr27, h⟩ := bnd h
    refine cV (b := 6) (As := [.ref (g.2.2 53), .int r24.1]) (rest := []) (st1 := [.int r27.1]) hC hw (c_X8_sow l g n 53 r24.1 r24.2 r27 hr27) ml_X11_164 im_X8_sow se_X8_sow ok6 (CN := RX8) (T := TX8) (NF := 8) rfl rfl (by decide) rfl hl.1 ⟨Nat.le_of_ble_eq_true rfl, Nat.le_of_ble_eq_true rfl⟩ (Nat.le_of_ble_eq_true rfl) ⟨Nat.zero_le _, Nat.zero_le _⟩ rfl dX11_redo_27 (fun H locs hw => ?_)
    refine lv_pop hx hb dX11_redo_30 rfl ?_
    refine lv_iconst (v := (1 : Int32)) hx hb dX11_redo_31 (by decide) ?_
    exact rZ hC hw hr hlocks (Or.inr rfl) (by rw [← Option.some.inj h]) (by rw [← Option.some.inj h]) dX11_redo_32
  · rw [if_pos hc] at h
    refine lv_iconst (v := (0 : Int32)) hx hb dX11_redo_10 (by decide) ?_
    exact rZ hC hw hr hlocks (Or.inl rfl) (by rw [← Option.some.inj h]) (by rw [← Option.some.inj h]) dX11_redo_11
set_option maxRecDepth 100000 in
set_option maxHeartbeats 4000000 in
theorem c_X11_over (l : Launch) (g : Gw) (n : Nat) (μ : Mu) (r : Int32 × Mu) (h : X11_over n  μ = some r) : Ct l g yX11_over cX11_over 1 (some .boolean) 5 [.ref (g.2.2 0)] μ (some (.int r.1)) r.2 := by
  rw [X11_over] at h
  refine Ct.of (by decide) (Nat.le_of_ble_eq_true rfl) ?_
  intro p e s m args below meth c ls hC hw hr hlocks hl
  have hx := hC.1
  have hb := hC.2.1
  have hl : lv_has ls 1 [(0, .ref (g.2.2 0))] := hl
  refine lv_aload_n hx hb dX11_over_0 rfl (lv_at hl 0 rfl) ?_
  refine gR (t := 6) hC hw fl_X11_30 ok0 (by decide) ot0_2 dX11_over_1 ?_
  refine lv_aload_n hx hb dX11_over_4 rfl (lv_at hl 0 rfl) ?_
  refine gR (t := 53) hC hw fl_X11_37 ok0 (by decide) ot0_3 dX11_over_5 ?_
  obtain ⟨r8, hr8, h⟩ := bnd h
  refine cV (b := 6) (As := [.ref (g.2.2 53)]) (rest := []) (st1 := [.int r8.1]) hC hw (c_X8_isOver l g n 53 μ r8 hr8) ml_X11_210 im_X8_isOver se_X8_isOver ok6 (CN := RX8) (T := TX8) (NF := 8) rfl rfl (by decide) rfl hl.1 ⟨Nat.le_of_ble_eq_true rfl, Nat.le_of_ble_eq_true rfl⟩ (Nat.le_of_ble_eq_true rfl) ⟨Nat.zero_le _, Nat.zero_le _⟩ rfl dX11_over_8 (fun H locs hw => ?_)
  obtain ⟨hz11, h⟩ := bz_some h
  exact rZ hC hw hr hlocks hz11 (by rw [← Option.some.inj h]) (by rw [← Option.some.inj h]) dX11_over_11
set_option maxRecDepth 100000 in
set_option maxHeartbeats 4000000 in
theorem c_X11_score (l : Launch) (g : Gw) (n : Nat) (μ : Mu) (r : Int32 × Mu) (h : X11_score n  μ = some r) : Ct l g yX11_score cX11_score 1 (some .int) 6 [.ref (g.2.2 0)] μ (some (.int r.1)) r.2 := by
  rw [X11_score] at h
  refine Ct.of (by decide) (Nat.le_of_ble_eq_true rfl) ?_
  intro p e s m args below meth c ls hC hw hr hlocks hl
  have hx := hC.1
  have hb := hC.2.1
  have hl : lv_has ls 1 [(0, .ref (g.2.2 0))] := hl
  refine lv_aload_n hx hb dX11_score_0 rfl (lv_at hl 0 rfl) ?_
  refine gR (t := 6) hC hw fl_X11_30 ok0 (by decide) ot0_2 dX11_score_1 ?_
  refine lv_aload_n hx hb dX11_score_4 rfl (lv_at hl 0 rfl) ?_
  refine gR (t := 53) hC hw fl_X11_37 ok0 (by decide) ot0_3 dX11_score_5 ?_
  obtain ⟨r8, hr8, h⟩ := bnd h
  refine cV (b := 6) (As := [.ref (g.2.2 53)]) (rest := []) (st1 := [.int r8.1]) hC hw (c_X8_scoreOf l g n 53 μ r8 hr8) ml_X11_214 im_X8_scoreOf se_X8_scoreOf ok6 (CN := RX8) (T := TX8) (NF := 8) rfl rfl (by decide) rfl hl.1 ⟨Nat.le_of_ble_eq_true rfl, Nat.le_of_ble_eq_true rfl⟩ (Nat.le_of_ble_eq_true rfl) ⟨Nat.zero_le _, Nat.zero_le _⟩ rfl dX11_score_8 (fun H locs hw => ?_)
  exact rI hC hw hr hlocks (by rw [← Option.some.inj h]) (by rw [← Option.some.inj h]) dX11_score_11
set_option maxRecDepth 100000 in
set_option maxHeartbeats 4000000 in
theorem c_X11_count (l : Launch) (g : Gw) (n : Nat) (v1 : Int32) (μ : Mu) (r : Int32 × Mu) (h : X11_count n v1 μ = some r) : Ct l g yX11_count cX11_count 2 (some .int) 1 [.ref (g.2.2 0), .int v1] μ (some (.int r.1)) r.2 := by
  rw [X11_count] at h
  refine Ct.of (by decide) (Nat.le_of_ble_eq_true rfl) ?_
  intro p e s m args below meth c ls hC hw hr hlocks hl
  have hx := hC.1
  have hb := hC.2.1
  have hl : lv_has ls 2 [(0, .ref (g.2.2 0)), (1, .int v1)] := hl
  refine lv_iload_n hx hb dX11_count_0 rfl (lv_at hl 1 rfl) ?_
  by_cases hs1_0 : v1 = (0 : Int32)
  · rw [if_pos hs1_0] at h
    refine lv_tableIn (off := 43) (tgt := 44) hx hb dX11_count_1 (by rw [hs1_0]; decide) (by rw [hs1_0]; decide) (by rw [hs1_0]; decide) (by decide) ?_
    refine lv_aload_n hx hb dX11_count_44 rfl (lv_at hl 0 rfl) ?_
    refine gR (t := 1) hC hw fl_X11_12 ok0 (by decide) ot0_0 dX11_count_45 ?_
    refine gI hC hw fl_X11_128 ok1 (by decide) dX11_count_48 ?_
    exact rI hC hw hr hlocks (by rw [← Option.some.inj h]) (by rw [← Option.some.inj h]) dX11_count_51
  rw [if_neg hs1_0] at h
  by_cases hs1_1 : v1 = (1 : Int32)
  · rw [if_pos hs1_1] at h
    refine lv_tableIn (off := 51) (tgt := 52) hx hb dX11_count_1 (by rw [hs1_1]; decide) (by rw [hs1_1]; decide) (by rw [hs1_1]; decide) (by decide) ?_
    refine lv_aload_n hx hb dX11_count_52 rfl (lv_at hl 0 rfl) ?_
    refine gR (t := 1) hC hw fl_X11_12 ok0 (by decide) ot0_0 dX11_count_53 ?_
    refine gI hC hw fl_X11_134 ok1 (by decide) dX11_count_56 ?_
    exact rI hC hw hr hlocks (by rw [← Option.some.inj h]) (by rw [← Option.some.inj h]) dX11_count_59
  rw [if_neg hs1_1] at h
  by_cases hs1_2 : v1 = (2 : Int32)
  · rw [if_pos hs1_2] at h
    refine lv_tableIn (off := 59) (tgt := 60) hx hb dX11_count_1 (by rw [hs1_2]; decide) (by rw [hs1_2]; decide) (by rw [hs1_2]; decide) (by decide) ?_
    refine lv_aload_n hx hb dX11_count_60 rfl (lv_at hl 0 rfl) ?_
    refine gR (t := 53) hC hw fl_X11_37 ok0 (by decide) ot0_3 dX11_count_61 ?_
    obtain ⟨r64, hr64, h⟩ := bnd h
    refine cV (b := 53) (As := []) (rest := []) (st1 := [.int r64.1]) hC hw (c_X6_inPits l g n 53 μ r64 hr64) ml_X11_236 im_X6_inPits se_X6_inPits ok53 (CN := RX6) (T := TX6) (NF := 2) rfl rfl (by decide) rfl hl.1 ⟨Nat.le_of_ble_eq_true rfl, Nat.le_of_ble_eq_true rfl⟩ (Nat.le_of_ble_eq_true rfl) ⟨Nat.zero_le _, Nat.zero_le _⟩ rfl dX11_count_64 (fun H locs hw => ?_)
    exact rI hC hw hr hlocks (by rw [← Option.some.inj h]) (by rw [← Option.some.inj h]) dX11_count_67
  rw [if_neg hs1_2] at h
  by_cases hs1_3 : v1 = (3 : Int32)
  · rw [if_pos hs1_3] at h
    refine lv_tableIn (off := 67) (tgt := 68) hx hb dX11_count_1 (by rw [hs1_3]; decide) (by rw [hs1_3]; decide) (by rw [hs1_3]; decide) (by decide) ?_
    refine lv_aload_n hx hb dX11_count_68 rfl (lv_at hl 0 rfl) ?_
    refine gR (t := 1) hC hw fl_X11_12 ok0 (by decide) ot0_0 dX11_count_69 ?_
    refine gI hC hw fl_X11_387 ok1 (by decide) dX11_count_72 ?_
    obtain ⟨r75, hr75, h⟩ := bnd h
    refine cS (As := [.int (μ.1 1 2)]) (rest := []) (st1 := [.int r75.1]) hC hw (c_J6_bitCount_0f7a4 l g n (μ.1 1 2) μ r75 hr75) ml_X11_293 st_J6_bitCount_0f7a4 rfl hl.1 ⟨Nat.le_of_ble_eq_true rfl, Nat.le_of_ble_eq_true rfl⟩ (Nat.le_of_ble_eq_true rfl) ⟨Nat.zero_le _, Nat.zero_le _⟩ rfl dX11_count_75 (fun H locs hw => ?_)
    exact rI hC hw hr hlocks (by rw [← Option.some.inj h]) (by rw [← Option.some.inj h]) dX11_count_78
  rw [if_neg hs1_3] at h
  by_cases hs1_4 : v1 = (4 : Int32)
  · rw [if_pos hs1_4] at h
    refine lv_tableIn (off := 78) (tgt := 79) hx hb dX11_count_1 (by rw [hs1_4]; decide) (by rw [hs1_4]; decide) (by rw [hs1_4]; decide) (by decide) ?_
    refine lv_aload_n hx hb dX11_count_79 rfl (lv_at hl 0 rfl) ?_
    refine gR (t := 9) hC hw fl_X11_47 ok0 (by decide) ot0_5 dX11_count_80 ?_
    refine gI hC hw fl_X11_197 ok9 (by decide) dX11_count_83 ?_
    exact rI hC hw hr hlocks (by rw [← Option.some.inj h]) (by rw [← Option.some.inj h]) dX11_count_86
  rw [if_neg hs1_4] at h
  by_cases hs1_5 : v1 = (5 : Int32)
  · rw [if_pos hs1_5] at h
    refine lv_tableIn (off := 86) (tgt := 87) hx hb dX11_count_1 (by rw [hs1_5]; decide) (by rw [hs1_5]; decide) (by rw [hs1_5]; decide) (by decide) ?_
    refine lv_aload_n hx hb dX11_count_87 rfl (lv_at hl 0 rfl) ?_
    refine gR (t := 9) hC hw fl_X11_47 ok0 (by decide) ot0_5 dX11_count_88 ?_
    refine gI hC hw fl_X11_203 ok9 (by decide) dX11_count_91 ?_
    exact rI hC hw hr hlocks (by rw [← Option.some.inj h]) (by rw [← Option.some.inj h]) dX11_count_94
  rw [if_neg hs1_5] at h
  by_cases hs1_6 : v1 = (6 : Int32)
  · rw [if_pos hs1_6] at h
    refine lv_tableIn (off := 94) (tgt := 95) hx hb dX11_count_1 (by rw [hs1_6]; decide) (by rw [hs1_6]; decide) (by rw [hs1_6]; decide) (by decide) ?_
    refine lv_aload_n hx hb dX11_count_95 rfl (lv_at hl 0 rfl) ?_
    refine gR (t := 12) hC hw fl_X11_54 ok0 (by decide) ot0_6 dX11_count_96 ?_
    refine gI hC hw fl_X11_99 ok12 (by decide) dX11_count_99 ?_
    exact rI hC hw hr hlocks (by rw [← Option.some.inj h]) (by rw [← Option.some.inj h]) dX11_count_102
  rw [if_neg hs1_6] at h
  have ht0 := lv_neT (a := 0) hs1_0 (by decide)
  have ht1 := lv_neT (a := 1) hs1_1 (by decide)
  have ht2 := lv_neT (a := 2) hs1_2 (by decide)
  have ht3 := lv_neT (a := 3) hs1_3 (by decide)
  have ht4 := lv_neT (a := 4) hs1_4 (by decide)
  have ht5 := lv_neT (a := 5) hs1_5 (by decide)
  have ht6 := lv_neT (a := 6) hs1_6 (by decide)
  refine lv_tableOut (tgt := 103) hx hb dX11_count_1 (by omega) (by decide) ?_
  refine lv_iconst (v := ((-1) : Int32)) hx hb dX11_count_103 (by decide) ?_
  exact rI hC hw hr hlocks (by rw [← Option.some.inj h]) (by rw [← Option.some.inj h]) dX11_count_104
set_option maxRecDepth 100000 in
set_option maxHeartbeats 4000000 in
theorem c_X11_isNotable (l : Launch) (g : Gw) (n : Nat) (v1 : Int32) (v2 : Int32) (μ : Mu) (r : Int32 × Mu) (h : X11_isNotable n v1 v2 μ = some r) : Ct l g yX11_isNotable cX11_isNotable 3 (some .boolean) 3 [.ref (g.2.2 0), .int v1, .int v2] μ (some (.int r.1)) r.2 := by
  rw [X11_isNotable] at h
  refine Ct.of (by decide) (Nat.le_of_ble_eq_true rfl) ?_
  intro p e s m args below meth c ls hC hw hr hlocks hl
  have hx := hC.1
  have hb := hC.2.1
  have hl : lv_has ls 3 [(0, .ref (g.2.2 0)), (1, .int v1), (2, .int v2)] := hl
  have B69 : ∀ (s0 : Int32) (μ : Mu) (H : Heap) (locs : List Loc) (ls : Array Slot), wd g μ s (Aw g s.heap.size) H locs → lv_has ls 3 [] → X11_isNotable_69 n v1 v2 s0 μ = some r → WQ p l e (rmD 3) s m args below meth c g (some (.int r.1)) r.2 H locs (F0 m 69 ls [.int s0]) := by
    intro s0 μ H locs ls hw hl h
    rw [X11_isNotable_69] at h
    obtain ⟨hz69, h⟩ := bz_some h
    exact rZ hC hw hr hlocks hz69 (by rw [← Option.some.inj h]) (by rw [← Option.some.inj h]) dX11_isNotable_69
  have B85 : ∀ (s0 : Int32) (μ : Mu) (H : Heap) (locs : List Loc) (ls : Array Slot), wd g μ s (Aw g s.heap.size) H locs → lv_has ls 3 [] → X11_isNotable_85 n v1 v2 s0 μ = some r → WQ p l e (rmD 3) s m args below meth c g (some (.int r.1)) r.2 H locs (F0 m 85 ls [.int s0]) := by
    intro s0 μ H locs ls hw hl h
    rw [X11_isNotable_85] at h
    obtain ⟨hz85, h⟩ := bz_some h
    exact rZ hC hw hr hlocks hz85 (by rw [← Option.some.inj h]) (by rw [← Option.some.inj h]) dX11_isNotable_85
  have B117 : ∀ (s0 : Int32) (μ : Mu) (H : Heap) (locs : List Loc) (ls : Array Slot), wd g μ s (Aw g s.heap.size) H locs → lv_has ls 3 [] → X11_isNotable_117 n v1 v2 s0 μ = some r → WQ p l e (rmD 3) s m args below meth c g (some (.int r.1)) r.2 H locs (F0 m 117 ls [.int s0]) := by
    intro s0 μ H locs ls hw hl h
    rw [X11_isNotable_117] at h
    obtain ⟨hz117, h⟩ := bz_some h
    exact rZ hC hw hr hlocks hz117 (by rw [← Option.some.inj h]) (by rw [← Option.some.inj h]) dX11_isNotable_117
  refine lv_aload_n hx hb dX11_isNotable_0 rfl (lv_at hl 0 rfl) ?_
  refine gR (t := 55) hC hw fl_X11_41 ok0 (by decide) ot0_4 dX11_isNotable_1 ?_
  refine lv_aload_n hx hb dX11_isNotable_4 rfl (lv_at hl 0 rfl) ?_
  refine gR (t := 53) hC hw fl_X11_37 ok0 (by decide) ot0_3 dX11_isNotable_5 ?_
  obtain ⟨r8, hr8, h⟩ := bnd h
  refine cV (b := 55) (As := [.ref (g.2.2 53)]) (rest := []) (st1 := []) hC hw (c_X6_copy l g n 55 53 μ r8 hr8) ml_X11_177 im_X6_copy se_X6_copy ok55 (CN := RX6) (T := TX6) (NF := 2) rfl rfl (by decide) rfl hl.1 ⟨Nat.le_of_ble_eq_true rfl, Nat.le_of_ble_eq_true rfl⟩ (Nat.le_of_ble_eq_true rfl) ⟨Nat.zero_le _, Nat.zero_le _⟩ rfl dX11_isNotable_8 (fun H locs hw => ?_)
  refine lv_aload_n hx hb dX11_isNotable_11 rfl (lv_at hl 0 rfl) ?_
  refine gR (t := 6) hC hw fl_X11_30 ok0 (by decide) ot0_2 dX11_isNotable_12 ?_
  refine lv_aload_n hx hb dX11_isNotable_15 rfl (lv_at hl 0 rfl) ?_
  refine gR (t := 55) hC hw fl_X11_41 ok0 (by decide) ot0_4 dX11_isNotable_16 ?_
  refine lv_iload_n hx hb dX11_isNotable_19 rfl (lv_at hl 1 rfl) ?_
  obtain ⟨r20, hr20, h⟩ := bnd h
  refine cV (b := 6) (As := [.ref (g.2.2 55), .int v1]) (rest := []) (st1 := [.int r20.1]) hC hw (c_X8_sow l g n 55 v1 r8.2 r20 hr20) ml_X11_164 im_X8_sow se_X8_sow ok6 (CN := RX8) (T := TX8) (NF := 8) rfl rfl (by decide) rfl hl.1 ⟨Nat.le_of_ble_eq_true rfl, Nat.le_of_ble_eq_true rfl⟩ (Nat.le_of_ble_eq_true rfl) ⟨Nat.zero_le _, Nat.zero_le _⟩ rfl dX11_isNotable_20 (fun H locs hw => ?_)
  refine lv_pop hx hb dX11_isNotable_23 rfl ?_
  refine lv_iload_n hx hb dX11_isNotable_24 rfl (lv_at hl 2 rfl) ?_
  by_cases hs25_0 : v2 = (0 : Int32)
  · rw [if_pos hs25_0] at h
    refine lv_lookup (off := 27) (tgt := 52) hx hb dX11_isNotable_25 (by decide) (by rw [hs25_0]; decide) (by decide) ?_
    refine lv_aload_n hx hb dX11_isNotable_52 rfl (lv_at hl 0 rfl) ?_
    refine gR (t := 6) hC hw fl_X11_30 ok0 (by decide) ot0_2 dX11_isNotable_53 ?_
    refine gI hC hw fl_X11_186 ok6 (by decide) dX11_isNotable_56 ?_
    refine lv_bipush (v := (12 : Int32)) hx hb dX11_isNotable_59 (by decide) ?_
    refine lv_icmp_lt (tgt := 68) hx hb dX11_isNotable_61 (by decide) (fun hc => ?_) (fun hc => ?_)
    · rw [if_pos hc] at h
      refine lv_iconst (v := (0 : Int32)) hx hb dX11_isNotable_68 (by decide) ?_
      exact B69 (0 : Int32) r20.2 _ _ _ hw (lv_sub hl [] rfl) h
    · rw [if_neg hc] at h
      refine lv_iconst (v := (1 : Int32)) hx hb dX11_isNotable_64 (by decide) ?_
      refine lv_goto (tgt := 69) hx hb dX11_isNotable_65 (by decide) ?_
      exact B69 (1 : Int32) r20.2 _ _ _ hw (lv_sub hl [] rfl) h
  rw [if_neg hs25_0] at h
  by_cases hs25_1 : v2 = (1 : Int32)
  · rw [if_pos hs25_1] at h
    refine lv_lookup (off := 45) (tgt := 70) hx hb dX11_isNotable_25 (by decide) (by rw [hs25_1]; decide) (by decide) ?_
    refine lv_aload_n hx hb dX11_isNotable_70 rfl (lv_at hl 0 rfl) ?_
    refine gR (t := 6) hC hw fl_X11_30 ok0 (by decide) ot0_2 dX11_isNotable_71 ?_
    refine gI hC hw fl_X11_192 ok6 (by decide) dX11_isNotable_74 ?_
    refine lv_if_le (tgt := 84) hx hb dX11_isNotable_77 (by decide) (fun hc => ?_) (fun hc => ?_)
    · rw [if_pos hc] at h
      refine lv_iconst (v := (0 : Int32)) hx hb dX11_isNotable_84 (by decide) ?_
      exact B85 (0 : Int32) r20.2 _ _ _ hw (lv_sub hl [] rfl) h
    · rw [if_neg hc] at h
      refine lv_iconst (v := (1 : Int32)) hx hb dX11_isNotable_80 (by decide) ?_
      refine lv_goto (tgt := 85) hx hb dX11_isNotable_81 (by decide) ?_
      exact B85 (1 : Int32) r20.2 _ _ _ hw (lv_sub hl [] rfl) h
  rw [if_neg hs25_1] at h
  refine lv_lookup (off := 61) (tgt := 86) hx hb dX11_isNotable_25 (by decide) (by rw [lv_osw hs25_0 (by decide), lv_osw hs25_1 (by decide)]; rfl) (by decide) ?_
  refine lv_aload_n hx hb dX11_isNotable_86 rfl (lv_at hl 0 rfl) ?_
  refine gR (t := 55) hC hw fl_X11_41 ok0 (by decide) ot0_4 dX11_isNotable_87 ?_
  refine lv_iconst (v := (1 : Int32)) hx hb dX11_isNotable_90 (by decide) ?_
  refine lv_aload_n hx hb dX11_isNotable_91 rfl (lv_at hl 0 rfl) ?_
  refine gR (t := 53) hC hw fl_X11_37 ok0 (by decide) ot0_3 dX11_isNotable_92 ?_
  refine gI hC hw fl_X11_153 ok53 (by decide) dX11_isNotable_95 ?_
  refine lv_isub hx hb dX11_isNotable_98 ?_
  refine lv_aload_n hx hb dX11_isNotable_99 rfl (lv_at hl 0 rfl) ?_
  refine gR (t := 1) hC hw fl_X11_12 ok0 (by decide) ot0_0 dX11_isNotable_100 ?_
  refine gI hC hw fl_X11_134 ok1 (by decide) dX11_isNotable_103 ?_
  obtain ⟨r106, hr106, h⟩ := bnd h
  refine cV (b := 55) (As := [.int ((1 : Int32) - (r20.2.1 53 1)), .int (r20.2.1 1 1)]) (rest := []) (st1 := [.int r106.1]) hC hw (c_X6_inRow l g n 55 ((1 : Int32) - (r20.2.1 53 1)) (r20.2.1 1 1) r20.2 r106 hr106) ml_X11_414 im_X6_inRow se_X6_inRow ok55 (CN := RX6) (T := TX6) (NF := 2) rfl rfl (by decide) rfl hl.1 ⟨Nat.le_of_ble_eq_true rfl, Nat.le_of_ble_eq_true rfl⟩ (Nat.le_of_ble_eq_true rfl) ⟨Nat.zero_le _, Nat.zero_le _⟩ rfl dX11_isNotable_106 (fun H locs hw => ?_)
  refine lv_if_ne (tgt := 116) hx hb dX11_isNotable_109 (by decide) (fun hc => ?_) (fun hc => ?_)
  · rw [if_neg hc] at h
    refine lv_iconst (v := (0 : Int32)) hx hb dX11_isNotable_116 (by decide) ?_
    exact B117 (0 : Int32) r106.2 _ _ _ hw (lv_sub hl [] rfl) h
  · rw [if_pos hc] at h
    refine lv_iconst (v := (1 : Int32)) hx hb dX11_isNotable_112 (by decide) ?_
    refine lv_goto (tgt := 117) hx hb dX11_isNotable_113 (by decide) ?_
    exact B117 (1 : Int32) r106.2 _ _ _ hw (lv_sub hl [] rfl) h
set_option maxRecDepth 100000 in
set_option maxHeartbeats 4000000 in
theorem c_X11_toldOfPlay (l : Launch) (g : Gw) (n : Nat) (v1 : Int32) (μ : Mu) (r : Int32 × Mu) (h : X11_toldOfPlay n v1 μ = some r) : Ct l g yX11_toldOfPlay cX11_toldOfPlay 2 (some .int) 6 [.ref (g.2.2 0), .int v1] μ (some (.int r.1)) r.2 := by
  rw [X11_toldOfPlay] at h
  refine Ct.of (by decide) (Nat.le_of_ble_eq_true rfl) ?_
  intro p e s m args below meth c ls hC hw hr hlocks hl
  have hx := hC.1
  have hb := hC.2.1
  have hl : lv_has ls 2 [(0, .ref (g.2.2 0)), (1, .int v1)] := hl
  have B73 : ∀ (s0 : Int32) (μ : Mu) (H : Heap) (locs : List Loc) (ls : Array Slot), wd g μ s (Aw g s.heap.size) H locs → lv_has ls 2 [] → X11_toldOfPlay_73 n v1 s0 μ = some r → WQ p l e (rmD 6) s m args below meth c g (some (.int r.1)) r.2 H locs (F0 m 73 ls [.int s0]) := by
    intro s0 μ H locs ls hw hl h
    rw [X11_toldOfPlay_73] at h
    exact rI hC hw hr hlocks (by rw [← Option.some.inj h]) (by rw [← Option.some.inj h]) dX11_toldOfPlay_73
  refine lv_iload_n hx hb dX11_toldOfPlay_0 rfl (lv_at hl 1 rfl) ?_
  by_cases hs1_0 : v1 = (0 : Int32)
  · rw [if_pos hs1_0] at h
    refine lv_lookup (off := 27) (tgt := 28) hx hb dX11_toldOfPlay_1 (by decide) (by rw [hs1_0]; decide) (by decide) ?_
    refine lv_aload_n hx hb dX11_toldOfPlay_28 rfl (lv_at hl 0 rfl) ?_
    refine gR (t := 6) hC hw fl_X11_30 ok0 (by decide) ot0_2 dX11_toldOfPlay_29 ?_
    refine lv_aload_n hx hb dX11_toldOfPlay_32 rfl (lv_at hl 0 rfl) ?_
    refine gR (t := 22) hC hw fl_X11_72 ok0 (by decide) ot0_8 dX11_toldOfPlay_33 ?_
    refine gR (t := 153) hC hw fl_X11_312 ok22 (by decide) ot22_0 dX11_toldOfPlay_36 ?_
    obtain ⟨r39, hr39, h⟩ := bnd h
    refine cV (b := 6) (As := [.ref (g.2.2 153)]) (rest := []) (st1 := [.int r39.1]) hC hw (c_X8_scoreOf l g n 153 μ r39 hr39) ml_X11_214 im_X8_scoreOf se_X8_scoreOf ok6 (CN := RX8) (T := TX8) (NF := 8) rfl rfl (by decide) rfl hl.1 ⟨Nat.le_of_ble_eq_true rfl, Nat.le_of_ble_eq_true rfl⟩ (Nat.le_of_ble_eq_true rfl) ⟨Nat.zero_le _, Nat.zero_le _⟩ rfl dX11_toldOfPlay_39 (fun H locs hw => ?_)
    exact rI hC hw hr hlocks (by rw [← Option.some.inj h]) (by rw [← Option.some.inj h]) dX11_toldOfPlay_42
  rw [if_neg hs1_0] at h
  by_cases hs1_1 : v1 = (1 : Int32)
  · rw [if_pos hs1_1] at h
    refine lv_lookup (off := 42) (tgt := 43) hx hb dX11_toldOfPlay_1 (by decide) (by rw [hs1_1]; decide) (by decide) ?_
    refine lv_aload_n hx hb dX11_toldOfPlay_43 rfl (lv_at hl 0 rfl) ?_
    refine gR (t := 22) hC hw fl_X11_72 ok0 (by decide) ot0_8 dX11_toldOfPlay_44 ?_
    refine gI hC hw fl_X11_319 ok22 (by decide) dX11_toldOfPlay_47 ?_
    exact rI hC hw hr hlocks (by rw [← Option.some.inj h]) (by rw [← Option.some.inj h]) dX11_toldOfPlay_50
  rw [if_neg hs1_1] at h
  refine lv_lookup (off := 50) (tgt := 51) hx hb dX11_toldOfPlay_1 (by decide) (by rw [lv_osw hs1_0 (by decide), lv_osw hs1_1 (by decide)]; rfl) (by decide) ?_
  refine lv_aload_n hx hb dX11_toldOfPlay_51 rfl (lv_at hl 0 rfl) ?_
  refine gR (t := 6) hC hw fl_X11_30 ok0 (by decide) ot0_2 dX11_toldOfPlay_52 ?_
  refine lv_aload_n hx hb dX11_toldOfPlay_55 rfl (lv_at hl 0 rfl) ?_
  refine gR (t := 22) hC hw fl_X11_72 ok0 (by decide) ot0_8 dX11_toldOfPlay_56 ?_
  refine gR (t := 153) hC hw fl_X11_312 ok22 (by decide) ot22_0 dX11_toldOfPlay_59 ?_
  obtain ⟨r62, hr62, h⟩ := bnd h
  refine cV (b := 6) (As := [.ref (g.2.2 153)]) (rest := []) (st1 := [.int r62.1]) hC hw (c_X8_isOver l g n 153 μ r62 hr62) ml_X11_210 im_X8_isOver se_X8_isOver ok6 (CN := RX8) (T := TX8) (NF := 8) rfl rfl (by decide) rfl hl.1 ⟨Nat.le_of_ble_eq_true rfl, Nat.le_of_ble_eq_true rfl⟩ (Nat.le_of_ble_eq_true rfl) ⟨Nat.zero_le _, Nat.zero_le _⟩ rfl dX11_toldOfPlay_62 (fun H locs hw => ?_)
  refine lv_if_eq (tgt := 72) hx hb dX11_toldOfPlay_65 (by decide) (fun hc => ?_) (fun hc => ?_)
  · rw [if_pos hc] at h
    refine lv_iconst (v := (0 : Int32)) hx hb dX11_toldOfPlay_72 (by decide) ?_
    exact B73 (0 : Int32) r62.2 _ _ _ hw (lv_sub hl [] rfl) h
  · rw [if_neg hc] at h
    refine lv_iconst (v := (1 : Int32)) hx hb dX11_toldOfPlay_68 (by decide) ?_
    refine lv_goto (tgt := 73) hx hb dX11_toldOfPlay_69 (by decide) ?_
    exact B73 (1 : Int32) r62.2 _ _ _ hw (lv_sub hl [] rfl) h
set_option maxRecDepth 100000 in
set_option maxHeartbeats 4000000 in
theorem c_X12_takes (l : Launch) (g : Gw) (n : Nat) (v1 : Int32) (v2 : Int32) (μ : Mu) (r : Unit × Mu) (h : X12_takes n v1 v2 μ = some r) : Ct l g yX12_takes cX12_takes 6 none 2 [.ref (g.2.2 171), .int v1, .int v2] μ none r.2 := by
  rw [X12_takes] at h
  refine Ct.of (by decide) (Nat.le_of_ble_eq_true rfl) ?_
  intro p e s m args below meth c ls hC hw hr hlocks hl
  have hx := hC.1
  have hb := hC.2.1
  have hl : lv_has ls 6 [(0, .ref (g.2.2 171)), (1, .int v1), (2, .int v2)] := hl
  have B56 : ∀ (μ : Mu) (H : Heap) (locs : List Loc) (ls : Array Slot), wd g μ s (Aw g s.heap.size) H locs → lv_has ls 6 [] → X12_takes_56 n v1 v2  μ = some r → WQ p l e (rmD 2) s m args below meth c g none r.2 H locs (F0 m 56 ls []) := by
    intro μ H locs ls hw hl h
    rw [X12_takes_56] at h
    exact rV hC hw hr hlocks rfl (by rw [← Option.some.inj h]) dX12_takes_56
  have B253 : ∀ (μ : Mu) (H : Heap) (locs : List Loc) (ls : Array Slot), wd g μ s (Aw g s.heap.size) H locs → lv_has ls 6 [] → X12_takes_253 n v1 v2  μ = some r → WQ p l e (rmD 2) s m args below meth c g none r.2 H locs (F0 m 253 ls []) := by
    intro μ H locs ls hw hl h
    rw [X12_takes_253] at h
    exact rV hC hw hr hlocks rfl (by rw [← Option.some.inj h]) dX12_takes_253
  have B220 : ∀ (k : Nat), ∀ (v3 : Int32) (v5 : Int32) (μ : Mu) (H : Heap) (locs : List Loc) (ls : Array Slot), wd g μ s (Aw g s.heap.size) H locs → lv_has ls 6 [(0, .ref (g.2.2 171)), (3, .int v3), (5, .int v5)] → lpF (fun _ _ _ => none) (X12_takes_220b n v1 v2) k v3 v5 μ = some r → WQ p l e (rmD 2) s m args below meth c g none r.2 H locs (F0 m 220 ls []) := by
    intro k
    induction k with
    | zero =>
      intro v3 v5 μ H locs ls hw hl h
      cases h
    | succ k ih220 =>
      rw [lpF_s]
      generalize lpF (fun _ _ _ => none) (X12_takes_220b n v1 v2) k = k220 at ih220 ⊢
      intro v3 v5 μ H locs ls hw hl h
      have B247 : ∀ (v3 : Int32) (v5 : Int32) (μ : Mu) (H : Heap) (locs : List Loc) (ls : Array Slot), wd g μ s (Aw g s.heap.size) H locs → lv_has ls 6 [(0, .ref (g.2.2 171)), (3, .int v3), (5, .int v5)] → X12_takes_247 n v1 v2 k220 v3 v5 μ = some r → WQ p l e (rmD 2) s m args below meth c g none r.2 H locs (F0 m 247 ls []) := by
        intro v3 v5 μ H locs ls hw hl h
        rw [X12_takes_247] at h
        refine lv_iinc (v := (v5 + (1 : Int32))) (lv' := [(5, .int (v5 + (1 : Int32))), (0, .ref (g.2.2 171)), (3, .int v3)]) hx hb dX12_takes_247 hl (k := 2) rfl rfl (by decide) rfl (fun ls hl => ?_)
        refine lv_goto (tgt := 220) hx hb dX12_takes_250 (by decide) ?_
        exact ih220 v3 (v5 + (1 : Int32)) μ _ _ _ hw (lv_sub hl [1, 2, 0] rfl) h
      rw [X12_takes_220b] at h
      refine lv_iload hx hb dX12_takes_220 (lv_at hl 2 rfl) ?_
      refine lv_aload_n hx hb dX12_takes_222 rfl (lv_at hl 0 rfl) ?_
      obtain ⟨r223, hr223, h⟩ := bnd h
      refine cV (b := 171) (As := []) (rest := [.int v5]) (st1 := [.int r223.1, .int v5]) hC hw (c_X12_pitMany l g n μ r223 hr223) ml_X12_245 im_X12_pitMany se_X12_pitMany ok171 (CN := RX12) (T := TX12) (NF := 54) rfl rfl (by decide) rfl hl.1 ⟨Nat.le_of_ble_eq_true rfl, Nat.le_of_ble_eq_true rfl⟩ (Nat.le_of_ble_eq_true rfl) ⟨Nat.zero_le _, Nat.zero_le _⟩ rfl dX12_takes_223 (fun H locs hw => ?_)
      refine lv_icmp_ge (tgt := 253) hx hb dX12_takes_226 (by decide) (fun hc => ?_) (fun hc => ?_)
      · rw [if_pos hc] at h
        exact B253 r223.2 _ _ _ hw (lv_sub hl [] rfl) h
      · rw [if_neg hc] at h
        refine lv_iload_n hx hb dX12_takes_229 rfl (lv_at hl 1 rfl) ?_
        refine lv_iload hx hb dX12_takes_230 (lv_at hl 2 rfl) ?_
        refine lv_ishr hx hb dX12_takes_232 ?_
        refine lv_iconst (v := (1 : Int32)) hx hb dX12_takes_233 (by decide) ?_
        refine lv_iand hx hb dX12_takes_234 ?_
        refine lv_iconst (v := (1 : Int32)) hx hb dX12_takes_235 (by decide) ?_
        refine lv_icmp_ne (tgt := 247) hx hb dX12_takes_236 (by decide) (fun hc => ?_) (fun hc => ?_)
        · rw [if_neg hc] at h
          exact B247 v3 v5 r223.2 _ _ _ hw (lv_sub hl [0, 1, 2] rfl) h
        · rw [if_pos hc] at h
          refine lv_aload_n hx hb dX12_takes_239 rfl (lv_at hl 0 rfl) ?_
          refine gR (t := 178) hC hw fl_X12_33 ok171 (by decide) ot171_17 dX12_takes_240 ?_
          refine lv_iload hx hb dX12_takes_243 (lv_at hl 2 rfl) ?_
          refine lv_iconst (v := (0 : Int32)) hx hb dX12_takes_245 (by decide) ?_
          obtain ⟨hi246, h⟩ := gd_some h
          refine sI (j := v5.toNatClampNeg) hC hw ok178 on178 hi246 rfl dX12_takes_246 (fun H locs hw => ?_)
          exact B247 v3 v5 (si r223.2 178 v5.toNatClampNeg (0 : Int32)) _ _ _ hw (lv_sub hl [0, 1, 2] rfl) h
  have B211 : ∀ (v3 : Int32) (v4 : Int32) (μ : Mu) (H : Heap) (locs : List Loc) (ls : Array Slot), wd g μ s (Aw g s.heap.size) H locs → lv_has ls 6 [(0, .ref (g.2.2 171)), (3, .int v3), (4, .int v4)] → X12_takes_211 n v1 v2 v3 v4 μ = some r → WQ p l e (rmD 2) s m args below meth c g none r.2 H locs (F0 m 211 ls []) := by
    intro v3 v4 μ H locs ls hw hl h
    rw [X12_takes_211] at h
    refine lv_aload_n hx hb dX12_takes_211 rfl (lv_at hl 0 rfl) ?_
    refine lv_iload hx hb dX12_takes_212 (lv_at hl 2 rfl) ?_
    refine pI hC hw fl_X12_266 fp_12_20 ok171 dX12_takes_214 (fun H locs hw => ?_)
    refine lv_iconst (v := (0 : Int32)) hx hb dX12_takes_217 (by decide) ?_
    refine lv_istore (lv' := [(5, .int (0 : Int32)), (0, .ref (g.2.2 171)), (3, .int v3), (4, .int v4)]) hx hb dX12_takes_218 hl (by decide) rfl (fun ls hl => ?_)
    exact B220 n v3 (0 : Int32) (si μ 171 20 v4) _ _ _ hw (lv_sub hl [1, 2, 0] rfl) h
  have B187 : ∀ (v3 : Int32) (v4 : Int32) (μ : Mu) (H : Heap) (locs : List Loc) (ls : Array Slot), wd g μ s (Aw g s.heap.size) H locs → lv_has ls 6 [(0, .ref (g.2.2 171)), (1, .int v1), (3, .int v3), (4, .int v4)] → X12_takes_187 n v1 v2 v3 v4 μ = some r → WQ p l e (rmD 2) s m args below meth c g none r.2 H locs (F0 m 187 ls []) := by
    intro v3 v4 μ H locs ls hw hl h
    rw [X12_takes_187] at h
    refine lv_aload_n hx hb dX12_takes_187 rfl (lv_at hl 0 rfl) ?_
    refine gR (t := 172) hC hw fl_X12_9 ok171 (by decide) ot171_0 dX12_takes_188 ?_
    refine lv_bipush (v := (8 : Int32)) hx hb dX12_takes_191 (by decide) ?_
    refine lI (j := 8) hC hw ok172 on172 (vin (by decide)) (by decide) dX12_takes_193 ?_
    refine lv_iconst (v := (1 : Int32)) hx hb dX12_takes_194 (by decide) ?_
    refine lv_icmp_ne (tgt := 211) hx hb dX12_takes_195 (by decide) (fun hc => ?_) (fun hc => ?_)
    · rw [if_neg hc] at h
      exact B211 v3 v4 μ _ _ _ hw (lv_sub hl [0, 2, 3] rfl) h
    · rw [if_pos hc] at h
      refine lv_iload hx hb dX12_takes_198 (lv_at hl 3 rfl) ?_
      refine lv_aload_n hx hb dX12_takes_200 rfl (lv_at hl 0 rfl) ?_
      refine lv_iconst (v := (1 : Int32)) hx hb dX12_takes_201 (by decide) ?_
      refine lv_iload_n hx hb dX12_takes_202 rfl (lv_at hl 1 rfl) ?_
      refine lv_isub hx hb dX12_takes_203 ?_
      obtain ⟨r204, hr204, h⟩ := bnd h
      refine cV (b := 171) (As := [.int ((1 : Int32) - v1)]) (rest := [.int v4]) (st1 := [.int r204.1, .int v4]) hC hw (c_X12_sum l g n ((1 : Int32) - v1) μ r204 hr204) ml_X12_290 im_X12_sum se_X12_sum ok171 (CN := RX12) (T := TX12) (NF := 54) rfl rfl (by decide) rfl hl.1 ⟨Nat.le_of_ble_eq_true rfl, Nat.le_of_ble_eq_true rfl⟩ (Nat.le_of_ble_eq_true rfl) ⟨Nat.zero_le _, Nat.zero_le _⟩ rfl dX12_takes_204 (fun H locs hw => ?_)
      refine lv_icmp_ne (tgt := 211) hx hb dX12_takes_207 (by decide) (fun hc => ?_) (fun hc => ?_)
      · rw [if_neg hc] at h
        exact B211 v3 v4 r204.2 _ _ _ hw (lv_sub hl [0, 2, 3] rfl) h
      · rw [if_pos hc] at h
        exact rV hC hw hr hlocks rfl (by rw [← Option.some.inj h]) dX12_takes_210
  have B119 : ∀ (k : Nat), ∀ (v3 : Int32) (v4 : Int32) (v5 : Int32) (μ : Mu) (H : Heap) (locs : List Loc) (ls : Array Slot), wd g μ s (Aw g s.heap.size) H locs → lv_has ls 6 [(0, .ref (g.2.2 171)), (1, .int v1), (3, .int v3), (4, .int v4), (5, .int v5)] → lpF (fun _ _ _ _ => none) (X12_takes_119b n v1 v2) k v3 v4 v5 μ = some r → WQ p l e (rmD 2) s m args below meth c g none r.2 H locs (F0 m 119 ls []) := by
    intro k
    induction k with
    | zero =>
      intro v3 v4 v5 μ H locs ls hw hl h
      cases h
    | succ k ih119 =>
      rw [lpF_s]
      generalize lpF (fun _ _ _ _ => none) (X12_takes_119b n v1 v2) k = k119 at ih119 ⊢
      intro v3 v4 v5 μ H locs ls hw hl h
      have B157 : ∀ (v3 : Int32) (v4 : Int32) (v5 : Int32) (μ : Mu) (H : Heap) (locs : List Loc) (ls : Array Slot), wd g μ s (Aw g s.heap.size) H locs → lv_has ls 6 [(0, .ref (g.2.2 171)), (1, .int v1), (3, .int v3), (4, .int v4), (5, .int v5)] → X12_takes_157 n v1 v2 k119 v3 v4 v5 μ = some r → WQ p l e (rmD 2) s m args below meth c g none r.2 H locs (F0 m 157 ls []) := by
        intro v3 v4 v5 μ H locs ls hw hl h
        rw [X12_takes_157] at h
        refine lv_iload_n hx hb dX12_takes_157 rfl (lv_at hl 2 rfl) ?_
        refine lv_iconst (v := (1 : Int32)) hx hb dX12_takes_158 (by decide) ?_
        refine lv_iload hx hb dX12_takes_159 (lv_at hl 4 rfl) ?_
        refine lv_ishl hx hb dX12_takes_161 ?_
        refine lv_ior hx hb dX12_takes_162 ?_
        refine lv_istore_n (lv' := [(3, .int (v3 ||| ((1 : Int32) <<< (v5 &&& 31)))), (0, .ref (g.2.2 171)), (1, .int v1), (4, .int v4), (5, .int v5)]) hx hb dX12_takes_163 rfl hl (by decide) rfl (fun ls hl => ?_)
        refine lv_iload hx hb dX12_takes_164 (lv_at hl 3 rfl) ?_
        refine lv_aload_n hx hb dX12_takes_166 rfl (lv_at hl 1 rfl) ?_
        refine gR (t := 178) hC hw fl_X12_33 ok171 (by decide) ot171_17 dX12_takes_167 ?_
        refine lv_iload hx hb dX12_takes_170 (lv_at hl 4 rfl) ?_
        obtain ⟨hi172, h⟩ := gd_some h
        refine lI (j := v5.toNatClampNeg) hC hw ok178 on178 hi172 rfl dX12_takes_172 ?_
        refine lv_iadd hx hb dX12_takes_173 ?_
        refine lv_istore (lv' := [(4, .int (v4 + (μ.1 178 v5.toNatClampNeg))), (3, .int (v3 ||| ((1 : Int32) <<< (v5 &&& 31)))), (0, .ref (g.2.2 171)), (1, .int v1), (5, .int v5)]) hx hb dX12_takes_174 hl (by decide) rfl (fun ls hl => ?_)
        refine lv_aload_n hx hb dX12_takes_176 rfl (lv_at hl 2 rfl) ?_
        refine lv_iload hx hb dX12_takes_177 (lv_at hl 4 rfl) ?_
        obtain ⟨r179, hr179, h⟩ := bnd h
        refine cV (b := 171) (As := [.int v5]) (rest := []) (st1 := [.int r179.1]) hC hw (c_X12_ahead l g n v5 μ r179 hr179) ml_X12_287 im_X12_ahead se_X12_ahead ok171 (CN := RX12) (T := TX12) (NF := 54) rfl rfl (by decide) rfl hl.1 ⟨Nat.le_of_ble_eq_true rfl, Nat.le_of_ble_eq_true rfl⟩ (Nat.le_of_ble_eq_true rfl) ⟨Nat.zero_le _, Nat.zero_le _⟩ rfl dX12_takes_179 (fun H locs hw => ?_)
        refine lv_istore (lv' := [(5, .int r179.1), (4, .int (v4 + (μ.1 178 v5.toNatClampNeg))), (3, .int (v3 ||| ((1 : Int32) <<< (v5 &&& 31)))), (0, .ref (g.2.2 171)), (1, .int v1)]) hx hb dX12_takes_182 hl (by decide) rfl (fun ls hl => ?_)
        refine lv_goto (tgt := 119) hx hb dX12_takes_184 (by decide) ?_
        exact ih119 (v3 ||| ((1 : Int32) <<< (v5 &&& 31))) (v4 + (μ.1 178 v5.toNatClampNeg)) r179.1 r179.2 _ _ _ hw (lv_sub hl [3, 4, 2, 1, 0] rfl) h
      rw [X12_takes_119b] at h
      refine lv_iload hx hb dX12_takes_119 (lv_at hl 4 rfl) ?_
      refine lv_iconst (v := ((-1) : Int32)) hx hb dX12_takes_121 (by decide) ?_
      refine lv_icmp_eq (tgt := 187) hx hb dX12_takes_122 (by decide) (fun hc => ?_) (fun hc => ?_)
      · rw [if_pos hc] at h
        exact B187 v3 v4 μ _ _ _ hw (lv_sub hl [0, 1, 2, 3] rfl) h
      · rw [if_neg hc] at h
        refine lv_aload_n hx hb dX12_takes_125 rfl (lv_at hl 0 rfl) ?_
        refine lv_iload hx hb dX12_takes_126 (lv_at hl 4 rfl) ?_
        obtain ⟨r128, hr128, h⟩ := bnd h
        refine cV (b := 171) (As := [.int v5]) (rest := []) (st1 := [.int r128.1]) hC hw (c_X12_sideOf l g n v5 μ r128 hr128) ml_X12_257 im_X12_sideOf se_X12_sideOf ok171 (CN := RX12) (T := TX12) (NF := 54) rfl rfl (by decide) rfl hl.1 ⟨Nat.le_of_ble_eq_true rfl, Nat.le_of_ble_eq_true rfl⟩ (Nat.le_of_ble_eq_true rfl) ⟨Nat.zero_le _, Nat.zero_le _⟩ rfl dX12_takes_128 (fun H locs hw => ?_)
        refine lv_iload_n hx hb dX12_takes_131 rfl (lv_at hl 1 rfl) ?_
        refine lv_icmp_eq (tgt := 187) hx hb dX12_takes_132 (by decide) (fun hc => ?_) (fun hc => ?_)
        · rw [if_pos hc] at h
          exact B187 v3 v4 r128.2 _ _ _ hw (lv_sub hl [0, 1, 2, 3] rfl) h
        · rw [if_neg hc] at h
          refine lv_aload_n hx hb dX12_takes_135 rfl (lv_at hl 0 rfl) ?_
          refine gR (t := 178) hC hw fl_X12_33 ok171 (by decide) ot171_17 dX12_takes_136 ?_
          refine lv_iload hx hb dX12_takes_139 (lv_at hl 4 rfl) ?_
          obtain ⟨hi141, h⟩ := gd_some h
          refine lI (j := v5.toNatClampNeg) hC hw ok178 on178 hi141 rfl dX12_takes_141 ?_
          refine lv_iconst (v := (2 : Int32)) hx hb dX12_takes_142 (by decide) ?_
          refine lv_icmp_eq (tgt := 157) hx hb dX12_takes_143 (by decide) (fun hc => ?_) (fun hc => ?_)
          · rw [if_pos hc] at h
            exact B157 v3 v4 v5 r128.2 _ _ _ hw (lv_sub hl [0, 1, 2, 3, 4] rfl) h
          · rw [if_neg hc] at h
            refine lv_aload_n hx hb dX12_takes_146 rfl (lv_at hl 0 rfl) ?_
            refine gR (t := 178) hC hw fl_X12_33 ok171 (by decide) ot171_17 dX12_takes_147 ?_
            refine lv_iload hx hb dX12_takes_150 (lv_at hl 4 rfl) ?_
            refine lI (j := v5.toNatClampNeg) hC hw ok178 on178 hi141 rfl dX12_takes_152 ?_
            refine lv_iconst (v := (3 : Int32)) hx hb dX12_takes_153 (by decide) ?_
            refine lv_icmp_ne (tgt := 187) hx hb dX12_takes_154 (by decide) (fun hc => ?_) (fun hc => ?_)
            · rw [if_neg hc] at h
              exact B187 v3 v4 r128.2 _ _ _ hw (lv_sub hl [0, 1, 2, 3] rfl) h
            · rw [if_pos hc] at h
              exact B157 v3 v4 v5 r128.2 _ _ _ hw (lv_sub hl [0, 1, 2, 3, 4] rfl) h
  refine lv_aload_n hx hb dX12_takes_0 rfl (lv_at hl 0 rfl) ?_
  refine gR (t := 172) hC hw fl_X12_9 ok171 (by decide) ot171_0 dX12_takes_1 ?_
  refine lv_bipush (v := (7 : Int32)) hx hb dX12_takes_4 (by decide) ?_
  refine lI (j := 7) hC hw ok172 on172 (vin (by decide)) (by decide) dX12_takes_6 ?_
  refine lv_iconst (v := (1 : Int32)) hx hb dX12_takes_7 (by decide) ?_
  refine lv_icmp_ne (tgt := 97) hx hb dX12_takes_8 (by decide) (fun hc => ?_) (fun hc => ?_)
  · rw [if_neg hc] at h
    refine lv_aload_n hx hb dX12_takes_97 rfl (lv_at hl 0 rfl) ?_
    refine gR (t := 172) hC hw fl_X12_9 ok171 (by decide) ot171_0 dX12_takes_98 ?_
    refine lv_bipush (v := (7 : Int32)) hx hb dX12_takes_101 (by decide) ?_
    refine lI (j := 7) hC hw ok172 on172 (vin (by decide)) (by decide) dX12_takes_103 ?_
    refine lv_iconst (v := (2 : Int32)) hx hb dX12_takes_104 (by decide) ?_
    refine lv_icmp_ne (tgt := 253) hx hb dX12_takes_105 (by decide) (fun hc => ?_) (fun hc => ?_)
    · rw [if_neg hc] at h
      exact B253 μ _ _ _ hw (lv_sub hl [] rfl) h
    · rw [if_pos hc] at h
      refine lv_iconst (v := (0 : Int32)) hx hb dX12_takes_108 (by decide) ?_
      refine lv_istore_n (lv' := [(3, .int (0 : Int32)), (0, .ref (g.2.2 171)), (1, .int v1), (2, .int v2)]) hx hb dX12_takes_109 rfl hl (by decide) rfl (fun ls hl => ?_)
      refine lv_iconst (v := (0 : Int32)) hx hb dX12_takes_110 (by decide) ?_
      refine lv_istore (lv' := [(4, .int (0 : Int32)), (3, .int (0 : Int32)), (0, .ref (g.2.2 171)), (1, .int v1), (2, .int v2)]) hx hb dX12_takes_111 hl (by decide) rfl (fun ls hl => ?_)
      refine lv_aload_n hx hb dX12_takes_113 rfl (lv_at hl 2 rfl) ?_
      refine gI hC hw fl_X12_277 ok171 (by decide) dX12_takes_114 ?_
      refine lv_istore (lv' := [(5, .int (μ.1 171 18)), (4, .int (0 : Int32)), (3, .int (0 : Int32)), (0, .ref (g.2.2 171)), (1, .int v1), (2, .int v2)]) hx hb dX12_takes_117 hl (by decide) rfl (fun ls hl => ?_)
      exact B119 n (0 : Int32) (0 : Int32) (μ.1 171 18) μ _ _ _ hw (lv_sub hl [3, 4, 2, 1, 0] rfl) h
  · rw [if_pos hc] at h
    refine lv_aload_n hx hb dX12_takes_11 rfl (lv_at hl 0 rfl) ?_
    obtain ⟨r12, hr12, h⟩ := bnd h
    refine cV (b := 171) (As := []) (rest := []) (st1 := [.int r12.1]) hC hw (c_X12_pitMany l g n μ r12 hr12) ml_X12_245 im_X12_pitMany se_X12_pitMany ok171 (CN := RX12) (T := TX12) (NF := 54) rfl rfl (by decide) rfl hl.1 ⟨Nat.le_of_ble_eq_true rfl, Nat.le_of_ble_eq_true rfl⟩ (Nat.le_of_ble_eq_true rfl) ⟨Nat.zero_le _, Nat.zero_le _⟩ rfl dX12_takes_12 (fun H locs hw => ?_)
    refine lv_iconst (v := (1 : Int32)) hx hb dX12_takes_15 (by decide) ?_
    refine lv_isub hx hb dX12_takes_16 ?_
    refine lv_aload_n hx hb dX12_takes_17 rfl (lv_at hl 0 rfl) ?_
    refine gI hC hw fl_X12_277 ok171 (by decide) dX12_takes_18 ?_
    refine lv_isub hx hb dX12_takes_21 ?_
    refine lv_istore_n (lv' := [(3, .int ((r12.1 - (1 : Int32)) - (r12.2.1 171 18))), (0, .ref (g.2.2 171)), (1, .int v1), (2, .int v2)]) hx hb dX12_takes_22 rfl hl (by decide) rfl (fun ls hl => ?_)
    refine lv_aload_n hx hb dX12_takes_23 rfl (lv_at hl 1 rfl) ?_
    refine lv_aload_n hx hb dX12_takes_24 rfl (lv_at hl 1 rfl) ?_
    refine gI hC hw fl_X12_277 ok171 (by decide) dX12_takes_25 ?_
    obtain ⟨r28, hr28, h⟩ := bnd h
    refine cV (b := 171) (As := [.int (r12.2.1 171 18)]) (rest := []) (st1 := [.int r28.1]) hC hw (c_X12_sideOf l g n (r12.2.1 171 18) r12.2 r28 hr28) ml_X12_257 im_X12_sideOf se_X12_sideOf ok171 (CN := RX12) (T := TX12) (NF := 54) rfl rfl (by decide) rfl hl.1 ⟨Nat.le_of_ble_eq_true rfl, Nat.le_of_ble_eq_true rfl⟩ (Nat.le_of_ble_eq_true rfl) ⟨Nat.zero_le _, Nat.zero_le _⟩ rfl dX12_takes_28 (fun H locs hw => ?_)
    refine lv_iload_n hx hb dX12_takes_31 rfl (lv_at hl 2 rfl) ?_
    refine lv_icmp_ne (tgt := 56) hx hb dX12_takes_32 (by decide) (fun hc => ?_) (fun hc => ?_)
    · rw [if_neg hc] at h
      exact B56 r28.2 _ _ _ hw (lv_sub hl [] rfl) h
    · rw [if_pos hc] at h
      refine lv_iload_n hx hb dX12_takes_35 rfl (lv_at hl 3 rfl) ?_
      refine lv_if_gt (tgt := 56) hx hb dX12_takes_36 (by decide) (fun hc => ?_) (fun hc => ?_)
      · rw [if_pos hc] at h
        exact B56 r28.2 _ _ _ hw (lv_sub hl [] rfl) h
      · rw [if_neg hc] at h
        refine lv_aload_n hx hb dX12_takes_39 rfl (lv_at hl 1 rfl) ?_
        refine lv_iload_n hx hb dX12_takes_40 rfl (lv_at hl 0 rfl) ?_
        obtain ⟨r41, hr41, h⟩ := bnd h
        refine cV (b := 171) (As := [.int ((r12.1 - (1 : Int32)) - (r12.2.1 171 18))]) (rest := []) (st1 := [.int r41.1]) hC hw (c_X12_isLacking l g n ((r12.1 - (1 : Int32)) - (r12.2.1 171 18)) r28.2 r41 hr41) ml_X12_251 im_X12_isLacking se_X12_isLacking ok171 (CN := RX12) (T := TX12) (NF := 54) rfl rfl (by decide) rfl hl.1 ⟨Nat.le_of_ble_eq_true rfl, Nat.le_of_ble_eq_true rfl⟩ (Nat.le_of_ble_eq_true rfl) ⟨Nat.zero_le _, Nat.zero_le _⟩ rfl dX12_takes_41 (fun H locs hw => ?_)
        refine lv_if_ne (tgt := 56) hx hb dX12_takes_44 (by decide) (fun hc => ?_) (fun hc => ?_)
        · rw [if_neg hc] at h
          exact B56 r41.2 _ _ _ hw (lv_sub hl [] rfl) h
        · rw [if_pos hc] at h
          refine lv_aload_n hx hb dX12_takes_47 rfl (lv_at hl 1 rfl) ?_
          refine gR (t := 178) hC hw fl_X12_33 ok171 (by decide) ot171_17 dX12_takes_48 ?_
          refine lv_iload_n hx hb dX12_takes_51 rfl (lv_at hl 0 rfl) ?_
          obtain ⟨hi52, h⟩ := gd_some h
          refine lI (j := ((r12.1 - (1 : Int32)) - (r12.2.1 171 18)).toNatClampNeg) hC hw ok178 on178 hi52 rfl dX12_takes_52 ?_
          refine lv_if_ne (tgt := 57) hx hb dX12_takes_53 (by decide) (fun hc => ?_) (fun hc => ?_)
          · rw [if_neg hc] at h
            refine lv_aload_n hx hb dX12_takes_57 rfl (lv_at hl 1 rfl) ?_
            refine lv_aload_n hx hb dX12_takes_58 rfl (lv_at hl 1 rfl) ?_
            refine gR (t := 178) hC hw fl_X12_33 ok171 (by decide) ot171_17 dX12_takes_59 ?_
            refine lv_iload_n hx hb dX12_takes_62 rfl (lv_at hl 0 rfl) ?_
            refine lI (j := ((r12.1 - (1 : Int32)) - (r12.2.1 171 18)).toNatClampNeg) hC hw ok178 on178 hi52 rfl dX12_takes_63 ?_
            refine lv_aload_n hx hb dX12_takes_64 rfl (lv_at hl 1 rfl) ?_
            refine gR (t := 178) hC hw fl_X12_33 ok171 (by decide) ot171_17 dX12_takes_65 ?_
            refine lv_aload_n hx hb dX12_takes_68 rfl (lv_at hl 1 rfl) ?_
            refine gI hC hw fl_X12_277 ok171 (by decide) dX12_takes_69 ?_
            obtain ⟨hi72, h⟩ := gd_some h
            refine lI (j := (r41.2.1 171 18).toNatClampNeg) hC hw ok178 on178 hi72 rfl dX12_takes_72 ?_
            refine lv_iadd hx hb dX12_takes_73 ?_
            refine pI hC hw fl_X12_266 fp_12_20 ok171 dX12_takes_74 (fun H locs hw => ?_)
            refine lv_aload_n hx hb dX12_takes_77 rfl (lv_at hl 1 rfl) ?_
            refine gR (t := 178) hC hw fl_X12_33 ok171 (by decide) ot171_17 dX12_takes_78 ?_
            refine lv_iload_n hx hb dX12_takes_81 rfl (lv_at hl 0 rfl) ?_
            refine lv_iconst (v := (0 : Int32)) hx hb dX12_takes_82 (by decide) ?_
            refine sI (j := ((r12.1 - (1 : Int32)) - (r12.2.1 171 18)).toNatClampNeg) hC hw ok178 on178 hi52 rfl dX12_takes_83 (fun H locs hw => ?_)
            refine lv_aload_n hx hb dX12_takes_84 rfl (lv_at hl 1 rfl) ?_
            refine gR (t := 178) hC hw fl_X12_33 ok171 (by decide) ot171_17 dX12_takes_85 ?_
            refine lv_aload_n hx hb dX12_takes_88 rfl (lv_at hl 1 rfl) ?_
            refine gI hC hw fl_X12_277 ok171 (by decide) dX12_takes_89 ?_
            refine lv_iconst (v := (0 : Int32)) hx hb dX12_takes_92 (by decide) ?_
            obtain ⟨hi93, h⟩ := gd_some h
            refine sI (j := ((si (si r41.2 171 20 ((r41.2.1 178 ((r12.1 - (1 : Int32)) - (r12.2.1 171 18)).toNatClampNeg) + (r41.2.1 178 (r41.2.1 171 18).toNatClampNeg))) 178 ((r12.1 - (1 : Int32)) - (r12.2.1 171 18)).toNatClampNeg (0 : Int32)).1 171 18).toNatClampNeg) hC hw ok178 on178 hi93 rfl dX12_takes_93 (fun H locs hw => ?_)
            refine lv_goto (tgt := 253) hx hb dX12_takes_94 (by decide) ?_
            exact B253 (si (si (si r41.2 171 20 ((r41.2.1 178 ((r12.1 - (1 : Int32)) - (r12.2.1 171 18)).toNatClampNeg) + (r41.2.1 178 (r41.2.1 171 18).toNatClampNeg))) 178 ((r12.1 - (1 : Int32)) - (r12.2.1 171 18)).toNatClampNeg (0 : Int32)) 178 ((si (si r41.2 171 20 ((r41.2.1 178 ((r12.1 - (1 : Int32)) - (r12.2.1 171 18)).toNatClampNeg) + (r41.2.1 178 (r41.2.1 171 18).toNatClampNeg))) 178 ((r12.1 - (1 : Int32)) - (r12.2.1 171 18)).toNatClampNeg (0 : Int32)).1 171 18).toNatClampNeg (0 : Int32)) _ _ _ hw (lv_sub hl [] rfl) h
          · rw [if_pos hc] at h
            exact B56 r41.2 _ _ _ hw (lv_sub hl [] rfl) h
set_option maxRecDepth 100000 in
set_option maxHeartbeats 4000000 in
theorem c_X12_trayFault (l : Launch) (g : Gw) (n : Nat) (v1 : Int32) (μ : Mu) (r : Int32 × Mu) (h : X12_trayFault n v1 μ = some r) : Ct l g yX12_trayFault cX12_trayFault 2 (some .int) 2 [.ref (g.2.2 171), .int v1] μ (some (.int r.1)) r.2 := by
  rw [X12_trayFault] at h
  refine Ct.of (by decide) (Nat.le_of_ble_eq_true rfl) ?_
  intro p e s m args below meth c ls hC hw hr hlocks hl
  have hx := hC.1
  have hb := hC.2.1
  have hl : lv_has ls 2 [(0, .ref (g.2.2 171)), (1, .int v1)] := hl
  have B26 : ∀ (s0 : Int32) (μ : Mu) (H : Heap) (locs : List Loc) (ls : Array Slot), wd g μ s (Aw g s.heap.size) H locs → lv_has ls 2 [] → X12_trayFault_26 n v1 s0 μ = some r → WQ p l e (rmD 2) s m args below meth c g (some (.int r.1)) r.2 H locs (F0 m 26 ls [.int s0]) := by
    intro s0 μ H locs ls hw hl h
    rw [X12_trayFault_26] at h
    exact rI hC hw hr hlocks (by rw [← Option.some.inj h]) (by rw [← Option.some.inj h]) dX12_trayFault_26
  refine lv_iload_n hx hb dX12_trayFault_0 rfl (lv_at hl 1 rfl) ?_
  obtain ⟨r1, hr1, h⟩ := bnd h
  refine cS (As := [.int v1]) (rest := []) (st1 := [.int r1.1]) hC hw (c_X12_isTray l g n v1 μ r1 hr1) ml_X12_335 st_X12_isTray rfl hl.1 ⟨Nat.le_of_ble_eq_true rfl, Nat.le_of_ble_eq_true rfl⟩ (Nat.le_of_ble_eq_true rfl) ⟨Nat.zero_le _, Nat.zero_le _⟩ rfl dX12_trayFault_1 (fun H locs hw => ?_)
  refine lv_if_ne (tgt := 11) hx hb dX12_trayFault_4 (by decide) (fun hc => ?_) (fun hc => ?_)
  · rw [if_neg hc] at h
    refine lv_aload_n hx hb dX12_trayFault_11 rfl (lv_at hl 0 rfl) ?_
    refine gR (t := 198) hC hw fl_X12_97 ok171 (by decide) ot171_51 dX12_trayFault_12 ?_
    refine lv_iload_n hx hb dX12_trayFault_15 rfl (lv_at hl 1 rfl) ?_
    obtain ⟨hi16, h⟩ := gd_some h
    refine lI (j := v1.toNatClampNeg) hC hw ok198 on198 hi16 rfl dX12_trayFault_16 ?_
    refine lv_iconst (v := ((-1) : Int32)) hx hb dX12_trayFault_17 (by decide) ?_
    refine lv_icmp_ne (tgt := 25) hx hb dX12_trayFault_18 (by decide) (fun hc => ?_) (fun hc => ?_)
    · rw [if_neg hc] at h
      refine lv_iconst (v := (0 : Int32)) hx hb dX12_trayFault_25 (by decide) ?_
      exact B26 (0 : Int32) r1.2 _ _ _ hw (lv_sub hl [] rfl) h
    · rw [if_pos hc] at h
      refine lv_iconst (v := (2 : Int32)) hx hb dX12_trayFault_21 (by decide) ?_
      refine lv_goto (tgt := 26) hx hb dX12_trayFault_22 (by decide) ?_
      exact B26 (2 : Int32) r1.2 _ _ _ hw (lv_sub hl [] rfl) h
  · rw [if_pos hc] at h
    refine lv_iconst (v := (1 : Int32)) hx hb dX12_trayFault_7 (by decide) ?_
    refine lv_goto (tgt := 26) hx hb dX12_trayFault_8 (by decide) ?_
    exact B26 (1 : Int32) r1.2 _ _ _ hw (lv_sub hl [] rfl) h
set_option maxRecDepth 100000 in
set_option maxHeartbeats 4000000 in
theorem c_X12_settles (l : Launch) (g : Gw) (n : Nat) (v1 : Int32) (μ : Mu) (r : Unit × Mu) (h : X12_settles n v1 μ = some r) : Ct l g yX12_settles cX12_settles 7 none 4 [.ref (g.2.2 171), .int v1] μ none r.2 := by
  rw [X12_settles] at h
  refine Ct.of (by decide) (Nat.le_of_ble_eq_true rfl) ?_
  intro p e s m args below meth c ls hC hw hr hlocks hl
  have hx := hC.1
  have hb := hC.2.1
  have hl : lv_has ls 7 [(0, .ref (g.2.2 171)), (1, .int v1)] := hl
  have B96 : ∀ (k : Nat), ∀ (v2 : Int32) (v3 : Int32) (v4 : Int32) (μ : Mu) (H : Heap) (locs : List Loc) (ls : Array Slot), wd g μ s (Aw g s.heap.size) H locs → lv_has ls 7 [(0, .ref (g.2.2 171)), (1, .int v1), (2, .int v2), (3, .int v3), (4, .int v4)] → lpF (fun _ _ _ _ => none) (X12_settles_96b n v1) k v2 v3 v4 μ = some r → WQ p l e (rmD 4) s m args below meth c g none r.2 H locs (F0 m 96 ls []) := by
    intro k
    induction k with
    | zero =>
      intro v2 v3 v4 μ H locs ls hw hl h
      cases h
    | succ k ih96 =>
      rw [lpF_s]
      generalize lpF (fun _ _ _ _ => none) (X12_settles_96b n v1) k = k96 at ih96 ⊢
      intro v2 v3 v4 μ H locs ls hw hl h
      have B163 : ∀ (k : Nat), ∀ (v2 : Int32) (v3 : Int32) (v4 : Int32) (v5 : Int32) (μ : Mu) (H : Heap) (locs : List Loc) (ls : Array Slot), wd g μ s (Aw g s.heap.size) H locs → lv_has ls 7 [(0, .ref (g.2.2 171)), (1, .int v1), (2, .int v2), (3, .int v3), (4, .int v4), (5, .int v5)] → lpF (fun _ _ _ _ _ => none) (X12_settles_163b n v1 k96) k v2 v3 v4 v5 μ = some r → WQ p l e (rmD 4) s m args below meth c g none r.2 H locs (F0 m 163 ls []) := by
        intro k
        induction k with
        | zero =>
          intro v2 v3 v4 v5 μ H locs ls hw hl h
          cases h
        | succ k ih163 =>
          rw [lpF_s]
          generalize lpF (fun _ _ _ _ _ => none) (X12_settles_163b n v1 k96) k = k163 at ih163 ⊢
          intro v2 v3 v4 v5 μ H locs ls hw hl h
          have B172 : ∀ (k : Nat), ∀ (v2 : Int32) (v3 : Int32) (v4 : Int32) (v5 : Int32) (v6 : Int32) (μ : Mu) (H : Heap) (locs : List Loc) (ls : Array Slot), wd g μ s (Aw g s.heap.size) H locs → lv_has ls 7 [(0, .ref (g.2.2 171)), (1, .int v1), (2, .int v2), (3, .int v3), (4, .int v4), (5, .int v5), (6, .int v6)] → lpF (fun _ _ _ _ _ _ => none) (X12_settles_172b n v1 k96 k163) k v2 v3 v4 v5 v6 μ = some r → WQ p l e (rmD 4) s m args below meth c g none r.2 H locs (F0 m 172 ls []) := by
            intro k
            induction k with
            | zero =>
              intro v2 v3 v4 v5 v6 μ H locs ls hw hl h
              cases h
            | succ k ih172 =>
              rw [lpF_s]
              generalize lpF (fun _ _ _ _ _ _ => none) (X12_settles_172b n v1 k96 k163) k = k172 at ih172 ⊢
              intro v2 v3 v4 v5 v6 μ H locs ls hw hl h
              rw [X12_settles_172b] at h
              refine lv_iload hx hb dX12_settles_172 (lv_at hl 6 rfl) ?_
              refine lv_iload_n hx hb dX12_settles_174 rfl (lv_at hl 2 rfl) ?_
              refine lv_icmp_ge (tgt := 203) hx hb dX12_settles_175 (by decide) (fun hc => ?_) (fun hc => ?_)
              · rw [if_pos hc] at h
                refine lv_iinc (v := (v5 + (1 : Int32))) (lv' := [(5, .int (v5 + (1 : Int32))), (0, .ref (g.2.2 171)), (1, .int v1), (2, .int v2), (3, .int v3), (4, .int v4), (6, .int v6)]) hx hb dX12_settles_203 hl (k := 5) rfl rfl (by decide) rfl (fun ls hl => ?_)
                refine lv_goto (tgt := 163) hx hb dX12_settles_206 (by decide) ?_
                exact ih163 v2 v3 v4 (v5 + (1 : Int32)) μ _ _ _ hw (lv_sub hl [1, 2, 3, 4, 5, 0] rfl) h
              · rw [if_neg hc] at h
                refine lv_iload_n hx hb dX12_settles_178 rfl (lv_at hl 3 rfl) ?_
                refine lv_aload_n hx hb dX12_settles_179 rfl (lv_at hl 0 rfl) ?_
                refine lv_aload_n hx hb dX12_settles_180 rfl (lv_at hl 0 rfl) ?_
                refine lv_iload hx hb dX12_settles_181 (lv_at hl 5 rfl) ?_
                refine lv_iload_n hx hb dX12_settles_183 rfl (lv_at hl 1 rfl) ?_
                refine lv_iload hx hb dX12_settles_184 (lv_at hl 6 rfl) ?_
                obtain ⟨r186, hr186, h⟩ := bnd h
                refine cV (b := 171) (As := [.int v5, .int v1, .int v6]) (rest := [.ref (g.2.2 171), .int v3]) (st1 := [.int r186.1, .ref (g.2.2 171), .int v3]) hC hw (c_X12_seat l g n v5 v1 v6 μ r186 hr186) ml_X12_384 im_X12_seat se_X12_seat ok171 (CN := RX12) (T := TX12) (NF := 54) rfl rfl (by decide) rfl hl.1 ⟨Nat.le_of_ble_eq_true rfl, Nat.le_of_ble_eq_true rfl⟩ (Nat.le_of_ble_eq_true rfl) ⟨Nat.zero_le _, Nat.zero_le _⟩ rfl dX12_settles_186 (fun H locs hw => ?_)
                refine lv_iload_n hx hb dX12_settles_189 rfl (lv_at hl 1 rfl) ?_
                refine lv_iload hx hb dX12_settles_190 (lv_at hl 4 rfl) ?_
                obtain ⟨r192, hr192, h⟩ := bnd h
                refine cV (b := 171) (As := [.int r186.1, .int v1, .int v4]) (rest := [.int v3]) (st1 := [.int r192.1, .int v3]) hC hw (c_X12_betters l g n r186.1 v1 v4 r186.2 r192 hr192) ml_X12_394 im_X12_betters se_X12_betters ok171 (CN := RX12) (T := TX12) (NF := 54) rfl rfl (by decide) rfl hl.1 ⟨Nat.le_of_ble_eq_true rfl, Nat.le_of_ble_eq_true rfl⟩ (Nat.le_of_ble_eq_true rfl) ⟨Nat.zero_le _, Nat.zero_le _⟩ rfl dX12_settles_192 (fun H locs hw => ?_)
                refine lv_ior hx hb dX12_settles_195 ?_
                refine lv_istore_n (lv' := [(3, .int (v3 ||| r192.1)), (0, .ref (g.2.2 171)), (1, .int v1), (2, .int v2), (4, .int v4), (5, .int v5), (6, .int v6)]) hx hb dX12_settles_196 rfl hl (by decide) rfl (fun ls hl => ?_)
                refine lv_iinc (v := (v6 + (1 : Int32))) (lv' := [(6, .int (v6 + (1 : Int32))), (3, .int (v3 ||| r192.1)), (0, .ref (g.2.2 171)), (1, .int v1), (2, .int v2), (4, .int v4), (5, .int v5)]) hx hb dX12_settles_197 hl (k := 6) rfl rfl (by decide) rfl (fun ls hl => ?_)
                refine lv_goto (tgt := 172) hx hb dX12_settles_200 (by decide) ?_
                exact ih172 v2 (v3 ||| r192.1) v4 v5 (v6 + (1 : Int32)) r192.2 _ _ _ hw (lv_sub hl [2, 3, 4, 1, 5, 6, 0] rfl) h
          rw [X12_settles_163b] at h
          refine lv_iload hx hb dX12_settles_163 (lv_at hl 5 rfl) ?_
          refine lv_iconst (v := (2 : Int32)) hx hb dX12_settles_165 (by decide) ?_
          refine lv_icmp_ge (tgt := 209) hx hb dX12_settles_166 (by decide) (fun hc => ?_) (fun hc => ?_)
          · rw [if_pos hc] at h
            refine lv_iinc (v := (v4 + (1 : Int32))) (lv' := [(4, .int (v4 + (1 : Int32))), (0, .ref (g.2.2 171)), (1, .int v1), (2, .int v2), (3, .int v3), (5, .int v5)]) hx hb dX12_settles_209 hl (k := 4) rfl rfl (by decide) rfl (fun ls hl => ?_)
            refine lv_goto (tgt := 96) hx hb dX12_settles_212 (by decide) ?_
            exact ih96 v2 v3 (v4 + (1 : Int32)) μ _ _ _ hw (lv_sub hl [1, 2, 3, 4, 0] rfl) h
          · rw [if_neg hc] at h
            refine lv_iconst (v := (0 : Int32)) hx hb dX12_settles_169 (by decide) ?_
            refine lv_istore (lv' := [(6, .int (0 : Int32)), (0, .ref (g.2.2 171)), (1, .int v1), (2, .int v2), (3, .int v3), (4, .int v4), (5, .int v5)]) hx hb dX12_settles_170 hl (by decide) rfl (fun ls hl => ?_)
            exact B172 n v2 v3 v4 v5 (0 : Int32) μ _ _ _ hw (lv_sub hl [1, 2, 3, 4, 5, 6, 0] rfl) h
      have B105 : ∀ (k : Nat), ∀ (v2 : Int32) (v3 : Int32) (v4 : Int32) (v5 : Int32) (μ : Mu) (H : Heap) (locs : List Loc) (ls : Array Slot), wd g μ s (Aw g s.heap.size) H locs → lv_has ls 7 [(0, .ref (g.2.2 171)), (1, .int v1), (2, .int v2), (3, .int v3), (4, .int v4), (5, .int v5)] → lpF (fun _ _ _ _ _ => none) (X12_settles_105b n v1 k96) k v2 v3 v4 v5 μ = some r → WQ p l e (rmD 4) s m args below meth c g none r.2 H locs (F0 m 105 ls []) := by
        intro k
        induction k with
        | zero =>
          intro v2 v3 v4 v5 μ H locs ls hw hl h
          cases h
        | succ k ih105 =>
          rw [lpF_s]
          generalize lpF (fun _ _ _ _ _ => none) (X12_settles_105b n v1 k96) k = k105 at ih105 ⊢
          intro v2 v3 v4 v5 μ H locs ls hw hl h
          have B114 : ∀ (k : Nat), ∀ (v2 : Int32) (v3 : Int32) (v4 : Int32) (v5 : Int32) (v6 : Int32) (μ : Mu) (H : Heap) (locs : List Loc) (ls : Array Slot), wd g μ s (Aw g s.heap.size) H locs → lv_has ls 7 [(0, .ref (g.2.2 171)), (1, .int v1), (2, .int v2), (3, .int v3), (4, .int v4), (5, .int v5), (6, .int v6)] → lpF (fun _ _ _ _ _ _ => none) (X12_settles_114b n v1 k96 k105) k v2 v3 v4 v5 v6 μ = some r → WQ p l e (rmD 4) s m args below meth c g none r.2 H locs (F0 m 114 ls []) := by
            intro k
            induction k with
            | zero =>
              intro v2 v3 v4 v5 v6 μ H locs ls hw hl h
              cases h
            | succ k ih114 =>
              rw [lpF_s]
              generalize lpF (fun _ _ _ _ _ _ => none) (X12_settles_114b n v1 k96 k105) k = k114 at ih114 ⊢
              intro v2 v3 v4 v5 v6 μ H locs ls hw hl h
              rw [X12_settles_114b] at h
              refine lv_iload hx hb dX12_settles_114 (lv_at hl 6 rfl) ?_
              refine lv_iload_n hx hb dX12_settles_116 rfl (lv_at hl 2 rfl) ?_
              refine lv_icmp_ge (tgt := 154) hx hb dX12_settles_117 (by decide) (fun hc => ?_) (fun hc => ?_)
              · rw [if_pos hc] at h
                refine lv_iinc (v := (v5 + (1 : Int32))) (lv' := [(5, .int (v5 + (1 : Int32))), (0, .ref (g.2.2 171)), (1, .int v1), (2, .int v2), (3, .int v3), (4, .int v4), (6, .int v6)]) hx hb dX12_settles_154 hl (k := 5) rfl rfl (by decide) rfl (fun ls hl => ?_)
                refine lv_goto (tgt := 105) hx hb dX12_settles_157 (by decide) ?_
                exact ih105 v2 v3 v4 (v5 + (1 : Int32)) μ _ _ _ hw (lv_sub hl [1, 2, 3, 4, 5, 0] rfl) h
              · rw [if_neg hc] at h
                refine lv_aload_n hx hb dX12_settles_120 rfl (lv_at hl 0 rfl) ?_
                refine gR (t := 186) hC hw fl_X12_57 ok171 (by decide) ot171_34 dX12_settles_121 ?_
                refine lv_aload_n hx hb dX12_settles_124 rfl (lv_at hl 0 rfl) ?_
                refine lv_iload hx hb dX12_settles_125 (lv_at hl 5 rfl) ?_
                refine lv_iload_n hx hb dX12_settles_127 rfl (lv_at hl 1 rfl) ?_
                refine lv_iload hx hb dX12_settles_128 (lv_at hl 6 rfl) ?_
                obtain ⟨r130, hr130, h⟩ := bnd h
                refine cV (b := 171) (As := [.int v5, .int v1, .int v6]) (rest := [.ref (g.2.2 186)]) (st1 := [.int r130.1, .ref (g.2.2 186)]) hC hw (c_X12_seat l g n v5 v1 v6 μ r130 hr130) ml_X12_384 im_X12_seat se_X12_seat ok171 (CN := RX12) (T := TX12) (NF := 54) rfl rfl (by decide) rfl hl.1 ⟨Nat.le_of_ble_eq_true rfl, Nat.le_of_ble_eq_true rfl⟩ (Nat.le_of_ble_eq_true rfl) ⟨Nat.zero_le _, Nat.zero_le _⟩ rfl dX12_settles_130 (fun H locs hw => ?_)
                refine lv_aload_n hx hb dX12_settles_133 rfl (lv_at hl 0 rfl) ?_
                refine gR (t := 184) hC hw fl_X12_51 ok171 (by decide) ot171_32 dX12_settles_134 ?_
                refine lv_aload_n hx hb dX12_settles_137 rfl (lv_at hl 0 rfl) ?_
                refine lv_iload hx hb dX12_settles_138 (lv_at hl 5 rfl) ?_
                refine lv_iload_n hx hb dX12_settles_140 rfl (lv_at hl 1 rfl) ?_
                refine lv_iload hx hb dX12_settles_141 (lv_at hl 6 rfl) ?_
                obtain ⟨r143, hr143, h⟩ := bnd h
                refine cV (b := 171) (As := [.int v5, .int v1, .int v6]) (rest := [.ref (g.2.2 184), .int r130.1, .ref (g.2.2 186)]) (st1 := [.int r143.1, .ref (g.2.2 184), .int r130.1, .ref (g.2.2 186)]) hC hw (c_X12_seat l g n v5 v1 v6 r130.2 r143 hr143) ml_X12_384 im_X12_seat se_X12_seat ok171 (CN := RX12) (T := TX12) (NF := 54) rfl rfl (by decide) rfl hl.1 ⟨Nat.le_of_ble_eq_true rfl, Nat.le_of_ble_eq_true rfl⟩ (Nat.le_of_ble_eq_true rfl) ⟨Nat.zero_le _, Nat.zero_le _⟩ rfl dX12_settles_143 (fun H locs hw => ?_)
                obtain ⟨hi146, h⟩ := gd_some h
                refine lI (j := r143.1.toNatClampNeg) hC hw ok184 on184 hi146 rfl dX12_settles_146 ?_
                obtain ⟨hi147, h⟩ := gd_some h
                refine sI (j := r130.1.toNatClampNeg) hC hw ok186 on186 hi147 rfl dX12_settles_147 (fun H locs hw => ?_)
                refine lv_iinc (v := (v6 + (1 : Int32))) (lv' := [(6, .int (v6 + (1 : Int32))), (0, .ref (g.2.2 171)), (1, .int v1), (2, .int v2), (3, .int v3), (4, .int v4), (5, .int v5)]) hx hb dX12_settles_148 hl (k := 6) rfl rfl (by decide) rfl (fun ls hl => ?_)
                refine lv_goto (tgt := 114) hx hb dX12_settles_151 (by decide) ?_
                exact ih114 v2 v3 v4 v5 (v6 + (1 : Int32)) (si r143.2 186 r130.1.toNatClampNeg (r143.2.1 184 r143.1.toNatClampNeg)) _ _ _ hw (lv_sub hl [1, 2, 3, 4, 5, 6, 0] rfl) h
          rw [X12_settles_105b] at h
          refine lv_iload hx hb dX12_settles_105 (lv_at hl 5 rfl) ?_
          refine lv_iconst (v := (2 : Int32)) hx hb dX12_settles_107 (by decide) ?_
          refine lv_icmp_ge (tgt := 160) hx hb dX12_settles_108 (by decide) (fun hc => ?_) (fun hc => ?_)
          · rw [if_pos hc] at h
            refine lv_iconst (v := (0 : Int32)) hx hb dX12_settles_160 (by decide) ?_
            refine lv_istore (lv' := [(5, .int (0 : Int32)), (0, .ref (g.2.2 171)), (1, .int v1), (2, .int v2), (3, .int v3), (4, .int v4)]) hx hb dX12_settles_161 hl (by decide) rfl (fun ls hl => ?_)
            exact B163 n v2 v3 v4 (0 : Int32) μ _ _ _ hw (lv_sub hl [1, 2, 3, 4, 5, 0] rfl) h
          · rw [if_neg hc] at h
            refine lv_iconst (v := (0 : Int32)) hx hb dX12_settles_111 (by decide) ?_
            refine lv_istore (lv' := [(6, .int (0 : Int32)), (0, .ref (g.2.2 171)), (1, .int v1), (2, .int v2), (3, .int v3), (4, .int v4), (5, .int v5)]) hx hb dX12_settles_112 hl (by decide) rfl (fun ls hl => ?_)
            exact B114 n v2 v3 v4 v5 (0 : Int32) μ _ _ _ hw (lv_sub hl [1, 2, 3, 4, 5, 6, 0] rfl) h
      rw [X12_settles_96b] at h
      refine lv_iload_n hx hb dX12_settles_96 rfl (lv_at hl 3 rfl) ?_
      refine lv_if_eq (tgt := 215) hx hb dX12_settles_97 (by decide) (fun hc => ?_) (fun hc => ?_)
      · rw [if_pos hc] at h
        exact rV hC hw hr hlocks rfl (by rw [← Option.some.inj h]) dX12_settles_215
      · rw [if_neg hc] at h
        refine lv_iconst (v := (0 : Int32)) hx hb dX12_settles_100 (by decide) ?_
        refine lv_istore_n (lv' := [(3, .int (0 : Int32)), (0, .ref (g.2.2 171)), (1, .int v1), (2, .int v2), (4, .int v4)]) hx hb dX12_settles_101 rfl hl (by decide) rfl (fun ls hl => ?_)
        refine lv_iconst (v := (0 : Int32)) hx hb dX12_settles_102 (by decide) ?_
        refine lv_istore (lv' := [(5, .int (0 : Int32)), (3, .int (0 : Int32)), (0, .ref (g.2.2 171)), (1, .int v1), (2, .int v2), (4, .int v4)]) hx hb dX12_settles_103 hl (by decide) rfl (fun ls hl => ?_)
        exact B105 n v2 (0 : Int32) v4 (0 : Int32) μ _ _ _ hw (lv_sub hl [2, 3, 4, 1, 5, 0] rfl) h
  have B18 : ∀ (k : Nat), ∀ (v2 : Int32) (v3 : Int32) (μ : Mu) (H : Heap) (locs : List Loc) (ls : Array Slot), wd g μ s (Aw g s.heap.size) H locs → lv_has ls 7 [(0, .ref (g.2.2 171)), (1, .int v1), (2, .int v2), (3, .int v3)] → lpF (fun _ _ _ => none) (X12_settles_18b n v1) k v2 v3 μ = some r → WQ p l e (rmD 4) s m args below meth c g none r.2 H locs (F0 m 18 ls []) := by
    intro k
    induction k with
    | zero =>
      intro v2 v3 μ H locs ls hw hl h
      cases h
    | succ k ih18 =>
      rw [lpF_s]
      generalize lpF (fun _ _ _ => none) (X12_settles_18b n v1) k = k18 at ih18 ⊢
      intro v2 v3 μ H locs ls hw hl h
      have B26 : ∀ (k : Nat), ∀ (v2 : Int32) (v3 : Int32) (v4 : Int32) (μ : Mu) (H : Heap) (locs : List Loc) (ls : Array Slot), wd g μ s (Aw g s.heap.size) H locs → lv_has ls 7 [(0, .ref (g.2.2 171)), (1, .int v1), (2, .int v2), (3, .int v3), (4, .int v4)] → lpF (fun _ _ _ _ => none) (X12_settles_26b n v1 k18) k v2 v3 v4 μ = some r → WQ p l e (rmD 4) s m args below meth c g none r.2 H locs (F0 m 26 ls []) := by
        intro k
        induction k with
        | zero =>
          intro v2 v3 v4 μ H locs ls hw hl h
          cases h
        | succ k ih26 =>
          rw [lpF_s]
          generalize lpF (fun _ _ _ _ => none) (X12_settles_26b n v1 k18) k = k26 at ih26 ⊢
          intro v2 v3 v4 μ H locs ls hw hl h
          have B70 : ∀ (v2 : Int32) (v3 : Int32) (v4 : Int32) (v5 : Int32) (s1 : Int32) (s2 : Int32) (μ : Mu) (H : Heap) (locs : List Loc) (ls : Array Slot), wd g μ s (Aw g s.heap.size) H locs → lv_has ls 7 [(0, .ref (g.2.2 171)), (1, .int v1), (2, .int v2), (3, .int v3), (4, .int v4), (5, .int v5)] → X12_settles_70 n v1 k18 k26 v2 v3 v4 v5 s1 s2 μ = some r → WQ p l e (rmD 4) s m args below meth c g none r.2 H locs (F0 m 70 ls [.int s2, .int s1, .ref (g.2.2 184)]) := by
            intro v2 v3 v4 v5 s1 s2 μ H locs ls hw hl h
            rw [X12_settles_70] at h
            obtain ⟨hi70, h⟩ := gd_some h
            refine sI (j := s1.toNatClampNeg) hC hw ok184 on184 hi70 rfl dX12_settles_70 (fun H locs hw => ?_)
            refine lv_aload_n hx hb dX12_settles_71 rfl (lv_at hl 0 rfl) ?_
            refine gR (t := 185) hC hw fl_X12_54 ok171 (by decide) ot171_33 dX12_settles_72 ?_
            refine lv_iload hx hb dX12_settles_75 (lv_at hl 5 rfl) ?_
            refine lv_iconst (v := (0 : Int32)) hx hb dX12_settles_77 (by decide) ?_
            obtain ⟨hi78, h⟩ := gd_some h
            refine sI (j := v5.toNatClampNeg) hC hw ok185 on185 hi78 rfl dX12_settles_78 (fun H locs hw => ?_)
            refine lv_iinc (v := (v4 + (1 : Int32))) (lv' := [(4, .int (v4 + (1 : Int32))), (0, .ref (g.2.2 171)), (1, .int v1), (2, .int v2), (3, .int v3), (5, .int v5)]) hx hb dX12_settles_79 hl (k := 4) rfl rfl (by decide) rfl (fun ls hl => ?_)
            refine lv_goto (tgt := 26) hx hb dX12_settles_82 (by decide) ?_
            exact ih26 v2 v3 (v4 + (1 : Int32)) (si (si μ 184 s1.toNatClampNeg s2) 185 v5.toNatClampNeg (0 : Int32)) _ _ _ hw (lv_sub hl [1, 2, 3, 4, 0] rfl) h
          rw [X12_settles_26b] at h
          refine lv_iload hx hb dX12_settles_26 (lv_at hl 4 rfl) ?_
          refine lv_iload_n hx hb dX12_settles_28 rfl (lv_at hl 2 rfl) ?_
          refine lv_icmp_ge (tgt := 85) hx hb dX12_settles_29 (by decide) (fun hc => ?_) (fun hc => ?_)
          · rw [if_pos hc] at h
            refine lv_iinc (v := (v3 + (1 : Int32))) (lv' := [(3, .int (v3 + (1 : Int32))), (0, .ref (g.2.2 171)), (1, .int v1), (2, .int v2), (4, .int v4)]) hx hb dX12_settles_85 hl (k := 3) rfl rfl (by decide) rfl (fun ls hl => ?_)
            refine lv_goto (tgt := 18) hx hb dX12_settles_88 (by decide) ?_
            exact ih18 v2 (v3 + (1 : Int32)) μ _ _ _ hw (lv_sub hl [1, 2, 3, 0] rfl) h
          · rw [if_neg hc] at h
            refine lv_aload_n hx hb dX12_settles_32 rfl (lv_at hl 0 rfl) ?_
            refine lv_iload_n hx hb dX12_settles_33 rfl (lv_at hl 3 rfl) ?_
            refine lv_iload_n hx hb dX12_settles_34 rfl (lv_at hl 1 rfl) ?_
            refine lv_iload hx hb dX12_settles_35 (lv_at hl 4 rfl) ?_
            obtain ⟨r37, hr37, h⟩ := bnd h
            refine cV (b := 171) (As := [.int v3, .int v1, .int v4]) (rest := []) (st1 := [.int r37.1]) hC hw (c_X12_seat l g n v3 v1 v4 μ r37 hr37) ml_X12_384 im_X12_seat se_X12_seat ok171 (CN := RX12) (T := TX12) (NF := 54) rfl rfl (by decide) rfl hl.1 ⟨Nat.le_of_ble_eq_true rfl, Nat.le_of_ble_eq_true rfl⟩ (Nat.le_of_ble_eq_true rfl) ⟨Nat.zero_le _, Nat.zero_le _⟩ rfl dX12_settles_37 (fun H locs hw => ?_)
            refine lv_istore (lv' := [(5, .int r37.1), (0, .ref (g.2.2 171)), (1, .int v1), (2, .int v2), (3, .int v3), (4, .int v4)]) hx hb dX12_settles_40 hl (by decide) rfl (fun ls hl => ?_)
            refine lv_aload_n hx hb dX12_settles_42 rfl (lv_at hl 1 rfl) ?_
            refine gR (t := 184) hC hw fl_X12_51 ok171 (by decide) ot171_32 dX12_settles_43 ?_
            refine lv_iload hx hb dX12_settles_46 (lv_at hl 0 rfl) ?_
            refine lv_aload_n hx hb dX12_settles_48 rfl (lv_at hl 1 rfl) ?_
            refine gR (t := 190) hC hw fl_X12_70 ok171 (by decide) ot171_38 dX12_settles_49 ?_
            refine lv_iload hx hb dX12_settles_52 (lv_at hl 0 rfl) ?_
            obtain ⟨hi54, h⟩ := gd_some h
            refine lZ (j := r37.1.toNatClampNeg) hC hw ok190 on190 hi54 rfl dX12_settles_54 ?_
            refine lv_if_eq (tgt := 69) hx hb dX12_settles_55 (by decide) (fun hc => ?_) (fun hc => ?_)
            · rw [if_pos hc] at h
              refine lv_iconst (v := (0 : Int32)) hx hb dX12_settles_69 (by decide) ?_
              exact B70 v2 v3 v4 r37.1 r37.1 (0 : Int32) r37.2 _ _ _ hw (lv_sub hl [1, 2, 3, 4, 5, 0] rfl) h
            · rw [if_neg hc] at h
              refine lv_aload_n hx hb dX12_settles_58 rfl (lv_at hl 1 rfl) ?_
              refine lv_iload_n hx hb dX12_settles_59 rfl (lv_at hl 4 rfl) ?_
              refine lv_iload_n hx hb dX12_settles_60 rfl (lv_at hl 2 rfl) ?_
              refine lv_iload hx hb dX12_settles_61 (lv_at hl 5 rfl) ?_
              obtain ⟨r63, hr63, h⟩ := bnd h
              refine cV (b := 171) (As := [.int v3, .int v1, .int v4]) (rest := [.int r37.1, .ref (g.2.2 184)]) (st1 := [.int r63.1, .int r37.1, .ref (g.2.2 184)]) hC hw (c_X12_ownLess l g n v3 v1 v4 r37.2 r63 hr63) ml_X12_391 im_X12_ownLess se_X12_ownLess ok171 (CN := RX12) (T := TX12) (NF := 54) rfl rfl (by decide) rfl hl.1 ⟨Nat.le_of_ble_eq_true rfl, Nat.le_of_ble_eq_true rfl⟩ (Nat.le_of_ble_eq_true rfl) ⟨Nat.zero_le _, Nat.zero_le _⟩ rfl dX12_settles_63 (fun H locs hw => ?_)
              refine lv_goto (tgt := 70) hx hb dX12_settles_66 (by decide) ?_
              exact B70 v2 v3 v4 r37.1 r37.1 r63.1 r63.2 _ _ _ hw (lv_sub hl [1, 2, 3, 4, 5, 0] rfl) h
      rw [X12_settles_18b] at h
      refine lv_iload_n hx hb dX12_settles_18 rfl (lv_at hl 3 rfl) ?_
      refine lv_iconst (v := (2 : Int32)) hx hb dX12_settles_19 (by decide) ?_
      refine lv_icmp_ge (tgt := 91) hx hb dX12_settles_20 (by decide) (fun hc => ?_) (fun hc => ?_)
      · rw [if_pos hc] at h
        refine lv_iconst (v := (1 : Int32)) hx hb dX12_settles_91 (by decide) ?_
        refine lv_istore_n (lv' := [(3, .int (1 : Int32)), (0, .ref (g.2.2 171)), (1, .int v1), (2, .int v2)]) hx hb dX12_settles_92 rfl hl (by decide) rfl (fun ls hl => ?_)
        refine lv_iconst (v := (1 : Int32)) hx hb dX12_settles_93 (by decide) ?_
        refine lv_istore (lv' := [(4, .int (1 : Int32)), (3, .int (1 : Int32)), (0, .ref (g.2.2 171)), (1, .int v1), (2, .int v2)]) hx hb dX12_settles_94 hl (by decide) rfl (fun ls hl => ?_)
        exact B96 n v2 (1 : Int32) (1 : Int32) μ _ _ _ hw (lv_sub hl [2, 3, 4, 1, 0] rfl) h
      · rw [if_neg hc] at h
        refine lv_iconst (v := (0 : Int32)) hx hb dX12_settles_23 (by decide) ?_
        refine lv_istore (lv' := [(4, .int (0 : Int32)), (0, .ref (g.2.2 171)), (1, .int v1), (2, .int v2), (3, .int v3)]) hx hb dX12_settles_24 hl (by decide) rfl (fun ls hl => ?_)
        exact B26 n v2 v3 (0 : Int32) μ _ _ _ hw (lv_sub hl [1, 2, 3, 4, 0] rfl) h
  refine lv_aload_n hx hb dX12_settles_0 rfl (lv_at hl 0 rfl) ?_
  refine gR (t := 189) hC hw fl_X12_67 ok171 (by decide) ot171_37 dX12_settles_1 ?_
  refine lv_iload_n hx hb dX12_settles_4 rfl (lv_at hl 1 rfl) ?_
  refine lv_iconst (v := (1 : Int32)) hx hb dX12_settles_5 (by decide) ?_
  refine lv_iadd hx hb dX12_settles_6 ?_
  obtain ⟨hi7, h⟩ := gd_some h
  refine lI (j := (v1 + (1 : Int32)).toNatClampNeg) hC hw ok189 on189 hi7 rfl dX12_settles_7 ?_
  refine lv_aload_n hx hb dX12_settles_8 rfl (lv_at hl 0 rfl) ?_
  refine gR (t := 189) hC hw fl_X12_67 ok171 (by decide) ot171_37 dX12_settles_9 ?_
  refine lv_iload_n hx hb dX12_settles_12 rfl (lv_at hl 1 rfl) ?_
  obtain ⟨hi13, h⟩ := gd_some h
  refine lI (j := v1.toNatClampNeg) hC hw ok189 on189 hi13 rfl dX12_settles_13 ?_
  refine lv_isub hx hb dX12_settles_14 ?_
  refine lv_istore_n (lv' := [(2, .int ((μ.1 189 (v1 + (1 : Int32)).toNatClampNeg) - (μ.1 189 v1.toNatClampNeg))), (0, .ref (g.2.2 171)), (1, .int v1)]) hx hb dX12_settles_15 rfl hl (by decide) rfl (fun ls hl => ?_)
  refine lv_iconst (v := (0 : Int32)) hx hb dX12_settles_16 (by decide) ?_
  refine lv_istore_n (lv' := [(3, .int (0 : Int32)), (2, .int ((μ.1 189 (v1 + (1 : Int32)).toNatClampNeg) - (μ.1 189 v1.toNatClampNeg))), (0, .ref (g.2.2 171)), (1, .int v1)]) hx hb dX12_settles_17 rfl hl (by decide) rfl (fun ls hl => ?_)
  exact B18 n ((μ.1 189 (v1 + (1 : Int32)).toNatClampNeg) - (μ.1 189 v1.toNatClampNeg)) (0 : Int32) μ _ _ _ hw (lv_sub hl [2, 3, 1, 0] rfl) h
set_option maxRecDepth 100000 in
set_option maxHeartbeats 4000000 in
theorem c_X12_write (l : Launch) (g : Gw) (n : Nat) (v1 : Int32) (v2 : Int32) (v3 : Int64) (μ : Mu) (r : Int64 × Mu) (h : X12_write n v1 v2 v3 μ = some r) : Ct l g yX12_write cX12_write 5 (some .long) 3 [.ref (g.2.2 171), .int v1, .int v2, .long v3] μ (some (.long r.1)) r.2 := by
  rw [X12_write] at h
  refine Ct.of (by decide) (Nat.le_of_ble_eq_true rfl) ?_
  intro p e s m args below meth c ls hC hw hr hlocks hl
  have hx := hC.1
  have hb := hC.2.1
  have hl : lv_has ls 5 [(0, .ref (g.2.2 171)), (1, .int v1), (2, .int v2), (3, .long v3)] := hl
  have B52 : ∀ (s0 : Int64) (μ : Mu) (H : Heap) (locs : List Loc) (ls : Array Slot), wd g μ s (Aw g s.heap.size) H locs → lv_has ls 5 [] → X12_write_52 n v1 v2 v3 s0 μ = some r → WQ p l e (rmD 3) s m args below meth c g (some (.long r.1)) r.2 H locs (F0 m 52 ls [.long s0]) := by
    intro s0 μ H locs ls hw hl h
    rw [X12_write_52] at h
    exact rL hC hw hr hlocks (by rw [← Option.some.inj h]) (by rw [← Option.some.inj h]) dX12_write_52
  refine lv_aload_n hx hb dX12_write_0 rfl (lv_at hl 0 rfl) ?_
  refine lv_aload_n hx hb dX12_write_1 rfl (lv_at hl 0 rfl) ?_
  refine lv_iload_n hx hb dX12_write_2 rfl (lv_at hl 1 rfl) ?_
  obtain ⟨r3, hr3, h⟩ := bnd h
  refine cV (b := 171) (As := [.int v1]) (rest := [.ref (g.2.2 171)]) (st1 := [.int r3.1, .ref (g.2.2 171)]) hC hw (c_X12_trayFault l g n v1 μ r3 hr3) ml_X12_340 im_X12_trayFault se_X12_trayFault ok171 (CN := RX12) (T := TX12) (NF := 54) rfl rfl (by decide) rfl hl.1 ⟨Nat.le_of_ble_eq_true rfl, Nat.le_of_ble_eq_true rfl⟩ (Nat.le_of_ble_eq_true rfl) ⟨Nat.zero_le _, Nat.zero_le _⟩ rfl dX12_write_3 (fun H locs hw => ?_)
  refine pI hC hw fl_X12_107 fp_12_5 ok171 dX12_write_6 (fun H locs hw => ?_)
  refine lv_aload_n hx hb dX12_write_9 rfl (lv_at hl 0 rfl) ?_
  refine gI hC hw fl_X12_107 ok171 (by decide) dX12_write_10 ?_
  refine lv_if_le (tgt := 18) hx hb dX12_write_13 (by decide) (fun hc => ?_) (fun hc => ?_)
  · rw [if_pos hc] at h
    refine lv_iload_n hx hb dX12_write_18 rfl (lv_at hl 2 rfl) ?_
    refine lv_i2l hx hb dX12_write_19 rfl ?_
    refine lv_lconst (v := (0 : Int64)) hx hb dX12_write_20 (by decide) ?_
    refine lv_aload_n hx hb dX12_write_21 rfl (lv_at hl 0 rfl) ?_
    refine gR (t := 199) hC hw fl_X12_100 ok171 (by decide) ot171_52 dX12_write_22 ?_
    refine lv_iload_n hx hb dX12_write_25 rfl (lv_at hl 1 rfl) ?_
    obtain ⟨hi26, h⟩ := gd_some h
    refine lI (j := v1.toNatClampNeg) hC hw ok199 on199 hi26 rfl dX12_write_26 ?_
    refine lv_iconst (v := (1 : Int32)) hx hb dX12_write_27 (by decide) ?_
    refine lv_isub hx hb dX12_write_28 ?_
    refine lv_i2l hx hb dX12_write_29 rfl ?_
    obtain ⟨r30, hr30, h⟩ := bnd h
    refine cS (As := [.long (v2.toInt64), .long (0 : Int64), .long ((((si r3.2 171 5 r3.1).1 199 v1.toNatClampNeg) - (1 : Int32)).toInt64)]) (rest := []) (st1 := [.int r30.1]) hC hw (c_X12_within l g n (v2.toInt64) (0 : Int64) ((((si r3.2 171 5 r3.1).1 199 v1.toNatClampNeg) - (1 : Int32)).toInt64) (si r3.2 171 5 r3.1) r30 hr30) ml_X12_166 st_X12_within rfl hl.1 ⟨Nat.le_of_ble_eq_true rfl, Nat.le_of_ble_eq_true rfl⟩ (Nat.le_of_ble_eq_true rfl) ⟨Nat.zero_le _, Nat.zero_le _⟩ rfl dX12_write_30 (fun H locs hw => ?_)
    refine lv_if_eq (tgt := 46) hx hb dX12_write_33 (by decide) (fun hc => ?_) (fun hc => ?_)
    · rw [if_pos hc] at h
      refine lv_aload_n hx hb dX12_write_46 rfl (lv_at hl 0 rfl) ?_
      refine lv_iconst (v := (3 : Int32)) hx hb dX12_write_47 (by decide) ?_
      obtain ⟨r48, hr48, h⟩ := bnd h
      refine cV (b := 171) (As := [.int (3 : Int32)]) (rest := []) (st1 := [.int r48.1]) hC hw (c_X12_fails l g n (3 : Int32) r30.2 r48 hr48) ml_X12_221 im_X12_fails se_X12_fails ok171 (CN := RX12) (T := TX12) (NF := 54) rfl rfl (by decide) rfl hl.1 ⟨Nat.le_of_ble_eq_true rfl, Nat.le_of_ble_eq_true rfl⟩ (Nat.le_of_ble_eq_true rfl) ⟨Nat.zero_le _, Nat.zero_le _⟩ rfl dX12_write_48 (fun H locs hw => ?_)
      refine lv_i2l hx hb dX12_write_51 rfl ?_
      exact B52 (r48.1.toInt64) r48.2 _ _ _ hw (lv_sub hl [] rfl) h
    · rw [if_neg hc] at h
      refine lv_aload_n hx hb dX12_write_36 rfl (lv_at hl 0 rfl) ?_
      refine lv_iload_n hx hb dX12_write_37 rfl (lv_at hl 1 rfl) ?_
      refine lv_iload_n hx hb dX12_write_38 rfl (lv_at hl 2 rfl) ?_
      refine lv_lload_n hx hb dX12_write_39 rfl (lv_at hl 3 rfl) ?_
      obtain ⟨r40, hr40, h⟩ := bnd h
      refine cV (b := 171) (As := [.int v1, .int v2, .long v3]) (rest := []) (st1 := [.long r40.1]) hC hw (c_X12_cut l g n v1 v2 v3 r30.2 r40 hr40) ml_X12_475 im_X12_cut se_X12_cut ok171 (CN := RX12) (T := TX12) (NF := 54) rfl rfl (by decide) rfl hl.1 ⟨Nat.le_of_ble_eq_true rfl, Nat.le_of_ble_eq_true rfl⟩ (Nat.le_of_ble_eq_true rfl) ⟨Nat.zero_le _, Nat.zero_le _⟩ rfl dX12_write_40 (fun H locs hw => ?_)
      refine lv_goto (tgt := 52) hx hb dX12_write_43 (by decide) ?_
      exact B52 r40.1 r40.2 _ _ _ hw (lv_sub hl [] rfl) h
  · rw [if_neg hc] at h
    refine lv_lconst (v := (0 : Int64)) hx hb dX12_write_16 (by decide) ?_
    exact rL hC hw hr hlocks (by rw [← Option.some.inj h]) (by rw [← Option.some.inj h]) dX12_write_17
