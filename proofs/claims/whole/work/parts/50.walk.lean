set_option maxRecDepth 100000 in
set_option maxHeartbeats 4000000 in
theorem c_X12_pitMany (l : Launch) (g : Gw) (n : Nat) (μ : Mu) (r : Int32 × Mu) (h : X12_pitMany n  μ = some r) : Ct l g yX12_pitMany cX12_pitMany 1 (some .int) 0 [.ref (g.2.2 171)] μ (some (.int r.1)) r.2 := by
  rw [X12_pitMany] at h
  refine Ct.of (by decide) (Nat.le_of_ble_eq_true rfl) ?_
  intro p e s m args below meth c ls hC hw hr hlocks hl
  have hx := hC.1
  have hb := hC.2.1
  have hl : lv_has ls 1 [(0, .ref (g.2.2 171))] := hl
  refine lv_iconst (v := (2 : Int32)) hx hb dX12_pitMany_0 (by decide) ?_
  refine lv_aload_n hx hb dX12_pitMany_1 rfl (lv_at hl 0 rfl) ?_
  refine gR (t := 172) hC hw fl_X12_9 k171 (by decide) t171_0 dX12_pitMany_2 ?_
  refine lv_iconst (v := (1 : Int32)) hx hb dX12_pitMany_5 (by decide) ?_
  refine lI (j := 1) hC hw k172 n172 (vin (by decide)) (by decide) dX12_pitMany_6 ?_
  refine lv_imul hx hb dX12_pitMany_7 ?_
  exact rI hC hw hr hlocks (by rw [← Option.some.inj h]) (by rw [← Option.some.inj h]) dX12_pitMany_8
set_option maxRecDepth 100000 in
set_option maxHeartbeats 4000000 in
theorem c_X12_isLacking (l : Launch) (g : Gw) (n : Nat) (v1 : Int32) (μ : Mu) (r : Int32 × Mu) (h : X12_isLacking n v1 μ = some r) : Ct l g yX12_isLacking cX12_isLacking 2 (some .boolean) 0 [.ref (g.2.2 171), .int v1] μ (some (.int r.1)) r.2 := by
  rw [X12_isLacking] at h
  refine Ct.of (by decide) (Nat.le_of_ble_eq_true rfl) ?_
  intro p e s m args below meth c ls hC hw hr hlocks hl
  have hx := hC.1
  have hb := hC.2.1
  have hl : lv_has ls 2 [(0, .ref (g.2.2 171)), (1, .int v1)] := hl
  have B19 : ∀ (s0 : Int32) (μ : Mu) (H : Heap) (locs : List Loc) (ls : Array Slot), wd g μ s (Aw g s.heap.size) H locs → lv_has ls 2 [] → X12_isLacking_19 n v1 s0 μ = some r → WQ p l e (rmD 0) s m args below meth c g (some (.int r.1)) r.2 H locs (F0 m 19 ls [.int s0]) := by
    intro s0 μ H locs ls hw hl h
    rw [X12_isLacking_19] at h
    obtain ⟨hz19, h⟩ := bz_some h
    exact rZ hC hw hr hlocks hz19 (by rw [← Option.some.inj h]) (by rw [← Option.some.inj h]) dX12_isLacking_19
  refine lv_aload_n hx hb dX12_isLacking_0 rfl (lv_at hl 0 rfl) ?_
  refine gR (t := 172) hC hw fl_X12_9 k171 (by decide) t171_0 dX12_isLacking_1 ?_
  refine lv_iconst (v := (3 : Int32)) hx hb dX12_isLacking_4 (by decide) ?_
  refine lI (j := 3) hC hw k172 n172 (vin (by decide)) (by decide) dX12_isLacking_5 ?_
  refine lv_iload_n hx hb dX12_isLacking_6 rfl (lv_at hl 1 rfl) ?_
  refine lv_ishr hx hb dX12_isLacking_7 ?_
  refine lv_iconst (v := (1 : Int32)) hx hb dX12_isLacking_8 (by decide) ?_
  refine lv_iand hx hb dX12_isLacking_9 ?_
  refine lv_iconst (v := (1 : Int32)) hx hb dX12_isLacking_10 (by decide) ?_
  refine lv_icmp_ne (tgt := 18) hx hb dX12_isLacking_11 (by decide) (fun hc => ?_) (fun hc => ?_)
  · rw [if_neg hc] at h
    refine lv_iconst (v := (0 : Int32)) hx hb dX12_isLacking_18 (by decide) ?_
    exact B19 (0 : Int32) μ _ _ _ hw (lv_sub hl [] rfl) h
  · rw [if_pos hc] at h
    refine lv_iconst (v := (1 : Int32)) hx hb dX12_isLacking_14 (by decide) ?_
    refine lv_goto (tgt := 19) hx hb dX12_isLacking_15 (by decide) ?_
    exact B19 (1 : Int32) μ _ _ _ hw (lv_sub hl [] rfl) h
set_option maxRecDepth 100000 in
set_option maxHeartbeats 4000000 in
theorem c_X12_sideOf (l : Launch) (g : Gw) (n : Nat) (v1 : Int32) (μ : Mu) (r : Int32 × Mu) (h : X12_sideOf n v1 μ = some r) : Ct l g yX12_sideOf cX12_sideOf 2 (some .int) 0 [.ref (g.2.2 171), .int v1] μ (some (.int r.1)) r.2 := by
  rw [X12_sideOf] at h
  refine Ct.of (by decide) (Nat.le_of_ble_eq_true rfl) ?_
  intro p e s m args below meth c ls hC hw hr hlocks hl
  have hx := hC.1
  have hb := hC.2.1
  have hl : lv_has ls 2 [(0, .ref (g.2.2 171)), (1, .int v1)] := hl
  have B15 : ∀ (s0 : Int32) (μ : Mu) (H : Heap) (locs : List Loc) (ls : Array Slot), wd g μ s (Aw g s.heap.size) H locs → lv_has ls 2 [] → X12_sideOf_15 n v1 s0 μ = some r → WQ p l e (rmD 0) s m args below meth c g (some (.int r.1)) r.2 H locs (F0 m 15 ls [.int s0]) := by
    intro s0 μ H locs ls hw hl h
    rw [X12_sideOf_15] at h
    exact rI hC hw hr hlocks (by rw [← Option.some.inj h]) (by rw [← Option.some.inj h]) dX12_sideOf_15
  refine lv_iload_n hx hb dX12_sideOf_0 rfl (lv_at hl 1 rfl) ?_
  refine lv_aload_n hx hb dX12_sideOf_1 rfl (lv_at hl 0 rfl) ?_
  refine gR (t := 172) hC hw fl_X12_9 k171 (by decide) t171_0 dX12_sideOf_2 ?_
  refine lv_iconst (v := (1 : Int32)) hx hb dX12_sideOf_5 (by decide) ?_
  refine lI (j := 1) hC hw k172 n172 (vin (by decide)) (by decide) dX12_sideOf_6 ?_
  refine lv_icmp_ge (tgt := 14) hx hb dX12_sideOf_7 (by decide) (fun hc => ?_) (fun hc => ?_)
  · rw [if_pos hc] at h
    refine lv_iconst (v := (1 : Int32)) hx hb dX12_sideOf_14 (by decide) ?_
    exact B15 (1 : Int32) μ _ _ _ hw (lv_sub hl [] rfl) h
  · rw [if_neg hc] at h
    refine lv_iconst (v := (0 : Int32)) hx hb dX12_sideOf_10 (by decide) ?_
    refine lv_goto (tgt := 15) hx hb dX12_sideOf_11 (by decide) ?_
    exact B15 (0 : Int32) μ _ _ _ hw (lv_sub hl [] rfl) h
set_option maxRecDepth 100000 in
set_option maxHeartbeats 4000000 in
theorem c_X12_next (l : Launch) (g : Gw) (n : Nat) (v1 : Int32) (v2 : Int32) (v3 : Int32) (μ : Mu) (r : Int32 × Mu) (h : X12_next n v1 v2 v3 μ = some r) : Ct l g yX12_next cX12_next 8 (some .int) 1 [.ref (g.2.2 171), .int v1, .int v2, .int v3] μ (some (.int r.1)) r.2 := by
  rw [X12_next] at h
  refine Ct.of (by decide) (Nat.le_of_ble_eq_true rfl) ?_
  intro p e s m args below meth c ls hC hw hr hlocks hl
  have hx := hC.1
  have hb := hC.2.1
  have hl : lv_has ls 8 [(0, .ref (g.2.2 171)), (1, .int v1), (2, .int v2), (3, .int v3)] := hl
  have B6 : ∀ (k : Nat), ∀ (v4 : Int32) (v5 : Int32) (μ : Mu) (H : Heap) (locs : List Loc) (ls : Array Slot), wd g μ s (Aw g s.heap.size) H locs → lv_has ls 8 [(0, .ref (g.2.2 171)), (1, .int v1), (3, .int v3), (4, .int v4), (5, .int v5)] → lpF (fun _ _ _ => none) (X12_next_6b n v1 v2 v3) k v4 v5 μ = some r → WQ p l e (rmD 1) s m args below meth c g (some (.int r.1)) r.2 H locs (F0 m 6 ls []) := by
    intro k
    induction k with
    | zero =>
      intro v4 v5 μ H locs ls hw hl h
      cases h
    | succ k ih6 =>
      rw [lpF_s]
      generalize lpF (fun _ _ _ => none) (X12_next_6b n v1 v2 v3) k = k6 at ih6 ⊢
      intro v4 v5 μ H locs ls hw hl h
      have B157 : ∀ (v4 : Int32) (v5 : Int32) (μ : Mu) (H : Heap) (locs : List Loc) (ls : Array Slot), wd g μ s (Aw g s.heap.size) H locs → lv_has ls 8 [(0, .ref (g.2.2 171)), (1, .int v1), (3, .int v3), (4, .int v4), (5, .int v5)] → X12_next_157 n v1 v2 v3 k6 v4 v5 μ = some r → WQ p l e (rmD 1) s m args below meth c g (some (.int r.1)) r.2 H locs (F0 m 157 ls []) := by
        intro v4 v5 μ H locs ls hw hl h
        rw [X12_next_157] at h
        refine lv_iinc (v := (v5 + (1 : Int32))) (lv' := [(5, .int (v5 + (1 : Int32))), (0, .ref (g.2.2 171)), (1, .int v1), (3, .int v3), (4, .int v4)]) hx hb dX12_next_157 hl (k := 4) rfl rfl (by decide) rfl (fun ls hl => ?_)
        refine lv_goto (tgt := 6) hx hb dX12_next_160 (by decide) ?_
        exact ih6 v4 (v5 + (1 : Int32)) μ _ _ _ hw (lv_sub hl [1, 2, 3, 4, 0] rfl) h
      have B131 : ∀ (v5 : Int32) (s0 : Int32) (s1 : Int32) (μ : Mu) (H : Heap) (locs : List Loc) (ls : Array Slot), wd g μ s (Aw g s.heap.size) H locs → lv_has ls 8 [(0, .ref (g.2.2 171)), (1, .int v1), (3, .int v3), (5, .int v5)] → X12_next_131 n v1 v2 v3 k6 v5 s0 s1 μ = some r → WQ p l e (rmD 1) s m args below meth c g (some (.int r.1)) r.2 H locs (F0 m 131 ls [.int s1, .int s0]) := by
        intro v5 s0 s1 μ H locs ls hw hl h
        rw [X12_next_131] at h
        refine lv_iadd hx hb dX12_next_131 ?_
        refine lv_aload_n hx hb dX12_next_132 rfl (lv_at hl 0 rfl) ?_
        obtain ⟨r133, hr133, h⟩ := bnd h
        refine cV (b := 171) (As := []) (rest := [.int (s0 + s1)]) (st1 := [.int r133.1, .int (s0 + s1)]) hC hw (c_X12_pitMany l g n μ r133 hr133) ml_X12_245 im_X12_pitMany se_X12_pitMany k171 (CN := RX12) (T := TX12) (NF := 54) rfl rfl (by decide) rfl hl.1 ⟨Nat.le_of_ble_eq_true rfl, Nat.le_of_ble_eq_true rfl⟩ (Nat.le_of_ble_eq_true rfl) ⟨Nat.zero_le _, Nat.zero_le _⟩ rfl dX12_next_133 (fun H locs hw => ?_)
        obtain ⟨hd136, h⟩ := dv_some h
        refine lv_irem hx hb dX12_next_136 hd136 ?_
        refine lv_istore (lv' := [(4, .int ((s0 + s1) - (s0 + s1) / r133.1 * r133.1)), (0, .ref (g.2.2 171)), (1, .int v1), (3, .int v3), (5, .int v5)]) hx hb dX12_next_137 hl (by decide) rfl (fun ls hl => ?_)
        refine lv_aload_n hx hb dX12_next_139 rfl (lv_at hl 1 rfl) ?_
        refine lv_iload hx hb dX12_next_140 (lv_at hl 0 rfl) ?_
        obtain ⟨r142, hr142, h⟩ := bnd h
        refine cV (b := 171) (As := [.int ((s0 + s1) - (s0 + s1) / r133.1 * r133.1)]) (rest := []) (st1 := [.int r142.1]) hC hw (c_X12_isLacking l g n ((s0 + s1) - (s0 + s1) / r133.1 * r133.1) r133.2 r142 hr142) ml_X12_251 im_X12_isLacking se_X12_isLacking k171 (CN := RX12) (T := TX12) (NF := 54) rfl rfl (by decide) rfl hl.1 ⟨Nat.le_of_ble_eq_true rfl, Nat.le_of_ble_eq_true rfl⟩ (Nat.le_of_ble_eq_true rfl) ⟨Nat.zero_le _, Nat.zero_le _⟩ rfl dX12_next_142 (fun H locs hw => ?_)
        refine lv_if_ne (tgt := 157) hx hb dX12_next_145 (by decide) (fun hc => ?_) (fun hc => ?_)
        · rw [if_neg hc] at h
          exact B157 ((s0 + s1) - (s0 + s1) / r133.1 * r133.1) v5 r142.2 _ _ _ hw (lv_sub hl [1, 2, 3, 0, 4] rfl) h
        · rw [if_pos hc] at h
          refine lv_iload hx hb dX12_next_148 (lv_at hl 0 rfl) ?_
          refine lv_iload_n hx hb dX12_next_150 rfl (lv_at hl 3 rfl) ?_
          refine lv_icmp_eq (tgt := 157) hx hb dX12_next_151 (by decide) (fun hc => ?_) (fun hc => ?_)
          · rw [if_pos hc] at h
            exact B157 ((s0 + s1) - (s0 + s1) / r133.1 * r133.1) v5 r142.2 _ _ _ hw (lv_sub hl [1, 2, 3, 0, 4] rfl) h
          · rw [if_neg hc] at h
            refine lv_iload hx hb dX12_next_154 (lv_at hl 0 rfl) ?_
            exact rI hC hw hr hlocks (by rw [← Option.some.inj h]) (by rw [← Option.some.inj h]) dX12_next_156
      have B104 : ∀ (v5 : Int32) (v6 : Int32) (μ : Mu) (H : Heap) (locs : List Loc) (ls : Array Slot), wd g μ s (Aw g s.heap.size) H locs → lv_has ls 8 [(0, .ref (g.2.2 171)), (1, .int v1), (3, .int v3), (5, .int v5), (6, .int v6)] → X12_next_104 n v1 v2 v3 k6 v5 v6 μ = some r → WQ p l e (rmD 1) s m args below meth c g (some (.int r.1)) r.2 H locs (F0 m 104 ls []) := by
        intro v5 v6 μ H locs ls hw hl h
        rw [X12_next_104] at h
        refine lv_iload hx hb dX12_next_104 (lv_at hl 4 rfl) ?_
        refine lv_iconst (v := (1 : Int32)) hx hb dX12_next_106 (by decide) ?_
        refine lv_iadd hx hb dX12_next_107 ?_
        refine lv_aload_n hx hb dX12_next_108 rfl (lv_at hl 0 rfl) ?_
        obtain ⟨r109, hr109, h⟩ := bnd h
        refine cV (b := 171) (As := []) (rest := [.int (v6 + (1 : Int32))]) (st1 := [.int r109.1, .int (v6 + (1 : Int32))]) hC hw (c_X12_pitMany l g n μ r109 hr109) ml_X12_245 im_X12_pitMany se_X12_pitMany k171 (CN := RX12) (T := TX12) (NF := 54) rfl rfl (by decide) rfl hl.1 ⟨Nat.le_of_ble_eq_true rfl, Nat.le_of_ble_eq_true rfl⟩ (Nat.le_of_ble_eq_true rfl) ⟨Nat.zero_le _, Nat.zero_le _⟩ rfl dX12_next_109 (fun H locs hw => ?_)
        obtain ⟨hd112, h⟩ := dv_some h
        refine lv_irem hx hb dX12_next_112 hd112 ?_
        refine lv_istore (lv' := [(6, .int ((v6 + (1 : Int32)) - (v6 + (1 : Int32)) / r109.1 * r109.1)), (0, .ref (g.2.2 171)), (1, .int v1), (3, .int v3), (5, .int v5)]) hx hb dX12_next_113 hl (by decide) rfl (fun ls hl => ?_)
        refine lv_iload hx hb dX12_next_115 (lv_at hl 0 rfl) ?_
        refine lv_iload_n hx hb dX12_next_117 rfl (lv_at hl 2 rfl) ?_
        refine lv_if_ne (tgt := 125) hx hb dX12_next_118 (by decide) (fun hc => ?_) (fun hc => ?_)
        · rw [if_neg hc] at h
          refine lv_aload_n hx hb dX12_next_125 rfl (lv_at hl 1 rfl) ?_
          refine gR (t := 172) hC hw fl_X12_9 k171 (by decide) t171_0 dX12_next_126 ?_
          refine lv_iconst (v := (1 : Int32)) hx hb dX12_next_129 (by decide) ?_
          refine lI (j := 1) hC hw k172 n172 (vin (by decide)) (by decide) dX12_next_130 ?_
          exact B131 v5 ((v6 + (1 : Int32)) - (v6 + (1 : Int32)) / r109.1 * r109.1) (r109.2.1 172 1) r109.2 _ _ _ hw (lv_sub hl [1, 2, 3, 4] rfl) h
        · rw [if_pos hc] at h
          refine lv_iconst (v := (0 : Int32)) hx hb dX12_next_121 (by decide) ?_
          refine lv_goto (tgt := 131) hx hb dX12_next_122 (by decide) ?_
          exact B131 v5 ((v6 + (1 : Int32)) - (v6 + (1 : Int32)) / r109.1 * r109.1) (0 : Int32) r109.2 _ _ _ hw (lv_sub hl [1, 2, 3, 4] rfl) h
      have B80 : ∀ (v5 : Int32) (v6 : Int32) (s0 : Int32) (μ : Mu) (H : Heap) (locs : List Loc) (ls : Array Slot), wd g μ s (Aw g s.heap.size) H locs → lv_has ls 8 [(0, .ref (g.2.2 171)), (1, .int v1), (3, .int v3), (5, .int v5), (6, .int v6)] → X12_next_80 n v1 v2 v3 k6 v5 v6 s0 μ = some r → WQ p l e (rmD 1) s m args below meth c g (some (.int r.1)) r.2 H locs (F0 m 80 ls [.int s0]) := by
        intro v5 v6 s0 μ H locs ls hw hl h
        rw [X12_next_80] at h
        refine lv_istore (lv' := [(7, .int s0), (0, .ref (g.2.2 171)), (1, .int v1), (3, .int v3), (5, .int v5), (6, .int v6)]) hx hb dX12_next_80 hl (by decide) rfl (fun ls hl => ?_)
        refine lv_iload hx hb dX12_next_82 (lv_at hl 0 rfl) ?_
        refine lv_if_eq (tgt := 104) hx hb dX12_next_84 (by decide) (fun hc => ?_) (fun hc => ?_)
        · rw [if_pos hc] at h
          exact B104 v5 v6 μ _ _ _ hw (lv_sub hl [1, 2, 3, 4, 5] rfl) h
        · rw [if_neg hc] at h
          refine lv_aload_n hx hb dX12_next_87 rfl (lv_at hl 1 rfl) ?_
          refine gR (t := 172) hC hw fl_X12_9 k171 (by decide) t171_0 dX12_next_88 ?_
          refine lv_iconst (v := (4 : Int32)) hx hb dX12_next_91 (by decide) ?_
          refine lI (j := 4) hC hw k172 n172 (vin (by decide)) (by decide) dX12_next_92 ?_
          refine lv_iconst (v := (1 : Int32)) hx hb dX12_next_93 (by decide) ?_
          refine lv_icmp_ne (tgt := 104) hx hb dX12_next_94 (by decide) (fun hc => ?_) (fun hc => ?_)
          · rw [if_neg hc] at h
            exact B104 v5 v6 μ _ _ _ hw (lv_sub hl [1, 2, 3, 4, 5] rfl) h
          · rw [if_pos hc] at h
            refine lv_bipush (v := (100 : Int32)) hx hb dX12_next_97 (by decide) ?_
            refine lv_istore (lv' := [(4, .int (100 : Int32)), (7, .int s0), (0, .ref (g.2.2 171)), (1, .int v1), (3, .int v3), (5, .int v5), (6, .int v6)]) hx hb dX12_next_99 hl (by decide) rfl (fun ls hl => ?_)
            refine lv_iload hx hb dX12_next_101 (lv_at hl 0 rfl) ?_
            exact rI hC hw hr hlocks (by rw [← Option.some.inj h]) (by rw [← Option.some.inj h]) dX12_next_103
      have B79 : ∀ (v5 : Int32) (v6 : Int32) (μ : Mu) (H : Heap) (locs : List Loc) (ls : Array Slot), wd g μ s (Aw g s.heap.size) H locs → lv_has ls 8 [(0, .ref (g.2.2 171)), (1, .int v1), (3, .int v3), (5, .int v5), (6, .int v6)] → X12_next_79 n v1 v2 v3 k6 v5 v6 μ = some r → WQ p l e (rmD 1) s m args below meth c g (some (.int r.1)) r.2 H locs (F0 m 79 ls []) := by
        intro v5 v6 μ H locs ls hw hl h
        rw [X12_next_79] at h
        refine lv_iconst (v := (0 : Int32)) hx hb dX12_next_79 (by decide) ?_
        exact B80 v5 v6 (0 : Int32) μ _ _ _ hw (lv_sub hl [0, 1, 2, 3, 4] rfl) h
      have B53 : ∀ (v4 : Int32) (v5 : Int32) (s0 : Int32) (μ : Mu) (H : Heap) (locs : List Loc) (ls : Array Slot), wd g μ s (Aw g s.heap.size) H locs → lv_has ls 8 [(0, .ref (g.2.2 171)), (1, .int v1), (3, .int v3), (4, .int v4), (5, .int v5)] → X12_next_53 n v1 v2 v3 k6 v4 v5 s0 μ = some r → WQ p l e (rmD 1) s m args below meth c g (some (.int r.1)) r.2 H locs (F0 m 53 ls [.int s0]) := by
        intro v4 v5 s0 μ H locs ls hw hl h
        rw [X12_next_53] at h
        refine lv_istore (lv' := [(6, .int s0), (0, .ref (g.2.2 171)), (1, .int v1), (3, .int v3), (4, .int v4), (5, .int v5)]) hx hb dX12_next_53 hl (by decide) rfl (fun ls hl => ?_)
        refine lv_iload hx hb dX12_next_55 (lv_at hl 4 rfl) ?_
        refine lv_bipush (v := (100 : Int32)) hx hb dX12_next_57 (by decide) ?_
        refine lv_icmp_eq (tgt := 79) hx hb dX12_next_59 (by decide) (fun hc => ?_) (fun hc => ?_)
        · rw [if_pos hc] at h
          exact B79 v5 s0 μ _ _ _ hw (lv_sub hl [1, 2, 3, 5, 0] rfl) h
        · rw [if_neg hc] at h
          refine lv_iload hx hb dX12_next_62 (lv_at hl 0 rfl) ?_
          refine lv_aload_n hx hb dX12_next_64 rfl (lv_at hl 1 rfl) ?_
          refine gR (t := 172) hC hw fl_X12_9 k171 (by decide) t171_0 dX12_next_65 ?_
          refine lv_iconst (v := (1 : Int32)) hx hb dX12_next_68 (by decide) ?_
          refine lI (j := 1) hC hw k172 n172 (vin (by decide)) (by decide) dX12_next_69 ?_
          refine lv_iconst (v := (1 : Int32)) hx hb dX12_next_70 (by decide) ?_
          refine lv_isub hx hb dX12_next_71 ?_
          refine lv_icmp_ne (tgt := 79) hx hb dX12_next_72 (by decide) (fun hc => ?_) (fun hc => ?_)
          · rw [if_neg hc] at h
            exact B79 v5 s0 μ _ _ _ hw (lv_sub hl [1, 2, 3, 5, 0] rfl) h
          · rw [if_pos hc] at h
            refine lv_iconst (v := (1 : Int32)) hx hb dX12_next_75 (by decide) ?_
            refine lv_goto (tgt := 80) hx hb dX12_next_76 (by decide) ?_
            exact B80 v5 s0 (1 : Int32) μ _ _ _ hw (lv_sub hl [1, 2, 3, 5, 0] rfl) h
      have B47 : ∀ (v4 : Int32) (v5 : Int32) (s0 : Int32) (s1 : Int32) (μ : Mu) (H : Heap) (locs : List Loc) (ls : Array Slot), wd g μ s (Aw g s.heap.size) H locs → lv_has ls 8 [(0, .ref (g.2.2 171)), (1, .int v1), (3, .int v3), (4, .int v4), (5, .int v5)] → X12_next_47 n v1 v2 v3 k6 v4 v5 s0 s1 μ = some r → WQ p l e (rmD 1) s m args below meth c g (some (.int r.1)) r.2 H locs (F0 m 47 ls [.int s1, .int s0]) := by
        intro v4 v5 s0 s1 μ H locs ls hw hl h
        rw [X12_next_47] at h
        refine lv_iadd hx hb dX12_next_47 ?_
        refine lv_aload_n hx hb dX12_next_48 rfl (lv_at hl 0 rfl) ?_
        obtain ⟨r49, hr49, h⟩ := bnd h
        refine cV (b := 171) (As := []) (rest := [.int (s0 + s1)]) (st1 := [.int r49.1, .int (s0 + s1)]) hC hw (c_X12_pitMany l g n μ r49 hr49) ml_X12_245 im_X12_pitMany se_X12_pitMany k171 (CN := RX12) (T := TX12) (NF := 54) rfl rfl (by decide) rfl hl.1 ⟨Nat.le_of_ble_eq_true rfl, Nat.le_of_ble_eq_true rfl⟩ (Nat.le_of_ble_eq_true rfl) ⟨Nat.zero_le _, Nat.zero_le _⟩ rfl dX12_next_49 (fun H locs hw => ?_)
        obtain ⟨hd52, h⟩ := dv_some h
        refine lv_irem hx hb dX12_next_52 hd52 ?_
        exact B53 v4 v5 ((s0 + s1) - (s0 + s1) / r49.1 * r49.1) r49.2 _ _ _ hw (lv_sub hl [0, 1, 2, 3, 4] rfl) h
      rw [X12_next_6b] at h
      refine lv_iload hx hb dX12_next_6 (lv_at hl 4 rfl) ?_
      refine lv_bipush (v := (36 : Int32)) hx hb dX12_next_8 (by decide) ?_
      refine lv_icmp_ge (tgt := 163) hx hb dX12_next_10 (by decide) (fun hc => ?_) (fun hc => ?_)
      · rw [if_pos hc] at h
        refine lv_iconst (v := ((-1) : Int32)) hx hb dX12_next_163 (by decide) ?_
        exact rI hC hw hr hlocks (by rw [← Option.some.inj h]) (by rw [← Option.some.inj h]) dX12_next_164
      · rw [if_neg hc] at h
        refine lv_iload hx hb dX12_next_13 (lv_at hl 3 rfl) ?_
        refine lv_bipush (v := (100 : Int32)) hx hb dX12_next_15 (by decide) ?_
        refine lv_icmp_ne (tgt := 31) hx hb dX12_next_17 (by decide) (fun hc => ?_) (fun hc => ?_)
        · rw [if_neg hc] at h
          refine lv_iload hx hb dX12_next_31 (lv_at hl 3 rfl) ?_
          refine lv_iload_n hx hb dX12_next_33 rfl (lv_at hl 1 rfl) ?_
          refine lv_if_ne (tgt := 41) hx hb dX12_next_34 (by decide) (fun hc => ?_) (fun hc => ?_)
          · rw [if_neg hc] at h
            refine lv_aload_n hx hb dX12_next_41 rfl (lv_at hl 0 rfl) ?_
            refine gR (t := 172) hC hw fl_X12_9 k171 (by decide) t171_0 dX12_next_42 ?_
            refine lv_iconst (v := (1 : Int32)) hx hb dX12_next_45 (by decide) ?_
            refine lI (j := 1) hC hw k172 n172 (vin (by decide)) (by decide) dX12_next_46 ?_
            exact B47 v4 v5 v4 (μ.1 172 1) μ _ _ _ hw (lv_sub hl [0, 1, 2, 3, 4] rfl) h
          · rw [if_pos hc] at h
            refine lv_iconst (v := (0 : Int32)) hx hb dX12_next_37 (by decide) ?_
            refine lv_goto (tgt := 47) hx hb dX12_next_38 (by decide) ?_
            exact B47 v4 v5 v4 (0 : Int32) μ _ _ _ hw (lv_sub hl [0, 1, 2, 3, 4] rfl) h
        · rw [if_pos hc] at h
          refine lv_aload_n hx hb dX12_next_20 rfl (lv_at hl 0 rfl) ?_
          refine gR (t := 172) hC hw fl_X12_9 k171 (by decide) t171_0 dX12_next_21 ?_
          refine lv_iconst (v := (1 : Int32)) hx hb dX12_next_24 (by decide) ?_
          refine lI (j := 1) hC hw k172 n172 (vin (by decide)) (by decide) dX12_next_25 ?_
          refine lv_iconst (v := (1 : Int32)) hx hb dX12_next_26 (by decide) ?_
          refine lv_isub hx hb dX12_next_27 ?_
          refine lv_goto (tgt := 53) hx hb dX12_next_28 (by decide) ?_
          exact B53 v4 v5 ((μ.1 172 1) - (1 : Int32)) μ _ _ _ hw (lv_sub hl [0, 1, 2, 3, 4] rfl) h
  refine lv_iload_n hx hb dX12_next_0 rfl (lv_at hl 2 rfl) ?_
  refine lv_istore (lv' := [(4, .int v2), (0, .ref (g.2.2 171)), (1, .int v1), (2, .int v2), (3, .int v3)]) hx hb dX12_next_1 hl (by decide) rfl (fun ls hl => ?_)
  refine lv_iconst (v := (0 : Int32)) hx hb dX12_next_3 (by decide) ?_
  refine lv_istore (lv' := [(5, .int (0 : Int32)), (4, .int v2), (0, .ref (g.2.2 171)), (1, .int v1), (2, .int v2), (3, .int v3)]) hx hb dX12_next_4 hl (by decide) rfl (fun ls hl => ?_)
  exact B6 n v2 (0 : Int32) μ _ _ _ hw (lv_sub hl [2, 3, 5, 1, 0] rfl) h
set_option maxRecDepth 100000 in
set_option maxHeartbeats 4000000 in
theorem c_X12_sum (l : Launch) (g : Gw) (n : Nat) (v1 : Int32) (μ : Mu) (r : Int32 × Mu) (h : X12_sum n v1 μ = some r) : Ct l g yX12_sum cX12_sum 4 (some .int) 1 [.ref (g.2.2 171), .int v1] μ (some (.int r.1)) r.2 := by
  rw [X12_sum] at h
  refine Ct.of (by decide) (Nat.le_of_ble_eq_true rfl) ?_
  intro p e s m args below meth c ls hC hw hr hlocks hl
  have hx := hC.1
  have hb := hC.2.1
  have hl : lv_has ls 4 [(0, .ref (g.2.2 171)), (1, .int v1)] := hl
  have B4 : ∀ (k : Nat), ∀ (v2 : Int32) (v3 : Int32) (μ : Mu) (H : Heap) (locs : List Loc) (ls : Array Slot), wd g μ s (Aw g s.heap.size) H locs → lv_has ls 4 [(0, .ref (g.2.2 171)), (1, .int v1), (2, .int v2), (3, .int v3)] → lpF (fun _ _ _ => none) (X12_sum_4b n v1) k v2 v3 μ = some r → WQ p l e (rmD 1) s m args below meth c g (some (.int r.1)) r.2 H locs (F0 m 4 ls []) := by
    intro k
    induction k with
    | zero =>
      intro v2 v3 μ H locs ls hw hl h
      cases h
    | succ k ih4 =>
      rw [lpF_s]
      generalize lpF (fun _ _ _ => none) (X12_sum_4b n v1) k = k4 at ih4 ⊢
      intro v2 v3 μ H locs ls hw hl h
      have B32 : ∀ (v3 : Int32) (s0 : Int32) (s1 : Int32) (μ : Mu) (H : Heap) (locs : List Loc) (ls : Array Slot), wd g μ s (Aw g s.heap.size) H locs → lv_has ls 4 [(0, .ref (g.2.2 171)), (1, .int v1), (3, .int v3)] → X12_sum_32 n v1 k4 v3 s0 s1 μ = some r → WQ p l e (rmD 1) s m args below meth c g (some (.int r.1)) r.2 H locs (F0 m 32 ls [.int s1, .int s0]) := by
        intro v3 s0 s1 μ H locs ls hw hl h
        rw [X12_sum_32] at h
        refine lv_iadd hx hb dX12_sum_32 ?_
        refine lv_istore_n (lv' := [(2, .int (s0 + s1)), (0, .ref (g.2.2 171)), (1, .int v1), (3, .int v3)]) hx hb dX12_sum_33 rfl hl (by decide) rfl (fun ls hl => ?_)
        refine lv_iinc (v := (v3 + (1 : Int32))) (lv' := [(3, .int (v3 + (1 : Int32))), (2, .int (s0 + s1)), (0, .ref (g.2.2 171)), (1, .int v1)]) hx hb dX12_sum_34 hl (k := 3) rfl rfl (by decide) rfl (fun ls hl => ?_)
        refine lv_goto (tgt := 4) hx hb dX12_sum_37 (by decide) ?_
        exact ih4 (s0 + s1) (v3 + (1 : Int32)) μ _ _ _ hw (lv_sub hl [2, 3, 1, 0] rfl) h
      rw [X12_sum_4b] at h
      refine lv_iload_n hx hb dX12_sum_4 rfl (lv_at hl 3 rfl) ?_
      refine lv_aload_n hx hb dX12_sum_5 rfl (lv_at hl 0 rfl) ?_
      obtain ⟨r6, hr6, h⟩ := bnd h
      refine cV (b := 171) (As := []) (rest := [.int v3]) (st1 := [.int r6.1, .int v3]) hC hw (c_X12_pitMany l g n μ r6 hr6) ml_X12_245 im_X12_pitMany se_X12_pitMany k171 (CN := RX12) (T := TX12) (NF := 54) rfl rfl (by decide) rfl hl.1 ⟨Nat.le_of_ble_eq_true rfl, Nat.le_of_ble_eq_true rfl⟩ (Nat.le_of_ble_eq_true rfl) ⟨Nat.zero_le _, Nat.zero_le _⟩ rfl dX12_sum_6 (fun H locs hw => ?_)
      refine lv_icmp_ge (tgt := 40) hx hb dX12_sum_9 (by decide) (fun hc => ?_) (fun hc => ?_)
      · rw [if_pos hc] at h
        refine lv_iload_n hx hb dX12_sum_40 rfl (lv_at hl 2 rfl) ?_
        exact rI hC hw hr hlocks (by rw [← Option.some.inj h]) (by rw [← Option.some.inj h]) dX12_sum_41
      · rw [if_neg hc] at h
        refine lv_iload_n hx hb dX12_sum_12 rfl (lv_at hl 2 rfl) ?_
        refine lv_aload_n hx hb dX12_sum_13 rfl (lv_at hl 0 rfl) ?_
        refine lv_iload_n hx hb dX12_sum_14 rfl (lv_at hl 3 rfl) ?_
        obtain ⟨r15, hr15, h⟩ := bnd h
        refine cV (b := 171) (As := [.int v3]) (rest := [.int v2]) (st1 := [.int r15.1, .int v2]) hC hw (c_X12_sideOf l g n v3 r6.2 r15 hr15) ml_X12_257 im_X12_sideOf se_X12_sideOf k171 (CN := RX12) (T := TX12) (NF := 54) rfl rfl (by decide) rfl hl.1 ⟨Nat.le_of_ble_eq_true rfl, Nat.le_of_ble_eq_true rfl⟩ (Nat.le_of_ble_eq_true rfl) ⟨Nat.zero_le _, Nat.zero_le _⟩ rfl dX12_sum_15 (fun H locs hw => ?_)
        refine lv_iload_n hx hb dX12_sum_18 rfl (lv_at hl 1 rfl) ?_
        refine lv_icmp_ne (tgt := 31) hx hb dX12_sum_19 (by decide) (fun hc => ?_) (fun hc => ?_)
        · rw [if_neg hc] at h
          refine lv_iconst (v := (0 : Int32)) hx hb dX12_sum_31 (by decide) ?_
          exact B32 v3 v2 (0 : Int32) r15.2 _ _ _ hw (lv_sub hl [0, 1, 3] rfl) h
        · rw [if_pos hc] at h
          refine lv_aload_n hx hb dX12_sum_22 rfl (lv_at hl 0 rfl) ?_
          refine gR (t := 178) hC hw fl_X12_33 k171 (by decide) t171_17 dX12_sum_23 ?_
          refine lv_iload_n hx hb dX12_sum_26 rfl (lv_at hl 3 rfl) ?_
          obtain ⟨hi27, h⟩ := gd_some h
          refine lI (j := v3.toNatClampNeg) hC hw k178 n178 hi27 rfl dX12_sum_27 ?_
          refine lv_goto (tgt := 32) hx hb dX12_sum_28 (by decide) ?_
          exact B32 v3 v2 (r15.2.1 178 v3.toNatClampNeg) r15.2 _ _ _ hw (lv_sub hl [0, 1, 3] rfl) h
  refine lv_iconst (v := (0 : Int32)) hx hb dX12_sum_0 (by decide) ?_
  refine lv_istore_n (lv' := [(2, .int (0 : Int32)), (0, .ref (g.2.2 171)), (1, .int v1)]) hx hb dX12_sum_1 rfl hl (by decide) rfl (fun ls hl => ?_)
  refine lv_iconst (v := (0 : Int32)) hx hb dX12_sum_2 (by decide) ?_
  refine lv_istore_n (lv' := [(3, .int (0 : Int32)), (2, .int (0 : Int32)), (0, .ref (g.2.2 171)), (1, .int v1)]) hx hb dX12_sum_3 rfl hl (by decide) rfl (fun ls hl => ?_)
  exact B4 n (0 : Int32) (0 : Int32) μ _ _ _ hw (lv_sub hl [2, 3, 1, 0] rfl) h
