set_option maxRecDepth 100000 in
set_option maxHeartbeats 4000000 in
theorem c_X12_takesUp (l : Launch) (g : Gw) (n : Nat) (μ : Mu) (r : Unit × Mu) (h : X12_takesUp n  μ = some r) : Ct l g yX12_takesUp cX12_takesUp 2 none 1 [.ref (g.2.2 171)] μ none r.2 := by
  rw [X12_takesUp] at h
  refine Ct.of (by decide) (Nat.le_of_ble_eq_true rfl) ?_
  intro p e s m args below meth c ls hC hw hr hlocks hl
  have hx := hC.1
  have hb := hC.2.1
  have hl : lv_has ls 2 [(0, .ref (g.2.2 171))] := hl
  have B2 : ∀ (k : Nat), ∀ (v1 : Int32) (μ : Mu) (H : Heap) (locs : List Loc) (ls : Array Slot), wd g μ s (Aw g s.heap.size) H locs → lv_has ls 2 [(0, .ref (g.2.2 171)), (1, .int v1)] → lpF (fun _ _ => none) (X12_takesUp_2b n) k v1 μ = some r → WQ p l e (rmD 1) s m args below meth c g none r.2 H locs (F0 m 2 ls []) := by
    intro k
    induction k with
    | zero =>
      intro v1 μ H locs ls hw hl h
      cases h
    | succ k ih2 =>
      rw [lpF_s]
      generalize lpF (fun _ _ => none) (X12_takesUp_2b n) k = k2 at ih2 ⊢
      intro v1 μ H locs ls hw hl h
      rw [X12_takesUp_2b] at h
      refine lv_iload_n hx hb dX12_takesUp_2 rfl (lv_at hl 1 rfl) ?_
      refine lv_aload_n hx hb dX12_takesUp_3 rfl (lv_at hl 0 rfl) ?_
      obtain ⟨r4, hr4, h⟩ := bnd h
      refine cV (b := 171) (As := []) (rest := [.int v1]) (st1 := [.int r4.1, .int v1]) hC hw (c_X12_pitMany l g n μ r4 hr4) ml_X12_245 im_X12_pitMany se_X12_pitMany ok171 (CN := RX12) (T := TX12) (NF := 54) rfl rfl (by decide) rfl hl.1 ⟨Nat.le_of_ble_eq_true rfl, Nat.le_of_ble_eq_true rfl⟩ (Nat.le_of_ble_eq_true rfl) ⟨Nat.zero_le _, Nat.zero_le _⟩ rfl dX12_takesUp_4 (fun H locs hw => ?_)
      refine lv_icmp_ge (tgt := 31) hx hb dX12_takesUp_7 (by decide) (fun hc => ?_) (fun hc => ?_)
      · rw [if_pos hc] at h
        exact rV hC hw hr hlocks rfl (by rw [← Option.some.inj h]) dX12_takesUp_31
      · rw [if_neg hc] at h
        refine lv_aload_n hx hb dX12_takesUp_10 rfl (lv_at hl 0 rfl) ?_
        refine gR (t := 178) hC hw fl_X12_33 ok171 (by decide) ot171_17 dX12_takesUp_11 ?_
        refine lv_iload_n hx hb dX12_takesUp_14 rfl (lv_at hl 1 rfl) ?_
        refine lv_aload_n hx hb dX12_takesUp_15 rfl (lv_at hl 0 rfl) ?_
        refine gR (t := 172) hC hw fl_X12_9 ok171 (by decide) ot171_0 dX12_takesUp_16 ?_
        refine lv_bipush (v := (13 : Int32)) hx hb dX12_takesUp_19 (by decide) ?_
        refine lv_iload_n hx hb dX12_takesUp_21 rfl (lv_at hl 1 rfl) ?_
        refine lv_iadd hx hb dX12_takesUp_22 ?_
        obtain ⟨hi23, h⟩ := gd_some h
        refine lI (j := ((13 : Int32) + v1).toNatClampNeg) hC hw ok172 on172 hi23 rfl dX12_takesUp_23 ?_
        obtain ⟨hi24, h⟩ := gd_some h
        refine sI (j := v1.toNatClampNeg) hC hw ok178 on178 hi24 rfl dX12_takesUp_24 (fun H locs hw => ?_)
        refine lv_iinc (v := (v1 + (1 : Int32))) (lv' := [(1, .int (v1 + (1 : Int32))), (0, .ref (g.2.2 171))]) hx hb dX12_takesUp_25 hl (k := 1) rfl rfl (by decide) rfl (fun ls hl => ?_)
        refine lv_goto (tgt := 2) hx hb dX12_takesUp_28 (by decide) ?_
        exact ih2 (v1 + (1 : Int32)) (si r4.2 178 v1.toNatClampNeg (r4.2.1 172 ((13 : Int32) + v1).toNatClampNeg)) _ _ _ hw (lv_sub hl [1, 0] rfl) h
  refine lv_iconst (v := (0 : Int32)) hx hb dX12_takesUp_0 (by decide) ?_
  refine lv_istore_n (lv' := [(1, .int (0 : Int32)), (0, .ref (g.2.2 171))]) hx hb dX12_takesUp_1 rfl hl (by decide) rfl (fun ls hl => ?_)
  exact B2 n (0 : Int32) μ _ _ _ hw (lv_sub hl [1, 0] rfl) h
set_option maxRecDepth 100000 in
set_option maxHeartbeats 4000000 in
theorem c_X12_next (l : Launch) (g : Gw) (n : Nat) (v1 : Int32) (v2 : Int32) (v3 : Int32) (μ : Mu) (r : Int32 × Mu) (h : X12_next n v1 v2 v3 μ = some r) : Ct l g yX12_next cX12_next 8 (some .int) 1 [.ref (g.2.2 171), .int v1, .int v2, .int v3] μ (some (.int r.1)) r.2 := by
  rw [X12_next] at h
  refine Ct.of (by decide) (Nat.le_of_ble_eq_true rfl) ?_
  intro p e s m args below meth c ls hC hw hr hlocks hl
  have hx := hC.1
  have hb := hC.2.1
  have hl : lv_has ls 8 [(0, .ref (g.2.2 171)), (1, .int v1), (2, .int v2), (3, .int v3)] := hl
  have B6 : ∀ (k : Nat), ∀ (v4 : Int32) (v5 : Int32) (μ : Mu) (H : Heap) (locs : List Loc) (ls : Array Slot), wd g μ s (Aw g s.heap.size) H locs → lv_has ls 8 [(0, .ref (g.2.2 171)), (1, .int v1), (3, .int v3), (4, .int v4), (5, .int v5)] → lpF (fun _ _ _ => none) (X12_next_6b n v1 v2 v3) k v4 v5 μ = some r → WQ p l e (rmD 1) s m args below meth c g (some (.int r.1)) r.2 H locs (F0 m 6 ls []) := by
    intro k
    induction k with
    | zero =>
      intro v4 v5 μ H locs ls hw hl h
      cases h
    | succ k ih6 =>
      rw [lpF_s]
      generalize lpF (fun _ _ _ => none) (X12_next_6b n v1 v2 v3) k = k6 at ih6 ⊢
      intro v4 v5 μ H locs ls hw hl h
      have B157 : ∀ (v4 : Int32) (v5 : Int32) (μ : Mu) (H : Heap) (locs : List Loc) (ls : Array Slot), wd g μ s (Aw g s.heap.size) H locs → lv_has ls 8 [(0, .ref (g.2.2 171)), (1, .int v1), (3, .int v3), (4, .int v4), (5, .int v5)] → X12_next_157 n v1 v2 v3 k6 v4 v5 μ = some r → WQ p l e (rmD 1) s m args below meth c g (some (.int r.1)) r.2 H locs (F0 m 157 ls []) := by
        intro v4 v5 μ H locs ls hw hl h
        rw [X12_next_157] at h
        refine lv_iinc (v := (v5 + (1 : Int32))) (lv' := [(5, .int (v5 + (1 : Int32))), (0, .ref (g.2.2 171)), (1, .int v1), (3, .int v3), (4, .int v4)]) hx hb dX12_next_157 hl (k := 4) rfl rfl (by decide) rfl (fun ls hl => ?_)
        refine lv_goto (tgt := 6) hx hb dX12_next_160 (by decide) ?_
        exact ih6 v4 (v5 + (1 : Int32)) μ _ _ _ hw (lv_sub hl [1, 2, 3, 4, 0] rfl) h
      have B131 : ∀ (v5 : Int32) (s0 : Int32) (s1 : Int32) (μ : Mu) (H : Heap) (locs : List Loc) (ls : Array Slot), wd g μ s (Aw g s.heap.size) H locs → lv_has ls 8 [(0, .ref (g.2.2 171)), (1, .int v1), (3, .int v3), (5, .int v5)] → X12_next_131 n v1 v2 v3 k6 v5 s0 s1 μ = some r → WQ p l e (rmD 1) s m args below meth c g (some (.int r.1)) r.2 H locs (F0 m 131 ls [.int s1, .int s0]) := by
        intro v5 s0 s1 μ H locs ls hw hl h
        rw [X12_next_131] at h
        refine lv_iadd hx hb dX12_next_131 ?_
        refine lv_aload_n hx hb dX12_next_132 rfl (lv_at hl 0 rfl) ?_
        obtain ⟨r133, hr133, h⟩ := bnd h
        refine cV (b := 171) (As := []) (rest := [.int (s0 + s1)]) (st1 := [.int r133.1, .int (s0 + s1)]) hC hw (c_X12_pitMany l g n μ r133 hr133) ml_X12_245 im_X12_pitMany se_X12_pitMany ok171 (CN := RX12) (T := TX12) (NF := 54) rfl rfl (by decide) rfl hl.1 ⟨Nat.le_of_ble_eq_true rfl, Nat.le_of_ble_eq_true rfl⟩ (Nat.le_of_ble_eq_true rfl) ⟨Nat.zero_le _, Nat.zero_le _⟩ rfl dX12_next_133 (fun H locs hw => ?_)
        obtain ⟨hd136, h⟩ := dv_some h
        refine lv_irem hx hb dX12_next_136 hd136 ?_
        refine lv_istore (lv' := [(4, .int ((s0 + s1) - (s0 + s1) / r133.1 * r133.1)), (0, .ref (g.2.2 171)), (1, .int v1), (3, .int v3), (5, .int v5)]) hx hb dX12_next_137 hl (by decide) rfl (fun ls hl => ?_)
        refine lv_aload_n hx hb dX12_next_139 rfl (lv_at hl 1 rfl) ?_
        refine lv_iload hx hb dX12_next_140 (lv_at hl 0 rfl) ?_
        obtain ⟨r142, hr142, h⟩ := bnd h
        refine cV (b := 171) (As := [.int ((s0 + s1) - (s0 + s1) / r133.1 * r133.1)]) (rest := []) (st1 := [.int r142.1]) hC hw (c_X12_isLacking l g n ((s0 + s1) - (s0 + s1) / r133.1 * r133.1) r133.2 r142 hr142) ml_X12_251 im_X12_isLacking se_X12_isLacking ok171 (CN := RX12) (T := TX12) (NF := 54) rfl rfl (by decide) rfl hl.1 ⟨Nat.le_of_ble_eq_true rfl, Nat.le_of_ble_eq_true rfl⟩ (Nat.le_of_ble_eq_true rfl) ⟨Nat.zero_le _, Nat.zero_le _⟩ rfl dX12_next_142 (fun H locs hw => ?_)
        refine lv_if_ne (tgt := 157) hx hb dX12_next_145 (by decide) (fun hc => ?_) (fun hc => ?_)
        · rw [if_neg hc] at h
          exact B157 ((s0 + s1) - (s0 + s1) / r133.1 * r133.1) v5 r142.2 _ _ _ hw (lv_sub hl [1, 2, 3, 0, 4] rfl) h
        · rw [if_pos hc] at h
          refine lv_iload hx hb dX12_next_148 (lv_at hl 0 rfl) ?_
          refine lv_iload_n hx hb dX12_next_150 rfl (lv_at hl 3 rfl) ?_
          refine lv_icmp_eq (tgt := 157) hx hb dX12_next_151 (by decide) (fun hc => ?_) (fun hc => ?_)
          · rw [if_pos hc] at h
            exact B157 ((s0 + s1) - (s0 + s1) / r133.1 * r133.1) v5 r142.2 _ _ _ hw (lv_sub hl [1, 2, 3, 0, 4] rfl) h
          · rw [if_neg hc] at h
            refine lv_iload hx hb dX12_next_154 (lv_at hl 0 rfl) ?_
            exact rI hC hw hr hlocks (by rw [← Option.some.inj h]) (by rw [← Option.some.inj h]) dX12_next_156
      have B104 : ∀ (v5 : Int32) (v6 : Int32) (μ : Mu) (H : Heap) (locs : List Loc) (ls : Array Slot), wd g μ s (Aw g s.heap.size) H locs → lv_has ls 8 [(0, .ref (g.2.2 171)), (1, .int v1), (3, .int v3), (5, .int v5), (6, .int v6)] → X12_next_104 n v1 v2 v3 k6 v5 v6 μ = some r → WQ p l e (rmD 1) s m args below meth c g (some (.int r.1)) r.2 H locs (F0 m 104 ls []) := by
        intro v5 v6 μ H locs ls hw hl h
        rw [X12_next_104] at h
        refine lv_iload hx hb dX12_next_104 (lv_at hl 4 rfl) ?_
        refine lv_iconst (v := (1 : Int32)) hx hb dX12_next_106 (by decide) ?_
        refine lv_iadd hx hb dX12_next_107 ?_
        refine lv_aload_n hx hb dX12_next_108 rfl (lv_at hl 0 rfl) ?_
        obtain ⟨r109, hr109, h⟩ := bnd h
        refine cV (b := 171) (As := []) (rest := [.int (v6 + (1 : Int32))]) (st1 := [.int r109.1, .int (v6 + (1 : Int32))]) hC hw (c_X12_pitMany l g n μ r109 hr109) ml_X12_245 im_X12_pitMany se_X12_pitMany ok171 (CN := RX12) (T := TX12) (NF := 54) rfl rfl (by decide) rfl hl.1 ⟨Nat.le_of_ble_eq_true rfl, Nat.le_of_ble_eq_true rfl⟩ (Nat.le_of_ble_eq_true rfl) ⟨Nat.zero_le _, Nat.zero_le _⟩ rfl dX12_next_109 (fun H locs hw => ?_)
        obtain ⟨hd112, h⟩ := dv_some h
        refine lv_irem hx hb dX12_next_112 hd112 ?_
        refine lv_istore (lv' := [(6, .int ((v6 + (1 : Int32)) - (v6 + (1 : Int32)) / r109.1 * r109.1)), (0, .ref (g.2.2 171)), (1, .int v1), (3, .int v3), (5, .int v5)]) hx hb dX12_next_113 hl (by decide) rfl (fun ls hl => ?_)
        refine lv_iload hx hb dX12_next_115 (lv_at hl 0 rfl) ?_
        refine lv_iload_n hx hb dX12_next_117 rfl (lv_at hl 2 rfl) ?_
        refine lv_if_ne (tgt := 125) hx hb dX12_next_118 (by decide) (fun hc => ?_) (fun hc => ?_)
        · rw [if_neg hc] at h
          refine lv_aload_n hx hb dX12_next_125 rfl (lv_at hl 1 rfl) ?_
          refine gR (t := 172) hC hw fl_X12_9 ok171 (by decide) ot171_0 dX12_next_126 ?_
          refine lv_iconst (v := (1 : Int32)) hx hb dX12_next_129 (by decide) ?_
          refine lI (j := 1) hC hw ok172 on172 (vin (by decide)) (by decide) dX12_next_130 ?_
          exact B131 v5 ((v6 + (1 : Int32)) - (v6 + (1 : Int32)) / r109.1 * r109.1) (r109.2.1 172 1) r109.2 _ _ _ hw (lv_sub hl [1, 2, 3, 4] rfl) h
        · rw [if_pos hc] at h
          refine lv_iconst (v := (0 : Int32)) hx hb dX12_next_121 (by decide) ?_
          refine lv_goto (tgt := 131) hx hb dX12_next_122 (by decide) ?_
          exact B131 v5 ((v6 + (1 : Int32)) - (v6 + (1 : Int32)) / r109.1 * r109.1) (0 : Int32) r109.2 _ _ _ hw (lv_sub hl [1, 2, 3, 4] rfl) h
      have B80 : ∀ (v5 : Int32) (v6 : Int32) (s0 : Int32) (μ : Mu) (H : Heap) (locs : List Loc) (ls : Array Slot), wd g μ s (Aw g s.heap.size) H locs → lv_has ls 8 [(0, .ref (g.2.2 171)), (1, .int v1), (3, .int v3), (5, .int v5), (6, .int v6)] → X12_next_80 n v1 v2 v3 k6 v5 v6 s0 μ = some r → WQ p l e (rmD 1) s m args below meth c g (some (.int r.1)) r.2 H locs (F0 m 80 ls [.int s0]) := by
        intro v5 v6 s0 μ H locs ls hw hl h
        rw [X12_next_80] at h
        refine lv_istore (lv' := [(7, .int s0), (0, .ref (g.2.2 171)), (1, .int v1), (3, .int v3), (5, .int v5), (6, .int v6)]) hx hb dX12_next_80 hl (by decide) rfl (fun ls hl => ?_)
        refine lv_iload hx hb dX12_next_82 (lv_at hl 0 rfl) ?_
        refine lv_if_eq (tgt := 104) hx hb dX12_next_84 (by decide) (fun hc => ?_) (fun hc => ?_)
        · rw [if_pos hc] at h
          exact B104 v5 v6 μ _ _ _ hw (lv_sub hl [1, 2, 3, 4, 5] rfl) h
        · rw [if_neg hc] at h
          refine lv_aload_n hx hb dX12_next_87 rfl (lv_at hl 1 rfl) ?_
          refine gR (t := 172) hC hw fl_X12_9 ok171 (by decide) ot171_0 dX12_next_88 ?_
          refine lv_iconst (v := (4 : Int32)) hx hb dX12_next_91 (by decide) ?_
          refine lI (j := 4) hC hw ok172 on172 (vin (by decide)) (by decide) dX12_next_92 ?_
          refine lv_iconst (v := (1 : Int32)) hx hb dX12_next_93 (by decide) ?_
          refine lv_icmp_ne (tgt := 104) hx hb dX12_next_94 (by decide) (fun hc => ?_) (fun hc => ?_)
          · rw [if_neg hc] at h
            exact B104 v5 v6 μ _ _ _ hw (lv_sub hl [1, 2, 3, 4, 5] rfl) h
          · rw [if_pos hc] at h
            refine lv_bipush (v := (100 : Int32)) hx hb dX12_next_97 (by decide) ?_
            refine lv_istore (lv' := [(4, .int (100 : Int32)), (7, .int s0), (0, .ref (g.2.2 171)), (1, .int v1), (3, .int v3), (5, .int v5), (6, .int v6)]) hx hb dX12_next_99 hl (by decide) rfl (fun ls hl => ?_)
            refine lv_iload hx hb dX12_next_101 (lv_at hl 0 rfl) ?_
            exact rI hC hw hr hlocks (by rw [← Option.some.inj h]) (by rw [← Option.some.inj h]) dX12_next_103
      have B79 : ∀ (v5 : Int32) (v6 : Int32) (μ : Mu) (H : Heap) (locs : List Loc) (ls : Array Slot), wd g μ s (Aw g s.heap.size) H locs → lv_has ls 8 [(0, .ref (g.2.2 171)), (1, .int v1), (3, .int v3), (5, .int v5), (6, .int v6)] → X12_next_79 n v1 v2 v3 k6 v5 v6 μ = some r → WQ p l e (rmD 1) s m args below meth c g (some (.int r.1)) r.2 H locs (F0 m 79 ls []) := by
        intro v5 v6 μ H locs ls hw hl h
        rw [X12_next_79] at h
        refine lv_iconst (v := (0 : Int32)) hx hb dX12_next_79 (by decide) ?_
        exact B80 v5 v6 (0 : Int32) μ _ _ _ hw (lv_sub hl [0, 1, 2, 3, 4] rfl) h
      have B53 : ∀ (v4 : Int32) (v5 : Int32) (s0 : Int32) (μ : Mu) (H : Heap) (locs : List Loc) (ls : Array Slot), wd g μ s (Aw g s.heap.size) H locs → lv_has ls 8 [(0, .ref (g.2.2 171)), (1, .int v1), (3, .int v3), (4, .int v4), (5, .int v5)] → X12_next_53 n v1 v2 v3 k6 v4 v5 s0 μ = some r → WQ p l e (rmD 1) s m args below meth c g (some (.int r.1)) r.2 H locs (F0 m 53 ls [.int s0]) := by
        intro v4 v5 s0 μ H locs ls hw hl h
        rw [X12_next_53] at h
        refine lv_istore (lv' := [(6, .int s0), (0, .ref (g.2.2 171)), (1, .int v1), (3, .int v3), (4, .int v4), (5, .int v5)]) hx hb dX12_next_53 hl (by decide) rfl (fun ls hl => ?_)
        refine lv_iload hx hb dX12_next_55 (lv_at hl 4 rfl) ?_
        refine lv_bipush (v := (100 : Int32)) hx hb dX12_next_57 (by decide) ?_
        refine lv_icmp_eq (tgt := 79) hx hb dX12_next_59 (by decide) (fun hc => ?_) (fun hc => ?_)
        · rw [if_pos hc] at h
          exact B79 v5 s0 μ _ _ _ hw (lv_sub hl [1, 2, 3, 5, 0] rfl) h
        · rw [if_neg hc] at h
          refine lv_iload hx hb dX12_next_62 (lv_at hl 0 rfl) ?_
          refine lv_aload_n hx hb dX12_next_64 rfl (lv_at hl 1 rfl) ?_
          refine gR (t := 172) hC hw fl_X12_9 ok171 (by decide) ot171_0 dX12_next_65 ?_
          refine lv_iconst (v := (1 : Int32)) hx hb dX12_next_68 (by decide) ?_
          refine lI (j := 1) hC hw ok172 on172 (vin (by decide)) (by decide) dX12_next_69 ?_
          refine lv_iconst (v := (1 : Int32)) hx hb dX12_next_70 (by decide) ?_
          refine lv_isub hx hb dX12_next_71 ?_
          refine lv_icmp_ne (tgt := 79) hx hb dX12_next_72 (by decide) (fun hc => ?_) (fun hc => ?_)
          · rw [if_neg hc] at h
            exact B79 v5 s0 μ _ _ _ hw (lv_sub hl [1, 2, 3, 5, 0] rfl) h
          · rw [if_pos hc] at h
            refine lv_iconst (v := (1 : Int32)) hx hb dX12_next_75 (by decide) ?_
            refine lv_goto (tgt := 80) hx hb dX12_next_76 (by decide) ?_
            exact B80 v5 s0 (1 : Int32) μ _ _ _ hw (lv_sub hl [1, 2, 3, 5, 0] rfl) h
      have B47 : ∀ (v4 : Int32) (v5 : Int32) (s0 : Int32) (s1 : Int32) (μ : Mu) (H : Heap) (locs : List Loc) (ls : Array Slot), wd g μ s (Aw g s.heap.size) H locs → lv_has ls 8 [(0, .ref (g.2.2 171)), (1, .int v1), (3, .int v3), (4, .int v4), (5, .int v5)] → X12_next_47 n v1 v2 v3 k6 v4 v5 s0 s1 μ = some r → WQ p l e (rmD 1) s m args below meth c g (some (.int r.1)) r.2 H locs (F0 m 47 ls [.int s1, .int s0]) := by
        intro v4 v5 s0 s1 μ H locs ls hw hl h
        rw [X12_next_47] at h
        refine lv_iadd hx hb dX12_next_47 ?_
        refine lv_aload_n hx hb dX12_next_48 rfl (lv_at hl 0 rfl) ?_
        obtain ⟨r49, hr49, h⟩ := bnd h
        refine cV (b := 171) (As := []) (rest := [.int (s0 + s1)]) (st1 := [.int r49.1, .int (s0 + s1)]) hC hw (c_X12_pitMany l g n μ r49 hr49) ml_X12_245 im_X12_pitMany se_X12_pitMany ok171 (CN := RX12) (T := TX12) (NF := 54) rfl rfl (by decide) rfl hl.1 ⟨Nat.le_of_ble_eq_true rfl, Nat.le_of_ble_eq_true rfl⟩ (Nat.le_of_ble_eq_true rfl) ⟨Nat.zero_le _, Nat.zero_le _⟩ rfl dX12_next_49 (fun H locs hw => ?_)
        obtain ⟨hd52, h⟩ := dv_some h
        refine lv_irem hx hb dX12_next_52 hd52 ?_
        exact B53 v4 v5 ((s0 + s1) - (s0 + s1) / r49.1 * r49.1) r49.2 _ _ _ hw (lv_sub hl [0, 1, 2, 3, 4] rfl) h
      rw [X12_next_6b] at h
      refine lv_iload hx hb dX12_next_6 (lv_at hl 4 rfl) ?_
      refine lv_bipush (v := (36 : Int32)) hx hb dX12_next_8 (by decide) ?_
      refine lv_icmp_ge (tgt := 163) hx hb dX12_next_10 (by decide) (fun hc => ?_) (fun hc => ?_)
      · rw [if_pos hc] at h
        refine lv_iconst (v := ((-1) : Int32)) hx hb dX12_next_163 (by decide) ?_
        exact rI hC hw hr hlocks (by rw [← Option.some.inj h]) (by rw [← Option.some.inj h]) dX12_next_164
      · rw [if_neg hc] at h
        refine lv_iload hx hb dX12_next_13 (lv_at hl 3 rfl) ?_
        refine lv_bipush (v := (100 : Int32)) hx hb dX12_next_15 (by decide) ?_
        refine lv_icmp_ne (tgt := 31) hx hb dX12_next_17 (by decide) (fun hc => ?_) (fun hc => ?_)
        · rw [if_neg hc] at h
          refine lv_iload hx hb dX12_next_31 (lv_at hl 3 rfl) ?_
          refine lv_iload_n hx hb dX12_next_33 rfl (lv_at hl 1 rfl) ?_
          refine lv_if_ne (tgt := 41) hx hb dX12_next_34 (by decide) (fun hc => ?_) (fun hc => ?_)
          · rw [if_neg hc] at h
            refine lv_aload_n hx hb dX12_next_41 rfl (lv_at hl 0 rfl) ?_
            refine gR (t := 172) hC hw fl_X12_9 ok171 (by decide) ot171_0 dX12_next_42 ?_
            refine lv_iconst (v := (1 : Int32)) hx hb dX12_next_45 (by decide) ?_
            refine lI (j := 1) hC hw ok172 on172 (vin (by decide)) (by decide) dX12_next_46 ?_
            exact B47 v4 v5 v4 (μ.1 172 1) μ _ _ _ hw (lv_sub hl [0, 1, 2, 3, 4] rfl) h
          · rw [if_pos hc] at h
            refine lv_iconst (v := (0 : Int32)) hx hb dX12_next_37 (by decide) ?_
            refine lv_goto (tgt := 47) hx hb dX12_next_38 (by decide) ?_
            exact B47 v4 v5 v4 (0 : Int32) μ _ _ _ hw (lv_sub hl [0, 1, 2, 3, 4] rfl) h
        · rw [if_pos hc] at h
          refine lv_aload_n hx hb dX12_next_20 rfl (lv_at hl 0 rfl) ?_
          refine gR (t := 172) hC hw fl_X12_9 ok171 (by decide) ot171_0 dX12_next_21 ?_
          refine lv_iconst (v := (1 : Int32)) hx hb dX12_next_24 (by decide) ?_
          refine lI (j := 1) hC hw ok172 on172 (vin (by decide)) (by decide) dX12_next_25 ?_
          refine lv_iconst (v := (1 : Int32)) hx hb dX12_next_26 (by decide) ?_
          refine lv_isub hx hb dX12_next_27 ?_
          refine lv_goto (tgt := 53) hx hb dX12_next_28 (by decide) ?_
          exact B53 v4 v5 ((μ.1 172 1) - (1 : Int32)) μ _ _ _ hw (lv_sub hl [0, 1, 2, 3, 4] rfl) h
  refine lv_iload_n hx hb dX12_next_0 rfl (lv_at hl 2 rfl) ?_
  refine lv_istore (lv' := [(4, .int v2), (0, .ref (g.2.2 171)), (1, .int v1), (2, .int v2), (3, .int v3)]) hx hb dX12_next_1 hl (by decide) rfl (fun ls hl => ?_)
  refine lv_iconst (v := (0 : Int32)) hx hb dX12_next_3 (by decide) ?_
  refine lv_istore (lv' := [(5, .int (0 : Int32)), (4, .int v2), (0, .ref (g.2.2 171)), (1, .int v1), (2, .int v2), (3, .int v3)]) hx hb dX12_next_4 hl (by decide) rfl (fun ls hl => ?_)
  exact B6 n v2 (0 : Int32) μ _ _ _ hw (lv_sub hl [2, 3, 5, 1, 0] rfl) h
set_option maxRecDepth 100000 in
set_option maxHeartbeats 4000000 in
theorem c_X12_sum (l : Launch) (g : Gw) (n : Nat) (v1 : Int32) (μ : Mu) (r : Int32 × Mu) (h : X12_sum n v1 μ = some r) : Ct l g yX12_sum cX12_sum 4 (some .int) 1 [.ref (g.2.2 171), .int v1] μ (some (.int r.1)) r.2 := by
  rw [X12_sum] at h
  refine Ct.of (by decide) (Nat.le_of_ble_eq_true rfl) ?_
  intro p e s m args below meth c ls hC hw hr hlocks hl
  have hx := hC.1
  have hb := hC.2.1
  have hl : lv_has ls 4 [(0, .ref (g.2.2 171)), (1, .int v1)] := hl
  have B4 : ∀ (k : Nat), ∀ (v2 : Int32) (v3 : Int32) (μ : Mu) (H : Heap) (locs : List Loc) (ls : Array Slot), wd g μ s (Aw g s.heap.size) H locs → lv_has ls 4 [(0, .ref (g.2.2 171)), (1, .int v1), (2, .int v2), (3, .int v3)] → lpF (fun _ _ _ => none) (X12_sum_4b n v1) k v2 v3 μ = some r → WQ p l e (rmD 1) s m args below meth c g (some (.int r.1)) r.2 H locs (F0 m 4 ls []) := by
    intro k
    induction k with
    | zero =>
      intro v2 v3 μ H locs ls hw hl h
      cases h
    | succ k ih4 =>
      rw [lpF_s]
      generalize lpF (fun _ _ _ => none) (X12_sum_4b n v1) k = k4 at ih4 ⊢
      intro v2 v3 μ H locs ls hw hl h
      have B32 : ∀ (v3 : Int32) (s0 : Int32) (s1 : Int32) (μ : Mu) (H : Heap) (locs : List Loc) (ls : Array Slot), wd g μ s (Aw g s.heap.size) H locs → lv_has ls 4 [(0, .ref (g.2.2 171)), (1, .int v1), (3, .int v3)] → X12_sum_32 n v1 k4 v3 s0 s1 μ = some r → WQ p l e (rmD 1) s m args below meth c g (some (.int r.1)) r.2 H locs (F0 m 32 ls [.int s1, .int s0]) := by
        intro v3 s0 s1 μ H locs ls hw hl h
        rw [X12_sum_32] at h
        refine lv_iadd hx hb dX12_sum_32 ?_
        refine lv_istore_n (lv' := [(2, .int (s0 + s1)), (0, .ref (g.2.2 171)), (1, .int v1), (3, .int v3)]) hx hb dX12_sum_33 rfl hl (by decide) rfl (fun ls hl => ?_)
        refine lv_iinc (v := (v3 + (1 : Int32))) (lv' := [(3, .int (v3 + (1 : Int32))), (2, .int (s0 + s1)), (0, .ref (g.2.2 171)), (1, .int v1)]) hx hb dX12_sum_34 hl (k := 3) rfl rfl (by decide) rfl (fun ls hl => ?_)
        refine lv_goto (tgt := 4) hx hb dX12_sum_37 (by decide) ?_
        exact ih4 (s0 + s1) (v3 + (1 : Int32)) μ _ _ _ hw (lv_sub hl [2, 3, 1, 0] rfl) h
      rw [X12_sum_4b] at h
      refine lv_iload_n hx hb dX12_sum_4 rfl (lv_at hl 3 rfl) ?_
      refine lv_aload_n hx hb dX12_sum_5 rfl (lv_at hl 0 rfl) ?_
      obtain ⟨r6, hr6, h⟩ := bnd h
      refine cV (b := 171) (As := []) (rest := [.int v3]) (st1 := [.int r6.1, .int v3]) hC hw (c_X12_pitMany l g n μ r6 hr6) ml_X12_245 im_X12_pitMany se_X12_pitMany ok171 (CN := RX12) (T := TX12) (NF := 54) rfl rfl (by decide) rfl hl.1 ⟨Nat.le_of_ble_eq_true rfl, Nat.le_of_ble_eq_true rfl⟩ (Nat.le_of_ble_eq_true rfl) ⟨Nat.zero_le _, Nat.zero_le _⟩ rfl dX12_sum_6 (fun H locs hw => ?_)
      refine lv_icmp_ge (tgt := 40) hx hb dX12_sum_9 (by decide) (fun hc => ?_) (fun hc => ?_)
      · rw [if_pos hc] at h
        refine lv_iload_n hx hb dX12_sum_40 rfl (lv_at hl 2 rfl) ?_
        exact rI hC hw hr hlocks (by rw [← Option.some.inj h]) (by rw [← Option.some.inj h]) dX12_sum_41
      · rw [if_neg hc] at h
        refine lv_iload_n hx hb dX12_sum_12 rfl (lv_at hl 2 rfl) ?_
        refine lv_aload_n hx hb dX12_sum_13 rfl (lv_at hl 0 rfl) ?_
        refine lv_iload_n hx hb dX12_sum_14 rfl (lv_at hl 3 rfl) ?_
        obtain ⟨r15, hr15, h⟩ := bnd h
        refine cV (b := 171) (As := [.int v3]) (rest := [.int v2]) (st1 := [.int r15.1, .int v2]) hC hw (c_X12_sideOf l g n v3 r6.2 r15 hr15) ml_X12_257 im_X12_sideOf se_X12_sideOf ok171 (CN := RX12) (T := TX12) (NF := 54) rfl rfl (by decide) rfl hl.1 ⟨Nat.le_of_ble_eq_true rfl, Nat.le_of_ble_eq_true rfl⟩ (Nat.le_of_ble_eq_true rfl) ⟨Nat.zero_le _, Nat.zero_le _⟩ rfl dX12_sum_15 (fun H locs hw => ?_)
        refine lv_iload_n hx hb dX12_sum_18 rfl (lv_at hl 1 rfl) ?_
        refine lv_icmp_ne (tgt := 31) hx hb dX12_sum_19 (by decide) (fun hc => ?_) (fun hc => ?_)
        · rw [if_neg hc] at h
          refine lv_iconst (v := (0 : Int32)) hx hb dX12_sum_31 (by decide) ?_
          exact B32 v3 v2 (0 : Int32) r15.2 _ _ _ hw (lv_sub hl [0, 1, 3] rfl) h
        · rw [if_pos hc] at h
          refine lv_aload_n hx hb dX12_sum_22 rfl (lv_at hl 0 rfl) ?_
          refine gR (t := 178) hC hw fl_X12_33 ok171 (by decide) ot171_17 dX12_sum_23 ?_
          refine lv_iload_n hx hb dX12_sum_26 rfl (lv_at hl 3 rfl) ?_
          obtain ⟨hi27, h⟩ := gd_some h
          refine lI (j := v3.toNatClampNeg) hC hw ok178 on178 hi27 rfl dX12_sum_27 ?_
          refine lv_goto (tgt := 32) hx hb dX12_sum_28 (by decide) ?_
          exact B32 v3 v2 (r15.2.1 178 v3.toNatClampNeg) r15.2 _ _ _ hw (lv_sub hl [0, 1, 3] rfl) h
  refine lv_iconst (v := (0 : Int32)) hx hb dX12_sum_0 (by decide) ?_
  refine lv_istore_n (lv' := [(2, .int (0 : Int32)), (0, .ref (g.2.2 171)), (1, .int v1)]) hx hb dX12_sum_1 rfl hl (by decide) rfl (fun ls hl => ?_)
  refine lv_iconst (v := (0 : Int32)) hx hb dX12_sum_2 (by decide) ?_
  refine lv_istore_n (lv' := [(3, .int (0 : Int32)), (2, .int (0 : Int32)), (0, .ref (g.2.2 171)), (1, .int v1)]) hx hb dX12_sum_3 rfl hl (by decide) rfl (fun ls hl => ?_)
  exact B4 n (0 : Int32) (0 : Int32) μ _ _ _ hw (lv_sub hl [2, 3, 1, 0] rfl) h
set_option maxRecDepth 100000 in
set_option maxHeartbeats 4000000 in
theorem c_X12_ahead (l : Launch) (g : Gw) (n : Nat) (v1 : Int32) (μ : Mu) (r : Int32 × Mu) (h : X12_ahead n v1 μ = some r) : Ct l g yX12_ahead cX12_ahead 3 (some .int) 1 [.ref (g.2.2 171), .int v1] μ (some (.int r.1)) r.2 := by
  rw [X12_ahead] at h
  refine Ct.of (by decide) (Nat.le_of_ble_eq_true rfl) ?_
  intro p e s m args below meth c ls hC hw hr hlocks hl
  have hx := hC.1
  have hb := hC.2.1
  have hl : lv_has ls 3 [(0, .ref (g.2.2 171)), (1, .int v1)] := hl
  have B57 : ∀ (s0 : Int32) (μ : Mu) (H : Heap) (locs : List Loc) (ls : Array Slot), wd g μ s (Aw g s.heap.size) H locs → lv_has ls 3 [] → X12_ahead_57 n v1 s0 μ = some r → WQ p l e (rmD 1) s m args below meth c g (some (.int r.1)) r.2 H locs (F0 m 57 ls [.int s0]) := by
    intro s0 μ H locs ls hw hl h
    rw [X12_ahead_57] at h
    exact rI hC hw hr hlocks (by rw [← Option.some.inj h]) (by rw [← Option.some.inj h]) dX12_ahead_57
  have B56 : ∀ (μ : Mu) (H : Heap) (locs : List Loc) (ls : Array Slot), wd g μ s (Aw g s.heap.size) H locs → lv_has ls 3 [] → X12_ahead_56 n v1  μ = some r → WQ p l e (rmD 1) s m args below meth c g (some (.int r.1)) r.2 H locs (F0 m 56 ls []) := by
    intro μ H locs ls hw hl h
    rw [X12_ahead_56] at h
    refine lv_iconst (v := ((-1) : Int32)) hx hb dX12_ahead_56 (by decide) ?_
    exact B57 ((-1) : Int32) μ _ _ _ hw (lv_sub hl [] rfl) h
  have B35 : ∀ (v2 : Int32) (μ : Mu) (H : Heap) (locs : List Loc) (ls : Array Slot), wd g μ s (Aw g s.heap.size) H locs → lv_has ls 3 [(0, .ref (g.2.2 171)), (1, .int v1), (2, .int v2)] → X12_ahead_35 n v1 v2 μ = some r → WQ p l e (rmD 1) s m args below meth c g (some (.int r.1)) r.2 H locs (F0 m 35 ls []) := by
    intro v2 μ H locs ls hw hl h
    rw [X12_ahead_35] at h
    refine lv_iload_n hx hb dX12_ahead_35 rfl (lv_at hl 2 rfl) ?_
    refine lv_if_lt (tgt := 56) hx hb dX12_ahead_36 (by decide) (fun hc => ?_) (fun hc => ?_)
    · rw [if_pos hc] at h
      exact B56 μ _ _ _ hw (lv_sub hl [] rfl) h
    · rw [if_neg hc] at h
      refine lv_aload_n hx hb dX12_ahead_39 rfl (lv_at hl 0 rfl) ?_
      refine lv_iload_n hx hb dX12_ahead_40 rfl (lv_at hl 2 rfl) ?_
      obtain ⟨r41, hr41, h⟩ := bnd h
      refine cV (b := 171) (As := [.int v2]) (rest := []) (st1 := [.int r41.1]) hC hw (c_X12_sideOf l g n v2 μ r41 hr41) ml_X12_257 im_X12_sideOf se_X12_sideOf ok171 (CN := RX12) (T := TX12) (NF := 54) rfl rfl (by decide) rfl hl.1 ⟨Nat.le_of_ble_eq_true rfl, Nat.le_of_ble_eq_true rfl⟩ (Nat.le_of_ble_eq_true rfl) ⟨Nat.zero_le _, Nat.zero_le _⟩ rfl dX12_ahead_41 (fun H locs hw => ?_)
      refine lv_aload_n hx hb dX12_ahead_44 rfl (lv_at hl 0 rfl) ?_
      refine lv_iload_n hx hb dX12_ahead_45 rfl (lv_at hl 1 rfl) ?_
      obtain ⟨r46, hr46, h⟩ := bnd h
      refine cV (b := 171) (As := [.int v1]) (rest := [.int r41.1]) (st1 := [.int r46.1, .int r41.1]) hC hw (c_X12_sideOf l g n v1 r41.2 r46 hr46) ml_X12_257 im_X12_sideOf se_X12_sideOf ok171 (CN := RX12) (T := TX12) (NF := 54) rfl rfl (by decide) rfl hl.1 ⟨Nat.le_of_ble_eq_true rfl, Nat.le_of_ble_eq_true rfl⟩ (Nat.le_of_ble_eq_true rfl) ⟨Nat.zero_le _, Nat.zero_le _⟩ rfl dX12_ahead_46 (fun H locs hw => ?_)
      refine lv_icmp_ne (tgt := 56) hx hb dX12_ahead_49 (by decide) (fun hc => ?_) (fun hc => ?_)
      · rw [if_neg hc] at h
        exact B56 r46.2 _ _ _ hw (lv_sub hl [] rfl) h
      · rw [if_pos hc] at h
        refine lv_iload_n hx hb dX12_ahead_52 rfl (lv_at hl 2 rfl) ?_
        refine lv_goto (tgt := 57) hx hb dX12_ahead_53 (by decide) ?_
        exact B57 v2 r46.2 _ _ _ hw (lv_sub hl [] rfl) h
  have B4 : ∀ (k : Nat), ∀ (v2 : Int32) (μ : Mu) (H : Heap) (locs : List Loc) (ls : Array Slot), wd g μ s (Aw g s.heap.size) H locs → lv_has ls 3 [(0, .ref (g.2.2 171)), (1, .int v1), (2, .int v2)] → lpF (fun _ _ => none) (X12_ahead_4b n v1) k v2 μ = some r → WQ p l e (rmD 1) s m args below meth c g (some (.int r.1)) r.2 H locs (F0 m 4 ls []) := by
    intro k
    induction k with
    | zero =>
      intro v2 μ H locs ls hw hl h
      cases h
    | succ k ih4 =>
      rw [lpF_s]
      generalize lpF (fun _ _ => none) (X12_ahead_4b n v1) k = k4 at ih4 ⊢
      intro v2 μ H locs ls hw hl h
      rw [X12_ahead_4b] at h
      refine lv_iload_n hx hb dX12_ahead_4 rfl (lv_at hl 2 rfl) ?_
      refine lv_if_lt (tgt := 35) hx hb dX12_ahead_5 (by decide) (fun hc => ?_) (fun hc => ?_)
      · rw [if_pos hc] at h
        exact B35 v2 μ _ _ _ hw (lv_sub hl [0, 1, 2] rfl) h
      · rw [if_neg hc] at h
        refine lv_aload_n hx hb dX12_ahead_8 rfl (lv_at hl 0 rfl) ?_
        refine lv_iload_n hx hb dX12_ahead_9 rfl (lv_at hl 2 rfl) ?_
        obtain ⟨r10, hr10, h⟩ := bnd h
        refine cV (b := 171) (As := [.int v2]) (rest := []) (st1 := [.int r10.1]) hC hw (c_X12_sideOf l g n v2 μ r10 hr10) ml_X12_257 im_X12_sideOf se_X12_sideOf ok171 (CN := RX12) (T := TX12) (NF := 54) rfl rfl (by decide) rfl hl.1 ⟨Nat.le_of_ble_eq_true rfl, Nat.le_of_ble_eq_true rfl⟩ (Nat.le_of_ble_eq_true rfl) ⟨Nat.zero_le _, Nat.zero_le _⟩ rfl dX12_ahead_10 (fun H locs hw => ?_)
        refine lv_aload_n hx hb dX12_ahead_13 rfl (lv_at hl 0 rfl) ?_
        refine lv_iload_n hx hb dX12_ahead_14 rfl (lv_at hl 1 rfl) ?_
        obtain ⟨r15, hr15, h⟩ := bnd h
        refine cV (b := 171) (As := [.int v1]) (rest := [.int r10.1]) (st1 := [.int r15.1, .int r10.1]) hC hw (c_X12_sideOf l g n v1 r10.2 r15 hr15) ml_X12_257 im_X12_sideOf se_X12_sideOf ok171 (CN := RX12) (T := TX12) (NF := 54) rfl rfl (by decide) rfl hl.1 ⟨Nat.le_of_ble_eq_true rfl, Nat.le_of_ble_eq_true rfl⟩ (Nat.le_of_ble_eq_true rfl) ⟨Nat.zero_le _, Nat.zero_le _⟩ rfl dX12_ahead_15 (fun H locs hw => ?_)
        refine lv_icmp_ne (tgt := 35) hx hb dX12_ahead_18 (by decide) (fun hc => ?_) (fun hc => ?_)
        · rw [if_neg hc] at h
          exact B35 v2 r15.2 _ _ _ hw (lv_sub hl [0, 1, 2] rfl) h
        · rw [if_pos hc] at h
          refine lv_aload_n hx hb dX12_ahead_21 rfl (lv_at hl 0 rfl) ?_
          refine lv_iload_n hx hb dX12_ahead_22 rfl (lv_at hl 2 rfl) ?_
          obtain ⟨r23, hr23, h⟩ := bnd h
          refine cV (b := 171) (As := [.int v2]) (rest := []) (st1 := [.int r23.1]) hC hw (c_X12_isLacking l g n v2 r15.2 r23 hr23) ml_X12_251 im_X12_isLacking se_X12_isLacking ok171 (CN := RX12) (T := TX12) (NF := 54) rfl rfl (by decide) rfl hl.1 ⟨Nat.le_of_ble_eq_true rfl, Nat.le_of_ble_eq_true rfl⟩ (Nat.le_of_ble_eq_true rfl) ⟨Nat.zero_le _, Nat.zero_le _⟩ rfl dX12_ahead_23 (fun H locs hw => ?_)
          refine lv_if_eq (tgt := 35) hx hb dX12_ahead_26 (by decide) (fun hc => ?_) (fun hc => ?_)
          · rw [if_pos hc] at h
            exact B35 v2 r23.2 _ _ _ hw (lv_sub hl [0, 1, 2] rfl) h
          · rw [if_neg hc] at h
            refine lv_iinc (v := (v2 + ((-1) : Int32))) (lv' := [(2, .int (v2 + ((-1) : Int32))), (0, .ref (g.2.2 171)), (1, .int v1)]) hx hb dX12_ahead_29 hl (k := 2) rfl rfl (by decide) rfl (fun ls hl => ?_)
            refine lv_goto (tgt := 4) hx hb dX12_ahead_32 (by decide) ?_
            exact ih4 (v2 + ((-1) : Int32)) r23.2 _ _ _ hw (lv_sub hl [1, 2, 0] rfl) h
  refine lv_iload_n hx hb dX12_ahead_0 rfl (lv_at hl 1 rfl) ?_
  refine lv_iconst (v := (1 : Int32)) hx hb dX12_ahead_1 (by decide) ?_
  refine lv_isub hx hb dX12_ahead_2 ?_
  refine lv_istore_n (lv' := [(2, .int (v1 - (1 : Int32))), (0, .ref (g.2.2 171)), (1, .int v1)]) hx hb dX12_ahead_3 rfl hl (by decide) rfl (fun ls hl => ?_)
  exact B4 n (v1 - (1 : Int32)) μ _ _ _ hw (lv_sub hl [1, 2, 0] rfl) h
set_option maxRecDepth 100000 in
set_option maxHeartbeats 4000000 in
theorem c_X12_isFull (l : Launch) (g : Gw) (n : Nat) (v1 : Int32) (μ : Mu) (r : Int32 × Mu) (h : X12_isFull n v1 μ = some r) : Ct l g yX12_isFull cX12_isFull 2 (some .boolean) 2 [.ref (g.2.2 171), .int v1] μ (some (.int r.1)) r.2 := by
  rw [X12_isFull] at h
  refine Ct.of (by decide) (Nat.le_of_ble_eq_true rfl) ?_
  intro p e s m args below meth c ls hC hw hr hlocks hl
  have hx := hC.1
  have hb := hC.2.1
  have hl : lv_has ls 2 [(0, .ref (g.2.2 171)), (1, .int v1)] := hl
  have B47 : ∀ (s0 : Int32) (μ : Mu) (H : Heap) (locs : List Loc) (ls : Array Slot), wd g μ s (Aw g s.heap.size) H locs → lv_has ls 2 [] → X12_isFull_47 n v1 s0 μ = some r → WQ p l e (rmD 2) s m args below meth c g (some (.int r.1)) r.2 H locs (F0 m 47 ls [.int s0]) := by
    intro s0 μ H locs ls hw hl h
    rw [X12_isFull_47] at h
    obtain ⟨hz47, h⟩ := bz_some h
    exact rZ hC hw hr hlocks hz47 (by rw [← Option.some.inj h]) (by rw [← Option.some.inj h]) dX12_isFull_47
  have B46 : ∀ (μ : Mu) (H : Heap) (locs : List Loc) (ls : Array Slot), wd g μ s (Aw g s.heap.size) H locs → lv_has ls 2 [] → X12_isFull_46 n v1  μ = some r → WQ p l e (rmD 2) s m args below meth c g (some (.int r.1)) r.2 H locs (F0 m 46 ls []) := by
    intro μ H locs ls hw hl h
    rw [X12_isFull_46] at h
    refine lv_iconst (v := (0 : Int32)) hx hb dX12_isFull_46 (by decide) ?_
    exact B47 (0 : Int32) μ _ _ _ hw (lv_sub hl [] rfl) h
  refine lv_aload_n hx hb dX12_isFull_0 rfl (lv_at hl 0 rfl) ?_
  refine lv_iload_n hx hb dX12_isFull_1 rfl (lv_at hl 1 rfl) ?_
  obtain ⟨r2, hr2, h⟩ := bnd h
  refine cV (b := 171) (As := [.int v1]) (rest := []) (st1 := [.int r2.1]) hC hw (c_X12_isPit l g n v1 μ r2 hr2) ml_X12_248 im_X12_isPit se_X12_isPit ok171 (CN := RX12) (T := TX12) (NF := 54) rfl rfl (by decide) rfl hl.1 ⟨Nat.le_of_ble_eq_true rfl, Nat.le_of_ble_eq_true rfl⟩ (Nat.le_of_ble_eq_true rfl) ⟨Nat.zero_le _, Nat.zero_le _⟩ rfl dX12_isFull_2 (fun H locs hw => ?_)
  refine lv_if_eq (tgt := 46) hx hb dX12_isFull_5 (by decide) (fun hc => ?_) (fun hc => ?_)
  · rw [if_pos hc] at h
    exact B46 r2.2 _ _ _ hw (lv_sub hl [] rfl) h
  · rw [if_neg hc] at h
    refine lv_aload_n hx hb dX12_isFull_8 rfl (lv_at hl 0 rfl) ?_
    refine lv_iload_n hx hb dX12_isFull_9 rfl (lv_at hl 1 rfl) ?_
    obtain ⟨r10, hr10, h⟩ := bnd h
    refine cV (b := 171) (As := [.int v1]) (rest := []) (st1 := [.int r10.1]) hC hw (c_X12_sideOf l g n v1 r2.2 r10 hr10) ml_X12_257 im_X12_sideOf se_X12_sideOf ok171 (CN := RX12) (T := TX12) (NF := 54) rfl rfl (by decide) rfl hl.1 ⟨Nat.le_of_ble_eq_true rfl, Nat.le_of_ble_eq_true rfl⟩ (Nat.le_of_ble_eq_true rfl) ⟨Nat.zero_le _, Nat.zero_le _⟩ rfl dX12_isFull_10 (fun H locs hw => ?_)
    refine lv_aload_n hx hb dX12_isFull_13 rfl (lv_at hl 0 rfl) ?_
    refine gR (t := 172) hC hw fl_X12_9 ok171 (by decide) ot171_0 dX12_isFull_14 ?_
    refine lv_iconst (v := (2 : Int32)) hx hb dX12_isFull_17 (by decide) ?_
    refine lI (j := 2) hC hw ok172 on172 (vin (by decide)) (by decide) dX12_isFull_18 ?_
    refine lv_icmp_ne (tgt := 46) hx hb dX12_isFull_19 (by decide) (fun hc => ?_) (fun hc => ?_)
    · rw [if_neg hc] at h
      exact B46 r10.2 _ _ _ hw (lv_sub hl [] rfl) h
    · rw [if_pos hc] at h
      refine lv_aload_n hx hb dX12_isFull_22 rfl (lv_at hl 0 rfl) ?_
      refine lv_iload_n hx hb dX12_isFull_23 rfl (lv_at hl 1 rfl) ?_
      obtain ⟨r24, hr24, h⟩ := bnd h
      refine cV (b := 171) (As := [.int v1]) (rest := []) (st1 := [.int r24.1]) hC hw (c_X12_isLacking l g n v1 r10.2 r24 hr24) ml_X12_251 im_X12_isLacking se_X12_isLacking ok171 (CN := RX12) (T := TX12) (NF := 54) rfl rfl (by decide) rfl hl.1 ⟨Nat.le_of_ble_eq_true rfl, Nat.le_of_ble_eq_true rfl⟩ (Nat.le_of_ble_eq_true rfl) ⟨Nat.zero_le _, Nat.zero_le _⟩ rfl dX12_isFull_24 (fun H locs hw => ?_)
      refine lv_if_ne (tgt := 46) hx hb dX12_isFull_27 (by decide) (fun hc => ?_) (fun hc => ?_)
      · rw [if_neg hc] at h
        exact B46 r24.2 _ _ _ hw (lv_sub hl [] rfl) h
      · rw [if_pos hc] at h
        refine lv_aload_n hx hb dX12_isFull_30 rfl (lv_at hl 0 rfl) ?_
        refine gR (t := 172) hC hw fl_X12_9 ok171 (by decide) ot171_0 dX12_isFull_31 ?_
        refine lv_bipush (v := (13 : Int32)) hx hb dX12_isFull_34 (by decide) ?_
        refine lv_iload_n hx hb dX12_isFull_36 rfl (lv_at hl 1 rfl) ?_
        refine lv_iadd hx hb dX12_isFull_37 ?_
        obtain ⟨hi38, h⟩ := gd_some h
        refine lI (j := ((13 : Int32) + v1).toNatClampNeg) hC hw ok172 on172 hi38 rfl dX12_isFull_38 ?_
        refine lv_if_le (tgt := 46) hx hb dX12_isFull_39 (by decide) (fun hc => ?_) (fun hc => ?_)
        · rw [if_pos hc] at h
          exact B46 r24.2 _ _ _ hw (lv_sub hl [] rfl) h
        · rw [if_neg hc] at h
          refine lv_iconst (v := (1 : Int32)) hx hb dX12_isFull_42 (by decide) ?_
          refine lv_goto (tgt := 47) hx hb dX12_isFull_43 (by decide) ?_
          exact B47 (1 : Int32) r24.2 _ _ _ hw (lv_sub hl [] rfl) h
set_option maxRecDepth 100000 in
set_option maxHeartbeats 4000000 in
theorem c_X12_puts (l : Launch) (g : Gw) (n : Nat) (v0 : Nat) (v1 : Int32) (v2 : Nat) (μ : Mu) (r : Unit × Mu) (h : X12_puts n v0 v1 v2 μ = some r) : Ct l g yX12_puts cX12_puts 4 none 0 [.ref (g.2.2 v0), .int v1, .ref (g.2.2 v2)] μ none r.2 := by
  rw [X12_puts] at h
  obtain ⟨hk0, h⟩ := kd_some h
  obtain ⟨hk2, h⟩ := kd_some h
  refine Ct.of (by decide) (Nat.le_of_ble_eq_true rfl) ?_
  intro p e s m args below meth c ls hC hw hr hlocks hl
  have hx := hC.1
  have hb := hC.2.1
  have hl : lv_has ls 4 [(0, .ref (g.2.2 v0)), (1, .int v1), (2, .ref (g.2.2 v2))] := hl
  have B2 : ∀ (k : Nat), ∀ (v3 : Int32) (μ : Mu) (H : Heap) (locs : List Loc) (ls : Array Slot), wd g μ s (Aw g s.heap.size) H locs → lv_has ls 4 [(0, .ref (g.2.2 v0)), (1, .int v1), (2, .ref (g.2.2 v2)), (3, .int v3)] → lpF (fun _ _ => none) (X12_puts_2b n v0 v1 v2) k v3 μ = some r → WQ p l e (rmD 0) s m args below meth c g none r.2 H locs (F0 m 2 ls []) := by
    intro k
    induction k with
    | zero =>
      intro v3 μ H locs ls hw hl h
      cases h
    | succ k ih2 =>
      rw [lpF_s]
      generalize lpF (fun _ _ => none) (X12_puts_2b n v0 v1 v2) k = k2 at ih2 ⊢
      intro v3 μ H locs ls hw hl h
      rw [X12_puts_2b] at h
      refine lv_iload_n hx hb dX12_puts_2 rfl (lv_at hl 3 rfl) ?_
      refine lv_bipush (v := (25 : Int32)) hx hb dX12_puts_3 (by decide) ?_
      refine lv_icmp_ge (tgt := 25) hx hb dX12_puts_5 (by decide) (fun hc => ?_) (fun hc => ?_)
      · rw [if_pos hc] at h
        exact rV hC hw hr hlocks rfl (by rw [← Option.some.inj h]) dX12_puts_25
      · rw [if_neg hc] at h
        refine lv_aload_n hx hb dX12_puts_8 rfl (lv_at hl 0 rfl) ?_
        refine lv_bipush (v := (25 : Int32)) hx hb dX12_puts_9 (by decide) ?_
        refine lv_iload_n hx hb dX12_puts_11 rfl (lv_at hl 1 rfl) ?_
        refine lv_imul hx hb dX12_puts_12 ?_
        refine lv_iload_n hx hb dX12_puts_13 rfl (lv_at hl 3 rfl) ?_
        refine lv_iadd hx hb dX12_puts_14 ?_
        refine lv_aload_n hx hb dX12_puts_15 rfl (lv_at hl 2 rfl) ?_
        refine lv_iload_n hx hb dX12_puts_16 rfl (lv_at hl 3 rfl) ?_
        obtain ⟨hi17, h⟩ := gd_some h
        refine lI (j := v3.toNatClampNeg) hC hw hk2 rfl hi17 rfl dX12_puts_17 ?_
        obtain ⟨hi18, h⟩ := gd_some h
        refine sI (j := (((25 : Int32) * v1) + v3).toNatClampNeg) hC hw hk0 rfl hi18 rfl dX12_puts_18 (fun H locs hw => ?_)
        refine lv_iinc (v := (v3 + (1 : Int32))) (lv' := [(3, .int (v3 + (1 : Int32))), (0, .ref (g.2.2 v0)), (1, .int v1), (2, .ref (g.2.2 v2))]) hx hb dX12_puts_19 hl (k := 3) rfl rfl (by decide) rfl (fun ls hl => ?_)
        refine lv_goto (tgt := 2) hx hb dX12_puts_22 (by decide) ?_
        exact ih2 (v3 + (1 : Int32)) (si μ v0 (((25 : Int32) * v1) + v3).toNatClampNeg (μ.1 v2 v3.toNatClampNeg)) _ _ _ hw (lv_sub hl [1, 2, 3, 0] rfl) h
  refine lv_iconst (v := (0 : Int32)) hx hb dX12_puts_0 (by decide) ?_
  refine lv_istore_n (lv' := [(3, .int (0 : Int32)), (0, .ref (g.2.2 v0)), (1, .int v1), (2, .ref (g.2.2 v2))]) hx hb dX12_puts_1 rfl hl (by decide) rfl (fun ls hl => ?_)
  exact B2 n (0 : Int32) μ _ _ _ hw (lv_sub hl [1, 2, 3, 0] rfl) h
set_option maxRecDepth 100000 in
set_option maxHeartbeats 4000000 in
theorem c_X12_gets (l : Launch) (g : Gw) (n : Nat) (v0 : Nat) (v1 : Int32) (v2 : Nat) (μ : Mu) (r : Unit × Mu) (h : X12_gets n v0 v1 v2 μ = some r) : Ct l g yX12_gets cX12_gets 4 none 0 [.ref (g.2.2 v0), .int v1, .ref (g.2.2 v2)] μ none r.2 := by
  rw [X12_gets] at h
  obtain ⟨hk0, h⟩ := kd_some h
  obtain ⟨hk2, h⟩ := kd_some h
  refine Ct.of (by decide) (Nat.le_of_ble_eq_true rfl) ?_
  intro p e s m args below meth c ls hC hw hr hlocks hl
  have hx := hC.1
  have hb := hC.2.1
  have hl : lv_has ls 4 [(0, .ref (g.2.2 v0)), (1, .int v1), (2, .ref (g.2.2 v2))] := hl
  have B2 : ∀ (k : Nat), ∀ (v3 : Int32) (μ : Mu) (H : Heap) (locs : List Loc) (ls : Array Slot), wd g μ s (Aw g s.heap.size) H locs → lv_has ls 4 [(0, .ref (g.2.2 v0)), (1, .int v1), (2, .ref (g.2.2 v2)), (3, .int v3)] → lpF (fun _ _ => none) (X12_gets_2b n v0 v1 v2) k v3 μ = some r → WQ p l e (rmD 0) s m args below meth c g none r.2 H locs (F0 m 2 ls []) := by
    intro k
    induction k with
    | zero =>
      intro v3 μ H locs ls hw hl h
      cases h
    | succ k ih2 =>
      rw [lpF_s]
      generalize lpF (fun _ _ => none) (X12_gets_2b n v0 v1 v2) k = k2 at ih2 ⊢
      intro v3 μ H locs ls hw hl h
      rw [X12_gets_2b] at h
      refine lv_iload_n hx hb dX12_gets_2 rfl (lv_at hl 3 rfl) ?_
      refine lv_bipush (v := (25 : Int32)) hx hb dX12_gets_3 (by decide) ?_
      refine lv_icmp_ge (tgt := 25) hx hb dX12_gets_5 (by decide) (fun hc => ?_) (fun hc => ?_)
      · rw [if_pos hc] at h
        exact rV hC hw hr hlocks rfl (by rw [← Option.some.inj h]) dX12_gets_25
      · rw [if_neg hc] at h
        refine lv_aload_n hx hb dX12_gets_8 rfl (lv_at hl 2 rfl) ?_
        refine lv_iload_n hx hb dX12_gets_9 rfl (lv_at hl 3 rfl) ?_
        refine lv_aload_n hx hb dX12_gets_10 rfl (lv_at hl 0 rfl) ?_
        refine lv_bipush (v := (25 : Int32)) hx hb dX12_gets_11 (by decide) ?_
        refine lv_iload_n hx hb dX12_gets_13 rfl (lv_at hl 1 rfl) ?_
        refine lv_imul hx hb dX12_gets_14 ?_
        refine lv_iload_n hx hb dX12_gets_15 rfl (lv_at hl 3 rfl) ?_
        refine lv_iadd hx hb dX12_gets_16 ?_
        obtain ⟨hi17, h⟩ := gd_some h
        refine lI (j := (((25 : Int32) * v1) + v3).toNatClampNeg) hC hw hk0 rfl hi17 rfl dX12_gets_17 ?_
        obtain ⟨hi18, h⟩ := gd_some h
        refine sI (j := v3.toNatClampNeg) hC hw hk2 rfl hi18 rfl dX12_gets_18 (fun H locs hw => ?_)
        refine lv_iinc (v := (v3 + (1 : Int32))) (lv' := [(3, .int (v3 + (1 : Int32))), (0, .ref (g.2.2 v0)), (1, .int v1), (2, .ref (g.2.2 v2))]) hx hb dX12_gets_19 hl (k := 3) rfl rfl (by decide) rfl (fun ls hl => ?_)
        refine lv_goto (tgt := 2) hx hb dX12_gets_22 (by decide) ?_
        exact ih2 (v3 + (1 : Int32)) (si μ v2 v3.toNatClampNeg (μ.1 v0 (((25 : Int32) * v1) + v3).toNatClampNeg)) _ _ _ hw (lv_sub hl [1, 2, 3, 0] rfl) h
  refine lv_iconst (v := (0 : Int32)) hx hb dX12_gets_0 (by decide) ?_
  refine lv_istore_n (lv' := [(3, .int (0 : Int32)), (0, .ref (g.2.2 v0)), (1, .int v1), (2, .ref (g.2.2 v2))]) hx hb dX12_gets_1 rfl hl (by decide) rfl (fun ls hl => ?_)
  exact B2 n (0 : Int32) μ _ _ _ hw (lv_sub hl [1, 2, 3, 0] rfl) h
set_option maxRecDepth 100000 in
set_option maxHeartbeats 4000000 in
theorem c_X12_keeps (l : Launch) (g : Gw) (n : Nat) (v1 : Int32) (μ : Mu) (r : Unit × Mu) (h : X12_keeps n v1 μ = some r) : Ct l g yX12_keeps cX12_keeps 3 none 1 [.ref (g.2.2 171), .int v1] μ none r.2 := by
  rw [X12_keeps] at h
  refine Ct.of (by decide) (Nat.le_of_ble_eq_true rfl) ?_
  intro p e s m args below meth c ls hC hw hr hlocks hl
  have hx := hC.1
  have hb := hC.2.1
  have hl : lv_has ls 3 [(0, .ref (g.2.2 171)), (1, .int v1)] := hl
  have B78 : ∀ (μ : Mu) (H : Heap) (locs : List Loc) (ls : Array Slot), wd g μ s (Aw g s.heap.size) H locs → lv_has ls 3 [(0, .ref (g.2.2 171)), (1, .int v1)] → X12_keeps_78 n v1  μ = some r → WQ p l e (rmD 1) s m args below meth c g none r.2 H locs (F0 m 78 ls []) := by
    intro μ H locs ls hw hl h
    rw [X12_keeps_78] at h
    refine lv_aload_n hx hb dX12_keeps_78 rfl (lv_at hl 0 rfl) ?_
    refine gR (t := 179) hC hw fl_X12_36 ok171 (by decide) ot171_24 dX12_keeps_79 ?_
    refine lv_aload_n hx hb dX12_keeps_82 rfl (lv_at hl 0 rfl) ?_
    refine gI hC hw fl_X12_239 ok171 (by decide) dX12_keeps_83 ?_
    refine lv_aload_n hx hb dX12_keeps_86 rfl (lv_at hl 0 rfl) ?_
    refine gR (t := 172) hC hw fl_X12_9 ok171 (by decide) ot171_0 dX12_keeps_87 ?_
    obtain ⟨r90, hr90, h⟩ := bnd h
    refine cS (As := [.ref (g.2.2 179), .int (μ.1 171 28), .ref (g.2.2 172)]) (rest := []) (st1 := []) hC hw (c_X12_puts l g n 179 (μ.1 171 28) 172 μ r90 hr90) ml_X12_319 st_X12_puts rfl hl.1 ⟨Nat.le_of_ble_eq_true rfl, Nat.le_of_ble_eq_true rfl⟩ (Nat.le_of_ble_eq_true rfl) ⟨Nat.zero_le _, Nat.zero_le _⟩ rfl dX12_keeps_90 (fun H locs hw => ?_)
    refine lv_aload_n hx hb dX12_keeps_93 rfl (lv_at hl 0 rfl) ?_
    refine gR (t := 180) hC hw fl_X12_39 ok171 (by decide) ot171_25 dX12_keeps_94 ?_
    refine lv_aload_n hx hb dX12_keeps_97 rfl (lv_at hl 0 rfl) ?_
    refine gI hC hw fl_X12_239 ok171 (by decide) dX12_keeps_98 ?_
    refine lv_iload_n hx hb dX12_keeps_101 rfl (lv_at hl 1 rfl) ?_
    obtain ⟨hi102, h⟩ := gd_some h
    refine sI (j := (r90.2.1 171 28).toNatClampNeg) hC hw ok180 on180 hi102 rfl dX12_keeps_102 (fun H locs hw => ?_)
    refine lv_aload_n hx hb dX12_keeps_103 rfl (lv_at hl 0 rfl) ?_
    refine lv_dup hx hb dX12_keeps_104 rfl ?_
    refine gI hC hw fl_X12_239 ok171 (by decide) dX12_keeps_105 ?_
    refine lv_iconst (v := (1 : Int32)) hx hb dX12_keeps_108 (by decide) ?_
    refine lv_iadd hx hb dX12_keeps_109 ?_
    refine pI hC hw fl_X12_239 fp_12_28 ok171 dX12_keeps_110 (fun H locs hw => ?_)
    exact rV hC hw hr hlocks rfl (by rw [← Option.some.inj h]) dX12_keeps_113
  have B42 : ∀ (k : Nat), ∀ (v2 : Int32) (μ : Mu) (H : Heap) (locs : List Loc) (ls : Array Slot), wd g μ s (Aw g s.heap.size) H locs → lv_has ls 3 [(0, .ref (g.2.2 171)), (1, .int v1), (2, .int v2)] → lpF (fun _ _ => none) (X12_keeps_42b n v1) k v2 μ = some r → WQ p l e (rmD 1) s m args below meth c g none r.2 H locs (F0 m 42 ls []) := by
    intro k
    induction k with
    | zero =>
      intro v2 μ H locs ls hw hl h
      cases h
    | succ k ih42 =>
      rw [lpF_s]
      generalize lpF (fun _ _ => none) (X12_keeps_42b n v1) k = k42 at ih42 ⊢
      intro v2 μ H locs ls hw hl h
      rw [X12_keeps_42b] at h
      refine lv_iload_n hx hb dX12_keeps_42 rfl (lv_at hl 2 rfl) ?_
      refine lv_bipush (v := (40 : Int32)) hx hb dX12_keeps_43 (by decide) ?_
      refine lv_icmp_ge (tgt := 68) hx hb dX12_keeps_45 (by decide) (fun hc => ?_) (fun hc => ?_)
      · rw [if_pos hc] at h
        refine lv_aload_n hx hb dX12_keeps_68 rfl (lv_at hl 0 rfl) ?_
        refine lv_dup hx hb dX12_keeps_69 rfl ?_
        refine gI hC hw fl_X12_239 ok171 (by decide) dX12_keeps_70 ?_
        refine lv_iconst (v := (1 : Int32)) hx hb dX12_keeps_73 (by decide) ?_
        refine lv_isub hx hb dX12_keeps_74 ?_
        refine pI hC hw fl_X12_239 fp_12_28 ok171 dX12_keeps_75 (fun H locs hw => ?_)
        exact B78 (si μ 171 28 ((μ.1 171 28) - (1 : Int32))) _ _ _ hw (lv_sub hl [0, 1] rfl) h
      · rw [if_neg hc] at h
        refine lv_aload_n hx hb dX12_keeps_48 rfl (lv_at hl 0 rfl) ?_
        refine gR (t := 180) hC hw fl_X12_39 ok171 (by decide) ot171_25 dX12_keeps_49 ?_
        refine lv_iload_n hx hb dX12_keeps_52 rfl (lv_at hl 2 rfl) ?_
        refine lv_iconst (v := (1 : Int32)) hx hb dX12_keeps_53 (by decide) ?_
        refine lv_isub hx hb dX12_keeps_54 ?_
        refine lv_aload_n hx hb dX12_keeps_55 rfl (lv_at hl 0 rfl) ?_
        refine gR (t := 180) hC hw fl_X12_39 ok171 (by decide) ot171_25 dX12_keeps_56 ?_
        refine lv_iload_n hx hb dX12_keeps_59 rfl (lv_at hl 2 rfl) ?_
        obtain ⟨hi60, h⟩ := gd_some h
        refine lI (j := v2.toNatClampNeg) hC hw ok180 on180 hi60 rfl dX12_keeps_60 ?_
        obtain ⟨hi61, h⟩ := gd_some h
        refine sI (j := (v2 - (1 : Int32)).toNatClampNeg) hC hw ok180 on180 hi61 rfl dX12_keeps_61 (fun H locs hw => ?_)
        refine lv_iinc (v := (v2 + (1 : Int32))) (lv' := [(2, .int (v2 + (1 : Int32))), (0, .ref (g.2.2 171)), (1, .int v1)]) hx hb dX12_keeps_62 hl (k := 2) rfl rfl (by decide) rfl (fun ls hl => ?_)
        refine lv_goto (tgt := 42) hx hb dX12_keeps_65 (by decide) ?_
        exact ih42 (v2 + (1 : Int32)) (si μ 180 (v2 - (1 : Int32)).toNatClampNeg (μ.1 180 v2.toNatClampNeg)) _ _ _ hw (lv_sub hl [1, 2, 0] rfl) h
  have B12 : ∀ (k : Nat), ∀ (v2 : Int32) (μ : Mu) (H : Heap) (locs : List Loc) (ls : Array Slot), wd g μ s (Aw g s.heap.size) H locs → lv_has ls 3 [(0, .ref (g.2.2 171)), (1, .int v1), (2, .int v2)] → lpF (fun _ _ => none) (X12_keeps_12b n v1) k v2 μ = some r → WQ p l e (rmD 1) s m args below meth c g none r.2 H locs (F0 m 12 ls []) := by
    intro k
    induction k with
    | zero =>
      intro v2 μ H locs ls hw hl h
      cases h
    | succ k ih12 =>
      rw [lpF_s]
      generalize lpF (fun _ _ => none) (X12_keeps_12b n v1) k = k12 at ih12 ⊢
      intro v2 μ H locs ls hw hl h
      rw [X12_keeps_12b] at h
      refine lv_iload_n hx hb dX12_keeps_12 rfl (lv_at hl 2 rfl) ?_
      refine lv_sipush (v := (1000 : Int32)) hx hb dX12_keeps_13 (by decide) ?_
      refine lv_icmp_ge (tgt := 40) hx hb dX12_keeps_16 (by decide) (fun hc => ?_) (fun hc => ?_)
      · rw [if_pos hc] at h
        refine lv_iconst (v := (1 : Int32)) hx hb dX12_keeps_40 (by decide) ?_
        refine lv_istore_n (lv' := [(2, .int (1 : Int32)), (0, .ref (g.2.2 171)), (1, .int v1)]) hx hb dX12_keeps_41 rfl hl (by decide) rfl (fun ls hl => ?_)
        exact B42 n (1 : Int32) μ _ _ _ hw (lv_sub hl [1, 2, 0] rfl) h
      · rw [if_neg hc] at h
        refine lv_aload_n hx hb dX12_keeps_19 rfl (lv_at hl 0 rfl) ?_
        refine gR (t := 179) hC hw fl_X12_36 ok171 (by decide) ot171_24 dX12_keeps_20 ?_
        refine lv_iload_n hx hb dX12_keeps_23 rfl (lv_at hl 2 rfl) ?_
        refine lv_bipush (v := (25 : Int32)) hx hb dX12_keeps_24 (by decide) ?_
        refine lv_isub hx hb dX12_keeps_26 ?_
        refine lv_aload_n hx hb dX12_keeps_27 rfl (lv_at hl 0 rfl) ?_
        refine gR (t := 179) hC hw fl_X12_36 ok171 (by decide) ot171_24 dX12_keeps_28 ?_
        refine lv_iload_n hx hb dX12_keeps_31 rfl (lv_at hl 2 rfl) ?_
        obtain ⟨hi32, h⟩ := gd_some h
        refine lI (j := v2.toNatClampNeg) hC hw ok179 on179 hi32 rfl dX12_keeps_32 ?_
        obtain ⟨hi33, h⟩ := gd_some h
        refine sI (j := (v2 - (25 : Int32)).toNatClampNeg) hC hw ok179 on179 hi33 rfl dX12_keeps_33 (fun H locs hw => ?_)
        refine lv_iinc (v := (v2 + (1 : Int32))) (lv' := [(2, .int (v2 + (1 : Int32))), (0, .ref (g.2.2 171)), (1, .int v1)]) hx hb dX12_keeps_34 hl (k := 2) rfl rfl (by decide) rfl (fun ls hl => ?_)
        refine lv_goto (tgt := 12) hx hb dX12_keeps_37 (by decide) ?_
        exact ih12 (v2 + (1 : Int32)) (si μ 179 (v2 - (25 : Int32)).toNatClampNeg (μ.1 179 v2.toNatClampNeg)) _ _ _ hw (lv_sub hl [1, 2, 0] rfl) h
  refine lv_aload_n hx hb dX12_keeps_0 rfl (lv_at hl 0 rfl) ?_
  refine gI hC hw fl_X12_239 ok171 (by decide) dX12_keeps_1 ?_
  refine lv_bipush (v := (40 : Int32)) hx hb dX12_keeps_4 (by decide) ?_
  refine lv_icmp_ne (tgt := 78) hx hb dX12_keeps_6 (by decide) (fun hc => ?_) (fun hc => ?_)
  · rw [if_neg hc] at h
    exact B78 μ _ _ _ hw (lv_sub hl [0, 1] rfl) h
  · rw [if_pos hc] at h
    refine lv_bipush (v := (25 : Int32)) hx hb dX12_keeps_9 (by decide) ?_
    refine lv_istore_n (lv' := [(2, .int (25 : Int32)), (0, .ref (g.2.2 171)), (1, .int v1)]) hx hb dX12_keeps_11 rfl hl (by decide) rfl (fun ls hl => ?_)
    exact B12 n (25 : Int32) μ _ _ _ hw (lv_sub hl [1, 2, 0] rfl) h
set_option maxRecDepth 100000 in
set_option maxHeartbeats 4000000 in
theorem c_X12_undo (l : Launch) (g : Gw) (n : Nat) (μ : Mu) (r : Int32 × Mu) (h : X12_undo n  μ = some r) : Ct l g yX12_undo cX12_undo 1 (some .boolean) 1 [.ref (g.2.2 171)] μ (some (.int r.1)) r.2 := by
  rw [X12_undo] at h
  refine Ct.of (by decide) (Nat.le_of_ble_eq_true rfl) ?_
  intro p e s m args below meth c ls hC hw hr hlocks hl
  have hx := hC.1
  have hb := hC.2.1
  have hl : lv_has ls 1 [(0, .ref (g.2.2 171))] := hl
  refine lv_aload_n hx hb dX12_undo_0 rfl (lv_at hl 0 rfl) ?_
  refine lv_iconst (v := (0 : Int32)) hx hb dX12_undo_1 (by decide) ?_
  refine pI hC hw fl_X12_107 fp_12_5 ok171 dX12_undo_2 (fun H locs hw => ?_)
  refine lv_aload_n hx hb dX12_undo_5 rfl (lv_at hl 0 rfl) ?_
  refine gI hC hw fl_X12_239 ok171 (by decide) dX12_undo_6 ?_
  refine lv_if_ne (tgt := 14) hx hb dX12_undo_9 (by decide) (fun hc => ?_) (fun hc => ?_)
  · rw [if_neg hc] at h
    refine lv_aload_n hx hb dX12_undo_14 rfl (lv_at hl 0 rfl) ?_
    refine lv_dup hx hb dX12_undo_15 rfl ?_
    refine gI hC hw fl_X12_239 ok171 (by decide) dX12_undo_16 ?_
    refine lv_iconst (v := (1 : Int32)) hx hb dX12_undo_19 (by decide) ?_
    refine lv_isub hx hb dX12_undo_20 ?_
    refine pI hC hw fl_X12_239 fp_12_28 ok171 dX12_undo_21 (fun H locs hw => ?_)
    refine lv_aload_n hx hb dX12_undo_24 rfl (lv_at hl 0 rfl) ?_
    refine gR (t := 181) hC hw fl_X12_42 ok171 (by decide) ot171_26 dX12_undo_25 ?_
    refine lv_aload_n hx hb dX12_undo_28 rfl (lv_at hl 0 rfl) ?_
    refine gI hC hw fl_X12_242 ok171 (by decide) dX12_undo_29 ?_
    refine lv_aload_n hx hb dX12_undo_32 rfl (lv_at hl 0 rfl) ?_
    refine gR (t := 172) hC hw fl_X12_9 ok171 (by decide) ot171_0 dX12_undo_33 ?_
    obtain ⟨r36, hr36, h⟩ := bnd h
    refine cS (As := [.ref (g.2.2 181), .int ((si (si μ 171 5 (0 : Int32)) 171 28 (((si μ 171 5 (0 : Int32)).1 171 28) - (1 : Int32))).1 171 29), .ref (g.2.2 172)]) (rest := []) (st1 := []) hC hw (c_X12_puts l g n 181 ((si (si μ 171 5 (0 : Int32)) 171 28 (((si μ 171 5 (0 : Int32)).1 171 28) - (1 : Int32))).1 171 29) 172 (si (si μ 171 5 (0 : Int32)) 171 28 (((si μ 171 5 (0 : Int32)).1 171 28) - (1 : Int32))) r36 hr36) ml_X12_319 st_X12_puts rfl hl.1 ⟨Nat.le_of_ble_eq_true rfl, Nat.le_of_ble_eq_true rfl⟩ (Nat.le_of_ble_eq_true rfl) ⟨Nat.zero_le _, Nat.zero_le _⟩ rfl dX12_undo_36 (fun H locs hw => ?_)
    refine lv_aload_n hx hb dX12_undo_39 rfl (lv_at hl 0 rfl) ?_
    refine gR (t := 182) hC hw fl_X12_45 ok171 (by decide) ot171_27 dX12_undo_40 ?_
    refine lv_aload_n hx hb dX12_undo_43 rfl (lv_at hl 0 rfl) ?_
    refine gI hC hw fl_X12_242 ok171 (by decide) dX12_undo_44 ?_
    refine lv_aload_n hx hb dX12_undo_47 rfl (lv_at hl 0 rfl) ?_
    refine gR (t := 180) hC hw fl_X12_39 ok171 (by decide) ot171_25 dX12_undo_48 ?_
    refine lv_aload_n hx hb dX12_undo_51 rfl (lv_at hl 0 rfl) ?_
    refine gI hC hw fl_X12_239 ok171 (by decide) dX12_undo_52 ?_
    obtain ⟨hi55, h⟩ := gd_some h
    refine lI (j := (r36.2.1 171 28).toNatClampNeg) hC hw ok180 on180 hi55 rfl dX12_undo_55 ?_
    obtain ⟨hi56, h⟩ := gd_some h
    refine sI (j := (r36.2.1 171 29).toNatClampNeg) hC hw ok182 on182 hi56 rfl dX12_undo_56 (fun H locs hw => ?_)
    refine lv_aload_n hx hb dX12_undo_57 rfl (lv_at hl 0 rfl) ?_
    refine lv_dup hx hb dX12_undo_58 rfl ?_
    refine gI hC hw fl_X12_242 ok171 (by decide) dX12_undo_59 ?_
    refine lv_iconst (v := (1 : Int32)) hx hb dX12_undo_62 (by decide) ?_
    refine lv_iadd hx hb dX12_undo_63 ?_
    refine pI hC hw fl_X12_242 fp_12_29 ok171 dX12_undo_64 (fun H locs hw => ?_)
    refine lv_aload_n hx hb dX12_undo_67 rfl (lv_at hl 0 rfl) ?_
    refine gR (t := 179) hC hw fl_X12_36 ok171 (by decide) ot171_24 dX12_undo_68 ?_
    refine lv_aload_n hx hb dX12_undo_71 rfl (lv_at hl 0 rfl) ?_
    refine gI hC hw fl_X12_239 ok171 (by decide) dX12_undo_72 ?_
    refine lv_aload_n hx hb dX12_undo_75 rfl (lv_at hl 0 rfl) ?_
    refine gR (t := 172) hC hw fl_X12_9 ok171 (by decide) ot171_0 dX12_undo_76 ?_
    obtain ⟨r79, hr79, h⟩ := bnd h
    refine cS (As := [.ref (g.2.2 179), .int ((si (si r36.2 182 (r36.2.1 171 29).toNatClampNeg (r36.2.1 180 (r36.2.1 171 28).toNatClampNeg)) 171 29 (((si r36.2 182 (r36.2.1 171 29).toNatClampNeg (r36.2.1 180 (r36.2.1 171 28).toNatClampNeg)).1 171 29) + (1 : Int32))).1 171 28), .ref (g.2.2 172)]) (rest := []) (st1 := []) hC hw (c_X12_gets l g n 179 ((si (si r36.2 182 (r36.2.1 171 29).toNatClampNeg (r36.2.1 180 (r36.2.1 171 28).toNatClampNeg)) 171 29 (((si r36.2 182 (r36.2.1 171 29).toNatClampNeg (r36.2.1 180 (r36.2.1 171 28).toNatClampNeg)).1 171 29) + (1 : Int32))).1 171 28) 172 (si (si r36.2 182 (r36.2.1 171 29).toNatClampNeg (r36.2.1 180 (r36.2.1 171 28).toNatClampNeg)) 171 29 (((si r36.2 182 (r36.2.1 171 29).toNatClampNeg (r36.2.1 180 (r36.2.1 171 28).toNatClampNeg)).1 171 29) + (1 : Int32))) r79 hr79) ml_X12_332 st_X12_gets rfl hl.1 ⟨Nat.le_of_ble_eq_true rfl, Nat.le_of_ble_eq_true rfl⟩ (Nat.le_of_ble_eq_true rfl) ⟨Nat.zero_le _, Nat.zero_le _⟩ rfl dX12_undo_79 (fun H locs hw => ?_)
    refine lv_iconst (v := (1 : Int32)) hx hb dX12_undo_82 (by decide) ?_
    exact rZ hC hw hr hlocks (Or.inr rfl) (by rw [← Option.some.inj h]) (by rw [← Option.some.inj h]) dX12_undo_83
  · rw [if_pos hc] at h
    refine lv_iconst (v := (0 : Int32)) hx hb dX12_undo_12 (by decide) ?_
    exact rZ hC hw hr hlocks (Or.inl rfl) (by rw [← Option.some.inj h]) (by rw [← Option.some.inj h]) dX12_undo_13
set_option maxRecDepth 100000 in
set_option maxHeartbeats 4000000 in
theorem c_X12_redo (l : Launch) (g : Gw) (n : Nat) (μ : Mu) (r : Int32 × Mu) (h : X12_redo n  μ = some r) : Ct l g yX12_redo cX12_redo 1 (some .boolean) 2 [.ref (g.2.2 171)] μ (some (.int r.1)) r.2 := by
  rw [X12_redo] at h
  refine Ct.of (by decide) (Nat.le_of_ble_eq_true rfl) ?_
  intro p e s m args below meth c ls hC hw hr hlocks hl
  have hx := hC.1
  have hb := hC.2.1
  have hl : lv_has ls 1 [(0, .ref (g.2.2 171))] := hl
  refine lv_aload_n hx hb dX12_redo_0 rfl (lv_at hl 0 rfl) ?_
  refine lv_iconst (v := (0 : Int32)) hx hb dX12_redo_1 (by decide) ?_
  refine pI hC hw fl_X12_107 fp_12_5 ok171 dX12_redo_2 (fun H locs hw => ?_)
  refine lv_aload_n hx hb dX12_redo_5 rfl (lv_at hl 0 rfl) ?_
  refine gI hC hw fl_X12_242 ok171 (by decide) dX12_redo_6 ?_
  refine lv_if_ne (tgt := 14) hx hb dX12_redo_9 (by decide) (fun hc => ?_) (fun hc => ?_)
  · rw [if_neg hc] at h
    refine lv_aload_n hx hb dX12_redo_14 rfl (lv_at hl 0 rfl) ?_
    refine lv_dup hx hb dX12_redo_15 rfl ?_
    refine gI hC hw fl_X12_242 ok171 (by decide) dX12_redo_16 ?_
    refine lv_iconst (v := (1 : Int32)) hx hb dX12_redo_19 (by decide) ?_
    refine lv_isub hx hb dX12_redo_20 ?_
    refine pI hC hw fl_X12_242 fp_12_29 ok171 dX12_redo_21 (fun H locs hw => ?_)
    refine lv_aload_n hx hb dX12_redo_24 rfl (lv_at hl 0 rfl) ?_
    refine lv_aload_n hx hb dX12_redo_25 rfl (lv_at hl 0 rfl) ?_
    refine gR (t := 182) hC hw fl_X12_45 ok171 (by decide) ot171_27 dX12_redo_26 ?_
    refine lv_aload_n hx hb dX12_redo_29 rfl (lv_at hl 0 rfl) ?_
    refine gI hC hw fl_X12_242 ok171 (by decide) dX12_redo_30 ?_
    obtain ⟨hi33, h⟩ := gd_some h
    refine lI (j := ((si (si μ 171 5 (0 : Int32)) 171 29 (((si μ 171 5 (0 : Int32)).1 171 29) - (1 : Int32))).1 171 29).toNatClampNeg) hC hw ok182 on182 hi33 rfl dX12_redo_33 ?_
    obtain ⟨r34, hr34, h⟩ := bnd h
    refine cV (b := 171) (As := [.int ((si (si μ 171 5 (0 : Int32)) 171 29 (((si μ 171 5 (0 : Int32)).1 171 29) - (1 : Int32))).1 182 ((si (si μ 171 5 (0 : Int32)) 171 29 (((si μ 171 5 (0 : Int32)).1 171 29) - (1 : Int32))).1 171 29).toNatClampNeg)]) (rest := []) (st1 := []) hC hw (c_X12_keeps l g n ((si (si μ 171 5 (0 : Int32)) 171 29 (((si μ 171 5 (0 : Int32)).1 171 29) - (1 : Int32))).1 182 ((si (si μ 171 5 (0 : Int32)) 171 29 (((si μ 171 5 (0 : Int32)).1 171 29) - (1 : Int32))).1 171 29).toNatClampNeg) (si (si μ 171 5 (0 : Int32)) 171 29 (((si μ 171 5 (0 : Int32)).1 171 29) - (1 : Int32))) r34 hr34) ml_X12_323 im_X12_keeps se_X12_keeps ok171 (CN := RX12) (T := TX12) (NF := 54) rfl rfl (by decide) rfl hl.1 ⟨Nat.le_of_ble_eq_true rfl, Nat.le_of_ble_eq_true rfl⟩ (Nat.le_of_ble_eq_true rfl) ⟨Nat.zero_le _, Nat.zero_le _⟩ rfl dX12_redo_34 (fun H locs hw => ?_)
    refine lv_aload_n hx hb dX12_redo_37 rfl (lv_at hl 0 rfl) ?_
    refine gR (t := 181) hC hw fl_X12_42 ok171 (by decide) ot171_26 dX12_redo_38 ?_
    refine lv_aload_n hx hb dX12_redo_41 rfl (lv_at hl 0 rfl) ?_
    refine gI hC hw fl_X12_242 ok171 (by decide) dX12_redo_42 ?_
    refine lv_aload_n hx hb dX12_redo_45 rfl (lv_at hl 0 rfl) ?_
    refine gR (t := 172) hC hw fl_X12_9 ok171 (by decide) ot171_0 dX12_redo_46 ?_
    obtain ⟨r49, hr49, h⟩ := bnd h
    refine cS (As := [.ref (g.2.2 181), .int (r34.2.1 171 29), .ref (g.2.2 172)]) (rest := []) (st1 := []) hC hw (c_X12_gets l g n 181 (r34.2.1 171 29) 172 r34.2 r49 hr49) ml_X12_332 st_X12_gets rfl hl.1 ⟨Nat.le_of_ble_eq_true rfl, Nat.le_of_ble_eq_true rfl⟩ (Nat.le_of_ble_eq_true rfl) ⟨Nat.zero_le _, Nat.zero_le _⟩ rfl dX12_redo_49 (fun H locs hw => ?_)
    refine lv_iconst (v := (1 : Int32)) hx hb dX12_redo_52 (by decide) ?_
    exact rZ hC hw hr hlocks (Or.inr rfl) (by rw [← Option.some.inj h]) (by rw [← Option.some.inj h]) dX12_redo_53
  · rw [if_pos hc] at h
    refine lv_iconst (v := (0 : Int32)) hx hb dX12_redo_12 (by decide) ?_
    exact rZ hC hw hr hlocks (Or.inl rfl) (by rw [← Option.some.inj h]) (by rw [← Option.some.inj h]) dX12_redo_13
set_option maxRecDepth 100000 in
set_option maxHeartbeats 4000000 in
theorem c_X12_sees (l : Launch) (g : Gw) (n : Nat) (v1 : Int32) (μ : Mu) (r : Unit × Mu) (h : X12_sees n v1 μ = some r) : Ct l g yX12_sees cX12_sees 4 none 1 [.ref (g.2.2 171), .int v1] μ none r.2 := by
  rw [X12_sees] at h
  refine Ct.of (by decide) (Nat.le_of_ble_eq_true rfl) ?_
  intro p e s m args below meth c ls hC hw hr hlocks hl
  have hx := hC.1
  have hb := hC.2.1
  have hl : lv_has ls 4 [(0, .ref (g.2.2 171)), (1, .int v1)] := hl
  have B7 : ∀ (k : Nat), ∀ (v2 : Int32) (μ : Mu) (H : Heap) (locs : List Loc) (ls : Array Slot), wd g μ s (Aw g s.heap.size) H locs → lv_has ls 4 [(0, .ref (g.2.2 171)), (1, .int v1), (2, .int v2)] → lpF (fun _ _ => none) (X12_sees_7b n v1) k v2 μ = some r → WQ p l e (rmD 1) s m args below meth c g none r.2 H locs (F0 m 7 ls []) := by
    intro k
    induction k with
    | zero =>
      intro v2 μ H locs ls hw hl h
      cases h
    | succ k ih7 =>
      rw [lpF_s]
      generalize lpF (fun _ _ => none) (X12_sees_7b n v1) k = k7 at ih7 ⊢
      intro v2 μ H locs ls hw hl h
      have B68 : ∀ (v2 : Int32) (μ : Mu) (H : Heap) (locs : List Loc) (ls : Array Slot), wd g μ s (Aw g s.heap.size) H locs → lv_has ls 4 [(0, .ref (g.2.2 171)), (1, .int v1), (2, .int v2)] → X12_sees_68 n v1 k7 v2 μ = some r → WQ p l e (rmD 1) s m args below meth c g none r.2 H locs (F0 m 68 ls []) := by
        intro v2 μ H locs ls hw hl h
        rw [X12_sees_68] at h
        refine lv_iinc (v := (v2 + (1 : Int32))) (lv' := [(2, .int (v2 + (1 : Int32))), (0, .ref (g.2.2 171)), (1, .int v1)]) hx hb dX12_sees_68 hl (k := 2) rfl rfl (by decide) rfl (fun ls hl => ?_)
        refine lv_goto (tgt := 7) hx hb dX12_sees_71 (by decide) ?_
        exact ih7 (v2 + (1 : Int32)) μ _ _ _ hw (lv_sub hl [1, 2, 0] rfl) h
      have B30 : ∀ (v2 : Int32) (s0 : Int32) (s1 : Int32) (μ : Mu) (H : Heap) (locs : List Loc) (ls : Array Slot), wd g μ s (Aw g s.heap.size) H locs → lv_has ls 4 [(0, .ref (g.2.2 171)), (1, .int v1), (2, .int v2)] → X12_sees_30 n v1 k7 v2 s0 s1 μ = some r → WQ p l e (rmD 1) s m args below meth c g none r.2 H locs (F0 m 30 ls [.int s1, .int s0]) := by
        intro v2 s0 s1 μ H locs ls hw hl h
        rw [X12_sees_30] at h
        refine lv_iadd hx hb dX12_sees_30 ?_
        refine lv_aload_n hx hb dX12_sees_31 rfl (lv_at hl 0 rfl) ?_
        obtain ⟨r32, hr32, h⟩ := bnd h
        refine cV (b := 171) (As := []) (rest := [.int (s0 + s1)]) (st1 := [.int r32.1, .int (s0 + s1)]) hC hw (c_X12_pitMany l g n μ r32 hr32) ml_X12_245 im_X12_pitMany se_X12_pitMany ok171 (CN := RX12) (T := TX12) (NF := 54) rfl rfl (by decide) rfl hl.1 ⟨Nat.le_of_ble_eq_true rfl, Nat.le_of_ble_eq_true rfl⟩ (Nat.le_of_ble_eq_true rfl) ⟨Nat.zero_le _, Nat.zero_le _⟩ rfl dX12_sees_32 (fun H locs hw => ?_)
        obtain ⟨hd35, h⟩ := dv_some h
        refine lv_irem hx hb dX12_sees_35 hd35 ?_
        refine lv_istore_n (lv' := [(3, .int ((s0 + s1) - (s0 + s1) / r32.1 * r32.1)), (0, .ref (g.2.2 171)), (1, .int v1), (2, .int v2)]) hx hb dX12_sees_36 rfl hl (by decide) rfl (fun ls hl => ?_)
        refine lv_aload_n hx hb dX12_sees_37 rfl (lv_at hl 1 rfl) ?_
        refine lv_iload_n hx hb dX12_sees_38 rfl (lv_at hl 0 rfl) ?_
        obtain ⟨r39, hr39, h⟩ := bnd h
        refine cV (b := 171) (As := [.int ((s0 + s1) - (s0 + s1) / r32.1 * r32.1)]) (rest := []) (st1 := [.int r39.1]) hC hw (c_X12_isLacking l g n ((s0 + s1) - (s0 + s1) / r32.1 * r32.1) r32.2 r39 hr39) ml_X12_251 im_X12_isLacking se_X12_isLacking ok171 (CN := RX12) (T := TX12) (NF := 54) rfl rfl (by decide) rfl hl.1 ⟨Nat.le_of_ble_eq_true rfl, Nat.le_of_ble_eq_true rfl⟩ (Nat.le_of_ble_eq_true rfl) ⟨Nat.zero_le _, Nat.zero_le _⟩ rfl dX12_sees_39 (fun H locs hw => ?_)
        refine lv_if_eq (tgt := 48) hx hb dX12_sees_42 (by decide) (fun hc => ?_) (fun hc => ?_)
        · rw [if_pos hc] at h
          refine lv_aload_n hx hb dX12_sees_48 rfl (lv_at hl 1 rfl) ?_
          refine gR (t := 183) hC hw fl_X12_48 ok171 (by decide) ot171_30 dX12_sees_49 ?_
          refine lv_aload_n hx hb dX12_sees_52 rfl (lv_at hl 1 rfl) ?_
          refine gI hC hw fl_X12_347 ok171 (by decide) dX12_sees_53 ?_
          refine lv_iload_n hx hb dX12_sees_56 rfl (lv_at hl 0 rfl) ?_
          obtain ⟨hi57, h⟩ := gd_some h
          refine sI (j := (r39.2.1 171 31).toNatClampNeg) hC hw ok183 on183 hi57 rfl dX12_sees_57 (fun H locs hw => ?_)
          refine lv_aload_n hx hb dX12_sees_58 rfl (lv_at hl 1 rfl) ?_
          refine lv_dup hx hb dX12_sees_59 rfl ?_
          refine gI hC hw fl_X12_347 ok171 (by decide) dX12_sees_60 ?_
          refine lv_iconst (v := (1 : Int32)) hx hb dX12_sees_63 (by decide) ?_
          refine lv_iadd hx hb dX12_sees_64 ?_
          refine pI hC hw fl_X12_347 fp_12_31 ok171 dX12_sees_65 (fun H locs hw => ?_)
          exact B68 v2 (si (si r39.2 183 (r39.2.1 171 31).toNatClampNeg ((s0 + s1) - (s0 + s1) / r32.1 * r32.1)) 171 31 (((si r39.2 183 (r39.2.1 171 31).toNatClampNeg ((s0 + s1) - (s0 + s1) / r32.1 * r32.1)).1 171 31) + (1 : Int32))) _ _ _ hw (lv_sub hl [1, 2, 3] rfl) h
        · rw [if_neg hc] at h
          refine lv_goto (tgt := 68) hx hb dX12_sees_45 (by decide) ?_
          exact B68 v2 r39.2 _ _ _ hw (lv_sub hl [1, 2, 3] rfl) h
      rw [X12_sees_7b] at h
      refine lv_iload_n hx hb dX12_sees_7 rfl (lv_at hl 2 rfl) ?_
      refine lv_aload_n hx hb dX12_sees_8 rfl (lv_at hl 0 rfl) ?_
      obtain ⟨r9, hr9, h⟩ := bnd h
      refine cV (b := 171) (As := []) (rest := [.int v2]) (st1 := [.int r9.1, .int v2]) hC hw (c_X12_pitMany l g n μ r9 hr9) ml_X12_245 im_X12_pitMany se_X12_pitMany ok171 (CN := RX12) (T := TX12) (NF := 54) rfl rfl (by decide) rfl hl.1 ⟨Nat.le_of_ble_eq_true rfl, Nat.le_of_ble_eq_true rfl⟩ (Nat.le_of_ble_eq_true rfl) ⟨Nat.zero_le _, Nat.zero_le _⟩ rfl dX12_sees_9 (fun H locs hw => ?_)
      refine lv_icmp_ge (tgt := 74) hx hb dX12_sees_12 (by decide) (fun hc => ?_) (fun hc => ?_)
      · rw [if_pos hc] at h
        exact rV hC hw hr hlocks rfl (by rw [← Option.some.inj h]) dX12_sees_74
      · rw [if_neg hc] at h
        refine lv_iload_n hx hb dX12_sees_15 rfl (lv_at hl 2 rfl) ?_
        refine lv_iload_n hx hb dX12_sees_16 rfl (lv_at hl 1 rfl) ?_
        refine lv_if_ne (tgt := 24) hx hb dX12_sees_17 (by decide) (fun hc => ?_) (fun hc => ?_)
        · rw [if_neg hc] at h
          refine lv_aload_n hx hb dX12_sees_24 rfl (lv_at hl 0 rfl) ?_
          refine gR (t := 172) hC hw fl_X12_9 ok171 (by decide) ot171_0 dX12_sees_25 ?_
          refine lv_iconst (v := (1 : Int32)) hx hb dX12_sees_28 (by decide) ?_
          refine lI (j := 1) hC hw ok172 on172 (vin (by decide)) (by decide) dX12_sees_29 ?_
          exact B30 v2 v2 (r9.2.1 172 1) r9.2 _ _ _ hw (lv_sub hl [0, 1, 2] rfl) h
        · rw [if_pos hc] at h
          refine lv_iconst (v := (0 : Int32)) hx hb dX12_sees_20 (by decide) ?_
          refine lv_goto (tgt := 30) hx hb dX12_sees_21 (by decide) ?_
          exact B30 v2 v2 (0 : Int32) r9.2 _ _ _ hw (lv_sub hl [0, 1, 2] rfl) h
  refine lv_aload_n hx hb dX12_sees_0 rfl (lv_at hl 0 rfl) ?_
  refine lv_iconst (v := (0 : Int32)) hx hb dX12_sees_1 (by decide) ?_
  refine pI hC hw fl_X12_347 fp_12_31 ok171 dX12_sees_2 (fun H locs hw => ?_)
  refine lv_iconst (v := (0 : Int32)) hx hb dX12_sees_5 (by decide) ?_
  refine lv_istore_n (lv' := [(2, .int (0 : Int32)), (0, .ref (g.2.2 171)), (1, .int v1)]) hx hb dX12_sees_6 rfl hl (by decide) rfl (fun ls hl => ?_)
  exact B7 n (0 : Int32) (si μ 171 31 (0 : Int32)) _ _ _ hw (lv_sub hl [1, 2, 0] rfl) h
set_option maxRecDepth 100000 in
set_option maxHeartbeats 4000000 in
theorem c_X12_ways (l : Launch) (g : Gw) (n : Nat) (v0 : Int32) (v1 : Int32) (μ : Mu) (r : Int64 × Mu) (h : X12_ways n v0 v1 μ = some r) : Ct l g yX12_ways cX12_ways 5 (some .long) 0 [.int v0, .int v1] μ (some (.long r.1)) r.2 := by
  rw [X12_ways] at h
  refine Ct.of (by decide) (Nat.le_of_ble_eq_true rfl) ?_
  intro p e s m args below meth c ls hC hw hr hlocks hl
  have hx := hC.1
  have hb := hC.2.1
  have hl : lv_has ls 5 [(0, .int v0), (1, .int v1)] := hl
  have B13 : ∀ (s0 : Int64) (μ : Mu) (H : Heap) (locs : List Loc) (ls : Array Slot), wd g μ s (Aw g s.heap.size) H locs → lv_has ls 5 [] → X12_ways_13 n v0 v1 s0 μ = some r → WQ p l e (rmD 0) s m args below meth c g (some (.long r.1)) r.2 H locs (F0 m 13 ls [.long s0]) := by
    intro s0 μ H locs ls hw hl h
    rw [X12_ways_13] at h
    exact rL hC hw hr hlocks (by rw [← Option.some.inj h]) (by rw [← Option.some.inj h]) dX12_ways_13
  have B19 : ∀ (k : Nat), ∀ (v2 : Int64) (v4 : Int32) (μ : Mu) (H : Heap) (locs : List Loc) (ls : Array Slot), wd g μ s (Aw g s.heap.size) H locs → lv_has ls 5 [(0, .int v0), (1, .int v1), (2, .long v2), (4, .int v4)] → lpF (fun _ _ _ => none) (X12_ways_19b n v0 v1) k v2 v4 μ = some r → WQ p l e (rmD 0) s m args below meth c g (some (.long r.1)) r.2 H locs (F0 m 19 ls []) := by
    intro k
    induction k with
    | zero =>
      intro v2 v4 μ H locs ls hw hl h
      cases h
    | succ k ih19 =>
      rw [lpF_s]
      generalize lpF (fun _ _ _ => none) (X12_ways_19b n v0 v1) k = k19 at ih19 ⊢
      intro v2 v4 μ H locs ls hw hl h
      rw [X12_ways_19b] at h
      refine lv_iload hx hb dX12_ways_19 (lv_at hl 3 rfl) ?_
      refine lv_iload_n hx hb dX12_ways_21 rfl (lv_at hl 1 rfl) ?_
      refine lv_icmp_ge (tgt := 43) hx hb dX12_ways_22 (by decide) (fun hc => ?_) (fun hc => ?_)
      · rw [if_pos hc] at h
        refine lv_lload_n hx hb dX12_ways_43 rfl (lv_at hl 2 rfl) ?_
        exact rL hC hw hr hlocks (by rw [← Option.some.inj h]) (by rw [← Option.some.inj h]) dX12_ways_44
      · rw [if_neg hc] at h
        refine lv_lload_n hx hb dX12_ways_25 rfl (lv_at hl 2 rfl) ?_
        refine lv_iload_n hx hb dX12_ways_26 rfl (lv_at hl 0 rfl) ?_
        refine lv_iload hx hb dX12_ways_27 (lv_at hl 3 rfl) ?_
        refine lv_iadd hx hb dX12_ways_29 ?_
        refine lv_i2l hx hb dX12_ways_30 rfl ?_
        refine lv_lmul hx hb dX12_ways_31 ?_
        refine lv_iload hx hb dX12_ways_32 (lv_at hl 3 rfl) ?_
        refine lv_i2l hx hb dX12_ways_34 rfl ?_
        obtain ⟨hd35, h⟩ := dvl_some h
        refine lv_ldiv hx hb dX12_ways_35 hd35 ?_
        refine lv_lstore_n (lv' := [(2, .long ((v2 * ((v0 + v4).toInt64)) / (v4.toInt64))), (0, .int v0), (1, .int v1), (4, .int v4)]) hx hb dX12_ways_36 rfl hl (by decide) rfl (fun ls hl => ?_)
        refine lv_iinc (v := (v4 + (1 : Int32))) (lv' := [(4, .int (v4 + (1 : Int32))), (2, .long ((v2 * ((v0 + v4).toInt64)) / (v4.toInt64))), (0, .int v0), (1, .int v1)]) hx hb dX12_ways_37 hl (k := 3) rfl rfl (by decide) rfl (fun ls hl => ?_)
        refine lv_goto (tgt := 19) hx hb dX12_ways_40 (by decide) ?_
        exact ih19 ((v2 * ((v0 + v4).toInt64)) / (v4.toInt64)) (v4 + (1 : Int32)) μ _ _ _ hw (lv_sub hl [2, 3, 1, 0] rfl) h
  refine lv_iload_n hx hb dX12_ways_0 rfl (lv_at hl 1 rfl) ?_
  refine lv_if_ne (tgt := 14) hx hb dX12_ways_1 (by decide) (fun hc => ?_) (fun hc => ?_)
  · rw [if_neg hc] at h
    refine lv_lconst (v := (1 : Int64)) hx hb dX12_ways_14 (by decide) ?_
    refine lv_lstore_n (lv' := [(2, .long (1 : Int64)), (0, .int v0), (1, .int v1)]) hx hb dX12_ways_15 rfl hl (by decide) rfl (fun ls hl => ?_)
    refine lv_iconst (v := (1 : Int32)) hx hb dX12_ways_16 (by decide) ?_
    refine lv_istore (lv' := [(4, .int (1 : Int32)), (2, .long (1 : Int64)), (0, .int v0), (1, .int v1)]) hx hb dX12_ways_17 hl (by decide) rfl (fun ls hl => ?_)
    exact B19 n (1 : Int64) (1 : Int32) μ _ _ _ hw (lv_sub hl [2, 3, 1, 0] rfl) h
  · rw [if_pos hc] at h
    refine lv_iload_n hx hb dX12_ways_4 rfl (lv_at hl 0 rfl) ?_
    refine lv_if_ne (tgt := 12) hx hb dX12_ways_5 (by decide) (fun hc => ?_) (fun hc => ?_)
    · rw [if_neg hc] at h
      refine lv_lconst (v := (0 : Int64)) hx hb dX12_ways_12 (by decide) ?_
      exact B13 (0 : Int64) μ _ _ _ hw (lv_sub hl [] rfl) h
    · rw [if_pos hc] at h
      refine lv_lconst (v := (1 : Int64)) hx hb dX12_ways_8 (by decide) ?_
      refine lv_goto (tgt := 13) hx hb dX12_ways_9 (by decide) ?_
      exact B13 (1 : Int64) μ _ _ _ hw (lv_sub hl [] rfl) h
set_option maxRecDepth 100000 in
set_option maxHeartbeats 4000000 in
theorem c_X12_positionsOf (l : Launch) (g : Gw) (n : Nat) (v1 : Int32) (μ : Mu) (r : Int64 × Mu) (h : X12_positionsOf n v1 μ = some r) : Ct l g yX12_positionsOf cX12_positionsOf 2 (some .long) 2 [.ref (g.2.2 171), .int v1] μ (some (.long r.1)) r.2 := by
  rw [X12_positionsOf] at h
  refine Ct.of (by decide) (Nat.le_of_ble_eq_true rfl) ?_
  intro p e s m args below meth c ls hC hw hr hlocks hl
  have hx := hC.1
  have hb := hC.2.1
  have hl : lv_has ls 2 [(0, .ref (g.2.2 171)), (1, .int v1)] := hl
  refine lv_aload_n hx hb dX12_positionsOf_0 rfl (lv_at hl 0 rfl) ?_
  refine lv_iconst (v := (0 : Int32)) hx hb dX12_positionsOf_1 (by decide) ?_
  obtain ⟨r2, hr2, h⟩ := bnd h
  refine cV (b := 171) (As := [.int (0 : Int32)]) (rest := []) (st1 := []) hC hw (c_X12_sees l g n (0 : Int32) μ r2 hr2) ml_X12_350 im_X12_sees se_X12_sees ok171 (CN := RX12) (T := TX12) (NF := 54) rfl rfl (by decide) rfl hl.1 ⟨Nat.le_of_ble_eq_true rfl, Nat.le_of_ble_eq_true rfl⟩ (Nat.le_of_ble_eq_true rfl) ⟨Nat.zero_le _, Nat.zero_le _⟩ rfl dX12_positionsOf_2 (fun H locs hw => ?_)
  refine lv_iload_n hx hb dX12_positionsOf_5 rfl (lv_at hl 1 rfl) ?_
  refine lv_aload_n hx hb dX12_positionsOf_6 rfl (lv_at hl 0 rfl) ?_
  refine gI hC hw fl_X12_347 ok171 (by decide) dX12_positionsOf_7 ?_
  obtain ⟨r10, hr10, h⟩ := bnd h
  refine cS (As := [.int v1, .int (r2.2.1 171 31)]) (rest := []) (st1 := [.long r10.1]) hC hw (c_X12_ways l g n v1 (r2.2.1 171 31) r2.2 r10 hr10) ml_X12_353 st_X12_ways rfl hl.1 ⟨Nat.le_of_ble_eq_true rfl, Nat.le_of_ble_eq_true rfl⟩ (Nat.le_of_ble_eq_true rfl) ⟨Nat.zero_le _, Nat.zero_le _⟩ rfl dX12_positionsOf_10 (fun H locs hw => ?_)
  exact rL hC hw hr hlocks (by rw [← Option.some.inj h]) (by rw [← Option.some.inj h]) dX12_positionsOf_13
set_option maxRecDepth 100000 in
set_option maxHeartbeats 4000000 in
theorem c_X12_numberOf (l : Launch) (g : Gw) (n : Nat) (v1 : Int32) (μ : Mu) (r : Int32 × Mu) (h : X12_numberOf n v1 μ = some r) : Ct l g yX12_numberOf cX12_numberOf 7 (some .int) 2 [.ref (g.2.2 171), .int v1] μ (some (.int r.1)) r.2 := by
  rw [X12_numberOf] at h
  refine Ct.of (by decide) (Nat.le_of_ble_eq_true rfl) ?_
  intro p e s m args below meth c ls hC hw hr hlocks hl
  have hx := hC.1
  have hb := hC.2.1
  have hl : lv_has ls 7 [(0, .ref (g.2.2 171)), (1, .int v1)] := hl
  have B42 : ∀ (k : Nat), ∀ (v2 : Int32) (v3 : Int64) (v5 : Int32) (μ : Mu) (H : Heap) (locs : List Loc) (ls : Array Slot), wd g μ s (Aw g s.heap.size) H locs → lv_has ls 7 [(0, .ref (g.2.2 171)), (2, .int v2), (3, .long v3), (5, .int v5)] → lpF (fun _ _ _ _ => none) (X12_numberOf_42b n v1) k v2 v3 v5 μ = some r → WQ p l e (rmD 2) s m args below meth c g (some (.int r.1)) r.2 H locs (F0 m 42 ls []) := by
    intro k
    induction k with
    | zero =>
      intro v2 v3 v5 μ H locs ls hw hl h
      cases h
    | succ k ih42 =>
      rw [lpF_s]
      generalize lpF (fun _ _ _ _ => none) (X12_numberOf_42b n v1) k = k42 at ih42 ⊢
      intro v2 v3 v5 μ H locs ls hw hl h
      have B54 : ∀ (k : Nat), ∀ (v2 : Int32) (v3 : Int64) (v5 : Int32) (v6 : Int32) (μ : Mu) (H : Heap) (locs : List Loc) (ls : Array Slot), wd g μ s (Aw g s.heap.size) H locs → lv_has ls 7 [(0, .ref (g.2.2 171)), (2, .int v2), (3, .long v3), (5, .int v5), (6, .int v6)] → lpF (fun _ _ _ _ _ => none) (X12_numberOf_54b n v1 k42) k v2 v3 v5 v6 μ = some r → WQ p l e (rmD 2) s m args below meth c g (some (.int r.1)) r.2 H locs (F0 m 54 ls []) := by
        intro k
        induction k with
        | zero =>
          intro v2 v3 v5 v6 μ H locs ls hw hl h
          cases h
        | succ k ih54 =>
          rw [lpF_s]
          generalize lpF (fun _ _ _ _ _ => none) (X12_numberOf_54b n v1 k42) k = k54 at ih54 ⊢
          intro v2 v3 v5 v6 μ H locs ls hw hl h
          rw [X12_numberOf_54b] at h
          refine lv_iload hx hb dX12_numberOf_54 (lv_at hl 4 rfl) ?_
          refine lv_aload_n hx hb dX12_numberOf_56 rfl (lv_at hl 0 rfl) ?_
          refine gR (t := 178) hC hw fl_X12_33 ok171 (by decide) ot171_17 dX12_numberOf_57 ?_
          refine lv_aload_n hx hb dX12_numberOf_60 rfl (lv_at hl 0 rfl) ?_
          refine gR (t := 183) hC hw fl_X12_48 ok171 (by decide) ot171_30 dX12_numberOf_61 ?_
          refine lv_iload hx hb dX12_numberOf_64 (lv_at hl 3 rfl) ?_
          obtain ⟨hi66, h⟩ := gd_some h
          refine lI (j := v5.toNatClampNeg) hC hw ok183 on183 hi66 rfl dX12_numberOf_66 ?_
          obtain ⟨hi67, h⟩ := gd_some h
          refine lI (j := (μ.1 183 v5.toNatClampNeg).toNatClampNeg) hC hw ok178 on178 hi67 rfl dX12_numberOf_67 ?_
          refine lv_icmp_le (tgt := 96) hx hb dX12_numberOf_68 (by decide) (fun hc => ?_) (fun hc => ?_)
          · rw [if_pos hc] at h
            refine lv_iload_n hx hb dX12_numberOf_96 rfl (lv_at hl 1 rfl) ?_
            refine lv_aload_n hx hb dX12_numberOf_97 rfl (lv_at hl 0 rfl) ?_
            refine gR (t := 178) hC hw fl_X12_33 ok171 (by decide) ot171_17 dX12_numberOf_98 ?_
            refine lv_aload_n hx hb dX12_numberOf_101 rfl (lv_at hl 0 rfl) ?_
            refine gR (t := 183) hC hw fl_X12_48 ok171 (by decide) ot171_30 dX12_numberOf_102 ?_
            refine lv_iload hx hb dX12_numberOf_105 (lv_at hl 3 rfl) ?_
            refine lI (j := v5.toNatClampNeg) hC hw ok183 on183 hi66 rfl dX12_numberOf_107 ?_
            refine lI (j := (μ.1 183 v5.toNatClampNeg).toNatClampNeg) hC hw ok178 on178 hi67 rfl dX12_numberOf_108 ?_
            refine lv_isub hx hb dX12_numberOf_109 ?_
            refine lv_istore_n (lv' := [(2, .int (v2 - (μ.1 178 (μ.1 183 v5.toNatClampNeg).toNatClampNeg))), (0, .ref (g.2.2 171)), (3, .long v3), (5, .int v5), (6, .int v6)]) hx hb dX12_numberOf_110 rfl hl (by decide) rfl (fun ls hl => ?_)
            refine lv_iinc (v := (v5 + (1 : Int32))) (lv' := [(5, .int (v5 + (1 : Int32))), (2, .int (v2 - (μ.1 178 (μ.1 183 v5.toNatClampNeg).toNatClampNeg))), (0, .ref (g.2.2 171)), (3, .long v3), (6, .int v6)]) hx hb dX12_numberOf_111 hl (k := 3) rfl rfl (by decide) rfl (fun ls hl => ?_)
            refine lv_goto (tgt := 42) hx hb dX12_numberOf_114 (by decide) ?_
            exact ih42 (v2 - (μ.1 178 (μ.1 183 v5.toNatClampNeg).toNatClampNeg)) v3 (v5 + (1 : Int32)) μ _ _ _ hw (lv_sub hl [2, 1, 3, 0] rfl) h
          · rw [if_neg hc] at h
            refine lv_lload_n hx hb dX12_numberOf_71 rfl (lv_at hl 2 rfl) ?_
            refine lv_iload_n hx hb dX12_numberOf_72 rfl (lv_at hl 1 rfl) ?_
            refine lv_iload hx hb dX12_numberOf_73 (lv_at hl 4 rfl) ?_
            refine lv_isub hx hb dX12_numberOf_75 ?_
            refine lv_aload_n hx hb dX12_numberOf_76 rfl (lv_at hl 0 rfl) ?_
            refine gI hC hw fl_X12_347 ok171 (by decide) dX12_numberOf_77 ?_
            refine lv_iload hx hb dX12_numberOf_80 (lv_at hl 3 rfl) ?_
            refine lv_isub hx hb dX12_numberOf_82 ?_
            refine lv_iconst (v := (1 : Int32)) hx hb dX12_numberOf_83 (by decide) ?_
            refine lv_isub hx hb dX12_numberOf_84 ?_
            obtain ⟨r85, hr85, h⟩ := bnd h
            refine cS (As := [.int (v2 - v6), .int (((μ.1 171 31) - v5) - (1 : Int32))]) (rest := [.long v3]) (st1 := [.long r85.1, .long v3]) hC hw (c_X12_ways l g n (v2 - v6) (((μ.1 171 31) - v5) - (1 : Int32)) μ r85 hr85) ml_X12_353 st_X12_ways rfl hl.1 ⟨Nat.le_of_ble_eq_true rfl, Nat.le_of_ble_eq_true rfl⟩ (Nat.le_of_ble_eq_true rfl) ⟨Nat.zero_le _, Nat.zero_le _⟩ rfl dX12_numberOf_85 (fun H locs hw => ?_)
            refine lv_ladd hx hb dX12_numberOf_88 ?_
            refine lv_lstore_n (lv' := [(3, .long (v3 + r85.1)), (0, .ref (g.2.2 171)), (2, .int v2), (5, .int v5), (6, .int v6)]) hx hb dX12_numberOf_89 rfl hl (by decide) rfl (fun ls hl => ?_)
            refine lv_iinc (v := (v6 + ((-1) : Int32))) (lv' := [(6, .int (v6 + ((-1) : Int32))), (3, .long (v3 + r85.1)), (0, .ref (g.2.2 171)), (2, .int v2), (5, .int v5)]) hx hb dX12_numberOf_90 hl (k := 4) rfl rfl (by decide) rfl (fun ls hl => ?_)
            refine lv_goto (tgt := 54) hx hb dX12_numberOf_93 (by decide) ?_
            exact ih54 v2 (v3 + r85.1) v5 (v6 + ((-1) : Int32)) r85.2 _ _ _ hw (lv_sub hl [2, 3, 1, 4, 0] rfl) h
      rw [X12_numberOf_42b] at h
      refine lv_iload hx hb dX12_numberOf_42 (lv_at hl 3 rfl) ?_
      refine lv_aload_n hx hb dX12_numberOf_44 rfl (lv_at hl 0 rfl) ?_
      refine gI hC hw fl_X12_347 ok171 (by decide) dX12_numberOf_45 ?_
      refine lv_icmp_ge (tgt := 117) hx hb dX12_numberOf_48 (by decide) (fun hc => ?_) (fun hc => ?_)
      · rw [if_pos hc] at h
        refine lv_lload_n hx hb dX12_numberOf_117 rfl (lv_at hl 2 rfl) ?_
        refine lv_l2i hx hb dX12_numberOf_118 rfl ?_
        exact rI hC hw hr hlocks (by rw [← Option.some.inj h]) (by rw [← Option.some.inj h]) dX12_numberOf_119
      · rw [if_neg hc] at h
        refine lv_iload_n hx hb dX12_numberOf_51 rfl (lv_at hl 1 rfl) ?_
        refine lv_istore (lv' := [(6, .int v2), (0, .ref (g.2.2 171)), (2, .int v2), (3, .long v3), (5, .int v5)]) hx hb dX12_numberOf_52 hl (by decide) rfl (fun ls hl => ?_)
        exact B54 n v2 v3 v5 v2 μ _ _ _ hw (lv_sub hl [1, 2, 3, 4, 0] rfl) h
  have B9 : ∀ (k : Nat), ∀ (v2 : Int32) (v3 : Int32) (μ : Mu) (H : Heap) (locs : List Loc) (ls : Array Slot), wd g μ s (Aw g s.heap.size) H locs → lv_has ls 7 [(0, .ref (g.2.2 171)), (2, .int v2), (3, .int v3)] → lpF (fun _ _ _ => none) (X12_numberOf_9b n v1) k v2 v3 μ = some r → WQ p l e (rmD 2) s m args below meth c g (some (.int r.1)) r.2 H locs (F0 m 9 ls []) := by
    intro k
    induction k with
    | zero =>
      intro v2 v3 μ H locs ls hw hl h
      cases h
    | succ k ih9 =>
      rw [lpF_s]
      generalize lpF (fun _ _ _ => none) (X12_numberOf_9b n v1) k = k9 at ih9 ⊢
      intro v2 v3 μ H locs ls hw hl h
      rw [X12_numberOf_9b] at h
      refine lv_iload_n hx hb dX12_numberOf_9 rfl (lv_at hl 2 rfl) ?_
      refine lv_aload_n hx hb dX12_numberOf_10 rfl (lv_at hl 0 rfl) ?_
      refine gI hC hw fl_X12_347 ok171 (by decide) dX12_numberOf_11 ?_
      refine lv_icmp_ge (tgt := 37) hx hb dX12_numberOf_14 (by decide) (fun hc => ?_) (fun hc => ?_)
      · rw [if_pos hc] at h
        refine lv_lconst (v := (0 : Int64)) hx hb dX12_numberOf_37 (by decide) ?_
        refine lv_lstore_n (lv' := [(3, .long (0 : Int64)), (0, .ref (g.2.2 171)), (2, .int v2)]) hx hb dX12_numberOf_38 rfl hl (by decide) rfl (fun ls hl => ?_)
        refine lv_iconst (v := (0 : Int32)) hx hb dX12_numberOf_39 (by decide) ?_
        refine lv_istore (lv' := [(5, .int (0 : Int32)), (3, .long (0 : Int64)), (0, .ref (g.2.2 171)), (2, .int v2)]) hx hb dX12_numberOf_40 hl (by decide) rfl (fun ls hl => ?_)
        exact B42 n v2 (0 : Int64) (0 : Int32) μ _ _ _ hw (lv_sub hl [2, 3, 1, 0] rfl) h
      · rw [if_neg hc] at h
        refine lv_iload_n hx hb dX12_numberOf_17 rfl (lv_at hl 1 rfl) ?_
        refine lv_aload_n hx hb dX12_numberOf_18 rfl (lv_at hl 0 rfl) ?_
        refine gR (t := 178) hC hw fl_X12_33 ok171 (by decide) ot171_17 dX12_numberOf_19 ?_
        refine lv_aload_n hx hb dX12_numberOf_22 rfl (lv_at hl 0 rfl) ?_
        refine gR (t := 183) hC hw fl_X12_48 ok171 (by decide) ot171_30 dX12_numberOf_23 ?_
        refine lv_iload_n hx hb dX12_numberOf_26 rfl (lv_at hl 2 rfl) ?_
        obtain ⟨hi27, h⟩ := gd_some h
        refine lI (j := v3.toNatClampNeg) hC hw ok183 on183 hi27 rfl dX12_numberOf_27 ?_
        obtain ⟨hi28, h⟩ := gd_some h
        refine lI (j := (μ.1 183 v3.toNatClampNeg).toNatClampNeg) hC hw ok178 on178 hi28 rfl dX12_numberOf_28 ?_
        refine lv_iadd hx hb dX12_numberOf_29 ?_
        refine lv_istore_n (lv' := [(2, .int (v2 + (μ.1 178 (μ.1 183 v3.toNatClampNeg).toNatClampNeg))), (0, .ref (g.2.2 171)), (3, .int v3)]) hx hb dX12_numberOf_30 rfl hl (by decide) rfl (fun ls hl => ?_)
        refine lv_iinc (v := (v3 + (1 : Int32))) (lv' := [(3, .int (v3 + (1 : Int32))), (2, .int (v2 + (μ.1 178 (μ.1 183 v3.toNatClampNeg).toNatClampNeg))), (0, .ref (g.2.2 171))]) hx hb dX12_numberOf_31 hl (k := 2) rfl rfl (by decide) rfl (fun ls hl => ?_)
        refine lv_goto (tgt := 9) hx hb dX12_numberOf_34 (by decide) ?_
        exact ih9 (v2 + (μ.1 178 (μ.1 183 v3.toNatClampNeg).toNatClampNeg)) (v3 + (1 : Int32)) μ _ _ _ hw (lv_sub hl [2, 1, 0] rfl) h
  refine lv_aload_n hx hb dX12_numberOf_0 rfl (lv_at hl 0 rfl) ?_
  refine lv_iload_n hx hb dX12_numberOf_1 rfl (lv_at hl 1 rfl) ?_
  obtain ⟨r2, hr2, h⟩ := bnd h
  refine cV (b := 171) (As := [.int v1]) (rest := []) (st1 := []) hC hw (c_X12_sees l g n v1 μ r2 hr2) ml_X12_350 im_X12_sees se_X12_sees ok171 (CN := RX12) (T := TX12) (NF := 54) rfl rfl (by decide) rfl hl.1 ⟨Nat.le_of_ble_eq_true rfl, Nat.le_of_ble_eq_true rfl⟩ (Nat.le_of_ble_eq_true rfl) ⟨Nat.zero_le _, Nat.zero_le _⟩ rfl dX12_numberOf_2 (fun H locs hw => ?_)
  refine lv_iconst (v := (0 : Int32)) hx hb dX12_numberOf_5 (by decide) ?_
  refine lv_istore_n (lv' := [(2, .int (0 : Int32)), (0, .ref (g.2.2 171)), (1, .int v1)]) hx hb dX12_numberOf_6 rfl hl (by decide) rfl (fun ls hl => ?_)
  refine lv_iconst (v := (0 : Int32)) hx hb dX12_numberOf_7 (by decide) ?_
  refine lv_istore_n (lv' := [(3, .int (0 : Int32)), (2, .int (0 : Int32)), (0, .ref (g.2.2 171)), (1, .int v1)]) hx hb dX12_numberOf_8 rfl hl (by decide) rfl (fun ls hl => ?_)
  exact B9 n (0 : Int32) (0 : Int32) r2.2 _ _ _ hw (lv_sub hl [2, 1, 0] rfl) h
set_option maxRecDepth 100000 in
set_option maxHeartbeats 4000000 in
theorem c_X12_lays (l : Launch) (g : Gw) (n : Nat) (v1 : Int32) (v2 : Int32) (v3 : Int32) (μ : Mu) (r : Unit × Mu) (h : X12_lays n v1 v2 v3 μ = some r) : Ct l g yX12_lays cX12_lays 9 none 2 [.ref (g.2.2 171), .int v1, .int v2, .int v3] μ none r.2 := by
  rw [X12_lays] at h
  refine Ct.of (by decide) (Nat.le_of_ble_eq_true rfl) ?_
  intro p e s m args below meth c ls hC hw hr hlocks hl
  have hx := hC.1
  have hb := hC.2.1
  have hl : lv_has ls 9 [(0, .ref (g.2.2 171)), (1, .int v1), (2, .int v2), (3, .int v3)] := hl
  have B39 : ∀ (k : Nat), ∀ (v4 : Int32) (v5 : Int64) (v7 : Int32) (μ : Mu) (H : Heap) (locs : List Loc) (ls : Array Slot), wd g μ s (Aw g s.heap.size) H locs → lv_has ls 9 [(0, .ref (g.2.2 171)), (4, .int v4), (5, .long v5), (7, .int v7)] → lpF (fun _ _ _ _ => none) (X12_lays_39b n v1 v2 v3) k v4 v5 v7 μ = some r → WQ p l e (rmD 2) s m args below meth c g none r.2 H locs (F0 m 39 ls []) := by
    intro k
    induction k with
    | zero =>
      intro v4 v5 v7 μ H locs ls hw hl h
      cases h
    | succ k ih39 =>
      rw [lpF_s]
      generalize lpF (fun _ _ _ _ => none) (X12_lays_39b n v1 v2 v3) k = k39 at ih39 ⊢
      intro v4 v5 v7 μ H locs ls hw hl h
      have B52 : ∀ (k : Nat), ∀ (v4 : Int32) (v5 : Int64) (v7 : Int32) (v8 : Int32) (μ : Mu) (H : Heap) (locs : List Loc) (ls : Array Slot), wd g μ s (Aw g s.heap.size) H locs → lv_has ls 9 [(0, .ref (g.2.2 171)), (4, .int v4), (5, .long v5), (7, .int v7), (8, .int v8)] → lpF (fun _ _ _ _ _ => none) (X12_lays_52b n v1 v2 v3 k39) k v4 v5 v7 v8 μ = some r → WQ p l e (rmD 2) s m args below meth c g none r.2 H locs (F0 m 52 ls []) := by
        intro k
        induction k with
        | zero =>
          intro v4 v5 v7 v8 μ H locs ls hw hl h
          cases h
        | succ k ih52 =>
          rw [lpF_s]
          generalize lpF (fun _ _ _ _ _ => none) (X12_lays_52b n v1 v2 v3 k39) k = k52 at ih52 ⊢
          intro v4 v5 v7 v8 μ H locs ls hw hl h
          rw [X12_lays_52b] at h
          refine lv_lload hx hb dX12_lays_52 (lv_at hl 2 rfl) ?_
          refine lv_iload hx hb dX12_lays_54 (lv_at hl 1 rfl) ?_
          refine lv_iload hx hb dX12_lays_56 (lv_at hl 4 rfl) ?_
          refine lv_isub hx hb dX12_lays_58 ?_
          refine lv_aload_n hx hb dX12_lays_59 rfl (lv_at hl 0 rfl) ?_
          refine gI hC hw fl_X12_347 ok171 (by decide) dX12_lays_60 ?_
          refine lv_iload hx hb dX12_lays_63 (lv_at hl 3 rfl) ?_
          refine lv_isub hx hb dX12_lays_65 ?_
          refine lv_iconst (v := (1 : Int32)) hx hb dX12_lays_66 (by decide) ?_
          refine lv_isub hx hb dX12_lays_67 ?_
          obtain ⟨r68, hr68, h⟩ := bnd h
          refine cS (As := [.int (v4 - v8), .int (((μ.1 171 31) - v7) - (1 : Int32))]) (rest := [.long v5]) (st1 := [.long r68.1, .long v5]) hC hw (c_X12_ways l g n (v4 - v8) (((μ.1 171 31) - v7) - (1 : Int32)) μ r68 hr68) ml_X12_353 st_X12_ways rfl hl.1 ⟨Nat.le_of_ble_eq_true rfl, Nat.le_of_ble_eq_true rfl⟩ (Nat.le_of_ble_eq_true rfl) ⟨Nat.zero_le _, Nat.zero_le _⟩ rfl dX12_lays_68 (fun H locs hw => ?_)
          refine W.lcmp hx hb dX12_lays_71 ?_
          refine lv_if_lt (tgt := 103) hx hb dX12_lays_72 (by decide) (fun hc => ?_) (fun hc => ?_)
          · rw [if_pos hc] at h
            refine lv_aload_n hx hb dX12_lays_103 rfl (lv_at hl 0 rfl) ?_
            refine gR (t := 178) hC hw fl_X12_33 ok171 (by decide) ot171_17 dX12_lays_104 ?_
            refine lv_aload_n hx hb dX12_lays_107 rfl (lv_at hl 0 rfl) ?_
            refine gR (t := 183) hC hw fl_X12_48 ok171 (by decide) ot171_30 dX12_lays_108 ?_
            refine lv_iload hx hb dX12_lays_111 (lv_at hl 3 rfl) ?_
            obtain ⟨hi113, h⟩ := gd_some h
            refine lI (j := v7.toNatClampNeg) hC hw ok183 on183 hi113 rfl dX12_lays_113 ?_
            refine lv_iload hx hb dX12_lays_114 (lv_at hl 4 rfl) ?_
            obtain ⟨hi116, h⟩ := gd_some h
            refine sI (j := (r68.2.1 183 v7.toNatClampNeg).toNatClampNeg) hC hw ok178 on178 hi116 rfl dX12_lays_116 (fun H locs hw => ?_)
            refine lv_iload hx hb dX12_lays_117 (lv_at hl 1 rfl) ?_
            refine lv_iload hx hb dX12_lays_119 (lv_at hl 4 rfl) ?_
            refine lv_isub hx hb dX12_lays_121 ?_
            refine lv_istore (lv' := [(4, .int (v4 - v8)), (0, .ref (g.2.2 171)), (5, .long v5), (7, .int v7), (8, .int v8)]) hx hb dX12_lays_122 hl (by decide) rfl (fun ls hl => ?_)
            refine lv_iinc (v := (v7 + (1 : Int32))) (lv' := [(7, .int (v7 + (1 : Int32))), (4, .int (v4 - v8)), (0, .ref (g.2.2 171)), (5, .long v5), (8, .int v8)]) hx hb dX12_lays_124 hl (k := 3) rfl rfl (by decide) rfl (fun ls hl => ?_)
            refine lv_goto (tgt := 39) hx hb dX12_lays_127 (by decide) ?_
            exact ih39 (v4 - v8) v5 (v7 + (1 : Int32)) (si r68.2 178 (r68.2.1 183 v7.toNatClampNeg).toNatClampNeg v8) _ _ _ hw (lv_sub hl [2, 1, 3, 0] rfl) h
          · rw [if_neg hc] at h
            refine lv_lload hx hb dX12_lays_75 (lv_at hl 2 rfl) ?_
            refine lv_iload hx hb dX12_lays_77 (lv_at hl 1 rfl) ?_
            refine lv_iload hx hb dX12_lays_79 (lv_at hl 4 rfl) ?_
            refine lv_isub hx hb dX12_lays_81 ?_
            refine lv_aload_n hx hb dX12_lays_82 rfl (lv_at hl 0 rfl) ?_
            refine gI hC hw fl_X12_347 ok171 (by decide) dX12_lays_83 ?_
            refine lv_iload hx hb dX12_lays_86 (lv_at hl 3 rfl) ?_
            refine lv_isub hx hb dX12_lays_88 ?_
            refine lv_iconst (v := (1 : Int32)) hx hb dX12_lays_89 (by decide) ?_
            refine lv_isub hx hb dX12_lays_90 ?_
            obtain ⟨r91, hr91, h⟩ := bnd h
            refine cS (As := [.int (v4 - v8), .int (((r68.2.1 171 31) - v7) - (1 : Int32))]) (rest := [.long v5]) (st1 := [.long r91.1, .long v5]) hC hw (c_X12_ways l g n (v4 - v8) (((r68.2.1 171 31) - v7) - (1 : Int32)) r68.2 r91 hr91) ml_X12_353 st_X12_ways rfl hl.1 ⟨Nat.le_of_ble_eq_true rfl, Nat.le_of_ble_eq_true rfl⟩ (Nat.le_of_ble_eq_true rfl) ⟨Nat.zero_le _, Nat.zero_le _⟩ rfl dX12_lays_91 (fun H locs hw => ?_)
            refine lv_lsub hx hb dX12_lays_94 ?_
            refine lv_lstore (lv' := [(5, .long (v5 - r91.1)), (0, .ref (g.2.2 171)), (4, .int v4), (7, .int v7), (8, .int v8)]) hx hb dX12_lays_95 hl (by decide) rfl (fun ls hl => ?_)
            refine lv_iinc (v := (v8 + ((-1) : Int32))) (lv' := [(8, .int (v8 + ((-1) : Int32))), (5, .long (v5 - r91.1)), (0, .ref (g.2.2 171)), (4, .int v4), (7, .int v7)]) hx hb dX12_lays_97 hl (k := 4) rfl rfl (by decide) rfl (fun ls hl => ?_)
            refine lv_goto (tgt := 52) hx hb dX12_lays_100 (by decide) ?_
            exact ih52 v4 (v5 - r91.1) v7 (v8 + ((-1) : Int32)) r91.2 _ _ _ hw (lv_sub hl [2, 3, 1, 4, 0] rfl) h
      rw [X12_lays_39b] at h
      refine lv_iload hx hb dX12_lays_39 (lv_at hl 3 rfl) ?_
      refine lv_aload_n hx hb dX12_lays_41 rfl (lv_at hl 0 rfl) ?_
      refine gI hC hw fl_X12_347 ok171 (by decide) dX12_lays_42 ?_
      refine lv_icmp_ge (tgt := 130) hx hb dX12_lays_45 (by decide) (fun hc => ?_) (fun hc => ?_)
      · rw [if_pos hc] at h
        exact rV hC hw hr hlocks rfl (by rw [← Option.some.inj h]) dX12_lays_130
      · rw [if_neg hc] at h
        refine lv_iload hx hb dX12_lays_48 (lv_at hl 1 rfl) ?_
        refine lv_istore (lv' := [(8, .int v4), (0, .ref (g.2.2 171)), (4, .int v4), (5, .long v5), (7, .int v7)]) hx hb dX12_lays_50 hl (by decide) rfl (fun ls hl => ?_)
        exact B52 n v4 v5 v7 v4 μ _ _ _ hw (lv_sub hl [1, 2, 3, 4, 0] rfl) h
  have B8 : ∀ (k : Nat), ∀ (v4 : Int32) (μ : Mu) (H : Heap) (locs : List Loc) (ls : Array Slot), wd g μ s (Aw g s.heap.size) H locs → lv_has ls 9 [(0, .ref (g.2.2 171)), (2, .int v2), (3, .int v3), (4, .int v4)] → lpF (fun _ _ => none) (X12_lays_8b n v1 v2 v3) k v4 μ = some r → WQ p l e (rmD 2) s m args below meth c g none r.2 H locs (F0 m 8 ls []) := by
    intro k
    induction k with
    | zero =>
      intro v4 μ H locs ls hw hl h
      cases h
    | succ k ih8 =>
      rw [lpF_s]
      generalize lpF (fun _ _ => none) (X12_lays_8b n v1 v2 v3) k = k8 at ih8 ⊢
      intro v4 μ H locs ls hw hl h
      rw [X12_lays_8b] at h
      refine lv_iload hx hb dX12_lays_8 (lv_at hl 3 rfl) ?_
      refine lv_bipush (v := (12 : Int32)) hx hb dX12_lays_10 (by decide) ?_
      refine lv_icmp_ge (tgt := 29) hx hb dX12_lays_12 (by decide) (fun hc => ?_) (fun hc => ?_)
      · rw [if_pos hc] at h
        refine lv_iload_n hx hb dX12_lays_29 rfl (lv_at hl 1 rfl) ?_
        refine lv_istore (lv' := [(4, .int v2), (0, .ref (g.2.2 171)), (2, .int v2), (3, .int v3)]) hx hb dX12_lays_30 hl (by decide) rfl (fun ls hl => ?_)
        refine lv_iload_n hx hb dX12_lays_32 rfl (lv_at hl 3 rfl) ?_
        refine lv_i2l hx hb dX12_lays_33 rfl ?_
        refine lv_lstore (lv' := [(5, .long (v3.toInt64)), (4, .int v2), (0, .ref (g.2.2 171)), (2, .int v2), (3, .int v3)]) hx hb dX12_lays_34 hl (by decide) rfl (fun ls hl => ?_)
        refine lv_iconst (v := (0 : Int32)) hx hb dX12_lays_36 (by decide) ?_
        refine lv_istore (lv' := [(7, .int (0 : Int32)), (5, .long (v3.toInt64)), (4, .int v2), (0, .ref (g.2.2 171)), (2, .int v2), (3, .int v3)]) hx hb dX12_lays_37 hl (by decide) rfl (fun ls hl => ?_)
        exact B39 n v2 (v3.toInt64) (0 : Int32) μ _ _ _ hw (lv_sub hl [3, 2, 1, 0] rfl) h
      · rw [if_neg hc] at h
        refine lv_aload_n hx hb dX12_lays_15 rfl (lv_at hl 0 rfl) ?_
        refine gR (t := 178) hC hw fl_X12_33 ok171 (by decide) ot171_17 dX12_lays_16 ?_
        refine lv_iload hx hb dX12_lays_19 (lv_at hl 3 rfl) ?_
        refine lv_iconst (v := (0 : Int32)) hx hb dX12_lays_21 (by decide) ?_
        obtain ⟨hi22, h⟩ := gd_some h
        refine sI (j := v4.toNatClampNeg) hC hw ok178 on178 hi22 rfl dX12_lays_22 (fun H locs hw => ?_)
        refine lv_iinc (v := (v4 + (1 : Int32))) (lv' := [(4, .int (v4 + (1 : Int32))), (0, .ref (g.2.2 171)), (2, .int v2), (3, .int v3)]) hx hb dX12_lays_23 hl (k := 3) rfl rfl (by decide) rfl (fun ls hl => ?_)
        refine lv_goto (tgt := 8) hx hb dX12_lays_26 (by decide) ?_
        exact ih8 (v4 + (1 : Int32)) (si μ 178 v4.toNatClampNeg (0 : Int32)) _ _ _ hw (lv_sub hl [1, 2, 3, 0] rfl) h
  refine lv_aload_n hx hb dX12_lays_0 rfl (lv_at hl 0 rfl) ?_
  refine lv_iload_n hx hb dX12_lays_1 rfl (lv_at hl 1 rfl) ?_
  obtain ⟨r2, hr2, h⟩ := bnd h
  refine cV (b := 171) (As := [.int v1]) (rest := []) (st1 := []) hC hw (c_X12_sees l g n v1 μ r2 hr2) ml_X12_350 im_X12_sees se_X12_sees ok171 (CN := RX12) (T := TX12) (NF := 54) rfl rfl (by decide) rfl hl.1 ⟨Nat.le_of_ble_eq_true rfl, Nat.le_of_ble_eq_true rfl⟩ (Nat.le_of_ble_eq_true rfl) ⟨Nat.zero_le _, Nat.zero_le _⟩ rfl dX12_lays_2 (fun H locs hw => ?_)
  refine lv_iconst (v := (0 : Int32)) hx hb dX12_lays_5 (by decide) ?_
  refine lv_istore (lv' := [(4, .int (0 : Int32)), (0, .ref (g.2.2 171)), (1, .int v1), (2, .int v2), (3, .int v3)]) hx hb dX12_lays_6 hl (by decide) rfl (fun ls hl => ?_)
  exact B8 n (0 : Int32) r2.2 _ _ _ hw (lv_sub hl [1, 3, 4, 0] rfl) h
set_option maxRecDepth 100000 in
set_option maxHeartbeats 4000000 in
theorem c_X12_seedsNow (l : Launch) (g : Gw) (n : Nat) (μ : Mu) (r : Int32 × Mu) (h : X12_seedsNow n  μ = some r) : Ct l g yX12_seedsNow cX12_seedsNow 3 (some .int) 1 [.ref (g.2.2 171)] μ (some (.int r.1)) r.2 := by
  rw [X12_seedsNow] at h
  refine Ct.of (by decide) (Nat.le_of_ble_eq_true rfl) ?_
  intro p e s m args below meth c ls hC hw hr hlocks hl
  have hx := hC.1
  have hb := hC.2.1
  have hl : lv_has ls 3 [(0, .ref (g.2.2 171))] := hl
  have B4 : ∀ (k : Nat), ∀ (v1 : Int32) (v2 : Int32) (μ : Mu) (H : Heap) (locs : List Loc) (ls : Array Slot), wd g μ s (Aw g s.heap.size) H locs → lv_has ls 3 [(0, .ref (g.2.2 171)), (1, .int v1), (2, .int v2)] → lpF (fun _ _ _ => none) (X12_seedsNow_4b n) k v1 v2 μ = some r → WQ p l e (rmD 1) s m args below meth c g (some (.int r.1)) r.2 H locs (F0 m 4 ls []) := by
    intro k
    induction k with
    | zero =>
      intro v1 v2 μ H locs ls hw hl h
      cases h
    | succ k ih4 =>
      rw [lpF_s]
      generalize lpF (fun _ _ _ => none) (X12_seedsNow_4b n) k = k4 at ih4 ⊢
      intro v1 v2 μ H locs ls hw hl h
      rw [X12_seedsNow_4b] at h
      refine lv_iload_n hx hb dX12_seedsNow_4 rfl (lv_at hl 2 rfl) ?_
      refine lv_aload_n hx hb dX12_seedsNow_5 rfl (lv_at hl 0 rfl) ?_
      obtain ⟨r6, hr6, h⟩ := bnd h
      refine cV (b := 171) (As := []) (rest := [.int v2]) (st1 := [.int r6.1, .int v2]) hC hw (c_X12_pitMany l g n μ r6 hr6) ml_X12_245 im_X12_pitMany se_X12_pitMany ok171 (CN := RX12) (T := TX12) (NF := 54) rfl rfl (by decide) rfl hl.1 ⟨Nat.le_of_ble_eq_true rfl, Nat.le_of_ble_eq_true rfl⟩ (Nat.le_of_ble_eq_true rfl) ⟨Nat.zero_le _, Nat.zero_le _⟩ rfl dX12_seedsNow_6 (fun H locs hw => ?_)
      refine lv_icmp_ge (tgt := 30) hx hb dX12_seedsNow_9 (by decide) (fun hc => ?_) (fun hc => ?_)
      · rw [if_pos hc] at h
        refine lv_iload_n hx hb dX12_seedsNow_30 rfl (lv_at hl 1 rfl) ?_
        exact rI hC hw hr hlocks (by rw [← Option.some.inj h]) (by rw [← Option.some.inj h]) dX12_seedsNow_31
      · rw [if_neg hc] at h
        refine lv_iload_n hx hb dX12_seedsNow_12 rfl (lv_at hl 1 rfl) ?_
        refine lv_aload_n hx hb dX12_seedsNow_13 rfl (lv_at hl 0 rfl) ?_
        refine gR (t := 172) hC hw fl_X12_9 ok171 (by decide) ot171_0 dX12_seedsNow_14 ?_
        refine lv_bipush (v := (13 : Int32)) hx hb dX12_seedsNow_17 (by decide) ?_
        refine lv_iload_n hx hb dX12_seedsNow_19 rfl (lv_at hl 2 rfl) ?_
        refine lv_iadd hx hb dX12_seedsNow_20 ?_
        obtain ⟨hi21, h⟩ := gd_some h
        refine lI (j := ((13 : Int32) + v2).toNatClampNeg) hC hw ok172 on172 hi21 rfl dX12_seedsNow_21 ?_
        refine lv_iadd hx hb dX12_seedsNow_22 ?_
        refine lv_istore_n (lv' := [(1, .int (v1 + (r6.2.1 172 ((13 : Int32) + v2).toNatClampNeg))), (0, .ref (g.2.2 171)), (2, .int v2)]) hx hb dX12_seedsNow_23 rfl hl (by decide) rfl (fun ls hl => ?_)
        refine lv_iinc (v := (v2 + (1 : Int32))) (lv' := [(2, .int (v2 + (1 : Int32))), (1, .int (v1 + (r6.2.1 172 ((13 : Int32) + v2).toNatClampNeg))), (0, .ref (g.2.2 171))]) hx hb dX12_seedsNow_24 hl (k := 2) rfl rfl (by decide) rfl (fun ls hl => ?_)
        refine lv_goto (tgt := 4) hx hb dX12_seedsNow_27 (by decide) ?_
        exact ih4 (v1 + (r6.2.1 172 ((13 : Int32) + v2).toNatClampNeg)) (v2 + (1 : Int32)) r6.2 _ _ _ hw (lv_sub hl [2, 1, 0] rfl) h
  refine lv_iconst (v := (0 : Int32)) hx hb dX12_seedsNow_0 (by decide) ?_
  refine lv_istore_n (lv' := [(1, .int (0 : Int32)), (0, .ref (g.2.2 171))]) hx hb dX12_seedsNow_1 rfl hl (by decide) rfl (fun ls hl => ?_)
  refine lv_iconst (v := (0 : Int32)) hx hb dX12_seedsNow_2 (by decide) ?_
  refine lv_istore_n (lv' := [(2, .int (0 : Int32)), (1, .int (0 : Int32)), (0, .ref (g.2.2 171))]) hx hb dX12_seedsNow_3 rfl hl (by decide) rfl (fun ls hl => ?_)
  exact B4 n (0 : Int32) (0 : Int32) μ _ _ _ hw (lv_sub hl [2, 1, 0] rfl) h
set_option maxRecDepth 100000 in
set_option maxHeartbeats 4000000 in
theorem c_X12_positions (l : Launch) (g : Gw) (n : Nat) (v1 : Int32) (v2 : Int32) (μ : Mu) (r : Int32 × Mu) (h : X12_positions n v1 v2 μ = some r) : Ct l g yX12_positions cX12_positions 5 (some .int) 3 [.ref (g.2.2 171), .int v1, .int v2] μ (some (.int r.1)) r.2 := by
  rw [X12_positions] at h
  refine Ct.of (by decide) (Nat.le_of_ble_eq_true rfl) ?_
  intro p e s m args below meth c ls hC hw hr hlocks hl
  have hx := hC.1
  have hb := hC.2.1
  have hl : lv_has ls 5 [(0, .ref (g.2.2 171)), (1, .int v1), (2, .int v2)] := hl
  have B63 : ∀ (s0 : Int32) (μ : Mu) (H : Heap) (locs : List Loc) (ls : Array Slot), wd g μ s (Aw g s.heap.size) H locs → lv_has ls 5 [] → X12_positions_63 n v1 v2 s0 μ = some r → WQ p l e (rmD 3) s m args below meth c g (some (.int r.1)) r.2 H locs (F0 m 63 ls [.int s0]) := by
    intro s0 μ H locs ls hw hl h
    rw [X12_positions_63] at h
    exact rI hC hw hr hlocks (by rw [← Option.some.inj h]) (by rw [← Option.some.inj h]) dX12_positions_63
  have B29 : ∀ (s1 : Int32) (μ : Mu) (H : Heap) (locs : List Loc) (ls : Array Slot), wd g μ s (Aw g s.heap.size) H locs → lv_has ls 5 [(0, .ref (g.2.2 171)), (2, .int v2)] → X12_positions_29 n v1 v2 s1 μ = some r → WQ p l e (rmD 3) s m args below meth c g (some (.int r.1)) r.2 H locs (F0 m 29 ls [.int s1, .ref (g.2.2 171)]) := by
    intro s1 μ H locs ls hw hl h
    rw [X12_positions_29] at h
    refine pI hC hw fl_X12_107 fp_12_5 ok171 dX12_positions_29 (fun H locs hw => ?_)
    refine lv_aload_n hx hb dX12_positions_32 rfl (lv_at hl 0 rfl) ?_
    refine gI hC hw fl_X12_107 ok171 (by decide) dX12_positions_33 ?_
    refine lv_if_le (tgt := 41) hx hb dX12_positions_36 (by decide) (fun hc => ?_) (fun hc => ?_)
    · rw [if_pos hc] at h
      refine lv_aload_n hx hb dX12_positions_41 rfl (lv_at hl 0 rfl) ?_
      refine lv_iload_n hx hb dX12_positions_42 rfl (lv_at hl 1 rfl) ?_
      obtain ⟨r43, hr43, h⟩ := bnd h
      refine cV (b := 171) (As := [.int v2]) (rest := []) (st1 := [.long r43.1]) hC hw (c_X12_positionsOf l g n v2 (si μ 171 5 s1) r43 hr43) ml_X12_359 im_X12_positionsOf se_X12_positionsOf ok171 (CN := RX12) (T := TX12) (NF := 54) rfl rfl (by decide) rfl hl.1 ⟨Nat.le_of_ble_eq_true rfl, Nat.le_of_ble_eq_true rfl⟩ (Nat.le_of_ble_eq_true rfl) ⟨Nat.zero_le _, Nat.zero_le _⟩ rfl dX12_positions_43 (fun H locs hw => ?_)
      refine lv_lstore_n (lv' := [(3, .long r43.1), (0, .ref (g.2.2 171)), (2, .int v2)]) hx hb dX12_positions_46 rfl hl (by decide) rfl (fun ls hl => ?_)
      refine lv_lload_n hx hb dX12_positions_47 rfl (lv_at hl 0 rfl) ?_
      refine lv_ldc2 (v := (6000 : Int64)) hx hb hC.2.2.2.1 (hC.2.2.2.2.1 _ cl_X12_363) dX12_positions_48 ?_
      refine W.lcmp hx hb dX12_positions_51 ?_
      refine lv_if_le (tgt := 61) hx hb dX12_positions_52 (by decide) (fun hc => ?_) (fun hc => ?_)
      · rw [if_pos hc] at h
        refine lv_lload_n hx hb dX12_positions_61 rfl (lv_at hl 0 rfl) ?_
        refine lv_l2i hx hb dX12_positions_62 rfl ?_
        exact B63 (r43.1.toInt32) r43.2 _ _ _ hw (lv_sub hl [] rfl) h
      · rw [if_neg hc] at h
        refine lv_sipush (v := ((-1000) : Int32)) hx hb dX12_positions_55 (by decide) ?_
        refine lv_goto (tgt := 63) hx hb dX12_positions_58 (by decide) ?_
        exact B63 ((-1000) : Int32) r43.2 _ _ _ hw (lv_sub hl [] rfl) h
    · rw [if_neg hc] at h
      refine lv_iconst (v := (0 : Int32)) hx hb dX12_positions_39 (by decide) ?_
      exact rI hC hw hr hlocks (by rw [← Option.some.inj h]) (by rw [← Option.some.inj h]) dX12_positions_40
  refine lv_aload_n hx hb dX12_positions_0 rfl (lv_at hl 0 rfl) ?_
  refine lv_iload_n hx hb dX12_positions_1 rfl (lv_at hl 1 rfl) ?_
  obtain ⟨r2, hr2, h⟩ := bnd h
  refine cS (As := [.int v1]) (rest := [.ref (g.2.2 171)]) (st1 := [.int r2.1, .ref (g.2.2 171)]) hC hw (c_X12_isSide l g n v1 μ r2 hr2) ml_X12_254 st_X12_isSide rfl hl.1 ⟨Nat.le_of_ble_eq_true rfl, Nat.le_of_ble_eq_true rfl⟩ (Nat.le_of_ble_eq_true rfl) ⟨Nat.zero_le _, Nat.zero_le _⟩ rfl dX12_positions_2 (fun H locs hw => ?_)
  refine lv_if_ne (tgt := 12) hx hb dX12_positions_5 (by decide) (fun hc => ?_) (fun hc => ?_)
  · rw [if_neg hc] at h
    refine lv_iload_n hx hb dX12_positions_12 rfl (lv_at hl 2 rfl) ?_
    refine lv_i2l hx hb dX12_positions_13 rfl ?_
    refine lv_lconst (v := (0 : Int64)) hx hb dX12_positions_14 (by decide) ?_
    refine lv_ldc2 (v := (40 : Int64)) hx hb hC.2.2.2.1 (hC.2.2.2.2.1 _ cl_X12_357) dX12_positions_15 ?_
    obtain ⟨r18, hr18, h⟩ := bnd h
    refine cS (As := [.long (v2.toInt64), .long (0 : Int64), .long (40 : Int64)]) (rest := [.ref (g.2.2 171)]) (st1 := [.int r18.1, .ref (g.2.2 171)]) hC hw (c_X12_within l g n (v2.toInt64) (0 : Int64) (40 : Int64) r2.2 r18 hr18) ml_X12_166 st_X12_within rfl hl.1 ⟨Nat.le_of_ble_eq_true rfl, Nat.le_of_ble_eq_true rfl⟩ (Nat.le_of_ble_eq_true rfl) ⟨Nat.zero_le _, Nat.zero_le _⟩ rfl dX12_positions_18 (fun H locs hw => ?_)
    refine lv_if_eq (tgt := 28) hx hb dX12_positions_21 (by decide) (fun hc => ?_) (fun hc => ?_)
    · rw [if_pos hc] at h
      refine lv_iconst (v := (2 : Int32)) hx hb dX12_positions_28 (by decide) ?_
      exact B29 (2 : Int32) r18.2 _ _ _ hw (lv_sub hl [0, 2] rfl) h
    · rw [if_neg hc] at h
      refine lv_iconst (v := (0 : Int32)) hx hb dX12_positions_24 (by decide) ?_
      refine lv_goto (tgt := 29) hx hb dX12_positions_25 (by decide) ?_
      exact B29 (0 : Int32) r18.2 _ _ _ hw (lv_sub hl [0, 2] rfl) h
  · rw [if_pos hc] at h
    refine lv_iconst (v := (1 : Int32)) hx hb dX12_positions_8 (by decide) ?_
    refine lv_goto (tgt := 29) hx hb dX12_positions_9 (by decide) ?_
    exact B29 (1 : Int32) r2.2 _ _ _ hw (lv_sub hl [0, 2] rfl) h
set_option maxRecDepth 100000 in
set_option maxHeartbeats 4000000 in
theorem c_X12_place (l : Launch) (g : Gw) (n : Nat) (μ : Mu) (r : Int32 × Mu) (h : X12_place n  μ = some r) : Ct l g yX12_place cX12_place 1 (some .int) 3 [.ref (g.2.2 171)] μ (some (.int r.1)) r.2 := by
  rw [X12_place] at h
  refine Ct.of (by decide) (Nat.le_of_ble_eq_true rfl) ?_
  intro p e s m args below meth c ls hC hw hr hlocks hl
  have hx := hC.1
  have hb := hC.2.1
  have hl : lv_has ls 1 [(0, .ref (g.2.2 171))] := hl
  refine lv_aload_n hx hb dX12_place_0 rfl (lv_at hl 0 rfl) ?_
  refine lv_iconst (v := (0 : Int32)) hx hb dX12_place_1 (by decide) ?_
  refine pI hC hw fl_X12_107 fp_12_5 ok171 dX12_place_2 (fun H locs hw => ?_)
  refine lv_aload_n hx hb dX12_place_5 rfl (lv_at hl 0 rfl) ?_
  refine lv_aload_n hx hb dX12_place_6 rfl (lv_at hl 0 rfl) ?_
  obtain ⟨r7, hr7, h⟩ := bnd h
  refine cV (b := 171) (As := []) (rest := [.ref (g.2.2 171)]) (st1 := [.int r7.1, .ref (g.2.2 171)]) hC hw (c_X12_seedsNow l g n (si μ 171 5 (0 : Int32)) r7 hr7) ml_X12_365 im_X12_seedsNow se_X12_seedsNow ok171 (CN := RX12) (T := TX12) (NF := 54) rfl rfl (by decide) rfl hl.1 ⟨Nat.le_of_ble_eq_true rfl, Nat.le_of_ble_eq_true rfl⟩ (Nat.le_of_ble_eq_true rfl) ⟨Nat.zero_le _, Nat.zero_le _⟩ rfl dX12_place_7 (fun H locs hw => ?_)
  obtain ⟨r10, hr10, h⟩ := bnd h
  refine cV (b := 171) (As := [.int r7.1]) (rest := []) (st1 := [.long r10.1]) hC hw (c_X12_positionsOf l g n r7.1 r7.2 r10 hr10) ml_X12_359 im_X12_positionsOf se_X12_positionsOf ok171 (CN := RX12) (T := TX12) (NF := 54) rfl rfl (by decide) rfl hl.1 ⟨Nat.le_of_ble_eq_true rfl, Nat.le_of_ble_eq_true rfl⟩ (Nat.le_of_ble_eq_true rfl) ⟨Nat.zero_le _, Nat.zero_le _⟩ rfl dX12_place_10 (fun H locs hw => ?_)
  refine lv_ldc2 (v := (6000 : Int64)) hx hb hC.2.2.2.1 (hC.2.2.2.2.1 _ cl_X12_363) dX12_place_13 ?_
  refine W.lcmp hx hb dX12_place_16 ?_
  refine lv_if_le (tgt := 24) hx hb dX12_place_17 (by decide) (fun hc => ?_) (fun hc => ?_)
  · rw [if_pos hc] at h
    refine lv_aload_n hx hb dX12_place_24 rfl (lv_at hl 0 rfl) ?_
    obtain ⟨r25, hr25, h⟩ := bnd h
    refine cV (b := 171) (As := []) (rest := []) (st1 := []) hC hw (c_X12_takesUp l g n r10.2 r25 hr25) ml_X12_293 im_X12_takesUp se_X12_takesUp ok171 (CN := RX12) (T := TX12) (NF := 54) rfl rfl (by decide) rfl hl.1 ⟨Nat.le_of_ble_eq_true rfl, Nat.le_of_ble_eq_true rfl⟩ (Nat.le_of_ble_eq_true rfl) ⟨Nat.zero_le _, Nat.zero_le _⟩ rfl dX12_place_25 (fun H locs hw => ?_)
    refine lv_aload_n hx hb dX12_place_28 rfl (lv_at hl 0 rfl) ?_
    refine lv_aload_n hx hb dX12_place_29 rfl (lv_at hl 0 rfl) ?_
    refine gR (t := 172) hC hw fl_X12_9 ok171 (by decide) ot171_0 dX12_place_30 ?_
    refine lv_iconst (v := (2 : Int32)) hx hb dX12_place_33 (by decide) ?_
    refine lI (j := 2) hC hw ok172 on172 (vin (by decide)) (by decide) dX12_place_34 ?_
    obtain ⟨r35, hr35, h⟩ := bnd h
    refine cV (b := 171) (As := [.int (r25.2.1 172 2)]) (rest := []) (st1 := [.int r35.1]) hC hw (c_X12_numberOf l g n (r25.2.1 172 2) r25.2 r35 hr35) ml_X12_368 im_X12_numberOf se_X12_numberOf ok171 (CN := RX12) (T := TX12) (NF := 54) rfl rfl (by decide) rfl hl.1 ⟨Nat.le_of_ble_eq_true rfl, Nat.le_of_ble_eq_true rfl⟩ (Nat.le_of_ble_eq_true rfl) ⟨Nat.zero_le _, Nat.zero_le _⟩ rfl dX12_place_35 (fun H locs hw => ?_)
    exact rI hC hw hr hlocks (by rw [← Option.some.inj h]) (by rw [← Option.some.inj h]) dX12_place_38
  · rw [if_neg hc] at h
    refine lv_sipush (v := ((-1000) : Int32)) hx hb dX12_place_20 (by decide) ?_
    exact rI hC hw hr hlocks (by rw [← Option.some.inj h]) (by rw [← Option.some.inj h]) dX12_place_23
set_option maxRecDepth 100000 in
set_option maxHeartbeats 4000000 in
theorem c_X12_ofPlace (l : Launch) (g : Gw) (n : Nat) (v1 : Int32) (v2 : Int32) (v3 : Int32) (v4 : Int32) (μ : Mu) (r : Int32 × Mu) (h : X12_ofPlace n v1 v2 v3 v4 μ = some r) : Ct l g yX12_ofPlace cX12_ofPlace 6 (some .int) 3 [.ref (g.2.2 171), .int v1, .int v2, .int v3, .int v4] μ (some (.int r.1)) r.2 := by
  rw [X12_ofPlace] at h
  refine Ct.of (by decide) (Nat.le_of_ble_eq_true rfl) ?_
  intro p e s m args below meth c ls hC hw hr hlocks hl
  have hx := hC.1
  have hb := hC.2.1
  have hl : lv_has ls 6 [(0, .ref (g.2.2 171)), (1, .int v1), (2, .int v2), (3, .int v3), (4, .int v4)] := hl
  have B157 : ∀ (s0 : Int32) (μ : Mu) (H : Heap) (locs : List Loc) (ls : Array Slot), wd g μ s (Aw g s.heap.size) H locs → lv_has ls 6 [] → X12_ofPlace_157 n v1 v2 v3 v4 s0 μ = some r → WQ p l e (rmD 3) s m args below meth c g (some (.int r.1)) r.2 H locs (F0 m 157 ls [.int s0]) := by
    intro s0 μ H locs ls hw hl h
    rw [X12_ofPlace_157] at h
    exact rI hC hw hr hlocks (by rw [← Option.some.inj h]) (by rw [← Option.some.inj h]) dX12_ofPlace_157
  have B129 : ∀ (s0 : Int32) (s1 : Int32) (μ : Mu) (H : Heap) (locs : List Loc) (ls : Array Slot), wd g μ s (Aw g s.heap.size) H locs → lv_has ls 6 [(0, .ref (g.2.2 171))] → X12_ofPlace_129 n v1 v2 v3 v4 s0 s1 μ = some r → WQ p l e (rmD 3) s m args below meth c g (some (.int r.1)) r.2 H locs (F0 m 129 ls [.int s1, .int s0]) := by
    intro s0 s1 μ H locs ls hw hl h
    rw [X12_ofPlace_129] at h
    refine lv_iadd hx hb dX12_ofPlace_129 ?_
    refine lv_aload_n hx hb dX12_ofPlace_130 rfl (lv_at hl 0 rfl) ?_
    obtain ⟨r131, hr131, h⟩ := bnd h
    refine cV (b := 171) (As := []) (rest := [.int (s0 + s1)]) (st1 := [.int r131.1, .int (s0 + s1)]) hC hw (c_X12_pitMany l g n μ r131 hr131) ml_X12_245 im_X12_pitMany se_X12_pitMany ok171 (CN := RX12) (T := TX12) (NF := 54) rfl rfl (by decide) rfl hl.1 ⟨Nat.le_of_ble_eq_true rfl, Nat.le_of_ble_eq_true rfl⟩ (Nat.le_of_ble_eq_true rfl) ⟨Nat.zero_le _, Nat.zero_le _⟩ rfl dX12_ofPlace_131 (fun H locs hw => ?_)
    obtain ⟨hd134, h⟩ := dv_some h
    refine lv_irem hx hb dX12_ofPlace_134 hd134 ?_
    refine lv_istore (lv' := [(5, .int ((s0 + s1) - (s0 + s1) / r131.1 * r131.1)), (0, .ref (g.2.2 171))]) hx hb dX12_ofPlace_135 hl (by decide) rfl (fun ls hl => ?_)
    refine lv_aload_n hx hb dX12_ofPlace_137 rfl (lv_at hl 1 rfl) ?_
    refine lv_iload hx hb dX12_ofPlace_138 (lv_at hl 0 rfl) ?_
    obtain ⟨r140, hr140, h⟩ := bnd h
    refine cV (b := 171) (As := [.int ((s0 + s1) - (s0 + s1) / r131.1 * r131.1)]) (rest := []) (st1 := [.int r140.1]) hC hw (c_X12_isLacking l g n ((s0 + s1) - (s0 + s1) / r131.1 * r131.1) r131.2 r140 hr140) ml_X12_251 im_X12_isLacking se_X12_isLacking ok171 (CN := RX12) (T := TX12) (NF := 54) rfl rfl (by decide) rfl hl.1 ⟨Nat.le_of_ble_eq_true rfl, Nat.le_of_ble_eq_true rfl⟩ (Nat.le_of_ble_eq_true rfl) ⟨Nat.zero_le _, Nat.zero_le _⟩ rfl dX12_ofPlace_140 (fun H locs hw => ?_)
    refine lv_if_eq (tgt := 150) hx hb dX12_ofPlace_143 (by decide) (fun hc => ?_) (fun hc => ?_)
    · rw [if_pos hc] at h
      refine lv_aload_n hx hb dX12_ofPlace_150 rfl (lv_at hl 1 rfl) ?_
      refine gR (t := 178) hC hw fl_X12_33 ok171 (by decide) ot171_17 dX12_ofPlace_151 ?_
      refine lv_iload hx hb dX12_ofPlace_154 (lv_at hl 0 rfl) ?_
      obtain ⟨hi156, h⟩ := gd_some h
      refine lI (j := ((s0 + s1) - (s0 + s1) / r131.1 * r131.1).toNatClampNeg) hC hw ok178 on178 hi156 rfl dX12_ofPlace_156 ?_
      exact B157 (r140.2.1 178 ((s0 + s1) - (s0 + s1) / r131.1 * r131.1).toNatClampNeg) r140.2 _ _ _ hw (lv_sub hl [] rfl) h
    · rw [if_neg hc] at h
      refine lv_iconst (v := ((-1) : Int32)) hx hb dX12_ofPlace_146 (by decide) ?_
      refine lv_goto (tgt := 157) hx hb dX12_ofPlace_147 (by decide) ?_
      exact B157 ((-1) : Int32) r140.2 _ _ _ hw (lv_sub hl [] rfl) h
  have B97 : ∀ (μ : Mu) (H : Heap) (locs : List Loc) (ls : Array Slot), wd g μ s (Aw g s.heap.size) H locs → lv_has ls 6 [(0, .ref (g.2.2 171)), (1, .int v1), (2, .int v2), (3, .int v3), (4, .int v4)] → X12_ofPlace_97 n v1 v2 v3 v4  μ = some r → WQ p l e (rmD 3) s m args below meth c g (some (.int r.1)) r.2 H locs (F0 m 97 ls []) := by
    intro μ H locs ls hw hl h
    rw [X12_ofPlace_97] at h
    refine lv_aload_n hx hb dX12_ofPlace_97 rfl (lv_at hl 0 rfl) ?_
    refine gI hC hw fl_X12_107 ok171 (by decide) dX12_ofPlace_98 ?_
    refine lv_if_le (tgt := 106) hx hb dX12_ofPlace_101 (by decide) (fun hc => ?_) (fun hc => ?_)
    · rw [if_pos hc] at h
      refine lv_aload_n hx hb dX12_ofPlace_106 rfl (lv_at hl 0 rfl) ?_
      refine lv_iload_n hx hb dX12_ofPlace_107 rfl (lv_at hl 1 rfl) ?_
      refine lv_iload_n hx hb dX12_ofPlace_108 rfl (lv_at hl 2 rfl) ?_
      refine lv_iload_n hx hb dX12_ofPlace_109 rfl (lv_at hl 3 rfl) ?_
      obtain ⟨r110, hr110, h⟩ := bnd h
      refine cV (b := 171) (As := [.int v1, .int v2, .int v3]) (rest := []) (st1 := []) hC hw (c_X12_lays l g n v1 v2 v3 μ r110 hr110) ml_X12_371 im_X12_lays se_X12_lays ok171 (CN := RX12) (T := TX12) (NF := 54) rfl rfl (by decide) rfl hl.1 ⟨Nat.le_of_ble_eq_true rfl, Nat.le_of_ble_eq_true rfl⟩ (Nat.le_of_ble_eq_true rfl) ⟨Nat.zero_le _, Nat.zero_le _⟩ rfl dX12_ofPlace_110 (fun H locs hw => ?_)
      refine lv_iload hx hb dX12_ofPlace_113 (lv_at hl 4 rfl) ?_
      refine lv_iload_n hx hb dX12_ofPlace_115 rfl (lv_at hl 1 rfl) ?_
      refine lv_if_ne (tgt := 123) hx hb dX12_ofPlace_116 (by decide) (fun hc => ?_) (fun hc => ?_)
      · rw [if_neg hc] at h
        refine lv_aload_n hx hb dX12_ofPlace_123 rfl (lv_at hl 0 rfl) ?_
        refine gR (t := 172) hC hw fl_X12_9 ok171 (by decide) ot171_0 dX12_ofPlace_124 ?_
        refine lv_iconst (v := (1 : Int32)) hx hb dX12_ofPlace_127 (by decide) ?_
        refine lI (j := 1) hC hw ok172 on172 (vin (by decide)) (by decide) dX12_ofPlace_128 ?_
        exact B129 v4 (r110.2.1 172 1) r110.2 _ _ _ hw (lv_sub hl [0] rfl) h
      · rw [if_pos hc] at h
        refine lv_iconst (v := (0 : Int32)) hx hb dX12_ofPlace_119 (by decide) ?_
        refine lv_goto (tgt := 129) hx hb dX12_ofPlace_120 (by decide) ?_
        exact B129 v4 (0 : Int32) r110.2 _ _ _ hw (lv_sub hl [0] rfl) h
    · rw [if_neg hc] at h
      refine lv_iconst (v := (0 : Int32)) hx hb dX12_ofPlace_104 (by decide) ?_
      exact rI hC hw hr hlocks (by rw [← Option.some.inj h]) (by rw [← Option.some.inj h]) dX12_ofPlace_105
  have B65 : ∀ (s1 : Int32) (μ : Mu) (H : Heap) (locs : List Loc) (ls : Array Slot), wd g μ s (Aw g s.heap.size) H locs → lv_has ls 6 [(0, .ref (g.2.2 171)), (1, .int v1), (2, .int v2), (3, .int v3), (4, .int v4)] → X12_ofPlace_65 n v1 v2 v3 v4 s1 μ = some r → WQ p l e (rmD 3) s m args below meth c g (some (.int r.1)) r.2 H locs (F0 m 65 ls [.int s1, .ref (g.2.2 171)]) := by
    intro s1 μ H locs ls hw hl h
    rw [X12_ofPlace_65] at h
    refine pI hC hw fl_X12_107 fp_12_5 ok171 dX12_ofPlace_65 (fun H locs hw => ?_)
    refine lv_aload_n hx hb dX12_ofPlace_68 rfl (lv_at hl 0 rfl) ?_
    refine gI hC hw fl_X12_107 ok171 (by decide) dX12_ofPlace_69 ?_
    refine lv_if_ne (tgt := 97) hx hb dX12_ofPlace_72 (by decide) (fun hc => ?_) (fun hc => ?_)
    · rw [if_neg hc] at h
      exact B97 (si μ 171 5 s1) _ _ _ hw (lv_sub hl [0, 1, 2, 3, 4] rfl) h
    · rw [if_pos hc] at h
      refine lv_iload hx hb dX12_ofPlace_75 (lv_at hl 4 rfl) ?_
      refine lv_i2l hx hb dX12_ofPlace_77 rfl ?_
      refine lv_lconst (v := (0 : Int64)) hx hb dX12_ofPlace_78 (by decide) ?_
      refine lv_aload_n hx hb dX12_ofPlace_79 rfl (lv_at hl 0 rfl) ?_
      obtain ⟨r80, hr80, h⟩ := bnd h
      refine cV (b := 171) (As := []) (rest := [.long (0 : Int64), .long (v4.toInt64)]) (st1 := [.int r80.1, .long (0 : Int64), .long (v4.toInt64)]) hC hw (c_X12_pitMany l g n (si μ 171 5 s1) r80 hr80) ml_X12_245 im_X12_pitMany se_X12_pitMany ok171 (CN := RX12) (T := TX12) (NF := 54) rfl rfl (by decide) rfl hl.1 ⟨Nat.le_of_ble_eq_true rfl, Nat.le_of_ble_eq_true rfl⟩ (Nat.le_of_ble_eq_true rfl) ⟨Nat.zero_le _, Nat.zero_le _⟩ rfl dX12_ofPlace_80 (fun H locs hw => ?_)
      refine lv_iconst (v := (1 : Int32)) hx hb dX12_ofPlace_83 (by decide) ?_
      refine lv_isub hx hb dX12_ofPlace_84 ?_
      refine lv_i2l hx hb dX12_ofPlace_85 rfl ?_
      obtain ⟨r86, hr86, h⟩ := bnd h
      refine cS (As := [.long (v4.toInt64), .long (0 : Int64), .long ((r80.1 - (1 : Int32)).toInt64)]) (rest := []) (st1 := [.int r86.1]) hC hw (c_X12_within l g n (v4.toInt64) (0 : Int64) ((r80.1 - (1 : Int32)).toInt64) r80.2 r86 hr86) ml_X12_166 st_X12_within rfl hl.1 ⟨Nat.le_of_ble_eq_true rfl, Nat.le_of_ble_eq_true rfl⟩ (Nat.le_of_ble_eq_true rfl) ⟨Nat.zero_le _, Nat.zero_le _⟩ rfl dX12_ofPlace_86 (fun H locs hw => ?_)
      refine lv_if_ne (tgt := 97) hx hb dX12_ofPlace_89 (by decide) (fun hc => ?_) (fun hc => ?_)
      · rw [if_neg hc] at h
        exact B97 r86.2 _ _ _ hw (lv_sub hl [0, 1, 2, 3, 4] rfl) h
      · rw [if_pos hc] at h
        refine lv_aload_n hx hb dX12_ofPlace_92 rfl (lv_at hl 0 rfl) ?_
        refine lv_iconst (v := (4 : Int32)) hx hb dX12_ofPlace_93 (by decide) ?_
        refine pI hC hw fl_X12_107 fp_12_5 ok171 dX12_ofPlace_94 (fun H locs hw => ?_)
        exact B97 (si r86.2 171 5 (4 : Int32)) _ _ _ hw (lv_sub hl [0, 1, 2, 3, 4] rfl) h
  refine lv_aload_n hx hb dX12_ofPlace_0 rfl (lv_at hl 0 rfl) ?_
  refine lv_iload_n hx hb dX12_ofPlace_1 rfl (lv_at hl 1 rfl) ?_
  obtain ⟨r2, hr2, h⟩ := bnd h
  refine cS (As := [.int v1]) (rest := [.ref (g.2.2 171)]) (st1 := [.int r2.1, .ref (g.2.2 171)]) hC hw (c_X12_isSide l g n v1 μ r2 hr2) ml_X12_254 st_X12_isSide rfl hl.1 ⟨Nat.le_of_ble_eq_true rfl, Nat.le_of_ble_eq_true rfl⟩ (Nat.le_of_ble_eq_true rfl) ⟨Nat.zero_le _, Nat.zero_le _⟩ rfl dX12_ofPlace_2 (fun H locs hw => ?_)
  refine lv_if_ne (tgt := 12) hx hb dX12_ofPlace_5 (by decide) (fun hc => ?_) (fun hc => ?_)
  · rw [if_neg hc] at h
    refine lv_iload_n hx hb dX12_ofPlace_12 rfl (lv_at hl 2 rfl) ?_
    refine lv_i2l hx hb dX12_ofPlace_13 rfl ?_
    refine lv_lconst (v := (0 : Int64)) hx hb dX12_ofPlace_14 (by decide) ?_
    refine lv_ldc2 (v := (40 : Int64)) hx hb hC.2.2.2.1 (hC.2.2.2.2.1 _ cl_X12_357) dX12_ofPlace_15 ?_
    obtain ⟨r18, hr18, h⟩ := bnd h
    refine cS (As := [.long (v2.toInt64), .long (0 : Int64), .long (40 : Int64)]) (rest := [.ref (g.2.2 171)]) (st1 := [.int r18.1, .ref (g.2.2 171)]) hC hw (c_X12_within l g n (v2.toInt64) (0 : Int64) (40 : Int64) r2.2 r18 hr18) ml_X12_166 st_X12_within rfl hl.1 ⟨Nat.le_of_ble_eq_true rfl, Nat.le_of_ble_eq_true rfl⟩ (Nat.le_of_ble_eq_true rfl) ⟨Nat.zero_le _, Nat.zero_le _⟩ rfl dX12_ofPlace_18 (fun H locs hw => ?_)
    refine lv_if_ne (tgt := 28) hx hb dX12_ofPlace_21 (by decide) (fun hc => ?_) (fun hc => ?_)
    · rw [if_neg hc] at h
      refine lv_aload_n hx hb dX12_ofPlace_28 rfl (lv_at hl 0 rfl) ?_
      refine lv_iload_n hx hb dX12_ofPlace_29 rfl (lv_at hl 2 rfl) ?_
      obtain ⟨r30, hr30, h⟩ := bnd h
      refine cV (b := 171) (As := [.int v2]) (rest := [.ref (g.2.2 171)]) (st1 := [.long r30.1, .ref (g.2.2 171)]) hC hw (c_X12_positionsOf l g n v2 r18.2 r30 hr30) ml_X12_359 im_X12_positionsOf se_X12_positionsOf ok171 (CN := RX12) (T := TX12) (NF := 54) rfl rfl (by decide) rfl hl.1 ⟨Nat.le_of_ble_eq_true rfl, Nat.le_of_ble_eq_true rfl⟩ (Nat.le_of_ble_eq_true rfl) ⟨Nat.zero_le _, Nat.zero_le _⟩ rfl dX12_ofPlace_30 (fun H locs hw => ?_)
      refine lv_ldc2 (v := (6000 : Int64)) hx hb hC.2.2.2.1 (hC.2.2.2.2.1 _ cl_X12_363) dX12_ofPlace_33 ?_
      refine W.lcmp hx hb dX12_ofPlace_36 ?_
      refine lv_if_le (tgt := 44) hx hb dX12_ofPlace_37 (by decide) (fun hc => ?_) (fun hc => ?_)
      · rw [if_pos hc] at h
        refine lv_iload_n hx hb dX12_ofPlace_44 rfl (lv_at hl 3 rfl) ?_
        refine lv_i2l hx hb dX12_ofPlace_45 rfl ?_
        refine lv_lconst (v := (0 : Int64)) hx hb dX12_ofPlace_46 (by decide) ?_
        refine lv_aload_n hx hb dX12_ofPlace_47 rfl (lv_at hl 0 rfl) ?_
        refine lv_iload_n hx hb dX12_ofPlace_48 rfl (lv_at hl 2 rfl) ?_
        obtain ⟨r49, hr49, h⟩ := bnd h
        refine cV (b := 171) (As := [.int v2]) (rest := [.long (0 : Int64), .long (v3.toInt64), .ref (g.2.2 171)]) (st1 := [.long r49.1, .long (0 : Int64), .long (v3.toInt64), .ref (g.2.2 171)]) hC hw (c_X12_positionsOf l g n v2 r30.2 r49 hr49) ml_X12_359 im_X12_positionsOf se_X12_positionsOf ok171 (CN := RX12) (T := TX12) (NF := 54) rfl rfl (by decide) rfl hl.1 ⟨Nat.le_of_ble_eq_true rfl, Nat.le_of_ble_eq_true rfl⟩ (Nat.le_of_ble_eq_true rfl) ⟨Nat.zero_le _, Nat.zero_le _⟩ rfl dX12_ofPlace_49 (fun H locs hw => ?_)
        refine lv_lconst (v := (1 : Int64)) hx hb dX12_ofPlace_52 (by decide) ?_
        refine lv_lsub hx hb dX12_ofPlace_53 ?_
        obtain ⟨r54, hr54, h⟩ := bnd h
        refine cS (As := [.long (v3.toInt64), .long (0 : Int64), .long (r49.1 - (1 : Int64))]) (rest := [.ref (g.2.2 171)]) (st1 := [.int r54.1, .ref (g.2.2 171)]) hC hw (c_X12_within l g n (v3.toInt64) (0 : Int64) (r49.1 - (1 : Int64)) r49.2 r54 hr54) ml_X12_166 st_X12_within rfl hl.1 ⟨Nat.le_of_ble_eq_true rfl, Nat.le_of_ble_eq_true rfl⟩ (Nat.le_of_ble_eq_true rfl) ⟨Nat.zero_le _, Nat.zero_le _⟩ rfl dX12_ofPlace_54 (fun H locs hw => ?_)
        refine lv_if_eq (tgt := 64) hx hb dX12_ofPlace_57 (by decide) (fun hc => ?_) (fun hc => ?_)
        · rw [if_pos hc] at h
          refine lv_iconst (v := (1 : Int32)) hx hb dX12_ofPlace_64 (by decide) ?_
          exact B65 (1 : Int32) r54.2 _ _ _ hw (lv_sub hl [0, 1, 2, 3, 4] rfl) h
        · rw [if_neg hc] at h
          refine lv_iconst (v := (0 : Int32)) hx hb dX12_ofPlace_60 (by decide) ?_
          refine lv_goto (tgt := 65) hx hb dX12_ofPlace_61 (by decide) ?_
          exact B65 (0 : Int32) r54.2 _ _ _ hw (lv_sub hl [0, 1, 2, 3, 4] rfl) h
      · rw [if_neg hc] at h
        refine lv_iconst (v := (3 : Int32)) hx hb dX12_ofPlace_40 (by decide) ?_
        refine lv_goto (tgt := 65) hx hb dX12_ofPlace_41 (by decide) ?_
        exact B65 (3 : Int32) r30.2 _ _ _ hw (lv_sub hl [0, 1, 2, 3, 4] rfl) h
    · rw [if_pos hc] at h
      refine lv_iconst (v := (2 : Int32)) hx hb dX12_ofPlace_24 (by decide) ?_
      refine lv_goto (tgt := 65) hx hb dX12_ofPlace_25 (by decide) ?_
      exact B65 (2 : Int32) r18.2 _ _ _ hw (lv_sub hl [0, 1, 2, 3, 4] rfl) h
  · rw [if_pos hc] at h
    refine lv_iconst (v := (1 : Int32)) hx hb dX12_ofPlace_8 (by decide) ?_
    refine lv_goto (tgt := 65) hx hb dX12_ofPlace_9 (by decide) ?_
    exact B65 (1 : Int32) r2.2 _ _ _ hw (lv_sub hl [0, 1, 2, 3, 4] rfl) h
set_option maxRecDepth 100000 in
set_option maxHeartbeats 4000000 in
theorem c_X12_areRules (l : Launch) (g : Gw) (n : Nat) (μ : Mu) (r : Int32 × Mu) (h : X12_areRules n  μ = some r) : Ct l g yX12_areRules cX12_areRules 3 (some .boolean) 0 [.ref (g.2.2 171)] μ (some (.int r.1)) r.2 := by
  rw [X12_areRules] at h
  refine Ct.of (by decide) (Nat.le_of_ble_eq_true rfl) ?_
  intro p e s m args below meth c ls hC hw hr hlocks hl
  have hx := hC.1
  have hb := hC.2.1
  have hl : lv_has ls 3 [(0, .ref (g.2.2 171))] := hl
  have B4 : ∀ (k : Nat), ∀ (v1 : Int32) (v2 : Int32) (μ : Mu) (H : Heap) (locs : List Loc) (ls : Array Slot), wd g μ s (Aw g s.heap.size) H locs → lv_has ls 3 [(0, .ref (g.2.2 171)), (1, .int v1), (2, .int v2)] → lpF (fun _ _ _ => none) (X12_areRules_4b n) k v1 v2 μ = some r → WQ p l e (rmD 0) s m args below meth c g (some (.int r.1)) r.2 H locs (F0 m 4 ls []) := by
    intro k
    induction k with
    | zero =>
      intro v1 v2 μ H locs ls hw hl h
      cases h
    | succ k ih4 =>
      rw [lpF_s]
      generalize lpF (fun _ _ _ => none) (X12_areRules_4b n) k = k4 at ih4 ⊢
      intro v1 v2 μ H locs ls hw hl h
      have B39 : ∀ (v2 : Int32) (s0 : Int32) (μ : Mu) (H : Heap) (locs : List Loc) (ls : Array Slot), wd g μ s (Aw g s.heap.size) H locs → lv_has ls 3 [(0, .ref (g.2.2 171)), (2, .int v2)] → X12_areRules_39 n k4 v2 s0 μ = some r → WQ p l e (rmD 0) s m args below meth c g (some (.int r.1)) r.2 H locs (F0 m 39 ls [.int s0]) := by
        intro v2 s0 μ H locs ls hw hl h
        rw [X12_areRules_39] at h
        refine lv_istore_n (lv' := [(1, .int s0), (0, .ref (g.2.2 171)), (2, .int v2)]) hx hb dX12_areRules_39 rfl hl (by decide) rfl (fun ls hl => ?_)
        refine lv_iinc (v := (v2 + (1 : Int32))) (lv' := [(2, .int (v2 + (1 : Int32))), (1, .int s0), (0, .ref (g.2.2 171))]) hx hb dX12_areRules_40 hl (k := 2) rfl rfl (by decide) rfl (fun ls hl => ?_)
        refine lv_goto (tgt := 4) hx hb dX12_areRules_43 (by decide) ?_
        exact ih4 s0 (v2 + (1 : Int32)) μ _ _ _ hw (lv_sub hl [2, 1, 0] rfl) h
      have B34 : ∀ (v2 : Int32) (μ : Mu) (H : Heap) (locs : List Loc) (ls : Array Slot), wd g μ s (Aw g s.heap.size) H locs → lv_has ls 3 [(0, .ref (g.2.2 171)), (2, .int v2)] → X12_areRules_34 n k4 v2 μ = some r → WQ p l e (rmD 0) s m args below meth c g (some (.int r.1)) r.2 H locs (F0 m 34 ls []) := by
        intro v2 μ H locs ls hw hl h
        rw [X12_areRules_34] at h
        refine lv_iconst (v := (1 : Int32)) hx hb dX12_areRules_34 (by decide) ?_
        refine lv_goto (tgt := 39) hx hb dX12_areRules_35 (by decide) ?_
        exact B39 v2 (1 : Int32) μ _ _ _ hw (lv_sub hl [0, 1] rfl) h
      have B38 : ∀ (v2 : Int32) (μ : Mu) (H : Heap) (locs : List Loc) (ls : Array Slot), wd g μ s (Aw g s.heap.size) H locs → lv_has ls 3 [(0, .ref (g.2.2 171)), (2, .int v2)] → X12_areRules_38 n k4 v2 μ = some r → WQ p l e (rmD 0) s m args below meth c g (some (.int r.1)) r.2 H locs (F0 m 38 ls []) := by
        intro v2 μ H locs ls hw hl h
        rw [X12_areRules_38] at h
        refine lv_iconst (v := (0 : Int32)) hx hb dX12_areRules_38 (by decide) ?_
        exact B39 v2 (0 : Int32) μ _ _ _ hw (lv_sub hl [0, 1] rfl) h
      rw [X12_areRules_4b] at h
      refine lv_iload_n hx hb dX12_areRules_4 rfl (lv_at hl 2 rfl) ?_
      refine lv_bipush (v := (10 : Int32)) hx hb dX12_areRules_5 (by decide) ?_
      refine lv_icmp_gt (tgt := 46) hx hb dX12_areRules_7 (by decide) (fun hc => ?_) (fun hc => ?_)
      · rw [if_pos hc] at h
        refine lv_iload_n hx hb dX12_areRules_46 rfl (lv_at hl 1 rfl) ?_
        obtain ⟨hz47, h⟩ := bz_some h
        exact rZ hC hw hr hlocks hz47 (by rw [← Option.some.inj h]) (by rw [← Option.some.inj h]) dX12_areRules_47
      · rw [if_neg hc] at h
        refine lv_iload_n hx hb dX12_areRules_10 rfl (lv_at hl 1 rfl) ?_
        refine lv_if_eq (tgt := 38) hx hb dX12_areRules_11 (by decide) (fun hc => ?_) (fun hc => ?_)
        · rw [if_pos hc] at h
          exact B38 v2 μ _ _ _ hw (lv_sub hl [0, 2] rfl) h
        · rw [if_neg hc] at h
          refine lv_iload_n hx hb dX12_areRules_14 rfl (lv_at hl 2 rfl) ?_
          refine lv_iconst (v := (2 : Int32)) hx hb dX12_areRules_15 (by decide) ?_
          refine lv_icmp_eq (tgt := 34) hx hb dX12_areRules_16 (by decide) (fun hc => ?_) (fun hc => ?_)
          · rw [if_pos hc] at h
            exact B34 v2 μ _ _ _ hw (lv_sub hl [0, 2] rfl) h
          · rw [if_neg hc] at h
            refine lv_aload_n hx hb dX12_areRules_19 rfl (lv_at hl 0 rfl) ?_
            refine gR (t := 191) hC hw fl_X12_73 ok171 (by decide) ot171_39 dX12_areRules_20 ?_
            refine lv_iload_n hx hb dX12_areRules_23 rfl (lv_at hl 2 rfl) ?_
            obtain ⟨hi24, h⟩ := gd_some h
            refine lI (j := v2.toNatClampNeg) hC hw ok191 on191 hi24 rfl dX12_areRules_24 ?_
            refine lv_aload_n hx hb dX12_areRules_25 rfl (lv_at hl 0 rfl) ?_
            refine gR (t := 172) hC hw fl_X12_9 ok171 (by decide) ot171_0 dX12_areRules_26 ?_
            refine lv_iload_n hx hb dX12_areRules_29 rfl (lv_at hl 2 rfl) ?_
            obtain ⟨hi30, h⟩ := gd_some h
            refine lI (j := v2.toNatClampNeg) hC hw ok172 on172 hi30 rfl dX12_areRules_30 ?_
            refine lv_icmp_ne (tgt := 38) hx hb dX12_areRules_31 (by decide) (fun hc => ?_) (fun hc => ?_)
            · rw [if_neg hc] at h
              exact B38 v2 μ _ _ _ hw (lv_sub hl [0, 2] rfl) h
            · rw [if_pos hc] at h
              exact B34 v2 μ _ _ _ hw (lv_sub hl [0, 2] rfl) h
  refine lv_iconst (v := (1 : Int32)) hx hb dX12_areRules_0 (by decide) ?_
  refine lv_istore_n (lv' := [(1, .int (1 : Int32)), (0, .ref (g.2.2 171))]) hx hb dX12_areRules_1 rfl hl (by decide) rfl (fun ls hl => ?_)
  refine lv_iconst (v := (1 : Int32)) hx hb dX12_areRules_2 (by decide) ?_
  refine lv_istore_n (lv' := [(2, .int (1 : Int32)), (1, .int (1 : Int32)), (0, .ref (g.2.2 171))]) hx hb dX12_areRules_3 rfl hl (by decide) rfl (fun ls hl => ?_)
  exact B4 n (1 : Int32) (1 : Int32) μ _ _ _ hw (lv_sub hl [2, 1, 0] rfl) h
set_option maxRecDepth 100000 in
set_option maxHeartbeats 4000000 in
theorem c_X12_seat (l : Launch) (g : Gw) (n : Nat) (v1 : Int32) (v2 : Int32) (v3 : Int32) (μ : Mu) (r : Int32 × Mu) (h : X12_seat n v1 v2 v3 μ = some r) : Ct l g yX12_seat cX12_seat 4 (some .int) 0 [.ref (g.2.2 171), .int v1, .int v2, .int v3] μ (some (.int r.1)) r.2 := by
  rw [X12_seat] at h
  refine Ct.of (by decide) (Nat.le_of_ble_eq_true rfl) ?_
  intro p e s m args below meth c ls hC hw hr hlocks hl
  have hx := hC.1
  have hb := hC.2.1
  have hl : lv_has ls 4 [(0, .ref (g.2.2 171)), (1, .int v1), (2, .int v2), (3, .int v3)] := hl
  refine lv_sipush (v := (6000 : Int32)) hx hb dX12_seat_0 (by decide) ?_
  refine lv_iload_n hx hb dX12_seat_3 rfl (lv_at hl 1 rfl) ?_
  refine lv_imul hx hb dX12_seat_4 ?_
  refine lv_aload_n hx hb dX12_seat_5 rfl (lv_at hl 0 rfl) ?_
  refine gR (t := 189) hC hw fl_X12_67 ok171 (by decide) ot171_37 dX12_seat_6 ?_
  refine lv_iload_n hx hb dX12_seat_9 rfl (lv_at hl 2 rfl) ?_
  obtain ⟨hi10, h⟩ := gd_some h
  refine lI (j := v2.toNatClampNeg) hC hw ok189 on189 hi10 rfl dX12_seat_10 ?_
  refine lv_iadd hx hb dX12_seat_11 ?_
  refine lv_iload_n hx hb dX12_seat_12 rfl (lv_at hl 3 rfl) ?_
  refine lv_iadd hx hb dX12_seat_13 ?_
  exact rI hC hw hr hlocks (by rw [← Option.some.inj h]) (by rw [← Option.some.inj h]) dX12_seat_14
set_option maxRecDepth 100000 in
set_option maxHeartbeats 4000000 in
theorem c_X12_worthOf (l : Launch) (g : Gw) (n : Nat) (v1 : Int32) (v2 : Int32) (v3 : Nat) (μ : Mu) (r : Int32 × Mu) (h : X12_worthOf n v1 v2 v3 μ = some r) : Ct l g yX12_worthOf cX12_worthOf 5 (some .int) 0 [.ref (g.2.2 171), .int v1, .int v2, .ref (g.2.2 v3)] μ (some (.int r.1)) r.2 := by
  rw [X12_worthOf] at h
  obtain ⟨hk3, h⟩ := kd_some h
  refine Ct.of (by decide) (Nat.le_of_ble_eq_true rfl) ?_
  intro p e s m args below meth c ls hC hw hr hlocks hl
  have hx := hC.1
  have hb := hC.2.1
  have hl : lv_has ls 5 [(0, .ref (g.2.2 171)), (1, .int v1), (2, .int v2), (3, .ref (g.2.2 v3))] := hl
  have B50 : ∀ (s0 : Int32) (s1 : Int32) (μ : Mu) (H : Heap) (locs : List Loc) (ls : Array Slot), wd g μ s (Aw g s.heap.size) H locs → lv_has ls 5 [] → X12_worthOf_50 n v1 v2 v3 s0 s1 μ = some r → WQ p l e (rmD 0) s m args below meth c g (some (.int r.1)) r.2 H locs (F0 m 50 ls [.int s1, .int s0]) := by
    intro s0 s1 μ H locs ls hw hl h
    rw [X12_worthOf_50] at h
    refine lv_iadd hx hb dX12_worthOf_50 ?_
    exact rI hC hw hr hlocks (by rw [← Option.some.inj h]) (by rw [← Option.some.inj h]) dX12_worthOf_51
  refine lv_aload_n hx hb dX12_worthOf_0 rfl (lv_at hl 0 rfl) ?_
  refine gR (t := 187) hC hw fl_X12_61 ok171 (by decide) ot171_35 dX12_worthOf_1 ?_
  refine lv_bipush (v := (6 : Int32)) hx hb dX12_worthOf_4 (by decide) ?_
  refine lv_iload_n hx hb dX12_worthOf_6 rfl (lv_at hl 1 rfl) ?_
  refine lv_imul hx hb dX12_worthOf_7 ?_
  refine lv_iload_n hx hb dX12_worthOf_8 rfl (lv_at hl 2 rfl) ?_
  refine lv_iadd hx hb dX12_worthOf_9 ?_
  obtain ⟨hi10, h⟩ := gd_some h
  refine lI (j := (((6 : Int32) * v1) + v2).toNatClampNeg) hC hw ok187 on187 hi10 rfl dX12_worthOf_10 ?_
  refine lv_istore (lv' := [(4, .int (μ.1 187 (((6 : Int32) * v1) + v2).toNatClampNeg)), (0, .ref (g.2.2 171)), (1, .int v1), (2, .int v2), (3, .ref (g.2.2 v3))]) hx hb dX12_worthOf_11 hl (by decide) rfl (fun ls hl => ?_)
  refine lv_aload_n hx hb dX12_worthOf_13 rfl (lv_at hl 1 rfl) ?_
  refine gR (t := 188) hC hw fl_X12_64 ok171 (by decide) ot171_36 dX12_worthOf_14 ?_
  refine lv_bipush (v := (6 : Int32)) hx hb dX12_worthOf_17 (by decide) ?_
  refine lv_iload_n hx hb dX12_worthOf_19 rfl (lv_at hl 2 rfl) ?_
  refine lv_imul hx hb dX12_worthOf_20 ?_
  refine lv_iload_n hx hb dX12_worthOf_21 rfl (lv_at hl 3 rfl) ?_
  refine lv_iadd hx hb dX12_worthOf_22 ?_
  refine lI (j := (((6 : Int32) * v1) + v2).toNatClampNeg) hC hw ok188 on188 hi10 rfl dX12_worthOf_23 ?_
  refine lv_iload hx hb dX12_worthOf_24 (lv_at hl 0 rfl) ?_
  refine lv_sipush (v := (6000 : Int32)) hx hb dX12_worthOf_26 (by decide) ?_
  refine lv_idiv hx hb dX12_worthOf_29 (by decide) ?_
  refine lv_iload_n hx hb dX12_worthOf_30 rfl (lv_at hl 2 rfl) ?_
  refine lv_sipush (v := (6000 : Int32)) hx hb dX12_worthOf_31 (by decide) ?_
  refine lv_idiv hx hb dX12_worthOf_34 (by decide) ?_
  refine lv_icmp_ne (tgt := 45) hx hb dX12_worthOf_35 (by decide) (fun hc => ?_) (fun hc => ?_)
  · rw [if_neg hc] at h
    refine lv_aload_n hx hb dX12_worthOf_45 rfl (lv_at hl 4 rfl) ?_
    refine lv_iload hx hb dX12_worthOf_46 (lv_at hl 0 rfl) ?_
    obtain ⟨hi48, h⟩ := gd_some h
    refine lI (j := (μ.1 187 (((6 : Int32) * v1) + v2).toNatClampNeg).toNatClampNeg) hC hw hk3 rfl hi48 rfl dX12_worthOf_48 ?_
    refine lv_ineg hx hb dX12_worthOf_49 ?_
    exact B50 (μ.1 188 (((6 : Int32) * v1) + v2).toNatClampNeg) (-(μ.1 v3 (μ.1 187 (((6 : Int32) * v1) + v2).toNatClampNeg).toNatClampNeg)) μ _ _ _ hw (lv_sub hl [] rfl) h
  · rw [if_pos hc] at h
    refine lv_aload_n hx hb dX12_worthOf_38 rfl (lv_at hl 4 rfl) ?_
    refine lv_iload hx hb dX12_worthOf_39 (lv_at hl 0 rfl) ?_
    obtain ⟨hi41, h⟩ := gd_some h
    refine lI (j := (μ.1 187 (((6 : Int32) * v1) + v2).toNatClampNeg).toNatClampNeg) hC hw hk3 rfl hi41 rfl dX12_worthOf_41 ?_
    refine lv_goto (tgt := 50) hx hb dX12_worthOf_42 (by decide) ?_
    exact B50 (μ.1 188 (((6 : Int32) * v1) + v2).toNatClampNeg) (μ.1 v3 (μ.1 187 (((6 : Int32) * v1) + v2).toNatClampNeg).toNatClampNeg) μ _ _ _ hw (lv_sub hl [] rfl) h
set_option maxRecDepth 100000 in
set_option maxHeartbeats 4000000 in
theorem c_X12_ownLess (l : Launch) (g : Gw) (n : Nat) (v1 : Int32) (v2 : Int32) (v3 : Int32) (μ : Mu) (r : Int32 × Mu) (h : X12_ownLess n v1 v2 v3 μ = some r) : Ct l g yX12_ownLess cX12_ownLess 4 (some .int) 3 [.ref (g.2.2 171), .int v1, .int v2, .int v3] μ (some (.int r.1)) r.2 := by
  rw [X12_ownLess] at h
  refine Ct.of (by decide) (Nat.le_of_ble_eq_true rfl) ?_
  intro p e s m args below meth c ls hC hw hr hlocks hl
  have hx := hC.1
  have hb := hC.2.1
  have hl : lv_has ls 4 [(0, .ref (g.2.2 171)), (1, .int v1), (2, .int v2), (3, .int v3)] := hl
  refine lv_aload_n hx hb dX12_ownLess_0 rfl (lv_at hl 0 rfl) ?_
  refine lv_iload_n hx hb dX12_ownLess_1 rfl (lv_at hl 1 rfl) ?_
  refine lv_iload_n hx hb dX12_ownLess_2 rfl (lv_at hl 2 rfl) ?_
  refine lv_iload_n hx hb dX12_ownLess_3 rfl (lv_at hl 3 rfl) ?_
  obtain ⟨r4, hr4, h⟩ := bnd h
  refine cV (b := 171) (As := [.int v1, .int v2, .int v3]) (rest := []) (st1 := []) hC hw (c_X12_lays l g n v1 v2 v3 μ r4 hr4) ml_X12_371 im_X12_lays se_X12_lays ok171 (CN := RX12) (T := TX12) (NF := 54) rfl rfl (by decide) rfl hl.1 ⟨Nat.le_of_ble_eq_true rfl, Nat.le_of_ble_eq_true rfl⟩ (Nat.le_of_ble_eq_true rfl) ⟨Nat.zero_le _, Nat.zero_le _⟩ rfl dX12_ownLess_4 (fun H locs hw => ?_)
  refine lv_aload_n hx hb dX12_ownLess_7 rfl (lv_at hl 0 rfl) ?_
  refine lv_iload_n hx hb dX12_ownLess_8 rfl (lv_at hl 1 rfl) ?_
  obtain ⟨r9, hr9, h⟩ := bnd h
  refine cV (b := 171) (As := [.int v1]) (rest := []) (st1 := [.int r9.1]) hC hw (c_X12_sum l g n v1 r4.2 r9 hr9) ml_X12_290 im_X12_sum se_X12_sum ok171 (CN := RX12) (T := TX12) (NF := 54) rfl rfl (by decide) rfl hl.1 ⟨Nat.le_of_ble_eq_true rfl, Nat.le_of_ble_eq_true rfl⟩ (Nat.le_of_ble_eq_true rfl) ⟨Nat.zero_le _, Nat.zero_le _⟩ rfl dX12_ownLess_9 (fun H locs hw => ?_)
  refine lv_aload_n hx hb dX12_ownLess_12 rfl (lv_at hl 0 rfl) ?_
  refine lv_iconst (v := (1 : Int32)) hx hb dX12_ownLess_13 (by decide) ?_
  refine lv_iload_n hx hb dX12_ownLess_14 rfl (lv_at hl 1 rfl) ?_
  refine lv_isub hx hb dX12_ownLess_15 ?_
  obtain ⟨r16, hr16, h⟩ := bnd h
  refine cV (b := 171) (As := [.int ((1 : Int32) - v1)]) (rest := [.int r9.1]) (st1 := [.int r16.1, .int r9.1]) hC hw (c_X12_sum l g n ((1 : Int32) - v1) r9.2 r16 hr16) ml_X12_290 im_X12_sum se_X12_sum ok171 (CN := RX12) (T := TX12) (NF := 54) rfl rfl (by decide) rfl hl.1 ⟨Nat.le_of_ble_eq_true rfl, Nat.le_of_ble_eq_true rfl⟩ (Nat.le_of_ble_eq_true rfl) ⟨Nat.zero_le _, Nat.zero_le _⟩ rfl dX12_ownLess_16 (fun H locs hw => ?_)
  refine lv_isub hx hb dX12_ownLess_19 ?_
  exact rI hC hw hr hlocks (by rw [← Option.some.inj h]) (by rw [← Option.some.inj h]) dX12_ownLess_20
