set_option maxRecDepth 100000 in
set_option maxHeartbeats 4000000 in
theorem c_X12_most (l : Launch) (g : Gw) (n : Nat) (v1 : Int32) (v2 : Int32) (v3 : Int32) (μ : Mu) (r : Int32 × Mu) (h : X12_most n v1 v2 v3 μ = some r) : Ct l g yX12_most cX12_most 9 (some .int) 10 [.ref (g.2.2 171), .int v1, .int v2, .int v3] μ (some (.int r.1)) r.2 := by
  rw [X12_most] at h
  refine Ct.of (by decide) (Nat.le_of_ble_eq_true rfl) ?_
  intro p e s m args below meth c ls hC hw hr hlocks hl
  have hx := hC.1
  have hb := hC.2.1
  have hl : lv_has ls 9 [(0, .ref (g.2.2 171)), (1, .int v1), (2, .int v2), (3, .int v3)] := hl
  have B205 : ∀ (s0 : Int32) (μ : Mu) (H : Heap) (locs : List Loc) (ls : Array Slot), wd g μ s (Aw g s.heap.size) H locs → lv_has ls 9 [] → X12_most_205 n v1 v2 v3 s0 μ = some r → WQ p l e (rmD 10) s m args below meth c g (some (.int r.1)) r.2 H locs (F0 m 205 ls [.int s0]) := by
    intro s0 μ H locs ls hw hl h
    rw [X12_most_205] at h
    exact rI hC hw hr hlocks (by rw [← Option.some.inj h]) (by rw [← Option.some.inj h]) dX12_most_205
  have B187 : ∀ (v4 : Int32) (μ : Mu) (H : Heap) (locs : List Loc) (ls : Array Slot), wd g μ s (Aw g s.heap.size) H locs → lv_has ls 9 [(4, .int v4)] → X12_most_187 n v1 v2 v3 v4 μ = some r → WQ p l e (rmD 10) s m args below meth c g (some (.int r.1)) r.2 H locs (F0 m 187 ls []) := by
    intro v4 μ H locs ls hw hl h
    rw [X12_most_187] at h
    refine lv_iload hx hb dX12_most_187 (lv_at hl 0 rfl) ?_
    refine lv_goto (tgt := 205) hx hb dX12_most_189 (by decide) ?_
    exact B205 v4 μ _ _ _ hw (lv_sub hl [] rfl) h
  have B74 : ∀ (k : Nat), ∀ (v4 : Int32) (v5 : Int32) (v6 : Int32) (μ : Mu) (H : Heap) (locs : List Loc) (ls : Array Slot), wd g μ s (Aw g s.heap.size) H locs → lv_has ls 9 [(0, .ref (g.2.2 171)), (1, .int v1), (2, .int v2), (3, .int v3), (4, .int v4), (5, .int v5), (6, .int v6)] → lpF (fun _ _ _ _ => none) (X12_most_74b n v1 v2 v3) k v4 v5 v6 μ = some r → WQ p l e (rmD 10) s m args below meth c g (some (.int r.1)) r.2 H locs (F0 m 74 ls []) := by
    intro k
    induction k with
    | zero =>
      intro v4 v5 v6 μ H locs ls hw hl h
      cases h
    | succ k ih74 =>
      rw [lpF_s]
      generalize lpF (fun _ _ _ _ => none) (X12_most_74b n v1 v2 v3) k = k74 at ih74 ⊢
      intro v4 v5 v6 μ H locs ls hw hl h
      have B168 : ∀ (v4 : Int32) (v5 : Int32) (v6 : Int32) (μ : Mu) (H : Heap) (locs : List Loc) (ls : Array Slot), wd g μ s (Aw g s.heap.size) H locs → lv_has ls 9 [(0, .ref (g.2.2 171)), (1, .int v1), (2, .int v2), (3, .int v3), (4, .int v4), (5, .int v5), (6, .int v6)] → X12_most_168 n v1 v2 v3 k74 v4 v5 v6 μ = some r → WQ p l e (rmD 10) s m args below meth c g (some (.int r.1)) r.2 H locs (F0 m 168 ls []) := by
        intro v4 v5 v6 μ H locs ls hw hl h
        rw [X12_most_168] at h
        refine lv_iinc (v := (v6 + (1 : Int32))) (lv' := [(6, .int (v6 + (1 : Int32))), (0, .ref (g.2.2 171)), (1, .int v1), (2, .int v2), (3, .int v3), (4, .int v4), (5, .int v5)]) hx hb dX12_most_168 hl (k := 6) rfl rfl (by decide) rfl (fun ls hl => ?_)
        refine lv_goto (tgt := 74) hx hb dX12_most_171 (by decide) ?_
        exact ih74 v4 v5 (v6 + (1 : Int32)) μ _ _ _ hw (lv_sub hl [1, 2, 3, 4, 5, 6, 0] rfl) h
      have B160 : ∀ (v6 : Int32) (v8 : Int32) (μ : Mu) (H : Heap) (locs : List Loc) (ls : Array Slot), wd g μ s (Aw g s.heap.size) H locs → lv_has ls 9 [(0, .ref (g.2.2 171)), (1, .int v1), (2, .int v2), (3, .int v3), (6, .int v6), (8, .int v8)] → X12_most_160 n v1 v2 v3 k74 v6 v8 μ = some r → WQ p l e (rmD 10) s m args below meth c g (some (.int r.1)) r.2 H locs (F0 m 160 ls []) := by
        intro v6 v8 μ H locs ls hw hl h
        rw [X12_most_160] at h
        refine lv_iload hx hb dX12_most_160 (lv_at hl 4 rfl) ?_
        refine lv_istore (lv' := [(4, .int v6), (0, .ref (g.2.2 171)), (1, .int v1), (2, .int v2), (3, .int v3), (6, .int v6), (8, .int v8)]) hx hb dX12_most_162 hl (by decide) rfl (fun ls hl => ?_)
        refine lv_iload hx hb dX12_most_164 (lv_at hl 6 rfl) ?_
        refine lv_istore (lv' := [(5, .int v8), (4, .int v6), (0, .ref (g.2.2 171)), (1, .int v1), (2, .int v2), (3, .int v3), (6, .int v6), (8, .int v8)]) hx hb dX12_most_166 hl (by decide) rfl (fun ls hl => ?_)
        exact B168 v6 v8 v6 μ _ _ _ hw (lv_sub hl [2, 3, 4, 5, 1, 0, 6] rfl) h
      have B142 : ∀ (v4 : Int32) (v5 : Int32) (v6 : Int32) (s0 : Int32) (μ : Mu) (H : Heap) (locs : List Loc) (ls : Array Slot), wd g μ s (Aw g s.heap.size) H locs → lv_has ls 9 [(0, .ref (g.2.2 171)), (1, .int v1), (2, .int v2), (3, .int v3), (4, .int v4), (5, .int v5), (6, .int v6)] → X12_most_142 n v1 v2 v3 k74 v4 v5 v6 s0 μ = some r → WQ p l e (rmD 10) s m args below meth c g (some (.int r.1)) r.2 H locs (F0 m 142 ls [.int s0]) := by
        intro v4 v5 v6 s0 μ H locs ls hw hl h
        rw [X12_most_142] at h
        refine lv_istore (lv' := [(8, .int s0), (0, .ref (g.2.2 171)), (1, .int v1), (2, .int v2), (3, .int v3), (4, .int v4), (5, .int v5), (6, .int v6)]) hx hb dX12_most_142 hl (by decide) rfl (fun ls hl => ?_)
        refine lv_iload hx hb dX12_most_144 (lv_at hl 5 rfl) ?_
        refine lv_iconst (v := ((-1) : Int32)) hx hb dX12_most_146 (by decide) ?_
        refine lv_icmp_eq (tgt := 160) hx hb dX12_most_147 (by decide) (fun hc => ?_) (fun hc => ?_)
        · rw [if_pos hc] at h
          exact B160 v6 s0 μ _ _ _ hw (lv_sub hl [1, 2, 3, 4, 7, 0] rfl) h
        · rw [if_neg hc] at h
          refine lv_iload hx hb dX12_most_150 (lv_at hl 0 rfl) ?_
          refine lv_iload hx hb dX12_most_152 (lv_at hl 6 rfl) ?_
          refine lv_icmp_gt (tgt := 160) hx hb dX12_most_154 (by decide) (fun hc => ?_) (fun hc => ?_)
          · rw [if_pos hc] at h
            exact B160 v6 s0 μ _ _ _ hw (lv_sub hl [1, 2, 3, 4, 7, 0] rfl) h
          · rw [if_neg hc] at h
            refine lv_goto (tgt := 168) hx hb dX12_most_157 (by decide) ?_
            exact B168 v4 v5 v6 μ _ _ _ hw (lv_sub hl [1, 2, 3, 4, 5, 6, 7] rfl) h
      rw [X12_most_74b] at h
      refine lv_iload hx hb dX12_most_74 (lv_at hl 6 rfl) ?_
      refine lv_aload_n hx hb dX12_most_76 rfl (lv_at hl 0 rfl) ?_
      refine gR (t := 189) hC hw fl_X12_67 ok171 (by decide) ot171_37 dX12_most_77 ?_
      refine lv_iload_n hx hb dX12_most_80 rfl (lv_at hl 2 rfl) ?_
      refine lv_iconst (v := (1 : Int32)) hx hb dX12_most_81 (by decide) ?_
      refine lv_iadd hx hb dX12_most_82 ?_
      obtain ⟨hi83, h⟩ := gd_some h
      refine lI (j := (v2 + (1 : Int32)).toNatClampNeg) hC hw ok189 on189 hi83 rfl dX12_most_83 ?_
      refine lv_aload_n hx hb dX12_most_84 rfl (lv_at hl 0 rfl) ?_
      refine gR (t := 189) hC hw fl_X12_67 ok171 (by decide) ot171_37 dX12_most_85 ?_
      refine lv_iload_n hx hb dX12_most_88 rfl (lv_at hl 2 rfl) ?_
      obtain ⟨hi89, h⟩ := gd_some h
      refine lI (j := v2.toNatClampNeg) hC hw ok189 on189 hi89 rfl dX12_most_89 ?_
      refine lv_isub hx hb dX12_most_90 ?_
      refine lv_icmp_ge (tgt := 174) hx hb dX12_most_91 (by decide) (fun hc => ?_) (fun hc => ?_)
      · rw [if_pos hc] at h
        refine lv_iload hx hb dX12_most_174 (lv_at hl 4 rfl) ?_
        refine lv_iconst (v := ((-1) : Int32)) hx hb dX12_most_176 (by decide) ?_
        refine lv_icmp_eq (tgt := 187) hx hb dX12_most_177 (by decide) (fun hc => ?_) (fun hc => ?_)
        · rw [if_pos hc] at h
          exact B187 v4 μ _ _ _ hw (lv_sub hl [4] rfl) h
        · rw [if_neg hc] at h
          refine lv_iload_n hx hb dX12_most_180 rfl (lv_at hl 3 rfl) ?_
          refine lv_iconst (v := (2 : Int32)) hx hb dX12_most_181 (by decide) ?_
          refine lv_irem hx hb dX12_most_182 (by decide) ?_
          refine lv_iconst (v := (1 : Int32)) hx hb dX12_most_183 (by decide) ?_
          refine lv_icmp_ne (tgt := 192) hx hb dX12_most_184 (by decide) (fun hc => ?_) (fun hc => ?_)
          · rw [if_neg hc] at h
            refine lv_iload_n hx hb dX12_most_192 rfl (lv_at hl 3 rfl) ?_
            refine lv_iconst (v := (2 : Int32)) hx hb dX12_most_193 (by decide) ?_
            refine lv_icmp_ne (tgt := 203) hx hb dX12_most_194 (by decide) (fun hc => ?_) (fun hc => ?_)
            · rw [if_neg hc] at h
              refine lv_iload hx hb dX12_most_203 (lv_at hl 5 rfl) ?_
              exact B205 v5 μ _ _ _ hw (lv_sub hl [] rfl) h
            · rw [if_pos hc] at h
              refine lv_iload hx hb dX12_most_197 (lv_at hl 5 rfl) ?_
              refine lv_ineg hx hb dX12_most_199 ?_
              refine lv_goto (tgt := 205) hx hb dX12_most_200 (by decide) ?_
              exact B205 (-v5) μ _ _ _ hw (lv_sub hl [] rfl) h
          · rw [if_pos hc] at h
            exact B187 v4 μ _ _ _ hw (lv_sub hl [4] rfl) h
      · rw [if_neg hc] at h
        refine lv_aload_n hx hb dX12_most_94 rfl (lv_at hl 0 rfl) ?_
        refine lv_iload_n hx hb dX12_most_95 rfl (lv_at hl 1 rfl) ?_
        refine lv_iload_n hx hb dX12_most_96 rfl (lv_at hl 2 rfl) ?_
        refine lv_iload hx hb dX12_most_97 (lv_at hl 6 rfl) ?_
        obtain ⟨r99, hr99, h⟩ := bnd h
        refine cV (b := 171) (As := [.int v1, .int v2, .int v6]) (rest := []) (st1 := [.int r99.1]) hC hw (c_X12_seat l g n v1 v2 v6 μ r99 hr99) ml_X12_384 im_X12_seat se_X12_seat ok171 (CN := RX12) (T := TX12) (NF := 54) rfl rfl (by decide) rfl hl.1 ⟨Nat.le_of_ble_eq_true rfl, Nat.le_of_ble_eq_true rfl⟩ (Nat.le_of_ble_eq_true rfl) ⟨Nat.zero_le _, Nat.zero_le _⟩ rfl dX12_most_99 (fun H locs hw => ?_)
        refine lv_istore (lv' := [(7, .int r99.1), (0, .ref (g.2.2 171)), (1, .int v1), (2, .int v2), (3, .int v3), (4, .int v4), (5, .int v5), (6, .int v6)]) hx hb dX12_most_102 hl (by decide) rfl (fun ls hl => ?_)
        refine lv_iload_n hx hb dX12_most_104 rfl (lv_at hl 4 rfl) ?_
        refine lv_iconst (v := (2 : Int32)) hx hb dX12_most_105 (by decide) ?_
        refine lv_icmp_ge (tgt := 119) hx hb dX12_most_106 (by decide) (fun hc => ?_) (fun hc => ?_)
        · rw [if_pos hc] at h
          refine lv_iload_n hx hb dX12_most_119 rfl (lv_at hl 4 rfl) ?_
          refine lv_iconst (v := (4 : Int32)) hx hb dX12_most_120 (by decide) ?_
          refine lv_icmp_ge (tgt := 135) hx hb dX12_most_121 (by decide) (fun hc => ?_) (fun hc => ?_)
          · rw [if_pos hc] at h
            refine lv_aload_n hx hb dX12_most_135 rfl (lv_at hl 1 rfl) ?_
            refine gR (t := 185) hC hw fl_X12_54 ok171 (by decide) ot171_33 dX12_most_136 ?_
            refine lv_iload hx hb dX12_most_139 (lv_at hl 0 rfl) ?_
            obtain ⟨hi141, h⟩ := gd_some h
            refine lI (j := r99.1.toNatClampNeg) hC hw ok185 on185 hi141 rfl dX12_most_141 ?_
            exact B142 v4 v5 v6 (r99.2.1 185 r99.1.toNatClampNeg) r99.2 _ _ _ hw (lv_sub hl [1, 2, 3, 4, 5, 6, 7] rfl) h
          · rw [if_neg hc] at h
            refine lv_aload_n hx hb dX12_most_124 rfl (lv_at hl 1 rfl) ?_
            refine gR (t := 184) hC hw fl_X12_51 ok171 (by decide) ot171_32 dX12_most_125 ?_
            refine lv_iload hx hb dX12_most_128 (lv_at hl 0 rfl) ?_
            obtain ⟨hi130, h⟩ := gd_some h
            refine lI (j := r99.1.toNatClampNeg) hC hw ok184 on184 hi130 rfl dX12_most_130 ?_
            refine lv_ineg hx hb dX12_most_131 ?_
            refine lv_goto (tgt := 142) hx hb dX12_most_132 (by decide) ?_
            exact B142 v4 v5 v6 (-(r99.2.1 184 r99.1.toNatClampNeg)) r99.2 _ _ _ hw (lv_sub hl [1, 2, 3, 4, 5, 6, 7] rfl) h
        · rw [if_neg hc] at h
          refine lv_aload_n hx hb dX12_most_109 rfl (lv_at hl 1 rfl) ?_
          refine gR (t := 184) hC hw fl_X12_51 ok171 (by decide) ot171_32 dX12_most_110 ?_
          refine lv_iload hx hb dX12_most_113 (lv_at hl 0 rfl) ?_
          obtain ⟨hi115, h⟩ := gd_some h
          refine lI (j := r99.1.toNatClampNeg) hC hw ok184 on184 hi115 rfl dX12_most_115 ?_
          refine lv_goto (tgt := 142) hx hb dX12_most_116 (by decide) ?_
          exact B142 v4 v5 v6 (r99.2.1 184 r99.1.toNatClampNeg) r99.2 _ _ _ hw (lv_sub hl [1, 2, 3, 4, 5, 6, 7] rfl) h
  have B53 : ∀ (s1 : Int32) (μ : Mu) (H : Heap) (locs : List Loc) (ls : Array Slot), wd g μ s (Aw g s.heap.size) H locs → lv_has ls 9 [(0, .ref (g.2.2 171)), (1, .int v1), (2, .int v2), (3, .int v3)] → X12_most_53 n v1 v2 v3 s1 μ = some r → WQ p l e (rmD 10) s m args below meth c g (some (.int r.1)) r.2 H locs (F0 m 53 ls [.int s1, .ref (g.2.2 171)]) := by
    intro s1 μ H locs ls hw hl h
    rw [X12_most_53] at h
    refine pI hC hw fl_X12_107 fp_12_5 ok171 dX12_most_53 (fun H locs hw => ?_)
    refine lv_aload_n hx hb dX12_most_56 rfl (lv_at hl 0 rfl) ?_
    refine gI hC hw fl_X12_107 ok171 (by decide) dX12_most_57 ?_
    refine lv_if_le (tgt := 65) hx hb dX12_most_60 (by decide) (fun hc => ?_) (fun hc => ?_)
    · rw [if_pos hc] at h
      refine lv_iconst (v := ((-1) : Int32)) hx hb dX12_most_65 (by decide) ?_
      refine lv_istore (lv' := [(4, .int ((-1) : Int32)), (0, .ref (g.2.2 171)), (1, .int v1), (2, .int v2), (3, .int v3)]) hx hb dX12_most_66 hl (by decide) rfl (fun ls hl => ?_)
      refine lv_iconst (v := (0 : Int32)) hx hb dX12_most_68 (by decide) ?_
      refine lv_istore (lv' := [(5, .int (0 : Int32)), (4, .int ((-1) : Int32)), (0, .ref (g.2.2 171)), (1, .int v1), (2, .int v2), (3, .int v3)]) hx hb dX12_most_69 hl (by decide) rfl (fun ls hl => ?_)
      refine lv_iconst (v := (0 : Int32)) hx hb dX12_most_71 (by decide) ?_
      refine lv_istore (lv' := [(6, .int (0 : Int32)), (5, .int (0 : Int32)), (4, .int ((-1) : Int32)), (0, .ref (g.2.2 171)), (1, .int v1), (2, .int v2), (3, .int v3)]) hx hb dX12_most_72 hl (by decide) rfl (fun ls hl => ?_)
      exact B74 n ((-1) : Int32) (0 : Int32) (0 : Int32) (si μ 171 5 s1) _ _ _ hw (lv_sub hl [3, 4, 5, 6, 2, 1, 0] rfl) h
    · rw [if_neg hc] at h
      refine lv_iconst (v := (0 : Int32)) hx hb dX12_most_63 (by decide) ?_
      exact rI hC hw hr hlocks (by rw [← Option.some.inj h]) (by rw [← Option.some.inj h]) dX12_most_64
  have B36 : ∀ (μ : Mu) (H : Heap) (locs : List Loc) (ls : Array Slot), wd g μ s (Aw g s.heap.size) H locs → lv_has ls 9 [(0, .ref (g.2.2 171)), (1, .int v1), (2, .int v2), (3, .int v3)] → X12_most_36 n v1 v2 v3  μ = some r → WQ p l e (rmD 10) s m args below meth c g (some (.int r.1)) r.2 H locs (F0 m 36 ls [.ref (g.2.2 171)]) := by
    intro μ H locs ls hw hl h
    rw [X12_most_36] at h
    refine lv_iconst (v := (2 : Int32)) hx hb dX12_most_36 (by decide) ?_
    refine lv_goto (tgt := 53) hx hb dX12_most_37 (by decide) ?_
    exact B53 (2 : Int32) μ _ _ _ hw (lv_sub hl [0, 1, 2, 3] rfl) h
  refine lv_aload_n hx hb dX12_most_0 rfl (lv_at hl 0 rfl) ?_
  refine lv_iload_n hx hb dX12_most_1 rfl (lv_at hl 1 rfl) ?_
  obtain ⟨r2, hr2, h⟩ := bnd h
  refine cS (As := [.int v1]) (rest := [.ref (g.2.2 171)]) (st1 := [.int r2.1, .ref (g.2.2 171)]) hC hw (c_X12_isSide l g n v1 μ r2 hr2) ml_X12_254 st_X12_isSide rfl hl.1 ⟨Nat.le_of_ble_eq_true rfl, Nat.le_of_ble_eq_true rfl⟩ (Nat.le_of_ble_eq_true rfl) ⟨Nat.zero_le _, Nat.zero_le _⟩ rfl dX12_most_2 (fun H locs hw => ?_)
  refine lv_if_ne (tgt := 12) hx hb dX12_most_5 (by decide) (fun hc => ?_) (fun hc => ?_)
  · rw [if_neg hc] at h
    refine lv_iload_n hx hb dX12_most_12 rfl (lv_at hl 2 rfl) ?_
    refine lv_i2l hx hb dX12_most_13 rfl ?_
    refine lv_lconst (v := (0 : Int64)) hx hb dX12_most_14 (by decide) ?_
    refine lv_ldc2 (v := (40 : Int64)) hx hb hC.2.2.2.1 (hC.2.2.2.2.1 _ cl_X12_357) dX12_most_15 ?_
    obtain ⟨r18, hr18, h⟩ := bnd h
    refine cS (As := [.long (v2.toInt64), .long (0 : Int64), .long (40 : Int64)]) (rest := [.ref (g.2.2 171)]) (st1 := [.int r18.1, .ref (g.2.2 171)]) hC hw (c_X12_within l g n (v2.toInt64) (0 : Int64) (40 : Int64) r2.2 r18 hr18) ml_X12_166 st_X12_within rfl hl.1 ⟨Nat.le_of_ble_eq_true rfl, Nat.le_of_ble_eq_true rfl⟩ (Nat.le_of_ble_eq_true rfl) ⟨Nat.zero_le _, Nat.zero_le _⟩ rfl dX12_most_18 (fun H locs hw => ?_)
    refine lv_if_eq (tgt := 36) hx hb dX12_most_21 (by decide) (fun hc => ?_) (fun hc => ?_)
    · rw [if_pos hc] at h
      exact B36 r18.2 _ _ _ hw (lv_sub hl [0, 1, 2, 3] rfl) h
    · rw [if_neg hc] at h
      refine lv_iload_n hx hb dX12_most_24 rfl (lv_at hl 3 rfl) ?_
      refine lv_i2l hx hb dX12_most_25 rfl ?_
      refine lv_lconst (v := (0 : Int64)) hx hb dX12_most_26 (by decide) ?_
      refine lv_ldc2 (v := (5 : Int64)) hx hb hC.2.2.2.1 (hC.2.2.2.2.1 _ cl_X12_428) dX12_most_27 ?_
      obtain ⟨r30, hr30, h⟩ := bnd h
      refine cS (As := [.long (v3.toInt64), .long (0 : Int64), .long (5 : Int64)]) (rest := [.ref (g.2.2 171)]) (st1 := [.int r30.1, .ref (g.2.2 171)]) hC hw (c_X12_within l g n (v3.toInt64) (0 : Int64) (5 : Int64) r18.2 r30 hr30) ml_X12_166 st_X12_within rfl hl.1 ⟨Nat.le_of_ble_eq_true rfl, Nat.le_of_ble_eq_true rfl⟩ (Nat.le_of_ble_eq_true rfl) ⟨Nat.zero_le _, Nat.zero_le _⟩ rfl dX12_most_30 (fun H locs hw => ?_)
      refine lv_if_ne (tgt := 40) hx hb dX12_most_33 (by decide) (fun hc => ?_) (fun hc => ?_)
      · rw [if_neg hc] at h
        refine lv_aload_n hx hb dX12_most_40 rfl (lv_at hl 0 rfl) ?_
        refine lv_iload_n hx hb dX12_most_41 rfl (lv_at hl 2 rfl) ?_
        obtain ⟨r42, hr42, h⟩ := bnd h
        refine cV (b := 171) (As := [.int v2]) (rest := [.ref (g.2.2 171)]) (st1 := [.int r42.1, .ref (g.2.2 171)]) hC hw (c_X12_solves l g n v2 r30.2 r42 hr42) ml_X12_407 im_X12_solves se_X12_solves ok171 (CN := RX12) (T := TX12) (NF := 54) rfl rfl (by decide) rfl hl.1 ⟨Nat.le_of_ble_eq_true rfl, Nat.le_of_ble_eq_true rfl⟩ (Nat.le_of_ble_eq_true rfl) ⟨Nat.zero_le _, Nat.zero_le _⟩ rfl dX12_most_42 (fun H locs hw => ?_)
        refine lv_if_eq (tgt := 52) hx hb dX12_most_45 (by decide) (fun hc => ?_) (fun hc => ?_)
        · rw [if_pos hc] at h
          refine lv_iconst (v := (3 : Int32)) hx hb dX12_most_52 (by decide) ?_
          exact B53 (3 : Int32) r42.2 _ _ _ hw (lv_sub hl [0, 1, 2, 3] rfl) h
        · rw [if_neg hc] at h
          refine lv_iconst (v := (0 : Int32)) hx hb dX12_most_48 (by decide) ?_
          refine lv_goto (tgt := 53) hx hb dX12_most_49 (by decide) ?_
          exact B53 (0 : Int32) r42.2 _ _ _ hw (lv_sub hl [0, 1, 2, 3] rfl) h
      · rw [if_pos hc] at h
        exact B36 r30.2 _ _ _ hw (lv_sub hl [0, 1, 2, 3] rfl) h
  · rw [if_pos hc] at h
    refine lv_iconst (v := (1 : Int32)) hx hb dX12_most_8 (by decide) ?_
    refine lv_goto (tgt := 53) hx hb dX12_most_9 (by decide) ?_
    exact B53 (1 : Int32) r2.2 _ _ _ hw (lv_sub hl [0, 1, 2, 3] rfl) h
set_option maxRecDepth 100000 in
set_option maxHeartbeats 4000000 in
theorem c_X12_swapped (l : Launch) (g : Gw) (n : Nat) (μ : Mu) (r : Int32 × Mu) (h : X12_swapped n  μ = some r) : Ct l g yX12_swapped cX12_swapped 1 (some .int) 10 [.ref (g.2.2 171)] μ (some (.int r.1)) r.2 := by
  rw [X12_swapped] at h
  refine Ct.of (by decide) (Nat.le_of_ble_eq_true rfl) ?_
  intro p e s m args below meth c ls hC hw hr hlocks hl
  have hx := hC.1
  have hb := hC.2.1
  have hl : lv_has ls 1 [(0, .ref (g.2.2 171))] := hl
  refine lv_aload_n hx hb dX12_swapped_0 rfl (lv_at hl 0 rfl) ?_
  refine lv_iconst (v := (0 : Int32)) hx hb dX12_swapped_1 (by decide) ?_
  refine pI hC hw fl_X12_107 fp_12_5 ok171 dX12_swapped_2 (fun H locs hw => ?_)
  refine lv_aload_n hx hb dX12_swapped_5 rfl (lv_at hl 0 rfl) ?_
  refine lv_aload_n hx hb dX12_swapped_6 rfl (lv_at hl 0 rfl) ?_
  obtain ⟨r7, hr7, h⟩ := bnd h
  refine cV (b := 171) (As := []) (rest := [.ref (g.2.2 171)]) (st1 := [.int r7.1, .ref (g.2.2 171)]) hC hw (c_X12_seedsNow l g n (si μ 171 5 (0 : Int32)) r7 hr7) ml_X12_365 im_X12_seedsNow se_X12_seedsNow ok171 (CN := RX12) (T := TX12) (NF := 54) rfl rfl (by decide) rfl hl.1 ⟨Nat.le_of_ble_eq_true rfl, Nat.le_of_ble_eq_true rfl⟩ (Nat.le_of_ble_eq_true rfl) ⟨Nat.zero_le _, Nat.zero_le _⟩ rfl dX12_swapped_7 (fun H locs hw => ?_)
  obtain ⟨r10, hr10, h⟩ := bnd h
  refine cV (b := 171) (As := [.int r7.1]) (rest := []) (st1 := [.int r10.1]) hC hw (c_X12_solves l g n r7.1 r7.2 r10 hr10) ml_X12_407 im_X12_solves se_X12_solves ok171 (CN := RX12) (T := TX12) (NF := 54) rfl rfl (by decide) rfl hl.1 ⟨Nat.le_of_ble_eq_true rfl, Nat.le_of_ble_eq_true rfl⟩ (Nat.le_of_ble_eq_true rfl) ⟨Nat.zero_le _, Nat.zero_le _⟩ rfl dX12_swapped_10 (fun H locs hw => ?_)
  refine lv_if_ne (tgt := 20) hx hb dX12_swapped_13 (by decide) (fun hc => ?_) (fun hc => ?_)
  · rw [if_neg hc] at h
    refine lv_aload_n hx hb dX12_swapped_20 rfl (lv_at hl 0 rfl) ?_
    obtain ⟨r21, hr21, h⟩ := bnd h
    refine cV (b := 171) (As := []) (rest := []) (st1 := []) hC hw (c_X12_takesUp l g n r10.2 r21 hr21) ml_X12_293 im_X12_takesUp se_X12_takesUp ok171 (CN := RX12) (T := TX12) (NF := 54) rfl rfl (by decide) rfl hl.1 ⟨Nat.le_of_ble_eq_true rfl, Nat.le_of_ble_eq_true rfl⟩ (Nat.le_of_ble_eq_true rfl) ⟨Nat.zero_le _, Nat.zero_le _⟩ rfl dX12_swapped_21 (fun H locs hw => ?_)
    refine lv_aload_n hx hb dX12_swapped_24 rfl (lv_at hl 0 rfl) ?_
    refine gR (t := 184) hC hw fl_X12_51 ok171 (by decide) ot171_32 dX12_swapped_25 ?_
    refine lv_aload_n hx hb dX12_swapped_28 rfl (lv_at hl 0 rfl) ?_
    refine lv_iconst (v := (1 : Int32)) hx hb dX12_swapped_29 (by decide) ?_
    refine lv_aload_n hx hb dX12_swapped_30 rfl (lv_at hl 0 rfl) ?_
    refine gR (t := 172) hC hw fl_X12_9 ok171 (by decide) ot171_0 dX12_swapped_31 ?_
    refine lv_iconst (v := (2 : Int32)) hx hb dX12_swapped_34 (by decide) ?_
    refine lI (j := 2) hC hw ok172 on172 (vin (by decide)) (by decide) dX12_swapped_35 ?_
    refine lv_isub hx hb dX12_swapped_36 ?_
    refine lv_aload_n hx hb dX12_swapped_37 rfl (lv_at hl 0 rfl) ?_
    obtain ⟨r38, hr38, h⟩ := bnd h
    refine cV (b := 171) (As := []) (rest := [.int ((1 : Int32) - (r21.2.1 172 2)), .ref (g.2.2 171), .ref (g.2.2 184)]) (st1 := [.int r38.1, .int ((1 : Int32) - (r21.2.1 172 2)), .ref (g.2.2 171), .ref (g.2.2 184)]) hC hw (c_X12_seedsNow l g n r21.2 r38 hr38) ml_X12_365 im_X12_seedsNow se_X12_seedsNow ok171 (CN := RX12) (T := TX12) (NF := 54) rfl rfl (by decide) rfl hl.1 ⟨Nat.le_of_ble_eq_true rfl, Nat.le_of_ble_eq_true rfl⟩ (Nat.le_of_ble_eq_true rfl) ⟨Nat.zero_le _, Nat.zero_le _⟩ rfl dX12_swapped_38 (fun H locs hw => ?_)
    refine lv_aload_n hx hb dX12_swapped_41 rfl (lv_at hl 0 rfl) ?_
    refine lv_iconst (v := (1 : Int32)) hx hb dX12_swapped_42 (by decide) ?_
    refine lv_aload_n hx hb dX12_swapped_43 rfl (lv_at hl 0 rfl) ?_
    refine gR (t := 172) hC hw fl_X12_9 ok171 (by decide) ot171_0 dX12_swapped_44 ?_
    refine lv_iconst (v := (2 : Int32)) hx hb dX12_swapped_47 (by decide) ?_
    refine lI (j := 2) hC hw ok172 on172 (vin (by decide)) (by decide) dX12_swapped_48 ?_
    refine lv_isub hx hb dX12_swapped_49 ?_
    obtain ⟨r50, hr50, h⟩ := bnd h
    refine cV (b := 171) (As := [.int ((1 : Int32) - (r38.2.1 172 2))]) (rest := [.int r38.1, .int ((1 : Int32) - (r21.2.1 172 2)), .ref (g.2.2 171), .ref (g.2.2 184)]) (st1 := [.int r50.1, .int r38.1, .int ((1 : Int32) - (r21.2.1 172 2)), .ref (g.2.2 171), .ref (g.2.2 184)]) hC hw (c_X12_numberOf l g n ((1 : Int32) - (r38.2.1 172 2)) r38.2 r50 hr50) ml_X12_368 im_X12_numberOf se_X12_numberOf ok171 (CN := RX12) (T := TX12) (NF := 54) rfl rfl (by decide) rfl hl.1 ⟨Nat.le_of_ble_eq_true rfl, Nat.le_of_ble_eq_true rfl⟩ (Nat.le_of_ble_eq_true rfl) ⟨Nat.zero_le _, Nat.zero_le _⟩ rfl dX12_swapped_50 (fun H locs hw => ?_)
    obtain ⟨r53, hr53, h⟩ := bnd h
    refine cV (b := 171) (As := [.int ((1 : Int32) - (r21.2.1 172 2)), .int r38.1, .int r50.1]) (rest := [.ref (g.2.2 184)]) (st1 := [.int r53.1, .ref (g.2.2 184)]) hC hw (c_X12_seat l g n ((1 : Int32) - (r21.2.1 172 2)) r38.1 r50.1 r50.2 r53 hr53) ml_X12_384 im_X12_seat se_X12_seat ok171 (CN := RX12) (T := TX12) (NF := 54) rfl rfl (by decide) rfl hl.1 ⟨Nat.le_of_ble_eq_true rfl, Nat.le_of_ble_eq_true rfl⟩ (Nat.le_of_ble_eq_true rfl) ⟨Nat.zero_le _, Nat.zero_le _⟩ rfl dX12_swapped_53 (fun H locs hw => ?_)
    obtain ⟨hi56, h⟩ := gd_some h
    refine lI (j := r53.1.toNatClampNeg) hC hw ok184 on184 hi56 rfl dX12_swapped_56 ?_
    exact rI hC hw hr hlocks (by rw [← Option.some.inj h]) (by rw [← Option.some.inj h]) dX12_swapped_57
  · rw [if_pos hc] at h
    refine lv_sipush (v := ((-1000) : Int32)) hx hb dX12_swapped_16 (by decide) ?_
    exact rI hC hw hr hlocks (by rw [← Option.some.inj h]) (by rw [← Option.some.inj h]) dX12_swapped_19
set_option maxRecDepth 100000 in
set_option maxHeartbeats 4000000 in
theorem c_X12_line (l : Launch) (g : Gw) (n : Nat) (v1 : Int32) (μ : Mu) (r : Int32 × Mu) (h : X12_line n v1 μ = some r) : Ct l g yX12_line cX12_line 4 (some .int) 10 [.ref (g.2.2 171), .int v1] μ (some (.int r.1)) r.2 := by
  rw [X12_line] at h
  refine Ct.of (by decide) (Nat.le_of_ble_eq_true rfl) ?_
  intro p e s m args below meth c ls hC hw hr hlocks hl
  have hx := hC.1
  have hb := hC.2.1
  have hl : lv_has ls 4 [(0, .ref (g.2.2 171)), (1, .int v1)] := hl
  have B131 : ∀ (s0 : Int32) (μ : Mu) (H : Heap) (locs : List Loc) (ls : Array Slot), wd g μ s (Aw g s.heap.size) H locs → lv_has ls 4 [] → X12_line_131 n v1 s0 μ = some r → WQ p l e (rmD 10) s m args below meth c g (some (.int r.1)) r.2 H locs (F0 m 131 ls [.int s0]) := by
    intro s0 μ H locs ls hw hl h
    rw [X12_line_131] at h
    exact rI hC hw hr hlocks (by rw [← Option.some.inj h]) (by rw [← Option.some.inj h]) dX12_line_131
  have B12 : ∀ (s1 : Int32) (μ : Mu) (H : Heap) (locs : List Loc) (ls : Array Slot), wd g μ s (Aw g s.heap.size) H locs → lv_has ls 4 [(0, .ref (g.2.2 171)), (1, .int v1)] → X12_line_12 n v1 s1 μ = some r → WQ p l e (rmD 10) s m args below meth c g (some (.int r.1)) r.2 H locs (F0 m 12 ls [.int s1, .ref (g.2.2 171)]) := by
    intro s1 μ H locs ls hw hl h
    rw [X12_line_12] at h
    refine pI hC hw fl_X12_107 fp_12_5 ok171 dX12_line_12 (fun H locs hw => ?_)
    refine lv_aload_n hx hb dX12_line_15 rfl (lv_at hl 0 rfl) ?_
    refine gI hC hw fl_X12_107 ok171 (by decide) dX12_line_16 ?_
    refine lv_if_le (tgt := 24) hx hb dX12_line_19 (by decide) (fun hc => ?_) (fun hc => ?_)
    · rw [if_pos hc] at h
      refine lv_aload_n hx hb dX12_line_24 rfl (lv_at hl 0 rfl) ?_
      refine lv_aload_n hx hb dX12_line_25 rfl (lv_at hl 0 rfl) ?_
      obtain ⟨r26, hr26, h⟩ := bnd h
      refine cV (b := 171) (As := []) (rest := [.ref (g.2.2 171)]) (st1 := [.int r26.1, .ref (g.2.2 171)]) hC hw (c_X12_seedsNow l g n (si μ 171 5 s1) r26 hr26) ml_X12_365 im_X12_seedsNow se_X12_seedsNow ok171 (CN := RX12) (T := TX12) (NF := 54) rfl rfl (by decide) rfl hl.1 ⟨Nat.le_of_ble_eq_true rfl, Nat.le_of_ble_eq_true rfl⟩ (Nat.le_of_ble_eq_true rfl) ⟨Nat.zero_le _, Nat.zero_le _⟩ rfl dX12_line_26 (fun H locs hw => ?_)
      obtain ⟨r29, hr29, h⟩ := bnd h
      refine cV (b := 171) (As := [.int r26.1]) (rest := []) (st1 := [.int r29.1]) hC hw (c_X12_solves l g n r26.1 r26.2 r29 hr29) ml_X12_407 im_X12_solves se_X12_solves ok171 (CN := RX12) (T := TX12) (NF := 54) rfl rfl (by decide) rfl hl.1 ⟨Nat.le_of_ble_eq_true rfl, Nat.le_of_ble_eq_true rfl⟩ (Nat.le_of_ble_eq_true rfl) ⟨Nat.zero_le _, Nat.zero_le _⟩ rfl dX12_line_29 (fun H locs hw => ?_)
      refine lv_if_ne (tgt := 41) hx hb dX12_line_32 (by decide) (fun hc => ?_) (fun hc => ?_)
      · rw [if_neg hc] at h
        refine lv_aload_n hx hb dX12_line_41 rfl (lv_at hl 0 rfl) ?_
        refine gR (t := 172) hC hw fl_X12_9 ok171 (by decide) ot171_0 dX12_line_42 ?_
        refine lv_aload_n hx hb dX12_line_45 rfl (lv_at hl 0 rfl) ?_
        refine gR (t := 175) hC hw fl_X12_19 ok171 (by decide) ot171_3 dX12_line_46 ?_
        obtain ⟨r49, hr49, h⟩ := bnd h
        refine cS (As := [.ref (g.2.2 172), .ref (g.2.2 175)]) (rest := []) (st1 := []) hC hw (c_X12_copies l g n 172 175 r29.2 r49 hr49) ml_X12_235 st_X12_copies rfl hl.1 ⟨Nat.le_of_ble_eq_true rfl, Nat.le_of_ble_eq_true rfl⟩ (Nat.le_of_ble_eq_true rfl) ⟨Nat.zero_le _, Nat.zero_le _⟩ rfl dX12_line_49 (fun H locs hw => ?_)
        refine lv_aload_n hx hb dX12_line_52 rfl (lv_at hl 0 rfl) ?_
        obtain ⟨r53, hr53, h⟩ := bnd h
        refine cV (b := 171) (As := []) (rest := []) (st1 := [.int r53.1]) hC hw (c_X12_goesOn l g n r49.2 r53 hr53) ml_X12_433 im_X12_goesOn se_X12_goesOn ok171 (CN := RX12) (T := TX12) (NF := 54) rfl rfl (by decide) rfl hl.1 ⟨Nat.le_of_ble_eq_true rfl, Nat.le_of_ble_eq_true rfl⟩ (Nat.le_of_ble_eq_true rfl) ⟨Nat.zero_le _, Nat.zero_le _⟩ rfl dX12_line_53 (fun H locs hw => ?_)
        refine lv_istore_n (lv' := [(2, .int r53.1), (0, .ref (g.2.2 171)), (1, .int v1)]) hx hb dX12_line_56 rfl hl (by decide) rfl (fun ls hl => ?_)
        refine lv_aload_n hx hb dX12_line_57 rfl (lv_at hl 1 rfl) ?_
        obtain ⟨r58, hr58, h⟩ := bnd h
        refine cV (b := 171) (As := []) (rest := []) (st1 := [.int r58.1]) hC hw (c_X12_scoreNow l g n r53.2 r58 hr58) ml_X12_316 im_X12_scoreNow se_X12_scoreNow ok171 (CN := RX12) (T := TX12) (NF := 54) rfl rfl (by decide) rfl hl.1 ⟨Nat.le_of_ble_eq_true rfl, Nat.le_of_ble_eq_true rfl⟩ (Nat.le_of_ble_eq_true rfl) ⟨Nat.zero_le _, Nat.zero_le _⟩ rfl dX12_line_58 (fun H locs hw => ?_)
        refine lv_istore_n (lv' := [(3, .int r58.1), (2, .int r53.1), (0, .ref (g.2.2 171)), (1, .int v1)]) hx hb dX12_line_61 rfl hl (by decide) rfl (fun ls hl => ?_)
        refine lv_aload_n hx hb dX12_line_62 rfl (lv_at hl 2 rfl) ?_
        refine gR (t := 175) hC hw fl_X12_19 ok171 (by decide) ot171_3 dX12_line_63 ?_
        refine lv_aload_n hx hb dX12_line_66 rfl (lv_at hl 2 rfl) ?_
        refine gR (t := 172) hC hw fl_X12_9 ok171 (by decide) ot171_0 dX12_line_67 ?_
        obtain ⟨r70, hr70, h⟩ := bnd h
        refine cS (As := [.ref (g.2.2 175), .ref (g.2.2 172)]) (rest := []) (st1 := []) hC hw (c_X12_copies l g n 175 172 r58.2 r70 hr70) ml_X12_235 st_X12_copies rfl hl.1 ⟨Nat.le_of_ble_eq_true rfl, Nat.le_of_ble_eq_true rfl⟩ (Nat.le_of_ble_eq_true rfl) ⟨Nat.zero_le _, Nat.zero_le _⟩ rfl dX12_line_70 (fun H locs hw => ?_)
        refine lv_iload_n hx hb dX12_line_73 rfl (lv_at hl 3 rfl) ?_
        refine lv_iconst (v := ((-1) : Int32)) hx hb dX12_line_74 (by decide) ?_
        refine lv_icmp_ne (tgt := 85) hx hb dX12_line_75 (by decide) (fun hc => ?_) (fun hc => ?_)
        · rw [if_neg hc] at h
          refine lv_iload_n hx hb dX12_line_85 rfl (lv_at hl 3 rfl) ?_
          refine lv_bipush (v := ((-2) : Int32)) hx hb dX12_line_86 (by decide) ?_
          refine lv_icmp_ne (tgt := 103) hx hb dX12_line_88 (by decide) (fun hc => ?_) (fun hc => ?_)
          · rw [if_neg hc] at h
            refine lv_iload_n hx hb dX12_line_103 rfl (lv_at hl 3 rfl) ?_
            refine lv_bipush (v := ((-3) : Int32)) hx hb dX12_line_104 (by decide) ?_
            refine lv_icmp_ne (tgt := 113) hx hb dX12_line_106 (by decide) (fun hc => ?_) (fun hc => ?_)
            · rw [if_neg hc] at h
              refine lv_iload_n hx hb dX12_line_113 rfl (lv_at hl 3 rfl) ?_
              refine lv_aload_n hx hb dX12_line_114 rfl (lv_at hl 2 rfl) ?_
              refine gI hC hw fl_X12_430 ok171 (by decide) dX12_line_115 ?_
              refine lv_icmp_ge (tgt := 130) hx hb dX12_line_118 (by decide) (fun hc => ?_) (fun hc => ?_)
              · rw [if_pos hc] at h
                refine lv_iconst (v := ((-1) : Int32)) hx hb dX12_line_130 (by decide) ?_
                exact B131 ((-1) : Int32) r70.2 _ _ _ hw (lv_sub hl [] rfl) h
              · rw [if_neg hc] at h
                refine lv_aload_n hx hb dX12_line_121 rfl (lv_at hl 2 rfl) ?_
                refine gR (t := 193) hC hw fl_X12_82 ok171 (by decide) ot171_42 dX12_line_122 ?_
                refine lv_iload_n hx hb dX12_line_125 rfl (lv_at hl 3 rfl) ?_
                obtain ⟨hi126, h⟩ := gd_some h
                refine lI (j := v1.toNatClampNeg) hC hw ok193 on193 hi126 rfl dX12_line_126 ?_
                refine lv_goto (tgt := 131) hx hb dX12_line_127 (by decide) ?_
                exact B131 (r70.2.1 193 v1.toNatClampNeg) r70.2 _ _ _ hw (lv_sub hl [] rfl) h
            · rw [if_pos hc] at h
              refine lv_iload_n hx hb dX12_line_109 rfl (lv_at hl 0 rfl) ?_
              refine lv_goto (tgt := 131) hx hb dX12_line_110 (by decide) ?_
              exact B131 r58.1 r70.2 _ _ _ hw (lv_sub hl [] rfl) h
          · rw [if_pos hc] at h
            refine lv_iload_n hx hb dX12_line_91 rfl (lv_at hl 1 rfl) ?_
            refine lv_if_eq (tgt := 99) hx hb dX12_line_92 (by decide) (fun hc => ?_) (fun hc => ?_)
            · rw [if_pos hc] at h
              refine lv_iconst (v := (0 : Int32)) hx hb dX12_line_99 (by decide) ?_
              refine lv_goto (tgt := 131) hx hb dX12_line_100 (by decide) ?_
              exact B131 (0 : Int32) r70.2 _ _ _ hw (lv_sub hl [] rfl) h
            · rw [if_neg hc] at h
              refine lv_iconst (v := (1 : Int32)) hx hb dX12_line_95 (by decide) ?_
              refine lv_goto (tgt := 131) hx hb dX12_line_96 (by decide) ?_
              exact B131 (1 : Int32) r70.2 _ _ _ hw (lv_sub hl [] rfl) h
        · rw [if_pos hc] at h
          refine lv_aload_n hx hb dX12_line_78 rfl (lv_at hl 2 rfl) ?_
          refine gI hC hw fl_X12_430 ok171 (by decide) dX12_line_79 ?_
          refine lv_goto (tgt := 131) hx hb dX12_line_82 (by decide) ?_
          exact B131 (r70.2.1 171 44) r70.2 _ _ _ hw (lv_sub hl [] rfl) h
      · rw [if_pos hc] at h
        refine lv_aload_n hx hb dX12_line_35 rfl (lv_at hl 0 rfl) ?_
        refine lv_iconst (v := (2 : Int32)) hx hb dX12_line_36 (by decide) ?_
        obtain ⟨r37, hr37, h⟩ := bnd h
        refine cV (b := 171) (As := [.int (2 : Int32)]) (rest := []) (st1 := [.int r37.1]) hC hw (c_X12_fails l g n (2 : Int32) r29.2 r37 hr37) ml_X12_221 im_X12_fails se_X12_fails ok171 (CN := RX12) (T := TX12) (NF := 54) rfl rfl (by decide) rfl hl.1 ⟨Nat.le_of_ble_eq_true rfl, Nat.le_of_ble_eq_true rfl⟩ (Nat.le_of_ble_eq_true rfl) ⟨Nat.zero_le _, Nat.zero_le _⟩ rfl dX12_line_37 (fun H locs hw => ?_)
        exact rI hC hw hr hlocks (by rw [← Option.some.inj h]) (by rw [← Option.some.inj h]) dX12_line_40
    · rw [if_neg hc] at h
      refine lv_iconst (v := (0 : Int32)) hx hb dX12_line_22 (by decide) ?_
      exact rI hC hw hr hlocks (by rw [← Option.some.inj h]) (by rw [← Option.some.inj h]) dX12_line_23
  refine lv_aload_n hx hb dX12_line_0 rfl (lv_at hl 0 rfl) ?_
  refine lv_iload_n hx hb dX12_line_1 rfl (lv_at hl 1 rfl) ?_
  refine lv_bipush (v := ((-3) : Int32)) hx hb dX12_line_2 (by decide) ?_
  refine lv_icmp_lt (tgt := 11) hx hb dX12_line_4 (by decide) (fun hc => ?_) (fun hc => ?_)
  · rw [if_pos hc] at h
    refine lv_iconst (v := (1 : Int32)) hx hb dX12_line_11 (by decide) ?_
    exact B12 (1 : Int32) μ _ _ _ hw (lv_sub hl [0, 1] rfl) h
  · rw [if_neg hc] at h
    refine lv_iconst (v := (0 : Int32)) hx hb dX12_line_7 (by decide) ?_
    refine lv_goto (tgt := 12) hx hb dX12_line_8 (by decide) ?_
    exact B12 (0 : Int32) μ _ _ _ hw (lv_sub hl [0, 1] rfl) h
set_option maxRecDepth 100000 in
set_option maxHeartbeats 4000000 in
theorem c_X12_against (l : Launch) (g : Gw) (n : Nat) (v1 : Int32) (v2 : Int32) (μ : Mu) (r : Int32 × Mu) (h : X12_against n v1 v2 μ = some r) : Ct l g yX12_against cX12_against 3 (some .int) 10 [.ref (g.2.2 171), .int v1, .int v2] μ (some (.int r.1)) r.2 := by
  rw [X12_against] at h
  refine Ct.of (by decide) (Nat.le_of_ble_eq_true rfl) ?_
  intro p e s m args below meth c ls hC hw hr hlocks hl
  have hx := hC.1
  have hb := hC.2.1
  have hl : lv_has ls 3 [(0, .ref (g.2.2 171)), (1, .int v1), (2, .int v2)] := hl
  have B54 : ∀ (s0 : Int32) (μ : Mu) (H : Heap) (locs : List Loc) (ls : Array Slot), wd g μ s (Aw g s.heap.size) H locs → lv_has ls 3 [] → X12_against_54 n v1 v2 s0 μ = some r → WQ p l e (rmD 10) s m args below meth c g (some (.int r.1)) r.2 H locs (F0 m 54 ls [.int s0]) := by
    intro s0 μ H locs ls hw hl h
    rw [X12_against_54] at h
    exact rI hC hw hr hlocks (by rw [← Option.some.inj h]) (by rw [← Option.some.inj h]) dX12_against_54
  have B33 : ∀ (s1 : Int32) (μ : Mu) (H : Heap) (locs : List Loc) (ls : Array Slot), wd g μ s (Aw g s.heap.size) H locs → lv_has ls 3 [(0, .ref (g.2.2 171)), (1, .int v1), (2, .int v2)] → X12_against_33 n v1 v2 s1 μ = some r → WQ p l e (rmD 10) s m args below meth c g (some (.int r.1)) r.2 H locs (F0 m 33 ls [.int s1, .ref (g.2.2 171)]) := by
    intro s1 μ H locs ls hw hl h
    rw [X12_against_33] at h
    refine pI hC hw fl_X12_107 fp_12_5 ok171 dX12_against_33 (fun H locs hw => ?_)
    refine lv_aload_n hx hb dX12_against_36 rfl (lv_at hl 0 rfl) ?_
    refine gI hC hw fl_X12_107 ok171 (by decide) dX12_against_37 ?_
    refine lv_if_le (tgt := 47) hx hb dX12_against_40 (by decide) (fun hc => ?_) (fun hc => ?_)
    · rw [if_pos hc] at h
      refine lv_aload_n hx hb dX12_against_47 rfl (lv_at hl 0 rfl) ?_
      refine lv_iload_n hx hb dX12_against_48 rfl (lv_at hl 1 rfl) ?_
      refine lv_iconst (v := (1 : Int32)) hx hb dX12_against_49 (by decide) ?_
      refine lv_iload_n hx hb dX12_against_50 rfl (lv_at hl 2 rfl) ?_
      obtain ⟨r51, hr51, h⟩ := bnd h
      refine cV (b := 171) (As := [.int v1, .int (1 : Int32), .int v2]) (rest := []) (st1 := [.int r51.1]) hC hw (c_X12_playOf l g n v1 (1 : Int32) v2 (si μ 171 5 s1) r51 hr51) ml_X12_471 im_X12_playOf se_X12_playOf ok171 (CN := RX12) (T := TX12) (NF := 54) rfl rfl (by decide) rfl hl.1 ⟨Nat.le_of_ble_eq_true rfl, Nat.le_of_ble_eq_true rfl⟩ (Nat.le_of_ble_eq_true rfl) ⟨Nat.zero_le _, Nat.zero_le _⟩ rfl dX12_against_51 (fun H locs hw => ?_)
      exact B54 r51.1 r51.2 _ _ _ hw (lv_sub hl [] rfl) h
    · rw [if_neg hc] at h
      refine lv_iconst (v := (0 : Int32)) hx hb dX12_against_43 (by decide) ?_
      refine lv_goto (tgt := 54) hx hb dX12_against_44 (by decide) ?_
      exact B54 (0 : Int32) (si μ 171 5 s1) _ _ _ hw (lv_sub hl [] rfl) h
  refine lv_aload_n hx hb dX12_against_0 rfl (lv_at hl 0 rfl) ?_
  refine lv_aload_n hx hb dX12_against_1 rfl (lv_at hl 0 rfl) ?_
  refine lv_aload_n hx hb dX12_against_2 rfl (lv_at hl 0 rfl) ?_
  obtain ⟨r3, hr3, h⟩ := bnd h
  refine cV (b := 171) (As := []) (rest := [.ref (g.2.2 171), .ref (g.2.2 171)]) (st1 := [.int r3.1, .ref (g.2.2 171), .ref (g.2.2 171)]) hC hw (c_X12_seedsNow l g n μ r3 hr3) ml_X12_365 im_X12_seedsNow se_X12_seedsNow ok171 (CN := RX12) (T := TX12) (NF := 54) rfl rfl (by decide) rfl hl.1 ⟨Nat.le_of_ble_eq_true rfl, Nat.le_of_ble_eq_true rfl⟩ (Nat.le_of_ble_eq_true rfl) ⟨Nat.zero_le _, Nat.zero_le _⟩ rfl dX12_against_3 (fun H locs hw => ?_)
  obtain ⟨r6, hr6, h⟩ := bnd h
  refine cV (b := 171) (As := [.int r3.1]) (rest := [.ref (g.2.2 171)]) (st1 := [.int r6.1, .ref (g.2.2 171)]) hC hw (c_X12_solves l g n r3.1 r3.2 r6 hr6) ml_X12_407 im_X12_solves se_X12_solves ok171 (CN := RX12) (T := TX12) (NF := 54) rfl rfl (by decide) rfl hl.1 ⟨Nat.le_of_ble_eq_true rfl, Nat.le_of_ble_eq_true rfl⟩ (Nat.le_of_ble_eq_true rfl) ⟨Nat.zero_le _, Nat.zero_le _⟩ rfl dX12_against_6 (fun H locs hw => ?_)
  refine lv_if_ne (tgt := 16) hx hb dX12_against_9 (by decide) (fun hc => ?_) (fun hc => ?_)
  · rw [if_neg hc] at h
    refine lv_iload_n hx hb dX12_against_16 rfl (lv_at hl 2 rfl) ?_
    refine lv_i2l hx hb dX12_against_17 rfl ?_
    refine lv_lconst (v := (0 : Int64)) hx hb dX12_against_18 (by decide) ?_
    refine lv_ldc2 (v := (2 : Int64)) hx hb hC.2.2.2.1 (hC.2.2.2.2.1 _ cl_X12_453) dX12_against_19 ?_
    obtain ⟨r22, hr22, h⟩ := bnd h
    refine cS (As := [.long (v2.toInt64), .long (0 : Int64), .long (2 : Int64)]) (rest := [.ref (g.2.2 171)]) (st1 := [.int r22.1, .ref (g.2.2 171)]) hC hw (c_X12_within l g n (v2.toInt64) (0 : Int64) (2 : Int64) r6.2 r22 hr22) ml_X12_166 st_X12_within rfl hl.1 ⟨Nat.le_of_ble_eq_true rfl, Nat.le_of_ble_eq_true rfl⟩ (Nat.le_of_ble_eq_true rfl) ⟨Nat.zero_le _, Nat.zero_le _⟩ rfl dX12_against_22 (fun H locs hw => ?_)
    refine lv_if_eq (tgt := 32) hx hb dX12_against_25 (by decide) (fun hc => ?_) (fun hc => ?_)
    · rw [if_pos hc] at h
      refine lv_iconst (v := (2 : Int32)) hx hb dX12_against_32 (by decide) ?_
      exact B33 (2 : Int32) r22.2 _ _ _ hw (lv_sub hl [0, 1, 2] rfl) h
    · rw [if_neg hc] at h
      refine lv_iconst (v := (0 : Int32)) hx hb dX12_against_28 (by decide) ?_
      refine lv_goto (tgt := 33) hx hb dX12_against_29 (by decide) ?_
      exact B33 (0 : Int32) r22.2 _ _ _ hw (lv_sub hl [0, 1, 2] rfl) h
  · rw [if_pos hc] at h
    refine lv_iconst (v := (1 : Int32)) hx hb dX12_against_12 (by decide) ?_
    refine lv_goto (tgt := 33) hx hb dX12_against_13 (by decide) ?_
    exact B33 (1 : Int32) r6.2 _ _ _ hw (lv_sub hl [0, 1, 2] rfl) h
