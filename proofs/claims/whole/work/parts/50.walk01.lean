set_option maxRecDepth 100000 in
set_option maxHeartbeats 4000000 in
theorem c_X8_scatter (l : Launch) (g : Gw) (n : Nat) (v1 : Nat) (v2 : Int32) (μ : Mu) (r : Int32 × Mu) (h : X8_scatter n v1 v2 μ = some r) : Ct l g yX8_scatter cX8_scatter 8 (some .int) 0 [.ref (g.2.2 6), .ref (g.2.2 v1), .int v2] μ (some (.int r.1)) r.2 := by
  rw [X8_scatter] at h
  obtain ⟨hk1, h⟩ := kd_some h
  refine Ct.of (by decide) (Nat.le_of_ble_eq_true rfl) ?_
  intro p e s m args below meth c ls hC hw hr hlocks hl
  have hx := hC.1
  have hb := hC.2.1
  have hl : lv_has ls 8 [(0, .ref (g.2.2 6)), (1, .ref (g.2.2 v1)), (2, .int v2)] := hl
  have B35 : ∀ (k : Nat), ∀ (v5 : Int32) (v6 : Int32) (v7 : Int32) (μ : Mu) (H : Heap) (locs : List Loc) (ls : Array Slot), wd g μ s (Aw g s.heap.size) H locs → lv_has ls 8 [(0, .ref (g.2.2 6)), (2, .int v2), (3, .ref (g.2.2 (v1 + 1))), (4, .ref (g.2.2 3)), (5, .int v5), (6, .int v6), (7, .int v7)] → lpF (fun _ _ _ _ => none) (X8_scatter_35b n v1 v2) k v5 v6 v7 μ = some r → WQ p l e (rmD 0) s m args below meth c g (some (.int r.1)) r.2 H locs (F0 m 35 ls []) := by
    intro k
    induction k with
    | zero =>
      intro v5 v6 v7 μ H locs ls hw hl h
      cases h
    | succ k ih35 =>
      rw [lpF_s]
      generalize lpF (fun _ _ _ _ => none) (X8_scatter_35b n v1 v2) k = k35 at ih35 ⊢
      intro v5 v6 v7 μ H locs ls hw hl h
      have B76 : ∀ (v5 : Int32) (v6 : Int32) (v7 : Int32) (μ : Mu) (H : Heap) (locs : List Loc) (ls : Array Slot), wd g μ s (Aw g s.heap.size) H locs → lv_has ls 8 [(0, .ref (g.2.2 6)), (2, .int v2), (3, .ref (g.2.2 (v1 + 1))), (4, .ref (g.2.2 3)), (5, .int v5), (6, .int v6), (7, .int v7)] → X8_scatter_76 n v1 v2 k35 v5 v6 v7 μ = some r → WQ p l e (rmD 0) s m args below meth c g (some (.int r.1)) r.2 H locs (F0 m 76 ls []) := by
        intro v5 v6 v7 μ H locs ls hw hl h
        rw [X8_scatter_76] at h
        refine lv_aload_n hx hb dX8_scatter_76 rfl (lv_at hl 2 rfl) ?_
        refine lv_iload hx hb dX8_scatter_77 (lv_at hl 5 rfl) ?_
        refine lv_dup2_11 hx hb dX8_scatter_79 rfl rfl ?_
        obtain ⟨hi80, h⟩ := gd_some h
        refine lI (j := v6.toNatClampNeg) hC hw (sc_K hk1) (sc_N hk1) hi80 rfl dX8_scatter_80 ?_
        refine lv_iconst (v := (1 : Int32)) hx hb dX8_scatter_81 (by decide) ?_
        refine lv_iadd hx hb dX8_scatter_82 ?_
        refine sI (j := v6.toNatClampNeg) hC hw (sc_K hk1) (sc_N hk1) hi80 rfl dX8_scatter_83 (fun H locs hw => ?_)
        refine lv_iinc (v := (v7 + ((-1) : Int32))) (lv' := [(7, .int (v7 + ((-1) : Int32))), (0, .ref (g.2.2 6)), (2, .int v2), (3, .ref (g.2.2 (v1 + 1))), (4, .ref (g.2.2 3)), (5, .int v5), (6, .int v6)]) hx hb dX8_scatter_84 hl (k := 6) rfl rfl (by decide) rfl (fun ls hl => ?_)
        refine lv_goto (tgt := 35) hx hb dX8_scatter_87 (by decide) ?_
        exact ih35 v5 v6 (v7 + ((-1) : Int32)) (si μ (v1 + 1) v6.toNatClampNeg ((μ.1 (v1 + 1) v6.toNatClampNeg) + (1 : Int32))) _ _ _ hw (lv_sub hl [1, 2, 3, 4, 5, 6, 0] rfl) h
      rw [X8_scatter_35b] at h
      refine lv_iload hx hb dX8_scatter_35 (lv_at hl 6 rfl) ?_
      refine lv_if_le (tgt := 90) hx hb dX8_scatter_37 (by decide) (fun hc => ?_) (fun hc => ?_)
      · rw [if_pos hc] at h
        refine lv_iload hx hb dX8_scatter_90 (lv_at hl 5 rfl) ?_
        exact rI hC hw hr hlocks (by rw [← Option.some.inj h]) (by rw [← Option.some.inj h]) dX8_scatter_92
      · rw [if_neg hc] at h
        refine lv_aload hx hb dX8_scatter_40 (lv_at hl 3 rfl) ?_
        refine lv_iload hx hb dX8_scatter_42 (lv_at hl 4 rfl) ?_
        refine lv_iload hx hb dX8_scatter_44 (lv_at hl 5 rfl) ?_
        refine lv_iadd hx hb dX8_scatter_46 ?_
        obtain ⟨hi47, h⟩ := gd_some h
        refine lI (j := (v5 + v6).toNatClampNeg) hC hw ok3 on3 hi47 rfl dX8_scatter_47 ?_
        refine lv_istore (lv' := [(6, .int (μ.1 3 (v5 + v6).toNatClampNeg)), (0, .ref (g.2.2 6)), (2, .int v2), (3, .ref (g.2.2 (v1 + 1))), (4, .ref (g.2.2 3)), (5, .int v5), (7, .int v7)]) hx hb dX8_scatter_48 hl (by decide) rfl (fun ls hl => ?_)
        refine lv_iload hx hb dX8_scatter_50 (lv_at hl 0 rfl) ?_
        refine lv_iload_n hx hb dX8_scatter_52 rfl (lv_at hl 2 rfl) ?_
        refine lv_icmp_ne (tgt := 76) hx hb dX8_scatter_53 (by decide) (fun hc => ?_) (fun hc => ?_)
        · rw [if_neg hc] at h
          exact B76 v5 (μ.1 3 (v5 + v6).toNatClampNeg) v7 μ _ _ _ hw (lv_sub hl [1, 2, 3, 4, 5, 0, 6] rfl) h
        · rw [if_pos hc] at h
          refine lv_aload_n hx hb dX8_scatter_56 rfl (lv_at hl 1 rfl) ?_
          refine gR (t := 1) hC hw fl_X8_21 ok6 (by decide) ot6_6 dX8_scatter_57 ?_
          refine gI hC hw fl_X8_49 ok1 (by decide) dX8_scatter_60 ?_
          refine lv_if_eq (tgt := 76) hx hb dX8_scatter_63 (by decide) (fun hc => ?_) (fun hc => ?_)
          · rw [if_pos hc] at h
            exact B76 v5 (μ.1 3 (v5 + v6).toNatClampNeg) v7 μ _ _ _ hw (lv_sub hl [1, 2, 3, 4, 5, 0, 6] rfl) h
          · rw [if_neg hc] at h
            refine lv_aload hx hb dX8_scatter_66 (lv_at hl 4 rfl) ?_
            refine lv_iload hx hb dX8_scatter_68 (lv_at hl 5 rfl) ?_
            refine lv_iload hx hb dX8_scatter_70 (lv_at hl 0 rfl) ?_
            refine lv_iadd hx hb dX8_scatter_72 ?_
            obtain ⟨hi73, h⟩ := gd_some h
            refine lI (j := (v5 + (μ.1 3 (v5 + v6).toNatClampNeg)).toNatClampNeg) hC hw ok3 on3 hi73 rfl dX8_scatter_73 ?_
            refine lv_istore (lv' := [(6, .int (μ.1 3 (v5 + (μ.1 3 (v5 + v6).toNatClampNeg)).toNatClampNeg)), (0, .ref (g.2.2 6)), (2, .int v2), (3, .ref (g.2.2 (v1 + 1))), (4, .ref (g.2.2 3)), (5, .int v5), (7, .int v7)]) hx hb dX8_scatter_74 hl (by decide) rfl (fun ls hl => ?_)
            exact B76 v5 (μ.1 3 (v5 + (μ.1 3 (v5 + v6).toNatClampNeg)).toNatClampNeg) v7 μ _ _ _ hw (lv_sub hl [1, 2, 3, 4, 5, 0, 6] rfl) h
  refine lv_aload_n hx hb dX8_scatter_0 rfl (lv_at hl 1 rfl) ?_
  refine gR (t := (v1 + 1)) hC hw fl_X8_43 hk1 (by decide) (sc_T hk1) dX8_scatter_1 ?_
  refine lv_astore_n (lv' := [(3, .ref (g.2.2 (v1 + 1))), (0, .ref (g.2.2 6)), (1, .ref (g.2.2 v1)), (2, .int v2)]) hx hb dX8_scatter_4 rfl hl (by decide) rfl (fun ls hl => ?_)
  refine lv_aload_n hx hb dX8_scatter_5 rfl (lv_at hl 1 rfl) ?_
  refine gR (t := 2) hC hw fl_X8_25 ok6 (by decide) ot6_7 dX8_scatter_6 ?_
  refine gR (t := 3) hC hw fl_X8_53 ok2 (by decide) ot2_0 dX8_scatter_9 ?_
  refine lv_astore (lv' := [(4, .ref (g.2.2 3)), (3, .ref (g.2.2 (v1 + 1))), (0, .ref (g.2.2 6)), (1, .ref (g.2.2 v1)), (2, .int v2)]) hx hb dX8_scatter_12 hl (by decide) rfl (fun ls hl => ?_)
  refine lv_aload_n hx hb dX8_scatter_14 rfl (lv_at hl 3 rfl) ?_
  refine gI hC hw fl_X8_30 hk1 (by decide) dX8_scatter_15 ?_
  refine lv_bipush (v := (14 : Int32)) hx hb dX8_scatter_18 (by decide) ?_
  refine lv_imul hx hb dX8_scatter_20 ?_
  refine lv_istore (lv' := [(5, .int ((μ.1 v1 1) * (14 : Int32))), (4, .ref (g.2.2 3)), (3, .ref (g.2.2 (v1 + 1))), (0, .ref (g.2.2 6)), (1, .ref (g.2.2 v1)), (2, .int v2)]) hx hb dX8_scatter_21 hl (by decide) rfl (fun ls hl => ?_)
  refine lv_iload_n hx hb dX8_scatter_23 rfl (lv_at hl 5 rfl) ?_
  refine lv_istore (lv' := [(6, .int v2), (5, .int ((μ.1 v1 1) * (14 : Int32))), (4, .ref (g.2.2 3)), (3, .ref (g.2.2 (v1 + 1))), (0, .ref (g.2.2 6)), (1, .ref (g.2.2 v1)), (2, .int v2)]) hx hb dX8_scatter_24 hl (by decide) rfl (fun ls hl => ?_)
  refine lv_aload_n hx hb dX8_scatter_26 rfl (lv_at hl 3 rfl) ?_
  refine lv_iload_n hx hb dX8_scatter_27 rfl (lv_at hl 6 rfl) ?_
  obtain ⟨hi28, h⟩ := gd_some h
  refine lI (j := v2.toNatClampNeg) hC hw (sc_K hk1) (sc_N hk1) hi28 rfl dX8_scatter_28 ?_
  refine lv_istore (lv' := [(7, .int (μ.1 (v1 + 1) v2.toNatClampNeg)), (6, .int v2), (5, .int ((μ.1 v1 1) * (14 : Int32))), (4, .ref (g.2.2 3)), (3, .ref (g.2.2 (v1 + 1))), (0, .ref (g.2.2 6)), (1, .ref (g.2.2 v1)), (2, .int v2)]) hx hb dX8_scatter_29 hl (by decide) rfl (fun ls hl => ?_)
  refine lv_aload_n hx hb dX8_scatter_31 rfl (lv_at hl 4 rfl) ?_
  refine lv_iload_n hx hb dX8_scatter_32 rfl (lv_at hl 7 rfl) ?_
  refine lv_iconst (v := (0 : Int32)) hx hb dX8_scatter_33 (by decide) ?_
  refine sI (j := v2.toNatClampNeg) hC hw (sc_K hk1) (sc_N hk1) hi28 rfl dX8_scatter_34 (fun H locs hw => ?_)
  exact B35 n ((μ.1 v1 1) * (14 : Int32)) v2 (μ.1 (v1 + 1) v2.toNatClampNeg) (si μ (v1 + 1) v2.toNatClampNeg (0 : Int32)) _ _ _ hw (lv_sub hl [5, 7, 4, 3, 2, 1, 0] rfl) h
set_option maxRecDepth 100000 in
set_option maxHeartbeats 4000000 in
theorem c_X8_takeOpposite (l : Launch) (g : Gw) (n : Nat) (v1 : Nat) (μ : Mu) (r : Int32 × Mu) (h : X8_takeOpposite n v1 μ = some r) : Ct l g yX8_takeOpposite cX8_takeOpposite 4 (some .int) 0 [.ref (g.2.2 6), .ref (g.2.2 v1)] μ (some (.int r.1)) r.2 := by
  rw [X8_takeOpposite] at h
  obtain ⟨hk1, h⟩ := kd_some h
  refine Ct.of (by decide) (Nat.le_of_ble_eq_true rfl) ?_
  intro p e s m args below meth c ls hC hw hr hlocks hl
  have hx := hC.1
  have hb := hC.2.1
  have hl : lv_has ls 4 [(0, .ref (g.2.2 6)), (1, .ref (g.2.2 v1))] := hl
  have B50 : ∀ (μ : Mu) (H : Heap) (locs : List Loc) (ls : Array Slot), wd g μ s (Aw g s.heap.size) H locs → lv_has ls 4 [] → X8_takeOpposite_50 n v1  μ = some r → WQ p l e (rmD 0) s m args below meth c g (some (.int r.1)) r.2 H locs (F0 m 50 ls []) := by
    intro μ H locs ls hw hl h
    rw [X8_takeOpposite_50] at h
    refine lv_iconst (v := (0 : Int32)) hx hb dX8_takeOpposite_50 (by decide) ?_
    exact rI hC hw hr hlocks (by rw [← Option.some.inj h]) (by rw [← Option.some.inj h]) dX8_takeOpposite_51
  refine lv_iconst (v := (2 : Int32)) hx hb dX8_takeOpposite_0 (by decide) ?_
  refine lv_aload_n hx hb dX8_takeOpposite_1 rfl (lv_at hl 0 rfl) ?_
  refine gR (t := 1) hC hw fl_X8_21 ok6 (by decide) ot6_6 dX8_takeOpposite_2 ?_
  refine gI hC hw fl_X8_34 ok1 (by decide) dX8_takeOpposite_5 ?_
  refine lv_imul hx hb dX8_takeOpposite_8 ?_
  refine lv_iconst (v := (1 : Int32)) hx hb dX8_takeOpposite_9 (by decide) ?_
  refine lv_isub hx hb dX8_takeOpposite_10 ?_
  refine lv_aload_n hx hb dX8_takeOpposite_11 rfl (lv_at hl 0 rfl) ?_
  refine gI hC hw fl_X8_62 ok6 (by decide) dX8_takeOpposite_12 ?_
  refine lv_isub hx hb dX8_takeOpposite_15 ?_
  refine lv_istore_n (lv' := [(2, .int ((((2 : Int32) * (μ.1 1 1)) - (1 : Int32)) - (μ.1 6 0))), (0, .ref (g.2.2 6)), (1, .ref (g.2.2 v1))]) hx hb dX8_takeOpposite_16 rfl hl (by decide) rfl (fun ls hl => ?_)
  refine lv_aload_n hx hb dX8_takeOpposite_17 rfl (lv_at hl 1 rfl) ?_
  refine gR (t := 1) hC hw fl_X8_21 ok6 (by decide) ot6_6 dX8_takeOpposite_18 ?_
  refine gI hC hw fl_X8_88 ok1 (by decide) dX8_takeOpposite_21 ?_
  refine lv_iconst (v := (1 : Int32)) hx hb dX8_takeOpposite_24 (by decide) ?_
  refine lv_icmp_ne (tgt := 50) hx hb dX8_takeOpposite_25 (by decide) (fun hc => ?_) (fun hc => ?_)
  · rw [if_neg hc] at h
    exact B50 μ _ _ _ hw (lv_sub hl [] rfl) h
  · rw [if_pos hc] at h
    refine lv_aload_n hx hb dX8_takeOpposite_28 rfl (lv_at hl 2 rfl) ?_
    refine gR (t := (v1 + 1)) hC hw fl_X8_43 hk1 (by decide) (sc_T hk1) dX8_takeOpposite_29 ?_
    refine lv_aload_n hx hb dX8_takeOpposite_32 rfl (lv_at hl 1 rfl) ?_
    refine gI hC hw fl_X8_62 ok6 (by decide) dX8_takeOpposite_33 ?_
    obtain ⟨hi36, h⟩ := gd_some h
    refine lI (j := (μ.1 6 0).toNatClampNeg) hC hw (sc_K hk1) (sc_N hk1) hi36 rfl dX8_takeOpposite_36 ?_
    refine lv_iconst (v := (1 : Int32)) hx hb dX8_takeOpposite_37 (by decide) ?_
    refine lv_icmp_ne (tgt := 50) hx hb dX8_takeOpposite_38 (by decide) (fun hc => ?_) (fun hc => ?_)
    · rw [if_neg hc] at h
      exact B50 μ _ _ _ hw (lv_sub hl [] rfl) h
    · rw [if_pos hc] at h
      refine lv_aload_n hx hb dX8_takeOpposite_41 rfl (lv_at hl 2 rfl) ?_
      refine gR (t := (v1 + 1)) hC hw fl_X8_43 hk1 (by decide) (sc_T hk1) dX8_takeOpposite_42 ?_
      refine lv_iload_n hx hb dX8_takeOpposite_45 rfl (lv_at hl 0 rfl) ?_
      obtain ⟨hi46, h⟩ := gd_some h
      refine lI (j := ((((2 : Int32) * (μ.1 1 1)) - (1 : Int32)) - (μ.1 6 0)).toNatClampNeg) hC hw (sc_K hk1) (sc_N hk1) hi46 rfl dX8_takeOpposite_46 ?_
      refine lv_if_ne (tgt := 52) hx hb dX8_takeOpposite_47 (by decide) (fun hc => ?_) (fun hc => ?_)
      · rw [if_neg hc] at h
        refine lv_aload_n hx hb dX8_takeOpposite_52 rfl (lv_at hl 2 rfl) ?_
        refine gR (t := (v1 + 1)) hC hw fl_X8_43 hk1 (by decide) (sc_T hk1) dX8_takeOpposite_53 ?_
        refine lv_iload_n hx hb dX8_takeOpposite_56 rfl (lv_at hl 0 rfl) ?_
        refine lI (j := ((((2 : Int32) * (μ.1 1 1)) - (1 : Int32)) - (μ.1 6 0)).toNatClampNeg) hC hw (sc_K hk1) (sc_N hk1) hi46 rfl dX8_takeOpposite_57 ?_
        refine lv_iconst (v := (1 : Int32)) hx hb dX8_takeOpposite_58 (by decide) ?_
        refine lv_iadd hx hb dX8_takeOpposite_59 ?_
        refine lv_istore_n (lv' := [(3, .int ((μ.1 (v1 + 1) ((((2 : Int32) * (μ.1 1 1)) - (1 : Int32)) - (μ.1 6 0)).toNatClampNeg) + (1 : Int32))), (2, .int ((((2 : Int32) * (μ.1 1 1)) - (1 : Int32)) - (μ.1 6 0))), (0, .ref (g.2.2 6)), (1, .ref (g.2.2 v1))]) hx hb dX8_takeOpposite_60 rfl hl (by decide) rfl (fun ls hl => ?_)
        refine lv_aload_n hx hb dX8_takeOpposite_61 rfl (lv_at hl 3 rfl) ?_
        refine gR (t := (v1 + 1)) hC hw fl_X8_43 hk1 (by decide) (sc_T hk1) dX8_takeOpposite_62 ?_
        refine lv_iload_n hx hb dX8_takeOpposite_65 rfl (lv_at hl 1 rfl) ?_
        refine lv_iconst (v := (0 : Int32)) hx hb dX8_takeOpposite_66 (by decide) ?_
        refine sI (j := ((((2 : Int32) * (μ.1 1 1)) - (1 : Int32)) - (μ.1 6 0)).toNatClampNeg) hC hw (sc_K hk1) (sc_N hk1) hi46 rfl dX8_takeOpposite_67 (fun H locs hw => ?_)
        refine lv_aload_n hx hb dX8_takeOpposite_68 rfl (lv_at hl 3 rfl) ?_
        refine gR (t := (v1 + 1)) hC hw fl_X8_43 hk1 (by decide) (sc_T hk1) dX8_takeOpposite_69 ?_
        refine lv_aload_n hx hb dX8_takeOpposite_72 rfl (lv_at hl 2 rfl) ?_
        refine gI hC hw fl_X8_62 ok6 (by decide) dX8_takeOpposite_73 ?_
        refine lv_iconst (v := (0 : Int32)) hx hb dX8_takeOpposite_76 (by decide) ?_
        obtain ⟨hi77, h⟩ := gd_some h
        refine sI (j := ((si μ (v1 + 1) ((((2 : Int32) * (μ.1 1 1)) - (1 : Int32)) - (μ.1 6 0)).toNatClampNeg (0 : Int32)).1 6 0).toNatClampNeg) hC hw (sc_K hk1) (sc_N hk1) hi77 rfl dX8_takeOpposite_77 (fun H locs hw => ?_)
        refine lv_aload_n hx hb dX8_takeOpposite_78 rfl (lv_at hl 3 rfl) ?_
        refine gR (t := (v1 + 1)) hC hw fl_X8_43 hk1 (by decide) (sc_T hk1) dX8_takeOpposite_79 ?_
        refine lv_bipush (v := (12 : Int32)) hx hb dX8_takeOpposite_82 (by decide) ?_
        refine lv_aload_n hx hb dX8_takeOpposite_84 rfl (lv_at hl 3 rfl) ?_
        refine gI hC hw fl_X8_30 hk1 (by decide) dX8_takeOpposite_85 ?_
        refine lv_iadd hx hb dX8_takeOpposite_88 ?_
        refine lv_dup2_11 hx hb dX8_takeOpposite_89 rfl rfl ?_
        obtain ⟨hi90, h⟩ := gd_some h
        refine lI (j := ((12 : Int32) + ((si (si μ (v1 + 1) ((((2 : Int32) * (μ.1 1 1)) - (1 : Int32)) - (μ.1 6 0)).toNatClampNeg (0 : Int32)) (v1 + 1) ((si μ (v1 + 1) ((((2 : Int32) * (μ.1 1 1)) - (1 : Int32)) - (μ.1 6 0)).toNatClampNeg (0 : Int32)).1 6 0).toNatClampNeg (0 : Int32)).1 v1 1)).toNatClampNeg) hC hw (sc_K hk1) (sc_N hk1) hi90 rfl dX8_takeOpposite_90 ?_
        refine lv_iload_n hx hb dX8_takeOpposite_91 rfl (lv_at hl 0 rfl) ?_
        refine lv_iadd hx hb dX8_takeOpposite_92 ?_
        refine sI (j := ((12 : Int32) + ((si (si μ (v1 + 1) ((((2 : Int32) * (μ.1 1 1)) - (1 : Int32)) - (μ.1 6 0)).toNatClampNeg (0 : Int32)) (v1 + 1) ((si μ (v1 + 1) ((((2 : Int32) * (μ.1 1 1)) - (1 : Int32)) - (μ.1 6 0)).toNatClampNeg (0 : Int32)).1 6 0).toNatClampNeg (0 : Int32)).1 v1 1)).toNatClampNeg) hC hw (sc_K hk1) (sc_N hk1) hi90 rfl dX8_takeOpposite_93 (fun H locs hw => ?_)
        refine lv_iload_n hx hb dX8_takeOpposite_94 rfl (lv_at hl 0 rfl) ?_
        exact rI hC hw hr hlocks (by rw [← Option.some.inj h]) (by rw [← Option.some.inj h]) dX8_takeOpposite_95
      · rw [if_pos hc] at h
        exact B50 μ _ _ _ hw (lv_sub hl [] rfl) h
set_option maxRecDepth 100000 in
set_option maxHeartbeats 4000000 in
theorem c_X8_takeGrand (l : Launch) (g : Gw) (n : Nat) (v1 : Nat) (μ : Mu) (r : Int32 × Mu) (h : X8_takeGrand n v1 μ = some r) : Ct l g yX8_takeGrand cX8_takeGrand 6 (some .int) 1 [.ref (g.2.2 6), .ref (g.2.2 v1)] μ (some (.int r.1)) r.2 := by
  rw [X8_takeGrand] at h
  obtain ⟨hk1, h⟩ := kd_some h
  refine Ct.of (by decide) (Nat.le_of_ble_eq_true rfl) ?_
  intro p e s m args below meth c ls hC hw hr hlocks hl
  have hx := hC.1
  have hb := hC.2.1
  have hl : lv_has ls 6 [(0, .ref (g.2.2 6)), (1, .ref (g.2.2 v1))] := hl
  have B143 : ∀ (k : Nat), ∀ (v3 : Int32) (v5 : Int32) (μ : Mu) (H : Heap) (locs : List Loc) (ls : Array Slot), wd g μ s (Aw g s.heap.size) H locs → lv_has ls 6 [(0, .ref (g.2.2 6)), (1, .ref (g.2.2 v1)), (3, .int v3), (5, .int v5)] → lpF (fun _ _ _ => none) (X8_takeGrand_143b n v1) k v3 v5 μ = some r → WQ p l e (rmD 1) s m args below meth c g (some (.int r.1)) r.2 H locs (F0 m 143 ls []) := by
    intro k
    induction k with
    | zero =>
      intro v3 v5 μ H locs ls hw hl h
      cases h
    | succ k ih143 =>
      rw [lpF_s]
      generalize lpF (fun _ _ _ => none) (X8_takeGrand_143b n v1) k = k143 at ih143 ⊢
      intro v3 v5 μ H locs ls hw hl h
      rw [X8_takeGrand_143b] at h
      refine lv_iload hx hb dX8_takeGrand_143 (lv_at hl 3 rfl) ?_
      refine lv_aload_n hx hb dX8_takeGrand_145 rfl (lv_at hl 0 rfl) ?_
      refine gI hC hw fl_X8_62 ok6 (by decide) dX8_takeGrand_146 ?_
      refine lv_icmp_gt (tgt := 166) hx hb dX8_takeGrand_149 (by decide) (fun hc => ?_) (fun hc => ?_)
      · rw [if_pos hc] at h
        refine lv_aload_n hx hb dX8_takeGrand_166 rfl (lv_at hl 1 rfl) ?_
        refine gR (t := (v1 + 1)) hC hw fl_X8_43 hk1 (by decide) (sc_T hk1) dX8_takeGrand_167 ?_
        refine lv_bipush (v := (12 : Int32)) hx hb dX8_takeGrand_170 (by decide) ?_
        refine lv_aload_n hx hb dX8_takeGrand_172 rfl (lv_at hl 1 rfl) ?_
        refine gI hC hw fl_X8_30 hk1 (by decide) dX8_takeGrand_173 ?_
        refine lv_iadd hx hb dX8_takeGrand_176 ?_
        refine lv_dup2_11 hx hb dX8_takeGrand_177 rfl rfl ?_
        obtain ⟨hi178, h⟩ := gd_some h
        refine lI (j := ((12 : Int32) + (μ.1 v1 1)).toNatClampNeg) hC hw (sc_K hk1) (sc_N hk1) hi178 rfl dX8_takeGrand_178 ?_
        refine lv_iload_n hx hb dX8_takeGrand_179 rfl (lv_at hl 2 rfl) ?_
        refine lv_iadd hx hb dX8_takeGrand_180 ?_
        refine sI (j := ((12 : Int32) + (μ.1 v1 1)).toNatClampNeg) hC hw (sc_K hk1) (sc_N hk1) hi178 rfl dX8_takeGrand_181 (fun H locs hw => ?_)
        refine lv_iload_n hx hb dX8_takeGrand_182 rfl (lv_at hl 2 rfl) ?_
        exact rI hC hw hr hlocks (by rw [← Option.some.inj h]) (by rw [← Option.some.inj h]) dX8_takeGrand_183
      · rw [if_neg hc] at h
        refine lv_aload_n hx hb dX8_takeGrand_152 rfl (lv_at hl 1 rfl) ?_
        refine gR (t := (v1 + 1)) hC hw fl_X8_43 hk1 (by decide) (sc_T hk1) dX8_takeGrand_153 ?_
        refine lv_iload hx hb dX8_takeGrand_156 (lv_at hl 3 rfl) ?_
        refine lv_iconst (v := (0 : Int32)) hx hb dX8_takeGrand_158 (by decide) ?_
        obtain ⟨hi159, h⟩ := gd_some h
        refine sI (j := v5.toNatClampNeg) hC hw (sc_K hk1) (sc_N hk1) hi159 rfl dX8_takeGrand_159 (fun H locs hw => ?_)
        refine lv_iinc (v := (v5 + (1 : Int32))) (lv' := [(5, .int (v5 + (1 : Int32))), (0, .ref (g.2.2 6)), (1, .ref (g.2.2 v1)), (3, .int v3)]) hx hb dX8_takeGrand_160 hl (k := 3) rfl rfl (by decide) rfl (fun ls hl => ?_)
        refine lv_goto (tgt := 143) hx hb dX8_takeGrand_163 (by decide) ?_
        exact ih143 v3 (v5 + (1 : Int32)) (si μ (v1 + 1) v5.toNatClampNeg (0 : Int32)) _ _ _ hw (lv_sub hl [1, 2, 3, 0] rfl) h
  have B137 : ∀ (v3 : Int32) (v4 : Int32) (μ : Mu) (H : Heap) (locs : List Loc) (ls : Array Slot), wd g μ s (Aw g s.heap.size) H locs → lv_has ls 6 [(0, .ref (g.2.2 6)), (1, .ref (g.2.2 v1)), (3, .int v3), (4, .int v4)] → X8_takeGrand_137 n v1 v3 v4 μ = some r → WQ p l e (rmD 1) s m args below meth c g (some (.int r.1)) r.2 H locs (F0 m 137 ls []) := by
    intro v3 v4 μ H locs ls hw hl h
    rw [X8_takeGrand_137] at h
    refine lv_iload hx hb dX8_takeGrand_137 (lv_at hl 3 rfl) ?_
    refine lv_iconst (v := (1 : Int32)) hx hb dX8_takeGrand_139 (by decide) ?_
    refine lv_iadd hx hb dX8_takeGrand_140 ?_
    refine lv_istore (lv' := [(5, .int (v4 + (1 : Int32))), (0, .ref (g.2.2 6)), (1, .ref (g.2.2 v1)), (3, .int v3), (4, .int v4)]) hx hb dX8_takeGrand_141 hl (by decide) rfl (fun ls hl => ?_)
    exact B143 n v3 (v4 + (1 : Int32)) μ _ _ _ hw (lv_sub hl [1, 2, 3, 0] rfl) h
  have B103 : ∀ (v3 : Int32) (v4 : Int32) (μ : Mu) (H : Heap) (locs : List Loc) (ls : Array Slot), wd g μ s (Aw g s.heap.size) H locs → lv_has ls 6 [(0, .ref (g.2.2 6)), (1, .ref (g.2.2 v1)), (3, .int v3), (4, .int v4)] → X8_takeGrand_103 n v1 v3 v4 μ = some r → WQ p l e (rmD 1) s m args below meth c g (some (.int r.1)) r.2 H locs (F0 m 103 ls []) := by
    intro v3 v4 μ H locs ls hw hl h
    rw [X8_takeGrand_103] at h
    refine lv_aload_n hx hb dX8_takeGrand_103 rfl (lv_at hl 0 rfl) ?_
    refine gR (t := 1) hC hw fl_X8_21 ok6 (by decide) ot6_6 dX8_takeGrand_104 ?_
    refine gI hC hw fl_X8_88 ok1 (by decide) dX8_takeGrand_107 ?_
    refine lv_iconst (v := (3 : Int32)) hx hb dX8_takeGrand_110 (by decide) ?_
    refine lv_icmp_ne (tgt := 137) hx hb dX8_takeGrand_111 (by decide) (fun hc => ?_) (fun hc => ?_)
    · rw [if_neg hc] at h
      exact B137 v3 v4 μ _ _ _ hw (lv_sub hl [0, 1, 2, 3] rfl) h
    · rw [if_pos hc] at h
      refine lv_iload_n hx hb dX8_takeGrand_114 rfl (lv_at hl 2 rfl) ?_
      refine lv_aload_n hx hb dX8_takeGrand_115 rfl (lv_at hl 1 rfl) ?_
      refine lv_iconst (v := (1 : Int32)) hx hb dX8_takeGrand_116 (by decide) ?_
      refine lv_aload_n hx hb dX8_takeGrand_117 rfl (lv_at hl 1 rfl) ?_
      refine gI hC hw fl_X8_30 hk1 (by decide) dX8_takeGrand_118 ?_
      refine lv_isub hx hb dX8_takeGrand_121 ?_
      refine lv_aload_n hx hb dX8_takeGrand_122 rfl (lv_at hl 0 rfl) ?_
      refine gR (t := 1) hC hw fl_X8_21 ok6 (by decide) ot6_6 dX8_takeGrand_123 ?_
      refine gI hC hw fl_X8_34 ok1 (by decide) dX8_takeGrand_126 ?_
      obtain ⟨r129, hr129, h⟩ := bnd h
      refine cV (b := v1) (As := [.int ((1 : Int32) - (μ.1 v1 1)), .int (μ.1 1 1)]) (rest := [.int v3]) (st1 := [.int r129.1, .int v3]) hC hw (c_X6_inRow l g n v1 ((1 : Int32) - (μ.1 v1 1)) (μ.1 1 1) μ r129 hr129) ml_X8_91 im_X6_inRow se_X6_inRow hk1 (CN := RX6) (T := TX6) (NF := 2) rfl rfl (by decide) rfl hl.1 ⟨Nat.le_of_ble_eq_true rfl, Nat.le_of_ble_eq_true rfl⟩ (Nat.le_of_ble_eq_true rfl) ⟨Nat.zero_le _, Nat.zero_le _⟩ rfl dX8_takeGrand_129 (fun H locs hw => ?_)
      refine lv_icmp_ne (tgt := 137) hx hb dX8_takeGrand_132 (by decide) (fun hc => ?_) (fun hc => ?_)
      · rw [if_neg hc] at h
        exact B137 v3 v4 r129.2 _ _ _ hw (lv_sub hl [0, 1, 2, 3] rfl) h
      · rw [if_pos hc] at h
        refine lv_iconst (v := (0 : Int32)) hx hb dX8_takeGrand_135 (by decide) ?_
        exact rI hC hw hr hlocks (by rw [← Option.some.inj h]) (by rw [← Option.some.inj h]) dX8_takeGrand_136
  have B47 : ∀ (k : Nat), ∀ (v2 : Int32) (v3 : Int32) (v4 : Int32) (μ : Mu) (H : Heap) (locs : List Loc) (ls : Array Slot), wd g μ s (Aw g s.heap.size) H locs → lv_has ls 6 [(0, .ref (g.2.2 6)), (1, .ref (g.2.2 v1)), (2, .int v2), (3, .int v3), (4, .int v4)] → lpF (fun _ _ _ _ => none) (X8_takeGrand_47b n v1) k v2 v3 v4 μ = some r → WQ p l e (rmD 1) s m args below meth c g (some (.int r.1)) r.2 H locs (F0 m 47 ls []) := by
    intro k
    induction k with
    | zero =>
      intro v2 v3 v4 μ H locs ls hw hl h
      cases h
    | succ k ih47 =>
      rw [lpF_s]
      generalize lpF (fun _ _ _ _ => none) (X8_takeGrand_47b n v1) k = k47 at ih47 ⊢
      intro v2 v3 v4 μ H locs ls hw hl h
      have B87 : ∀ (v2 : Int32) (v3 : Int32) (v4 : Int32) (μ : Mu) (H : Heap) (locs : List Loc) (ls : Array Slot), wd g μ s (Aw g s.heap.size) H locs → lv_has ls 6 [(0, .ref (g.2.2 6)), (1, .ref (g.2.2 v1)), (2, .int v2), (3, .int v3), (4, .int v4)] → X8_takeGrand_87 n v1 k47 v2 v3 v4 μ = some r → WQ p l e (rmD 1) s m args below meth c g (some (.int r.1)) r.2 H locs (F0 m 87 ls []) := by
        intro v2 v3 v4 μ H locs ls hw hl h
        rw [X8_takeGrand_87] at h
        refine lv_iload_n hx hb dX8_takeGrand_87 rfl (lv_at hl 3 rfl) ?_
        refine lv_aload_n hx hb dX8_takeGrand_88 rfl (lv_at hl 1 rfl) ?_
        refine gR (t := (v1 + 1)) hC hw fl_X8_43 hk1 (by decide) (sc_T hk1) dX8_takeGrand_89 ?_
        refine lv_iload hx hb dX8_takeGrand_92 (lv_at hl 4 rfl) ?_
        obtain ⟨hi94, h⟩ := gd_some h
        refine lI (j := v4.toNatClampNeg) hC hw (sc_K hk1) (sc_N hk1) hi94 rfl dX8_takeGrand_94 ?_
        refine lv_iadd hx hb dX8_takeGrand_95 ?_
        refine lv_istore_n (lv' := [(3, .int (v3 + (μ.1 (v1 + 1) v4.toNatClampNeg))), (0, .ref (g.2.2 6)), (1, .ref (g.2.2 v1)), (2, .int v2), (4, .int v4)]) hx hb dX8_takeGrand_96 rfl hl (by decide) rfl (fun ls hl => ?_)
        refine lv_iinc (v := (v4 + ((-1) : Int32))) (lv' := [(4, .int (v4 + ((-1) : Int32))), (3, .int (v3 + (μ.1 (v1 + 1) v4.toNatClampNeg))), (0, .ref (g.2.2 6)), (1, .ref (g.2.2 v1)), (2, .int v2)]) hx hb dX8_takeGrand_97 hl (k := 4) rfl rfl (by decide) rfl (fun ls hl => ?_)
        refine lv_goto (tgt := 47) hx hb dX8_takeGrand_100 (by decide) ?_
        exact ih47 v2 (v3 + (μ.1 (v1 + 1) v4.toNatClampNeg)) (v4 + ((-1) : Int32)) μ _ _ _ hw (lv_sub hl [2, 3, 4, 1, 0] rfl) h
      rw [X8_takeGrand_47b] at h
      refine lv_iload hx hb dX8_takeGrand_47 (lv_at hl 4 rfl) ?_
      refine lv_iload_n hx hb dX8_takeGrand_49 rfl (lv_at hl 2 rfl) ?_
      refine lv_icmp_lt (tgt := 103) hx hb dX8_takeGrand_50 (by decide) (fun hc => ?_) (fun hc => ?_)
      · rw [if_pos hc] at h
        exact B103 v3 v4 μ _ _ _ hw (lv_sub hl [0, 1, 3, 4] rfl) h
      · rw [if_neg hc] at h
        refine lv_aload_n hx hb dX8_takeGrand_53 rfl (lv_at hl 0 rfl) ?_
        refine gR (t := 1) hC hw fl_X8_21 ok6 (by decide) ot6_6 dX8_takeGrand_54 ?_
        refine lv_iload hx hb dX8_takeGrand_57 (lv_at hl 4 rfl) ?_
        obtain ⟨r59, hr59, h⟩ := bnd h
        refine cV (b := 1) (As := [.int v4]) (rest := []) (st1 := [.int r59.1]) hC hw (c_X5_isLacking l g n 1 v4 μ r59 hr59) ml_X8_39 im_X5_isLacking se_X5_isLacking ok1 (CN := RX5) (T := TX5) (NF := 9) rfl rfl (by decide) rfl hl.1 ⟨Nat.le_of_ble_eq_true rfl, Nat.le_of_ble_eq_true rfl⟩ (Nat.le_of_ble_eq_true rfl) ⟨Nat.zero_le _, Nat.zero_le _⟩ rfl dX8_takeGrand_59 (fun H locs hw => ?_)
        refine lv_if_ne (tgt := 87) hx hb dX8_takeGrand_62 (by decide) (fun hc => ?_) (fun hc => ?_)
        · rw [if_neg hc] at h
          exact B87 v2 v3 v4 r59.2 _ _ _ hw (lv_sub hl [0, 1, 2, 3, 4] rfl) h
        · rw [if_pos hc] at h
          refine lv_aload_n hx hb dX8_takeGrand_65 rfl (lv_at hl 1 rfl) ?_
          refine gR (t := (v1 + 1)) hC hw fl_X8_43 hk1 (by decide) (sc_T hk1) dX8_takeGrand_66 ?_
          refine lv_iload hx hb dX8_takeGrand_69 (lv_at hl 4 rfl) ?_
          obtain ⟨hi71, h⟩ := gd_some h
          refine lI (j := v4.toNatClampNeg) hC hw (sc_K hk1) (sc_N hk1) hi71 rfl dX8_takeGrand_71 ?_
          refine lv_iconst (v := (2 : Int32)) hx hb dX8_takeGrand_72 (by decide) ?_
          refine lv_icmp_eq (tgt := 87) hx hb dX8_takeGrand_73 (by decide) (fun hc => ?_) (fun hc => ?_)
          · rw [if_pos hc] at h
            exact B87 v2 v3 v4 r59.2 _ _ _ hw (lv_sub hl [0, 1, 2, 3, 4] rfl) h
          · rw [if_neg hc] at h
            refine lv_aload_n hx hb dX8_takeGrand_76 rfl (lv_at hl 1 rfl) ?_
            refine gR (t := (v1 + 1)) hC hw fl_X8_43 hk1 (by decide) (sc_T hk1) dX8_takeGrand_77 ?_
            refine lv_iload hx hb dX8_takeGrand_80 (lv_at hl 4 rfl) ?_
            refine lI (j := v4.toNatClampNeg) hC hw (sc_K hk1) (sc_N hk1) hi71 rfl dX8_takeGrand_82 ?_
            refine lv_iconst (v := (3 : Int32)) hx hb dX8_takeGrand_83 (by decide) ?_
            refine lv_icmp_ne (tgt := 103) hx hb dX8_takeGrand_84 (by decide) (fun hc => ?_) (fun hc => ?_)
            · rw [if_neg hc] at h
              exact B103 v3 v4 r59.2 _ _ _ hw (lv_sub hl [0, 1, 3, 4] rfl) h
            · rw [if_pos hc] at h
              exact B87 v2 v3 v4 r59.2 _ _ _ hw (lv_sub hl [0, 1, 2, 3, 4] rfl) h
  have B24 : ∀ (μ : Mu) (H : Heap) (locs : List Loc) (ls : Array Slot), wd g μ s (Aw g s.heap.size) H locs → lv_has ls 6 [(0, .ref (g.2.2 6)), (1, .ref (g.2.2 v1))] → X8_takeGrand_24 n v1  μ = some r → WQ p l e (rmD 1) s m args below meth c g (some (.int r.1)) r.2 H locs (F0 m 24 ls []) := by
    intro μ H locs ls hw hl h
    rw [X8_takeGrand_24] at h
    refine lv_iconst (v := (1 : Int32)) hx hb dX8_takeGrand_24 (by decide) ?_
    refine lv_aload_n hx hb dX8_takeGrand_25 rfl (lv_at hl 1 rfl) ?_
    refine gI hC hw fl_X8_30 hk1 (by decide) dX8_takeGrand_26 ?_
    refine lv_isub hx hb dX8_takeGrand_29 ?_
    refine lv_aload_n hx hb dX8_takeGrand_30 rfl (lv_at hl 0 rfl) ?_
    refine gR (t := 1) hC hw fl_X8_21 ok6 (by decide) ot6_6 dX8_takeGrand_31 ?_
    refine gI hC hw fl_X8_34 ok1 (by decide) dX8_takeGrand_34 ?_
    refine lv_imul hx hb dX8_takeGrand_37 ?_
    refine lv_istore_n (lv' := [(2, .int (((1 : Int32) - (μ.1 v1 1)) * (μ.1 1 1))), (0, .ref (g.2.2 6)), (1, .ref (g.2.2 v1))]) hx hb dX8_takeGrand_38 rfl hl (by decide) rfl (fun ls hl => ?_)
    refine lv_iconst (v := (0 : Int32)) hx hb dX8_takeGrand_39 (by decide) ?_
    refine lv_istore_n (lv' := [(3, .int (0 : Int32)), (2, .int (((1 : Int32) - (μ.1 v1 1)) * (μ.1 1 1))), (0, .ref (g.2.2 6)), (1, .ref (g.2.2 v1))]) hx hb dX8_takeGrand_40 rfl hl (by decide) rfl (fun ls hl => ?_)
    refine lv_aload_n hx hb dX8_takeGrand_41 rfl (lv_at hl 2 rfl) ?_
    refine gI hC hw fl_X8_62 ok6 (by decide) dX8_takeGrand_42 ?_
    refine lv_istore (lv' := [(4, .int (μ.1 6 0)), (3, .int (0 : Int32)), (2, .int (((1 : Int32) - (μ.1 v1 1)) * (μ.1 1 1))), (0, .ref (g.2.2 6)), (1, .ref (g.2.2 v1))]) hx hb dX8_takeGrand_45 hl (by decide) rfl (fun ls hl => ?_)
    exact B47 n (((1 : Int32) - (μ.1 v1 1)) * (μ.1 1 1)) (0 : Int32) (μ.1 6 0) μ _ _ _ hw (lv_sub hl [3, 4, 2, 1, 0] rfl) h
  refine lv_aload_n hx hb dX8_takeGrand_0 rfl (lv_at hl 0 rfl) ?_
  refine gR (t := 1) hC hw fl_X8_21 ok6 (by decide) ot6_6 dX8_takeGrand_1 ?_
  refine gI hC hw fl_X8_88 ok1 (by decide) dX8_takeGrand_4 ?_
  refine lv_iconst (v := (2 : Int32)) hx hb dX8_takeGrand_7 (by decide) ?_
  refine lv_icmp_eq (tgt := 24) hx hb dX8_takeGrand_8 (by decide) (fun hc => ?_) (fun hc => ?_)
  · rw [if_pos hc] at h
    exact B24 μ _ _ _ hw (lv_sub hl [0, 1] rfl) h
  · rw [if_neg hc] at h
    refine lv_aload_n hx hb dX8_takeGrand_11 rfl (lv_at hl 0 rfl) ?_
    refine gR (t := 1) hC hw fl_X8_21 ok6 (by decide) ot6_6 dX8_takeGrand_12 ?_
    refine gI hC hw fl_X8_88 ok1 (by decide) dX8_takeGrand_15 ?_
    refine lv_iconst (v := (3 : Int32)) hx hb dX8_takeGrand_18 (by decide) ?_
    refine lv_icmp_eq (tgt := 24) hx hb dX8_takeGrand_19 (by decide) (fun hc => ?_) (fun hc => ?_)
    · rw [if_pos hc] at h
      exact B24 μ _ _ _ hw (lv_sub hl [0, 1] rfl) h
    · rw [if_neg hc] at h
      refine lv_iconst (v := (0 : Int32)) hx hb dX8_takeGrand_22 (by decide) ?_
      exact rI hC hw hr hlocks (by rw [← Option.some.inj h]) (by rw [← Option.some.inj h]) dX8_takeGrand_23
set_option maxRecDepth 100000 in
set_option maxHeartbeats 4000000 in
theorem c_X9_lay (l : Launch) (g : Gw) (n : Nat) (v0 : Nat) (v1 : Int32) (v2 : Int32) (μ : Mu) (r : Unit × Mu) (h : X9_lay n v0 v1 v2 μ = some r) : Ct l g yX9_lay cX9_lay 4 none 0 [.ref (g.2.2 v0), .int v1, .int v2] μ none r.2 := by
  rw [X9_lay] at h
  obtain ⟨hk0, h⟩ := kd_some h
  refine Ct.of (by decide) (Nat.le_of_ble_eq_true rfl) ?_
  intro p e s m args below meth c ls hC hw hr hlocks hl
  have hx := hC.1
  have hb := hC.2.1
  have hl : lv_has ls 4 [(0, .ref (g.2.2 v0)), (1, .int v1), (2, .int v2)] := hl
  have B12 : ∀ (k : Nat), ∀ (v3 : Int32) (μ : Mu) (H : Heap) (locs : List Loc) (ls : Array Slot), wd g μ s (Aw g s.heap.size) H locs → lv_has ls 4 [(0, .ref (g.2.2 v0)), (3, .int v3)] → lpF (fun _ _ => none) (X9_lay_12b n v0 v1 v2) k v3 μ = some r → WQ p l e (rmD 0) s m args below meth c g none r.2 H locs (F0 m 12 ls []) := by
    intro k
    induction k with
    | zero =>
      intro v3 μ H locs ls hw hl h
      cases h
    | succ k ih12 =>
      rw [lpF_s]
      generalize lpF (fun _ _ => none) (X9_lay_12b n v0 v1 v2) k = k12 at ih12 ⊢
      intro v3 μ H locs ls hw hl h
      rw [X9_lay_12b] at h
      refine lv_iload_n hx hb dX9_lay_12 rfl (lv_at hl 1 rfl) ?_
      refine lv_bipush (v := (40 : Int32)) hx hb dX9_lay_13 (by decide) ?_
      refine lv_icmp_ge (tgt := 31) hx hb dX9_lay_15 (by decide) (fun hc => ?_) (fun hc => ?_)
      · rw [if_pos hc] at h
        exact rV hC hw hr hlocks rfl (by rw [← Option.some.inj h]) dX9_lay_31
      · rw [if_neg hc] at h
        refine lv_aload_n hx hb dX9_lay_18 rfl (lv_at hl 0 rfl) ?_
        refine gR (t := (v0 + 1)) hC hw fl_X9_9 hk0 (by decide) (tr_T hk0) dX9_lay_19 ?_
        refine lv_iload_n hx hb dX9_lay_22 rfl (lv_at hl 1 rfl) ?_
        refine lv_lconst (v := (0 : Int64)) hx hb dX9_lay_23 (by decide) ?_
        obtain ⟨hi24, h⟩ := gd_some h
        refine sJ (j := v3.toNatClampNeg) hC hw (tr_K hk0) (tr_N hk0) hi24 rfl dX9_lay_24 (fun H locs hw => ?_)
        refine lv_iinc (v := (v3 + (1 : Int32))) (lv' := [(3, .int (v3 + (1 : Int32))), (0, .ref (g.2.2 v0))]) hx hb dX9_lay_25 hl (k := 1) rfl rfl (by decide) rfl (fun ls hl => ?_)
        refine lv_goto (tgt := 12) hx hb dX9_lay_28 (by decide) ?_
        exact ih12 (v3 + (1 : Int32)) (sj μ (v0 + 1) v3.toNatClampNeg (0 : Int64)) _ _ _ hw (lv_sub hl [1, 0] rfl) h
  refine lv_aload_n hx hb dX9_lay_0 rfl (lv_at hl 0 rfl) ?_
  refine lv_iload_n hx hb dX9_lay_1 rfl (lv_at hl 1 rfl) ?_
  refine pI hC hw fl_X9_15 fp_9_1 hk0 dX9_lay_2 (fun H locs hw => ?_)
  refine lv_aload_n hx hb dX9_lay_5 rfl (lv_at hl 0 rfl) ?_
  refine lv_iload_n hx hb dX9_lay_6 rfl (lv_at hl 2 rfl) ?_
  refine pI hC hw fl_X9_19 fp_9_2 hk0 dX9_lay_7 (fun H locs hw => ?_)
  refine lv_iconst (v := (0 : Int32)) hx hb dX9_lay_10 (by decide) ?_
  refine lv_istore_n (lv' := [(3, .int (0 : Int32)), (0, .ref (g.2.2 v0)), (1, .int v1), (2, .int v2)]) hx hb dX9_lay_11 rfl hl (by decide) rfl (fun ls hl => ?_)
  exact B12 n (0 : Int32) (si (si μ v0 1 v1) v0 2 v2) _ _ _ hw (lv_sub hl [1, 0] rfl) h
set_option maxRecDepth 100000 in
set_option maxHeartbeats 4000000 in
theorem c_X9_cut (l : Launch) (g : Gw) (n : Nat) (v0 : Nat) (v1 : Int64) (μ : Mu) (r : Int64 × Mu) (h : X9_cut n v0 v1 μ = some r) : Ct l g yX9_cut cX9_cut 3 (some .long) 0 [.ref (g.2.2 v0), .long v1] μ (some (.long r.1)) r.2 := by
  rw [X9_cut] at h
  obtain ⟨hk0, h⟩ := kd_some h
  refine Ct.of (by decide) (Nat.le_of_ble_eq_true rfl) ?_
  intro p e s m args below meth c ls hC hw hr hlocks hl
  have hx := hC.1
  have hb := hC.2.1
  have hl : lv_has ls 3 [(0, .ref (g.2.2 v0)), (1, .long v1)] := hl
  refine lv_aload_n hx hb dX9_cut_0 rfl (lv_at hl 0 rfl) ?_
  refine gI hC hw fl_X9_15 hk0 (by decide) dX9_cut_1 ?_
  by_cases hs4_0 : (μ.1 v0 1) = (0 : Int32)
  · rw [if_pos hs4_0] at h
    refine lv_tableIn (off := 28) (tgt := 32) hx hb dX9_cut_4 (by rw [hs4_0]; decide) (by rw [hs4_0]; decide) (by rw [hs4_0]; decide) (by decide) ?_
    refine lv_lload_n hx hb dX9_cut_32 rfl (lv_at hl 1 rfl) ?_
    refine lv_l2i hx hb dX9_cut_33 rfl ?_
    refine lv_i2b hx hb dX9_cut_34 rfl ?_
    refine lv_i2l hx hb dX9_cut_35 rfl ?_
    exact rL hC hw hr hlocks (by rw [← Option.some.inj h]) (by rw [← Option.some.inj h]) dX9_cut_36
  rw [if_neg hs4_0] at h
  by_cases hs4_1 : (μ.1 v0 1) = (1 : Int32)
  · rw [if_pos hs4_1] at h
    refine lv_tableIn (off := 33) (tgt := 37) hx hb dX9_cut_4 (by rw [hs4_1]; decide) (by rw [hs4_1]; decide) (by rw [hs4_1]; decide) (by decide) ?_
    refine lv_lload_n hx hb dX9_cut_37 rfl (lv_at hl 1 rfl) ?_
    refine lv_l2i hx hb dX9_cut_38 rfl ?_
    refine lv_i2s hx hb dX9_cut_39 rfl ?_
    refine lv_i2l hx hb dX9_cut_40 rfl ?_
    exact rL hC hw hr hlocks (by rw [← Option.some.inj h]) (by rw [← Option.some.inj h]) dX9_cut_41
  rw [if_neg hs4_1] at h
  by_cases hs4_2 : (μ.1 v0 1) = (2 : Int32)
  · rw [if_pos hs4_2] at h
    refine lv_tableIn (off := 38) (tgt := 42) hx hb dX9_cut_4 (by rw [hs4_2]; decide) (by rw [hs4_2]; decide) (by rw [hs4_2]; decide) (by decide) ?_
    refine lv_lload_n hx hb dX9_cut_42 rfl (lv_at hl 1 rfl) ?_
    refine lv_l2i hx hb dX9_cut_43 rfl ?_
    refine lv_i2l hx hb dX9_cut_44 rfl ?_
    exact rL hC hw hr hlocks (by rw [← Option.some.inj h]) (by rw [← Option.some.inj h]) dX9_cut_45
  rw [if_neg hs4_2] at h
  have ht0 := lv_neT (a := 0) hs4_0 (by decide)
  have ht1 := lv_neT (a := 1) hs4_1 (by decide)
  have ht2 := lv_neT (a := 2) hs4_2 (by decide)
  refine lv_tableOut (tgt := 46) hx hb dX9_cut_4 (by omega) (by decide) ?_
  refine lv_lload_n hx hb dX9_cut_46 rfl (lv_at hl 1 rfl) ?_
  exact rL hC hw hr hlocks (by rw [← Option.some.inj h]) (by rw [← Option.some.inj h]) dX9_cut_47
set_option maxRecDepth 100000 in
set_option maxHeartbeats 4000000 in
theorem c_X10_begin (l : Launch) (g : Gw) (n : Nat) (v1 : Nat) (μ : Mu) (r : Unit × Mu) (h : X10_begin n v1 μ = some r) : Ct l g yX10_begin cX10_begin 2 none 2 [.ref (g.2.2 22), .ref (g.2.2 v1)] μ none r.2 := by
  rw [X10_begin] at h
  obtain ⟨hk1, h⟩ := kd_some h
  refine Ct.of (by decide) (Nat.le_of_ble_eq_true rfl) ?_
  intro p e s m args below meth c ls hC hw hr hlocks hl
  have hx := hC.1
  have hb := hC.2.1
  have hl : lv_has ls 2 [(0, .ref (g.2.2 22)), (1, .ref (g.2.2 v1))] := hl
  refine lv_aload_n hx hb dX10_begin_0 rfl (lv_at hl 0 rfl) ?_
  refine gR (t := 153) hC hw fl_X10_12 ok22 (by decide) ot22_0 dX10_begin_1 ?_
  refine lv_aload_n hx hb dX10_begin_4 rfl (lv_at hl 1 rfl) ?_
  obtain ⟨r5, hr5, h⟩ := bnd h
  refine cV (b := 153) (As := [.ref (g.2.2 v1)]) (rest := []) (st1 := []) hC hw (c_X6_copy l g n 153 v1 μ r5 hr5) ml_X10_33 im_X6_copy se_X6_copy ok153 (CN := RX6) (T := TX6) (NF := 2) rfl rfl (by decide) rfl hl.1 ⟨Nat.le_of_ble_eq_true rfl, Nat.le_of_ble_eq_true rfl⟩ (Nat.le_of_ble_eq_true rfl) ⟨Nat.zero_le _, Nat.zero_le _⟩ rfl dX10_begin_5 (fun H locs hw => ?_)
  refine lv_aload_n hx hb dX10_begin_8 rfl (lv_at hl 0 rfl) ?_
  refine lv_iconst (v := (0 : Int32)) hx hb dX10_begin_9 (by decide) ?_
  refine pI hC hw fl_X10_37 fp_10_2 ok22 dX10_begin_10 (fun H locs hw => ?_)
  refine lv_aload_n hx hb dX10_begin_13 rfl (lv_at hl 0 rfl) ?_
  refine lv_iconst (v := (0 : Int32)) hx hb dX10_begin_14 (by decide) ?_
  refine pZ hC hw fl_X10_41 fp_10_3 ok22 (Or.inl rfl) dX10_begin_15 (fun H locs hw => ?_)
  exact rV hC hw hr hlocks rfl (by rw [← Option.some.inj h]) dX10_begin_18
set_option maxRecDepth 100000 in
set_option maxHeartbeats 4000000 in
theorem c_X10_isMarkedAgain (l : Launch) (g : Gw) (n : Nat) (μ : Mu) (r : Int32 × Mu) (h : X10_isMarkedAgain n  μ = some r) : Ct l g yX10_isMarkedAgain cX10_isMarkedAgain 2 (some .boolean) 0 [.ref (g.2.2 22)] μ (some (.int r.1)) r.2 := by
  rw [X10_isMarkedAgain] at h
  refine Ct.of (by decide) (Nat.le_of_ble_eq_true rfl) ?_
  intro p e s m args below meth c ls hC hw hr hlocks hl
  have hx := hC.1
  have hb := hC.2.1
  have hl : lv_has ls 2 [(0, .ref (g.2.2 22))] := hl
  have B2 : ∀ (k : Nat), ∀ (v1 : Int32) (μ : Mu) (H : Heap) (locs : List Loc) (ls : Array Slot), wd g μ s (Aw g s.heap.size) H locs → lv_has ls 2 [(0, .ref (g.2.2 22)), (1, .int v1)] → lpF (fun _ _ => none) (X10_isMarkedAgain_2b n) k v1 μ = some r → WQ p l e (rmD 0) s m args below meth c g (some (.int r.1)) r.2 H locs (F0 m 2 ls []) := by
    intro k
    induction k with
    | zero =>
      intro v1 μ H locs ls hw hl h
      cases h
    | succ k ih2 =>
      rw [lpF_s]
      generalize lpF (fun _ _ => none) (X10_isMarkedAgain_2b n) k = k2 at ih2 ⊢
      intro v1 μ H locs ls hw hl h
      rw [X10_isMarkedAgain_2b] at h
      refine lv_iload_n hx hb dX10_isMarkedAgain_2 rfl (lv_at hl 1 rfl) ?_
      refine lv_aload_n hx hb dX10_isMarkedAgain_3 rfl (lv_at hl 0 rfl) ?_
      refine gI hC hw fl_X10_37 ok22 (by decide) dX10_isMarkedAgain_4 ?_
      refine lv_icmp_ge (tgt := 36) hx hb dX10_isMarkedAgain_7 (by decide) (fun hc => ?_) (fun hc => ?_)
      · rw [if_pos hc] at h
        refine lv_iconst (v := (0 : Int32)) hx hb dX10_isMarkedAgain_36 (by decide) ?_
        exact rZ hC hw hr hlocks (Or.inl rfl) (by rw [← Option.some.inj h]) (by rw [← Option.some.inj h]) dX10_isMarkedAgain_37
      · rw [if_neg hc] at h
        refine lv_aload_n hx hb dX10_isMarkedAgain_10 rfl (lv_at hl 0 rfl) ?_
        refine gR (t := 24) hC hw fl_X10_22 ok22 (by decide) ot22_6 dX10_isMarkedAgain_11 ?_
        refine lv_iload_n hx hb dX10_isMarkedAgain_14 rfl (lv_at hl 1 rfl) ?_
        obtain ⟨hi15, h⟩ := gd_some h
        refine lI (j := v1.toNatClampNeg) hC hw ok24 on24 hi15 rfl dX10_isMarkedAgain_15 ?_
        refine lv_aload_n hx hb dX10_isMarkedAgain_16 rfl (lv_at hl 0 rfl) ?_
        refine gR (t := 24) hC hw fl_X10_22 ok22 (by decide) ot22_6 dX10_isMarkedAgain_17 ?_
        refine lv_aload_n hx hb dX10_isMarkedAgain_20 rfl (lv_at hl 0 rfl) ?_
        refine gI hC hw fl_X10_37 ok22 (by decide) dX10_isMarkedAgain_21 ?_
        obtain ⟨hi24, h⟩ := gd_some h
        refine lI (j := (μ.1 22 2).toNatClampNeg) hC hw ok24 on24 hi24 rfl dX10_isMarkedAgain_24 ?_
        refine lv_icmp_ne (tgt := 30) hx hb dX10_isMarkedAgain_25 (by decide) (fun hc => ?_) (fun hc => ?_)
        · rw [if_neg hc] at h
          refine lv_iinc (v := (v1 + (1 : Int32))) (lv' := [(1, .int (v1 + (1 : Int32))), (0, .ref (g.2.2 22))]) hx hb dX10_isMarkedAgain_30 hl (k := 1) rfl rfl (by decide) rfl (fun ls hl => ?_)
          refine lv_goto (tgt := 2) hx hb dX10_isMarkedAgain_33 (by decide) ?_
          exact ih2 (v1 + (1 : Int32)) μ _ _ _ hw (lv_sub hl [1, 0] rfl) h
        · rw [if_pos hc] at h
          refine lv_iconst (v := (1 : Int32)) hx hb dX10_isMarkedAgain_28 (by decide) ?_
          exact rZ hC hw hr hlocks (Or.inr rfl) (by rw [← Option.some.inj h]) (by rw [← Option.some.inj h]) dX10_isMarkedAgain_29
  refine lv_iconst (v := (0 : Int32)) hx hb dX10_isMarkedAgain_0 (by decide) ?_
  refine lv_istore_n (lv' := [(1, .int (0 : Int32)), (0, .ref (g.2.2 22))]) hx hb dX10_isMarkedAgain_1 rfl hl (by decide) rfl (fun ls hl => ?_)
  exact B2 n (0 : Int32) μ _ _ _ hw (lv_sub hl [1, 0] rfl) h
set_option maxRecDepth 100000 in
set_option maxHeartbeats 4000000 in
theorem c_X11_feed (l : Launch) (g : Gw) (n : Nat) (v1 : Int32) (v2 : Int32) (v3 : Int32) (v4 : Int32) (v5 : Int32) (μ : Mu) (r : Int32 × Mu) (h : X11_feed n v1 v2 v3 v4 v5 μ = some r) : Ct l g yX11_feed cX11_feed 6 (some .int) 1 [.ref (g.2.2 0), .int v1, .int v2, .int v3, .int v4, .int v5] μ (some (.int r.1)) r.2 := by
  rw [X11_feed] at h
  refine Ct.of (by decide) (Nat.le_of_ble_eq_true rfl) ?_
  intro p e s m args below meth c ls hC hw hr hlocks hl
  have hx := hC.1
  have hb := hC.2.1
  have hl : lv_has ls 6 [(0, .ref (g.2.2 0)), (1, .int v1), (2, .int v2), (3, .int v3), (4, .int v4), (5, .int v5)] := hl
  refine lv_aload_n hx hb dX11_feed_0 rfl (lv_at hl 0 rfl) ?_
  refine gR (t := 12) hC hw fl_X11_54 ok0 (by decide) ot0_6 dX11_feed_1 ?_
  refine gI hC hw fl_X11_99 ok12 (by decide) dX11_feed_4 ?_
  refine lv_bipush (v := (20 : Int32)) hx hb dX11_feed_7 (by decide) ?_
  refine lv_iadd hx hb dX11_feed_9 ?_
  refine lv_sipush (v := (500 : Int32)) hx hb dX11_feed_10 (by decide) ?_
  refine lv_icmp_le (tgt := 18) hx hb dX11_feed_13 (by decide) (fun hc => ?_) (fun hc => ?_)
  · rw [if_pos hc] at h
    refine lv_aload_n hx hb dX11_feed_18 rfl (lv_at hl 0 rfl) ?_
    refine gR (t := 12) hC hw fl_X11_54 ok0 (by decide) ot0_6 dX11_feed_19 ?_
    refine lv_iload_n hx hb dX11_feed_22 rfl (lv_at hl 1 rfl) ?_
    obtain ⟨r23, hr23, h⟩ := bnd h
    refine cV (b := 12) (As := [.int v1]) (rest := []) (st1 := []) hC hw (c_X4_append l g n v1 μ r23 hr23) ml_X11_103 im_X4_append se_X4_append ok12 (CN := RX4) (T := TX4) (NF := 11) rfl rfl (by decide) rfl hl.1 ⟨Nat.le_of_ble_eq_true rfl, Nat.le_of_ble_eq_true rfl⟩ (Nat.le_of_ble_eq_true rfl) ⟨Nat.zero_le _, Nat.zero_le _⟩ rfl dX11_feed_23 (fun H locs hw => ?_)
    refine lv_aload_n hx hb dX11_feed_26 rfl (lv_at hl 0 rfl) ?_
    refine gR (t := 12) hC hw fl_X11_54 ok0 (by decide) ot0_6 dX11_feed_27 ?_
    refine lv_iload_n hx hb dX11_feed_30 rfl (lv_at hl 2 rfl) ?_
    obtain ⟨r31, hr31, h⟩ := bnd h
    refine cV (b := 12) (As := [.int v2]) (rest := []) (st1 := []) hC hw (c_X4_append l g n v2 r23.2 r31 hr31) ml_X11_103 im_X4_append se_X4_append ok12 (CN := RX4) (T := TX4) (NF := 11) rfl rfl (by decide) rfl hl.1 ⟨Nat.le_of_ble_eq_true rfl, Nat.le_of_ble_eq_true rfl⟩ (Nat.le_of_ble_eq_true rfl) ⟨Nat.zero_le _, Nat.zero_le _⟩ rfl dX11_feed_31 (fun H locs hw => ?_)
    refine lv_aload_n hx hb dX11_feed_34 rfl (lv_at hl 0 rfl) ?_
    refine gR (t := 12) hC hw fl_X11_54 ok0 (by decide) ot0_6 dX11_feed_35 ?_
    refine lv_iload_n hx hb dX11_feed_38 rfl (lv_at hl 3 rfl) ?_
    obtain ⟨r39, hr39, h⟩ := bnd h
    refine cV (b := 12) (As := [.int v3]) (rest := []) (st1 := []) hC hw (c_X4_append l g n v3 r31.2 r39 hr39) ml_X11_103 im_X4_append se_X4_append ok12 (CN := RX4) (T := TX4) (NF := 11) rfl rfl (by decide) rfl hl.1 ⟨Nat.le_of_ble_eq_true rfl, Nat.le_of_ble_eq_true rfl⟩ (Nat.le_of_ble_eq_true rfl) ⟨Nat.zero_le _, Nat.zero_le _⟩ rfl dX11_feed_39 (fun H locs hw => ?_)
    refine lv_aload_n hx hb dX11_feed_42 rfl (lv_at hl 0 rfl) ?_
    refine gR (t := 12) hC hw fl_X11_54 ok0 (by decide) ot0_6 dX11_feed_43 ?_
    refine lv_iload hx hb dX11_feed_46 (lv_at hl 4 rfl) ?_
    obtain ⟨r48, hr48, h⟩ := bnd h
    refine cV (b := 12) (As := [.int v4]) (rest := []) (st1 := []) hC hw (c_X4_append l g n v4 r39.2 r48 hr48) ml_X11_103 im_X4_append se_X4_append ok12 (CN := RX4) (T := TX4) (NF := 11) rfl rfl (by decide) rfl hl.1 ⟨Nat.le_of_ble_eq_true rfl, Nat.le_of_ble_eq_true rfl⟩ (Nat.le_of_ble_eq_true rfl) ⟨Nat.zero_le _, Nat.zero_le _⟩ rfl dX11_feed_48 (fun H locs hw => ?_)
    refine lv_aload_n hx hb dX11_feed_51 rfl (lv_at hl 0 rfl) ?_
    refine gR (t := 12) hC hw fl_X11_54 ok0 (by decide) ot0_6 dX11_feed_52 ?_
    refine lv_iload hx hb dX11_feed_55 (lv_at hl 5 rfl) ?_
    obtain ⟨r57, hr57, h⟩ := bnd h
    refine cV (b := 12) (As := [.int v5]) (rest := []) (st1 := []) hC hw (c_X4_append l g n v5 r48.2 r57 hr57) ml_X11_103 im_X4_append se_X4_append ok12 (CN := RX4) (T := TX4) (NF := 11) rfl rfl (by decide) rfl hl.1 ⟨Nat.le_of_ble_eq_true rfl, Nat.le_of_ble_eq_true rfl⟩ (Nat.le_of_ble_eq_true rfl) ⟨Nat.zero_le _, Nat.zero_le _⟩ rfl dX11_feed_57 (fun H locs hw => ?_)
    refine lv_aload_n hx hb dX11_feed_60 rfl (lv_at hl 0 rfl) ?_
    refine gR (t := 12) hC hw fl_X11_54 ok0 (by decide) ot0_6 dX11_feed_61 ?_
    refine gI hC hw fl_X11_99 ok12 (by decide) dX11_feed_64 ?_
    exact rI hC hw hr hlocks (by rw [← Option.some.inj h]) (by rw [← Option.some.inj h]) dX11_feed_67
  · rw [if_neg hc] at h
    refine lv_iconst (v := ((-1) : Int32)) hx hb dX11_feed_16 (by decide) ?_
    exact rI hC hw hr hlocks (by rw [← Option.some.inj h]) (by rw [← Option.some.inj h]) dX11_feed_17
set_option maxRecDepth 100000 in
set_option maxHeartbeats 4000000 in
theorem c_X11_fault (l : Launch) (g : Gw) (n : Nat) (v1 : Int32) (μ : Mu) (r : Int32 × Mu) (h : X11_fault n v1 μ = some r) : Ct l g yX11_fault cX11_fault 2 (some .int) 0 [.ref (g.2.2 0), .int v1] μ (some (.int r.1)) r.2 := by
  rw [X11_fault] at h
  refine Ct.of (by decide) (Nat.le_of_ble_eq_true rfl) ?_
  intro p e s m args below meth c ls hC hw hr hlocks hl
  have hx := hC.1
  have hb := hC.2.1
  have hl : lv_has ls 2 [(0, .ref (g.2.2 0)), (1, .int v1)] := hl
  refine lv_iload_n hx hb dX11_fault_0 rfl (lv_at hl 1 rfl) ?_
  by_cases hs1_0 : v1 = (0 : Int32)
  · rw [if_pos hs1_0] at h
    refine lv_lookup (off := 27) (tgt := 28) hx hb dX11_fault_1 (by decide) (by rw [hs1_0]; decide) (by decide) ?_
    refine lv_aload_n hx hb dX11_fault_28 rfl (lv_at hl 0 rfl) ?_
    refine gR (t := 12) hC hw fl_X11_54 ok0 (by decide) ot0_6 dX11_fault_29 ?_
    refine gI hC hw fl_X11_117 ok12 (by decide) dX11_fault_32 ?_
    exact rI hC hw hr hlocks (by rw [← Option.some.inj h]) (by rw [← Option.some.inj h]) dX11_fault_35
  rw [if_neg hs1_0] at h
  by_cases hs1_1 : v1 = (1 : Int32)
  · rw [if_pos hs1_1] at h
    refine lv_lookup (off := 35) (tgt := 36) hx hb dX11_fault_1 (by decide) (by rw [hs1_1]; decide) (by decide) ?_
    refine lv_aload_n hx hb dX11_fault_36 rfl (lv_at hl 0 rfl) ?_
    refine gR (t := 12) hC hw fl_X11_54 ok0 (by decide) ot0_6 dX11_fault_37 ?_
    refine gI hC hw fl_X11_131 ok12 (by decide) dX11_fault_40 ?_
    exact rI hC hw hr hlocks (by rw [← Option.some.inj h]) (by rw [← Option.some.inj h]) dX11_fault_43
  rw [if_neg hs1_1] at h
  refine lv_lookup (off := 43) (tgt := 44) hx hb dX11_fault_1 (by decide) (by rw [lv_osw hs1_0 (by decide), lv_osw hs1_1 (by decide)]; rfl) (by decide) ?_
  refine lv_iconst (v := ((-1) : Int32)) hx hb dX11_fault_44 (by decide) ?_
  exact rI hC hw hr hlocks (by rw [← Option.some.inj h]) (by rw [← Option.some.inj h]) dX11_fault_45
set_option maxRecDepth 100000 in
set_option maxHeartbeats 4000000 in
theorem c_X11_mover (l : Launch) (g : Gw) (n : Nat) (μ : Mu) (r : Int32 × Mu) (h : X11_mover n  μ = some r) : Ct l g yX11_mover cX11_mover 1 (some .int) 0 [.ref (g.2.2 0)] μ (some (.int r.1)) r.2 := by
  rw [X11_mover] at h
  refine Ct.of (by decide) (Nat.le_of_ble_eq_true rfl) ?_
  intro p e s m args below meth c ls hC hw hr hlocks hl
  have hx := hC.1
  have hb := hC.2.1
  have hl : lv_has ls 1 [(0, .ref (g.2.2 0))] := hl
  refine lv_aload_n hx hb dX11_mover_0 rfl (lv_at hl 0 rfl) ?_
  refine gR (t := 53) hC hw fl_X11_37 ok0 (by decide) ot0_3 dX11_mover_1 ?_
  refine gI hC hw fl_X11_153 ok53 (by decide) dX11_mover_4 ?_
  exact rI hC hw hr hlocks (by rw [← Option.some.inj h]) (by rw [← Option.some.inj h]) dX11_mover_7
set_option maxRecDepth 100000 in
set_option maxHeartbeats 4000000 in
theorem c_X11_place (l : Launch) (g : Gw) (n : Nat) (μ : Mu) (r : Int32 × Mu) (h : X11_place n  μ = some r) : Ct l g yX11_place cX11_place 2 (some .int) 1 [.ref (g.2.2 0)] μ (some (.int r.1)) r.2 := by
  rw [X11_place] at h
  refine Ct.of (by decide) (Nat.le_of_ble_eq_true rfl) ?_
  intro p e s m args below meth c ls hC hw hr hlocks hl
  have hx := hC.1
  have hb := hC.2.1
  have hl : lv_has ls 2 [(0, .ref (g.2.2 0))] := hl
  have B40 : ∀ (s0 : Int32) (μ : Mu) (H : Heap) (locs : List Loc) (ls : Array Slot), wd g μ s (Aw g s.heap.size) H locs → lv_has ls 2 [] → X11_place_40 n s0 μ = some r → WQ p l e (rmD 1) s m args below meth c g (some (.int r.1)) r.2 H locs (F0 m 40 ls [.int s0]) := by
    intro s0 μ H locs ls hw hl h
    rw [X11_place_40] at h
    exact rI hC hw hr hlocks (by rw [← Option.some.inj h]) (by rw [← Option.some.inj h]) dX11_place_40
  refine lv_aload_n hx hb dX11_place_0 rfl (lv_at hl 0 rfl) ?_
  refine gR (t := 53) hC hw fl_X11_37 ok0 (by decide) ot0_3 dX11_place_1 ?_
  obtain ⟨r4, hr4, h⟩ := bnd h
  refine cV (b := 53) (As := []) (rest := []) (st1 := [.int r4.1]) hC hw (c_X6_inPits l g n 53 μ r4 hr4) ml_X11_236 im_X6_inPits se_X6_inPits ok53 (CN := RX6) (T := TX6) (NF := 2) rfl rfl (by decide) rfl hl.1 ⟨Nat.le_of_ble_eq_true rfl, Nat.le_of_ble_eq_true rfl⟩ (Nat.le_of_ble_eq_true rfl) ⟨Nat.zero_le _, Nat.zero_le _⟩ rfl dX11_place_4 (fun H locs hw => ?_)
  refine lv_istore_n (lv' := [(1, .int r4.1), (0, .ref (g.2.2 0))]) hx hb dX11_place_7 rfl hl (by decide) rfl (fun ls hl => ?_)
  refine lv_aload_n hx hb dX11_place_8 rfl (lv_at hl 1 rfl) ?_
  refine gR (t := 2) hC hw fl_X11_21 ok0 (by decide) ot0_1 dX11_place_9 ?_
  refine lv_iload_n hx hb dX11_place_12 rfl (lv_at hl 0 rfl) ?_
  obtain ⟨r13, hr13, h⟩ := bnd h
  refine cV (b := 2) (As := [.int r4.1]) (rest := []) (st1 := [.int r13.1]) hC hw (c_X1_positionsOf l g n r4.1 r4.2 r13 hr13) ml_X11_232 im_X1_positionsOf se_X1_positionsOf ok2 (CN := RX1) (T := TX1) (NF := 7) rfl rfl (by decide) rfl hl.1 ⟨Nat.le_of_ble_eq_true rfl, Nat.le_of_ble_eq_true rfl⟩ (Nat.le_of_ble_eq_true rfl) ⟨Nat.zero_le _, Nat.zero_le _⟩ rfl dX11_place_13 (fun H locs hw => ?_)
  refine lv_sipush (v := (6000 : Int32)) hx hb dX11_place_16 (by decide) ?_
  refine lv_icmp_le (tgt := 28) hx hb dX11_place_19 (by decide) (fun hc => ?_) (fun hc => ?_)
  · rw [if_pos hc] at h
    refine lv_aload_n hx hb dX11_place_28 rfl (lv_at hl 1 rfl) ?_
    refine gR (t := 2) hC hw fl_X11_21 ok0 (by decide) ot0_1 dX11_place_29 ?_
    refine lv_aload_n hx hb dX11_place_32 rfl (lv_at hl 1 rfl) ?_
    refine gR (t := 53) hC hw fl_X11_37 ok0 (by decide) ot0_3 dX11_place_33 ?_
    refine lv_iload_n hx hb dX11_place_36 rfl (lv_at hl 0 rfl) ?_
    obtain ⟨r37, hr37, h⟩ := bnd h
    refine cV (b := 2) (As := [.ref (g.2.2 53), .int r4.1]) (rest := []) (st1 := [.int r37.1]) hC hw (c_X1_numberOf l g n 53 r4.1 r13.2 r37 hr37) ml_X11_239 im_X1_numberOf se_X1_numberOf ok2 (CN := RX1) (T := TX1) (NF := 7) rfl rfl (by decide) rfl hl.1 ⟨Nat.le_of_ble_eq_true rfl, Nat.le_of_ble_eq_true rfl⟩ (Nat.le_of_ble_eq_true rfl) ⟨Nat.zero_le _, Nat.zero_le _⟩ rfl dX11_place_37 (fun H locs hw => ?_)
    exact B40 r37.1 r37.2 _ _ _ hw (lv_sub hl [] rfl) h
  · rw [if_neg hc] at h
    refine lv_sipush (v := ((-1000) : Int32)) hx hb dX11_place_22 (by decide) ?_
    refine lv_goto (tgt := 40) hx hb dX11_place_25 (by decide) ?_
    exact B40 ((-1000) : Int32) r13.2 _ _ _ hw (lv_sub hl [] rfl) h
set_option maxRecDepth 100000 in
set_option maxHeartbeats 4000000 in
theorem c_X11_has (l : Launch) (g : Gw) (n : Nat) (v0 : Int32) (v1 : Int32) (μ : Mu) (r : Int32 × Mu) (h : X11_has n v0 v1 μ = some r) : Ct l g yX11_has cX11_has 2 (some .boolean) 0 [.int v0, .int v1] μ (some (.int r.1)) r.2 := by
  rw [X11_has] at h
  refine Ct.of (by decide) (Nat.le_of_ble_eq_true rfl) ?_
  intro p e s m args below meth c ls hC hw hr hlocks hl
  have hx := hC.1
  have hb := hC.2.1
  have hl : lv_has ls 2 [(0, .int v0), (1, .int v1)] := hl
  have B14 : ∀ (s0 : Int32) (μ : Mu) (H : Heap) (locs : List Loc) (ls : Array Slot), wd g μ s (Aw g s.heap.size) H locs → lv_has ls 2 [] → X11_has_14 n v0 v1 s0 μ = some r → WQ p l e (rmD 0) s m args below meth c g (some (.int r.1)) r.2 H locs (F0 m 14 ls [.int s0]) := by
    intro s0 μ H locs ls hw hl h
    rw [X11_has_14] at h
    obtain ⟨hz14, h⟩ := bz_some h
    exact rZ hC hw hr hlocks hz14 (by rw [← Option.some.inj h]) (by rw [← Option.some.inj h]) dX11_has_14
  refine lv_iload_n hx hb dX11_has_0 rfl (lv_at hl 0 rfl) ?_
  refine lv_iload_n hx hb dX11_has_1 rfl (lv_at hl 1 rfl) ?_
  refine lv_iushr hx hb dX11_has_2 rfl ?_
  refine lv_iconst (v := (1 : Int32)) hx hb dX11_has_3 (by decide) ?_
  refine lv_iand hx hb dX11_has_4 ?_
  refine lv_iconst (v := (1 : Int32)) hx hb dX11_has_5 (by decide) ?_
  refine lv_icmp_ne (tgt := 13) hx hb dX11_has_6 (by decide) (fun hc => ?_) (fun hc => ?_)
  · rw [if_neg hc] at h
    refine lv_iconst (v := (0 : Int32)) hx hb dX11_has_13 (by decide) ?_
    exact B14 (0 : Int32) μ _ _ _ hw (lv_sub hl [] rfl) h
  · rw [if_pos hc] at h
    refine lv_iconst (v := (1 : Int32)) hx hb dX11_has_9 (by decide) ?_
    refine lv_goto (tgt := 14) hx hb dX11_has_10 (by decide) ?_
    exact B14 (1 : Int32) μ _ _ _ hw (lv_sub hl [] rfl) h
set_option maxRecDepth 100000 in
set_option maxHeartbeats 4000000 in
theorem c_X11_seedsOrLacking (l : Launch) (g : Gw) (n : Nat) (v1 : Nat) (v2 : Int32) (μ : Mu) (r : Int32 × Mu) (h : X11_seedsOrLacking n v1 v2 μ = some r) : Ct l g yX11_seedsOrLacking cX11_seedsOrLacking 3 (some .int) 1 [.ref (g.2.2 0), .ref (g.2.2 v1), .int v2] μ (some (.int r.1)) r.2 := by
  rw [X11_seedsOrLacking] at h
  obtain ⟨hk1, h⟩ := kd_some h
  refine Ct.of (by decide) (Nat.le_of_ble_eq_true rfl) ?_
  intro p e s m args below meth c ls hC hw hr hlocks hl
  have hx := hC.1
  have hb := hC.2.1
  have hl : lv_has ls 3 [(0, .ref (g.2.2 0)), (1, .ref (g.2.2 v1)), (2, .int v2)] := hl
  have B21 : ∀ (s0 : Int32) (μ : Mu) (H : Heap) (locs : List Loc) (ls : Array Slot), wd g μ s (Aw g s.heap.size) H locs → lv_has ls 3 [] → X11_seedsOrLacking_21 n v1 v2 s0 μ = some r → WQ p l e (rmD 1) s m args below meth c g (some (.int r.1)) r.2 H locs (F0 m 21 ls [.int s0]) := by
    intro s0 μ H locs ls hw hl h
    rw [X11_seedsOrLacking_21] at h
    exact rI hC hw hr hlocks (by rw [← Option.some.inj h]) (by rw [← Option.some.inj h]) dX11_seedsOrLacking_21
  refine lv_aload_n hx hb dX11_seedsOrLacking_0 rfl (lv_at hl 0 rfl) ?_
  refine gR (t := 1) hC hw fl_X11_12 ok0 (by decide) ot0_0 dX11_seedsOrLacking_1 ?_
  refine lv_iload_n hx hb dX11_seedsOrLacking_4 rfl (lv_at hl 2 rfl) ?_
  obtain ⟨r5, hr5, h⟩ := bnd h
  refine cV (b := 1) (As := [.int v2]) (rest := []) (st1 := [.int r5.1]) hC hw (c_X5_isLacking l g n 1 v2 μ r5 hr5) ml_X11_411 im_X5_isLacking se_X5_isLacking ok1 (CN := RX5) (T := TX5) (NF := 9) rfl rfl (by decide) rfl hl.1 ⟨Nat.le_of_ble_eq_true rfl, Nat.le_of_ble_eq_true rfl⟩ (Nat.le_of_ble_eq_true rfl) ⟨Nat.zero_le _, Nat.zero_le _⟩ rfl dX11_seedsOrLacking_5 (fun H locs hw => ?_)
  refine lv_if_eq (tgt := 15) hx hb dX11_seedsOrLacking_8 (by decide) (fun hc => ?_) (fun hc => ?_)
  · rw [if_pos hc] at h
    refine lv_aload_n hx hb dX11_seedsOrLacking_15 rfl (lv_at hl 1 rfl) ?_
    refine gR (t := (v1 + 1)) hC hw fl_X11_149 hk1 (by decide) (sc_T hk1) dX11_seedsOrLacking_16 ?_
    refine lv_iload_n hx hb dX11_seedsOrLacking_19 rfl (lv_at hl 2 rfl) ?_
    obtain ⟨hi20, h⟩ := gd_some h
    refine lI (j := v2.toNatClampNeg) hC hw (sc_K hk1) (sc_N hk1) hi20 rfl dX11_seedsOrLacking_20 ?_
    exact B21 (r5.2.1 (v1 + 1) v2.toNatClampNeg) r5.2 _ _ _ hw (lv_sub hl [] rfl) h
  · rw [if_neg hc] at h
    refine lv_iconst (v := ((-1) : Int32)) hx hb dX11_seedsOrLacking_11 (by decide) ?_
    refine lv_goto (tgt := 21) hx hb dX11_seedsOrLacking_12 (by decide) ?_
    exact B21 ((-1) : Int32) r5.2 _ _ _ hw (lv_sub hl [] rfl) h
set_option maxRecDepth 100000 in
set_option maxHeartbeats 4000000 in
theorem c_X12_thrown (l : Launch) (g : Gw) (n : Nat) (μ : Mu) (r : Int32 × Mu) (h : X12_thrown n  μ = some r) : Ct l g yX12_thrown cX12_thrown 1 (some .int) 0 [.ref (g.2.2 171)] μ (some (.int r.1)) r.2 := by
  rw [X12_thrown] at h
  refine Ct.of (by decide) (Nat.le_of_ble_eq_true rfl) ?_
  intro p e s m args below meth c ls hC hw hr hlocks hl
  have hx := hC.1
  have hb := hC.2.1
  have hl : lv_has ls 1 [(0, .ref (g.2.2 171))] := hl
  refine lv_aload_n hx hb dX12_thrown_0 rfl (lv_at hl 0 rfl) ?_
  refine gI hC hw fl_X12_107 ok171 (by decide) dX12_thrown_1 ?_
  exact rI hC hw hr hlocks (by rw [← Option.some.inj h]) (by rw [← Option.some.inj h]) dX12_thrown_4
set_option maxRecDepth 100000 in
set_option maxHeartbeats 4000000 in
theorem c_X12_fails (l : Launch) (g : Gw) (n : Nat) (v1 : Int32) (μ : Mu) (r : Int32 × Mu) (h : X12_fails n v1 μ = some r) : Ct l g yX12_fails cX12_fails 2 (some .int) 0 [.ref (g.2.2 171), .int v1] μ (some (.int r.1)) r.2 := by
  rw [X12_fails] at h
  refine Ct.of (by decide) (Nat.le_of_ble_eq_true rfl) ?_
  intro p e s m args below meth c ls hC hw hr hlocks hl
  have hx := hC.1
  have hb := hC.2.1
  have hl : lv_has ls 2 [(0, .ref (g.2.2 171)), (1, .int v1)] := hl
  refine lv_aload_n hx hb dX12_fails_0 rfl (lv_at hl 0 rfl) ?_
  refine lv_iload_n hx hb dX12_fails_1 rfl (lv_at hl 1 rfl) ?_
  refine pI hC hw fl_X12_107 fp_12_5 ok171 dX12_fails_2 (fun H locs hw => ?_)
  refine lv_iconst (v := (0 : Int32)) hx hb dX12_fails_5 (by decide) ?_
  exact rI hC hw hr hlocks (by rw [← Option.some.inj h]) (by rw [← Option.some.inj h]) dX12_fails_6
set_option maxRecDepth 100000 in
set_option maxHeartbeats 4000000 in
theorem c_X12_within (l : Launch) (g : Gw) (n : Nat) (v0 : Int64) (v2 : Int64) (v4 : Int64) (μ : Mu) (r : Int32 × Mu) (h : X12_within n v0 v2 v4 μ = some r) : Ct l g yX12_within cX12_within 6 (some .boolean) 0 [.long v0, .long v2, .long v4] μ (some (.int r.1)) r.2 := by
  rw [X12_within] at h
  refine Ct.of (by decide) (Nat.le_of_ble_eq_true rfl) ?_
  intro p e s m args below meth c ls hC hw hr hlocks hl
  have hx := hC.1
  have hb := hC.2.1
  have hl : lv_has ls 6 [(0, .long v0), (2, .long v2), (4, .long v4)] := hl
  have B18 : ∀ (s0 : Int32) (μ : Mu) (H : Heap) (locs : List Loc) (ls : Array Slot), wd g μ s (Aw g s.heap.size) H locs → lv_has ls 6 [] → X12_within_18 n v0 v2 v4 s0 μ = some r → WQ p l e (rmD 0) s m args below meth c g (some (.int r.1)) r.2 H locs (F0 m 18 ls [.int s0]) := by
    intro s0 μ H locs ls hw hl h
    rw [X12_within_18] at h
    obtain ⟨hz18, h⟩ := bz_some h
    exact rZ hC hw hr hlocks hz18 (by rw [← Option.some.inj h]) (by rw [← Option.some.inj h]) dX12_within_18
  have B17 : ∀ (μ : Mu) (H : Heap) (locs : List Loc) (ls : Array Slot), wd g μ s (Aw g s.heap.size) H locs → lv_has ls 6 [] → X12_within_17 n v0 v2 v4  μ = some r → WQ p l e (rmD 0) s m args below meth c g (some (.int r.1)) r.2 H locs (F0 m 17 ls []) := by
    intro μ H locs ls hw hl h
    rw [X12_within_17] at h
    refine lv_iconst (v := (0 : Int32)) hx hb dX12_within_17 (by decide) ?_
    exact B18 (0 : Int32) μ _ _ _ hw (lv_sub hl [] rfl) h
  refine lv_lload_n hx hb dX12_within_0 rfl (lv_at hl 0 rfl) ?_
  refine lv_lload_n hx hb dX12_within_1 rfl (lv_at hl 1 rfl) ?_
  refine W.lcmp hx hb dX12_within_2 ?_
  refine lv_if_lt (tgt := 17) hx hb dX12_within_3 (by decide) (fun hc => ?_) (fun hc => ?_)
  · rw [if_pos hc] at h
    exact B17 μ _ _ _ hw (lv_sub hl [] rfl) h
  · rw [if_neg hc] at h
    refine lv_lload_n hx hb dX12_within_6 rfl (lv_at hl 0 rfl) ?_
    refine lv_lload hx hb dX12_within_7 (lv_at hl 2 rfl) ?_
    refine W.lcmp hx hb dX12_within_9 ?_
    refine lv_if_gt (tgt := 17) hx hb dX12_within_10 (by decide) (fun hc => ?_) (fun hc => ?_)
    · rw [if_pos hc] at h
      exact B17 μ _ _ _ hw (lv_sub hl [] rfl) h
    · rw [if_neg hc] at h
      refine lv_iconst (v := (1 : Int32)) hx hb dX12_within_13 (by decide) ?_
      refine lv_goto (tgt := 18) hx hb dX12_within_14 (by decide) ?_
      exact B18 (1 : Int32) μ _ _ _ hw (lv_sub hl [] rfl) h
set_option maxRecDepth 100000 in
set_option maxHeartbeats 4000000 in
theorem c_X12_copies (l : Launch) (g : Gw) (n : Nat) (v0 : Nat) (v1 : Nat) (μ : Mu) (r : Unit × Mu) (h : X12_copies n v0 v1 μ = some r) : Ct l g yX12_copies cX12_copies 3 none 0 [.ref (g.2.2 v0), .ref (g.2.2 v1)] μ none r.2 := by
  rw [X12_copies] at h
  obtain ⟨hk0, h⟩ := kd_some h
  obtain ⟨hk1, h⟩ := kd_some h
  refine Ct.of (by decide) (Nat.le_of_ble_eq_true rfl) ?_
  intro p e s m args below meth c ls hC hw hr hlocks hl
  have hx := hC.1
  have hb := hC.2.1
  have hl : lv_has ls 3 [(0, .ref (g.2.2 v0)), (1, .ref (g.2.2 v1))] := hl
  have B2 : ∀ (k : Nat), ∀ (v2 : Int32) (μ : Mu) (H : Heap) (locs : List Loc) (ls : Array Slot), wd g μ s (Aw g s.heap.size) H locs → lv_has ls 3 [(0, .ref (g.2.2 v0)), (1, .ref (g.2.2 v1)), (2, .int v2)] → lpF (fun _ _ => none) (X12_copies_2b n v0 v1) k v2 μ = some r → WQ p l e (rmD 0) s m args below meth c g none r.2 H locs (F0 m 2 ls []) := by
    intro k
    induction k with
    | zero =>
      intro v2 μ H locs ls hw hl h
      cases h
    | succ k ih2 =>
      rw [lpF_s]
      generalize lpF (fun _ _ => none) (X12_copies_2b n v0 v1) k = k2 at ih2 ⊢
      intro v2 μ H locs ls hw hl h
      rw [X12_copies_2b] at h
      refine lv_iload_n hx hb dX12_copies_2 rfl (lv_at hl 2 rfl) ?_
      refine lv_bipush (v := (25 : Int32)) hx hb dX12_copies_3 (by decide) ?_
      refine lv_icmp_ge (tgt := 20) hx hb dX12_copies_5 (by decide) (fun hc => ?_) (fun hc => ?_)
      · rw [if_pos hc] at h
        exact rV hC hw hr hlocks rfl (by rw [← Option.some.inj h]) dX12_copies_20
      · rw [if_neg hc] at h
        refine lv_aload_n hx hb dX12_copies_8 rfl (lv_at hl 1 rfl) ?_
        refine lv_iload_n hx hb dX12_copies_9 rfl (lv_at hl 2 rfl) ?_
        refine lv_aload_n hx hb dX12_copies_10 rfl (lv_at hl 0 rfl) ?_
        refine lv_iload_n hx hb dX12_copies_11 rfl (lv_at hl 2 rfl) ?_
        obtain ⟨hi12, h⟩ := gd_some h
        refine lI (j := v2.toNatClampNeg) hC hw hk0 rfl hi12 rfl dX12_copies_12 ?_
        obtain ⟨hi13, h⟩ := gd_some h
        refine sI (j := v2.toNatClampNeg) hC hw hk1 rfl hi13 rfl dX12_copies_13 (fun H locs hw => ?_)
        refine lv_iinc (v := (v2 + (1 : Int32))) (lv' := [(2, .int (v2 + (1 : Int32))), (0, .ref (g.2.2 v0)), (1, .ref (g.2.2 v1))]) hx hb dX12_copies_14 hl (k := 2) rfl rfl (by decide) rfl (fun ls hl => ?_)
        refine lv_goto (tgt := 2) hx hb dX12_copies_17 (by decide) ?_
        exact ih2 (v2 + (1 : Int32)) (si μ v1 v2.toNatClampNeg (μ.1 v0 v2.toNatClampNeg)) _ _ _ hw (lv_sub hl [1, 2, 0] rfl) h
  refine lv_iconst (v := (0 : Int32)) hx hb dX12_copies_0 (by decide) ?_
  refine lv_istore_n (lv' := [(2, .int (0 : Int32)), (0, .ref (g.2.2 v0)), (1, .ref (g.2.2 v1))]) hx hb dX12_copies_1 rfl hl (by decide) rfl (fun ls hl => ?_)
  exact B2 n (0 : Int32) μ _ _ _ hw (lv_sub hl [1, 2, 0] rfl) h
set_option maxRecDepth 100000 in
set_option maxHeartbeats 4000000 in
theorem c_X12_feed (l : Launch) (g : Gw) (n : Nat) (v1 : Int32) (v2 : Int32) (v3 : Int32) (v4 : Int32) (v5 : Int32) (μ : Mu) (r : Int32 × Mu) (h : X12_feed n v1 v2 v3 v4 v5 μ = some r) : Ct l g yX12_feed cX12_feed 8 (some .int) 0 [.ref (g.2.2 171), .int v1, .int v2, .int v3, .int v4, .int v5] μ (some (.int r.1)) r.2 := by
  rw [X12_feed] at h
  refine Ct.of (by decide) (Nat.le_of_ble_eq_true rfl) ?_
  intro p e s m args below meth c ls hC hw hr hlocks hl
  have hx := hC.1
  have hb := hC.2.1
  have hl : lv_has ls 8 [(0, .ref (g.2.2 171)), (1, .int v1), (2, .int v2), (3, .int v3), (4, .int v4), (5, .int v5)] := hl
  have B23 : ∀ (k : Nat), ∀ (v6 : Int32) (μ : Mu) (H : Heap) (locs : List Loc) (ls : Array Slot), wd g μ s (Aw g s.heap.size) H locs → lv_has ls 8 [(0, .ref (g.2.2 171)), (1, .int v1), (2, .int v2), (3, .int v3), (4, .int v4), (5, .int v5), (6, .int v6)] → lpF (fun _ _ => none) (X12_feed_23b n v1 v2 v3 v4 v5) k v6 μ = some r → WQ p l e (rmD 0) s m args below meth c g (some (.int r.1)) r.2 H locs (F0 m 23 ls []) := by
    intro k
    induction k with
    | zero =>
      intro v6 μ H locs ls hw hl h
      cases h
    | succ k ih23 =>
      rw [lpF_s]
      generalize lpF (fun _ _ => none) (X12_feed_23b n v1 v2 v3 v4 v5) k = k23 at ih23 ⊢
      intro v6 μ H locs ls hw hl h
      have B76 : ∀ (v6 : Int32) (s0 : Int32) (μ : Mu) (H : Heap) (locs : List Loc) (ls : Array Slot), wd g μ s (Aw g s.heap.size) H locs → lv_has ls 8 [(0, .ref (g.2.2 171)), (1, .int v1), (2, .int v2), (3, .int v3), (4, .int v4), (5, .int v5), (6, .int v6)] → X12_feed_76 n v1 v2 v3 v4 v5 k23 v6 s0 μ = some r → WQ p l e (rmD 0) s m args below meth c g (some (.int r.1)) r.2 H locs (F0 m 76 ls [.int s0]) := by
        intro v6 s0 μ H locs ls hw hl h
        rw [X12_feed_76] at h
        refine lv_istore (lv' := [(7, .int s0), (0, .ref (g.2.2 171)), (1, .int v1), (2, .int v2), (3, .int v3), (4, .int v4), (5, .int v5), (6, .int v6)]) hx hb dX12_feed_76 hl (by decide) rfl (fun ls hl => ?_)
        refine lv_aload_n hx hb dX12_feed_78 rfl (lv_at hl 1 rfl) ?_
        refine gR (t := 177) hC hw fl_X12_26 ok171 (by decide) ot171_6 dX12_feed_79 ?_
        refine lv_aload_n hx hb dX12_feed_82 rfl (lv_at hl 1 rfl) ?_
        refine gI hC hw fl_X12_110 ok171 (by decide) dX12_feed_83 ?_
        refine lv_iload hx hb dX12_feed_86 (lv_at hl 0 rfl) ?_
        refine lv_bipush (v := (24 : Int32)) hx hb dX12_feed_88 (by decide) ?_
        refine lv_bipush (v := (8 : Int32)) hx hb dX12_feed_90 (by decide) ?_
        refine lv_iload hx hb dX12_feed_92 (lv_at hl 7 rfl) ?_
        refine lv_iconst (v := (3 : Int32)) hx hb dX12_feed_94 (by decide) ?_
        refine lv_iand hx hb dX12_feed_95 ?_
        refine lv_imul hx hb dX12_feed_96 ?_
        refine lv_isub hx hb dX12_feed_97 ?_
        refine lv_iushr hx hb dX12_feed_98 rfl ?_
        refine lv_sipush (v := (255 : Int32)) hx hb dX12_feed_99 (by decide) ?_
        refine lv_iand hx hb dX12_feed_102 ?_
        obtain ⟨hi103, h⟩ := gd_some h
        refine sI (j := (μ.1 171 7).toNatClampNeg) hC hw ok177 on177 hi103 rfl dX12_feed_103 (fun H locs hw => ?_)
        refine lv_aload_n hx hb dX12_feed_104 rfl (lv_at hl 1 rfl) ?_
        refine lv_dup hx hb dX12_feed_105 rfl ?_
        refine gI hC hw fl_X12_110 ok171 (by decide) dX12_feed_106 ?_
        refine lv_iconst (v := (1 : Int32)) hx hb dX12_feed_109 (by decide) ?_
        refine lv_iadd hx hb dX12_feed_110 ?_
        refine pI hC hw fl_X12_110 fp_12_7 ok171 dX12_feed_111 (fun H locs hw => ?_)
        refine lv_iinc (v := (v6 + (1 : Int32))) (lv' := [(6, .int (v6 + (1 : Int32))), (7, .int s0), (0, .ref (g.2.2 171)), (1, .int v1), (2, .int v2), (3, .int v3), (4, .int v4), (5, .int v5)]) hx hb dX12_feed_114 hl (k := 7) rfl rfl (by decide) rfl (fun ls hl => ?_)
        refine lv_goto (tgt := 23) hx hb dX12_feed_117 (by decide) ?_
        exact ih23 (v6 + (1 : Int32)) (si (si μ 177 (μ.1 171 7).toNatClampNeg (((s0.toUInt32 >>> (((24 : Int32) - ((8 : Int32) * (v6 &&& (3 : Int32)))).toUInt32 &&& Int32.toUInt32 31)).toInt32) &&& (255 : Int32))) 171 7 (((si μ 177 (μ.1 171 7).toNatClampNeg (((s0.toUInt32 >>> (((24 : Int32) - ((8 : Int32) * (v6 &&& (3 : Int32)))).toUInt32 &&& Int32.toUInt32 31)).toInt32) &&& (255 : Int32))).1 171 7) + (1 : Int32))) _ _ _ hw (lv_sub hl [2, 3, 4, 5, 6, 7, 0] rfl) h
      rw [X12_feed_23b] at h
      refine lv_iload hx hb dX12_feed_23 (lv_at hl 6 rfl) ?_
      refine lv_bipush (v := (20 : Int32)) hx hb dX12_feed_25 (by decide) ?_
      refine lv_icmp_ge (tgt := 120) hx hb dX12_feed_27 (by decide) (fun hc => ?_) (fun hc => ?_)
      · rw [if_pos hc] at h
        refine lv_aload_n hx hb dX12_feed_120 rfl (lv_at hl 0 rfl) ?_
        refine gI hC hw fl_X12_110 ok171 (by decide) dX12_feed_121 ?_
        exact rI hC hw hr hlocks (by rw [← Option.some.inj h]) (by rw [← Option.some.inj h]) dX12_feed_124
      · rw [if_neg hc] at h
        refine lv_iload hx hb dX12_feed_30 (lv_at hl 6 rfl) ?_
        refine lv_iconst (v := (4 : Int32)) hx hb dX12_feed_32 (by decide) ?_
        refine lv_icmp_ge (tgt := 40) hx hb dX12_feed_33 (by decide) (fun hc => ?_) (fun hc => ?_)
        · rw [if_pos hc] at h
          refine lv_iload hx hb dX12_feed_40 (lv_at hl 6 rfl) ?_
          refine lv_bipush (v := (8 : Int32)) hx hb dX12_feed_42 (by decide) ?_
          refine lv_icmp_ge (tgt := 51) hx hb dX12_feed_44 (by decide) (fun hc => ?_) (fun hc => ?_)
          · rw [if_pos hc] at h
            refine lv_iload hx hb dX12_feed_51 (lv_at hl 6 rfl) ?_
            refine lv_bipush (v := (12 : Int32)) hx hb dX12_feed_53 (by decide) ?_
            refine lv_icmp_ge (tgt := 62) hx hb dX12_feed_55 (by decide) (fun hc => ?_) (fun hc => ?_)
            · rw [if_pos hc] at h
              refine lv_iload hx hb dX12_feed_62 (lv_at hl 6 rfl) ?_
              refine lv_bipush (v := (16 : Int32)) hx hb dX12_feed_64 (by decide) ?_
              refine lv_icmp_ge (tgt := 74) hx hb dX12_feed_66 (by decide) (fun hc => ?_) (fun hc => ?_)
              · rw [if_pos hc] at h
                refine lv_iload hx hb dX12_feed_74 (lv_at hl 5 rfl) ?_
                exact B76 v6 v5 μ _ _ _ hw (lv_sub hl [0, 1, 2, 3, 4, 5, 6] rfl) h
              · rw [if_neg hc] at h
                refine lv_iload hx hb dX12_feed_69 (lv_at hl 4 rfl) ?_
                refine lv_goto (tgt := 76) hx hb dX12_feed_71 (by decide) ?_
                exact B76 v6 v4 μ _ _ _ hw (lv_sub hl [0, 1, 2, 3, 4, 5, 6] rfl) h
            · rw [if_neg hc] at h
              refine lv_iload_n hx hb dX12_feed_58 rfl (lv_at hl 3 rfl) ?_
              refine lv_goto (tgt := 76) hx hb dX12_feed_59 (by decide) ?_
              exact B76 v6 v3 μ _ _ _ hw (lv_sub hl [0, 1, 2, 3, 4, 5, 6] rfl) h
          · rw [if_neg hc] at h
            refine lv_iload_n hx hb dX12_feed_47 rfl (lv_at hl 2 rfl) ?_
            refine lv_goto (tgt := 76) hx hb dX12_feed_48 (by decide) ?_
            exact B76 v6 v2 μ _ _ _ hw (lv_sub hl [0, 1, 2, 3, 4, 5, 6] rfl) h
        · rw [if_neg hc] at h
          refine lv_iload_n hx hb dX12_feed_36 rfl (lv_at hl 1 rfl) ?_
          refine lv_goto (tgt := 76) hx hb dX12_feed_37 (by decide) ?_
          exact B76 v6 v1 μ _ _ _ hw (lv_sub hl [0, 1, 2, 3, 4, 5, 6] rfl) h
  refine lv_aload_n hx hb dX12_feed_0 rfl (lv_at hl 0 rfl) ?_
  refine lv_iconst (v := (0 : Int32)) hx hb dX12_feed_1 (by decide) ?_
  refine pI hC hw fl_X12_107 fp_12_5 ok171 dX12_feed_2 (fun H locs hw => ?_)
  refine lv_aload_n hx hb dX12_feed_5 rfl (lv_at hl 0 rfl) ?_
  refine gI hC hw fl_X12_110 ok171 (by decide) dX12_feed_6 ?_
  refine lv_bipush (v := (20 : Int32)) hx hb dX12_feed_9 (by decide) ?_
  refine lv_iadd hx hb dX12_feed_11 ?_
  refine lv_sipush (v := (500 : Int32)) hx hb dX12_feed_12 (by decide) ?_
  refine lv_icmp_le (tgt := 20) hx hb dX12_feed_15 (by decide) (fun hc => ?_) (fun hc => ?_)
  · rw [if_pos hc] at h
    refine lv_iconst (v := (0 : Int32)) hx hb dX12_feed_20 (by decide) ?_
    refine lv_istore (lv' := [(6, .int (0 : Int32)), (0, .ref (g.2.2 171)), (1, .int v1), (2, .int v2), (3, .int v3), (4, .int v4), (5, .int v5)]) hx hb dX12_feed_21 hl (by decide) rfl (fun ls hl => ?_)
    exact B23 n (0 : Int32) (si μ 171 5 (0 : Int32)) _ _ _ hw (lv_sub hl [1, 2, 3, 4, 5, 6, 0] rfl) h
  · rw [if_neg hc] at h
    refine lv_iconst (v := ((-1) : Int32)) hx hb dX12_feed_18 (by decide) ?_
    exact rI hC hw hr hlocks (by rw [← Option.some.inj h]) (by rw [← Option.some.inj h]) dX12_feed_19
set_option maxRecDepth 100000 in
set_option maxHeartbeats 4000000 in
theorem c_X12_see (l : Launch) (g : Gw) (n : Nat) (v1 : Int32) (μ : Mu) (r : Int32 × Mu) (h : X12_see n v1 μ = some r) : Ct l g yX12_see cX12_see 2 (some .int) 0 [.ref (g.2.2 171), .int v1] μ (some (.int r.1)) r.2 := by
  rw [X12_see] at h
  refine Ct.of (by decide) (Nat.le_of_ble_eq_true rfl) ?_
  intro p e s m args below meth c ls hC hw hr hlocks hl
  have hx := hC.1
  have hb := hC.2.1
  have hl : lv_has ls 2 [(0, .ref (g.2.2 171)), (1, .int v1)] := hl
  have B18 : ∀ (s0 : Int32) (μ : Mu) (H : Heap) (locs : List Loc) (ls : Array Slot), wd g μ s (Aw g s.heap.size) H locs → lv_has ls 2 [] → X12_see_18 n v1 s0 μ = some r → WQ p l e (rmD 0) s m args below meth c g (some (.int r.1)) r.2 H locs (F0 m 18 ls [.int s0]) := by
    intro s0 μ H locs ls hw hl h
    rw [X12_see_18] at h
    exact rI hC hw hr hlocks (by rw [← Option.some.inj h]) (by rw [← Option.some.inj h]) dX12_see_18
  refine lv_iload_n hx hb dX12_see_0 rfl (lv_at hl 1 rfl) ?_
  refine lv_aload_n hx hb dX12_see_1 rfl (lv_at hl 0 rfl) ?_
  refine gI hC hw fl_X12_113 ok171 (by decide) dX12_see_2 ?_
  refine lv_icmp_ge (tgt := 17) hx hb dX12_see_5 (by decide) (fun hc => ?_) (fun hc => ?_)
  · rw [if_pos hc] at h
    refine lv_iconst (v := (0 : Int32)) hx hb dX12_see_17 (by decide) ?_
    exact B18 (0 : Int32) μ _ _ _ hw (lv_sub hl [] rfl) h
  · rw [if_neg hc] at h
    refine lv_aload_n hx hb dX12_see_8 rfl (lv_at hl 0 rfl) ?_
    refine gR (t := 177) hC hw fl_X12_26 ok171 (by decide) ot171_6 dX12_see_9 ?_
    refine lv_iload_n hx hb dX12_see_12 rfl (lv_at hl 1 rfl) ?_
    obtain ⟨hi13, h⟩ := gd_some h
    refine lI (j := v1.toNatClampNeg) hC hw ok177 on177 hi13 rfl dX12_see_13 ?_
    refine lv_goto (tgt := 18) hx hb dX12_see_14 (by decide) ?_
    exact B18 (μ.1 177 v1.toNatClampNeg) μ _ _ _ hw (lv_sub hl [] rfl) h
set_option maxRecDepth 100000 in
set_option maxHeartbeats 4000000 in
theorem c_X12_isLetter (l : Launch) (g : Gw) (n : Nat) (v0 : Int32) (μ : Mu) (r : Int32 × Mu) (h : X12_isLetter n v0 μ = some r) : Ct l g yX12_isLetter cX12_isLetter 1 (some .boolean) 0 [.int v0] μ (some (.int r.1)) r.2 := by
  rw [X12_isLetter] at h
  refine Ct.of (by decide) (Nat.le_of_ble_eq_true rfl) ?_
  intro p e s m args below meth c ls hC hw hr hlocks hl
  have hx := hC.1
  have hb := hC.2.1
  have hl : lv_has ls 1 [(0, .int v0)] := hl
  have B17 : ∀ (s0 : Int32) (μ : Mu) (H : Heap) (locs : List Loc) (ls : Array Slot), wd g μ s (Aw g s.heap.size) H locs → lv_has ls 1 [] → X12_isLetter_17 n v0 s0 μ = some r → WQ p l e (rmD 0) s m args below meth c g (some (.int r.1)) r.2 H locs (F0 m 17 ls [.int s0]) := by
    intro s0 μ H locs ls hw hl h
    rw [X12_isLetter_17] at h
    obtain ⟨hz17, h⟩ := bz_some h
    exact rZ hC hw hr hlocks hz17 (by rw [← Option.some.inj h]) (by rw [← Option.some.inj h]) dX12_isLetter_17
  have B16 : ∀ (μ : Mu) (H : Heap) (locs : List Loc) (ls : Array Slot), wd g μ s (Aw g s.heap.size) H locs → lv_has ls 1 [] → X12_isLetter_16 n v0  μ = some r → WQ p l e (rmD 0) s m args below meth c g (some (.int r.1)) r.2 H locs (F0 m 16 ls []) := by
    intro μ H locs ls hw hl h
    rw [X12_isLetter_16] at h
    refine lv_iconst (v := (0 : Int32)) hx hb dX12_isLetter_16 (by decide) ?_
    exact B17 (0 : Int32) μ _ _ _ hw (lv_sub hl [] rfl) h
  refine lv_iload_n hx hb dX12_isLetter_0 rfl (lv_at hl 0 rfl) ?_
  refine lv_bipush (v := (97 : Int32)) hx hb dX12_isLetter_1 (by decide) ?_
  refine lv_icmp_lt (tgt := 16) hx hb dX12_isLetter_3 (by decide) (fun hc => ?_) (fun hc => ?_)
  · rw [if_pos hc] at h
    exact B16 μ _ _ _ hw (lv_sub hl [] rfl) h
  · rw [if_neg hc] at h
    refine lv_iload_n hx hb dX12_isLetter_6 rfl (lv_at hl 0 rfl) ?_
    refine lv_bipush (v := (122 : Int32)) hx hb dX12_isLetter_7 (by decide) ?_
    refine lv_icmp_gt (tgt := 16) hx hb dX12_isLetter_9 (by decide) (fun hc => ?_) (fun hc => ?_)
    · rw [if_pos hc] at h
      exact B16 μ _ _ _ hw (lv_sub hl [] rfl) h
    · rw [if_neg hc] at h
      refine lv_iconst (v := (1 : Int32)) hx hb dX12_isLetter_12 (by decide) ?_
      refine lv_goto (tgt := 17) hx hb dX12_isLetter_13 (by decide) ?_
      exact B17 (1 : Int32) μ _ _ _ hw (lv_sub hl [] rfl) h
set_option maxRecDepth 100000 in
set_option maxHeartbeats 4000000 in
theorem c_X12_isDigit (l : Launch) (g : Gw) (n : Nat) (v0 : Int32) (μ : Mu) (r : Int32 × Mu) (h : X12_isDigit n v0 μ = some r) : Ct l g yX12_isDigit cX12_isDigit 1 (some .boolean) 0 [.int v0] μ (some (.int r.1)) r.2 := by
  rw [X12_isDigit] at h
  refine Ct.of (by decide) (Nat.le_of_ble_eq_true rfl) ?_
  intro p e s m args below meth c ls hC hw hr hlocks hl
  have hx := hC.1
  have hb := hC.2.1
  have hl : lv_has ls 1 [(0, .int v0)] := hl
  have B17 : ∀ (s0 : Int32) (μ : Mu) (H : Heap) (locs : List Loc) (ls : Array Slot), wd g μ s (Aw g s.heap.size) H locs → lv_has ls 1 [] → X12_isDigit_17 n v0 s0 μ = some r → WQ p l e (rmD 0) s m args below meth c g (some (.int r.1)) r.2 H locs (F0 m 17 ls [.int s0]) := by
    intro s0 μ H locs ls hw hl h
    rw [X12_isDigit_17] at h
    obtain ⟨hz17, h⟩ := bz_some h
    exact rZ hC hw hr hlocks hz17 (by rw [← Option.some.inj h]) (by rw [← Option.some.inj h]) dX12_isDigit_17
  have B16 : ∀ (μ : Mu) (H : Heap) (locs : List Loc) (ls : Array Slot), wd g μ s (Aw g s.heap.size) H locs → lv_has ls 1 [] → X12_isDigit_16 n v0  μ = some r → WQ p l e (rmD 0) s m args below meth c g (some (.int r.1)) r.2 H locs (F0 m 16 ls []) := by
    intro μ H locs ls hw hl h
    rw [X12_isDigit_16] at h
    refine lv_iconst (v := (0 : Int32)) hx hb dX12_isDigit_16 (by decide) ?_
    exact B17 (0 : Int32) μ _ _ _ hw (lv_sub hl [] rfl) h
  refine lv_iload_n hx hb dX12_isDigit_0 rfl (lv_at hl 0 rfl) ?_
  refine lv_bipush (v := (48 : Int32)) hx hb dX12_isDigit_1 (by decide) ?_
  refine lv_icmp_lt (tgt := 16) hx hb dX12_isDigit_3 (by decide) (fun hc => ?_) (fun hc => ?_)
  · rw [if_pos hc] at h
    exact B16 μ _ _ _ hw (lv_sub hl [] rfl) h
  · rw [if_neg hc] at h
    refine lv_iload_n hx hb dX12_isDigit_6 rfl (lv_at hl 0 rfl) ?_
    refine lv_bipush (v := (57 : Int32)) hx hb dX12_isDigit_7 (by decide) ?_
    refine lv_icmp_gt (tgt := 16) hx hb dX12_isDigit_9 (by decide) (fun hc => ?_) (fun hc => ?_)
    · rw [if_pos hc] at h
      exact B16 μ _ _ _ hw (lv_sub hl [] rfl) h
    · rw [if_neg hc] at h
      refine lv_iconst (v := (1 : Int32)) hx hb dX12_isDigit_12 (by decide) ?_
      refine lv_goto (tgt := 17) hx hb dX12_isDigit_13 (by decide) ?_
      exact B17 (1 : Int32) μ _ _ _ hw (lv_sub hl [] rfl) h
set_option maxRecDepth 100000 in
set_option maxHeartbeats 4000000 in
theorem c_X12_reads (l : Launch) (g : Gw) (n : Nat) (μ : Mu) (r : Unit × Mu) (h : X12_reads n  μ = some r) : Ct l g yX12_reads cX12_reads 2 none 1 [.ref (g.2.2 171)] μ none r.2 := by
  rw [X12_reads] at h
  refine Ct.of (by decide) (Nat.le_of_ble_eq_true rfl) ?_
  intro p e s m args below meth c ls hC hw hr hlocks hl
  have hx := hC.1
  have hb := hC.2.1
  have hl : lv_has ls 2 [(0, .ref (g.2.2 171))] := hl
  have B262 : ∀ (μ : Mu) (H : Heap) (locs : List Loc) (ls : Array Slot), wd g μ s (Aw g s.heap.size) H locs → lv_has ls 2 [] → X12_reads_262 n  μ = some r → WQ p l e (rmD 1) s m args below meth c g none r.2 H locs (F0 m 262 ls []) := by
    intro μ H locs ls hw hl h
    rw [X12_reads_262] at h
    exact rV hC hw hr hlocks rfl (by rw [← Option.some.inj h]) dX12_reads_262
  have B94 : ∀ (k : Nat), ∀ (μ : Mu) (H : Heap) (locs : List Loc) (ls : Array Slot), wd g μ s (Aw g s.heap.size) H locs → lv_has ls 2 [(0, .ref (g.2.2 171))] → lpF (fun _ => none) (X12_reads_94b n) k  μ = some r → WQ p l e (rmD 1) s m args below meth c g none r.2 H locs (F0 m 94 ls []) := by
    intro k
    induction k with
    | zero =>
      intro μ H locs ls hw hl h
      cases h
    | succ k ih94 =>
      rw [lpF_s]
      generalize lpF (fun _ => none) (X12_reads_94b n) k = k94 at ih94 ⊢
      intro μ H locs ls hw hl h
      rw [X12_reads_94b] at h
      refine lv_aload_n hx hb dX12_reads_94 rfl (lv_at hl 0 rfl) ?_
      refine lv_aload_n hx hb dX12_reads_95 rfl (lv_at hl 0 rfl) ?_
      refine gI hC hw fl_X12_116 ok171 (by decide) dX12_reads_96 ?_
      obtain ⟨r99, hr99, h⟩ := bnd h
      refine cV (b := 171) (As := [.int (μ.1 171 9)]) (rest := []) (st1 := [.int r99.1]) hC hw (c_X12_see l g n (μ.1 171 9) μ r99 hr99) ml_X12_129 im_X12_see se_X12_see ok171 (CN := RX12) (T := TX12) (NF := 54) rfl rfl (by decide) rfl hl.1 ⟨Nat.le_of_ble_eq_true rfl, Nat.le_of_ble_eq_true rfl⟩ (Nat.le_of_ble_eq_true rfl) ⟨Nat.zero_le _, Nat.zero_le _⟩ rfl dX12_reads_99 (fun H locs hw => ?_)
      obtain ⟨r102, hr102, h⟩ := bnd h
      refine cS (As := [.int r99.1]) (rest := []) (st1 := [.int r102.1]) hC hw (c_X12_isLetter l g n r99.1 r99.2 r102 hr102) ml_X12_125 st_X12_isLetter rfl hl.1 ⟨Nat.le_of_ble_eq_true rfl, Nat.le_of_ble_eq_true rfl⟩ (Nat.le_of_ble_eq_true rfl) ⟨Nat.zero_le _, Nat.zero_le _⟩ rfl dX12_reads_102 (fun H locs hw => ?_)
      refine lv_if_eq (tgt := 121) hx hb dX12_reads_105 (by decide) (fun hc => ?_) (fun hc => ?_)
      · rw [if_pos hc] at h
        refine lv_aload_n hx hb dX12_reads_121 rfl (lv_at hl 0 rfl) ?_
        refine lv_iconst (v := (1 : Int32)) hx hb dX12_reads_122 (by decide) ?_
        refine pI hC hw fl_X12_122 fp_12_11 ok171 dX12_reads_123 (fun H locs hw => ?_)
        refine lv_goto (tgt := 262) hx hb dX12_reads_126 (by decide) ?_
        exact B262 (si r102.2 171 11 (1 : Int32)) _ _ _ hw (lv_sub hl [] rfl) h
      · rw [if_neg hc] at h
        refine lv_aload_n hx hb dX12_reads_108 rfl (lv_at hl 0 rfl) ?_
        refine lv_dup hx hb dX12_reads_109 rfl ?_
        refine gI hC hw fl_X12_116 ok171 (by decide) dX12_reads_110 ?_
        refine lv_iconst (v := (1 : Int32)) hx hb dX12_reads_113 (by decide) ?_
        refine lv_iadd hx hb dX12_reads_114 ?_
        refine pI hC hw fl_X12_116 fp_12_9 ok171 dX12_reads_115 (fun H locs hw => ?_)
        refine lv_goto (tgt := 94) hx hb dX12_reads_118 (by decide) ?_
        exact ih94 (si r102.2 171 9 ((r102.2.1 171 9) + (1 : Int32))) _ _ _ hw (lv_sub hl [0] rfl) h
  have B231 : ∀ (s1 : Int32) (μ : Mu) (H : Heap) (locs : List Loc) (ls : Array Slot), wd g μ s (Aw g s.heap.size) H locs → lv_has ls 2 [] → X12_reads_231 n s1 μ = some r → WQ p l e (rmD 1) s m args below meth c g none r.2 H locs (F0 m 231 ls [.int s1, .ref (g.2.2 171)]) := by
    intro s1 μ H locs ls hw hl h
    rw [X12_reads_231] at h
    refine pI hC hw fl_X12_122 fp_12_11 ok171 dX12_reads_231 (fun H locs hw => ?_)
    refine lv_goto (tgt := 262) hx hb dX12_reads_234 (by decide) ?_
    exact B262 (si μ 171 11 s1) _ _ _ hw (lv_sub hl [] rfl) h
  have B141 : ∀ (k : Nat), ∀ (μ : Mu) (H : Heap) (locs : List Loc) (ls : Array Slot), wd g μ s (Aw g s.heap.size) H locs → lv_has ls 2 [(0, .ref (g.2.2 171))] → lpF (fun _ => none) (X12_reads_141b n) k  μ = some r → WQ p l e (rmD 1) s m args below meth c g none r.2 H locs (F0 m 141 ls []) := by
    intro k
    induction k with
    | zero =>
      intro μ H locs ls hw hl h
      cases h
    | succ k ih141 =>
      rw [lpF_s]
      generalize lpF (fun _ => none) (X12_reads_141b n) k = k141 at ih141 ⊢
      intro μ H locs ls hw hl h
      have B196 : ∀ (s1 : Int32) (μ : Mu) (H : Heap) (locs : List Loc) (ls : Array Slot), wd g μ s (Aw g s.heap.size) H locs → lv_has ls 2 [(0, .ref (g.2.2 171))] → X12_reads_196 n k141 s1 μ = some r → WQ p l e (rmD 1) s m args below meth c g none r.2 H locs (F0 m 196 ls [.int s1, .ref (g.2.2 171)]) := by
        intro s1 μ H locs ls hw hl h
        rw [X12_reads_196] at h
        refine pI hC hw fl_X12_136 fp_12_12 ok171 dX12_reads_196 (fun H locs hw => ?_)
        refine lv_aload_n hx hb dX12_reads_199 rfl (lv_at hl 0 rfl) ?_
        refine lv_dup hx hb dX12_reads_200 rfl ?_
        refine gI hC hw fl_X12_116 ok171 (by decide) dX12_reads_201 ?_
        refine lv_iconst (v := (1 : Int32)) hx hb dX12_reads_204 (by decide) ?_
        refine lv_iadd hx hb dX12_reads_205 ?_
        refine pI hC hw fl_X12_116 fp_12_9 ok171 dX12_reads_206 (fun H locs hw => ?_)
        refine lv_goto (tgt := 141) hx hb dX12_reads_209 (by decide) ?_
        exact ih141 (si (si μ 171 12 s1) 171 9 (((si μ 171 12 s1).1 171 9) + (1 : Int32))) _ _ _ hw (lv_sub hl [0] rfl) h
      rw [X12_reads_141b] at h
      refine lv_aload_n hx hb dX12_reads_141 rfl (lv_at hl 0 rfl) ?_
      refine lv_aload_n hx hb dX12_reads_142 rfl (lv_at hl 0 rfl) ?_
      refine gI hC hw fl_X12_116 ok171 (by decide) dX12_reads_143 ?_
      obtain ⟨r146, hr146, h⟩ := bnd h
      refine cV (b := 171) (As := [.int (μ.1 171 9)]) (rest := []) (st1 := [.int r146.1]) hC hw (c_X12_see l g n (μ.1 171 9) μ r146 hr146) ml_X12_129 im_X12_see se_X12_see ok171 (CN := RX12) (T := TX12) (NF := 54) rfl rfl (by decide) rfl hl.1 ⟨Nat.le_of_ble_eq_true rfl, Nat.le_of_ble_eq_true rfl⟩ (Nat.le_of_ble_eq_true rfl) ⟨Nat.zero_le _, Nat.zero_le _⟩ rfl dX12_reads_146 (fun H locs hw => ?_)
      obtain ⟨r149, hr149, h⟩ := bnd h
      refine cS (As := [.int r146.1]) (rest := []) (st1 := [.int r149.1]) hC hw (c_X12_isDigit l g n r146.1 r146.2 r149 hr149) ml_X12_133 st_X12_isDigit rfl hl.1 ⟨Nat.le_of_ble_eq_true rfl, Nat.le_of_ble_eq_true rfl⟩ (Nat.le_of_ble_eq_true rfl) ⟨Nat.zero_le _, Nat.zero_le _⟩ rfl dX12_reads_149 (fun H locs hw => ?_)
      refine lv_if_eq (tgt := 212) hx hb dX12_reads_152 (by decide) (fun hc => ?_) (fun hc => ?_)
      · rw [if_pos hc] at h
        refine lv_aload_n hx hb dX12_reads_212 rfl (lv_at hl 0 rfl) ?_
        refine lv_aload_n hx hb dX12_reads_213 rfl (lv_at hl 0 rfl) ?_
        refine gI hC hw fl_X12_116 ok171 (by decide) dX12_reads_214 ?_
        refine lv_aload_n hx hb dX12_reads_217 rfl (lv_at hl 0 rfl) ?_
        refine gI hC hw fl_X12_119 ok171 (by decide) dX12_reads_218 ?_
        refine lv_isub hx hb dX12_reads_221 ?_
        refine lv_iconst (v := (3 : Int32)) hx hb dX12_reads_222 (by decide) ?_
        refine lv_icmp_le (tgt := 230) hx hb dX12_reads_223 (by decide) (fun hc => ?_) (fun hc => ?_)
        · rw [if_pos hc] at h
          refine lv_iconst (v := (2 : Int32)) hx hb dX12_reads_230 (by decide) ?_
          exact B231 (2 : Int32) r149.2 _ _ _ hw (lv_sub hl [] rfl) h
        · rw [if_neg hc] at h
          refine lv_iconst (v := (4 : Int32)) hx hb dX12_reads_226 (by decide) ?_
          refine lv_goto (tgt := 231) hx hb dX12_reads_227 (by decide) ?_
          exact B231 (4 : Int32) r149.2 _ _ _ hw (lv_sub hl [] rfl) h
      · rw [if_neg hc] at h
        refine lv_aload_n hx hb dX12_reads_155 rfl (lv_at hl 0 rfl) ?_
        refine lv_aload_n hx hb dX12_reads_156 rfl (lv_at hl 0 rfl) ?_
        refine gI hC hw fl_X12_116 ok171 (by decide) dX12_reads_157 ?_
        refine lv_aload_n hx hb dX12_reads_160 rfl (lv_at hl 0 rfl) ?_
        refine gI hC hw fl_X12_119 ok171 (by decide) dX12_reads_161 ?_
        refine lv_isub hx hb dX12_reads_164 ?_
        refine lv_iconst (v := (3 : Int32)) hx hb dX12_reads_165 (by decide) ?_
        refine lv_icmp_ge (tgt := 192) hx hb dX12_reads_166 (by decide) (fun hc => ?_) (fun hc => ?_)
        · rw [if_pos hc] at h
          refine lv_aload_n hx hb dX12_reads_192 rfl (lv_at hl 0 rfl) ?_
          refine gI hC hw fl_X12_136 ok171 (by decide) dX12_reads_193 ?_
          exact B196 (r149.2.1 171 12) r149.2 _ _ _ hw (lv_sub hl [0] rfl) h
        · rw [if_neg hc] at h
          refine lv_bipush (v := (10 : Int32)) hx hb dX12_reads_169 (by decide) ?_
          refine lv_aload_n hx hb dX12_reads_171 rfl (lv_at hl 0 rfl) ?_
          refine gI hC hw fl_X12_136 ok171 (by decide) dX12_reads_172 ?_
          refine lv_imul hx hb dX12_reads_175 ?_
          refine lv_aload_n hx hb dX12_reads_176 rfl (lv_at hl 0 rfl) ?_
          refine gR (t := 177) hC hw fl_X12_26 ok171 (by decide) ot171_6 dX12_reads_177 ?_
          refine lv_aload_n hx hb dX12_reads_180 rfl (lv_at hl 0 rfl) ?_
          refine gI hC hw fl_X12_116 ok171 (by decide) dX12_reads_181 ?_
          obtain ⟨hi184, h⟩ := gd_some h
          refine lI (j := (r149.2.1 171 9).toNatClampNeg) hC hw ok177 on177 hi184 rfl dX12_reads_184 ?_
          refine lv_iadd hx hb dX12_reads_185 ?_
          refine lv_bipush (v := (48 : Int32)) hx hb dX12_reads_186 (by decide) ?_
          refine lv_isub hx hb dX12_reads_188 ?_
          refine lv_goto (tgt := 196) hx hb dX12_reads_189 (by decide) ?_
          exact B196 ((((10 : Int32) * (r149.2.1 171 12)) + (r149.2.1 177 (r149.2.1 171 9).toNatClampNeg)) - (48 : Int32)) r149.2 _ _ _ hw (lv_sub hl [0] rfl) h
  have B249 : ∀ (s1 : Int32) (μ : Mu) (H : Heap) (locs : List Loc) (ls : Array Slot), wd g μ s (Aw g s.heap.size) H locs → lv_has ls 2 [(0, .ref (g.2.2 171))] → X12_reads_249 n s1 μ = some r → WQ p l e (rmD 1) s m args below meth c g none r.2 H locs (F0 m 249 ls [.int s1, .ref (g.2.2 171)]) := by
    intro s1 μ H locs ls hw hl h
    rw [X12_reads_249] at h
    refine pI hC hw fl_X12_122 fp_12_11 ok171 dX12_reads_249 (fun H locs hw => ?_)
    refine lv_aload_n hx hb dX12_reads_252 rfl (lv_at hl 0 rfl) ?_
    refine lv_dup hx hb dX12_reads_253 rfl ?_
    refine gI hC hw fl_X12_116 ok171 (by decide) dX12_reads_254 ?_
    refine lv_iconst (v := (1 : Int32)) hx hb dX12_reads_257 (by decide) ?_
    refine lv_iadd hx hb dX12_reads_258 ?_
    refine pI hC hw fl_X12_116 fp_12_9 ok171 dX12_reads_259 (fun H locs hw => ?_)
    exact B262 (si (si μ 171 11 s1) 171 9 (((si μ 171 11 s1).1 171 9) + (1 : Int32))) _ _ _ hw (lv_sub hl [] rfl) h
  have B52 : ∀ (μ : Mu) (H : Heap) (locs : List Loc) (ls : Array Slot), wd g μ s (Aw g s.heap.size) H locs → lv_has ls 2 [(0, .ref (g.2.2 171))] → X12_reads_52 n  μ = some r → WQ p l e (rmD 1) s m args below meth c g none r.2 H locs (F0 m 52 ls []) := by
    intro μ H locs ls hw hl h
    rw [X12_reads_52] at h
    refine lv_aload_n hx hb dX12_reads_52 rfl (lv_at hl 0 rfl) ?_
    refine lv_aload_n hx hb dX12_reads_53 rfl (lv_at hl 0 rfl) ?_
    refine gI hC hw fl_X12_116 ok171 (by decide) dX12_reads_54 ?_
    refine pI hC hw fl_X12_119 fp_12_10 ok171 dX12_reads_57 (fun H locs hw => ?_)
    refine lv_aload_n hx hb dX12_reads_60 rfl (lv_at hl 0 rfl) ?_
    refine gI hC hw fl_X12_116 ok171 (by decide) dX12_reads_61 ?_
    refine lv_aload_n hx hb dX12_reads_64 rfl (lv_at hl 0 rfl) ?_
    refine gI hC hw fl_X12_113 ok171 (by decide) dX12_reads_65 ?_
    refine lv_icmp_lt (tgt := 77) hx hb dX12_reads_68 (by decide) (fun hc => ?_) (fun hc => ?_)
    · rw [if_pos hc] at h
      refine lv_aload_n hx hb dX12_reads_77 rfl (lv_at hl 0 rfl) ?_
      refine gR (t := 177) hC hw fl_X12_26 ok171 (by decide) ot171_6 dX12_reads_78 ?_
      refine lv_aload_n hx hb dX12_reads_81 rfl (lv_at hl 0 rfl) ?_
      refine gI hC hw fl_X12_116 ok171 (by decide) dX12_reads_82 ?_
      obtain ⟨hi85, h⟩ := gd_some h
      refine lI (j := ((si μ 171 10 (μ.1 171 9)).1 171 9).toNatClampNeg) hC hw ok177 on177 hi85 rfl dX12_reads_85 ?_
      refine lv_istore_n (lv' := [(1, .int ((si μ 171 10 (μ.1 171 9)).1 177 ((si μ 171 10 (μ.1 171 9)).1 171 9).toNatClampNeg)), (0, .ref (g.2.2 171))]) hx hb dX12_reads_86 rfl hl (by decide) rfl (fun ls hl => ?_)
      refine lv_iload_n hx hb dX12_reads_87 rfl (lv_at hl 0 rfl) ?_
      obtain ⟨r88, hr88, h⟩ := bnd h
      refine cS (As := [.int ((si μ 171 10 (μ.1 171 9)).1 177 ((si μ 171 10 (μ.1 171 9)).1 171 9).toNatClampNeg)]) (rest := []) (st1 := [.int r88.1]) hC hw (c_X12_isLetter l g n ((si μ 171 10 (μ.1 171 9)).1 177 ((si μ 171 10 (μ.1 171 9)).1 171 9).toNatClampNeg) (si μ 171 10 (μ.1 171 9)) r88 hr88) ml_X12_125 st_X12_isLetter rfl hl.1 ⟨Nat.le_of_ble_eq_true rfl, Nat.le_of_ble_eq_true rfl⟩ (Nat.le_of_ble_eq_true rfl) ⟨Nat.zero_le _, Nat.zero_le _⟩ rfl dX12_reads_88 (fun H locs hw => ?_)
      refine lv_if_eq (tgt := 129) hx hb dX12_reads_91 (by decide) (fun hc => ?_) (fun hc => ?_)
      · rw [if_pos hc] at h
        refine lv_iload_n hx hb dX12_reads_129 rfl (lv_at hl 0 rfl) ?_
        obtain ⟨r130, hr130, h⟩ := bnd h
        refine cS (As := [.int ((si μ 171 10 (μ.1 171 9)).1 177 ((si μ 171 10 (μ.1 171 9)).1 171 9).toNatClampNeg)]) (rest := []) (st1 := [.int r130.1]) hC hw (c_X12_isDigit l g n ((si μ 171 10 (μ.1 171 9)).1 177 ((si μ 171 10 (μ.1 171 9)).1 171 9).toNatClampNeg) r88.2 r130 hr130) ml_X12_133 st_X12_isDigit rfl hl.1 ⟨Nat.le_of_ble_eq_true rfl, Nat.le_of_ble_eq_true rfl⟩ (Nat.le_of_ble_eq_true rfl) ⟨Nat.zero_le _, Nat.zero_le _⟩ rfl dX12_reads_130 (fun H locs hw => ?_)
        refine lv_if_eq (tgt := 237) hx hb dX12_reads_133 (by decide) (fun hc => ?_) (fun hc => ?_)
        · rw [if_pos hc] at h
          refine lv_aload_n hx hb dX12_reads_237 rfl (lv_at hl 1 rfl) ?_
          refine lv_iload_n hx hb dX12_reads_238 rfl (lv_at hl 0 rfl) ?_
          refine lv_bipush (v := (59 : Int32)) hx hb dX12_reads_239 (by decide) ?_
          refine lv_icmp_ne (tgt := 248) hx hb dX12_reads_241 (by decide) (fun hc => ?_) (fun hc => ?_)
          · rw [if_neg hc] at h
            refine lv_iconst (v := (4 : Int32)) hx hb dX12_reads_248 (by decide) ?_
            exact B249 (4 : Int32) r130.2 _ _ _ hw (lv_sub hl [1] rfl) h
          · rw [if_pos hc] at h
            refine lv_iconst (v := (3 : Int32)) hx hb dX12_reads_244 (by decide) ?_
            refine lv_goto (tgt := 249) hx hb dX12_reads_245 (by decide) ?_
            exact B249 (3 : Int32) r130.2 _ _ _ hw (lv_sub hl [1] rfl) h
        · rw [if_neg hc] at h
          refine lv_aload_n hx hb dX12_reads_136 rfl (lv_at hl 1 rfl) ?_
          refine lv_iconst (v := (0 : Int32)) hx hb dX12_reads_137 (by decide) ?_
          refine pI hC hw fl_X12_136 fp_12_12 ok171 dX12_reads_138 (fun H locs hw => ?_)
          exact B141 n (si r130.2 171 12 (0 : Int32)) _ _ _ hw (lv_sub hl [1] rfl) h
      · rw [if_neg hc] at h
        exact B94 n r88.2 _ _ _ hw (lv_sub hl [1] rfl) h
    · rw [if_neg hc] at h
      refine lv_aload_n hx hb dX12_reads_71 rfl (lv_at hl 0 rfl) ?_
      refine lv_iconst (v := (0 : Int32)) hx hb dX12_reads_72 (by decide) ?_
      refine pI hC hw fl_X12_122 fp_12_11 ok171 dX12_reads_73 (fun H locs hw => ?_)
      exact rV hC hw hr hlocks rfl (by rw [← Option.some.inj h]) dX12_reads_76
  have B0 : ∀ (k : Nat), ∀ (μ : Mu) (H : Heap) (locs : List Loc) (ls : Array Slot), wd g μ s (Aw g s.heap.size) H locs → lv_has ls 2 [(0, .ref (g.2.2 171))] → lpF (fun _ => none) (X12_reads_0b n) k  μ = some r → WQ p l e (rmD 1) s m args below meth c g none r.2 H locs (F0 m 0 ls []) := by
    intro k
    induction k with
    | zero =>
      intro μ H locs ls hw hl h
      cases h
    | succ k ih0 =>
      rw [lpF_s]
      generalize lpF (fun _ => none) (X12_reads_0b n) k = k0 at ih0 ⊢
      intro μ H locs ls hw hl h
      have B39 : ∀ (μ : Mu) (H : Heap) (locs : List Loc) (ls : Array Slot), wd g μ s (Aw g s.heap.size) H locs → lv_has ls 2 [(0, .ref (g.2.2 171))] → X12_reads_39 n k0  μ = some r → WQ p l e (rmD 1) s m args below meth c g none r.2 H locs (F0 m 39 ls []) := by
        intro μ H locs ls hw hl h
        rw [X12_reads_39] at h
        refine lv_aload_n hx hb dX12_reads_39 rfl (lv_at hl 0 rfl) ?_
        refine lv_dup hx hb dX12_reads_40 rfl ?_
        refine gI hC hw fl_X12_116 ok171 (by decide) dX12_reads_41 ?_
        refine lv_iconst (v := (1 : Int32)) hx hb dX12_reads_44 (by decide) ?_
        refine lv_iadd hx hb dX12_reads_45 ?_
        refine pI hC hw fl_X12_116 fp_12_9 ok171 dX12_reads_46 (fun H locs hw => ?_)
        refine lv_goto (tgt := 0) hx hb dX12_reads_49 (by decide) ?_
        exact ih0 (si μ 171 9 ((μ.1 171 9) + (1 : Int32))) _ _ _ hw (lv_sub hl [0] rfl) h
      rw [X12_reads_0b] at h
      refine lv_aload_n hx hb dX12_reads_0 rfl (lv_at hl 0 rfl) ?_
      refine gI hC hw fl_X12_116 ok171 (by decide) dX12_reads_1 ?_
      refine lv_aload_n hx hb dX12_reads_4 rfl (lv_at hl 0 rfl) ?_
      refine gI hC hw fl_X12_113 ok171 (by decide) dX12_reads_5 ?_
      refine lv_icmp_ge (tgt := 52) hx hb dX12_reads_8 (by decide) (fun hc => ?_) (fun hc => ?_)
      · rw [if_pos hc] at h
        exact B52 μ _ _ _ hw (lv_sub hl [0] rfl) h
      · rw [if_neg hc] at h
        refine lv_aload_n hx hb dX12_reads_11 rfl (lv_at hl 0 rfl) ?_
        refine gR (t := 177) hC hw fl_X12_26 ok171 (by decide) ot171_6 dX12_reads_12 ?_
        refine lv_aload_n hx hb dX12_reads_15 rfl (lv_at hl 0 rfl) ?_
        refine gI hC hw fl_X12_116 ok171 (by decide) dX12_reads_16 ?_
        obtain ⟨hi19, h⟩ := gd_some h
        refine lI (j := (μ.1 171 9).toNatClampNeg) hC hw ok177 on177 hi19 rfl dX12_reads_19 ?_
        refine lv_bipush (v := (32 : Int32)) hx hb dX12_reads_20 (by decide) ?_
        refine lv_icmp_eq (tgt := 39) hx hb dX12_reads_22 (by decide) (fun hc => ?_) (fun hc => ?_)
        · rw [if_pos hc] at h
          exact B39 μ _ _ _ hw (lv_sub hl [0] rfl) h
        · rw [if_neg hc] at h
          refine lv_aload_n hx hb dX12_reads_25 rfl (lv_at hl 0 rfl) ?_
          refine gR (t := 177) hC hw fl_X12_26 ok171 (by decide) ot171_6 dX12_reads_26 ?_
          refine lv_aload_n hx hb dX12_reads_29 rfl (lv_at hl 0 rfl) ?_
          refine gI hC hw fl_X12_116 ok171 (by decide) dX12_reads_30 ?_
          refine lI (j := (μ.1 171 9).toNatClampNeg) hC hw ok177 on177 hi19 rfl dX12_reads_33 ?_
          refine lv_bipush (v := (10 : Int32)) hx hb dX12_reads_34 (by decide) ?_
          refine lv_icmp_ne (tgt := 52) hx hb dX12_reads_36 (by decide) (fun hc => ?_) (fun hc => ?_)
          · rw [if_neg hc] at h
            exact B52 μ _ _ _ hw (lv_sub hl [0] rfl) h
          · rw [if_pos hc] at h
            exact B39 μ _ _ _ hw (lv_sub hl [0] rfl) h
  exact B0 n μ _ _ _ hw (lv_sub hl [0] rfl) h
set_option maxRecDepth 100000 in
set_option maxHeartbeats 4000000 in
theorem c_X12_blames (l : Launch) (g : Gw) (n : Nat) (v1 : Int32) (μ : Mu) (r : Unit × Mu) (h : X12_blames n v1 μ = some r) : Ct l g yX12_blames cX12_blames 2 none 0 [.ref (g.2.2 171), .int v1] μ none r.2 := by
  rw [X12_blames] at h
  refine Ct.of (by decide) (Nat.le_of_ble_eq_true rfl) ?_
  intro p e s m args below meth c ls hC hw hr hlocks hl
  have hx := hC.1
  have hb := hC.2.1
  have hl : lv_has ls 2 [(0, .ref (g.2.2 171)), (1, .int v1)] := hl
  have B22 : ∀ (s1 : Int32) (μ : Mu) (H : Heap) (locs : List Loc) (ls : Array Slot), wd g μ s (Aw g s.heap.size) H locs → lv_has ls 2 [(0, .ref (g.2.2 171))] → X12_blames_22 n v1 s1 μ = some r → WQ p l e (rmD 0) s m args below meth c g none r.2 H locs (F0 m 22 ls [.int s1, .ref (g.2.2 171)]) := by
    intro s1 μ H locs ls hw hl h
    rw [X12_blames_22] at h
    refine pI hC hw fl_X12_139 fp_12_13 ok171 dX12_blames_22 (fun H locs hw => ?_)
    refine lv_aload_n hx hb dX12_blames_25 rfl (lv_at hl 0 rfl) ?_
    refine lv_aload_n hx hb dX12_blames_26 rfl (lv_at hl 0 rfl) ?_
    refine gI hC hw fl_X12_119 ok171 (by decide) dX12_blames_27 ?_
    refine pI hC hw fl_X12_142 fp_12_14 ok171 dX12_blames_30 (fun H locs hw => ?_)
    exact rV hC hw hr hlocks rfl (by rw [← Option.some.inj h]) dX12_blames_33
  refine lv_aload_n hx hb dX12_blames_0 rfl (lv_at hl 0 rfl) ?_
  refine gI hC hw fl_X12_139 ok171 (by decide) dX12_blames_1 ?_
  refine lv_if_eq (tgt := 8) hx hb dX12_blames_4 (by decide) (fun hc => ?_) (fun hc => ?_)
  · rw [if_pos hc] at h
    refine lv_aload_n hx hb dX12_blames_8 rfl (lv_at hl 0 rfl) ?_
    refine lv_aload_n hx hb dX12_blames_9 rfl (lv_at hl 0 rfl) ?_
    refine gI hC hw fl_X12_122 ok171 (by decide) dX12_blames_10 ?_
    refine lv_iconst (v := (4 : Int32)) hx hb dX12_blames_13 (by decide) ?_
    refine lv_icmp_ne (tgt := 21) hx hb dX12_blames_14 (by decide) (fun hc => ?_) (fun hc => ?_)
    · rw [if_neg hc] at h
      refine lv_iload_n hx hb dX12_blames_21 rfl (lv_at hl 1 rfl) ?_
      exact B22 v1 μ _ _ _ hw (lv_sub hl [0] rfl) h
    · rw [if_pos hc] at h
      refine lv_iconst (v := (1 : Int32)) hx hb dX12_blames_17 (by decide) ?_
      refine lv_goto (tgt := 22) hx hb dX12_blames_18 (by decide) ?_
      exact B22 (1 : Int32) μ _ _ _ hw (lv_sub hl [0] rfl) h
  · rw [if_neg hc] at h
    exact rV hC hw hr hlocks rfl (by rw [← Option.some.inj h]) dX12_blames_7
set_option maxRecDepth 100000 in
set_option maxHeartbeats 4000000 in
theorem c_X12_number (l : Launch) (g : Gw) (n : Nat) (v1 : Int32) (v2 : Int32) (μ : Mu) (r : Int32 × Mu) (h : X12_number n v1 v2 μ = some r) : Ct l g yX12_number cX12_number 4 (some .int) 2 [.ref (g.2.2 171), .int v1, .int v2] μ (some (.int r.1)) r.2 := by
  rw [X12_number] at h
  refine Ct.of (by decide) (Nat.le_of_ble_eq_true rfl) ?_
  intro p e s m args below meth c ls hC hw hr hlocks hl
  have hx := hC.1
  have hb := hC.2.1
  have hl : lv_has ls 4 [(0, .ref (g.2.2 171)), (1, .int v1), (2, .int v2)] := hl
  have B64 : ∀ (s0 : Int32) (μ : Mu) (H : Heap) (locs : List Loc) (ls : Array Slot), wd g μ s (Aw g s.heap.size) H locs → lv_has ls 4 [] → X12_number_64 n v1 v2 s0 μ = some r → WQ p l e (rmD 2) s m args below meth c g (some (.int r.1)) r.2 H locs (F0 m 64 ls [.int s0]) := by
    intro s0 μ H locs ls hw hl h
    rw [X12_number_64] at h
    exact rI hC hw hr hlocks (by rw [← Option.some.inj h]) (by rw [← Option.some.inj h]) dX12_number_64
  have B52 : ∀ (v3 : Int32) (μ : Mu) (H : Heap) (locs : List Loc) (ls : Array Slot), wd g μ s (Aw g s.heap.size) H locs → lv_has ls 4 [(0, .ref (g.2.2 171)), (1, .int v1), (3, .int v3)] → X12_number_52 n v1 v2 v3 μ = some r → WQ p l e (rmD 2) s m args below meth c g (some (.int r.1)) r.2 H locs (F0 m 52 ls []) := by
    intro v3 μ H locs ls hw hl h
    rw [X12_number_52] at h
    refine lv_aload_n hx hb dX12_number_52 rfl (lv_at hl 0 rfl) ?_
    refine gI hC hw fl_X12_139 ok171 (by decide) dX12_number_53 ?_
    refine lv_if_ne (tgt := 63) hx hb dX12_number_56 (by decide) (fun hc => ?_) (fun hc => ?_)
    · rw [if_neg hc] at h
      refine lv_iload_n hx hb dX12_number_63 rfl (lv_at hl 1 rfl) ?_
      exact B64 v1 μ _ _ _ hw (lv_sub hl [] rfl) h
    · rw [if_pos hc] at h
      refine lv_iload_n hx hb dX12_number_59 rfl (lv_at hl 2 rfl) ?_
      refine lv_goto (tgt := 64) hx hb dX12_number_60 (by decide) ?_
      exact B64 v3 μ _ _ _ hw (lv_sub hl [] rfl) h
  have B36 : ∀ (μ : Mu) (H : Heap) (locs : List Loc) (ls : Array Slot), wd g μ s (Aw g s.heap.size) H locs → lv_has ls 4 [(0, .ref (g.2.2 171)), (1, .int v1)] → X12_number_36 n v1 v2  μ = some r → WQ p l e (rmD 2) s m args below meth c g (some (.int r.1)) r.2 H locs (F0 m 36 ls []) := by
    intro μ H locs ls hw hl h
    rw [X12_number_36] at h
    refine lv_aload_n hx hb dX12_number_36 rfl (lv_at hl 0 rfl) ?_
    refine gI hC hw fl_X12_136 ok171 (by decide) dX12_number_37 ?_
    refine lv_istore_n (lv' := [(3, .int (μ.1 171 12)), (0, .ref (g.2.2 171)), (1, .int v1)]) hx hb dX12_number_40 rfl hl (by decide) rfl (fun ls hl => ?_)
    refine lv_aload_n hx hb dX12_number_41 rfl (lv_at hl 1 rfl) ?_
    refine gI hC hw fl_X12_139 ok171 (by decide) dX12_number_42 ?_
    refine lv_if_ne (tgt := 52) hx hb dX12_number_45 (by decide) (fun hc => ?_) (fun hc => ?_)
    · rw [if_neg hc] at h
      exact B52 (μ.1 171 12) μ _ _ _ hw (lv_sub hl [1, 2, 0] rfl) h
    · rw [if_pos hc] at h
      refine lv_aload_n hx hb dX12_number_48 rfl (lv_at hl 1 rfl) ?_
      obtain ⟨r49, hr49, h⟩ := bnd h
      refine cV (b := 171) (As := []) (rest := []) (st1 := []) hC hw (c_X12_reads l g n μ r49 hr49) ml_X12_159 im_X12_reads se_X12_reads ok171 (CN := RX12) (T := TX12) (NF := 54) rfl rfl (by decide) rfl hl.1 ⟨Nat.le_of_ble_eq_true rfl, Nat.le_of_ble_eq_true rfl⟩ (Nat.le_of_ble_eq_true rfl) ⟨Nat.zero_le _, Nat.zero_le _⟩ rfl dX12_number_49 (fun H locs hw => ?_)
      exact B52 (μ.1 171 12) r49.2 _ _ _ hw (lv_sub hl [1, 2, 0] rfl) h
  refine lv_aload_n hx hb dX12_number_0 rfl (lv_at hl 0 rfl) ?_
  refine gI hC hw fl_X12_122 ok171 (by decide) dX12_number_1 ?_
  refine lv_iconst (v := (2 : Int32)) hx hb dX12_number_4 (by decide) ?_
  refine lv_icmp_eq (tgt := 16) hx hb dX12_number_5 (by decide) (fun hc => ?_) (fun hc => ?_)
  · rw [if_pos hc] at h
    refine lv_aload_n hx hb dX12_number_16 rfl (lv_at hl 0 rfl) ?_
    refine gI hC hw fl_X12_136 ok171 (by decide) dX12_number_17 ?_
    refine lv_i2l hx hb dX12_number_20 rfl ?_
    refine lv_iload_n hx hb dX12_number_21 rfl (lv_at hl 1 rfl) ?_
    refine lv_i2l hx hb dX12_number_22 rfl ?_
    refine lv_iload_n hx hb dX12_number_23 rfl (lv_at hl 2 rfl) ?_
    refine lv_i2l hx hb dX12_number_24 rfl ?_
    obtain ⟨r25, hr25, h⟩ := bnd h
    refine cS (As := [.long ((μ.1 171 12).toInt64), .long (v1.toInt64), .long (v2.toInt64)]) (rest := []) (st1 := [.int r25.1]) hC hw (c_X12_within l g n ((μ.1 171 12).toInt64) (v1.toInt64) (v2.toInt64) μ r25 hr25) ml_X12_166 st_X12_within rfl hl.1 ⟨Nat.le_of_ble_eq_true rfl, Nat.le_of_ble_eq_true rfl⟩ (Nat.le_of_ble_eq_true rfl) ⟨Nat.zero_le _, Nat.zero_le _⟩ rfl dX12_number_25 (fun H locs hw => ?_)
    refine lv_if_ne (tgt := 36) hx hb dX12_number_28 (by decide) (fun hc => ?_) (fun hc => ?_)
    · rw [if_neg hc] at h
      exact B36 r25.2 _ _ _ hw (lv_sub hl [0, 1] rfl) h
    · rw [if_pos hc] at h
      refine lv_aload_n hx hb dX12_number_31 rfl (lv_at hl 0 rfl) ?_
      refine lv_iconst (v := (3 : Int32)) hx hb dX12_number_32 (by decide) ?_
      obtain ⟨r33, hr33, h⟩ := bnd h
      refine cV (b := 171) (As := [.int (3 : Int32)]) (rest := []) (st1 := []) hC hw (c_X12_blames l g n (3 : Int32) r25.2 r33 hr33) ml_X12_162 im_X12_blames se_X12_blames ok171 (CN := RX12) (T := TX12) (NF := 54) rfl rfl (by decide) rfl hl.1 ⟨Nat.le_of_ble_eq_true rfl, Nat.le_of_ble_eq_true rfl⟩ (Nat.le_of_ble_eq_true rfl) ⟨Nat.zero_le _, Nat.zero_le _⟩ rfl dX12_number_33 (fun H locs hw => ?_)
      exact B36 r33.2 _ _ _ hw (lv_sub hl [0, 1] rfl) h
  · rw [if_neg hc] at h
    refine lv_aload_n hx hb dX12_number_8 rfl (lv_at hl 0 rfl) ?_
    refine lv_iconst (v := (2 : Int32)) hx hb dX12_number_9 (by decide) ?_
    obtain ⟨r10, hr10, h⟩ := bnd h
    refine cV (b := 171) (As := [.int (2 : Int32)]) (rest := []) (st1 := []) hC hw (c_X12_blames l g n (2 : Int32) μ r10 hr10) ml_X12_162 im_X12_blames se_X12_blames ok171 (CN := RX12) (T := TX12) (NF := 54) rfl rfl (by decide) rfl hl.1 ⟨Nat.le_of_ble_eq_true rfl, Nat.le_of_ble_eq_true rfl⟩ (Nat.le_of_ble_eq_true rfl) ⟨Nat.zero_le _, Nat.zero_le _⟩ rfl dX12_number_10 (fun H locs hw => ?_)
    refine lv_goto (tgt := 36) hx hb dX12_number_13 (by decide) ?_
    exact B36 r10.2 _ _ _ hw (lv_sub hl [0, 1] rfl) h
set_option maxRecDepth 100000 in
set_option maxHeartbeats 4000000 in
theorem c_X12_readLay (l : Launch) (g : Gw) (n : Nat) (μ : Mu) (r : Unit × Mu) (h : X12_readLay n  μ = some r) : Ct l g yX12_readLay cX12_readLay 3 none 3 [.ref (g.2.2 171)] μ none r.2 := by
  rw [X12_readLay] at h
  refine Ct.of (by decide) (Nat.le_of_ble_eq_true rfl) ?_
  intro p e s m args below meth c ls hC hw hr hlocks hl
  have hx := hC.1
  have hb := hC.2.1
  have hl : lv_has ls 3 [(0, .ref (g.2.2 171))] := hl
  have B2 : ∀ (k : Nat), ∀ (v1 : Int32) (μ : Mu) (H : Heap) (locs : List Loc) (ls : Array Slot), wd g μ s (Aw g s.heap.size) H locs → lv_has ls 3 [(0, .ref (g.2.2 171)), (1, .int v1)] → lpF (fun _ _ => none) (X12_readLay_2b n) k v1 μ = some r → WQ p l e (rmD 3) s m args below meth c g none r.2 H locs (F0 m 2 ls []) := by
    intro k
    induction k with
    | zero =>
      intro v1 μ H locs ls hw hl h
      cases h
    | succ k ih2 =>
      rw [lpF_s]
      generalize lpF (fun _ _ => none) (X12_readLay_2b n) k = k2 at ih2 ⊢
      intro v1 μ H locs ls hw hl h
      have B42 : ∀ (v1 : Int32) (μ : Mu) (H : Heap) (locs : List Loc) (ls : Array Slot), wd g μ s (Aw g s.heap.size) H locs → lv_has ls 3 [(0, .ref (g.2.2 171)), (1, .int v1)] → X12_readLay_42 n k2 v1 μ = some r → WQ p l e (rmD 3) s m args below meth c g none r.2 H locs (F0 m 42 ls []) := by
        intro v1 μ H locs ls hw hl h
        rw [X12_readLay_42] at h
        refine lv_aload_n hx hb dX12_readLay_42 rfl (lv_at hl 0 rfl) ?_
        refine lv_iconst (v := (0 : Int32)) hx hb dX12_readLay_43 (by decide) ?_
        refine lv_bipush (v := (20 : Int32)) hx hb dX12_readLay_44 (by decide) ?_
        obtain ⟨r46, hr46, h⟩ := bnd h
        refine cV (b := 171) (As := [.int (0 : Int32), .int (20 : Int32)]) (rest := []) (st1 := [.int r46.1]) hC hw (c_X12_number l g n (0 : Int32) (20 : Int32) μ r46 hr46) ml_X12_172 im_X12_number se_X12_number ok171 (CN := RX12) (T := TX12) (NF := 54) rfl rfl (by decide) rfl hl.1 ⟨Nat.le_of_ble_eq_true rfl, Nat.le_of_ble_eq_true rfl⟩ (Nat.le_of_ble_eq_true rfl) ⟨Nat.zero_le _, Nat.zero_le _⟩ rfl dX12_readLay_46 (fun H locs hw => ?_)
        refine lv_istore_n (lv' := [(2, .int r46.1), (0, .ref (g.2.2 171)), (1, .int v1)]) hx hb dX12_readLay_49 rfl hl (by decide) rfl (fun ls hl => ?_)
        refine lv_aload_n hx hb dX12_readLay_50 rfl (lv_at hl 1 rfl) ?_
        refine gI hC hw fl_X12_139 ok171 (by decide) dX12_readLay_51 ?_
        refine lv_if_eq (tgt := 58) hx hb dX12_readLay_54 (by decide) (fun hc => ?_) (fun hc => ?_)
        · rw [if_pos hc] at h
          refine lv_aload_n hx hb dX12_readLay_58 rfl (lv_at hl 1 rfl) ?_
          refine gR (t := 173) hC hw fl_X12_13 ok171 (by decide) ot171_1 dX12_readLay_59 ?_
          refine lv_bipush (v := (13 : Int32)) hx hb dX12_readLay_62 (by decide) ?_
          refine lv_iload_n hx hb dX12_readLay_64 rfl (lv_at hl 2 rfl) ?_
          refine lv_iadd hx hb dX12_readLay_65 ?_
          refine lv_iload_n hx hb dX12_readLay_66 rfl (lv_at hl 0 rfl) ?_
          obtain ⟨hi67, h⟩ := gd_some h
          refine sI (j := ((13 : Int32) + v1).toNatClampNeg) hC hw ok173 on173 hi67 rfl dX12_readLay_67 (fun H locs hw => ?_)
          refine lv_iinc (v := (v1 + (1 : Int32))) (lv' := [(1, .int (v1 + (1 : Int32))), (2, .int r46.1), (0, .ref (g.2.2 171))]) hx hb dX12_readLay_68 hl (k := 2) rfl rfl (by decide) rfl (fun ls hl => ?_)
          refine lv_aload_n hx hb dX12_readLay_71 rfl (lv_at hl 2 rfl) ?_
          refine gI hC hw fl_X12_122 ok171 (by decide) dX12_readLay_72 ?_
          refine lv_iconst (v := (2 : Int32)) hx hb dX12_readLay_75 (by decide) ?_
          refine lv_icmp_eq (tgt := 2) hx hb dX12_readLay_76 (by decide) (fun hc => ?_) (fun hc => ?_)
          · rw [if_pos hc] at h
            exact ih2 (v1 + (1 : Int32)) (si r46.2 173 ((13 : Int32) + v1).toNatClampNeg r46.1) _ _ _ hw (lv_sub hl [2, 0] rfl) h
          · rw [if_neg hc] at h
            exact rV hC hw hr hlocks rfl (by rw [← Option.some.inj h]) dX12_readLay_79
        · rw [if_neg hc] at h
          exact rV hC hw hr hlocks rfl (by rw [← Option.some.inj h]) dX12_readLay_57
      rw [X12_readLay_2b] at h
      refine lv_iload_n hx hb dX12_readLay_2 rfl (lv_at hl 1 rfl) ?_
      refine lv_iconst (v := (2 : Int32)) hx hb dX12_readLay_3 (by decide) ?_
      refine lv_aload_n hx hb dX12_readLay_4 rfl (lv_at hl 0 rfl) ?_
      refine gR (t := 173) hC hw fl_X12_13 ok171 (by decide) ot171_1 dX12_readLay_5 ?_
      refine lv_iconst (v := (1 : Int32)) hx hb dX12_readLay_8 (by decide) ?_
      refine lI (j := 1) hC hw ok173 on173 (vin (by decide)) (by decide) dX12_readLay_9 ?_
      refine lv_imul hx hb dX12_readLay_10 ?_
      refine lv_icmp_ne (tgt := 42) hx hb dX12_readLay_11 (by decide) (fun hc => ?_) (fun hc => ?_)
      · rw [if_neg hc] at h
        exact B42 v1 μ _ _ _ hw (lv_sub hl [0, 1] rfl) h
      · rw [if_pos hc] at h
        refine lv_aload_n hx hb dX12_readLay_14 rfl (lv_at hl 0 rfl) ?_
        refine gI hC hw fl_X12_122 ok171 (by decide) dX12_readLay_15 ?_
        refine lv_iconst (v := (2 : Int32)) hx hb dX12_readLay_18 (by decide) ?_
        refine lv_icmp_ne (tgt := 42) hx hb dX12_readLay_19 (by decide) (fun hc => ?_) (fun hc => ?_)
        · rw [if_neg hc] at h
          exact B42 v1 μ _ _ _ hw (lv_sub hl [0, 1] rfl) h
        · rw [if_pos hc] at h
          refine lv_aload_n hx hb dX12_readLay_22 rfl (lv_at hl 0 rfl) ?_
          refine gI hC hw fl_X12_136 ok171 (by decide) dX12_readLay_23 ?_
          refine lv_i2l hx hb dX12_readLay_26 rfl ?_
          refine lv_lconst (v := (0 : Int64)) hx hb dX12_readLay_27 (by decide) ?_
          refine lv_ldc2 (v := (20 : Int64)) hx hb hC.2.2.2.1 (hC.2.2.2.2.1 _ cl_X12_170) dX12_readLay_28 ?_
          obtain ⟨r31, hr31, h⟩ := bnd h
          refine cS (As := [.long ((μ.1 171 12).toInt64), .long (0 : Int64), .long (20 : Int64)]) (rest := []) (st1 := [.int r31.1]) hC hw (c_X12_within l g n ((μ.1 171 12).toInt64) (0 : Int64) (20 : Int64) μ r31 hr31) ml_X12_166 st_X12_within rfl hl.1 ⟨Nat.le_of_ble_eq_true rfl, Nat.le_of_ble_eq_true rfl⟩ (Nat.le_of_ble_eq_true rfl) ⟨Nat.zero_le _, Nat.zero_le _⟩ rfl dX12_readLay_31 (fun H locs hw => ?_)
          refine lv_if_eq (tgt := 42) hx hb dX12_readLay_34 (by decide) (fun hc => ?_) (fun hc => ?_)
          · rw [if_pos hc] at h
            exact B42 v1 r31.2 _ _ _ hw (lv_sub hl [0, 1] rfl) h
          · rw [if_neg hc] at h
            refine lv_aload_n hx hb dX12_readLay_37 rfl (lv_at hl 0 rfl) ?_
            refine lv_iconst (v := (4 : Int32)) hx hb dX12_readLay_38 (by decide) ?_
            obtain ⟨r39, hr39, h⟩ := bnd h
            refine cV (b := 171) (As := [.int (4 : Int32)]) (rest := []) (st1 := []) hC hw (c_X12_blames l g n (4 : Int32) r31.2 r39 hr39) ml_X12_162 im_X12_blames se_X12_blames ok171 (CN := RX12) (T := TX12) (NF := 54) rfl rfl (by decide) rfl hl.1 ⟨Nat.le_of_ble_eq_true rfl, Nat.le_of_ble_eq_true rfl⟩ (Nat.le_of_ble_eq_true rfl) ⟨Nat.zero_le _, Nat.zero_le _⟩ rfl dX12_readLay_39 (fun H locs hw => ?_)
            exact B42 v1 r39.2 _ _ _ hw (lv_sub hl [0, 1] rfl) h
  refine lv_iconst (v := (0 : Int32)) hx hb dX12_readLay_0 (by decide) ?_
  refine lv_istore_n (lv' := [(1, .int (0 : Int32)), (0, .ref (g.2.2 171))]) hx hb dX12_readLay_1 rfl hl (by decide) rfl (fun ls hl => ?_)
  exact B2 n (0 : Int32) μ _ _ _ hw (lv_sub hl [1, 0] rfl) h
set_option maxRecDepth 100000 in
set_option maxHeartbeats 4000000 in
theorem c_X12_readStored (l : Launch) (g : Gw) (n : Nat) (μ : Mu) (r : Unit × Mu) (h : X12_readStored n  μ = some r) : Ct l g yX12_readStored cX12_readStored 3 none 3 [.ref (g.2.2 171)] μ none r.2 := by
  rw [X12_readStored] at h
  refine Ct.of (by decide) (Nat.le_of_ble_eq_true rfl) ?_
  intro p e s m args below meth c ls hC hw hr hlocks hl
  have hx := hC.1
  have hb := hC.2.1
  have hl : lv_has ls 3 [(0, .ref (g.2.2 171))] := hl
  refine lv_aload_n hx hb dX12_readStored_0 rfl (lv_at hl 0 rfl) ?_
  refine lv_iconst (v := (0 : Int32)) hx hb dX12_readStored_1 (by decide) ?_
  refine lv_bipush (v := (99 : Int32)) hx hb dX12_readStored_2 (by decide) ?_
  obtain ⟨r4, hr4, h⟩ := bnd h
  refine cV (b := 171) (As := [.int (0 : Int32), .int (99 : Int32)]) (rest := []) (st1 := [.int r4.1]) hC hw (c_X12_number l g n (0 : Int32) (99 : Int32) μ r4 hr4) ml_X12_172 im_X12_number se_X12_number ok171 (CN := RX12) (T := TX12) (NF := 54) rfl rfl (by decide) rfl hl.1 ⟨Nat.le_of_ble_eq_true rfl, Nat.le_of_ble_eq_true rfl⟩ (Nat.le_of_ble_eq_true rfl) ⟨Nat.zero_le _, Nat.zero_le _⟩ rfl dX12_readStored_4 (fun H locs hw => ?_)
  refine lv_istore_n (lv' := [(1, .int r4.1), (0, .ref (g.2.2 171))]) hx hb dX12_readStored_7 rfl hl (by decide) rfl (fun ls hl => ?_)
  refine lv_aload_n hx hb dX12_readStored_8 rfl (lv_at hl 1 rfl) ?_
  refine lv_iconst (v := (0 : Int32)) hx hb dX12_readStored_9 (by decide) ?_
  refine lv_bipush (v := (99 : Int32)) hx hb dX12_readStored_10 (by decide) ?_
  obtain ⟨r12, hr12, h⟩ := bnd h
  refine cV (b := 171) (As := [.int (0 : Int32), .int (99 : Int32)]) (rest := []) (st1 := [.int r12.1]) hC hw (c_X12_number l g n (0 : Int32) (99 : Int32) r4.2 r12 hr12) ml_X12_172 im_X12_number se_X12_number ok171 (CN := RX12) (T := TX12) (NF := 54) rfl rfl (by decide) rfl hl.1 ⟨Nat.le_of_ble_eq_true rfl, Nat.le_of_ble_eq_true rfl⟩ (Nat.le_of_ble_eq_true rfl) ⟨Nat.zero_le _, Nat.zero_le _⟩ rfl dX12_readStored_12 (fun H locs hw => ?_)
  refine lv_istore_n (lv' := [(2, .int r12.1), (1, .int r4.1), (0, .ref (g.2.2 171))]) hx hb dX12_readStored_15 rfl hl (by decide) rfl (fun ls hl => ?_)
  refine lv_aload_n hx hb dX12_readStored_16 rfl (lv_at hl 2 rfl) ?_
  refine gR (t := 173) hC hw fl_X12_13 ok171 (by decide) ot171_1 dX12_readStored_17 ?_
  refine lv_bipush (v := (11 : Int32)) hx hb dX12_readStored_20 (by decide) ?_
  refine lv_iload_n hx hb dX12_readStored_22 rfl (lv_at hl 1 rfl) ?_
  refine sI (j := 11) hC hw ok173 on173 (vin (by decide)) (by decide) dX12_readStored_23 (fun H locs hw => ?_)
  refine lv_aload_n hx hb dX12_readStored_24 rfl (lv_at hl 2 rfl) ?_
  refine gR (t := 173) hC hw fl_X12_13 ok171 (by decide) ot171_1 dX12_readStored_25 ?_
  refine lv_bipush (v := (12 : Int32)) hx hb dX12_readStored_28 (by decide) ?_
  refine lv_iload_n hx hb dX12_readStored_30 rfl (lv_at hl 0 rfl) ?_
  refine sI (j := 12) hC hw ok173 on173 (vin (by decide)) (by decide) dX12_readStored_31 (fun H locs hw => ?_)
  exact rV hC hw hr hlocks rfl (by rw [← Option.some.inj h]) dX12_readStored_32
set_option maxRecDepth 100000 in
set_option maxHeartbeats 4000000 in
theorem c_X12_lacks (l : Launch) (g : Gw) (n : Nat) (v1 : Int32) (μ : Mu) (r : Unit × Mu) (h : X12_lacks n v1 μ = some r) : Ct l g yX12_lacks cX12_lacks 2 none 0 [.ref (g.2.2 171), .int v1] μ none r.2 := by
  rw [X12_lacks] at h
  refine Ct.of (by decide) (Nat.le_of_ble_eq_true rfl) ?_
  intro p e s m args below meth c ls hC hw hr hlocks hl
  have hx := hC.1
  have hb := hC.2.1
  have hl : lv_has ls 2 [(0, .ref (g.2.2 171)), (1, .int v1)] := hl
  have B19 : ∀ (μ : Mu) (H : Heap) (locs : List Loc) (ls : Array Slot), wd g μ s (Aw g s.heap.size) H locs → lv_has ls 2 [] → X12_lacks_19 n v1  μ = some r → WQ p l e (rmD 0) s m args below meth c g none r.2 H locs (F0 m 19 ls []) := by
    intro μ H locs ls hw hl h
    rw [X12_lacks_19] at h
    exact rV hC hw hr hlocks rfl (by rw [← Option.some.inj h]) dX12_lacks_19
  refine lv_aload_n hx hb dX12_lacks_0 rfl (lv_at hl 0 rfl) ?_
  refine gI hC hw fl_X12_139 ok171 (by decide) dX12_lacks_1 ?_
  refine lv_if_ne (tgt := 19) hx hb dX12_lacks_4 (by decide) (fun hc => ?_) (fun hc => ?_)
  · rw [if_neg hc] at h
    exact B19 μ _ _ _ hw (lv_sub hl [] rfl) h
  · rw [if_pos hc] at h
    refine lv_aload_n hx hb dX12_lacks_7 rfl (lv_at hl 0 rfl) ?_
    refine gR (t := 173) hC hw fl_X12_13 ok171 (by decide) ot171_1 dX12_lacks_8 ?_
    refine lv_iconst (v := (3 : Int32)) hx hb dX12_lacks_11 (by decide) ?_
    refine lv_dup2_11 hx hb dX12_lacks_12 rfl rfl ?_
    refine lI (j := 3) hC hw ok173 on173 (vin (by decide)) (by decide) dX12_lacks_13 ?_
    refine lv_iconst (v := (1 : Int32)) hx hb dX12_lacks_14 (by decide) ?_
    refine lv_iload_n hx hb dX12_lacks_15 rfl (lv_at hl 1 rfl) ?_
    refine lv_ishl hx hb dX12_lacks_16 ?_
    refine lv_ior hx hb dX12_lacks_17 ?_
    refine sI (j := 3) hC hw ok173 on173 (vin (by decide)) (by decide) dX12_lacks_18 (fun H locs hw => ?_)
    exact B19 (si μ 173 3 ((μ.1 173 3) ||| ((1 : Int32) <<< (v1 &&& 31)))) _ _ _ hw (lv_sub hl [] rfl) h
set_option maxRecDepth 100000 in
set_option maxHeartbeats 4000000 in
theorem c_X12_isWrong (l : Launch) (g : Gw) (n : Nat) (μ : Mu) (r : Int32 × Mu) (h : X12_isWrong n  μ = some r) : Ct l g yX12_isWrong cX12_isWrong 4 (some .boolean) 0 [.ref (g.2.2 171)] μ (some (.int r.1)) r.2 := by
  rw [X12_isWrong] at h
  refine Ct.of (by decide) (Nat.le_of_ble_eq_true rfl) ?_
  intro p e s m args below meth c ls hC hw hr hlocks hl
  have hx := hC.1
  have hb := hC.2.1
  have hl : lv_has ls 4 [(0, .ref (g.2.2 171))] := hl
  have B87 : ∀ (s0 : Int32) (μ : Mu) (H : Heap) (locs : List Loc) (ls : Array Slot), wd g μ s (Aw g s.heap.size) H locs → lv_has ls 4 [] → X12_isWrong_87 n s0 μ = some r → WQ p l e (rmD 0) s m args below meth c g (some (.int r.1)) r.2 H locs (F0 m 87 ls [.int s0]) := by
    intro s0 μ H locs ls hw hl h
    rw [X12_isWrong_87] at h
    obtain ⟨hz87, h⟩ := bz_some h
    exact rZ hC hw hr hlocks hz87 (by rw [← Option.some.inj h]) (by rw [← Option.some.inj h]) dX12_isWrong_87
  have B82 : ∀ (μ : Mu) (H : Heap) (locs : List Loc) (ls : Array Slot), wd g μ s (Aw g s.heap.size) H locs → lv_has ls 4 [] → X12_isWrong_82 n  μ = some r → WQ p l e (rmD 0) s m args below meth c g (some (.int r.1)) r.2 H locs (F0 m 82 ls []) := by
    intro μ H locs ls hw hl h
    rw [X12_isWrong_82] at h
    refine lv_iconst (v := (1 : Int32)) hx hb dX12_isWrong_82 (by decide) ?_
    refine lv_goto (tgt := 87) hx hb dX12_isWrong_83 (by decide) ?_
    exact B87 (1 : Int32) μ _ _ _ hw (lv_sub hl [] rfl) h
  have B6 : ∀ (k : Nat), ∀ (v1 : Int32) (v2 : Int32) (v3 : Int32) (μ : Mu) (H : Heap) (locs : List Loc) (ls : Array Slot), wd g μ s (Aw g s.heap.size) H locs → lv_has ls 4 [(0, .ref (g.2.2 171)), (1, .int v1), (2, .int v2), (3, .int v3)] → lpF (fun _ _ _ _ => none) (X12_isWrong_6b n) k v1 v2 v3 μ = some r → WQ p l e (rmD 0) s m args below meth c g (some (.int r.1)) r.2 H locs (F0 m 6 ls []) := by
    intro k
    induction k with
    | zero =>
      intro v1 v2 v3 μ H locs ls hw hl h
      cases h
    | succ k ih6 =>
      rw [lpF_s]
      generalize lpF (fun _ _ _ _ => none) (X12_isWrong_6b n) k = k6 at ih6 ⊢
      intro v1 v2 v3 μ H locs ls hw hl h
      have B65 : ∀ (v1 : Int32) (v3 : Int32) (s0 : Int32) (μ : Mu) (H : Heap) (locs : List Loc) (ls : Array Slot), wd g μ s (Aw g s.heap.size) H locs → lv_has ls 4 [(0, .ref (g.2.2 171)), (1, .int v1), (3, .int v3)] → X12_isWrong_65 n k6 v1 v3 s0 μ = some r → WQ p l e (rmD 0) s m args below meth c g (some (.int r.1)) r.2 H locs (F0 m 65 ls [.int s0]) := by
        intro v1 v3 s0 μ H locs ls hw hl h
        rw [X12_isWrong_65] at h
        refine lv_istore_n (lv' := [(2, .int s0), (0, .ref (g.2.2 171)), (1, .int v1), (3, .int v3)]) hx hb dX12_isWrong_65 rfl hl (by decide) rfl (fun ls hl => ?_)
        refine lv_iinc (v := (v3 + (1 : Int32))) (lv' := [(3, .int (v3 + (1 : Int32))), (2, .int s0), (0, .ref (g.2.2 171)), (1, .int v1)]) hx hb dX12_isWrong_66 hl (k := 3) rfl rfl (by decide) rfl (fun ls hl => ?_)
        refine lv_goto (tgt := 6) hx hb dX12_isWrong_69 (by decide) ?_
        exact ih6 v1 s0 (v3 + (1 : Int32)) μ _ _ _ hw (lv_sub hl [2, 3, 1, 0] rfl) h
      have B60 : ∀ (v1 : Int32) (v3 : Int32) (μ : Mu) (H : Heap) (locs : List Loc) (ls : Array Slot), wd g μ s (Aw g s.heap.size) H locs → lv_has ls 4 [(0, .ref (g.2.2 171)), (1, .int v1), (3, .int v3)] → X12_isWrong_60 n k6 v1 v3 μ = some r → WQ p l e (rmD 0) s m args below meth c g (some (.int r.1)) r.2 H locs (F0 m 60 ls []) := by
        intro v1 v3 μ H locs ls hw hl h
        rw [X12_isWrong_60] at h
        refine lv_iconst (v := (1 : Int32)) hx hb dX12_isWrong_60 (by decide) ?_
        refine lv_goto (tgt := 65) hx hb dX12_isWrong_61 (by decide) ?_
        exact B65 v1 v3 (1 : Int32) μ _ _ _ hw (lv_sub hl [0, 1, 2] rfl) h
      have B64 : ∀ (v1 : Int32) (v3 : Int32) (μ : Mu) (H : Heap) (locs : List Loc) (ls : Array Slot), wd g μ s (Aw g s.heap.size) H locs → lv_has ls 4 [(0, .ref (g.2.2 171)), (1, .int v1), (3, .int v3)] → X12_isWrong_64 n k6 v1 v3 μ = some r → WQ p l e (rmD 0) s m args below meth c g (some (.int r.1)) r.2 H locs (F0 m 64 ls []) := by
        intro v1 v3 μ H locs ls hw hl h
        rw [X12_isWrong_64] at h
        refine lv_iconst (v := (0 : Int32)) hx hb dX12_isWrong_64 (by decide) ?_
        exact B65 v1 v3 (0 : Int32) μ _ _ _ hw (lv_sub hl [0, 1, 2] rfl) h
      rw [X12_isWrong_6b] at h
      refine lv_iload_n hx hb dX12_isWrong_6 rfl (lv_at hl 3 rfl) ?_
      refine lv_iconst (v := (2 : Int32)) hx hb dX12_isWrong_7 (by decide) ?_
      refine lv_aload_n hx hb dX12_isWrong_8 rfl (lv_at hl 0 rfl) ?_
      refine gR (t := 173) hC hw fl_X12_13 ok171 (by decide) ot171_1 dX12_isWrong_9 ?_
      refine lv_iconst (v := (1 : Int32)) hx hb dX12_isWrong_12 (by decide) ?_
      refine lI (j := 1) hC hw ok173 on173 (vin (by decide)) (by decide) dX12_isWrong_13 ?_
      refine lv_imul hx hb dX12_isWrong_14 ?_
      refine lv_icmp_ge (tgt := 72) hx hb dX12_isWrong_15 (by decide) (fun hc => ?_) (fun hc => ?_)
      · rw [if_pos hc] at h
        refine lv_iload_n hx hb dX12_isWrong_72 rfl (lv_at hl 2 rfl) ?_
        refine lv_if_ne (tgt := 82) hx hb dX12_isWrong_73 (by decide) (fun hc => ?_) (fun hc => ?_)
        · rw [if_neg hc] at h
          exact B82 μ _ _ _ hw (lv_sub hl [] rfl) h
        · rw [if_pos hc] at h
          refine lv_iload_n hx hb dX12_isWrong_76 rfl (lv_at hl 1 rfl) ?_
          refine lv_bipush (v := (40 : Int32)) hx hb dX12_isWrong_77 (by decide) ?_
          refine lv_icmp_le (tgt := 86) hx hb dX12_isWrong_79 (by decide) (fun hc => ?_) (fun hc => ?_)
          · rw [if_pos hc] at h
            refine lv_iconst (v := (0 : Int32)) hx hb dX12_isWrong_86 (by decide) ?_
            exact B87 (0 : Int32) μ _ _ _ hw (lv_sub hl [] rfl) h
          · rw [if_neg hc] at h
            exact B82 μ _ _ _ hw (lv_sub hl [] rfl) h
      · rw [if_neg hc] at h
        refine lv_iload_n hx hb dX12_isWrong_18 rfl (lv_at hl 1 rfl) ?_
        refine lv_aload_n hx hb dX12_isWrong_19 rfl (lv_at hl 0 rfl) ?_
        refine gR (t := 173) hC hw fl_X12_13 ok171 (by decide) ot171_1 dX12_isWrong_20 ?_
        refine lv_bipush (v := (13 : Int32)) hx hb dX12_isWrong_23 (by decide) ?_
        refine lv_iload_n hx hb dX12_isWrong_25 rfl (lv_at hl 3 rfl) ?_
        refine lv_iadd hx hb dX12_isWrong_26 ?_
        obtain ⟨hi27, h⟩ := gd_some h
        refine lI (j := ((13 : Int32) + v3).toNatClampNeg) hC hw ok173 on173 hi27 rfl dX12_isWrong_27 ?_
        refine lv_iadd hx hb dX12_isWrong_28 ?_
        refine lv_istore_n (lv' := [(1, .int (v1 + (μ.1 173 ((13 : Int32) + v3).toNatClampNeg))), (0, .ref (g.2.2 171)), (2, .int v2), (3, .int v3)]) hx hb dX12_isWrong_29 rfl hl (by decide) rfl (fun ls hl => ?_)
        refine lv_iload_n hx hb dX12_isWrong_30 rfl (lv_at hl 2 rfl) ?_
        refine lv_if_ne (tgt := 60) hx hb dX12_isWrong_31 (by decide) (fun hc => ?_) (fun hc => ?_)
        · rw [if_neg hc] at h
          exact B60 (v1 + (μ.1 173 ((13 : Int32) + v3).toNatClampNeg)) v3 μ _ _ _ hw (lv_sub hl [1, 0, 3] rfl) h
        · rw [if_pos hc] at h
          refine lv_aload_n hx hb dX12_isWrong_34 rfl (lv_at hl 1 rfl) ?_
          refine gR (t := 173) hC hw fl_X12_13 ok171 (by decide) ot171_1 dX12_isWrong_35 ?_
          refine lv_bipush (v := (13 : Int32)) hx hb dX12_isWrong_38 (by decide) ?_
          refine lv_iload_n hx hb dX12_isWrong_40 rfl (lv_at hl 3 rfl) ?_
          refine lv_iadd hx hb dX12_isWrong_41 ?_
          refine lI (j := ((13 : Int32) + v3).toNatClampNeg) hC hw ok173 on173 hi27 rfl dX12_isWrong_42 ?_
          refine lv_if_le (tgt := 64) hx hb dX12_isWrong_43 (by decide) (fun hc => ?_) (fun hc => ?_)
          · rw [if_pos hc] at h
            exact B64 (v1 + (μ.1 173 ((13 : Int32) + v3).toNatClampNeg)) v3 μ _ _ _ hw (lv_sub hl [1, 0, 3] rfl) h
          · rw [if_neg hc] at h
            refine lv_aload_n hx hb dX12_isWrong_46 rfl (lv_at hl 1 rfl) ?_
            refine gR (t := 173) hC hw fl_X12_13 ok171 (by decide) ot171_1 dX12_isWrong_47 ?_
            refine lv_iconst (v := (3 : Int32)) hx hb dX12_isWrong_50 (by decide) ?_
            refine lI (j := 3) hC hw ok173 on173 (vin (by decide)) (by decide) dX12_isWrong_51 ?_
            refine lv_iload_n hx hb dX12_isWrong_52 rfl (lv_at hl 3 rfl) ?_
            refine lv_ishr hx hb dX12_isWrong_53 ?_
            refine lv_iconst (v := (1 : Int32)) hx hb dX12_isWrong_54 (by decide) ?_
            refine lv_iand hx hb dX12_isWrong_55 ?_
            refine lv_iconst (v := (1 : Int32)) hx hb dX12_isWrong_56 (by decide) ?_
            refine lv_icmp_ne (tgt := 64) hx hb dX12_isWrong_57 (by decide) (fun hc => ?_) (fun hc => ?_)
            · rw [if_neg hc] at h
              exact B64 (v1 + (μ.1 173 ((13 : Int32) + v3).toNatClampNeg)) v3 μ _ _ _ hw (lv_sub hl [1, 0, 3] rfl) h
            · rw [if_pos hc] at h
              exact B60 (v1 + (μ.1 173 ((13 : Int32) + v3).toNatClampNeg)) v3 μ _ _ _ hw (lv_sub hl [1, 0, 3] rfl) h
  refine lv_iconst (v := (0 : Int32)) hx hb dX12_isWrong_0 (by decide) ?_
  refine lv_istore_n (lv' := [(1, .int (0 : Int32)), (0, .ref (g.2.2 171))]) hx hb dX12_isWrong_1 rfl hl (by decide) rfl (fun ls hl => ?_)
  refine lv_iconst (v := (0 : Int32)) hx hb dX12_isWrong_2 (by decide) ?_
  refine lv_istore_n (lv' := [(2, .int (0 : Int32)), (1, .int (0 : Int32)), (0, .ref (g.2.2 171))]) hx hb dX12_isWrong_3 rfl hl (by decide) rfl (fun ls hl => ?_)
  refine lv_iconst (v := (0 : Int32)) hx hb dX12_isWrong_4 (by decide) ?_
  refine lv_istore_n (lv' := [(3, .int (0 : Int32)), (2, .int (0 : Int32)), (1, .int (0 : Int32)), (0, .ref (g.2.2 171))]) hx hb dX12_isWrong_5 rfl hl (by decide) rfl (fun ls hl => ?_)
  exact B6 n (0 : Int32) (0 : Int32) (0 : Int32) μ _ _ _ hw (lv_sub hl [3, 2, 1, 0] rfl) h
set_option maxRecDepth 100000 in
set_option maxHeartbeats 4000000 in
theorem c_X12_fault (l : Launch) (g : Gw) (n : Nat) (v1 : Int32) (μ : Mu) (r : Int32 × Mu) (h : X12_fault n v1 μ = some r) : Ct l g yX12_fault cX12_fault 2 (some .int) 0 [.ref (g.2.2 171), .int v1] μ (some (.int r.1)) r.2 := by
  rw [X12_fault] at h
  refine Ct.of (by decide) (Nat.le_of_ble_eq_true rfl) ?_
  intro p e s m args below meth c ls hC hw hr hlocks hl
  have hx := hC.1
  have hb := hC.2.1
  have hl : lv_has ls 2 [(0, .ref (g.2.2 171)), (1, .int v1)] := hl
  have B29 : ∀ (s0 : Int32) (μ : Mu) (H : Heap) (locs : List Loc) (ls : Array Slot), wd g μ s (Aw g s.heap.size) H locs → lv_has ls 2 [] → X12_fault_29 n v1 s0 μ = some r → WQ p l e (rmD 0) s m args below meth c g (some (.int r.1)) r.2 H locs (F0 m 29 ls [.int s0]) := by
    intro s0 μ H locs ls hw hl h
    rw [X12_fault_29] at h
    exact rI hC hw hr hlocks (by rw [← Option.some.inj h]) (by rw [← Option.some.inj h]) dX12_fault_29
  refine lv_aload_n hx hb dX12_fault_0 rfl (lv_at hl 0 rfl) ?_
  refine lv_iconst (v := (0 : Int32)) hx hb dX12_fault_1 (by decide) ?_
  refine pI hC hw fl_X12_107 fp_12_5 ok171 dX12_fault_2 (fun H locs hw => ?_)
  refine lv_iload_n hx hb dX12_fault_5 rfl (lv_at hl 1 rfl) ?_
  refine lv_if_ne (tgt := 16) hx hb dX12_fault_6 (by decide) (fun hc => ?_) (fun hc => ?_)
  · rw [if_neg hc] at h
    refine lv_iload_n hx hb dX12_fault_16 rfl (lv_at hl 1 rfl) ?_
    refine lv_iconst (v := (1 : Int32)) hx hb dX12_fault_17 (by decide) ?_
    refine lv_icmp_ne (tgt := 28) hx hb dX12_fault_18 (by decide) (fun hc => ?_) (fun hc => ?_)
    · rw [if_neg hc] at h
      refine lv_iconst (v := ((-1) : Int32)) hx hb dX12_fault_28 (by decide) ?_
      exact B29 ((-1) : Int32) (si μ 171 5 (0 : Int32)) _ _ _ hw (lv_sub hl [] rfl) h
    · rw [if_pos hc] at h
      refine lv_aload_n hx hb dX12_fault_21 rfl (lv_at hl 0 rfl) ?_
      refine gI hC hw fl_X12_29 ok171 (by decide) dX12_fault_22 ?_
      refine lv_goto (tgt := 29) hx hb dX12_fault_25 (by decide) ?_
      exact B29 ((si μ 171 5 (0 : Int32)).1 171 16) (si μ 171 5 (0 : Int32)) _ _ _ hw (lv_sub hl [] rfl) h
  · rw [if_pos hc] at h
    refine lv_aload_n hx hb dX12_fault_9 rfl (lv_at hl 0 rfl) ?_
    refine gI hC hw fl_X12_232 ok171 (by decide) dX12_fault_10 ?_
    refine lv_goto (tgt := 29) hx hb dX12_fault_13 (by decide) ?_
    exact B29 ((si μ 171 5 (0 : Int32)).1 171 15) (si μ 171 5 (0 : Int32)) _ _ _ hw (lv_sub hl [] rfl) h
set_option maxRecDepth 100000 in
set_option maxHeartbeats 4000000 in
theorem c_X12_pitMany (l : Launch) (g : Gw) (n : Nat) (μ : Mu) (r : Int32 × Mu) (h : X12_pitMany n  μ = some r) : Ct l g yX12_pitMany cX12_pitMany 1 (some .int) 0 [.ref (g.2.2 171)] μ (some (.int r.1)) r.2 := by
  rw [X12_pitMany] at h
  refine Ct.of (by decide) (Nat.le_of_ble_eq_true rfl) ?_
  intro p e s m args below meth c ls hC hw hr hlocks hl
  have hx := hC.1
  have hb := hC.2.1
  have hl : lv_has ls 1 [(0, .ref (g.2.2 171))] := hl
  refine lv_iconst (v := (2 : Int32)) hx hb dX12_pitMany_0 (by decide) ?_
  refine lv_aload_n hx hb dX12_pitMany_1 rfl (lv_at hl 0 rfl) ?_
  refine gR (t := 172) hC hw fl_X12_9 ok171 (by decide) ot171_0 dX12_pitMany_2 ?_
  refine lv_iconst (v := (1 : Int32)) hx hb dX12_pitMany_5 (by decide) ?_
  refine lI (j := 1) hC hw ok172 on172 (vin (by decide)) (by decide) dX12_pitMany_6 ?_
  refine lv_imul hx hb dX12_pitMany_7 ?_
  exact rI hC hw hr hlocks (by rw [← Option.some.inj h]) (by rw [← Option.some.inj h]) dX12_pitMany_8
set_option maxRecDepth 100000 in
set_option maxHeartbeats 4000000 in
theorem c_X12_isPit (l : Launch) (g : Gw) (n : Nat) (v1 : Int32) (μ : Mu) (r : Int32 × Mu) (h : X12_isPit n v1 μ = some r) : Ct l g yX12_isPit cX12_isPit 2 (some .boolean) 1 [.ref (g.2.2 171), .int v1] μ (some (.int r.1)) r.2 := by
  rw [X12_isPit] at h
  refine Ct.of (by decide) (Nat.le_of_ble_eq_true rfl) ?_
  intro p e s m args below meth c ls hC hw hr hlocks hl
  have hx := hC.1
  have hb := hC.2.1
  have hl : lv_has ls 2 [(0, .ref (g.2.2 171)), (1, .int v1)] := hl
  refine lv_iload_n hx hb dX12_isPit_0 rfl (lv_at hl 1 rfl) ?_
  refine lv_i2l hx hb dX12_isPit_1 rfl ?_
  refine lv_lconst (v := (0 : Int64)) hx hb dX12_isPit_2 (by decide) ?_
  refine lv_aload_n hx hb dX12_isPit_3 rfl (lv_at hl 0 rfl) ?_
  obtain ⟨r4, hr4, h⟩ := bnd h
  refine cV (b := 171) (As := []) (rest := [.long (0 : Int64), .long (v1.toInt64)]) (st1 := [.int r4.1, .long (0 : Int64), .long (v1.toInt64)]) hC hw (c_X12_pitMany l g n μ r4 hr4) ml_X12_245 im_X12_pitMany se_X12_pitMany ok171 (CN := RX12) (T := TX12) (NF := 54) rfl rfl (by decide) rfl hl.1 ⟨Nat.le_of_ble_eq_true rfl, Nat.le_of_ble_eq_true rfl⟩ (Nat.le_of_ble_eq_true rfl) ⟨Nat.zero_le _, Nat.zero_le _⟩ rfl dX12_isPit_4 (fun H locs hw => ?_)
  refine lv_iconst (v := (1 : Int32)) hx hb dX12_isPit_7 (by decide) ?_
  refine lv_isub hx hb dX12_isPit_8 ?_
  refine lv_i2l hx hb dX12_isPit_9 rfl ?_
  obtain ⟨r10, hr10, h⟩ := bnd h
  refine cS (As := [.long (v1.toInt64), .long (0 : Int64), .long ((r4.1 - (1 : Int32)).toInt64)]) (rest := []) (st1 := [.int r10.1]) hC hw (c_X12_within l g n (v1.toInt64) (0 : Int64) ((r4.1 - (1 : Int32)).toInt64) r4.2 r10 hr10) ml_X12_166 st_X12_within rfl hl.1 ⟨Nat.le_of_ble_eq_true rfl, Nat.le_of_ble_eq_true rfl⟩ (Nat.le_of_ble_eq_true rfl) ⟨Nat.zero_le _, Nat.zero_le _⟩ rfl dX12_isPit_10 (fun H locs hw => ?_)
  obtain ⟨hz13, h⟩ := bz_some h
  exact rZ hC hw hr hlocks hz13 (by rw [← Option.some.inj h]) (by rw [← Option.some.inj h]) dX12_isPit_13
set_option maxRecDepth 100000 in
set_option maxHeartbeats 4000000 in
theorem c_X12_isLacking (l : Launch) (g : Gw) (n : Nat) (v1 : Int32) (μ : Mu) (r : Int32 × Mu) (h : X12_isLacking n v1 μ = some r) : Ct l g yX12_isLacking cX12_isLacking 2 (some .boolean) 0 [.ref (g.2.2 171), .int v1] μ (some (.int r.1)) r.2 := by
  rw [X12_isLacking] at h
  refine Ct.of (by decide) (Nat.le_of_ble_eq_true rfl) ?_
  intro p e s m args below meth c ls hC hw hr hlocks hl
  have hx := hC.1
  have hb := hC.2.1
  have hl : lv_has ls 2 [(0, .ref (g.2.2 171)), (1, .int v1)] := hl
  have B19 : ∀ (s0 : Int32) (μ : Mu) (H : Heap) (locs : List Loc) (ls : Array Slot), wd g μ s (Aw g s.heap.size) H locs → lv_has ls 2 [] → X12_isLacking_19 n v1 s0 μ = some r → WQ p l e (rmD 0) s m args below meth c g (some (.int r.1)) r.2 H locs (F0 m 19 ls [.int s0]) := by
    intro s0 μ H locs ls hw hl h
    rw [X12_isLacking_19] at h
    obtain ⟨hz19, h⟩ := bz_some h
    exact rZ hC hw hr hlocks hz19 (by rw [← Option.some.inj h]) (by rw [← Option.some.inj h]) dX12_isLacking_19
  refine lv_aload_n hx hb dX12_isLacking_0 rfl (lv_at hl 0 rfl) ?_
  refine gR (t := 172) hC hw fl_X12_9 ok171 (by decide) ot171_0 dX12_isLacking_1 ?_
  refine lv_iconst (v := (3 : Int32)) hx hb dX12_isLacking_4 (by decide) ?_
  refine lI (j := 3) hC hw ok172 on172 (vin (by decide)) (by decide) dX12_isLacking_5 ?_
  refine lv_iload_n hx hb dX12_isLacking_6 rfl (lv_at hl 1 rfl) ?_
  refine lv_ishr hx hb dX12_isLacking_7 ?_
  refine lv_iconst (v := (1 : Int32)) hx hb dX12_isLacking_8 (by decide) ?_
  refine lv_iand hx hb dX12_isLacking_9 ?_
  refine lv_iconst (v := (1 : Int32)) hx hb dX12_isLacking_10 (by decide) ?_
  refine lv_icmp_ne (tgt := 18) hx hb dX12_isLacking_11 (by decide) (fun hc => ?_) (fun hc => ?_)
  · rw [if_neg hc] at h
    refine lv_iconst (v := (0 : Int32)) hx hb dX12_isLacking_18 (by decide) ?_
    exact B19 (0 : Int32) μ _ _ _ hw (lv_sub hl [] rfl) h
  · rw [if_pos hc] at h
    refine lv_iconst (v := (1 : Int32)) hx hb dX12_isLacking_14 (by decide) ?_
    refine lv_goto (tgt := 19) hx hb dX12_isLacking_15 (by decide) ?_
    exact B19 (1 : Int32) μ _ _ _ hw (lv_sub hl [] rfl) h
set_option maxRecDepth 100000 in
set_option maxHeartbeats 4000000 in
theorem c_X12_sideOf (l : Launch) (g : Gw) (n : Nat) (v1 : Int32) (μ : Mu) (r : Int32 × Mu) (h : X12_sideOf n v1 μ = some r) : Ct l g yX12_sideOf cX12_sideOf 2 (some .int) 0 [.ref (g.2.2 171), .int v1] μ (some (.int r.1)) r.2 := by
  rw [X12_sideOf] at h
  refine Ct.of (by decide) (Nat.le_of_ble_eq_true rfl) ?_
  intro p e s m args below meth c ls hC hw hr hlocks hl
  have hx := hC.1
  have hb := hC.2.1
  have hl : lv_has ls 2 [(0, .ref (g.2.2 171)), (1, .int v1)] := hl
  have B15 : ∀ (s0 : Int32) (μ : Mu) (H : Heap) (locs : List Loc) (ls : Array Slot), wd g μ s (Aw g s.heap.size) H locs → lv_has ls 2 [] → X12_sideOf_15 n v1 s0 μ = some r → WQ p l e (rmD 0) s m args below meth c g (some (.int r.1)) r.2 H locs (F0 m 15 ls [.int s0]) := by
    intro s0 μ H locs ls hw hl h
    rw [X12_sideOf_15] at h
    exact rI hC hw hr hlocks (by rw [← Option.some.inj h]) (by rw [← Option.some.inj h]) dX12_sideOf_15
  refine lv_iload_n hx hb dX12_sideOf_0 rfl (lv_at hl 1 rfl) ?_
  refine lv_aload_n hx hb dX12_sideOf_1 rfl (lv_at hl 0 rfl) ?_
  refine gR (t := 172) hC hw fl_X12_9 ok171 (by decide) ot171_0 dX12_sideOf_2 ?_
  refine lv_iconst (v := (1 : Int32)) hx hb dX12_sideOf_5 (by decide) ?_
  refine lI (j := 1) hC hw ok172 on172 (vin (by decide)) (by decide) dX12_sideOf_6 ?_
  refine lv_icmp_ge (tgt := 14) hx hb dX12_sideOf_7 (by decide) (fun hc => ?_) (fun hc => ?_)
  · rw [if_pos hc] at h
    refine lv_iconst (v := (1 : Int32)) hx hb dX12_sideOf_14 (by decide) ?_
    exact B15 (1 : Int32) μ _ _ _ hw (lv_sub hl [] rfl) h
  · rw [if_neg hc] at h
    refine lv_iconst (v := (0 : Int32)) hx hb dX12_sideOf_10 (by decide) ?_
    refine lv_goto (tgt := 15) hx hb dX12_sideOf_11 (by decide) ?_
    exact B15 (0 : Int32) μ _ _ _ hw (lv_sub hl [] rfl) h
set_option maxRecDepth 100000 in
set_option maxHeartbeats 4000000 in
theorem c_X12_pit (l : Launch) (g : Gw) (n : Nat) (v1 : Int32) (μ : Mu) (r : Int32 × Mu) (h : X12_pit n v1 μ = some r) : Ct l g yX12_pit cX12_pit 2 (some .int) 2 [.ref (g.2.2 171), .int v1] μ (some (.int r.1)) r.2 := by
  rw [X12_pit] at h
  refine Ct.of (by decide) (Nat.le_of_ble_eq_true rfl) ?_
  intro p e s m args below meth c ls hC hw hr hlocks hl
  have hx := hC.1
  have hb := hC.2.1
  have hl : lv_has ls 2 [(0, .ref (g.2.2 171)), (1, .int v1)] := hl
  have B40 : ∀ (s0 : Int32) (μ : Mu) (H : Heap) (locs : List Loc) (ls : Array Slot), wd g μ s (Aw g s.heap.size) H locs → lv_has ls 2 [] → X12_pit_40 n v1 s0 μ = some r → WQ p l e (rmD 2) s m args below meth c g (some (.int r.1)) r.2 H locs (F0 m 40 ls [.int s0]) := by
    intro s0 μ H locs ls hw hl h
    rw [X12_pit_40] at h
    exact rI hC hw hr hlocks (by rw [← Option.some.inj h]) (by rw [← Option.some.inj h]) dX12_pit_40
  refine lv_aload_n hx hb dX12_pit_0 rfl (lv_at hl 0 rfl) ?_
  refine lv_iconst (v := (0 : Int32)) hx hb dX12_pit_1 (by decide) ?_
  refine pI hC hw fl_X12_107 fp_12_5 ok171 dX12_pit_2 (fun H locs hw => ?_)
  refine lv_aload_n hx hb dX12_pit_5 rfl (lv_at hl 0 rfl) ?_
  refine lv_iload_n hx hb dX12_pit_6 rfl (lv_at hl 1 rfl) ?_
  obtain ⟨r7, hr7, h⟩ := bnd h
  refine cV (b := 171) (As := [.int v1]) (rest := []) (st1 := [.int r7.1]) hC hw (c_X12_isPit l g n v1 (si μ 171 5 (0 : Int32)) r7 hr7) ml_X12_248 im_X12_isPit se_X12_isPit ok171 (CN := RX12) (T := TX12) (NF := 54) rfl rfl (by decide) rfl hl.1 ⟨Nat.le_of_ble_eq_true rfl, Nat.le_of_ble_eq_true rfl⟩ (Nat.le_of_ble_eq_true rfl) ⟨Nat.zero_le _, Nat.zero_le _⟩ rfl dX12_pit_7 (fun H locs hw => ?_)
  refine lv_if_ne (tgt := 19) hx hb dX12_pit_10 (by decide) (fun hc => ?_) (fun hc => ?_)
  · rw [if_neg hc] at h
    refine lv_aload_n hx hb dX12_pit_19 rfl (lv_at hl 0 rfl) ?_
    refine lv_iload_n hx hb dX12_pit_20 rfl (lv_at hl 1 rfl) ?_
    obtain ⟨r21, hr21, h⟩ := bnd h
    refine cV (b := 171) (As := [.int v1]) (rest := []) (st1 := [.int r21.1]) hC hw (c_X12_isLacking l g n v1 r7.2 r21 hr21) ml_X12_251 im_X12_isLacking se_X12_isLacking ok171 (CN := RX12) (T := TX12) (NF := 54) rfl rfl (by decide) rfl hl.1 ⟨Nat.le_of_ble_eq_true rfl, Nat.le_of_ble_eq_true rfl⟩ (Nat.le_of_ble_eq_true rfl) ⟨Nat.zero_le _, Nat.zero_le _⟩ rfl dX12_pit_21 (fun H locs hw => ?_)
    refine lv_if_eq (tgt := 31) hx hb dX12_pit_24 (by decide) (fun hc => ?_) (fun hc => ?_)
    · rw [if_pos hc] at h
      refine lv_aload_n hx hb dX12_pit_31 rfl (lv_at hl 0 rfl) ?_
      refine gR (t := 172) hC hw fl_X12_9 ok171 (by decide) ot171_0 dX12_pit_32 ?_
      refine lv_bipush (v := (13 : Int32)) hx hb dX12_pit_35 (by decide) ?_
      refine lv_iload_n hx hb dX12_pit_37 rfl (lv_at hl 1 rfl) ?_
      refine lv_iadd hx hb dX12_pit_38 ?_
      obtain ⟨hi39, h⟩ := gd_some h
      refine lI (j := ((13 : Int32) + v1).toNatClampNeg) hC hw ok172 on172 hi39 rfl dX12_pit_39 ?_
      exact B40 (r21.2.1 172 ((13 : Int32) + v1).toNatClampNeg) r21.2 _ _ _ hw (lv_sub hl [] rfl) h
    · rw [if_neg hc] at h
      refine lv_iconst (v := ((-1) : Int32)) hx hb dX12_pit_27 (by decide) ?_
      refine lv_goto (tgt := 40) hx hb dX12_pit_28 (by decide) ?_
      exact B40 ((-1) : Int32) r21.2 _ _ _ hw (lv_sub hl [] rfl) h
  · rw [if_pos hc] at h
    refine lv_aload_n hx hb dX12_pit_13 rfl (lv_at hl 0 rfl) ?_
    refine lv_iconst (v := (1 : Int32)) hx hb dX12_pit_14 (by decide) ?_
    obtain ⟨r15, hr15, h⟩ := bnd h
    refine cV (b := 171) (As := [.int (1 : Int32)]) (rest := []) (st1 := [.int r15.1]) hC hw (c_X12_fails l g n (1 : Int32) r7.2 r15 hr15) ml_X12_221 im_X12_fails se_X12_fails ok171 (CN := RX12) (T := TX12) (NF := 54) rfl rfl (by decide) rfl hl.1 ⟨Nat.le_of_ble_eq_true rfl, Nat.le_of_ble_eq_true rfl⟩ (Nat.le_of_ble_eq_true rfl) ⟨Nat.zero_le _, Nat.zero_le _⟩ rfl dX12_pit_15 (fun H locs hw => ?_)
    exact rI hC hw hr hlocks (by rw [← Option.some.inj h]) (by rw [← Option.some.inj h]) dX12_pit_18
set_option maxRecDepth 100000 in
set_option maxHeartbeats 4000000 in
theorem c_X12_isSide (l : Launch) (g : Gw) (n : Nat) (v0 : Int32) (μ : Mu) (r : Int32 × Mu) (h : X12_isSide n v0 μ = some r) : Ct l g yX12_isSide cX12_isSide 1 (some .boolean) 1 [.int v0] μ (some (.int r.1)) r.2 := by
  rw [X12_isSide] at h
  refine Ct.of (by decide) (Nat.le_of_ble_eq_true rfl) ?_
  intro p e s m args below meth c ls hC hw hr hlocks hl
  have hx := hC.1
  have hb := hC.2.1
  have hl : lv_has ls 1 [(0, .int v0)] := hl
  refine lv_iload_n hx hb dX12_isSide_0 rfl (lv_at hl 0 rfl) ?_
  refine lv_i2l hx hb dX12_isSide_1 rfl ?_
  refine lv_lconst (v := (0 : Int64)) hx hb dX12_isSide_2 (by decide) ?_
  refine lv_lconst (v := (1 : Int64)) hx hb dX12_isSide_3 (by decide) ?_
  obtain ⟨r4, hr4, h⟩ := bnd h
  refine cS (As := [.long (v0.toInt64), .long (0 : Int64), .long (1 : Int64)]) (rest := []) (st1 := [.int r4.1]) hC hw (c_X12_within l g n (v0.toInt64) (0 : Int64) (1 : Int64) μ r4 hr4) ml_X12_166 st_X12_within rfl hl.1 ⟨Nat.le_of_ble_eq_true rfl, Nat.le_of_ble_eq_true rfl⟩ (Nat.le_of_ble_eq_true rfl) ⟨Nat.zero_le _, Nat.zero_le _⟩ rfl dX12_isSide_4 (fun H locs hw => ?_)
  obtain ⟨hz7, h⟩ := bz_some h
  exact rZ hC hw hr hlocks hz7 (by rw [← Option.some.inj h]) (by rw [← Option.some.inj h]) dX12_isSide_7
set_option maxRecDepth 100000 in
set_option maxHeartbeats 4000000 in
theorem c_X12_store (l : Launch) (g : Gw) (n : Nat) (v1 : Int32) (μ : Mu) (r : Int32 × Mu) (h : X12_store n v1 μ = some r) : Ct l g yX12_store cX12_store 2 (some .int) 2 [.ref (g.2.2 171), .int v1] μ (some (.int r.1)) r.2 := by
  rw [X12_store] at h
  refine Ct.of (by decide) (Nat.le_of_ble_eq_true rfl) ?_
  intro p e s m args below meth c ls hC hw hr hlocks hl
  have hx := hC.1
  have hb := hC.2.1
  have hl : lv_has ls 2 [(0, .ref (g.2.2 171)), (1, .int v1)] := hl
  have B29 : ∀ (s0 : Int32) (μ : Mu) (H : Heap) (locs : List Loc) (ls : Array Slot), wd g μ s (Aw g s.heap.size) H locs → lv_has ls 2 [] → X12_store_29 n v1 s0 μ = some r → WQ p l e (rmD 2) s m args below meth c g (some (.int r.1)) r.2 H locs (F0 m 29 ls [.int s0]) := by
    intro s0 μ H locs ls hw hl h
    rw [X12_store_29] at h
    exact rI hC hw hr hlocks (by rw [← Option.some.inj h]) (by rw [← Option.some.inj h]) dX12_store_29
  refine lv_aload_n hx hb dX12_store_0 rfl (lv_at hl 0 rfl) ?_
  refine lv_iconst (v := (0 : Int32)) hx hb dX12_store_1 (by decide) ?_
  refine pI hC hw fl_X12_107 fp_12_5 ok171 dX12_store_2 (fun H locs hw => ?_)
  refine lv_iload_n hx hb dX12_store_5 rfl (lv_at hl 1 rfl) ?_
  obtain ⟨r6, hr6, h⟩ := bnd h
  refine cS (As := [.int v1]) (rest := []) (st1 := [.int r6.1]) hC hw (c_X12_isSide l g n v1 (si μ 171 5 (0 : Int32)) r6 hr6) ml_X12_254 st_X12_isSide rfl hl.1 ⟨Nat.le_of_ble_eq_true rfl, Nat.le_of_ble_eq_true rfl⟩ (Nat.le_of_ble_eq_true rfl) ⟨Nat.zero_le _, Nat.zero_le _⟩ rfl dX12_store_6 (fun H locs hw => ?_)
  refine lv_if_eq (tgt := 24) hx hb dX12_store_9 (by decide) (fun hc => ?_) (fun hc => ?_)
  · rw [if_pos hc] at h
    refine lv_aload_n hx hb dX12_store_24 rfl (lv_at hl 0 rfl) ?_
    refine lv_iconst (v := (1 : Int32)) hx hb dX12_store_25 (by decide) ?_
    obtain ⟨r26, hr26, h⟩ := bnd h
    refine cV (b := 171) (As := [.int (1 : Int32)]) (rest := []) (st1 := [.int r26.1]) hC hw (c_X12_fails l g n (1 : Int32) r6.2 r26 hr26) ml_X12_221 im_X12_fails se_X12_fails ok171 (CN := RX12) (T := TX12) (NF := 54) rfl rfl (by decide) rfl hl.1 ⟨Nat.le_of_ble_eq_true rfl, Nat.le_of_ble_eq_true rfl⟩ (Nat.le_of_ble_eq_true rfl) ⟨Nat.zero_le _, Nat.zero_le _⟩ rfl dX12_store_26 (fun H locs hw => ?_)
    exact B29 r26.1 r26.2 _ _ _ hw (lv_sub hl [] rfl) h
  · rw [if_neg hc] at h
    refine lv_aload_n hx hb dX12_store_12 rfl (lv_at hl 0 rfl) ?_
    refine gR (t := 172) hC hw fl_X12_9 ok171 (by decide) ot171_0 dX12_store_13 ?_
    refine lv_bipush (v := (11 : Int32)) hx hb dX12_store_16 (by decide) ?_
    refine lv_iload_n hx hb dX12_store_18 rfl (lv_at hl 1 rfl) ?_
    refine lv_iadd hx hb dX12_store_19 ?_
    obtain ⟨hi20, h⟩ := gd_some h
    refine lI (j := ((11 : Int32) + v1).toNatClampNeg) hC hw ok172 on172 hi20 rfl dX12_store_20 ?_
    refine lv_goto (tgt := 29) hx hb dX12_store_21 (by decide) ?_
    exact B29 (r6.2.1 172 ((11 : Int32) + v1).toNatClampNeg) r6.2 _ _ _ hw (lv_sub hl [] rfl) h
set_option maxRecDepth 100000 in
set_option maxHeartbeats 4000000 in
theorem c_X12_mover (l : Launch) (g : Gw) (n : Nat) (μ : Mu) (r : Int32 × Mu) (h : X12_mover n  μ = some r) : Ct l g yX12_mover cX12_mover 1 (some .int) 0 [.ref (g.2.2 171)] μ (some (.int r.1)) r.2 := by
  rw [X12_mover] at h
  refine Ct.of (by decide) (Nat.le_of_ble_eq_true rfl) ?_
  intro p e s m args below meth c ls hC hw hr hlocks hl
  have hx := hC.1
  have hb := hC.2.1
  have hl : lv_has ls 1 [(0, .ref (g.2.2 171))] := hl
  refine lv_aload_n hx hb dX12_mover_0 rfl (lv_at hl 0 rfl) ?_
  refine lv_iconst (v := (0 : Int32)) hx hb dX12_mover_1 (by decide) ?_
  refine pI hC hw fl_X12_107 fp_12_5 ok171 dX12_mover_2 (fun H locs hw => ?_)
  refine lv_aload_n hx hb dX12_mover_5 rfl (lv_at hl 0 rfl) ?_
  refine gR (t := 172) hC hw fl_X12_9 ok171 (by decide) ot171_0 dX12_mover_6 ?_
  refine lv_iconst (v := (2 : Int32)) hx hb dX12_mover_9 (by decide) ?_
  refine lI (j := 2) hC hw ok172 on172 (vin (by decide)) (by decide) dX12_mover_10 ?_
  exact rI hC hw hr hlocks (by rw [← Option.some.inj h]) (by rw [← Option.some.inj h]) dX12_mover_11
