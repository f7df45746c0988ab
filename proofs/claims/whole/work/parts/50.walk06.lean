set_option maxRecDepth 100000 in
set_option maxHeartbeats 4000000 in
theorem c_X12_whyNot (l : Launch) (g : Gw) (n : Nat) (v1 : Int32) (μ : Mu) (r : Int32 × Mu) (h : X12_whyNot n v1 μ = some r) : Ct l g yX12_whyNot cX12_whyNot 2 (some .int) 6 [.ref (g.2.2 171), .int v1] μ (some (.int r.1)) r.2 := by
  rw [X12_whyNot] at h
  refine Ct.of (by decide) (Nat.le_of_ble_eq_true rfl) ?_
  intro p e s m args below meth c ls hC hw hr hlocks hl
  have hx := hC.1
  have hb := hC.2.1
  have hl : lv_has ls 2 [(0, .ref (g.2.2 171)), (1, .int v1)] := hl
  have B39 : ∀ (μ : Mu) (H : Heap) (locs : List Loc) (ls : Array Slot), wd g μ s (Aw g s.heap.size) H locs → lv_has ls 2 [] → X12_whyNot_39 n v1  μ = some r → WQ p l e (rmD 6) s m args below meth c g (some (.int r.1)) r.2 H locs (F0 m 39 ls []) := by
    intro μ H locs ls hw hl h
    rw [X12_whyNot_39] at h
    refine lv_iconst (v := (1 : Int32)) hx hb dX12_whyNot_39 (by decide) ?_
    exact rI hC hw hr hlocks (by rw [← Option.some.inj h]) (by rw [← Option.some.inj h]) dX12_whyNot_40
  have B107 : ∀ (s0 : Int32) (μ : Mu) (H : Heap) (locs : List Loc) (ls : Array Slot), wd g μ s (Aw g s.heap.size) H locs → lv_has ls 2 [] → X12_whyNot_107 n v1 s0 μ = some r → WQ p l e (rmD 6) s m args below meth c g (some (.int r.1)) r.2 H locs (F0 m 107 ls [.int s0]) := by
    intro s0 μ H locs ls hw hl h
    rw [X12_whyNot_107] at h
    exact rI hC hw hr hlocks (by rw [← Option.some.inj h]) (by rw [← Option.some.inj h]) dX12_whyNot_107
  have B106 : ∀ (μ : Mu) (H : Heap) (locs : List Loc) (ls : Array Slot), wd g μ s (Aw g s.heap.size) H locs → lv_has ls 2 [] → X12_whyNot_106 n v1  μ = some r → WQ p l e (rmD 6) s m args below meth c g (some (.int r.1)) r.2 H locs (F0 m 106 ls []) := by
    intro μ H locs ls hw hl h
    rw [X12_whyNot_106] at h
    refine lv_iconst (v := (0 : Int32)) hx hb dX12_whyNot_106 (by decide) ?_
    exact B107 (0 : Int32) μ _ _ _ hw (lv_sub hl [] rfl) h
  refine lv_aload_n hx hb dX12_whyNot_0 rfl (lv_at hl 0 rfl) ?_
  obtain ⟨r1, hr1, h⟩ := bnd h
  refine cV (b := 171) (As := []) (rest := []) (st1 := [.int r1.1]) hC hw (c_X12_isOver l g n μ r1 hr1) ml_X12_305 im_X12_isOver se_X12_isOver ok171 (CN := RX12) (T := TX12) (NF := 54) rfl rfl (by decide) rfl hl.1 ⟨Nat.le_of_ble_eq_true rfl, Nat.le_of_ble_eq_true rfl⟩ (Nat.le_of_ble_eq_true rfl) ⟨Nat.zero_le _, Nat.zero_le _⟩ rfl dX12_whyNot_1 (fun H locs hw => ?_)
  refine lv_if_eq (tgt := 9) hx hb dX12_whyNot_4 (by decide) (fun hc => ?_) (fun hc => ?_)
  · rw [if_pos hc] at h
    refine lv_aload_n hx hb dX12_whyNot_9 rfl (lv_at hl 0 rfl) ?_
    refine lv_iload_n hx hb dX12_whyNot_10 rfl (lv_at hl 1 rfl) ?_
    obtain ⟨r11, hr11, h⟩ := bnd h
    refine cV (b := 171) (As := [.int v1]) (rest := []) (st1 := [.int r11.1]) hC hw (c_X12_isPit l g n v1 r1.2 r11 hr11) ml_X12_248 im_X12_isPit se_X12_isPit ok171 (CN := RX12) (T := TX12) (NF := 54) rfl rfl (by decide) rfl hl.1 ⟨Nat.le_of_ble_eq_true rfl, Nat.le_of_ble_eq_true rfl⟩ (Nat.le_of_ble_eq_true rfl) ⟨Nat.zero_le _, Nat.zero_le _⟩ rfl dX12_whyNot_11 (fun H locs hw => ?_)
    refine lv_if_eq (tgt := 39) hx hb dX12_whyNot_14 (by decide) (fun hc => ?_) (fun hc => ?_)
    · rw [if_pos hc] at h
      exact B39 r11.2 _ _ _ hw (lv_sub hl [] rfl) h
    · rw [if_neg hc] at h
      refine lv_aload_n hx hb dX12_whyNot_17 rfl (lv_at hl 0 rfl) ?_
      refine lv_iload_n hx hb dX12_whyNot_18 rfl (lv_at hl 1 rfl) ?_
      obtain ⟨r19, hr19, h⟩ := bnd h
      refine cV (b := 171) (As := [.int v1]) (rest := []) (st1 := [.int r19.1]) hC hw (c_X12_sideOf l g n v1 r11.2 r19 hr19) ml_X12_257 im_X12_sideOf se_X12_sideOf ok171 (CN := RX12) (T := TX12) (NF := 54) rfl rfl (by decide) rfl hl.1 ⟨Nat.le_of_ble_eq_true rfl, Nat.le_of_ble_eq_true rfl⟩ (Nat.le_of_ble_eq_true rfl) ⟨Nat.zero_le _, Nat.zero_le _⟩ rfl dX12_whyNot_19 (fun H locs hw => ?_)
      refine lv_aload_n hx hb dX12_whyNot_22 rfl (lv_at hl 0 rfl) ?_
      refine gR (t := 172) hC hw fl_X12_9 ok171 (by decide) ot171_0 dX12_whyNot_23 ?_
      refine lv_iconst (v := (2 : Int32)) hx hb dX12_whyNot_26 (by decide) ?_
      refine lI (j := 2) hC hw ok172 on172 (vin (by decide)) (by decide) dX12_whyNot_27 ?_
      refine lv_icmp_ne (tgt := 39) hx hb dX12_whyNot_28 (by decide) (fun hc => ?_) (fun hc => ?_)
      · rw [if_neg hc] at h
        exact B39 r19.2 _ _ _ hw (lv_sub hl [] rfl) h
      · rw [if_pos hc] at h
        refine lv_aload_n hx hb dX12_whyNot_31 rfl (lv_at hl 0 rfl) ?_
        refine lv_iload_n hx hb dX12_whyNot_32 rfl (lv_at hl 1 rfl) ?_
        obtain ⟨r33, hr33, h⟩ := bnd h
        refine cV (b := 171) (As := [.int v1]) (rest := []) (st1 := [.int r33.1]) hC hw (c_X12_isLacking l g n v1 r19.2 r33 hr33) ml_X12_251 im_X12_isLacking se_X12_isLacking ok171 (CN := RX12) (T := TX12) (NF := 54) rfl rfl (by decide) rfl hl.1 ⟨Nat.le_of_ble_eq_true rfl, Nat.le_of_ble_eq_true rfl⟩ (Nat.le_of_ble_eq_true rfl) ⟨Nat.zero_le _, Nat.zero_le _⟩ rfl dX12_whyNot_33 (fun H locs hw => ?_)
        refine lv_if_eq (tgt := 41) hx hb dX12_whyNot_36 (by decide) (fun hc => ?_) (fun hc => ?_)
        · rw [if_pos hc] at h
          refine lv_aload_n hx hb dX12_whyNot_41 rfl (lv_at hl 0 rfl) ?_
          refine gR (t := 172) hC hw fl_X12_9 ok171 (by decide) ot171_0 dX12_whyNot_42 ?_
          refine lv_bipush (v := (13 : Int32)) hx hb dX12_whyNot_45 (by decide) ?_
          refine lv_iload_n hx hb dX12_whyNot_47 rfl (lv_at hl 1 rfl) ?_
          refine lv_iadd hx hb dX12_whyNot_48 ?_
          obtain ⟨hi49, h⟩ := gd_some h
          refine lI (j := ((13 : Int32) + v1).toNatClampNeg) hC hw ok172 on172 hi49 rfl dX12_whyNot_49 ?_
          refine lv_if_ne (tgt := 55) hx hb dX12_whyNot_50 (by decide) (fun hc => ?_) (fun hc => ?_)
          · rw [if_neg hc] at h
            refine lv_aload_n hx hb dX12_whyNot_55 rfl (lv_at hl 0 rfl) ?_
            refine lv_iload_n hx hb dX12_whyNot_56 rfl (lv_at hl 1 rfl) ?_
            obtain ⟨r57, hr57, h⟩ := bnd h
            refine cV (b := 171) (As := [.int v1]) (rest := []) (st1 := []) hC hw (c_X12_triesFrom l g n v1 r33.2 r57 hr57) ml_X12_302 im_X12_triesFrom se_X12_triesFrom ok171 (CN := RX12) (T := TX12) (NF := 54) rfl rfl (by decide) rfl hl.1 ⟨Nat.le_of_ble_eq_true rfl, Nat.le_of_ble_eq_true rfl⟩ (Nat.le_of_ble_eq_true rfl) ⟨Nat.zero_le _, Nat.zero_le _⟩ rfl dX12_whyNot_57 (fun H locs hw => ?_)
            refine lv_aload_n hx hb dX12_whyNot_60 rfl (lv_at hl 0 rfl) ?_
            refine gI hC hw fl_X12_269 ok171 (by decide) dX12_whyNot_61 ?_
            refine lv_if_eq (tgt := 69) hx hb dX12_whyNot_64 (by decide) (fun hc => ?_) (fun hc => ?_)
            · rw [if_pos hc] at h
              refine lv_aload_n hx hb dX12_whyNot_69 rfl (lv_at hl 0 rfl) ?_
              refine gR (t := 172) hC hw fl_X12_9 ok171 (by decide) ot171_0 dX12_whyNot_70 ?_
              refine lv_bipush (v := (10 : Int32)) hx hb dX12_whyNot_73 (by decide) ?_
              refine lI (j := 10) hC hw ok172 on172 (vin (by decide)) (by decide) dX12_whyNot_75 ?_
              refine lv_iconst (v := (1 : Int32)) hx hb dX12_whyNot_76 (by decide) ?_
              refine lv_icmp_ne (tgt := 106) hx hb dX12_whyNot_77 (by decide) (fun hc => ?_) (fun hc => ?_)
              · rw [if_neg hc] at h
                exact B106 r57.2 _ _ _ hw (lv_sub hl [] rfl) h
              · rw [if_pos hc] at h
                refine lv_aload_n hx hb dX12_whyNot_80 rfl (lv_at hl 0 rfl) ?_
                refine lv_iconst (v := (1 : Int32)) hx hb dX12_whyNot_81 (by decide) ?_
                refine lv_aload_n hx hb dX12_whyNot_82 rfl (lv_at hl 0 rfl) ?_
                refine gR (t := 172) hC hw fl_X12_9 ok171 (by decide) ot171_0 dX12_whyNot_83 ?_
                refine lv_iconst (v := (2 : Int32)) hx hb dX12_whyNot_86 (by decide) ?_
                refine lI (j := 2) hC hw ok172 on172 (vin (by decide)) (by decide) dX12_whyNot_87 ?_
                refine lv_isub hx hb dX12_whyNot_88 ?_
                obtain ⟨r89, hr89, h⟩ := bnd h
                refine cV (b := 171) (As := [.int ((1 : Int32) - (r57.2.1 172 2))]) (rest := []) (st1 := [.int r89.1]) hC hw (c_X12_sum l g n ((1 : Int32) - (r57.2.1 172 2)) r57.2 r89 hr89) ml_X12_290 im_X12_sum se_X12_sum ok171 (CN := RX12) (T := TX12) (NF := 54) rfl rfl (by decide) rfl hl.1 ⟨Nat.le_of_ble_eq_true rfl, Nat.le_of_ble_eq_true rfl⟩ (Nat.le_of_ble_eq_true rfl) ⟨Nat.zero_le _, Nat.zero_le _⟩ rfl dX12_whyNot_89 (fun H locs hw => ?_)
                refine lv_if_ne (tgt := 106) hx hb dX12_whyNot_92 (by decide) (fun hc => ?_) (fun hc => ?_)
                · rw [if_neg hc] at h
                  exact B106 r89.2 _ _ _ hw (lv_sub hl [] rfl) h
                · rw [if_pos hc] at h
                  refine lv_aload_n hx hb dX12_whyNot_95 rfl (lv_at hl 0 rfl) ?_
                  obtain ⟨r96, hr96, h⟩ := bnd h
                  refine cV (b := 171) (As := []) (rest := []) (st1 := [.int r96.1]) hC hw (c_X12_canFeed l g n r89.2 r96 hr96) ml_X12_308 im_X12_canFeed se_X12_canFeed ok171 (CN := RX12) (T := TX12) (NF := 54) rfl rfl (by decide) rfl hl.1 ⟨Nat.le_of_ble_eq_true rfl, Nat.le_of_ble_eq_true rfl⟩ (Nat.le_of_ble_eq_true rfl) ⟨Nat.zero_le _, Nat.zero_le _⟩ rfl dX12_whyNot_96 (fun H locs hw => ?_)
                  refine lv_if_eq (tgt := 106) hx hb dX12_whyNot_99 (by decide) (fun hc => ?_) (fun hc => ?_)
                  · rw [if_pos hc] at h
                    exact B106 r96.2 _ _ _ hw (lv_sub hl [] rfl) h
                  · rw [if_neg hc] at h
                    refine lv_iconst (v := (4 : Int32)) hx hb dX12_whyNot_102 (by decide) ?_
                    refine lv_goto (tgt := 107) hx hb dX12_whyNot_103 (by decide) ?_
                    exact B107 (4 : Int32) r96.2 _ _ _ hw (lv_sub hl [] rfl) h
            · rw [if_neg hc] at h
              refine lv_iconst (v := (3 : Int32)) hx hb dX12_whyNot_67 (by decide) ?_
              exact rI hC hw hr hlocks (by rw [← Option.some.inj h]) (by rw [← Option.some.inj h]) dX12_whyNot_68
          · rw [if_pos hc] at h
            refine lv_iconst (v := (2 : Int32)) hx hb dX12_whyNot_53 (by decide) ?_
            exact rI hC hw hr hlocks (by rw [← Option.some.inj h]) (by rw [← Option.some.inj h]) dX12_whyNot_54
        · rw [if_neg hc] at h
          exact B39 r33.2 _ _ _ hw (lv_sub hl [] rfl) h
  · rw [if_neg hc] at h
    refine lv_iconst (v := (5 : Int32)) hx hb dX12_whyNot_7 (by decide) ?_
    exact rI hC hw hr hlocks (by rw [← Option.some.inj h]) (by rw [← Option.some.inj h]) dX12_whyNot_8
set_option maxRecDepth 100000 in
set_option maxHeartbeats 4000000 in
theorem c_X12_moves (l : Launch) (g : Gw) (n : Nat) (v1 : Int32) (μ : Mu) (r : Int32 × Mu) (h : X12_moves n v1 μ = some r) : Ct l g yX12_moves cX12_moves 3 (some .int) 5 [.ref (g.2.2 171), .int v1] μ (some (.int r.1)) r.2 := by
  rw [X12_moves] at h
  refine Ct.of (by decide) (Nat.le_of_ble_eq_true rfl) ?_
  intro p e s m args below meth c ls hC hw hr hlocks hl
  have hx := hC.1
  have hb := hC.2.1
  have hl : lv_has ls 3 [(0, .ref (g.2.2 171)), (1, .int v1)] := hl
  have B7 : ∀ (k : Nat), ∀ (v2 : Int32) (μ : Mu) (H : Heap) (locs : List Loc) (ls : Array Slot), wd g μ s (Aw g s.heap.size) H locs → lv_has ls 3 [(0, .ref (g.2.2 171)), (2, .int v2)] → lpF (fun _ _ => none) (X12_moves_7b n v1) k v2 μ = some r → WQ p l e (rmD 5) s m args below meth c g (some (.int r.1)) r.2 H locs (F0 m 7 ls []) := by
    intro k
    induction k with
    | zero =>
      intro v2 μ H locs ls hw hl h
      cases h
    | succ k ih7 =>
      rw [lpF_s]
      generalize lpF (fun _ _ => none) (X12_moves_7b n v1) k = k7 at ih7 ⊢
      intro v2 μ H locs ls hw hl h
      rw [X12_moves_7b] at h
      refine lv_iload_n hx hb dX12_moves_7 rfl (lv_at hl 1 rfl) ?_
      refine lv_aload_n hx hb dX12_moves_8 rfl (lv_at hl 0 rfl) ?_
      obtain ⟨r9, hr9, h⟩ := bnd h
      refine cV (b := 171) (As := []) (rest := [.int v2]) (st1 := [.int r9.1, .int v2]) hC hw (c_X12_pitMany l g n μ r9 hr9) ml_X12_245 im_X12_pitMany se_X12_pitMany ok171 (CN := RX12) (T := TX12) (NF := 54) rfl rfl (by decide) rfl hl.1 ⟨Nat.le_of_ble_eq_true rfl, Nat.le_of_ble_eq_true rfl⟩ (Nat.le_of_ble_eq_true rfl) ⟨Nat.zero_le _, Nat.zero_le _⟩ rfl dX12_moves_9 (fun H locs hw => ?_)
      refine lv_icmp_ge (tgt := 36) hx hb dX12_moves_12 (by decide) (fun hc => ?_) (fun hc => ?_)
      · rw [if_pos hc] at h
        refine lv_aload_n hx hb dX12_moves_36 rfl (lv_at hl 0 rfl) ?_
        refine gR (t := 172) hC hw fl_X12_9 ok171 (by decide) ot171_0 dX12_moves_37 ?_
        refine lv_bipush (v := (11 : Int32)) hx hb dX12_moves_40 (by decide) ?_
        refine lv_aload_n hx hb dX12_moves_42 rfl (lv_at hl 0 rfl) ?_
        refine gR (t := 172) hC hw fl_X12_9 ok171 (by decide) ot171_0 dX12_moves_43 ?_
        refine lv_iconst (v := (2 : Int32)) hx hb dX12_moves_46 (by decide) ?_
        refine lI (j := 2) hC hw ok172 on172 (vin (by decide)) (by decide) dX12_moves_47 ?_
        refine lv_iadd hx hb dX12_moves_48 ?_
        refine lv_dup2_11 hx hb dX12_moves_49 rfl rfl ?_
        obtain ⟨hi50, h⟩ := gd_some h
        refine lI (j := ((11 : Int32) + (r9.2.1 172 2)).toNatClampNeg) hC hw ok172 on172 hi50 rfl dX12_moves_50 ?_
        refine lv_aload_n hx hb dX12_moves_51 rfl (lv_at hl 0 rfl) ?_
        refine gI hC hw fl_X12_263 ok171 (by decide) dX12_moves_52 ?_
        refine lv_iadd hx hb dX12_moves_55 ?_
        refine sI (j := ((11 : Int32) + (r9.2.1 172 2)).toNatClampNeg) hC hw ok172 on172 hi50 rfl dX12_moves_56 (fun H locs hw => ?_)
        refine lv_aload_n hx hb dX12_moves_57 rfl (lv_at hl 0 rfl) ?_
        refine gR (t := 172) hC hw fl_X12_9 ok171 (by decide) ot171_0 dX12_moves_58 ?_
        refine lv_iconst (v := (2 : Int32)) hx hb dX12_moves_61 (by decide) ?_
        refine lv_aload_n hx hb dX12_moves_62 rfl (lv_at hl 0 rfl) ?_
        refine gI hC hw fl_X12_284 ok171 (by decide) dX12_moves_63 ?_
        refine sI (j := 2) hC hw ok172 on172 (vin (by decide)) (by decide) dX12_moves_66 (fun H locs hw => ?_)
        refine lv_aload_n hx hb dX12_moves_67 rfl (lv_at hl 0 rfl) ?_
        refine gI hC hw fl_X12_263 ok171 (by decide) dX12_moves_68 ?_
        exact rI hC hw hr hlocks (by rw [← Option.some.inj h]) (by rw [← Option.some.inj h]) dX12_moves_71
      · rw [if_neg hc] at h
        refine lv_aload_n hx hb dX12_moves_15 rfl (lv_at hl 0 rfl) ?_
        refine gR (t := 172) hC hw fl_X12_9 ok171 (by decide) ot171_0 dX12_moves_16 ?_
        refine lv_bipush (v := (13 : Int32)) hx hb dX12_moves_19 (by decide) ?_
        refine lv_iload_n hx hb dX12_moves_21 rfl (lv_at hl 1 rfl) ?_
        refine lv_iadd hx hb dX12_moves_22 ?_
        refine lv_aload_n hx hb dX12_moves_23 rfl (lv_at hl 0 rfl) ?_
        refine gR (t := 178) hC hw fl_X12_33 ok171 (by decide) ot171_17 dX12_moves_24 ?_
        refine lv_iload_n hx hb dX12_moves_27 rfl (lv_at hl 1 rfl) ?_
        obtain ⟨hi28, h⟩ := gd_some h
        refine lI (j := v2.toNatClampNeg) hC hw ok178 on178 hi28 rfl dX12_moves_28 ?_
        obtain ⟨hi29, h⟩ := gd_some h
        refine sI (j := ((13 : Int32) + v2).toNatClampNeg) hC hw ok172 on172 hi29 rfl dX12_moves_29 (fun H locs hw => ?_)
        refine lv_iinc (v := (v2 + (1 : Int32))) (lv' := [(2, .int (v2 + (1 : Int32))), (0, .ref (g.2.2 171))]) hx hb dX12_moves_30 hl (k := 1) rfl rfl (by decide) rfl (fun ls hl => ?_)
        refine lv_goto (tgt := 7) hx hb dX12_moves_33 (by decide) ?_
        exact ih7 (v2 + (1 : Int32)) (si r9.2 172 ((13 : Int32) + v2).toNatClampNeg (r9.2.1 178 v2.toNatClampNeg)) _ _ _ hw (lv_sub hl [1, 0] rfl) h
  refine lv_aload_n hx hb dX12_moves_0 rfl (lv_at hl 0 rfl) ?_
  refine lv_iload_n hx hb dX12_moves_1 rfl (lv_at hl 1 rfl) ?_
  obtain ⟨r2, hr2, h⟩ := bnd h
  refine cV (b := 171) (As := [.int v1]) (rest := []) (st1 := []) hC hw (c_X12_triesFrom l g n v1 μ r2 hr2) ml_X12_302 im_X12_triesFrom se_X12_triesFrom ok171 (CN := RX12) (T := TX12) (NF := 54) rfl rfl (by decide) rfl hl.1 ⟨Nat.le_of_ble_eq_true rfl, Nat.le_of_ble_eq_true rfl⟩ (Nat.le_of_ble_eq_true rfl) ⟨Nat.zero_le _, Nat.zero_le _⟩ rfl dX12_moves_2 (fun H locs hw => ?_)
  refine lv_iconst (v := (0 : Int32)) hx hb dX12_moves_5 (by decide) ?_
  refine lv_istore_n (lv' := [(2, .int (0 : Int32)), (0, .ref (g.2.2 171)), (1, .int v1)]) hx hb dX12_moves_6 rfl hl (by decide) rfl (fun ls hl => ?_)
  exact B7 n (0 : Int32) r2.2 _ _ _ hw (lv_sub hl [1, 0] rfl) h
set_option maxRecDepth 100000 in
set_option maxHeartbeats 4000000 in
theorem c_X12_may (l : Launch) (g : Gw) (n : Nat) (v1 : Int32) (μ : Mu) (r : Int32 × Mu) (h : X12_may n v1 μ = some r) : Ct l g yX12_may cX12_may 2 (some .int) 7 [.ref (g.2.2 171), .int v1] μ (some (.int r.1)) r.2 := by
  rw [X12_may] at h
  refine Ct.of (by decide) (Nat.le_of_ble_eq_true rfl) ?_
  intro p e s m args below meth c ls hC hw hr hlocks hl
  have hx := hC.1
  have hb := hC.2.1
  have hl : lv_has ls 2 [(0, .ref (g.2.2 171)), (1, .int v1)] := hl
  refine lv_aload_n hx hb dX12_may_0 rfl (lv_at hl 0 rfl) ?_
  refine lv_iconst (v := (0 : Int32)) hx hb dX12_may_1 (by decide) ?_
  refine pI hC hw fl_X12_107 fp_12_5 ok171 dX12_may_2 (fun H locs hw => ?_)
  refine lv_aload_n hx hb dX12_may_5 rfl (lv_at hl 0 rfl) ?_
  refine lv_iload_n hx hb dX12_may_6 rfl (lv_at hl 1 rfl) ?_
  obtain ⟨r7, hr7, h⟩ := bnd h
  refine cV (b := 171) (As := [.int v1]) (rest := []) (st1 := [.int r7.1]) hC hw (c_X12_whyNot l g n v1 (si μ 171 5 (0 : Int32)) r7 hr7) ml_X12_311 im_X12_whyNot se_X12_whyNot ok171 (CN := RX12) (T := TX12) (NF := 54) rfl rfl (by decide) rfl hl.1 ⟨Nat.le_of_ble_eq_true rfl, Nat.le_of_ble_eq_true rfl⟩ (Nat.le_of_ble_eq_true rfl) ⟨Nat.zero_le _, Nat.zero_le _⟩ rfl dX12_may_7 (fun H locs hw => ?_)
  exact rI hC hw hr hlocks (by rw [← Option.some.inj h]) (by rw [← Option.some.inj h]) dX12_may_10
set_option maxRecDepth 100000 in
set_option maxHeartbeats 4000000 in
theorem c_X12_sown (l : Launch) (g : Gw) (n : Nat) (v1 : Int32) (v2 : Int32) (μ : Mu) (r : Int32 × Mu) (h : X12_sown n v1 v2 μ = some r) : Ct l g yX12_sown cX12_sown 3 (some .int) 5 [.ref (g.2.2 171), .int v1, .int v2] μ (some (.int r.1)) r.2 := by
  rw [X12_sown] at h
  refine Ct.of (by decide) (Nat.le_of_ble_eq_true rfl) ?_
  intro p e s m args below meth c ls hC hw hr hlocks hl
  have hx := hC.1
  have hb := hC.2.1
  have hl : lv_has ls 3 [(0, .ref (g.2.2 171)), (1, .int v1), (2, .int v2)] := hl
  have B107 : ∀ (s0 : Int32) (μ : Mu) (H : Heap) (locs : List Loc) (ls : Array Slot), wd g μ s (Aw g s.heap.size) H locs → lv_has ls 3 [] → X12_sown_107 n v1 v2 s0 μ = some r → WQ p l e (rmD 5) s m args below meth c g (some (.int r.1)) r.2 H locs (F0 m 107 ls [.int s0]) := by
    intro s0 μ H locs ls hw hl h
    rw [X12_sown_107] at h
    exact rI hC hw hr hlocks (by rw [← Option.some.inj h]) (by rw [← Option.some.inj h]) dX12_sown_107
  refine lv_aload_n hx hb dX12_sown_0 rfl (lv_at hl 0 rfl) ?_
  refine lv_iconst (v := (0 : Int32)) hx hb dX12_sown_1 (by decide) ?_
  refine pI hC hw fl_X12_107 fp_12_5 ok171 dX12_sown_2 (fun H locs hw => ?_)
  refine lv_aload_n hx hb dX12_sown_5 rfl (lv_at hl 0 rfl) ?_
  refine lv_iload_n hx hb dX12_sown_6 rfl (lv_at hl 1 rfl) ?_
  obtain ⟨r7, hr7, h⟩ := bnd h
  refine cV (b := 171) (As := [.int v1]) (rest := []) (st1 := [.int r7.1]) hC hw (c_X12_isFull l g n v1 (si μ 171 5 (0 : Int32)) r7 hr7) ml_X12_299 im_X12_isFull se_X12_isFull ok171 (CN := RX12) (T := TX12) (NF := 54) rfl rfl (by decide) rfl hl.1 ⟨Nat.le_of_ble_eq_true rfl, Nat.le_of_ble_eq_true rfl⟩ (Nat.le_of_ble_eq_true rfl) ⟨Nat.zero_le _, Nat.zero_le _⟩ rfl dX12_sown_7 (fun H locs hw => ?_)
  refine lv_if_ne (tgt := 19) hx hb dX12_sown_10 (by decide) (fun hc => ?_) (fun hc => ?_)
  · rw [if_neg hc] at h
    refine lv_aload_n hx hb dX12_sown_19 rfl (lv_at hl 0 rfl) ?_
    refine lv_iload_n hx hb dX12_sown_20 rfl (lv_at hl 1 rfl) ?_
    obtain ⟨r21, hr21, h⟩ := bnd h
    refine cV (b := 171) (As := [.int v1]) (rest := []) (st1 := []) hC hw (c_X12_triesFrom l g n v1 r7.2 r21 hr21) ml_X12_302 im_X12_triesFrom se_X12_triesFrom ok171 (CN := RX12) (T := TX12) (NF := 54) rfl rfl (by decide) rfl hl.1 ⟨Nat.le_of_ble_eq_true rfl, Nat.le_of_ble_eq_true rfl⟩ (Nat.le_of_ble_eq_true rfl) ⟨Nat.zero_le _, Nat.zero_le _⟩ rfl dX12_sown_21 (fun H locs hw => ?_)
    refine lv_aload_n hx hb dX12_sown_24 rfl (lv_at hl 0 rfl) ?_
    refine gI hC hw fl_X12_269 ok171 (by decide) dX12_sown_25 ?_
    refine lv_if_eq (tgt := 37) hx hb dX12_sown_28 (by decide) (fun hc => ?_) (fun hc => ?_)
    · rw [if_pos hc] at h
      refine lv_iload_n hx hb dX12_sown_37 rfl (lv_at hl 2 rfl) ?_
      refine lv_i2l hx hb dX12_sown_38 rfl ?_
      refine lv_lconst (v := (0 : Int64)) hx hb dX12_sown_39 (by decide) ?_
      refine lv_ldc2 (v := (3 : Int64)) hx hb hC.2.2.2.1 (hC.2.2.2.2.1 _ cl_X12_314) dX12_sown_40 ?_
      obtain ⟨r43, hr43, h⟩ := bnd h
      refine cS (As := [.long (v2.toInt64), .long (0 : Int64), .long (3 : Int64)]) (rest := []) (st1 := [.int r43.1]) hC hw (c_X12_within l g n (v2.toInt64) (0 : Int64) (3 : Int64) r21.2 r43 hr43) ml_X12_166 st_X12_within rfl hl.1 ⟨Nat.le_of_ble_eq_true rfl, Nat.le_of_ble_eq_true rfl⟩ (Nat.le_of_ble_eq_true rfl) ⟨Nat.zero_le _, Nat.zero_le _⟩ rfl dX12_sown_43 (fun H locs hw => ?_)
      refine lv_if_ne (tgt := 55) hx hb dX12_sown_46 (by decide) (fun hc => ?_) (fun hc => ?_)
      · rw [if_neg hc] at h
        refine lv_iload_n hx hb dX12_sown_55 rfl (lv_at hl 2 rfl) ?_
        refine lv_if_ne (tgt := 79) hx hb dX12_sown_56 (by decide) (fun hc => ?_) (fun hc => ?_)
        · rw [if_neg hc] at h
          refine lv_iload_n hx hb dX12_sown_79 rfl (lv_at hl 2 rfl) ?_
          refine lv_iconst (v := (1 : Int32)) hx hb dX12_sown_80 (by decide) ?_
          refine lv_icmp_ne (tgt := 91) hx hb dX12_sown_81 (by decide) (fun hc => ?_) (fun hc => ?_)
          · rw [if_neg hc] at h
            refine lv_iload_n hx hb dX12_sown_91 rfl (lv_at hl 2 rfl) ?_
            refine lv_iconst (v := (2 : Int32)) hx hb dX12_sown_92 (by decide) ?_
            refine lv_icmp_ne (tgt := 103) hx hb dX12_sown_93 (by decide) (fun hc => ?_) (fun hc => ?_)
            · rw [if_neg hc] at h
              refine lv_aload_n hx hb dX12_sown_103 rfl (lv_at hl 0 rfl) ?_
              refine gI hC hw fl_X12_284 ok171 (by decide) dX12_sown_104 ?_
              exact B107 (r43.2.1 171 22) r43.2 _ _ _ hw (lv_sub hl [] rfl) h
            · rw [if_pos hc] at h
              refine lv_aload_n hx hb dX12_sown_96 rfl (lv_at hl 0 rfl) ?_
              refine gI hC hw fl_X12_266 ok171 (by decide) dX12_sown_97 ?_
              refine lv_goto (tgt := 107) hx hb dX12_sown_100 (by decide) ?_
              exact B107 (r43.2.1 171 20) r43.2 _ _ _ hw (lv_sub hl [] rfl) h
          · rw [if_pos hc] at h
            refine lv_aload_n hx hb dX12_sown_84 rfl (lv_at hl 0 rfl) ?_
            refine gI hC hw fl_X12_260 ok171 (by decide) dX12_sown_85 ?_
            refine lv_goto (tgt := 107) hx hb dX12_sown_88 (by decide) ?_
            exact B107 (r43.2.1 171 19) r43.2 _ _ _ hw (lv_sub hl [] rfl) h
        · rw [if_pos hc] at h
          refine lv_aload_n hx hb dX12_sown_59 rfl (lv_at hl 0 rfl) ?_
          refine gI hC hw fl_X12_277 ok171 (by decide) dX12_sown_60 ?_
          refine lv_bipush (v := (100 : Int32)) hx hb dX12_sown_63 (by decide) ?_
          refine lv_icmp_ne (tgt := 72) hx hb dX12_sown_65 (by decide) (fun hc => ?_) (fun hc => ?_)
          · rw [if_neg hc] at h
            refine lv_aload_n hx hb dX12_sown_72 rfl (lv_at hl 0 rfl) ?_
            refine gI hC hw fl_X12_277 ok171 (by decide) dX12_sown_73 ?_
            refine lv_goto (tgt := 107) hx hb dX12_sown_76 (by decide) ?_
            exact B107 (r43.2.1 171 18) r43.2 _ _ _ hw (lv_sub hl [] rfl) h
          · rw [if_pos hc] at h
            refine lv_iconst (v := ((-1) : Int32)) hx hb dX12_sown_68 (by decide) ?_
            refine lv_goto (tgt := 107) hx hb dX12_sown_69 (by decide) ?_
            exact B107 ((-1) : Int32) r43.2 _ _ _ hw (lv_sub hl [] rfl) h
      · rw [if_pos hc] at h
        refine lv_aload_n hx hb dX12_sown_49 rfl (lv_at hl 0 rfl) ?_
        refine lv_iconst (v := (3 : Int32)) hx hb dX12_sown_50 (by decide) ?_
        obtain ⟨r51, hr51, h⟩ := bnd h
        refine cV (b := 171) (As := [.int (3 : Int32)]) (rest := []) (st1 := [.int r51.1]) hC hw (c_X12_fails l g n (3 : Int32) r43.2 r51 hr51) ml_X12_221 im_X12_fails se_X12_fails ok171 (CN := RX12) (T := TX12) (NF := 54) rfl rfl (by decide) rfl hl.1 ⟨Nat.le_of_ble_eq_true rfl, Nat.le_of_ble_eq_true rfl⟩ (Nat.le_of_ble_eq_true rfl) ⟨Nat.zero_le _, Nat.zero_le _⟩ rfl dX12_sown_51 (fun H locs hw => ?_)
        exact rI hC hw hr hlocks (by rw [← Option.some.inj h]) (by rw [← Option.some.inj h]) dX12_sown_54
    · rw [if_neg hc] at h
      refine lv_aload_n hx hb dX12_sown_31 rfl (lv_at hl 0 rfl) ?_
      refine lv_iconst (v := (2 : Int32)) hx hb dX12_sown_32 (by decide) ?_
      obtain ⟨r33, hr33, h⟩ := bnd h
      refine cV (b := 171) (As := [.int (2 : Int32)]) (rest := []) (st1 := [.int r33.1]) hC hw (c_X12_fails l g n (2 : Int32) r21.2 r33 hr33) ml_X12_221 im_X12_fails se_X12_fails ok171 (CN := RX12) (T := TX12) (NF := 54) rfl rfl (by decide) rfl hl.1 ⟨Nat.le_of_ble_eq_true rfl, Nat.le_of_ble_eq_true rfl⟩ (Nat.le_of_ble_eq_true rfl) ⟨Nat.zero_le _, Nat.zero_le _⟩ rfl dX12_sown_33 (fun H locs hw => ?_)
      exact rI hC hw hr hlocks (by rw [← Option.some.inj h]) (by rw [← Option.some.inj h]) dX12_sown_36
  · rw [if_pos hc] at h
    refine lv_aload_n hx hb dX12_sown_13 rfl (lv_at hl 0 rfl) ?_
    refine lv_iconst (v := (1 : Int32)) hx hb dX12_sown_14 (by decide) ?_
    obtain ⟨r15, hr15, h⟩ := bnd h
    refine cV (b := 171) (As := [.int (1 : Int32)]) (rest := []) (st1 := [.int r15.1]) hC hw (c_X12_fails l g n (1 : Int32) r7.2 r15 hr15) ml_X12_221 im_X12_fails se_X12_fails ok171 (CN := RX12) (T := TX12) (NF := 54) rfl rfl (by decide) rfl hl.1 ⟨Nat.le_of_ble_eq_true rfl, Nat.le_of_ble_eq_true rfl⟩ (Nat.le_of_ble_eq_true rfl) ⟨Nat.zero_le _, Nat.zero_le _⟩ rfl dX12_sown_15 (fun H locs hw => ?_)
    exact rI hC hw hr hlocks (by rw [← Option.some.inj h]) (by rw [← Option.some.inj h]) dX12_sown_18
set_option maxRecDepth 100000 in
set_option maxHeartbeats 4000000 in
theorem c_X12_over (l : Launch) (g : Gw) (n : Nat) (μ : Mu) (r : Int32 × Mu) (h : X12_over n  μ = some r) : Ct l g yX12_over cX12_over 1 (some .boolean) 6 [.ref (g.2.2 171)] μ (some (.int r.1)) r.2 := by
  rw [X12_over] at h
  refine Ct.of (by decide) (Nat.le_of_ble_eq_true rfl) ?_
  intro p e s m args below meth c ls hC hw hr hlocks hl
  have hx := hC.1
  have hb := hC.2.1
  have hl : lv_has ls 1 [(0, .ref (g.2.2 171))] := hl
  refine lv_aload_n hx hb dX12_over_0 rfl (lv_at hl 0 rfl) ?_
  refine lv_iconst (v := (0 : Int32)) hx hb dX12_over_1 (by decide) ?_
  refine pI hC hw fl_X12_107 fp_12_5 ok171 dX12_over_2 (fun H locs hw => ?_)
  refine lv_aload_n hx hb dX12_over_5 rfl (lv_at hl 0 rfl) ?_
  obtain ⟨r6, hr6, h⟩ := bnd h
  refine cV (b := 171) (As := []) (rest := []) (st1 := [.int r6.1]) hC hw (c_X12_isOver l g n (si μ 171 5 (0 : Int32)) r6 hr6) ml_X12_305 im_X12_isOver se_X12_isOver ok171 (CN := RX12) (T := TX12) (NF := 54) rfl rfl (by decide) rfl hl.1 ⟨Nat.le_of_ble_eq_true rfl, Nat.le_of_ble_eq_true rfl⟩ (Nat.le_of_ble_eq_true rfl) ⟨Nat.zero_le _, Nat.zero_le _⟩ rfl dX12_over_6 (fun H locs hw => ?_)
  obtain ⟨hz9, h⟩ := bz_some h
  exact rZ hC hw hr hlocks hz9 (by rw [← Option.some.inj h]) (by rw [← Option.some.inj h]) dX12_over_9
set_option maxRecDepth 100000 in
set_option maxHeartbeats 4000000 in
theorem c_X12_scoreNow (l : Launch) (g : Gw) (n : Nat) (μ : Mu) (r : Int32 × Mu) (h : X12_scoreNow n  μ = some r) : Ct l g yX12_scoreNow cX12_scoreNow 3 (some .int) 6 [.ref (g.2.2 171)] μ (some (.int r.1)) r.2 := by
  rw [X12_scoreNow] at h
  refine Ct.of (by decide) (Nat.le_of_ble_eq_true rfl) ?_
  intro p e s m args below meth c ls hC hw hr hlocks hl
  have hx := hC.1
  have hb := hC.2.1
  have hl : lv_has ls 3 [(0, .ref (g.2.2 171))] := hl
  have B27 : ∀ (k : Nat), ∀ (v1 : Int32) (v2 : Int32) (μ : Mu) (H : Heap) (locs : List Loc) (ls : Array Slot), wd g μ s (Aw g s.heap.size) H locs → lv_has ls 3 [(0, .ref (g.2.2 171)), (1, .int v1), (2, .int v2)] → lpF (fun _ _ _ => none) (X12_scoreNow_27b n) k v1 v2 μ = some r → WQ p l e (rmD 6) s m args below meth c g (some (.int r.1)) r.2 H locs (F0 m 27 ls []) := by
    intro k
    induction k with
    | zero =>
      intro v1 v2 μ H locs ls hw hl h
      cases h
    | succ k ih27 =>
      rw [lpF_s]
      generalize lpF (fun _ _ _ => none) (X12_scoreNow_27b n) k = k27 at ih27 ⊢
      intro v1 v2 μ H locs ls hw hl h
      have B66 : ∀ (v2 : Int32) (s0 : Int32) (s1 : Int32) (μ : Mu) (H : Heap) (locs : List Loc) (ls : Array Slot), wd g μ s (Aw g s.heap.size) H locs → lv_has ls 3 [(0, .ref (g.2.2 171)), (2, .int v2)] → X12_scoreNow_66 n k27 v2 s0 s1 μ = some r → WQ p l e (rmD 6) s m args below meth c g (some (.int r.1)) r.2 H locs (F0 m 66 ls [.int s1, .int s0]) := by
        intro v2 s0 s1 μ H locs ls hw hl h
        rw [X12_scoreNow_66] at h
        refine lv_iadd hx hb dX12_scoreNow_66 ?_
        refine lv_istore_n (lv' := [(1, .int (s0 + s1)), (0, .ref (g.2.2 171)), (2, .int v2)]) hx hb dX12_scoreNow_67 rfl hl (by decide) rfl (fun ls hl => ?_)
        refine lv_iinc (v := (v2 + (1 : Int32))) (lv' := [(2, .int (v2 + (1 : Int32))), (1, .int (s0 + s1)), (0, .ref (g.2.2 171))]) hx hb dX12_scoreNow_68 hl (k := 2) rfl rfl (by decide) rfl (fun ls hl => ?_)
        refine lv_goto (tgt := 27) hx hb dX12_scoreNow_71 (by decide) ?_
        exact ih27 (s0 + s1) (v2 + (1 : Int32)) μ _ _ _ hw (lv_sub hl [2, 1, 0] rfl) h
      rw [X12_scoreNow_27b] at h
      refine lv_iload_n hx hb dX12_scoreNow_27 rfl (lv_at hl 2 rfl) ?_
      refine lv_aload_n hx hb dX12_scoreNow_28 rfl (lv_at hl 0 rfl) ?_
      obtain ⟨r29, hr29, h⟩ := bnd h
      refine cV (b := 171) (As := []) (rest := [.int v2]) (st1 := [.int r29.1, .int v2]) hC hw (c_X12_pitMany l g n μ r29 hr29) ml_X12_245 im_X12_pitMany se_X12_pitMany ok171 (CN := RX12) (T := TX12) (NF := 54) rfl rfl (by decide) rfl hl.1 ⟨Nat.le_of_ble_eq_true rfl, Nat.le_of_ble_eq_true rfl⟩ (Nat.le_of_ble_eq_true rfl) ⟨Nat.zero_le _, Nat.zero_le _⟩ rfl dX12_scoreNow_29 (fun H locs hw => ?_)
      refine lv_icmp_ge (tgt := 74) hx hb dX12_scoreNow_32 (by decide) (fun hc => ?_) (fun hc => ?_)
      · rw [if_pos hc] at h
        refine lv_iload_n hx hb dX12_scoreNow_74 rfl (lv_at hl 1 rfl) ?_
        exact rI hC hw hr hlocks (by rw [← Option.some.inj h]) (by rw [← Option.some.inj h]) dX12_scoreNow_75
      · rw [if_neg hc] at h
        refine lv_iload_n hx hb dX12_scoreNow_35 rfl (lv_at hl 1 rfl) ?_
        refine lv_aload_n hx hb dX12_scoreNow_36 rfl (lv_at hl 0 rfl) ?_
        refine lv_iload_n hx hb dX12_scoreNow_37 rfl (lv_at hl 2 rfl) ?_
        obtain ⟨r38, hr38, h⟩ := bnd h
        refine cV (b := 171) (As := [.int v2]) (rest := [.int v1]) (st1 := [.int r38.1, .int v1]) hC hw (c_X12_sideOf l g n v2 r29.2 r38 hr38) ml_X12_257 im_X12_sideOf se_X12_sideOf ok171 (CN := RX12) (T := TX12) (NF := 54) rfl rfl (by decide) rfl hl.1 ⟨Nat.le_of_ble_eq_true rfl, Nat.le_of_ble_eq_true rfl⟩ (Nat.le_of_ble_eq_true rfl) ⟨Nat.zero_le _, Nat.zero_le _⟩ rfl dX12_scoreNow_38 (fun H locs hw => ?_)
        refine lv_if_ne (tgt := 56) hx hb dX12_scoreNow_41 (by decide) (fun hc => ?_) (fun hc => ?_)
        · rw [if_neg hc] at h
          refine lv_aload_n hx hb dX12_scoreNow_56 rfl (lv_at hl 0 rfl) ?_
          refine gR (t := 172) hC hw fl_X12_9 ok171 (by decide) ot171_0 dX12_scoreNow_57 ?_
          refine lv_bipush (v := (13 : Int32)) hx hb dX12_scoreNow_60 (by decide) ?_
          refine lv_iload_n hx hb dX12_scoreNow_62 rfl (lv_at hl 2 rfl) ?_
          refine lv_iadd hx hb dX12_scoreNow_63 ?_
          obtain ⟨hi64, h⟩ := gd_some h
          refine lI (j := ((13 : Int32) + v2).toNatClampNeg) hC hw ok172 on172 hi64 rfl dX12_scoreNow_64 ?_
          refine lv_ineg hx hb dX12_scoreNow_65 ?_
          exact B66 v2 v1 (-(r38.2.1 172 ((13 : Int32) + v2).toNatClampNeg)) r38.2 _ _ _ hw (lv_sub hl [0, 2] rfl) h
        · rw [if_pos hc] at h
          refine lv_aload_n hx hb dX12_scoreNow_44 rfl (lv_at hl 0 rfl) ?_
          refine gR (t := 172) hC hw fl_X12_9 ok171 (by decide) ot171_0 dX12_scoreNow_45 ?_
          refine lv_bipush (v := (13 : Int32)) hx hb dX12_scoreNow_48 (by decide) ?_
          refine lv_iload_n hx hb dX12_scoreNow_50 rfl (lv_at hl 2 rfl) ?_
          refine lv_iadd hx hb dX12_scoreNow_51 ?_
          obtain ⟨hi52, h⟩ := gd_some h
          refine lI (j := ((13 : Int32) + v2).toNatClampNeg) hC hw ok172 on172 hi52 rfl dX12_scoreNow_52 ?_
          refine lv_goto (tgt := 66) hx hb dX12_scoreNow_53 (by decide) ?_
          exact B66 v2 v1 (r38.2.1 172 ((13 : Int32) + v2).toNatClampNeg) r38.2 _ _ _ hw (lv_sub hl [0, 2] rfl) h
  refine lv_aload_n hx hb dX12_scoreNow_0 rfl (lv_at hl 0 rfl) ?_
  refine gR (t := 172) hC hw fl_X12_9 ok171 (by decide) ot171_0 dX12_scoreNow_1 ?_
  refine lv_bipush (v := (11 : Int32)) hx hb dX12_scoreNow_4 (by decide) ?_
  refine lI (j := 11) hC hw ok172 on172 (vin (by decide)) (by decide) dX12_scoreNow_6 ?_
  refine lv_aload_n hx hb dX12_scoreNow_7 rfl (lv_at hl 0 rfl) ?_
  refine gR (t := 172) hC hw fl_X12_9 ok171 (by decide) ot171_0 dX12_scoreNow_8 ?_
  refine lv_bipush (v := (12 : Int32)) hx hb dX12_scoreNow_11 (by decide) ?_
  refine lI (j := 12) hC hw ok172 on172 (vin (by decide)) (by decide) dX12_scoreNow_13 ?_
  refine lv_isub hx hb dX12_scoreNow_14 ?_
  refine lv_istore_n (lv' := [(1, .int ((μ.1 172 11) - (μ.1 172 12))), (0, .ref (g.2.2 171))]) hx hb dX12_scoreNow_15 rfl hl (by decide) rfl (fun ls hl => ?_)
  refine lv_aload_n hx hb dX12_scoreNow_16 rfl (lv_at hl 1 rfl) ?_
  obtain ⟨r17, hr17, h⟩ := bnd h
  refine cV (b := 171) (As := []) (rest := []) (st1 := [.int r17.1]) hC hw (c_X12_isOver l g n μ r17 hr17) ml_X12_305 im_X12_isOver se_X12_isOver ok171 (CN := RX12) (T := TX12) (NF := 54) rfl rfl (by decide) rfl hl.1 ⟨Nat.le_of_ble_eq_true rfl, Nat.le_of_ble_eq_true rfl⟩ (Nat.le_of_ble_eq_true rfl) ⟨Nat.zero_le _, Nat.zero_le _⟩ rfl dX12_scoreNow_17 (fun H locs hw => ?_)
  refine lv_if_ne (tgt := 25) hx hb dX12_scoreNow_20 (by decide) (fun hc => ?_) (fun hc => ?_)
  · rw [if_neg hc] at h
    refine lv_iconst (v := (0 : Int32)) hx hb dX12_scoreNow_25 (by decide) ?_
    refine lv_istore_n (lv' := [(2, .int (0 : Int32)), (1, .int ((μ.1 172 11) - (μ.1 172 12))), (0, .ref (g.2.2 171))]) hx hb dX12_scoreNow_26 rfl hl (by decide) rfl (fun ls hl => ?_)
    exact B27 n ((μ.1 172 11) - (μ.1 172 12)) (0 : Int32) r17.2 _ _ _ hw (lv_sub hl [2, 1, 0] rfl) h
  · rw [if_pos hc] at h
    refine lv_iload_n hx hb dX12_scoreNow_23 rfl (lv_at hl 0 rfl) ?_
    exact rI hC hw hr hlocks (by rw [← Option.some.inj h]) (by rw [← Option.some.inj h]) dX12_scoreNow_24
set_option maxRecDepth 100000 in
set_option maxHeartbeats 4000000 in
theorem c_X12_score (l : Launch) (g : Gw) (n : Nat) (μ : Mu) (r : Int32 × Mu) (h : X12_score n  μ = some r) : Ct l g yX12_score cX12_score 1 (some .int) 7 [.ref (g.2.2 171)] μ (some (.int r.1)) r.2 := by
  rw [X12_score] at h
  refine Ct.of (by decide) (Nat.le_of_ble_eq_true rfl) ?_
  intro p e s m args below meth c ls hC hw hr hlocks hl
  have hx := hC.1
  have hb := hC.2.1
  have hl : lv_has ls 1 [(0, .ref (g.2.2 171))] := hl
  refine lv_aload_n hx hb dX12_score_0 rfl (lv_at hl 0 rfl) ?_
  refine lv_iconst (v := (0 : Int32)) hx hb dX12_score_1 (by decide) ?_
  refine pI hC hw fl_X12_107 fp_12_5 ok171 dX12_score_2 (fun H locs hw => ?_)
  refine lv_aload_n hx hb dX12_score_5 rfl (lv_at hl 0 rfl) ?_
  obtain ⟨r6, hr6, h⟩ := bnd h
  refine cV (b := 171) (As := []) (rest := []) (st1 := [.int r6.1]) hC hw (c_X12_scoreNow l g n (si μ 171 5 (0 : Int32)) r6 hr6) ml_X12_316 im_X12_scoreNow se_X12_scoreNow ok171 (CN := RX12) (T := TX12) (NF := 54) rfl rfl (by decide) rfl hl.1 ⟨Nat.le_of_ble_eq_true rfl, Nat.le_of_ble_eq_true rfl⟩ (Nat.le_of_ble_eq_true rfl) ⟨Nat.zero_le _, Nat.zero_le _⟩ rfl dX12_score_6 (fun H locs hw => ?_)
  exact rI hC hw hr hlocks (by rw [← Option.some.inj h]) (by rw [← Option.some.inj h]) dX12_score_9
set_option maxRecDepth 100000 in
set_option maxHeartbeats 4000000 in
theorem c_X12_does (l : Launch) (g : Gw) (n : Nat) (v1 : Int32) (μ : Mu) (r : Int32 × Mu) (h : X12_does n v1 μ = some r) : Ct l g yX12_does cX12_does 2 (some .int) 6 [.ref (g.2.2 171), .int v1] μ (some (.int r.1)) r.2 := by
  rw [X12_does] at h
  refine Ct.of (by decide) (Nat.le_of_ble_eq_true rfl) ?_
  intro p e s m args below meth c ls hC hw hr hlocks hl
  have hx := hC.1
  have hb := hC.2.1
  have hl : lv_has ls 2 [(0, .ref (g.2.2 171)), (1, .int v1)] := hl
  refine lv_aload_n hx hb dX12_does_0 rfl (lv_at hl 0 rfl) ?_
  refine lv_iload_n hx hb dX12_does_1 rfl (lv_at hl 1 rfl) ?_
  obtain ⟨r2, hr2, h⟩ := bnd h
  refine cV (b := 171) (As := [.int v1]) (rest := []) (st1 := []) hC hw (c_X12_keeps l g n v1 μ r2 hr2) ml_X12_323 im_X12_keeps se_X12_keeps ok171 (CN := RX12) (T := TX12) (NF := 54) rfl rfl (by decide) rfl hl.1 ⟨Nat.le_of_ble_eq_true rfl, Nat.le_of_ble_eq_true rfl⟩ (Nat.le_of_ble_eq_true rfl) ⟨Nat.zero_le _, Nat.zero_le _⟩ rfl dX12_does_2 (fun H locs hw => ?_)
  refine lv_aload_n hx hb dX12_does_5 rfl (lv_at hl 0 rfl) ?_
  refine lv_iconst (v := (0 : Int32)) hx hb dX12_does_6 (by decide) ?_
  refine pI hC hw fl_X12_242 fp_12_29 ok171 dX12_does_7 (fun H locs hw => ?_)
  refine lv_aload_n hx hb dX12_does_10 rfl (lv_at hl 0 rfl) ?_
  refine lv_iload_n hx hb dX12_does_11 rfl (lv_at hl 1 rfl) ?_
  obtain ⟨r12, hr12, h⟩ := bnd h
  refine cV (b := 171) (As := [.int v1]) (rest := []) (st1 := [.int r12.1]) hC hw (c_X12_moves l g n v1 (si r2.2 171 29 (0 : Int32)) r12 hr12) ml_X12_326 im_X12_moves se_X12_moves ok171 (CN := RX12) (T := TX12) (NF := 54) rfl rfl (by decide) rfl hl.1 ⟨Nat.le_of_ble_eq_true rfl, Nat.le_of_ble_eq_true rfl⟩ (Nat.le_of_ble_eq_true rfl) ⟨Nat.zero_le _, Nat.zero_le _⟩ rfl dX12_does_12 (fun H locs hw => ?_)
  exact rI hC hw hr hlocks (by rw [← Option.some.inj h]) (by rw [← Option.some.inj h]) dX12_does_15
set_option maxRecDepth 100000 in
set_option maxHeartbeats 4000000 in
theorem c_X12_move (l : Launch) (g : Gw) (n : Nat) (v1 : Int32) (μ : Mu) (r : Int32 × Mu) (h : X12_move n v1 μ = some r) : Ct l g yX12_move cX12_move 3 (some .int) 7 [.ref (g.2.2 171), .int v1] μ (some (.int r.1)) r.2 := by
  rw [X12_move] at h
  refine Ct.of (by decide) (Nat.le_of_ble_eq_true rfl) ?_
  intro p e s m args below meth c ls hC hw hr hlocks hl
  have hx := hC.1
  have hb := hC.2.1
  have hl : lv_has ls 3 [(0, .ref (g.2.2 171)), (1, .int v1)] := hl
  have B25 : ∀ (s0 : Int32) (μ : Mu) (H : Heap) (locs : List Loc) (ls : Array Slot), wd g μ s (Aw g s.heap.size) H locs → lv_has ls 3 [] → X12_move_25 n v1 s0 μ = some r → WQ p l e (rmD 7) s m args below meth c g (some (.int r.1)) r.2 H locs (F0 m 25 ls [.int s0]) := by
    intro s0 μ H locs ls hw hl h
    rw [X12_move_25] at h
    exact rI hC hw hr hlocks (by rw [← Option.some.inj h]) (by rw [← Option.some.inj h]) dX12_move_25
  refine lv_aload_n hx hb dX12_move_0 rfl (lv_at hl 0 rfl) ?_
  refine lv_iconst (v := (0 : Int32)) hx hb dX12_move_1 (by decide) ?_
  refine pI hC hw fl_X12_107 fp_12_5 ok171 dX12_move_2 (fun H locs hw => ?_)
  refine lv_aload_n hx hb dX12_move_5 rfl (lv_at hl 0 rfl) ?_
  refine lv_iload_n hx hb dX12_move_6 rfl (lv_at hl 1 rfl) ?_
  obtain ⟨r7, hr7, h⟩ := bnd h
  refine cV (b := 171) (As := [.int v1]) (rest := []) (st1 := [.int r7.1]) hC hw (c_X12_whyNot l g n v1 (si μ 171 5 (0 : Int32)) r7 hr7) ml_X12_311 im_X12_whyNot se_X12_whyNot ok171 (CN := RX12) (T := TX12) (NF := 54) rfl rfl (by decide) rfl hl.1 ⟨Nat.le_of_ble_eq_true rfl, Nat.le_of_ble_eq_true rfl⟩ (Nat.le_of_ble_eq_true rfl) ⟨Nat.zero_le _, Nat.zero_le _⟩ rfl dX12_move_7 (fun H locs hw => ?_)
  refine lv_istore_n (lv' := [(2, .int r7.1), (0, .ref (g.2.2 171)), (1, .int v1)]) hx hb dX12_move_10 rfl hl (by decide) rfl (fun ls hl => ?_)
  refine lv_iload_n hx hb dX12_move_11 rfl (lv_at hl 0 rfl) ?_
  refine lv_if_ne (tgt := 23) hx hb dX12_move_12 (by decide) (fun hc => ?_) (fun hc => ?_)
  · rw [if_neg hc] at h
    refine lv_iload_n hx hb dX12_move_23 rfl (lv_at hl 0 rfl) ?_
    refine lv_ineg hx hb dX12_move_24 ?_
    exact B25 (-r7.1) r7.2 _ _ _ hw (lv_sub hl [] rfl) h
  · rw [if_pos hc] at h
    refine lv_aload_n hx hb dX12_move_15 rfl (lv_at hl 1 rfl) ?_
    refine lv_iload_n hx hb dX12_move_16 rfl (lv_at hl 2 rfl) ?_
    obtain ⟨r17, hr17, h⟩ := bnd h
    refine cV (b := 171) (As := [.int v1]) (rest := []) (st1 := [.int r17.1]) hC hw (c_X12_does l g n v1 r7.2 r17 hr17) ml_X12_329 im_X12_does se_X12_does ok171 (CN := RX12) (T := TX12) (NF := 54) rfl rfl (by decide) rfl hl.1 ⟨Nat.le_of_ble_eq_true rfl, Nat.le_of_ble_eq_true rfl⟩ (Nat.le_of_ble_eq_true rfl) ⟨Nat.zero_le _, Nat.zero_le _⟩ rfl dX12_move_17 (fun H locs hw => ?_)
    refine lv_goto (tgt := 25) hx hb dX12_move_20 (by decide) ?_
    exact B25 r17.1 r17.2 _ _ _ hw (lv_sub hl [] rfl) h
set_option maxRecDepth 100000 in
set_option maxHeartbeats 4000000 in
theorem c_X12_whyTold (l : Launch) (g : Gw) (n : Nat) (v1 : Int64) (μ : Mu) (r : Int32 × Mu) (h : X12_whyTold n v1 μ = some r) : Ct l g yX12_whyTold cX12_whyTold 3 (some .int) 7 [.ref (g.2.2 171), .long v1] μ (some (.int r.1)) r.2 := by
  rw [X12_whyTold] at h
  refine Ct.of (by decide) (Nat.le_of_ble_eq_true rfl) ?_
  intro p e s m args below meth c ls hC hw hr hlocks hl
  have hx := hC.1
  have hb := hC.2.1
  have hl : lv_has ls 3 [(0, .ref (g.2.2 171)), (1, .long v1)] := hl
  have B18 : ∀ (s1 : Int32) (μ : Mu) (H : Heap) (locs : List Loc) (ls : Array Slot), wd g μ s (Aw g s.heap.size) H locs → lv_has ls 3 [] → X12_whyTold_18 n v1 s1 μ = some r → WQ p l e (rmD 7) s m args below meth c g (some (.int r.1)) r.2 H locs (F0 m 18 ls [.int s1, .ref (g.2.2 171)]) := by
    intro s1 μ H locs ls hw hl h
    rw [X12_whyTold_18] at h
    obtain ⟨r18, hr18, h⟩ := bnd h
    refine cV (b := 171) (As := [.int s1]) (rest := []) (st1 := [.int r18.1]) hC hw (c_X12_whyNot l g n s1 μ r18 hr18) ml_X12_311 im_X12_whyNot se_X12_whyNot ok171 (CN := RX12) (T := TX12) (NF := 54) rfl rfl (by decide) rfl hl.1 ⟨Nat.le_of_ble_eq_true rfl, Nat.le_of_ble_eq_true rfl⟩ (Nat.le_of_ble_eq_true rfl) ⟨Nat.zero_le _, Nat.zero_le _⟩ rfl dX12_whyTold_18 (fun H locs hw => ?_)
    exact rI hC hw hr hlocks (by rw [← Option.some.inj h]) (by rw [← Option.some.inj h]) dX12_whyTold_21
  refine lv_aload_n hx hb dX12_whyTold_0 rfl (lv_at hl 0 rfl) ?_
  refine lv_lload_n hx hb dX12_whyTold_1 rfl (lv_at hl 1 rfl) ?_
  refine lv_lconst (v := (0 : Int64)) hx hb dX12_whyTold_2 (by decide) ?_
  refine lv_ldc2 (v := (12 : Int64)) hx hb hC.2.2.2.1 (hC.2.2.2.2.1 _ cl_X12_338) dX12_whyTold_3 ?_
  obtain ⟨r6, hr6, h⟩ := bnd h
  refine cS (As := [.long v1, .long (0 : Int64), .long (12 : Int64)]) (rest := [.ref (g.2.2 171)]) (st1 := [.int r6.1, .ref (g.2.2 171)]) hC hw (c_X12_within l g n v1 (0 : Int64) (12 : Int64) μ r6 hr6) ml_X12_166 st_X12_within rfl hl.1 ⟨Nat.le_of_ble_eq_true rfl, Nat.le_of_ble_eq_true rfl⟩ (Nat.le_of_ble_eq_true rfl) ⟨Nat.zero_le _, Nat.zero_le _⟩ rfl dX12_whyTold_6 (fun H locs hw => ?_)
  refine lv_if_eq (tgt := 17) hx hb dX12_whyTold_9 (by decide) (fun hc => ?_) (fun hc => ?_)
  · rw [if_pos hc] at h
    refine lv_iconst (v := ((-1) : Int32)) hx hb dX12_whyTold_17 (by decide) ?_
    exact B18 ((-1) : Int32) r6.2 _ _ _ hw (lv_sub hl [] rfl) h
  · rw [if_neg hc] at h
    refine lv_lload_n hx hb dX12_whyTold_12 rfl (lv_at hl 1 rfl) ?_
    refine lv_l2i hx hb dX12_whyTold_13 rfl ?_
    refine lv_goto (tgt := 18) hx hb dX12_whyTold_14 (by decide) ?_
    exact B18 (v1.toInt32) r6.2 _ _ _ hw (lv_sub hl [] rfl) h
set_option maxRecDepth 100000 in
set_option maxHeartbeats 4000000 in
theorem c_X12_judge (l : Launch) (g : Gw) (n : Nat) (v1 : Int32) (v2 : Int32) (μ : Mu) (r : Int32 × Mu) (h : X12_judge n v1 v2 μ = some r) : Ct l g yX12_judge cX12_judge 7 (some .int) 8 [.ref (g.2.2 171), .int v1, .int v2] μ (some (.int r.1)) r.2 := by
  rw [X12_judge] at h
  refine Ct.of (by decide) (Nat.le_of_ble_eq_true rfl) ?_
  intro p e s m args below meth c ls hC hw hr hlocks hl
  have hx := hC.1
  have hb := hC.2.1
  have hl : lv_has ls 7 [(0, .ref (g.2.2 171)), (1, .int v1), (2, .int v2)] := hl
  have B182 : ∀ (s0 : Int32) (μ : Mu) (H : Heap) (locs : List Loc) (ls : Array Slot), wd g μ s (Aw g s.heap.size) H locs → lv_has ls 7 [] → X12_judge_182 n v1 v2 s0 μ = some r → WQ p l e (rmD 8) s m args below meth c g (some (.int r.1)) r.2 H locs (F0 m 182 ls [.int s0]) := by
    intro s0 μ H locs ls hw hl h
    rw [X12_judge_182] at h
    exact rI hC hw hr hlocks (by rw [← Option.some.inj h]) (by rw [← Option.some.inj h]) dX12_judge_182
  have B118 : ∀ (v3 : Int32) (v4 : Int32) (μ : Mu) (H : Heap) (locs : List Loc) (ls : Array Slot), wd g μ s (Aw g s.heap.size) H locs → lv_has ls 7 [(0, .ref (g.2.2 171)), (2, .int v2), (3, .int v3), (4, .int v4)] → X12_judge_118 n v1 v2 v3 v4 μ = some r → WQ p l e (rmD 8) s m args below meth c g (some (.int r.1)) r.2 H locs (F0 m 118 ls []) := by
    intro v3 v4 μ H locs ls hw hl h
    rw [X12_judge_118] at h
    refine lv_aload_n hx hb dX12_judge_118 rfl (lv_at hl 0 rfl) ?_
    obtain ⟨r119, hr119, h⟩ := bnd h
    refine cV (b := 171) (As := []) (rest := []) (st1 := [.int r119.1]) hC hw (c_X12_scoreNow l g n μ r119 hr119) ml_X12_316 im_X12_scoreNow se_X12_scoreNow ok171 (CN := RX12) (T := TX12) (NF := 54) rfl rfl (by decide) rfl hl.1 ⟨Nat.le_of_ble_eq_true rfl, Nat.le_of_ble_eq_true rfl⟩ (Nat.le_of_ble_eq_true rfl) ⟨Nat.zero_le _, Nat.zero_le _⟩ rfl dX12_judge_119 (fun H locs hw => ?_)
    refine lv_istore (lv' := [(5, .int r119.1), (0, .ref (g.2.2 171)), (2, .int v2), (3, .int v3), (4, .int v4)]) hx hb dX12_judge_122 hl (by decide) rfl (fun ls hl => ?_)
    refine lv_aload_n hx hb dX12_judge_124 rfl (lv_at hl 1 rfl) ?_
    refine gR (t := 172) hC hw fl_X12_9 ok171 (by decide) ot171_0 dX12_judge_125 ?_
    refine lv_iconst (v := (2 : Int32)) hx hb dX12_judge_128 (by decide) ?_
    refine lI (j := 2) hC hw ok172 on172 (vin (by decide)) (by decide) dX12_judge_129 ?_
    refine lv_istore (lv' := [(6, .int (r119.2.1 172 2)), (5, .int r119.1), (0, .ref (g.2.2 171)), (2, .int v2), (3, .int v3), (4, .int v4)]) hx hb dX12_judge_130 hl (by decide) rfl (fun ls hl => ?_)
    refine lv_aload_n hx hb dX12_judge_132 rfl (lv_at hl 2 rfl) ?_
    refine gR (t := 175) hC hw fl_X12_19 ok171 (by decide) ot171_3 dX12_judge_133 ?_
    refine lv_aload_n hx hb dX12_judge_136 rfl (lv_at hl 2 rfl) ?_
    refine gR (t := 172) hC hw fl_X12_9 ok171 (by decide) ot171_0 dX12_judge_137 ?_
    obtain ⟨r140, hr140, h⟩ := bnd h
    refine cS (As := [.ref (g.2.2 175), .ref (g.2.2 172)]) (rest := []) (st1 := []) hC hw (c_X12_copies l g n 175 172 r119.2 r140 hr140) ml_X12_235 st_X12_copies rfl hl.1 ⟨Nat.le_of_ble_eq_true rfl, Nat.le_of_ble_eq_true rfl⟩ (Nat.le_of_ble_eq_true rfl) ⟨Nat.zero_le _, Nat.zero_le _⟩ rfl dX12_judge_140 (fun H locs hw => ?_)
    refine lv_iload_n hx hb dX12_judge_143 rfl (lv_at hl 3 rfl) ?_
    refine lv_if_ne (tgt := 160) hx hb dX12_judge_144 (by decide) (fun hc => ?_) (fun hc => ?_)
    · rw [if_neg hc] at h
      refine lv_iload_n hx hb dX12_judge_160 rfl (lv_at hl 3 rfl) ?_
      refine lv_iconst (v := (1 : Int32)) hx hb dX12_judge_161 (by decide) ?_
      refine lv_icmp_ne (tgt := 170) hx hb dX12_judge_162 (by decide) (fun hc => ?_) (fun hc => ?_)
      · rw [if_neg hc] at h
        refine lv_iload_n hx hb dX12_judge_170 rfl (lv_at hl 3 rfl) ?_
        refine lv_iconst (v := (2 : Int32)) hx hb dX12_judge_171 (by decide) ?_
        refine lv_icmp_ne (tgt := 180) hx hb dX12_judge_172 (by decide) (fun hc => ?_) (fun hc => ?_)
        · rw [if_neg hc] at h
          refine lv_iload hx hb dX12_judge_180 (lv_at hl 0 rfl) ?_
          exact B182 (r119.2.1 172 2) r140.2 _ _ _ hw (lv_sub hl [] rfl) h
        · rw [if_pos hc] at h
          refine lv_iload hx hb dX12_judge_175 (lv_at hl 1 rfl) ?_
          refine lv_goto (tgt := 182) hx hb dX12_judge_177 (by decide) ?_
          exact B182 r119.1 r140.2 _ _ _ hw (lv_sub hl [] rfl) h
      · rw [if_pos hc] at h
        refine lv_iload hx hb dX12_judge_165 (lv_at hl 5 rfl) ?_
        refine lv_goto (tgt := 182) hx hb dX12_judge_167 (by decide) ?_
        exact B182 v4 r140.2 _ _ _ hw (lv_sub hl [] rfl) h
    · rw [if_pos hc] at h
      refine lv_iload hx hb dX12_judge_147 (lv_at hl 5 rfl) ?_
      refine lv_if_ne (tgt := 156) hx hb dX12_judge_149 (by decide) (fun hc => ?_) (fun hc => ?_)
      · rw [if_neg hc] at h
        refine lv_iload_n hx hb dX12_judge_156 rfl (lv_at hl 4 rfl) ?_
        refine lv_goto (tgt := 182) hx hb dX12_judge_157 (by decide) ?_
        exact B182 v3 r140.2 _ _ _ hw (lv_sub hl [] rfl) h
      · rw [if_pos hc] at h
        refine lv_iconst (v := ((-1) : Int32)) hx hb dX12_judge_152 (by decide) ?_
        refine lv_goto (tgt := 182) hx hb dX12_judge_153 (by decide) ?_
        exact B182 ((-1) : Int32) r140.2 _ _ _ hw (lv_sub hl [] rfl) h
  have B58 : ∀ (k : Nat), ∀ (v3 : Int32) (v4 : Int32) (μ : Mu) (H : Heap) (locs : List Loc) (ls : Array Slot), wd g μ s (Aw g s.heap.size) H locs → lv_has ls 7 [(0, .ref (g.2.2 171)), (1, .int v1), (2, .int v2), (3, .int v3), (4, .int v4)] → lpF (fun _ _ _ => none) (X12_judge_58b n v1 v2) k v3 v4 μ = some r → WQ p l e (rmD 8) s m args below meth c g (some (.int r.1)) r.2 H locs (F0 m 58 ls []) := by
    intro k
    induction k with
    | zero =>
      intro v3 v4 μ H locs ls hw hl h
      cases h
    | succ k ih58 =>
      rw [lpF_s]
      generalize lpF (fun _ _ _ => none) (X12_judge_58b n v1 v2) k = k58 at ih58 ⊢
      intro v3 v4 μ H locs ls hw hl h
      rw [X12_judge_58b] at h
      refine lv_iload_n hx hb dX12_judge_58 rfl (lv_at hl 3 rfl) ?_
      refine lv_aload_n hx hb dX12_judge_59 rfl (lv_at hl 0 rfl) ?_
      refine gR (t := 199) hC hw fl_X12_100 ok171 (by decide) ot171_52 dX12_judge_60 ?_
      refine lv_iload_n hx hb dX12_judge_63 rfl (lv_at hl 1 rfl) ?_
      obtain ⟨hi64, h⟩ := gd_some h
      refine lI (j := v1.toNatClampNeg) hC hw ok199 on199 hi64 rfl dX12_judge_64 ?_
      refine lv_icmp_ge (tgt := 118) hx hb dX12_judge_65 (by decide) (fun hc => ?_) (fun hc => ?_)
      · rw [if_pos hc] at h
        exact B118 v3 v4 μ _ _ _ hw (lv_sub hl [0, 2, 3, 4] rfl) h
      · rw [if_neg hc] at h
        refine lv_iload hx hb dX12_judge_68 (lv_at hl 4 rfl) ?_
        refine lv_if_ne (tgt := 118) hx hb dX12_judge_70 (by decide) (fun hc => ?_) (fun hc => ?_)
        · rw [if_neg hc] at h
          exact B118 v3 v4 μ _ _ _ hw (lv_sub hl [0, 2, 3, 4] rfl) h
        · rw [if_pos hc] at h
          refine lv_aload_n hx hb dX12_judge_73 rfl (lv_at hl 0 rfl) ?_
          refine lv_aload_n hx hb dX12_judge_74 rfl (lv_at hl 0 rfl) ?_
          refine gR (t := 200) hC hw fl_X12_103 ok171 (by decide) ot171_53 dX12_judge_75 ?_
          refine lv_bipush (v := (40 : Int32)) hx hb dX12_judge_78 (by decide) ?_
          refine lv_iload_n hx hb dX12_judge_80 rfl (lv_at hl 1 rfl) ?_
          refine lv_imul hx hb dX12_judge_81 ?_
          refine lv_iload_n hx hb dX12_judge_82 rfl (lv_at hl 3 rfl) ?_
          refine lv_iadd hx hb dX12_judge_83 ?_
          obtain ⟨hi84, h⟩ := gd_some h
          refine lJ (j := (((40 : Int32) * v1) + v3).toNatClampNeg) hC hw ok200 on200 hi84 rfl dX12_judge_84 ?_
          obtain ⟨r85, hr85, h⟩ := bnd h
          refine cV (b := 171) (As := [.long (μ.2 200 (((40 : Int32) * v1) + v3).toNatClampNeg)]) (rest := []) (st1 := [.int r85.1]) hC hw (c_X12_whyTold l g n (μ.2 200 (((40 : Int32) * v1) + v3).toNatClampNeg) μ r85 hr85) ml_X12_343 im_X12_whyTold se_X12_whyTold ok171 (CN := RX12) (T := TX12) (NF := 54) rfl rfl (by decide) rfl hl.1 ⟨Nat.le_of_ble_eq_true rfl, Nat.le_of_ble_eq_true rfl⟩ (Nat.le_of_ble_eq_true rfl) ⟨Nat.zero_le _, Nat.zero_le _⟩ rfl dX12_judge_85 (fun H locs hw => ?_)
          refine lv_istore (lv' := [(4, .int r85.1), (0, .ref (g.2.2 171)), (1, .int v1), (2, .int v2), (3, .int v3)]) hx hb dX12_judge_88 hl (by decide) rfl (fun ls hl => ?_)
          refine lv_iload hx hb dX12_judge_90 (lv_at hl 0 rfl) ?_
          refine lv_if_ne (tgt := 58) hx hb dX12_judge_92 (by decide) (fun hc => ?_) (fun hc => ?_)
          · rw [if_neg hc] at h
            exact ih58 v3 r85.1 r85.2 _ _ _ hw (lv_sub hl [1, 2, 3, 4, 0] rfl) h
          · rw [if_pos hc] at h
            refine lv_aload_n hx hb dX12_judge_95 rfl (lv_at hl 1 rfl) ?_
            refine lv_aload_n hx hb dX12_judge_96 rfl (lv_at hl 1 rfl) ?_
            refine gR (t := 200) hC hw fl_X12_103 ok171 (by decide) ot171_53 dX12_judge_97 ?_
            refine lv_bipush (v := (40 : Int32)) hx hb dX12_judge_100 (by decide) ?_
            refine lv_iload_n hx hb dX12_judge_102 rfl (lv_at hl 2 rfl) ?_
            refine lv_imul hx hb dX12_judge_103 ?_
            refine lv_iload_n hx hb dX12_judge_104 rfl (lv_at hl 4 rfl) ?_
            refine lv_iadd hx hb dX12_judge_105 ?_
            refine lJ (j := (((40 : Int32) * v1) + v3).toNatClampNeg) hC hw ok200 on200 hi84 rfl dX12_judge_106 ?_
            refine lv_l2i hx hb dX12_judge_107 rfl ?_
            obtain ⟨r108, hr108, h⟩ := bnd h
            refine cV (b := 171) (As := [.int ((r85.2.2 200 (((40 : Int32) * v1) + v3).toNatClampNeg).toInt32)]) (rest := []) (st1 := [.int r108.1]) hC hw (c_X12_moves l g n ((r85.2.2 200 (((40 : Int32) * v1) + v3).toNatClampNeg).toInt32) r85.2 r108 hr108) ml_X12_326 im_X12_moves se_X12_moves ok171 (CN := RX12) (T := TX12) (NF := 54) rfl rfl (by decide) rfl hl.1 ⟨Nat.le_of_ble_eq_true rfl, Nat.le_of_ble_eq_true rfl⟩ (Nat.le_of_ble_eq_true rfl) ⟨Nat.zero_le _, Nat.zero_le _⟩ rfl dX12_judge_108 (fun H locs hw => ?_)
            refine lv_pop hx hb dX12_judge_111 rfl ?_
            refine lv_iinc (v := (v3 + (1 : Int32))) (lv' := [(3, .int (v3 + (1 : Int32))), (4, .int r85.1), (0, .ref (g.2.2 171)), (1, .int v1), (2, .int v2)]) hx hb dX12_judge_112 hl (k := 4) rfl rfl (by decide) rfl (fun ls hl => ?_)
            refine lv_goto (tgt := 58) hx hb dX12_judge_115 (by decide) ?_
            exact ih58 (v3 + (1 : Int32)) r85.1 r108.2 _ _ _ hw (lv_sub hl [2, 3, 4, 0, 1] rfl) h
  have B33 : ∀ (μ : Mu) (H : Heap) (locs : List Loc) (ls : Array Slot), wd g μ s (Aw g s.heap.size) H locs → lv_has ls 7 [(0, .ref (g.2.2 171)), (1, .int v1), (2, .int v2)] → X12_judge_33 n v1 v2  μ = some r → WQ p l e (rmD 8) s m args below meth c g (some (.int r.1)) r.2 H locs (F0 m 33 ls []) := by
    intro μ H locs ls hw hl h
    rw [X12_judge_33] at h
    refine lv_aload_n hx hb dX12_judge_33 rfl (lv_at hl 0 rfl) ?_
    refine gI hC hw fl_X12_107 ok171 (by decide) dX12_judge_34 ?_
    refine lv_if_le (tgt := 42) hx hb dX12_judge_37 (by decide) (fun hc => ?_) (fun hc => ?_)
    · rw [if_pos hc] at h
      refine lv_aload_n hx hb dX12_judge_42 rfl (lv_at hl 0 rfl) ?_
      refine gR (t := 172) hC hw fl_X12_9 ok171 (by decide) ot171_0 dX12_judge_43 ?_
      refine lv_aload_n hx hb dX12_judge_46 rfl (lv_at hl 0 rfl) ?_
      refine gR (t := 175) hC hw fl_X12_19 ok171 (by decide) ot171_3 dX12_judge_47 ?_
      obtain ⟨r50, hr50, h⟩ := bnd h
      refine cS (As := [.ref (g.2.2 172), .ref (g.2.2 175)]) (rest := []) (st1 := []) hC hw (c_X12_copies l g n 172 175 μ r50 hr50) ml_X12_235 st_X12_copies rfl hl.1 ⟨Nat.le_of_ble_eq_true rfl, Nat.le_of_ble_eq_true rfl⟩ (Nat.le_of_ble_eq_true rfl) ⟨Nat.zero_le _, Nat.zero_le _⟩ rfl dX12_judge_50 (fun H locs hw => ?_)
      refine lv_iconst (v := (0 : Int32)) hx hb dX12_judge_53 (by decide) ?_
      refine lv_istore_n (lv' := [(3, .int (0 : Int32)), (0, .ref (g.2.2 171)), (1, .int v1), (2, .int v2)]) hx hb dX12_judge_54 rfl hl (by decide) rfl (fun ls hl => ?_)
      refine lv_iconst (v := (0 : Int32)) hx hb dX12_judge_55 (by decide) ?_
      refine lv_istore (lv' := [(4, .int (0 : Int32)), (3, .int (0 : Int32)), (0, .ref (g.2.2 171)), (1, .int v1), (2, .int v2)]) hx hb dX12_judge_56 hl (by decide) rfl (fun ls hl => ?_)
      exact B58 n (0 : Int32) (0 : Int32) r50.2 _ _ _ hw (lv_sub hl [2, 3, 4, 1, 0] rfl) h
    · rw [if_neg hc] at h
      refine lv_iconst (v := (0 : Int32)) hx hb dX12_judge_40 (by decide) ?_
      exact rI hC hw hr hlocks (by rw [← Option.some.inj h]) (by rw [← Option.some.inj h]) dX12_judge_41
  refine lv_aload_n hx hb dX12_judge_0 rfl (lv_at hl 0 rfl) ?_
  refine lv_aload_n hx hb dX12_judge_1 rfl (lv_at hl 0 rfl) ?_
  refine lv_iload_n hx hb dX12_judge_2 rfl (lv_at hl 1 rfl) ?_
  obtain ⟨r3, hr3, h⟩ := bnd h
  refine cV (b := 171) (As := [.int v1]) (rest := [.ref (g.2.2 171)]) (st1 := [.int r3.1, .ref (g.2.2 171)]) hC hw (c_X12_trayFault l g n v1 μ r3 hr3) ml_X12_340 im_X12_trayFault se_X12_trayFault ok171 (CN := RX12) (T := TX12) (NF := 54) rfl rfl (by decide) rfl hl.1 ⟨Nat.le_of_ble_eq_true rfl, Nat.le_of_ble_eq_true rfl⟩ (Nat.le_of_ble_eq_true rfl) ⟨Nat.zero_le _, Nat.zero_le _⟩ rfl dX12_judge_3 (fun H locs hw => ?_)
  refine pI hC hw fl_X12_107 fp_12_5 ok171 dX12_judge_6 (fun H locs hw => ?_)
  refine lv_aload_n hx hb dX12_judge_9 rfl (lv_at hl 0 rfl) ?_
  refine gI hC hw fl_X12_107 ok171 (by decide) dX12_judge_10 ?_
  refine lv_if_ne (tgt := 33) hx hb dX12_judge_13 (by decide) (fun hc => ?_) (fun hc => ?_)
  · rw [if_neg hc] at h
    exact B33 (si r3.2 171 5 r3.1) _ _ _ hw (lv_sub hl [0, 1, 2] rfl) h
  · rw [if_pos hc] at h
    refine lv_iload_n hx hb dX12_judge_16 rfl (lv_at hl 2 rfl) ?_
    refine lv_i2l hx hb dX12_judge_17 rfl ?_
    refine lv_lconst (v := (0 : Int64)) hx hb dX12_judge_18 (by decide) ?_
    refine lv_ldc2 (v := (3 : Int64)) hx hb hC.2.2.2.1 (hC.2.2.2.2.1 _ cl_X12_314) dX12_judge_19 ?_
    obtain ⟨r22, hr22, h⟩ := bnd h
    refine cS (As := [.long (v2.toInt64), .long (0 : Int64), .long (3 : Int64)]) (rest := []) (st1 := [.int r22.1]) hC hw (c_X12_within l g n (v2.toInt64) (0 : Int64) (3 : Int64) (si r3.2 171 5 r3.1) r22 hr22) ml_X12_166 st_X12_within rfl hl.1 ⟨Nat.le_of_ble_eq_true rfl, Nat.le_of_ble_eq_true rfl⟩ (Nat.le_of_ble_eq_true rfl) ⟨Nat.zero_le _, Nat.zero_le _⟩ rfl dX12_judge_22 (fun H locs hw => ?_)
    refine lv_if_ne (tgt := 33) hx hb dX12_judge_25 (by decide) (fun hc => ?_) (fun hc => ?_)
    · rw [if_neg hc] at h
      exact B33 r22.2 _ _ _ hw (lv_sub hl [0, 1, 2] rfl) h
    · rw [if_pos hc] at h
      refine lv_aload_n hx hb dX12_judge_28 rfl (lv_at hl 0 rfl) ?_
      refine lv_iconst (v := (3 : Int32)) hx hb dX12_judge_29 (by decide) ?_
      refine pI hC hw fl_X12_107 fp_12_5 ok171 dX12_judge_30 (fun H locs hw => ?_)
      exact B33 (si r22.2 171 5 (3 : Int32)) _ _ _ hw (lv_sub hl [0, 1, 2] rfl) h
set_option maxRecDepth 100000 in
set_option maxHeartbeats 4000000 in
theorem c_X12_perform (l : Launch) (g : Gw) (n : Nat) (v1 : Int32) (μ : Mu) (r : Int32 × Mu) (h : X12_perform n v1 μ = some r) : Ct l g yX12_perform cX12_perform 3 (some .int) 8 [.ref (g.2.2 171), .int v1] μ (some (.int r.1)) r.2 := by
  rw [X12_perform] at h
  refine Ct.of (by decide) (Nat.le_of_ble_eq_true rfl) ?_
  intro p e s m args below meth c ls hC hw hr hlocks hl
  have hx := hC.1
  have hb := hC.2.1
  have hl : lv_has ls 3 [(0, .ref (g.2.2 171)), (1, .int v1)] := hl
  have B71 : ∀ (v2 : Int32) (μ : Mu) (H : Heap) (locs : List Loc) (ls : Array Slot), wd g μ s (Aw g s.heap.size) H locs → lv_has ls 3 [(2, .int v2)] → X12_perform_71 n v1 v2 μ = some r → WQ p l e (rmD 8) s m args below meth c g (some (.int r.1)) r.2 H locs (F0 m 71 ls []) := by
    intro v2 μ H locs ls hw hl h
    rw [X12_perform_71] at h
    refine lv_iload_n hx hb dX12_perform_71 rfl (lv_at hl 0 rfl) ?_
    exact rI hC hw hr hlocks (by rw [← Option.some.inj h]) (by rw [← Option.some.inj h]) dX12_perform_72
  have B20 : ∀ (k : Nat), ∀ (v2 : Int32) (μ : Mu) (H : Heap) (locs : List Loc) (ls : Array Slot), wd g μ s (Aw g s.heap.size) H locs → lv_has ls 3 [(0, .ref (g.2.2 171)), (1, .int v1), (2, .int v2)] → lpF (fun _ _ => none) (X12_perform_20b n v1) k v2 μ = some r → WQ p l e (rmD 8) s m args below meth c g (some (.int r.1)) r.2 H locs (F0 m 20 ls []) := by
    intro k
    induction k with
    | zero =>
      intro v2 μ H locs ls hw hl h
      cases h
    | succ k ih20 =>
      rw [lpF_s]
      generalize lpF (fun _ _ => none) (X12_perform_20b n v1) k = k20 at ih20 ⊢
      intro v2 μ H locs ls hw hl h
      rw [X12_perform_20b] at h
      refine lv_iload_n hx hb dX12_perform_20 rfl (lv_at hl 2 rfl) ?_
      refine lv_aload_n hx hb dX12_perform_21 rfl (lv_at hl 0 rfl) ?_
      refine gR (t := 199) hC hw fl_X12_100 ok171 (by decide) ot171_52 dX12_perform_22 ?_
      refine lv_iload_n hx hb dX12_perform_25 rfl (lv_at hl 1 rfl) ?_
      obtain ⟨hi26, h⟩ := gd_some h
      refine lI (j := v1.toNatClampNeg) hC hw ok199 on199 hi26 rfl dX12_perform_26 ?_
      refine lv_icmp_ge (tgt := 71) hx hb dX12_perform_27 (by decide) (fun hc => ?_) (fun hc => ?_)
      · rw [if_pos hc] at h
        exact B71 v2 μ _ _ _ hw (lv_sub hl [2] rfl) h
      · rw [if_neg hc] at h
        refine lv_aload_n hx hb dX12_perform_30 rfl (lv_at hl 0 rfl) ?_
        refine lv_aload_n hx hb dX12_perform_31 rfl (lv_at hl 0 rfl) ?_
        refine gR (t := 200) hC hw fl_X12_103 ok171 (by decide) ot171_53 dX12_perform_32 ?_
        refine lv_bipush (v := (40 : Int32)) hx hb dX12_perform_35 (by decide) ?_
        refine lv_iload_n hx hb dX12_perform_37 rfl (lv_at hl 1 rfl) ?_
        refine lv_imul hx hb dX12_perform_38 ?_
        refine lv_iload_n hx hb dX12_perform_39 rfl (lv_at hl 2 rfl) ?_
        refine lv_iadd hx hb dX12_perform_40 ?_
        obtain ⟨hi41, h⟩ := gd_some h
        refine lJ (j := (((40 : Int32) * v1) + v2).toNatClampNeg) hC hw ok200 on200 hi41 rfl dX12_perform_41 ?_
        obtain ⟨r42, hr42, h⟩ := bnd h
        refine cV (b := 171) (As := [.long (μ.2 200 (((40 : Int32) * v1) + v2).toNatClampNeg)]) (rest := []) (st1 := [.int r42.1]) hC hw (c_X12_whyTold l g n (μ.2 200 (((40 : Int32) * v1) + v2).toNatClampNeg) μ r42 hr42) ml_X12_343 im_X12_whyTold se_X12_whyTold ok171 (CN := RX12) (T := TX12) (NF := 54) rfl rfl (by decide) rfl hl.1 ⟨Nat.le_of_ble_eq_true rfl, Nat.le_of_ble_eq_true rfl⟩ (Nat.le_of_ble_eq_true rfl) ⟨Nat.zero_le _, Nat.zero_le _⟩ rfl dX12_perform_42 (fun H locs hw => ?_)
        refine lv_if_ne (tgt := 71) hx hb dX12_perform_45 (by decide) (fun hc => ?_) (fun hc => ?_)
        · rw [if_neg hc] at h
          exact B71 v2 r42.2 _ _ _ hw (lv_sub hl [2] rfl) h
        · rw [if_pos hc] at h
          refine lv_aload_n hx hb dX12_perform_48 rfl (lv_at hl 0 rfl) ?_
          refine lv_aload_n hx hb dX12_perform_49 rfl (lv_at hl 0 rfl) ?_
          refine gR (t := 200) hC hw fl_X12_103 ok171 (by decide) ot171_53 dX12_perform_50 ?_
          refine lv_bipush (v := (40 : Int32)) hx hb dX12_perform_53 (by decide) ?_
          refine lv_iload_n hx hb dX12_perform_55 rfl (lv_at hl 1 rfl) ?_
          refine lv_imul hx hb dX12_perform_56 ?_
          refine lv_iload_n hx hb dX12_perform_57 rfl (lv_at hl 2 rfl) ?_
          refine lv_iadd hx hb dX12_perform_58 ?_
          refine lJ (j := (((40 : Int32) * v1) + v2).toNatClampNeg) hC hw ok200 on200 hi41 rfl dX12_perform_59 ?_
          refine lv_l2i hx hb dX12_perform_60 rfl ?_
          obtain ⟨r61, hr61, h⟩ := bnd h
          refine cV (b := 171) (As := [.int ((r42.2.2 200 (((40 : Int32) * v1) + v2).toNatClampNeg).toInt32)]) (rest := []) (st1 := [.int r61.1]) hC hw (c_X12_does l g n ((r42.2.2 200 (((40 : Int32) * v1) + v2).toNatClampNeg).toInt32) r42.2 r61 hr61) ml_X12_329 im_X12_does se_X12_does ok171 (CN := RX12) (T := TX12) (NF := 54) rfl rfl (by decide) rfl hl.1 ⟨Nat.le_of_ble_eq_true rfl, Nat.le_of_ble_eq_true rfl⟩ (Nat.le_of_ble_eq_true rfl) ⟨Nat.zero_le _, Nat.zero_le _⟩ rfl dX12_perform_61 (fun H locs hw => ?_)
          refine lv_pop hx hb dX12_perform_64 rfl ?_
          refine lv_iinc (v := (v2 + (1 : Int32))) (lv' := [(2, .int (v2 + (1 : Int32))), (0, .ref (g.2.2 171)), (1, .int v1)]) hx hb dX12_perform_65 hl (k := 2) rfl rfl (by decide) rfl (fun ls hl => ?_)
          refine lv_goto (tgt := 20) hx hb dX12_perform_68 (by decide) ?_
          exact ih20 (v2 + (1 : Int32)) r61.2 _ _ _ hw (lv_sub hl [1, 2, 0] rfl) h
  refine lv_aload_n hx hb dX12_perform_0 rfl (lv_at hl 0 rfl) ?_
  refine lv_aload_n hx hb dX12_perform_1 rfl (lv_at hl 0 rfl) ?_
  refine lv_iload_n hx hb dX12_perform_2 rfl (lv_at hl 1 rfl) ?_
  obtain ⟨r3, hr3, h⟩ := bnd h
  refine cV (b := 171) (As := [.int v1]) (rest := [.ref (g.2.2 171)]) (st1 := [.int r3.1, .ref (g.2.2 171)]) hC hw (c_X12_trayFault l g n v1 μ r3 hr3) ml_X12_340 im_X12_trayFault se_X12_trayFault ok171 (CN := RX12) (T := TX12) (NF := 54) rfl rfl (by decide) rfl hl.1 ⟨Nat.le_of_ble_eq_true rfl, Nat.le_of_ble_eq_true rfl⟩ (Nat.le_of_ble_eq_true rfl) ⟨Nat.zero_le _, Nat.zero_le _⟩ rfl dX12_perform_3 (fun H locs hw => ?_)
  refine pI hC hw fl_X12_107 fp_12_5 ok171 dX12_perform_6 (fun H locs hw => ?_)
  refine lv_aload_n hx hb dX12_perform_9 rfl (lv_at hl 0 rfl) ?_
  refine gI hC hw fl_X12_107 ok171 (by decide) dX12_perform_10 ?_
  refine lv_if_le (tgt := 18) hx hb dX12_perform_13 (by decide) (fun hc => ?_) (fun hc => ?_)
  · rw [if_pos hc] at h
    refine lv_iconst (v := (0 : Int32)) hx hb dX12_perform_18 (by decide) ?_
    refine lv_istore_n (lv' := [(2, .int (0 : Int32)), (0, .ref (g.2.2 171)), (1, .int v1)]) hx hb dX12_perform_19 rfl hl (by decide) rfl (fun ls hl => ?_)
    exact B20 n (0 : Int32) (si r3.2 171 5 r3.1) _ _ _ hw (lv_sub hl [1, 2, 0] rfl) h
  · rw [if_neg hc] at h
    refine lv_iconst (v := (0 : Int32)) hx hb dX12_perform_16 (by decide) ?_
    exact rI hC hw hr hlocks (by rw [← Option.some.inj h]) (by rw [← Option.some.inj h]) dX12_perform_17
set_option maxRecDepth 100000 in
set_option maxHeartbeats 4000000 in
theorem c_X12_laysMove (l : Launch) (g : Gw) (n : Nat) (v1 : Int32) (v2 : Int32) (v3 : Int32) (v4 : Int32) (μ : Mu) (r : Unit × Mu) (h : X12_laysMove n v1 v2 v3 v4 μ = some r) : Ct l g yX12_laysMove cX12_laysMove 7 none 7 [.ref (g.2.2 171), .int v1, .int v2, .int v3, .int v4] μ none r.2 := by
  rw [X12_laysMove] at h
  refine Ct.of (by decide) (Nat.le_of_ble_eq_true rfl) ?_
  intro p e s m args below meth c ls hC hw hr hlocks hl
  have hx := hC.1
  have hb := hC.2.1
  have hl : lv_has ls 7 [(0, .ref (g.2.2 171)), (1, .int v1), (2, .int v2), (3, .int v3), (4, .int v4)] := hl
  have B16 : ∀ (s0 : Int32) (s1 : Int32) (μ : Mu) (H : Heap) (locs : List Loc) (ls : Array Slot), wd g μ s (Aw g s.heap.size) H locs → lv_has ls 7 [(0, .ref (g.2.2 171)), (1, .int v1), (3, .int v3), (4, .int v4)] → X12_laysMove_16 n v1 v2 v3 v4 s0 s1 μ = some r → WQ p l e (rmD 7) s m args below meth c g none r.2 H locs (F0 m 16 ls [.int s1, .int s0]) := by
    intro s0 s1 μ H locs ls hw hl h
    rw [X12_laysMove_16] at h
    refine lv_iadd hx hb dX12_laysMove_16 ?_
    refine lv_istore (lv' := [(5, .int (s0 + s1)), (0, .ref (g.2.2 171)), (1, .int v1), (3, .int v3), (4, .int v4)]) hx hb dX12_laysMove_17 hl (by decide) rfl (fun ls hl => ?_)
    refine lv_aload_n hx hb dX12_laysMove_19 rfl (lv_at hl 1 rfl) ?_
    refine gR (t := 187) hC hw fl_X12_61 ok171 (by decide) ot171_35 dX12_laysMove_20 ?_
    refine lv_bipush (v := (6 : Int32)) hx hb dX12_laysMove_23 (by decide) ?_
    refine lv_iload_n hx hb dX12_laysMove_25 rfl (lv_at hl 2 rfl) ?_
    refine lv_imul hx hb dX12_laysMove_26 ?_
    refine lv_iload hx hb dX12_laysMove_27 (lv_at hl 4 rfl) ?_
    refine lv_iadd hx hb dX12_laysMove_29 ?_
    refine lv_iconst (v := ((-1) : Int32)) hx hb dX12_laysMove_30 (by decide) ?_
    obtain ⟨hi31, h⟩ := gd_some h
    refine sI (j := (((6 : Int32) * v1) + v4).toNatClampNeg) hC hw ok187 on187 hi31 rfl dX12_laysMove_31 (fun H locs hw => ?_)
    refine lv_aload_n hx hb dX12_laysMove_32 rfl (lv_at hl 1 rfl) ?_
    refine lv_iload hx hb dX12_laysMove_33 (lv_at hl 0 rfl) ?_
    obtain ⟨r35, hr35, h⟩ := bnd h
    refine cV (b := 171) (As := [.int (s0 + s1)]) (rest := []) (st1 := [.int r35.1]) hC hw (c_X12_whyNot l g n (s0 + s1) (si μ 187 (((6 : Int32) * v1) + v4).toNatClampNeg ((-1) : Int32)) r35 hr35) ml_X12_311 im_X12_whyNot se_X12_whyNot ok171 (CN := RX12) (T := TX12) (NF := 54) rfl rfl (by decide) rfl hl.1 ⟨Nat.le_of_ble_eq_true rfl, Nat.le_of_ble_eq_true rfl⟩ (Nat.le_of_ble_eq_true rfl) ⟨Nat.zero_le _, Nat.zero_le _⟩ rfl dX12_laysMove_35 (fun H locs hw => ?_)
    refine lv_if_eq (tgt := 42) hx hb dX12_laysMove_38 (by decide) (fun hc => ?_) (fun hc => ?_)
    · rw [if_pos hc] at h
      refine lv_aload_n hx hb dX12_laysMove_42 rfl (lv_at hl 1 rfl) ?_
      refine lv_iload hx hb dX12_laysMove_43 (lv_at hl 0 rfl) ?_
      obtain ⟨r45, hr45, h⟩ := bnd h
      refine cV (b := 171) (As := [.int (s0 + s1)]) (rest := []) (st1 := []) hC hw (c_X12_triesFrom l g n (s0 + s1) r35.2 r45 hr45) ml_X12_302 im_X12_triesFrom se_X12_triesFrom ok171 (CN := RX12) (T := TX12) (NF := 54) rfl rfl (by decide) rfl hl.1 ⟨Nat.le_of_ble_eq_true rfl, Nat.le_of_ble_eq_true rfl⟩ (Nat.le_of_ble_eq_true rfl) ⟨Nat.zero_le _, Nat.zero_le _⟩ rfl dX12_laysMove_45 (fun H locs hw => ?_)
      refine lv_aload_n hx hb dX12_laysMove_48 rfl (lv_at hl 1 rfl) ?_
      refine lv_aload_n hx hb dX12_laysMove_49 rfl (lv_at hl 1 rfl) ?_
      refine gI hC hw fl_X12_284 ok171 (by decide) dX12_laysMove_50 ?_
      refine lv_iload_n hx hb dX12_laysMove_53 rfl (lv_at hl 3 rfl) ?_
      refine lv_aload_n hx hb dX12_laysMove_54 rfl (lv_at hl 1 rfl) ?_
      refine gI hC hw fl_X12_263 ok171 (by decide) dX12_laysMove_55 ?_
      refine lv_isub hx hb dX12_laysMove_58 ?_
      refine lv_aload_n hx hb dX12_laysMove_59 rfl (lv_at hl 1 rfl) ?_
      refine lv_aload_n hx hb dX12_laysMove_60 rfl (lv_at hl 1 rfl) ?_
      refine gI hC hw fl_X12_284 ok171 (by decide) dX12_laysMove_61 ?_
      obtain ⟨r64, hr64, h⟩ := bnd h
      refine cV (b := 171) (As := [.int (r45.2.1 171 22)]) (rest := [.int (v3 - (r45.2.1 171 21)), .int (r45.2.1 171 22), .ref (g.2.2 171)]) (st1 := [.int r64.1, .int (v3 - (r45.2.1 171 21)), .int (r45.2.1 171 22), .ref (g.2.2 171)]) hC hw (c_X12_numberOf l g n (r45.2.1 171 22) r45.2 r64 hr64) ml_X12_368 im_X12_numberOf se_X12_numberOf ok171 (CN := RX12) (T := TX12) (NF := 54) rfl rfl (by decide) rfl hl.1 ⟨Nat.le_of_ble_eq_true rfl, Nat.le_of_ble_eq_true rfl⟩ (Nat.le_of_ble_eq_true rfl) ⟨Nat.zero_le _, Nat.zero_le _⟩ rfl dX12_laysMove_64 (fun H locs hw => ?_)
      obtain ⟨r67, hr67, h⟩ := bnd h
      refine cV (b := 171) (As := [.int (r45.2.1 171 22), .int (v3 - (r45.2.1 171 21)), .int r64.1]) (rest := []) (st1 := [.int r67.1]) hC hw (c_X12_seat l g n (r45.2.1 171 22) (v3 - (r45.2.1 171 21)) r64.1 r64.2 r67 hr67) ml_X12_384 im_X12_seat se_X12_seat ok171 (CN := RX12) (T := TX12) (NF := 54) rfl rfl (by decide) rfl hl.1 ⟨Nat.le_of_ble_eq_true rfl, Nat.le_of_ble_eq_true rfl⟩ (Nat.le_of_ble_eq_true rfl) ⟨Nat.zero_le _, Nat.zero_le _⟩ rfl dX12_laysMove_67 (fun H locs hw => ?_)
      refine lv_istore (lv' := [(6, .int r67.1), (5, .int (s0 + s1)), (0, .ref (g.2.2 171)), (1, .int v1), (3, .int v3), (4, .int v4)]) hx hb dX12_laysMove_70 hl (by decide) rfl (fun ls hl => ?_)
      refine lv_aload_n hx hb dX12_laysMove_72 rfl (lv_at hl 2 rfl) ?_
      refine gR (t := 187) hC hw fl_X12_61 ok171 (by decide) ot171_35 dX12_laysMove_73 ?_
      refine lv_bipush (v := (6 : Int32)) hx hb dX12_laysMove_76 (by decide) ?_
      refine lv_iload_n hx hb dX12_laysMove_78 rfl (lv_at hl 3 rfl) ?_
      refine lv_imul hx hb dX12_laysMove_79 ?_
      refine lv_iload hx hb dX12_laysMove_80 (lv_at hl 5 rfl) ?_
      refine lv_iadd hx hb dX12_laysMove_82 ?_
      refine lv_iload hx hb dX12_laysMove_83 (lv_at hl 0 rfl) ?_
      refine sI (j := (((6 : Int32) * v1) + v4).toNatClampNeg) hC hw ok187 on187 hi31 rfl dX12_laysMove_85 (fun H locs hw => ?_)
      refine lv_aload_n hx hb dX12_laysMove_86 rfl (lv_at hl 2 rfl) ?_
      refine gR (t := 188) hC hw fl_X12_64 ok171 (by decide) ot171_36 dX12_laysMove_87 ?_
      refine lv_bipush (v := (6 : Int32)) hx hb dX12_laysMove_90 (by decide) ?_
      refine lv_iload_n hx hb dX12_laysMove_92 rfl (lv_at hl 3 rfl) ?_
      refine lv_imul hx hb dX12_laysMove_93 ?_
      refine lv_iload hx hb dX12_laysMove_94 (lv_at hl 5 rfl) ?_
      refine lv_iadd hx hb dX12_laysMove_96 ?_
      refine lv_aload_n hx hb dX12_laysMove_97 rfl (lv_at hl 2 rfl) ?_
      refine gI hC hw fl_X12_263 ok171 (by decide) dX12_laysMove_98 ?_
      refine sI (j := (((6 : Int32) * v1) + v4).toNatClampNeg) hC hw ok188 on188 hi31 rfl dX12_laysMove_101 (fun H locs hw => ?_)
      exact rV hC hw hr hlocks rfl (by rw [← Option.some.inj h]) dX12_laysMove_102
    · rw [if_neg hc] at h
      exact rV hC hw hr hlocks rfl (by rw [← Option.some.inj h]) dX12_laysMove_41
  refine lv_iload hx hb dX12_laysMove_0 (lv_at hl 4 rfl) ?_
  refine lv_iload_n hx hb dX12_laysMove_2 rfl (lv_at hl 2 rfl) ?_
  refine lv_if_ne (tgt := 10) hx hb dX12_laysMove_3 (by decide) (fun hc => ?_) (fun hc => ?_)
  · rw [if_neg hc] at h
    refine lv_aload_n hx hb dX12_laysMove_10 rfl (lv_at hl 0 rfl) ?_
    refine gR (t := 172) hC hw fl_X12_9 ok171 (by decide) ot171_0 dX12_laysMove_11 ?_
    refine lv_iconst (v := (1 : Int32)) hx hb dX12_laysMove_14 (by decide) ?_
    refine lI (j := 1) hC hw ok172 on172 (vin (by decide)) (by decide) dX12_laysMove_15 ?_
    exact B16 v4 (μ.1 172 1) μ _ _ _ hw (lv_sub hl [0, 1, 3, 4] rfl) h
  · rw [if_pos hc] at h
    refine lv_iconst (v := (0 : Int32)) hx hb dX12_laysMove_6 (by decide) ?_
    refine lv_goto (tgt := 16) hx hb dX12_laysMove_7 (by decide) ?_
    exact B16 v4 (0 : Int32) μ _ _ _ hw (lv_sub hl [0, 1, 3, 4] rfl) h
set_option maxRecDepth 100000 in
set_option maxHeartbeats 4000000 in
theorem c_X12_goesOn (l : Launch) (g : Gw) (n : Nat) (μ : Mu) (r : Int32 × Mu) (h : X12_goesOn n  μ = some r) : Ct l g yX12_goesOn cX12_goesOn 2 (some .boolean) 6 [.ref (g.2.2 171)] μ (some (.int r.1)) r.2 := by
  rw [X12_goesOn] at h
  refine Ct.of (by decide) (Nat.le_of_ble_eq_true rfl) ?_
  intro p e s m args below meth c ls hC hw hr hlocks hl
  have hx := hC.1
  have hb := hC.2.1
  have hl : lv_has ls 2 [(0, .ref (g.2.2 171))] := hl
  have B120 : ∀ (μ : Mu) (H : Heap) (locs : List Loc) (ls : Array Slot), wd g μ s (Aw g s.heap.size) H locs → lv_has ls 2 [] → X12_goesOn_120 n  μ = some r → WQ p l e (rmD 6) s m args below meth c g (some (.int r.1)) r.2 H locs (F0 m 120 ls []) := by
    intro μ H locs ls hw hl h
    rw [X12_goesOn_120] at h
    refine lv_iconst (v := (0 : Int32)) hx hb dX12_goesOn_120 (by decide) ?_
    exact rZ hC hw hr hlocks (Or.inl rfl) (by rw [← Option.some.inj h]) (by rw [← Option.some.inj h]) dX12_goesOn_121
  have B15 : ∀ (k : Nat), ∀ (μ : Mu) (H : Heap) (locs : List Loc) (ls : Array Slot), wd g μ s (Aw g s.heap.size) H locs → lv_has ls 2 [(0, .ref (g.2.2 171))] → lpF (fun _ => none) (X12_goesOn_15b n) k  μ = some r → WQ p l e (rmD 6) s m args below meth c g (some (.int r.1)) r.2 H locs (F0 m 15 ls []) := by
    intro k
    induction k with
    | zero =>
      intro μ H locs ls hw hl h
      cases h
    | succ k ih15 =>
      rw [lpF_s]
      generalize lpF (fun _ => none) (X12_goesOn_15b n) k = k15 at ih15 ⊢
      intro μ H locs ls hw hl h
      have B83 : ∀ (k : Nat), ∀ (v1 : Int32) (μ : Mu) (H : Heap) (locs : List Loc) (ls : Array Slot), wd g μ s (Aw g s.heap.size) H locs → lv_has ls 2 [(0, .ref (g.2.2 171)), (1, .int v1)] → lpF (fun _ _ => none) (X12_goesOn_83b n k15) k v1 μ = some r → WQ p l e (rmD 6) s m args below meth c g (some (.int r.1)) r.2 H locs (F0 m 83 ls []) := by
        intro k
        induction k with
        | zero =>
          intro v1 μ H locs ls hw hl h
          cases h
        | succ k ih83 =>
          rw [lpF_s]
          generalize lpF (fun _ _ => none) (X12_goesOn_83b n k15) k = k83 at ih83 ⊢
          intro v1 μ H locs ls hw hl h
          rw [X12_goesOn_83b] at h
          refine lv_iload_n hx hb dX12_goesOn_83 rfl (lv_at hl 1 rfl) ?_
          refine lv_aload_n hx hb dX12_goesOn_84 rfl (lv_at hl 0 rfl) ?_
          refine gI hC hw fl_X12_430 ok171 (by decide) dX12_goesOn_85 ?_
          refine lv_icmp_ge (tgt := 117) hx hb dX12_goesOn_88 (by decide) (fun hc => ?_) (fun hc => ?_)
          · rw [if_pos hc] at h
            refine lv_goto (tgt := 15) hx hb dX12_goesOn_117 (by decide) ?_
            exact ih15 μ _ _ _ hw (lv_sub hl [0] rfl) h
          · rw [if_neg hc] at h
            refine lv_aload_n hx hb dX12_goesOn_91 rfl (lv_at hl 0 rfl) ?_
            refine gR (t := 194) hC hw fl_X12_85 ok171 (by decide) ot171_43 dX12_goesOn_92 ?_
            refine lv_iload_n hx hb dX12_goesOn_95 rfl (lv_at hl 1 rfl) ?_
            obtain ⟨hi96, h⟩ := gd_some h
            refine lI (j := v1.toNatClampNeg) hC hw ok194 on194 hi96 rfl dX12_goesOn_96 ?_
            refine lv_aload_n hx hb dX12_goesOn_97 rfl (lv_at hl 0 rfl) ?_
            refine gR (t := 194) hC hw fl_X12_85 ok171 (by decide) ot171_43 dX12_goesOn_98 ?_
            refine lv_aload_n hx hb dX12_goesOn_101 rfl (lv_at hl 0 rfl) ?_
            refine gI hC hw fl_X12_430 ok171 (by decide) dX12_goesOn_102 ?_
            obtain ⟨hi105, h⟩ := gd_some h
            refine lI (j := (μ.1 171 44).toNatClampNeg) hC hw ok194 on194 hi105 rfl dX12_goesOn_105 ?_
            refine lv_icmp_ne (tgt := 111) hx hb dX12_goesOn_106 (by decide) (fun hc => ?_) (fun hc => ?_)
            · rw [if_neg hc] at h
              refine lv_iinc (v := (v1 + (1 : Int32))) (lv' := [(1, .int (v1 + (1 : Int32))), (0, .ref (g.2.2 171))]) hx hb dX12_goesOn_111 hl (k := 1) rfl rfl (by decide) rfl (fun ls hl => ?_)
              refine lv_goto (tgt := 83) hx hb dX12_goesOn_114 (by decide) ?_
              exact ih83 (v1 + (1 : Int32)) μ _ _ _ hw (lv_sub hl [1, 0] rfl) h
            · rw [if_pos hc] at h
              refine lv_iconst (v := (1 : Int32)) hx hb dX12_goesOn_109 (by decide) ?_
              exact rZ hC hw hr hlocks (Or.inr rfl) (by rw [← Option.some.inj h]) (by rw [← Option.some.inj h]) dX12_goesOn_110
      rw [X12_goesOn_15b] at h
      refine lv_aload_n hx hb dX12_goesOn_15 rfl (lv_at hl 0 rfl) ?_
      refine gI hC hw fl_X12_430 ok171 (by decide) dX12_goesOn_16 ?_
      refine lv_bipush (v := (60 : Int32)) hx hb dX12_goesOn_19 (by decide) ?_
      refine lv_icmp_ge (tgt := 120) hx hb dX12_goesOn_21 (by decide) (fun hc => ?_) (fun hc => ?_)
      · rw [if_pos hc] at h
        exact B120 μ _ _ _ hw (lv_sub hl [] rfl) h
      · rw [if_neg hc] at h
        refine lv_aload_n hx hb dX12_goesOn_24 rfl (lv_at hl 0 rfl) ?_
        obtain ⟨r25, hr25, h⟩ := bnd h
        refine cV (b := 171) (As := []) (rest := []) (st1 := [.int r25.1]) hC hw (c_X12_isOver l g n μ r25 hr25) ml_X12_305 im_X12_isOver se_X12_isOver ok171 (CN := RX12) (T := TX12) (NF := 54) rfl rfl (by decide) rfl hl.1 ⟨Nat.le_of_ble_eq_true rfl, Nat.le_of_ble_eq_true rfl⟩ (Nat.le_of_ble_eq_true rfl) ⟨Nat.zero_le _, Nat.zero_le _⟩ rfl dX12_goesOn_25 (fun H locs hw => ?_)
        refine lv_if_ne (tgt := 120) hx hb dX12_goesOn_28 (by decide) (fun hc => ?_) (fun hc => ?_)
        · rw [if_neg hc] at h
          exact B120 r25.2 _ _ _ hw (lv_sub hl [] rfl) h
        · rw [if_pos hc] at h
          refine lv_aload_n hx hb dX12_goesOn_31 rfl (lv_at hl 0 rfl) ?_
          refine gR (t := 193) hC hw fl_X12_82 ok171 (by decide) ot171_42 dX12_goesOn_32 ?_
          refine lv_aload_n hx hb dX12_goesOn_35 rfl (lv_at hl 0 rfl) ?_
          refine gI hC hw fl_X12_430 ok171 (by decide) dX12_goesOn_36 ?_
          refine lv_aload_n hx hb dX12_goesOn_39 rfl (lv_at hl 0 rfl) ?_
          obtain ⟨r40, hr40, h⟩ := bnd h
          refine cV (b := 171) (As := []) (rest := [.int (r25.2.1 171 44), .ref (g.2.2 193)]) (st1 := [.int r40.1, .int (r25.2.1 171 44), .ref (g.2.2 193)]) hC hw (c_X12_bestNow l g n r25.2 r40 hr40) ml_X12_416 im_X12_bestNow se_X12_bestNow ok171 (CN := RX12) (T := TX12) (NF := 54) rfl rfl (by decide) rfl hl.1 ⟨Nat.le_of_ble_eq_true rfl, Nat.le_of_ble_eq_true rfl⟩ (Nat.le_of_ble_eq_true rfl) ⟨Nat.zero_le _, Nat.zero_le _⟩ rfl dX12_goesOn_40 (fun H locs hw => ?_)
          obtain ⟨hi43, h⟩ := gd_some h
          refine sI (j := (r25.2.1 171 44).toNatClampNeg) hC hw ok193 on193 hi43 rfl dX12_goesOn_43 (fun H locs hw => ?_)
          refine lv_aload_n hx hb dX12_goesOn_44 rfl (lv_at hl 0 rfl) ?_
          refine lv_aload_n hx hb dX12_goesOn_45 rfl (lv_at hl 0 rfl) ?_
          refine gR (t := 193) hC hw fl_X12_82 ok171 (by decide) ot171_42 dX12_goesOn_46 ?_
          refine lv_aload_n hx hb dX12_goesOn_49 rfl (lv_at hl 0 rfl) ?_
          refine gI hC hw fl_X12_430 ok171 (by decide) dX12_goesOn_50 ?_
          obtain ⟨hi53, h⟩ := gd_some h
          refine lI (j := ((si r40.2 193 (r25.2.1 171 44).toNatClampNeg r40.1).1 171 44).toNatClampNeg) hC hw ok193 on193 hi53 rfl dX12_goesOn_53 ?_
          obtain ⟨r54, hr54, h⟩ := bnd h
          refine cV (b := 171) (As := [.int ((si r40.2 193 (r25.2.1 171 44).toNatClampNeg r40.1).1 193 ((si r40.2 193 (r25.2.1 171 44).toNatClampNeg r40.1).1 171 44).toNatClampNeg)]) (rest := []) (st1 := [.int r54.1]) hC hw (c_X12_moves l g n ((si r40.2 193 (r25.2.1 171 44).toNatClampNeg r40.1).1 193 ((si r40.2 193 (r25.2.1 171 44).toNatClampNeg r40.1).1 171 44).toNatClampNeg) (si r40.2 193 (r25.2.1 171 44).toNatClampNeg r40.1) r54 hr54) ml_X12_326 im_X12_moves se_X12_moves ok171 (CN := RX12) (T := TX12) (NF := 54) rfl rfl (by decide) rfl hl.1 ⟨Nat.le_of_ble_eq_true rfl, Nat.le_of_ble_eq_true rfl⟩ (Nat.le_of_ble_eq_true rfl) ⟨Nat.zero_le _, Nat.zero_le _⟩ rfl dX12_goesOn_54 (fun H locs hw => ?_)
          refine lv_pop hx hb dX12_goesOn_57 rfl ?_
          refine lv_aload_n hx hb dX12_goesOn_58 rfl (lv_at hl 0 rfl) ?_
          refine lv_dup hx hb dX12_goesOn_59 rfl ?_
          refine gI hC hw fl_X12_430 ok171 (by decide) dX12_goesOn_60 ?_
          refine lv_iconst (v := (1 : Int32)) hx hb dX12_goesOn_63 (by decide) ?_
          refine lv_iadd hx hb dX12_goesOn_64 ?_
          refine pI hC hw fl_X12_430 fp_12_44 ok171 dX12_goesOn_65 (fun H locs hw => ?_)
          refine lv_aload_n hx hb dX12_goesOn_68 rfl (lv_at hl 0 rfl) ?_
          refine gR (t := 194) hC hw fl_X12_85 ok171 (by decide) ot171_43 dX12_goesOn_69 ?_
          refine lv_aload_n hx hb dX12_goesOn_72 rfl (lv_at hl 0 rfl) ?_
          refine gI hC hw fl_X12_430 ok171 (by decide) dX12_goesOn_73 ?_
          refine lv_aload_n hx hb dX12_goesOn_76 rfl (lv_at hl 0 rfl) ?_
          obtain ⟨r77, hr77, h⟩ := bnd h
          refine cV (b := 171) (As := []) (rest := [.int ((si r54.2 171 44 ((r54.2.1 171 44) + (1 : Int32))).1 171 44), .ref (g.2.2 194)]) (st1 := [.int r77.1, .int ((si r54.2 171 44 ((r54.2.1 171 44) + (1 : Int32))).1 171 44), .ref (g.2.2 194)]) hC hw (c_X12_seatNow l g n (si r54.2 171 44 ((r54.2.1 171 44) + (1 : Int32))) r77 hr77) ml_X12_410 im_X12_seatNow se_X12_seatNow ok171 (CN := RX12) (T := TX12) (NF := 54) rfl rfl (by decide) rfl hl.1 ⟨Nat.le_of_ble_eq_true rfl, Nat.le_of_ble_eq_true rfl⟩ (Nat.le_of_ble_eq_true rfl) ⟨Nat.zero_le _, Nat.zero_le _⟩ rfl dX12_goesOn_77 (fun H locs hw => ?_)
          obtain ⟨hi80, h⟩ := gd_some h
          refine sI (j := ((si r54.2 171 44 ((r54.2.1 171 44) + (1 : Int32))).1 171 44).toNatClampNeg) hC hw ok194 on194 hi80 rfl dX12_goesOn_80 (fun H locs hw => ?_)
          refine lv_iconst (v := (0 : Int32)) hx hb dX12_goesOn_81 (by decide) ?_
          refine lv_istore_n (lv' := [(1, .int (0 : Int32)), (0, .ref (g.2.2 171))]) hx hb dX12_goesOn_82 rfl hl (by decide) rfl (fun ls hl => ?_)
          exact B83 n (0 : Int32) (si r77.2 194 ((si r54.2 171 44 ((r54.2.1 171 44) + (1 : Int32))).1 171 44).toNatClampNeg r77.1) _ _ _ hw (lv_sub hl [1, 0] rfl) h
  refine lv_aload_n hx hb dX12_goesOn_0 rfl (lv_at hl 0 rfl) ?_
  refine lv_iconst (v := (0 : Int32)) hx hb dX12_goesOn_1 (by decide) ?_
  refine pI hC hw fl_X12_430 fp_12_44 ok171 dX12_goesOn_2 (fun H locs hw => ?_)
  refine lv_aload_n hx hb dX12_goesOn_5 rfl (lv_at hl 0 rfl) ?_
  refine gR (t := 194) hC hw fl_X12_85 ok171 (by decide) ot171_43 dX12_goesOn_6 ?_
  refine lv_iconst (v := (0 : Int32)) hx hb dX12_goesOn_9 (by decide) ?_
  refine lv_aload_n hx hb dX12_goesOn_10 rfl (lv_at hl 0 rfl) ?_
  obtain ⟨r11, hr11, h⟩ := bnd h
  refine cV (b := 171) (As := []) (rest := [.int (0 : Int32), .ref (g.2.2 194)]) (st1 := [.int r11.1, .int (0 : Int32), .ref (g.2.2 194)]) hC hw (c_X12_seatNow l g n (si μ 171 44 (0 : Int32)) r11 hr11) ml_X12_410 im_X12_seatNow se_X12_seatNow ok171 (CN := RX12) (T := TX12) (NF := 54) rfl rfl (by decide) rfl hl.1 ⟨Nat.le_of_ble_eq_true rfl, Nat.le_of_ble_eq_true rfl⟩ (Nat.le_of_ble_eq_true rfl) ⟨Nat.zero_le _, Nat.zero_le _⟩ rfl dX12_goesOn_11 (fun H locs hw => ?_)
  refine sI (j := 0) hC hw ok194 on194 (vin (by decide)) (by decide) dX12_goesOn_14 (fun H locs hw => ?_)
  exact B15 n (si r11.2 194 0 r11.1) _ _ _ hw (lv_sub hl [0] rfl) h
set_option maxRecDepth 100000 in
set_option maxHeartbeats 4000000 in
theorem c_X12_pits (l : Launch) (g : Gw) (n : Nat) (v1 : Int32) (μ : Mu) (r : Int32 × Mu) (h : X12_pits n v1 μ = some r) : Ct l g yX12_pits cX12_pits 4 (some .int) 7 [.ref (g.2.2 171), .int v1] μ (some (.int r.1)) r.2 := by
  rw [X12_pits] at h
  refine Ct.of (by decide) (Nat.le_of_ble_eq_true rfl) ?_
  intro p e s m args below meth c ls hC hw hr hlocks hl
  have hx := hC.1
  have hb := hC.2.1
  have hl : lv_has ls 4 [(0, .ref (g.2.2 171)), (1, .int v1)] := hl
  have B118 : ∀ (v2 : Int32) (μ : Mu) (H : Heap) (locs : List Loc) (ls : Array Slot), wd g μ s (Aw g s.heap.size) H locs → lv_has ls 4 [(2, .int v2)] → X12_pits_118 n v1 v2 μ = some r → WQ p l e (rmD 7) s m args below meth c g (some (.int r.1)) r.2 H locs (F0 m 118 ls []) := by
    intro v2 μ H locs ls hw hl h
    rw [X12_pits_118] at h
    refine lv_iload_n hx hb dX12_pits_118 rfl (lv_at hl 0 rfl) ?_
    exact rI hC hw hr hlocks (by rw [← Option.some.inj h]) (by rw [← Option.some.inj h]) dX12_pits_119
  have B25 : ∀ (k : Nat), ∀ (v2 : Int32) (v3 : Int32) (μ : Mu) (H : Heap) (locs : List Loc) (ls : Array Slot), wd g μ s (Aw g s.heap.size) H locs → lv_has ls 4 [(0, .ref (g.2.2 171)), (1, .int v1), (2, .int v2), (3, .int v3)] → lpF (fun _ _ _ => none) (X12_pits_25b n v1) k v2 v3 μ = some r → WQ p l e (rmD 7) s m args below meth c g (some (.int r.1)) r.2 H locs (F0 m 25 ls []) := by
    intro k
    induction k with
    | zero =>
      intro v2 v3 μ H locs ls hw hl h
      cases h
    | succ k ih25 =>
      rw [lpF_s]
      generalize lpF (fun _ _ _ => none) (X12_pits_25b n v1) k = k25 at ih25 ⊢
      intro v2 v3 μ H locs ls hw hl h
      have B112 : ∀ (v2 : Int32) (v3 : Int32) (μ : Mu) (H : Heap) (locs : List Loc) (ls : Array Slot), wd g μ s (Aw g s.heap.size) H locs → lv_has ls 4 [(0, .ref (g.2.2 171)), (1, .int v1), (2, .int v2), (3, .int v3)] → X12_pits_112 n v1 k25 v2 v3 μ = some r → WQ p l e (rmD 7) s m args below meth c g (some (.int r.1)) r.2 H locs (F0 m 112 ls []) := by
        intro v2 v3 μ H locs ls hw hl h
        rw [X12_pits_112] at h
        refine lv_iinc (v := (v3 + (1 : Int32))) (lv' := [(3, .int (v3 + (1 : Int32))), (0, .ref (g.2.2 171)), (1, .int v1), (2, .int v2)]) hx hb dX12_pits_112 hl (k := 3) rfl rfl (by decide) rfl (fun ls hl => ?_)
        refine lv_goto (tgt := 25) hx hb dX12_pits_115 (by decide) ?_
        exact ih25 v2 (v3 + (1 : Int32)) μ _ _ _ hw (lv_sub hl [1, 2, 3, 0] rfl) h
      have B110 : ∀ (v3 : Int32) (s0 : Int32) (s1 : Int32) (μ : Mu) (H : Heap) (locs : List Loc) (ls : Array Slot), wd g μ s (Aw g s.heap.size) H locs → lv_has ls 4 [(0, .ref (g.2.2 171)), (1, .int v1), (3, .int v3)] → X12_pits_110 n v1 k25 v3 s0 s1 μ = some r → WQ p l e (rmD 7) s m args below meth c g (some (.int r.1)) r.2 H locs (F0 m 110 ls [.int s1, .int s0]) := by
        intro v3 s0 s1 μ H locs ls hw hl h
        rw [X12_pits_110] at h
        refine lv_ior hx hb dX12_pits_110 ?_
        refine lv_istore_n (lv' := [(2, .int (s0 ||| s1)), (0, .ref (g.2.2 171)), (1, .int v1), (3, .int v3)]) hx hb dX12_pits_111 rfl hl (by decide) rfl (fun ls hl => ?_)
        exact B112 (s0 ||| s1) v3 μ _ _ _ hw (lv_sub hl [1, 2, 0, 3] rfl) h
      have B103 : ∀ (v3 : Int32) (s0 : Int32) (μ : Mu) (H : Heap) (locs : List Loc) (ls : Array Slot), wd g μ s (Aw g s.heap.size) H locs → lv_has ls 4 [(0, .ref (g.2.2 171)), (1, .int v1), (3, .int v3)] → X12_pits_103 n v1 k25 v3 s0 μ = some r → WQ p l e (rmD 7) s m args below meth c g (some (.int r.1)) r.2 H locs (F0 m 103 ls [.int s0]) := by
        intro v3 s0 μ H locs ls hw hl h
        rw [X12_pits_103] at h
        refine lv_iconst (v := (1 : Int32)) hx hb dX12_pits_103 (by decide) ?_
        refine lv_iload_n hx hb dX12_pits_104 rfl (lv_at hl 2 rfl) ?_
        refine lv_ishl hx hb dX12_pits_105 ?_
        refine lv_goto (tgt := 110) hx hb dX12_pits_106 (by decide) ?_
        exact B110 v3 s0 ((1 : Int32) <<< (v3 &&& 31)) μ _ _ _ hw (lv_sub hl [0, 1, 2] rfl) h
      have B109 : ∀ (v3 : Int32) (s0 : Int32) (μ : Mu) (H : Heap) (locs : List Loc) (ls : Array Slot), wd g μ s (Aw g s.heap.size) H locs → lv_has ls 4 [(0, .ref (g.2.2 171)), (1, .int v1), (3, .int v3)] → X12_pits_109 n v1 k25 v3 s0 μ = some r → WQ p l e (rmD 7) s m args below meth c g (some (.int r.1)) r.2 H locs (F0 m 109 ls [.int s0]) := by
        intro v3 s0 μ H locs ls hw hl h
        rw [X12_pits_109] at h
        refine lv_iconst (v := (0 : Int32)) hx hb dX12_pits_109 (by decide) ?_
        exact B110 v3 s0 (0 : Int32) μ _ _ _ hw (lv_sub hl [0, 1, 2] rfl) h
      rw [X12_pits_25b] at h
      refine lv_iload_n hx hb dX12_pits_25 rfl (lv_at hl 3 rfl) ?_
      refine lv_aload_n hx hb dX12_pits_26 rfl (lv_at hl 0 rfl) ?_
      obtain ⟨r27, hr27, h⟩ := bnd h
      refine cV (b := 171) (As := []) (rest := [.int v3]) (st1 := [.int r27.1, .int v3]) hC hw (c_X12_pitMany l g n μ r27 hr27) ml_X12_245 im_X12_pitMany se_X12_pitMany ok171 (CN := RX12) (T := TX12) (NF := 54) rfl rfl (by decide) rfl hl.1 ⟨Nat.le_of_ble_eq_true rfl, Nat.le_of_ble_eq_true rfl⟩ (Nat.le_of_ble_eq_true rfl) ⟨Nat.zero_le _, Nat.zero_le _⟩ rfl dX12_pits_27 (fun H locs hw => ?_)
      refine lv_icmp_ge (tgt := 118) hx hb dX12_pits_30 (by decide) (fun hc => ?_) (fun hc => ?_)
      · rw [if_pos hc] at h
        exact B118 v2 r27.2 _ _ _ hw (lv_sub hl [2] rfl) h
      · rw [if_neg hc] at h
        refine lv_aload_n hx hb dX12_pits_33 rfl (lv_at hl 0 rfl) ?_
        refine gI hC hw fl_X12_107 ok171 (by decide) dX12_pits_34 ?_
        refine lv_if_ne (tgt := 118) hx hb dX12_pits_37 (by decide) (fun hc => ?_) (fun hc => ?_)
        · rw [if_neg hc] at h
          exact B118 v2 r27.2 _ _ _ hw (lv_sub hl [2] rfl) h
        · rw [if_pos hc] at h
          refine lv_aload_n hx hb dX12_pits_40 rfl (lv_at hl 0 rfl) ?_
          refine lv_iload_n hx hb dX12_pits_41 rfl (lv_at hl 3 rfl) ?_
          obtain ⟨r42, hr42, h⟩ := bnd h
          refine cV (b := 171) (As := [.int v3]) (rest := []) (st1 := [.int r42.1]) hC hw (c_X12_whyNot l g n v3 r27.2 r42 hr42) ml_X12_311 im_X12_whyNot se_X12_whyNot ok171 (CN := RX12) (T := TX12) (NF := 54) rfl rfl (by decide) rfl hl.1 ⟨Nat.le_of_ble_eq_true rfl, Nat.le_of_ble_eq_true rfl⟩ (Nat.le_of_ble_eq_true rfl) ⟨Nat.zero_le _, Nat.zero_le _⟩ rfl dX12_pits_42 (fun H locs hw => ?_)
          refine lv_if_eq (tgt := 51) hx hb dX12_pits_45 (by decide) (fun hc => ?_) (fun hc => ?_)
          · rw [if_pos hc] at h
            refine lv_aload_n hx hb dX12_pits_51 rfl (lv_at hl 0 rfl) ?_
            refine lv_iload_n hx hb dX12_pits_52 rfl (lv_at hl 3 rfl) ?_
            obtain ⟨r53, hr53, h⟩ := bnd h
            refine cV (b := 171) (As := [.int v3]) (rest := []) (st1 := []) hC hw (c_X12_triesFrom l g n v3 r42.2 r53 hr53) ml_X12_302 im_X12_triesFrom se_X12_triesFrom ok171 (CN := RX12) (T := TX12) (NF := 54) rfl rfl (by decide) rfl hl.1 ⟨Nat.le_of_ble_eq_true rfl, Nat.le_of_ble_eq_true rfl⟩ (Nat.le_of_ble_eq_true rfl) ⟨Nat.zero_le _, Nat.zero_le _⟩ rfl dX12_pits_53 (fun H locs hw => ?_)
            refine lv_iload_n hx hb dX12_pits_56 rfl (lv_at hl 2 rfl) ?_
            refine lv_iload_n hx hb dX12_pits_57 rfl (lv_at hl 1 rfl) ?_
            refine lv_if_ne (tgt := 73) hx hb dX12_pits_58 (by decide) (fun hc => ?_) (fun hc => ?_)
            · rw [if_neg hc] at h
              refine lv_iload_n hx hb dX12_pits_73 rfl (lv_at hl 1 rfl) ?_
              refine lv_iconst (v := (1 : Int32)) hx hb dX12_pits_74 (by decide) ?_
              refine lv_icmp_ne (tgt := 88) hx hb dX12_pits_75 (by decide) (fun hc => ?_) (fun hc => ?_)
              · rw [if_neg hc] at h
                refine lv_aload_n hx hb dX12_pits_88 rfl (lv_at hl 0 rfl) ?_
                refine lv_iconst (v := (1 : Int32)) hx hb dX12_pits_89 (by decide) ?_
                refine lv_aload_n hx hb dX12_pits_90 rfl (lv_at hl 0 rfl) ?_
                refine gR (t := 172) hC hw fl_X12_9 ok171 (by decide) ot171_0 dX12_pits_91 ?_
                refine lv_iconst (v := (2 : Int32)) hx hb dX12_pits_94 (by decide) ?_
                refine lI (j := 2) hC hw ok172 on172 (vin (by decide)) (by decide) dX12_pits_95 ?_
                refine lv_isub hx hb dX12_pits_96 ?_
                obtain ⟨r97, hr97, h⟩ := bnd h
                refine cV (b := 171) (As := [.int ((1 : Int32) - (r53.2.1 172 2))]) (rest := [.int v2]) (st1 := [.int r97.1, .int v2]) hC hw (c_X12_sum l g n ((1 : Int32) - (r53.2.1 172 2)) r53.2 r97 hr97) ml_X12_290 im_X12_sum se_X12_sum ok171 (CN := RX12) (T := TX12) (NF := 54) rfl rfl (by decide) rfl hl.1 ⟨Nat.le_of_ble_eq_true rfl, Nat.le_of_ble_eq_true rfl⟩ (Nat.le_of_ble_eq_true rfl) ⟨Nat.zero_le _, Nat.zero_le _⟩ rfl dX12_pits_97 (fun H locs hw => ?_)
                refine lv_if_ne (tgt := 109) hx hb dX12_pits_100 (by decide) (fun hc => ?_) (fun hc => ?_)
                · rw [if_neg hc] at h
                  exact B109 v3 v2 r97.2 _ _ _ hw (lv_sub hl [0, 1, 3] rfl) h
                · rw [if_pos hc] at h
                  exact B103 v3 v2 r97.2 _ _ _ hw (lv_sub hl [0, 1, 3] rfl) h
              · rw [if_pos hc] at h
                refine lv_aload_n hx hb dX12_pits_78 rfl (lv_at hl 0 rfl) ?_
                refine gI hC hw fl_X12_266 ok171 (by decide) dX12_pits_79 ?_
                refine lv_if_le (tgt := 109) hx hb dX12_pits_82 (by decide) (fun hc => ?_) (fun hc => ?_)
                · rw [if_pos hc] at h
                  exact B109 v3 v2 r53.2 _ _ _ hw (lv_sub hl [0, 1, 3] rfl) h
                · rw [if_neg hc] at h
                  refine lv_goto (tgt := 103) hx hb dX12_pits_85 (by decide) ?_
                  exact B103 v3 v2 r53.2 _ _ _ hw (lv_sub hl [0, 1, 3] rfl) h
            · rw [if_pos hc] at h
              refine lv_aload_n hx hb dX12_pits_61 rfl (lv_at hl 0 rfl) ?_
              refine gI hC hw fl_X12_277 ok171 (by decide) dX12_pits_62 ?_
              refine lv_bipush (v := (100 : Int32)) hx hb dX12_pits_65 (by decide) ?_
              refine lv_icmp_ne (tgt := 109) hx hb dX12_pits_67 (by decide) (fun hc => ?_) (fun hc => ?_)
              · rw [if_neg hc] at h
                exact B109 v3 v2 r53.2 _ _ _ hw (lv_sub hl [0, 1, 3] rfl) h
              · rw [if_pos hc] at h
                refine lv_goto (tgt := 103) hx hb dX12_pits_70 (by decide) ?_
                exact B103 v3 v2 r53.2 _ _ _ hw (lv_sub hl [0, 1, 3] rfl) h
          · rw [if_neg hc] at h
            refine lv_goto (tgt := 112) hx hb dX12_pits_48 (by decide) ?_
            exact B112 v2 v3 r42.2 _ _ _ hw (lv_sub hl [0, 1, 2, 3] rfl) h
  have B18 : ∀ (s1 : Int32) (μ : Mu) (H : Heap) (locs : List Loc) (ls : Array Slot), wd g μ s (Aw g s.heap.size) H locs → lv_has ls 4 [(0, .ref (g.2.2 171)), (1, .int v1)] → X12_pits_18 n v1 s1 μ = some r → WQ p l e (rmD 7) s m args below meth c g (some (.int r.1)) r.2 H locs (F0 m 18 ls [.int s1, .ref (g.2.2 171)]) := by
    intro s1 μ H locs ls hw hl h
    rw [X12_pits_18] at h
    refine pI hC hw fl_X12_107 fp_12_5 ok171 dX12_pits_18 (fun H locs hw => ?_)
    refine lv_iconst (v := (0 : Int32)) hx hb dX12_pits_21 (by decide) ?_
    refine lv_istore_n (lv' := [(2, .int (0 : Int32)), (0, .ref (g.2.2 171)), (1, .int v1)]) hx hb dX12_pits_22 rfl hl (by decide) rfl (fun ls hl => ?_)
    refine lv_iconst (v := (0 : Int32)) hx hb dX12_pits_23 (by decide) ?_
    refine lv_istore_n (lv' := [(3, .int (0 : Int32)), (2, .int (0 : Int32)), (0, .ref (g.2.2 171)), (1, .int v1)]) hx hb dX12_pits_24 rfl hl (by decide) rfl (fun ls hl => ?_)
    exact B25 n (0 : Int32) (0 : Int32) (si μ 171 5 s1) _ _ _ hw (lv_sub hl [2, 3, 1, 0] rfl) h
  refine lv_aload_n hx hb dX12_pits_0 rfl (lv_at hl 0 rfl) ?_
  refine lv_iload_n hx hb dX12_pits_1 rfl (lv_at hl 1 rfl) ?_
  refine lv_i2l hx hb dX12_pits_2 rfl ?_
  refine lv_lconst (v := (0 : Int64)) hx hb dX12_pits_3 (by decide) ?_
  refine lv_ldc2 (v := (2 : Int64)) hx hb hC.2.2.2.1 (hC.2.2.2.2.1 _ cl_X12_453) dX12_pits_4 ?_
  obtain ⟨r7, hr7, h⟩ := bnd h
  refine cS (As := [.long (v1.toInt64), .long (0 : Int64), .long (2 : Int64)]) (rest := [.ref (g.2.2 171)]) (st1 := [.int r7.1, .ref (g.2.2 171)]) hC hw (c_X12_within l g n (v1.toInt64) (0 : Int64) (2 : Int64) μ r7 hr7) ml_X12_166 st_X12_within rfl hl.1 ⟨Nat.le_of_ble_eq_true rfl, Nat.le_of_ble_eq_true rfl⟩ (Nat.le_of_ble_eq_true rfl) ⟨Nat.zero_le _, Nat.zero_le _⟩ rfl dX12_pits_7 (fun H locs hw => ?_)
  refine lv_if_eq (tgt := 17) hx hb dX12_pits_10 (by decide) (fun hc => ?_) (fun hc => ?_)
  · rw [if_pos hc] at h
    refine lv_iconst (v := (1 : Int32)) hx hb dX12_pits_17 (by decide) ?_
    exact B18 (1 : Int32) r7.2 _ _ _ hw (lv_sub hl [0, 1] rfl) h
  · rw [if_neg hc] at h
    refine lv_iconst (v := (0 : Int32)) hx hb dX12_pits_13 (by decide) ?_
    refine lv_goto (tgt := 18) hx hb dX12_pits_14 (by decide) ?_
    exact B18 (0 : Int32) r7.2 _ _ _ hw (lv_sub hl [0, 1] rfl) h
set_option maxRecDepth 100000 in
set_option maxHeartbeats 4000000 in
theorem c_X12_only (l : Launch) (g : Gw) (n : Nat) (μ : Mu) (r : Int32 × Mu) (h : X12_only n  μ = some r) : Ct l g yX12_only cX12_only 3 (some .int) 7 [.ref (g.2.2 171)] μ (some (.int r.1)) r.2 := by
  rw [X12_only] at h
  refine Ct.of (by decide) (Nat.le_of_ble_eq_true rfl) ?_
  intro p e s m args below meth c ls hC hw hr hlocks hl
  have hx := hC.1
  have hb := hC.2.1
  have hl : lv_has ls 3 [(0, .ref (g.2.2 171))] := hl
  have B4 : ∀ (k : Nat), ∀ (v1 : Int32) (v2 : Int32) (μ : Mu) (H : Heap) (locs : List Loc) (ls : Array Slot), wd g μ s (Aw g s.heap.size) H locs → lv_has ls 3 [(0, .ref (g.2.2 171)), (1, .int v1), (2, .int v2)] → lpF (fun _ _ _ => none) (X12_only_4b n) k v1 v2 μ = some r → WQ p l e (rmD 7) s m args below meth c g (some (.int r.1)) r.2 H locs (F0 m 4 ls []) := by
    intro k
    induction k with
    | zero =>
      intro v1 v2 μ H locs ls hw hl h
      cases h
    | succ k ih4 =>
      rw [lpF_s]
      generalize lpF (fun _ _ _ => none) (X12_only_4b n) k = k4 at ih4 ⊢
      intro v1 v2 μ H locs ls hw hl h
      have B32 : ∀ (v1 : Int32) (v2 : Int32) (μ : Mu) (H : Heap) (locs : List Loc) (ls : Array Slot), wd g μ s (Aw g s.heap.size) H locs → lv_has ls 3 [(0, .ref (g.2.2 171)), (1, .int v1), (2, .int v2)] → X12_only_32 n k4 v1 v2 μ = some r → WQ p l e (rmD 7) s m args below meth c g (some (.int r.1)) r.2 H locs (F0 m 32 ls []) := by
        intro v1 v2 μ H locs ls hw hl h
        rw [X12_only_32] at h
        refine lv_iinc (v := (v2 + (1 : Int32))) (lv' := [(2, .int (v2 + (1 : Int32))), (0, .ref (g.2.2 171)), (1, .int v1)]) hx hb dX12_only_32 hl (k := 2) rfl rfl (by decide) rfl (fun ls hl => ?_)
        refine lv_goto (tgt := 4) hx hb dX12_only_35 (by decide) ?_
        exact ih4 v1 (v2 + (1 : Int32)) μ _ _ _ hw (lv_sub hl [1, 2, 0] rfl) h
      rw [X12_only_4b] at h
      refine lv_iload_n hx hb dX12_only_4 rfl (lv_at hl 2 rfl) ?_
      refine lv_aload_n hx hb dX12_only_5 rfl (lv_at hl 0 rfl) ?_
      obtain ⟨r6, hr6, h⟩ := bnd h
      refine cV (b := 171) (As := []) (rest := [.int v2]) (st1 := [.int r6.1, .int v2]) hC hw (c_X12_pitMany l g n μ r6 hr6) ml_X12_245 im_X12_pitMany se_X12_pitMany ok171 (CN := RX12) (T := TX12) (NF := 54) rfl rfl (by decide) rfl hl.1 ⟨Nat.le_of_ble_eq_true rfl, Nat.le_of_ble_eq_true rfl⟩ (Nat.le_of_ble_eq_true rfl) ⟨Nat.zero_le _, Nat.zero_le _⟩ rfl dX12_only_6 (fun H locs hw => ?_)
      refine lv_icmp_ge (tgt := 38) hx hb dX12_only_9 (by decide) (fun hc => ?_) (fun hc => ?_)
      · rw [if_pos hc] at h
        refine lv_iload_n hx hb dX12_only_38 rfl (lv_at hl 1 rfl) ?_
        exact rI hC hw hr hlocks (by rw [← Option.some.inj h]) (by rw [← Option.some.inj h]) dX12_only_39
      · rw [if_neg hc] at h
        refine lv_aload_n hx hb dX12_only_12 rfl (lv_at hl 0 rfl) ?_
        refine lv_iload_n hx hb dX12_only_13 rfl (lv_at hl 2 rfl) ?_
        obtain ⟨r14, hr14, h⟩ := bnd h
        refine cV (b := 171) (As := [.int v2]) (rest := []) (st1 := [.int r14.1]) hC hw (c_X12_whyNot l g n v2 r6.2 r14 hr14) ml_X12_311 im_X12_whyNot se_X12_whyNot ok171 (CN := RX12) (T := TX12) (NF := 54) rfl rfl (by decide) rfl hl.1 ⟨Nat.le_of_ble_eq_true rfl, Nat.le_of_ble_eq_true rfl⟩ (Nat.le_of_ble_eq_true rfl) ⟨Nat.zero_le _, Nat.zero_le _⟩ rfl dX12_only_14 (fun H locs hw => ?_)
        refine lv_if_eq (tgt := 23) hx hb dX12_only_17 (by decide) (fun hc => ?_) (fun hc => ?_)
        · rw [if_pos hc] at h
          refine lv_iload_n hx hb dX12_only_23 rfl (lv_at hl 1 rfl) ?_
          refine lv_iconst (v := ((-1) : Int32)) hx hb dX12_only_24 (by decide) ?_
          refine lv_icmp_eq (tgt := 30) hx hb dX12_only_25 (by decide) (fun hc => ?_) (fun hc => ?_)
          · rw [if_pos hc] at h
            refine lv_iload_n hx hb dX12_only_30 rfl (lv_at hl 2 rfl) ?_
            refine lv_istore_n (lv' := [(1, .int v2), (0, .ref (g.2.2 171)), (2, .int v2)]) hx hb dX12_only_31 rfl hl (by decide) rfl (fun ls hl => ?_)
            exact B32 v2 v2 r14.2 _ _ _ hw (lv_sub hl [1, 0, 2] rfl) h
          · rw [if_neg hc] at h
            refine lv_iconst (v := ((-1) : Int32)) hx hb dX12_only_28 (by decide) ?_
            exact rI hC hw hr hlocks (by rw [← Option.some.inj h]) (by rw [← Option.some.inj h]) dX12_only_29
        · rw [if_neg hc] at h
          refine lv_goto (tgt := 32) hx hb dX12_only_20 (by decide) ?_
          exact B32 v1 v2 r14.2 _ _ _ hw (lv_sub hl [0, 1, 2] rfl) h
  refine lv_iconst (v := ((-1) : Int32)) hx hb dX12_only_0 (by decide) ?_
  refine lv_istore_n (lv' := [(1, .int ((-1) : Int32)), (0, .ref (g.2.2 171))]) hx hb dX12_only_1 rfl hl (by decide) rfl (fun ls hl => ?_)
  refine lv_iconst (v := (0 : Int32)) hx hb dX12_only_2 (by decide) ?_
  refine lv_istore_n (lv' := [(2, .int (0 : Int32)), (1, .int ((-1) : Int32)), (0, .ref (g.2.2 171))]) hx hb dX12_only_3 rfl hl (by decide) rfl (fun ls hl => ?_)
  exact B4 n ((-1) : Int32) (0 : Int32) μ _ _ _ hw (lv_sub hl [2, 1, 0] rfl) h
set_option maxRecDepth 100000 in
set_option maxHeartbeats 4000000 in
theorem c_X12_drawn (l : Launch) (g : Gw) (n : Nat) (μ : Mu) (r : Int32 × Mu) (h : X12_drawn n  μ = some r) : Ct l g yX12_drawn cX12_drawn 4 (some .int) 7 [.ref (g.2.2 171)] μ (some (.int r.1)) r.2 := by
  rw [X12_drawn] at h
  refine Ct.of (by decide) (Nat.le_of_ble_eq_true rfl) ?_
  intro p e s m args below meth c ls hC hw hr hlocks hl
  have hx := hC.1
  have hb := hC.2.1
  have hl : lv_has ls 4 [(0, .ref (g.2.2 171))] := hl
  have B42 : ∀ (k : Nat), ∀ (v2 : Int32) (v3 : Int32) (μ : Mu) (H : Heap) (locs : List Loc) (ls : Array Slot), wd g μ s (Aw g s.heap.size) H locs → lv_has ls 4 [(0, .ref (g.2.2 171)), (2, .int v2), (3, .int v3)] → lpF (fun _ _ _ => none) (X12_drawn_42b n) k v2 v3 μ = some r → WQ p l e (rmD 7) s m args below meth c g (some (.int r.1)) r.2 H locs (F0 m 42 ls []) := by
    intro k
    induction k with
    | zero =>
      intro v2 v3 μ H locs ls hw hl h
      cases h
    | succ k ih42 =>
      rw [lpF_s]
      generalize lpF (fun _ _ _ => none) (X12_drawn_42b n) k = k42 at ih42 ⊢
      intro v2 v3 μ H locs ls hw hl h
      have B68 : ∀ (v3 : Int32) (s0 : Int32) (s1 : Int32) (μ : Mu) (H : Heap) (locs : List Loc) (ls : Array Slot), wd g μ s (Aw g s.heap.size) H locs → lv_has ls 4 [(0, .ref (g.2.2 171)), (3, .int v3)] → X12_drawn_68 n k42 v3 s0 s1 μ = some r → WQ p l e (rmD 7) s m args below meth c g (some (.int r.1)) r.2 H locs (F0 m 68 ls [.int s1, .int s0]) := by
        intro v3 s0 s1 μ H locs ls hw hl h
        rw [X12_drawn_68] at h
        refine lv_isub hx hb dX12_drawn_68 ?_
        refine lv_istore_n (lv' := [(2, .int (s0 - s1)), (0, .ref (g.2.2 171)), (3, .int v3)]) hx hb dX12_drawn_69 rfl hl (by decide) rfl (fun ls hl => ?_)
        refine lv_iinc (v := (v3 + (1 : Int32))) (lv' := [(3, .int (v3 + (1 : Int32))), (2, .int (s0 - s1)), (0, .ref (g.2.2 171))]) hx hb dX12_drawn_70 hl (k := 2) rfl rfl (by decide) rfl (fun ls hl => ?_)
        refine lv_goto (tgt := 42) hx hb dX12_drawn_73 (by decide) ?_
        exact ih42 (s0 - s1) (v3 + (1 : Int32)) μ _ _ _ hw (lv_sub hl [2, 1, 0] rfl) h
      have B54 : ∀ (v2 : Int32) (v3 : Int32) (μ : Mu) (H : Heap) (locs : List Loc) (ls : Array Slot), wd g μ s (Aw g s.heap.size) H locs → lv_has ls 4 [(0, .ref (g.2.2 171)), (2, .int v2), (3, .int v3)] → X12_drawn_54 n k42 v2 v3 μ = some r → WQ p l e (rmD 7) s m args below meth c g (some (.int r.1)) r.2 H locs (F0 m 54 ls []) := by
        intro v2 v3 μ H locs ls hw hl h
        rw [X12_drawn_54] at h
        refine lv_iload_n hx hb dX12_drawn_54 rfl (lv_at hl 1 rfl) ?_
        refine lv_aload_n hx hb dX12_drawn_55 rfl (lv_at hl 0 rfl) ?_
        refine lv_iload_n hx hb dX12_drawn_56 rfl (lv_at hl 2 rfl) ?_
        obtain ⟨r57, hr57, h⟩ := bnd h
        refine cV (b := 171) (As := [.int v3]) (rest := [.int v2]) (st1 := [.int r57.1, .int v2]) hC hw (c_X12_whyNot l g n v3 μ r57 hr57) ml_X12_311 im_X12_whyNot se_X12_whyNot ok171 (CN := RX12) (T := TX12) (NF := 54) rfl rfl (by decide) rfl hl.1 ⟨Nat.le_of_ble_eq_true rfl, Nat.le_of_ble_eq_true rfl⟩ (Nat.le_of_ble_eq_true rfl) ⟨Nat.zero_le _, Nat.zero_le _⟩ rfl dX12_drawn_57 (fun H locs hw => ?_)
        refine lv_if_ne (tgt := 67) hx hb dX12_drawn_60 (by decide) (fun hc => ?_) (fun hc => ?_)
        · rw [if_neg hc] at h
          refine lv_iconst (v := (0 : Int32)) hx hb dX12_drawn_67 (by decide) ?_
          exact B68 v3 v2 (0 : Int32) r57.2 _ _ _ hw (lv_sub hl [0, 2] rfl) h
        · rw [if_pos hc] at h
          refine lv_iconst (v := (1 : Int32)) hx hb dX12_drawn_63 (by decide) ?_
          refine lv_goto (tgt := 68) hx hb dX12_drawn_64 (by decide) ?_
          exact B68 v3 v2 (1 : Int32) r57.2 _ _ _ hw (lv_sub hl [0, 2] rfl) h
      rw [X12_drawn_42b] at h
      refine lv_aload_n hx hb dX12_drawn_42 rfl (lv_at hl 0 rfl) ?_
      refine lv_iload_n hx hb dX12_drawn_43 rfl (lv_at hl 2 rfl) ?_
      obtain ⟨r44, hr44, h⟩ := bnd h
      refine cV (b := 171) (As := [.int v3]) (rest := []) (st1 := [.int r44.1]) hC hw (c_X12_whyNot l g n v3 μ r44 hr44) ml_X12_311 im_X12_whyNot se_X12_whyNot ok171 (CN := RX12) (T := TX12) (NF := 54) rfl rfl (by decide) rfl hl.1 ⟨Nat.le_of_ble_eq_true rfl, Nat.le_of_ble_eq_true rfl⟩ (Nat.le_of_ble_eq_true rfl) ⟨Nat.zero_le _, Nat.zero_le _⟩ rfl dX12_drawn_44 (fun H locs hw => ?_)
      refine lv_if_ne (tgt := 54) hx hb dX12_drawn_47 (by decide) (fun hc => ?_) (fun hc => ?_)
      · rw [if_neg hc] at h
        exact B54 v2 v3 r44.2 _ _ _ hw (lv_sub hl [0, 1, 2] rfl) h
      · rw [if_pos hc] at h
        refine lv_iload_n hx hb dX12_drawn_50 rfl (lv_at hl 1 rfl) ?_
        refine lv_if_le (tgt := 76) hx hb dX12_drawn_51 (by decide) (fun hc => ?_) (fun hc => ?_)
        · rw [if_pos hc] at h
          refine lv_iload_n hx hb dX12_drawn_76 rfl (lv_at hl 2 rfl) ?_
          exact rI hC hw hr hlocks (by rw [← Option.some.inj h]) (by rw [← Option.some.inj h]) dX12_drawn_77
        · rw [if_neg hc] at h
          exact B54 v2 v3 r44.2 _ _ _ hw (lv_sub hl [0, 1, 2] rfl) h
  have B4 : ∀ (k : Nat), ∀ (v1 : Int32) (v2 : Int32) (μ : Mu) (H : Heap) (locs : List Loc) (ls : Array Slot), wd g μ s (Aw g s.heap.size) H locs → lv_has ls 4 [(0, .ref (g.2.2 171)), (1, .int v1), (2, .int v2)] → lpF (fun _ _ _ => none) (X12_drawn_4b n) k v1 v2 μ = some r → WQ p l e (rmD 7) s m args below meth c g (some (.int r.1)) r.2 H locs (F0 m 4 ls []) := by
    intro k
    induction k with
    | zero =>
      intro v1 v2 μ H locs ls hw hl h
      cases h
    | succ k ih4 =>
      rw [lpF_s]
      generalize lpF (fun _ _ _ => none) (X12_drawn_4b n) k = k4 at ih4 ⊢
      intro v1 v2 μ H locs ls hw hl h
      have B26 : ∀ (v2 : Int32) (s0 : Int32) (s1 : Int32) (μ : Mu) (H : Heap) (locs : List Loc) (ls : Array Slot), wd g μ s (Aw g s.heap.size) H locs → lv_has ls 4 [(0, .ref (g.2.2 171)), (2, .int v2)] → X12_drawn_26 n k4 v2 s0 s1 μ = some r → WQ p l e (rmD 7) s m args below meth c g (some (.int r.1)) r.2 H locs (F0 m 26 ls [.int s1, .int s0]) := by
        intro v2 s0 s1 μ H locs ls hw hl h
        rw [X12_drawn_26] at h
        refine lv_iadd hx hb dX12_drawn_26 ?_
        refine lv_istore_n (lv' := [(1, .int (s0 + s1)), (0, .ref (g.2.2 171)), (2, .int v2)]) hx hb dX12_drawn_27 rfl hl (by decide) rfl (fun ls hl => ?_)
        refine lv_iinc (v := (v2 + (1 : Int32))) (lv' := [(2, .int (v2 + (1 : Int32))), (1, .int (s0 + s1)), (0, .ref (g.2.2 171))]) hx hb dX12_drawn_28 hl (k := 2) rfl rfl (by decide) rfl (fun ls hl => ?_)
        refine lv_goto (tgt := 4) hx hb dX12_drawn_31 (by decide) ?_
        exact ih4 (s0 + s1) (v2 + (1 : Int32)) μ _ _ _ hw (lv_sub hl [2, 1, 0] rfl) h
      rw [X12_drawn_4b] at h
      refine lv_iload_n hx hb dX12_drawn_4 rfl (lv_at hl 2 rfl) ?_
      refine lv_aload_n hx hb dX12_drawn_5 rfl (lv_at hl 0 rfl) ?_
      obtain ⟨r6, hr6, h⟩ := bnd h
      refine cV (b := 171) (As := []) (rest := [.int v2]) (st1 := [.int r6.1, .int v2]) hC hw (c_X12_pitMany l g n μ r6 hr6) ml_X12_245 im_X12_pitMany se_X12_pitMany ok171 (CN := RX12) (T := TX12) (NF := 54) rfl rfl (by decide) rfl hl.1 ⟨Nat.le_of_ble_eq_true rfl, Nat.le_of_ble_eq_true rfl⟩ (Nat.le_of_ble_eq_true rfl) ⟨Nat.zero_le _, Nat.zero_le _⟩ rfl dX12_drawn_6 (fun H locs hw => ?_)
      refine lv_icmp_ge (tgt := 34) hx hb dX12_drawn_9 (by decide) (fun hc => ?_) (fun hc => ?_)
      · rw [if_pos hc] at h
        refine lv_aload_n hx hb dX12_drawn_34 rfl (lv_at hl 0 rfl) ?_
        refine lv_iload_n hx hb dX12_drawn_35 rfl (lv_at hl 1 rfl) ?_
        obtain ⟨r36, hr36, h⟩ := bnd h
        refine cV (b := 171) (As := [.int v1]) (rest := []) (st1 := [.int r36.1]) hC hw (c_X12_draw l g n v1 r6.2 r36 hr36) ml_X12_462 im_X12_draw se_X12_draw ok171 (CN := RX12) (T := TX12) (NF := 54) rfl rfl (by decide) rfl hl.1 ⟨Nat.le_of_ble_eq_true rfl, Nat.le_of_ble_eq_true rfl⟩ (Nat.le_of_ble_eq_true rfl) ⟨Nat.zero_le _, Nat.zero_le _⟩ rfl dX12_drawn_36 (fun H locs hw => ?_)
        refine lv_istore_n (lv' := [(2, .int r36.1), (0, .ref (g.2.2 171)), (1, .int v1)]) hx hb dX12_drawn_39 rfl hl (by decide) rfl (fun ls hl => ?_)
        refine lv_iconst (v := (0 : Int32)) hx hb dX12_drawn_40 (by decide) ?_
        refine lv_istore_n (lv' := [(3, .int (0 : Int32)), (2, .int r36.1), (0, .ref (g.2.2 171)), (1, .int v1)]) hx hb dX12_drawn_41 rfl hl (by decide) rfl (fun ls hl => ?_)
        exact B42 n r36.1 (0 : Int32) r36.2 _ _ _ hw (lv_sub hl [2, 1, 0] rfl) h
      · rw [if_neg hc] at h
        refine lv_iload_n hx hb dX12_drawn_12 rfl (lv_at hl 1 rfl) ?_
        refine lv_aload_n hx hb dX12_drawn_13 rfl (lv_at hl 0 rfl) ?_
        refine lv_iload_n hx hb dX12_drawn_14 rfl (lv_at hl 2 rfl) ?_
        obtain ⟨r15, hr15, h⟩ := bnd h
        refine cV (b := 171) (As := [.int v2]) (rest := [.int v1]) (st1 := [.int r15.1, .int v1]) hC hw (c_X12_whyNot l g n v2 r6.2 r15 hr15) ml_X12_311 im_X12_whyNot se_X12_whyNot ok171 (CN := RX12) (T := TX12) (NF := 54) rfl rfl (by decide) rfl hl.1 ⟨Nat.le_of_ble_eq_true rfl, Nat.le_of_ble_eq_true rfl⟩ (Nat.le_of_ble_eq_true rfl) ⟨Nat.zero_le _, Nat.zero_le _⟩ rfl dX12_drawn_15 (fun H locs hw => ?_)
        refine lv_if_ne (tgt := 25) hx hb dX12_drawn_18 (by decide) (fun hc => ?_) (fun hc => ?_)
        · rw [if_neg hc] at h
          refine lv_iconst (v := (0 : Int32)) hx hb dX12_drawn_25 (by decide) ?_
          exact B26 v2 v1 (0 : Int32) r15.2 _ _ _ hw (lv_sub hl [0, 2] rfl) h
        · rw [if_pos hc] at h
          refine lv_iconst (v := (1 : Int32)) hx hb dX12_drawn_21 (by decide) ?_
          refine lv_goto (tgt := 26) hx hb dX12_drawn_22 (by decide) ?_
          exact B26 v2 v1 (1 : Int32) r15.2 _ _ _ hw (lv_sub hl [0, 2] rfl) h
  refine lv_iconst (v := (0 : Int32)) hx hb dX12_drawn_0 (by decide) ?_
  refine lv_istore_n (lv' := [(1, .int (0 : Int32)), (0, .ref (g.2.2 171))]) hx hb dX12_drawn_1 rfl hl (by decide) rfl (fun ls hl => ?_)
  refine lv_iconst (v := (0 : Int32)) hx hb dX12_drawn_2 (by decide) ?_
  refine lv_istore_n (lv' := [(2, .int (0 : Int32)), (1, .int (0 : Int32)), (0, .ref (g.2.2 171))]) hx hb dX12_drawn_3 rfl hl (by decide) rfl (fun ls hl => ?_)
  exact B4 n (0 : Int32) (0 : Int32) μ _ _ _ hw (lv_sub hl [2, 1, 0] rfl) h
set_option maxRecDepth 100000 in
set_option maxHeartbeats 4000000 in
theorem c_X12_playOf (l : Launch) (g : Gw) (n : Nat) (v1 : Int32) (v2 : Int32) (v3 : Int32) (μ : Mu) (r : Int32 × Mu) (h : X12_playOf n v1 v2 v3 μ = some r) : Ct l g yX12_playOf cX12_playOf 6 (some .int) 8 [.ref (g.2.2 171), .int v1, .int v2, .int v3] μ (some (.int r.1)) r.2 := by
  rw [X12_playOf] at h
  refine Ct.of (by decide) (Nat.le_of_ble_eq_true rfl) ?_
  intro p e s m args below meth c ls hC hw hr hlocks hl
  have hx := hC.1
  have hb := hC.2.1
  have hl : lv_has ls 6 [(0, .ref (g.2.2 171)), (1, .int v1), (2, .int v2), (3, .int v3)] := hl
  have B134 : ∀ (s0 : Int32) (μ : Mu) (H : Heap) (locs : List Loc) (ls : Array Slot), wd g μ s (Aw g s.heap.size) H locs → lv_has ls 6 [] → X12_playOf_134 n v1 v2 v3 s0 μ = some r → WQ p l e (rmD 8) s m args below meth c g (some (.int r.1)) r.2 H locs (F0 m 134 ls [.int s0]) := by
    intro s0 μ H locs ls hw hl h
    rw [X12_playOf_134] at h
    exact rI hC hw hr hlocks (by rw [← Option.some.inj h]) (by rw [← Option.some.inj h]) dX12_playOf_134
  have B98 : ∀ (v4 : Int32) (s0 : Int32) (μ : Mu) (H : Heap) (locs : List Loc) (ls : Array Slot), wd g μ s (Aw g s.heap.size) H locs → lv_has ls 6 [(0, .ref (g.2.2 171)), (3, .int v3), (4, .int v4)] → X12_playOf_98 n v1 v2 v3 v4 s0 μ = some r → WQ p l e (rmD 8) s m args below meth c g (some (.int r.1)) r.2 H locs (F0 m 98 ls [.int s0]) := by
    intro v4 s0 μ H locs ls hw hl h
    rw [X12_playOf_98] at h
    refine lv_istore (lv' := [(5, .int s0), (0, .ref (g.2.2 171)), (3, .int v3), (4, .int v4)]) hx hb dX12_playOf_98 hl (by decide) rfl (fun ls hl => ?_)
    refine lv_aload_n hx hb dX12_playOf_100 rfl (lv_at hl 1 rfl) ?_
    refine gR (t := 175) hC hw fl_X12_19 ok171 (by decide) ot171_3 dX12_playOf_101 ?_
    refine lv_aload_n hx hb dX12_playOf_104 rfl (lv_at hl 1 rfl) ?_
    refine gR (t := 172) hC hw fl_X12_9 ok171 (by decide) ot171_0 dX12_playOf_105 ?_
    obtain ⟨r108, hr108, h⟩ := bnd h
    refine cS (As := [.ref (g.2.2 175), .ref (g.2.2 172)]) (rest := []) (st1 := []) hC hw (c_X12_copies l g n 175 172 μ r108 hr108) ml_X12_235 st_X12_copies rfl hl.1 ⟨Nat.le_of_ble_eq_true rfl, Nat.le_of_ble_eq_true rfl⟩ (Nat.le_of_ble_eq_true rfl) ⟨Nat.zero_le _, Nat.zero_le _⟩ rfl dX12_playOf_108 (fun H locs hw => ?_)
    refine lv_iload_n hx hb dX12_playOf_111 rfl (lv_at hl 2 rfl) ?_
    refine lv_if_ne (tgt := 120) hx hb dX12_playOf_112 (by decide) (fun hc => ?_) (fun hc => ?_)
    · rw [if_neg hc] at h
      refine lv_iload_n hx hb dX12_playOf_120 rfl (lv_at hl 2 rfl) ?_
      refine lv_iconst (v := (1 : Int32)) hx hb dX12_playOf_121 (by decide) ?_
      refine lv_icmp_ne (tgt := 132) hx hb dX12_playOf_122 (by decide) (fun hc => ?_) (fun hc => ?_)
      · rw [if_neg hc] at h
        refine lv_iload hx hb dX12_playOf_132 (lv_at hl 0 rfl) ?_
        exact B134 s0 r108.2 _ _ _ hw (lv_sub hl [] rfl) h
      · rw [if_pos hc] at h
        refine lv_aload_n hx hb dX12_playOf_125 rfl (lv_at hl 1 rfl) ?_
        refine gI hC hw fl_X12_465 ok171 (by decide) dX12_playOf_126 ?_
        refine lv_goto (tgt := 134) hx hb dX12_playOf_129 (by decide) ?_
        exact B134 (r108.2.1 171 50) r108.2 _ _ _ hw (lv_sub hl [] rfl) h
    · rw [if_pos hc] at h
      refine lv_iload hx hb dX12_playOf_115 (lv_at hl 3 rfl) ?_
      refine lv_goto (tgt := 134) hx hb dX12_playOf_117 (by decide) ?_
      exact B134 v4 r108.2 _ _ _ hw (lv_sub hl [] rfl) h
  have B80 : ∀ (μ : Mu) (H : Heap) (locs : List Loc) (ls : Array Slot), wd g μ s (Aw g s.heap.size) H locs → lv_has ls 6 [(0, .ref (g.2.2 171)), (3, .int v3)] → X12_playOf_80 n v1 v2 v3  μ = some r → WQ p l e (rmD 8) s m args below meth c g (some (.int r.1)) r.2 H locs (F0 m 80 ls []) := by
    intro μ H locs ls hw hl h
    rw [X12_playOf_80] at h
    refine lv_aload_n hx hb dX12_playOf_80 rfl (lv_at hl 0 rfl) ?_
    obtain ⟨r81, hr81, h⟩ := bnd h
    refine cV (b := 171) (As := []) (rest := []) (st1 := [.int r81.1]) hC hw (c_X12_scoreNow l g n μ r81 hr81) ml_X12_316 im_X12_scoreNow se_X12_scoreNow ok171 (CN := RX12) (T := TX12) (NF := 54) rfl rfl (by decide) rfl hl.1 ⟨Nat.le_of_ble_eq_true rfl, Nat.le_of_ble_eq_true rfl⟩ (Nat.le_of_ble_eq_true rfl) ⟨Nat.zero_le _, Nat.zero_le _⟩ rfl dX12_playOf_81 (fun H locs hw => ?_)
    refine lv_istore (lv' := [(4, .int r81.1), (0, .ref (g.2.2 171)), (3, .int v3)]) hx hb dX12_playOf_84 hl (by decide) rfl (fun ls hl => ?_)
    refine lv_aload_n hx hb dX12_playOf_86 rfl (lv_at hl 1 rfl) ?_
    obtain ⟨r87, hr87, h⟩ := bnd h
    refine cV (b := 171) (As := []) (rest := []) (st1 := [.int r87.1]) hC hw (c_X12_isOver l g n r81.2 r87 hr87) ml_X12_305 im_X12_isOver se_X12_isOver ok171 (CN := RX12) (T := TX12) (NF := 54) rfl rfl (by decide) rfl hl.1 ⟨Nat.le_of_ble_eq_true rfl, Nat.le_of_ble_eq_true rfl⟩ (Nat.le_of_ble_eq_true rfl) ⟨Nat.zero_le _, Nat.zero_le _⟩ rfl dX12_playOf_87 (fun H locs hw => ?_)
    refine lv_if_eq (tgt := 97) hx hb dX12_playOf_90 (by decide) (fun hc => ?_) (fun hc => ?_)
    · rw [if_pos hc] at h
      refine lv_iconst (v := (0 : Int32)) hx hb dX12_playOf_97 (by decide) ?_
      exact B98 r81.1 (0 : Int32) r87.2 _ _ _ hw (lv_sub hl [1, 2, 0] rfl) h
    · rw [if_neg hc] at h
      refine lv_iconst (v := (1 : Int32)) hx hb dX12_playOf_93 (by decide) ?_
      refine lv_goto (tgt := 98) hx hb dX12_playOf_94 (by decide) ?_
      exact B98 r81.1 (1 : Int32) r87.2 _ _ _ hw (lv_sub hl [1, 2, 0] rfl) h
  have B21 : ∀ (k : Nat), ∀ (μ : Mu) (H : Heap) (locs : List Loc) (ls : Array Slot), wd g μ s (Aw g s.heap.size) H locs → lv_has ls 6 [(0, .ref (g.2.2 171)), (2, .int v2), (3, .int v3)] → lpF (fun _ => none) (X12_playOf_21b n v1 v2 v3) k  μ = some r → WQ p l e (rmD 8) s m args below meth c g (some (.int r.1)) r.2 H locs (F0 m 21 ls []) := by
    intro k
    induction k with
    | zero =>
      intro μ H locs ls hw hl h
      cases h
    | succ k ih21 =>
      rw [lpF_s]
      generalize lpF (fun _ => none) (X12_playOf_21b n v1 v2 v3) k = k21 at ih21 ⊢
      intro μ H locs ls hw hl h
      have B63 : ∀ (s1 : Int32) (μ : Mu) (H : Heap) (locs : List Loc) (ls : Array Slot), wd g μ s (Aw g s.heap.size) H locs → lv_has ls 6 [(0, .ref (g.2.2 171)), (2, .int v2), (3, .int v3)] → X12_playOf_63 n v1 v2 v3 k21 s1 μ = some r → WQ p l e (rmD 8) s m args below meth c g (some (.int r.1)) r.2 H locs (F0 m 63 ls [.int s1, .ref (g.2.2 171)]) := by
        intro s1 μ H locs ls hw hl h
        rw [X12_playOf_63] at h
        obtain ⟨r63, hr63, h⟩ := bnd h
        refine cV (b := 171) (As := [.int s1]) (rest := []) (st1 := [.int r63.1]) hC hw (c_X12_moves l g n s1 μ r63 hr63) ml_X12_326 im_X12_moves se_X12_moves ok171 (CN := RX12) (T := TX12) (NF := 54) rfl rfl (by decide) rfl hl.1 ⟨Nat.le_of_ble_eq_true rfl, Nat.le_of_ble_eq_true rfl⟩ (Nat.le_of_ble_eq_true rfl) ⟨Nat.zero_le _, Nat.zero_le _⟩ rfl dX12_playOf_63 (fun H locs hw => ?_)
        refine lv_pop hx hb dX12_playOf_66 rfl ?_
        refine lv_aload_n hx hb dX12_playOf_67 rfl (lv_at hl 0 rfl) ?_
        refine lv_dup hx hb dX12_playOf_68 rfl ?_
        refine gI hC hw fl_X12_465 ok171 (by decide) dX12_playOf_69 ?_
        refine lv_iconst (v := (1 : Int32)) hx hb dX12_playOf_72 (by decide) ?_
        refine lv_iadd hx hb dX12_playOf_73 ?_
        refine pI hC hw fl_X12_465 fp_12_50 ok171 dX12_playOf_74 (fun H locs hw => ?_)
        refine lv_goto (tgt := 21) hx hb dX12_playOf_77 (by decide) ?_
        exact ih21 (si r63.2 171 50 ((r63.2.1 171 50) + (1 : Int32))) _ _ _ hw (lv_sub hl [0, 1, 2] rfl) h
      have B59 : ∀ (μ : Mu) (H : Heap) (locs : List Loc) (ls : Array Slot), wd g μ s (Aw g s.heap.size) H locs → lv_has ls 6 [(0, .ref (g.2.2 171)), (2, .int v2), (3, .int v3)] → X12_playOf_59 n v1 v2 v3 k21  μ = some r → WQ p l e (rmD 8) s m args below meth c g (some (.int r.1)) r.2 H locs (F0 m 59 ls [.ref (g.2.2 171)]) := by
        intro μ H locs ls hw hl h
        rw [X12_playOf_59] at h
        refine lv_aload_n hx hb dX12_playOf_59 rfl (lv_at hl 0 rfl) ?_
        obtain ⟨r60, hr60, h⟩ := bnd h
        refine cV (b := 171) (As := []) (rest := [.ref (g.2.2 171)]) (st1 := [.int r60.1, .ref (g.2.2 171)]) hC hw (c_X12_drawn l g n μ r60 hr60) ml_X12_468 im_X12_drawn se_X12_drawn ok171 (CN := RX12) (T := TX12) (NF := 54) rfl rfl (by decide) rfl hl.1 ⟨Nat.le_of_ble_eq_true rfl, Nat.le_of_ble_eq_true rfl⟩ (Nat.le_of_ble_eq_true rfl) ⟨Nat.zero_le _, Nat.zero_le _⟩ rfl dX12_playOf_60 (fun H locs hw => ?_)
        exact B63 r60.1 r60.2 _ _ _ hw (lv_sub hl [0, 1, 2] rfl) h
      rw [X12_playOf_21b] at h
      refine lv_aload_n hx hb dX12_playOf_21 rfl (lv_at hl 0 rfl) ?_
      refine gI hC hw fl_X12_465 ok171 (by decide) dX12_playOf_22 ?_
      refine lv_bipush (v := (100 : Int32)) hx hb dX12_playOf_25 (by decide) ?_
      refine lv_icmp_ge (tgt := 80) hx hb dX12_playOf_27 (by decide) (fun hc => ?_) (fun hc => ?_)
      · rw [if_pos hc] at h
        exact B80 μ _ _ _ hw (lv_sub hl [0, 2] rfl) h
      · rw [if_neg hc] at h
        refine lv_aload_n hx hb dX12_playOf_30 rfl (lv_at hl 0 rfl) ?_
        obtain ⟨r31, hr31, h⟩ := bnd h
        refine cV (b := 171) (As := []) (rest := []) (st1 := [.int r31.1]) hC hw (c_X12_isOver l g n μ r31 hr31) ml_X12_305 im_X12_isOver se_X12_isOver ok171 (CN := RX12) (T := TX12) (NF := 54) rfl rfl (by decide) rfl hl.1 ⟨Nat.le_of_ble_eq_true rfl, Nat.le_of_ble_eq_true rfl⟩ (Nat.le_of_ble_eq_true rfl) ⟨Nat.zero_le _, Nat.zero_le _⟩ rfl dX12_playOf_31 (fun H locs hw => ?_)
        refine lv_if_ne (tgt := 80) hx hb dX12_playOf_34 (by decide) (fun hc => ?_) (fun hc => ?_)
        · rw [if_neg hc] at h
          exact B80 r31.2 _ _ _ hw (lv_sub hl [0, 2] rfl) h
        · rw [if_pos hc] at h
          refine lv_aload_n hx hb dX12_playOf_37 rfl (lv_at hl 0 rfl) ?_
          refine lv_iload_n hx hb dX12_playOf_38 rfl (lv_at hl 1 rfl) ?_
          refine lv_if_eq (tgt := 59) hx hb dX12_playOf_39 (by decide) (fun hc => ?_) (fun hc => ?_)
          · rw [if_pos hc] at h
            exact B59 r31.2 _ _ _ hw (lv_sub hl [0, 1, 2] rfl) h
          · rw [if_neg hc] at h
            refine lv_aload_n hx hb dX12_playOf_42 rfl (lv_at hl 0 rfl) ?_
            refine gR (t := 172) hC hw fl_X12_9 ok171 (by decide) ot171_0 dX12_playOf_43 ?_
            refine lv_iconst (v := (2 : Int32)) hx hb dX12_playOf_46 (by decide) ?_
            refine lI (j := 2) hC hw ok172 on172 (vin (by decide)) (by decide) dX12_playOf_47 ?_
            refine lv_iconst (v := (1 : Int32)) hx hb dX12_playOf_48 (by decide) ?_
            refine lv_icmp_ne (tgt := 59) hx hb dX12_playOf_49 (by decide) (fun hc => ?_) (fun hc => ?_)
            · rw [if_neg hc] at h
              exact B59 r31.2 _ _ _ hw (lv_sub hl [0, 1, 2] rfl) h
            · rw [if_pos hc] at h
              refine lv_aload_n hx hb dX12_playOf_52 rfl (lv_at hl 0 rfl) ?_
              obtain ⟨r53, hr53, h⟩ := bnd h
              refine cV (b := 171) (As := []) (rest := [.ref (g.2.2 171)]) (st1 := [.int r53.1, .ref (g.2.2 171)]) hC hw (c_X12_bestNow l g n r31.2 r53 hr53) ml_X12_416 im_X12_bestNow se_X12_bestNow ok171 (CN := RX12) (T := TX12) (NF := 54) rfl rfl (by decide) rfl hl.1 ⟨Nat.le_of_ble_eq_true rfl, Nat.le_of_ble_eq_true rfl⟩ (Nat.le_of_ble_eq_true rfl) ⟨Nat.zero_le _, Nat.zero_le _⟩ rfl dX12_playOf_53 (fun H locs hw => ?_)
              refine lv_goto (tgt := 63) hx hb dX12_playOf_56 (by decide) ?_
              exact B63 r53.1 r53.2 _ _ _ hw (lv_sub hl [0, 1, 2] rfl) h
  refine lv_aload_n hx hb dX12_playOf_0 rfl (lv_at hl 0 rfl) ?_
  refine gR (t := 172) hC hw fl_X12_9 ok171 (by decide) ot171_0 dX12_playOf_1 ?_
  refine lv_aload_n hx hb dX12_playOf_4 rfl (lv_at hl 0 rfl) ?_
  refine gR (t := 175) hC hw fl_X12_19 ok171 (by decide) ot171_3 dX12_playOf_5 ?_
  obtain ⟨r8, hr8, h⟩ := bnd h
  refine cS (As := [.ref (g.2.2 172), .ref (g.2.2 175)]) (rest := []) (st1 := []) hC hw (c_X12_copies l g n 172 175 μ r8 hr8) ml_X12_235 st_X12_copies rfl hl.1 ⟨Nat.le_of_ble_eq_true rfl, Nat.le_of_ble_eq_true rfl⟩ (Nat.le_of_ble_eq_true rfl) ⟨Nat.zero_le _, Nat.zero_le _⟩ rfl dX12_playOf_8 (fun H locs hw => ?_)
  refine lv_aload_n hx hb dX12_playOf_11 rfl (lv_at hl 0 rfl) ?_
  refine lv_iload_n hx hb dX12_playOf_12 rfl (lv_at hl 1 rfl) ?_
  refine pI hC hw fl_X12_459 fp_12_49 ok171 dX12_playOf_13 (fun H locs hw => ?_)
  refine lv_aload_n hx hb dX12_playOf_16 rfl (lv_at hl 0 rfl) ?_
  refine lv_iconst (v := (0 : Int32)) hx hb dX12_playOf_17 (by decide) ?_
  refine pI hC hw fl_X12_465 fp_12_50 ok171 dX12_playOf_18 (fun H locs hw => ?_)
  exact B21 n (si (si r8.2 171 49 v1) 171 50 (0 : Int32)) _ _ _ hw (lv_sub hl [0, 2, 3] rfl) h
set_option maxRecDepth 100000 in
set_option maxHeartbeats 4000000 in
theorem c_X12_play (l : Launch) (g : Gw) (n : Nat) (v1 : Int32) (v2 : Int32) (μ : Mu) (r : Int32 × Mu) (h : X12_play n v1 v2 μ = some r) : Ct l g yX12_play cX12_play 3 (some .int) 9 [.ref (g.2.2 171), .int v1, .int v2] μ (some (.int r.1)) r.2 := by
  rw [X12_play] at h
  refine Ct.of (by decide) (Nat.le_of_ble_eq_true rfl) ?_
  intro p e s m args below meth c ls hC hw hr hlocks hl
  have hx := hC.1
  have hb := hC.2.1
  have hl : lv_has ls 3 [(0, .ref (g.2.2 171)), (1, .int v1), (2, .int v2)] := hl
  have B39 : ∀ (s0 : Int32) (μ : Mu) (H : Heap) (locs : List Loc) (ls : Array Slot), wd g μ s (Aw g s.heap.size) H locs → lv_has ls 3 [] → X12_play_39 n v1 v2 s0 μ = some r → WQ p l e (rmD 9) s m args below meth c g (some (.int r.1)) r.2 H locs (F0 m 39 ls [.int s0]) := by
    intro s0 μ H locs ls hw hl h
    rw [X12_play_39] at h
    exact rI hC hw hr hlocks (by rw [← Option.some.inj h]) (by rw [← Option.some.inj h]) dX12_play_39
  have B18 : ∀ (s1 : Int32) (μ : Mu) (H : Heap) (locs : List Loc) (ls : Array Slot), wd g μ s (Aw g s.heap.size) H locs → lv_has ls 3 [(0, .ref (g.2.2 171)), (1, .int v1), (2, .int v2)] → X12_play_18 n v1 v2 s1 μ = some r → WQ p l e (rmD 9) s m args below meth c g (some (.int r.1)) r.2 H locs (F0 m 18 ls [.int s1, .ref (g.2.2 171)]) := by
    intro s1 μ H locs ls hw hl h
    rw [X12_play_18] at h
    refine pI hC hw fl_X12_107 fp_12_5 ok171 dX12_play_18 (fun H locs hw => ?_)
    refine lv_aload_n hx hb dX12_play_21 rfl (lv_at hl 0 rfl) ?_
    refine gI hC hw fl_X12_107 ok171 (by decide) dX12_play_22 ?_
    refine lv_if_le (tgt := 32) hx hb dX12_play_25 (by decide) (fun hc => ?_) (fun hc => ?_)
    · rw [if_pos hc] at h
      refine lv_aload_n hx hb dX12_play_32 rfl (lv_at hl 0 rfl) ?_
      refine lv_iload_n hx hb dX12_play_33 rfl (lv_at hl 1 rfl) ?_
      refine lv_iconst (v := (0 : Int32)) hx hb dX12_play_34 (by decide) ?_
      refine lv_iload_n hx hb dX12_play_35 rfl (lv_at hl 2 rfl) ?_
      obtain ⟨r36, hr36, h⟩ := bnd h
      refine cV (b := 171) (As := [.int v1, .int (0 : Int32), .int v2]) (rest := []) (st1 := [.int r36.1]) hC hw (c_X12_playOf l g n v1 (0 : Int32) v2 (si μ 171 5 s1) r36 hr36) ml_X12_471 im_X12_playOf se_X12_playOf ok171 (CN := RX12) (T := TX12) (NF := 54) rfl rfl (by decide) rfl hl.1 ⟨Nat.le_of_ble_eq_true rfl, Nat.le_of_ble_eq_true rfl⟩ (Nat.le_of_ble_eq_true rfl) ⟨Nat.zero_le _, Nat.zero_le _⟩ rfl dX12_play_36 (fun H locs hw => ?_)
      exact B39 r36.1 r36.2 _ _ _ hw (lv_sub hl [] rfl) h
    · rw [if_neg hc] at h
      refine lv_iconst (v := (0 : Int32)) hx hb dX12_play_28 (by decide) ?_
      refine lv_goto (tgt := 39) hx hb dX12_play_29 (by decide) ?_
      exact B39 (0 : Int32) (si μ 171 5 s1) _ _ _ hw (lv_sub hl [] rfl) h
  refine lv_aload_n hx hb dX12_play_0 rfl (lv_at hl 0 rfl) ?_
  refine lv_iload_n hx hb dX12_play_1 rfl (lv_at hl 2 rfl) ?_
  refine lv_i2l hx hb dX12_play_2 rfl ?_
  refine lv_lconst (v := (0 : Int64)) hx hb dX12_play_3 (by decide) ?_
  refine lv_ldc2 (v := (2 : Int64)) hx hb hC.2.2.2.1 (hC.2.2.2.2.1 _ cl_X12_453) dX12_play_4 ?_
  obtain ⟨r7, hr7, h⟩ := bnd h
  refine cS (As := [.long (v2.toInt64), .long (0 : Int64), .long (2 : Int64)]) (rest := [.ref (g.2.2 171)]) (st1 := [.int r7.1, .ref (g.2.2 171)]) hC hw (c_X12_within l g n (v2.toInt64) (0 : Int64) (2 : Int64) μ r7 hr7) ml_X12_166 st_X12_within rfl hl.1 ⟨Nat.le_of_ble_eq_true rfl, Nat.le_of_ble_eq_true rfl⟩ (Nat.le_of_ble_eq_true rfl) ⟨Nat.zero_le _, Nat.zero_le _⟩ rfl dX12_play_7 (fun H locs hw => ?_)
  refine lv_if_eq (tgt := 17) hx hb dX12_play_10 (by decide) (fun hc => ?_) (fun hc => ?_)
  · rw [if_pos hc] at h
    refine lv_iconst (v := (1 : Int32)) hx hb dX12_play_17 (by decide) ?_
    exact B18 (1 : Int32) r7.2 _ _ _ hw (lv_sub hl [0, 1, 2] rfl) h
  · rw [if_neg hc] at h
    refine lv_iconst (v := (0 : Int32)) hx hb dX12_play_13 (by decide) ?_
    refine lv_goto (tgt := 18) hx hb dX12_play_14 (by decide) ?_
    exact B18 (0 : Int32) r7.2 _ _ _ hw (lv_sub hl [0, 1, 2] rfl) h
set_option maxRecDepth 100000 in
set_option maxHeartbeats 4000000 in
theorem c_X1_build (l : Launch) (g : Gw) (n : Nat) (μ : Mu) (r : Unit × Mu) (h : X1_build n  μ = some r) : Ct l g yX1_build cX1_build 2 none 3 [.ref (g.2.2 2)] μ none r.2 := by
  rw [X1_build] at h
  refine Ct.of (by decide) (Nat.le_of_ble_eq_true rfl) ?_
  intro p e s m args below meth c ls hC hw hr hlocks hl
  have hx := hC.1
  have hb := hC.2.1
  have hl : lv_has ls 2 [(0, .ref (g.2.2 2))] := hl
  have B72 : ∀ (s1 : Int32) (μ : Mu) (H : Heap) (locs : List Loc) (ls : Array Slot), wd g μ s (Aw g s.heap.size) H locs → lv_has ls 2 [] → X1_build_72 n s1 μ = some r → WQ p l e (rmD 3) s m args below meth c g none r.2 H locs (F0 m 72 ls [.int s1, .ref (g.2.2 2)]) := by
    intro s1 μ H locs ls hw hl h
    rw [X1_build_72] at h
    obtain ⟨hz72, h⟩ := bz_some h
    refine pZ hC hw fl_X1_63 fp_1_3 ok2 hz72 dX1_build_72 (fun H locs hw => ?_)
    exact rV hC hw hr hlocks rfl (by rw [← Option.some.inj h]) dX1_build_75
  have B67 : ∀ (μ : Mu) (H : Heap) (locs : List Loc) (ls : Array Slot), wd g μ s (Aw g s.heap.size) H locs → lv_has ls 2 [] → X1_build_67 n  μ = some r → WQ p l e (rmD 3) s m args below meth c g none r.2 H locs (F0 m 67 ls [.ref (g.2.2 2)]) := by
    intro μ H locs ls hw hl h
    rw [X1_build_67] at h
    refine lv_iconst (v := (1 : Int32)) hx hb dX1_build_67 (by decide) ?_
    refine lv_goto (tgt := 72) hx hb dX1_build_68 (by decide) ?_
    exact B72 (1 : Int32) μ _ _ _ hw (lv_sub hl [] rfl) h
  have B71 : ∀ (μ : Mu) (H : Heap) (locs : List Loc) (ls : Array Slot), wd g μ s (Aw g s.heap.size) H locs → lv_has ls 2 [] → X1_build_71 n  μ = some r → WQ p l e (rmD 3) s m args below meth c g none r.2 H locs (F0 m 71 ls [.ref (g.2.2 2)]) := by
    intro μ H locs ls hw hl h
    rw [X1_build_71] at h
    refine lv_iconst (v := (0 : Int32)) hx hb dX1_build_71 (by decide) ?_
    exact B72 (0 : Int32) μ _ _ _ hw (lv_sub hl [] rfl) h
  have B7 : ∀ (k : Nat), ∀ (v1 : Int32) (μ : Mu) (H : Heap) (locs : List Loc) (ls : Array Slot), wd g μ s (Aw g s.heap.size) H locs → lv_has ls 2 [(0, .ref (g.2.2 2)), (1, .int v1)] → lpF (fun _ _ => none) (X1_build_7b n) k v1 μ = some r → WQ p l e (rmD 3) s m args below meth c g none r.2 H locs (F0 m 7 ls []) := by
    intro k
    induction k with
    | zero =>
      intro v1 μ H locs ls hw hl h
      cases h
    | succ k ih7 =>
      rw [lpF_s]
      generalize lpF (fun _ _ => none) (X1_build_7b n) k = k7 at ih7 ⊢
      intro v1 μ H locs ls hw hl h
      rw [X1_build_7b] at h
      refine lv_iload_n hx hb dX1_build_7 rfl (lv_at hl 1 rfl) ?_
      refine lv_iconst (v := (2 : Int32)) hx hb dX1_build_8 (by decide) ?_
      refine lv_icmp_ge (tgt := 28) hx hb dX1_build_9 (by decide) (fun hc => ?_) (fun hc => ?_)
      · rw [if_pos hc] at h
        refine lv_aload_n hx hb dX1_build_28 rfl (lv_at hl 0 rfl) ?_
        refine lv_aload_n hx hb dX1_build_29 rfl (lv_at hl 0 rfl) ?_
        refine gR (t := 1) hC hw fl_X1_21 ok2 (by decide) ot2_4 dX1_build_30 ?_
        refine gI hC hw fl_X1_48 ok1 (by decide) dX1_build_33 ?_
        refine lv_if_gt (tgt := 67) hx hb dX1_build_36 (by decide) (fun hc => ?_) (fun hc => ?_)
        · rw [if_pos hc] at h
          exact B67 μ _ _ _ hw (lv_sub hl [] rfl) h
        · rw [if_neg hc] at h
          refine lv_aload_n hx hb dX1_build_39 rfl (lv_at hl 0 rfl) ?_
          refine gR (t := 1) hC hw fl_X1_21 ok2 (by decide) ot2_4 dX1_build_40 ?_
          refine gI hC hw fl_X1_54 ok1 (by decide) dX1_build_43 ?_
          refine lv_if_eq (tgt := 71) hx hb dX1_build_46 (by decide) (fun hc => ?_) (fun hc => ?_)
          · rw [if_pos hc] at h
            exact B71 μ _ _ _ hw (lv_sub hl [] rfl) h
          · rw [if_neg hc] at h
            refine lv_aload_n hx hb dX1_build_49 rfl (lv_at hl 0 rfl) ?_
            refine gR (t := 1) hC hw fl_X1_21 ok2 (by decide) ot2_4 dX1_build_50 ?_
            refine gI hC hw fl_X1_57 ok1 (by decide) dX1_build_53 ?_
            refine lv_if_ne (tgt := 71) hx hb dX1_build_56 (by decide) (fun hc => ?_) (fun hc => ?_)
            · rw [if_neg hc] at h
              exact B71 μ _ _ _ hw (lv_sub hl [] rfl) h
            · rw [if_pos hc] at h
              refine lv_aload_n hx hb dX1_build_59 rfl (lv_at hl 0 rfl) ?_
              refine gI hC hw fl_X1_60 ok2 (by decide) dX1_build_60 ?_
              refine lv_iconst (v := (1 : Int32)) hx hb dX1_build_63 (by decide) ?_
              refine lv_icmp_ne (tgt := 71) hx hb dX1_build_64 (by decide) (fun hc => ?_) (fun hc => ?_)
              · rw [if_neg hc] at h
                exact B71 μ _ _ _ hw (lv_sub hl [] rfl) h
              · rw [if_pos hc] at h
                exact B67 μ _ _ _ hw (lv_sub hl [] rfl) h
      · rw [if_neg hc] at h
        refine lv_aload_n hx hb dX1_build_12 rfl (lv_at hl 0 rfl) ?_
        refine lv_iload_n hx hb dX1_build_13 rfl (lv_at hl 1 rfl) ?_
        obtain ⟨r14, hr14, h⟩ := bnd h
        refine cV (b := 2) (As := [.int v1]) (rest := []) (st1 := []) hC hw (c_X1_linkWay l g n v1 μ r14 hr14) ml_X1_41 im_X1_linkWay se_X1_linkWay ok2 (CN := RX1) (T := TX1) (NF := 7) rfl rfl (by decide) rfl hl.1 ⟨Nat.le_of_ble_eq_true rfl, Nat.le_of_ble_eq_true rfl⟩ (Nat.le_of_ble_eq_true rfl) ⟨Nat.zero_le _, Nat.zero_le _⟩ rfl dX1_build_14 (fun H locs hw => ?_)
        refine lv_aload_n hx hb dX1_build_17 rfl (lv_at hl 0 rfl) ?_
        refine lv_iload_n hx hb dX1_build_18 rfl (lv_at hl 1 rfl) ?_
        obtain ⟨r19, hr19, h⟩ := bnd h
        refine cV (b := 2) (As := [.int v1]) (rest := []) (st1 := []) hC hw (c_X1_listSeen l g n v1 r14.2 r19 hr19) ml_X1_45 im_X1_listSeen se_X1_listSeen ok2 (CN := RX1) (T := TX1) (NF := 7) rfl rfl (by decide) rfl hl.1 ⟨Nat.le_of_ble_eq_true rfl, Nat.le_of_ble_eq_true rfl⟩ (Nat.le_of_ble_eq_true rfl) ⟨Nat.zero_le _, Nat.zero_le _⟩ rfl dX1_build_19 (fun H locs hw => ?_)
        refine lv_iinc (v := (v1 + (1 : Int32))) (lv' := [(1, .int (v1 + (1 : Int32))), (0, .ref (g.2.2 2))]) hx hb dX1_build_22 hl (k := 1) rfl rfl (by decide) rfl (fun ls hl => ?_)
        refine lv_goto (tgt := 7) hx hb dX1_build_25 (by decide) ?_
        exact ih7 (v1 + (1 : Int32)) r19.2 _ _ _ hw (lv_sub hl [1, 0] rfl) h
  refine lv_aload_n hx hb dX1_build_0 rfl (lv_at hl 0 rfl) ?_
  refine lv_iconst (v := (1 : Int32)) hx hb dX1_build_1 (by decide) ?_
  refine pZ hC hw fl_X1_37 fp_1_2 ok2 (Or.inr rfl) dX1_build_2 (fun H locs hw => ?_)
  refine lv_iconst (v := (0 : Int32)) hx hb dX1_build_5 (by decide) ?_
  refine lv_istore_n (lv' := [(1, .int (0 : Int32)), (0, .ref (g.2.2 2))]) hx hb dX1_build_6 rfl hl (by decide) rfl (fun ls hl => ?_)
  exact B7 n (0 : Int32) (si μ 2 2 (1 : Int32)) _ _ _ hw (lv_sub hl [1, 0] rfl) h
set_option maxRecDepth 100000 in
set_option maxHeartbeats 4000000 in
theorem c_X4_readSeeds (l : Launch) (g : Gw) (n : Nat) (μ : Mu) (r : Unit × Mu) (h : X4_readSeeds n  μ = some r) : Ct l g yX4_readSeeds cX4_readSeeds 3 none 3 [.ref (g.2.2 12)] μ none r.2 := by
  rw [X4_readSeeds] at h
  refine Ct.of (by decide) (Nat.le_of_ble_eq_true rfl) ?_
  intro p e s m args below meth c ls hC hw hr hlocks hl
  have hx := hC.1
  have hb := hC.2.1
  have hl : lv_has ls 3 [(0, .ref (g.2.2 12))] := hl
  have B78 : ∀ (μ : Mu) (H : Heap) (locs : List Loc) (ls : Array Slot), wd g μ s (Aw g s.heap.size) H locs → lv_has ls 3 [] → X4_readSeeds_78 n  μ = some r → WQ p l e (rmD 3) s m args below meth c g none r.2 H locs (F0 m 78 ls []) := by
    intro μ H locs ls hw hl h
    rw [X4_readSeeds_78] at h
    exact rV hC hw hr hlocks rfl (by rw [← Option.some.inj h]) dX4_readSeeds_78
  have B6 : ∀ (k : Nat), ∀ (v1 : Int32) (μ : Mu) (H : Heap) (locs : List Loc) (ls : Array Slot), wd g μ s (Aw g s.heap.size) H locs → lv_has ls 3 [(0, .ref (g.2.2 12)), (1, .int v1)] → lpF (fun _ _ => none) (X4_readSeeds_6b n) k v1 μ = some r → WQ p l e (rmD 3) s m args below meth c g none r.2 H locs (F0 m 6 ls []) := by
    intro k
    induction k with
    | zero =>
      intro v1 μ H locs ls hw hl h
      cases h
    | succ k ih6 =>
      rw [lpF_s]
      generalize lpF (fun _ _ => none) (X4_readSeeds_6b n) k = k6 at ih6 ⊢
      intro v1 μ H locs ls hw hl h
      have B39 : ∀ (v1 : Int32) (v2 : Int32) (μ : Mu) (H : Heap) (locs : List Loc) (ls : Array Slot), wd g μ s (Aw g s.heap.size) H locs → lv_has ls 3 [(0, .ref (g.2.2 12)), (1, .int v1), (2, .int v2)] → X4_readSeeds_39 n k6 v1 v2 μ = some r → WQ p l e (rmD 3) s m args below meth c g none r.2 H locs (F0 m 39 ls []) := by
        intro v1 v2 μ H locs ls hw hl h
        rw [X4_readSeeds_39] at h
        refine lv_aload_n hx hb dX4_readSeeds_39 rfl (lv_at hl 0 rfl) ?_
        refine gI hC hw fl_X4_40 ok12 (by decide) dX4_readSeeds_40 ?_
        refine lv_if_eq (tgt := 47) hx hb dX4_readSeeds_43 (by decide) (fun hc => ?_) (fun hc => ?_)
        · rw [if_pos hc] at h
          refine lv_aload_n hx hb dX4_readSeeds_47 rfl (lv_at hl 0 rfl) ?_
          refine gR (t := 149) hC hw fl_X4_21 ok12 (by decide) ot12_1 dX4_readSeeds_48 ?_
          refine gR (t := 150) hC hw fl_X4_66 ok149 (by decide) ot149_0 dX4_readSeeds_51 ?_
          refine lv_iload_n hx hb dX4_readSeeds_54 rfl (lv_at hl 1 rfl) ?_
          refine lv_iload_n hx hb dX4_readSeeds_55 rfl (lv_at hl 2 rfl) ?_
          obtain ⟨hi56, h⟩ := gd_some h
          refine sI (j := v1.toNatClampNeg) hC hw ok150 on150 hi56 rfl dX4_readSeeds_56 (fun H locs hw => ?_)
          refine lv_iinc (v := (v1 + (1 : Int32))) (lv' := [(1, .int (v1 + (1 : Int32))), (0, .ref (g.2.2 12)), (2, .int v2)]) hx hb dX4_readSeeds_57 hl (k := 1) rfl rfl (by decide) rfl (fun ls hl => ?_)
          refine lv_aload_n hx hb dX4_readSeeds_60 rfl (lv_at hl 1 rfl) ?_
          obtain ⟨r61, hr61, h⟩ := bnd h
          refine cV (b := 12) (As := []) (rest := []) (st1 := []) hC hw (c_X4_step l g n (si μ 150 v1.toNatClampNeg v2) r61 hr61) ml_X4_49 im_X4_step se_X4_step ok12 (CN := RX4) (T := TX4) (NF := 11) rfl rfl (by decide) rfl hl.1 ⟨Nat.le_of_ble_eq_true rfl, Nat.le_of_ble_eq_true rfl⟩ (Nat.le_of_ble_eq_true rfl) ⟨Nat.zero_le _, Nat.zero_le _⟩ rfl dX4_readSeeds_61 (fun H locs hw => ?_)
          refine lv_aload_n hx hb dX4_readSeeds_64 rfl (lv_at hl 1 rfl) ?_
          refine gI hC hw fl_X4_52 ok12 (by decide) dX4_readSeeds_65 ?_
          refine lv_iconst (v := (2 : Int32)) hx hb dX4_readSeeds_68 (by decide) ?_
          refine lv_icmp_ne (tgt := 78) hx hb dX4_readSeeds_69 (by decide) (fun hc => ?_) (fun hc => ?_)
          · rw [if_neg hc] at h
            exact B78 r61.2 _ _ _ hw (lv_sub hl [] rfl) h
          · rw [if_pos hc] at h
            refine lv_iload_n hx hb dX4_readSeeds_72 rfl (lv_at hl 0 rfl) ?_
            refine lv_bipush (v := (12 : Int32)) hx hb dX4_readSeeds_73 (by decide) ?_
            refine lv_icmp_le (tgt := 6) hx hb dX4_readSeeds_75 (by decide) (fun hc => ?_) (fun hc => ?_)
            · rw [if_pos hc] at h
              exact ih6 (v1 + (1 : Int32)) r61.2 _ _ _ hw (lv_sub hl [1, 0] rfl) h
            · rw [if_neg hc] at h
              exact B78 r61.2 _ _ _ hw (lv_sub hl [] rfl) h
        · rw [if_neg hc] at h
          exact rV hC hw hr hlocks rfl (by rw [← Option.some.inj h]) dX4_readSeeds_46
      rw [X4_readSeeds_6b] at h
      refine lv_aload_n hx hb dX4_readSeeds_6 rfl (lv_at hl 0 rfl) ?_
      refine lv_iconst (v := (0 : Int32)) hx hb dX4_readSeeds_7 (by decide) ?_
      refine lv_bipush (v := (20 : Int32)) hx hb dX4_readSeeds_8 (by decide) ?_
      obtain ⟨r10, hr10, h⟩ := bnd h
      refine cV (b := 12) (As := [.int (0 : Int32), .int (20 : Int32)]) (rest := []) (st1 := [.int r10.1]) hC hw (c_X4_checkedNumber l g n (0 : Int32) (20 : Int32) μ r10 hr10) ml_X4_127 im_X4_checkedNumber se_X4_checkedNumber ok12 (CN := RX4) (T := TX4) (NF := 11) rfl rfl (by decide) rfl hl.1 ⟨Nat.le_of_ble_eq_true rfl, Nat.le_of_ble_eq_true rfl⟩ (Nat.le_of_ble_eq_true rfl) ⟨Nat.zero_le _, Nat.zero_le _⟩ rfl dX4_readSeeds_10 (fun H locs hw => ?_)
      refine lv_istore_n (lv' := [(2, .int r10.1), (0, .ref (g.2.2 12)), (1, .int v1)]) hx hb dX4_readSeeds_13 rfl hl (by decide) rfl (fun ls hl => ?_)
      refine lv_aload_n hx hb dX4_readSeeds_14 rfl (lv_at hl 1 rfl) ?_
      refine gI hC hw fl_X4_40 ok12 (by decide) dX4_readSeeds_15 ?_
      refine lv_if_ne (tgt := 39) hx hb dX4_readSeeds_18 (by decide) (fun hc => ?_) (fun hc => ?_)
      · rw [if_neg hc] at h
        exact B39 v1 r10.1 r10.2 _ _ _ hw (lv_sub hl [1, 2, 0] rfl) h
      · rw [if_pos hc] at h
        refine lv_iload_n hx hb dX4_readSeeds_21 rfl (lv_at hl 2 rfl) ?_
        refine lv_iconst (v := (2 : Int32)) hx hb dX4_readSeeds_22 (by decide) ?_
        refine lv_aload_n hx hb dX4_readSeeds_23 rfl (lv_at hl 1 rfl) ?_
        refine gR (t := 13) hC hw fl_X4_12 ok12 (by decide) ot12_0 dX4_readSeeds_24 ?_
        refine gI hC hw fl_X4_105 ok13 (by decide) dX4_readSeeds_27 ?_
        refine lv_imul hx hb dX4_readSeeds_30 ?_
        refine lv_icmp_lt (tgt := 39) hx hb dX4_readSeeds_31 (by decide) (fun hc => ?_) (fun hc => ?_)
        · rw [if_pos hc] at h
          exact B39 v1 r10.1 r10.2 _ _ _ hw (lv_sub hl [1, 2, 0] rfl) h
        · rw [if_neg hc] at h
          refine lv_aload_n hx hb dX4_readSeeds_34 rfl (lv_at hl 1 rfl) ?_
          refine lv_iconst (v := (4 : Int32)) hx hb dX4_readSeeds_35 (by decide) ?_
          obtain ⟨r36, hr36, h⟩ := bnd h
          refine cV (b := 12) (As := [.int (4 : Int32)]) (rest := []) (st1 := []) hC hw (c_X4_refuse l g n (4 : Int32) r10.2 r36 hr36) ml_X4_120 im_X4_refuse se_X4_refuse ok12 (CN := RX4) (T := TX4) (NF := 11) rfl rfl (by decide) rfl hl.1 ⟨Nat.le_of_ble_eq_true rfl, Nat.le_of_ble_eq_true rfl⟩ (Nat.le_of_ble_eq_true rfl) ⟨Nat.zero_le _, Nat.zero_le _⟩ rfl dX4_readSeeds_36 (fun H locs hw => ?_)
          exact B39 v1 r10.1 r36.2 _ _ _ hw (lv_sub hl [1, 2, 0] rfl) h
  refine lv_aload_n hx hb dX4_readSeeds_0 rfl (lv_at hl 0 rfl) ?_
  obtain ⟨r1, hr1, h⟩ := bnd h
  refine cV (b := 12) (As := []) (rest := []) (st1 := []) hC hw (c_X4_step l g n μ r1 hr1) ml_X4_49 im_X4_step se_X4_step ok12 (CN := RX4) (T := TX4) (NF := 11) rfl rfl (by decide) rfl hl.1 ⟨Nat.le_of_ble_eq_true rfl, Nat.le_of_ble_eq_true rfl⟩ (Nat.le_of_ble_eq_true rfl) ⟨Nat.zero_le _, Nat.zero_le _⟩ rfl dX4_readSeeds_1 (fun H locs hw => ?_)
  refine lv_iconst (v := (0 : Int32)) hx hb dX4_readSeeds_4 (by decide) ?_
  refine lv_istore_n (lv' := [(1, .int (0 : Int32)), (0, .ref (g.2.2 12))]) hx hb dX4_readSeeds_5 rfl hl (by decide) rfl (fun ls hl => ?_)
  exact B6 n (0 : Int32) r1.2 _ _ _ hw (lv_sub hl [1, 0] rfl) h
set_option maxRecDepth 100000 in
set_option maxHeartbeats 4000000 in
theorem c_X4_readNumber (l : Launch) (g : Gw) (n : Nat) (v1 : Int32) (v2 : Int32) (μ : Mu) (r : Int32 × Mu) (h : X4_readNumber n v1 v2 μ = some r) : Ct l g yX4_readNumber cX4_readNumber 4 (some .int) 3 [.ref (g.2.2 12), .int v1, .int v2] μ (some (.int r.1)) r.2 := by
  rw [X4_readNumber] at h
  refine Ct.of (by decide) (Nat.le_of_ble_eq_true rfl) ?_
  intro p e s m args below meth c ls hC hw hr hlocks hl
  have hx := hC.1
  have hb := hC.2.1
  have hl : lv_has ls 4 [(0, .ref (g.2.2 12)), (1, .int v1), (2, .int v2)] := hl
  have B18 : ∀ (v3 : Int32) (μ : Mu) (H : Heap) (locs : List Loc) (ls : Array Slot), wd g μ s (Aw g s.heap.size) H locs → lv_has ls 4 [(3, .int v3)] → X4_readNumber_18 n v1 v2 v3 μ = some r → WQ p l e (rmD 3) s m args below meth c g (some (.int r.1)) r.2 H locs (F0 m 18 ls []) := by
    intro v3 μ H locs ls hw hl h
    rw [X4_readNumber_18] at h
    refine lv_iload_n hx hb dX4_readNumber_18 rfl (lv_at hl 0 rfl) ?_
    exact rI hC hw hr hlocks (by rw [← Option.some.inj h]) (by rw [← Option.some.inj h]) dX4_readNumber_19
  refine lv_aload_n hx hb dX4_readNumber_0 rfl (lv_at hl 0 rfl) ?_
  refine lv_iload_n hx hb dX4_readNumber_1 rfl (lv_at hl 1 rfl) ?_
  refine lv_iload_n hx hb dX4_readNumber_2 rfl (lv_at hl 2 rfl) ?_
  obtain ⟨r3, hr3, h⟩ := bnd h
  refine cV (b := 12) (As := [.int v1, .int v2]) (rest := []) (st1 := [.int r3.1]) hC hw (c_X4_checkedNumber l g n v1 v2 μ r3 hr3) ml_X4_127 im_X4_checkedNumber se_X4_checkedNumber ok12 (CN := RX4) (T := TX4) (NF := 11) rfl rfl (by decide) rfl hl.1 ⟨Nat.le_of_ble_eq_true rfl, Nat.le_of_ble_eq_true rfl⟩ (Nat.le_of_ble_eq_true rfl) ⟨Nat.zero_le _, Nat.zero_le _⟩ rfl dX4_readNumber_3 (fun H locs hw => ?_)
  refine lv_istore_n (lv' := [(3, .int r3.1), (0, .ref (g.2.2 12)), (1, .int v1), (2, .int v2)]) hx hb dX4_readNumber_6 rfl hl (by decide) rfl (fun ls hl => ?_)
  refine lv_aload_n hx hb dX4_readNumber_7 rfl (lv_at hl 1 rfl) ?_
  refine gI hC hw fl_X4_40 ok12 (by decide) dX4_readNumber_8 ?_
  refine lv_if_ne (tgt := 18) hx hb dX4_readNumber_11 (by decide) (fun hc => ?_) (fun hc => ?_)
  · rw [if_neg hc] at h
    exact B18 r3.1 r3.2 _ _ _ hw (lv_sub hl [0] rfl) h
  · rw [if_pos hc] at h
    refine lv_aload_n hx hb dX4_readNumber_14 rfl (lv_at hl 1 rfl) ?_
    obtain ⟨r15, hr15, h⟩ := bnd h
    refine cV (b := 12) (As := []) (rest := []) (st1 := []) hC hw (c_X4_step l g n r3.2 r15 hr15) ml_X4_49 im_X4_step se_X4_step ok12 (CN := RX4) (T := TX4) (NF := 11) rfl rfl (by decide) rfl hl.1 ⟨Nat.le_of_ble_eq_true rfl, Nat.le_of_ble_eq_true rfl⟩ (Nat.le_of_ble_eq_true rfl) ⟨Nat.zero_le _, Nat.zero_le _⟩ rfl dX4_readNumber_15 (fun H locs hw => ?_)
    exact B18 r3.1 r15.2 _ _ _ hw (lv_sub hl [0] rfl) h
