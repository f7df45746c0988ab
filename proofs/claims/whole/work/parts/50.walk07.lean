set_option maxRecDepth 100000 in
set_option maxHeartbeats 4000000 in
theorem c_X7_reach (l : Launch) (g : Gw) (n : Nat) (v1 : Int32) (μ : Mu) (r : Int32 × Mu) (h : X7_reach n v1 μ = some r) : Ct l g yX7_reach cX7_reach 6 (some .boolean) 5 [.ref (g.2.2 15), .int v1] μ (some (.int r.1)) r.2 := by
  rw [X7_reach] at h
  refine Ct.of (by decide) (Nat.le_of_ble_eq_true rfl) ?_
  intro p e s m args below meth c ls hC hw hr hlocks hl
  have hx := hC.1
  have hb := hC.2.1
  have hl : lv_has ls 6 [(0, .ref (g.2.2 15)), (1, .int v1)] := hl
  have B61 : ∀ (k : Nat), ∀ (v2 : Int32) (μ : Mu) (H : Heap) (locs : List Loc) (ls : Array Slot), wd g μ s (Aw g s.heap.size) H locs → lv_has ls 6 [(0, .ref (g.2.2 15)), (1, .int v1), (2, .int v2)] → lpF (fun _ _ => none) (X7_reach_61b n v1) k v2 μ = some r → WQ p l e (rmD 5) s m args below meth c g (some (.int r.1)) r.2 H locs (F0 m 61 ls []) := by
    intro k
    induction k with
    | zero =>
      intro v2 μ H locs ls hw hl h
      cases h
    | succ k ih61 =>
      rw [lpF_s]
      generalize lpF (fun _ _ => none) (X7_reach_61b n v1) k = k61 at ih61 ⊢
      intro v2 μ H locs ls hw hl h
      have B78 : ∀ (k : Nat), ∀ (v2 : Int32) (v3 : Int32) (v4 : Int32) (μ : Mu) (H : Heap) (locs : List Loc) (ls : Array Slot), wd g μ s (Aw g s.heap.size) H locs → lv_has ls 6 [(0, .ref (g.2.2 15)), (1, .int v1), (2, .int v2), (3, .int v3), (4, .int v4)] → lpF (fun _ _ _ _ => none) (X7_reach_78b n v1 k61) k v2 v3 v4 μ = some r → WQ p l e (rmD 5) s m args below meth c g (some (.int r.1)) r.2 H locs (F0 m 78 ls []) := by
        intro k
        induction k with
        | zero =>
          intro v2 v3 v4 μ H locs ls hw hl h
          cases h
        | succ k ih78 =>
          rw [lpF_s]
          generalize lpF (fun _ _ _ _ => none) (X7_reach_78b n v1 k61) k = k78 at ih78 ⊢
          intro v2 v3 v4 μ H locs ls hw hl h
          have B91 : ∀ (k : Nat), ∀ (v2 : Int32) (v3 : Int32) (v4 : Int32) (v5 : Int32) (μ : Mu) (H : Heap) (locs : List Loc) (ls : Array Slot), wd g μ s (Aw g s.heap.size) H locs → lv_has ls 6 [(0, .ref (g.2.2 15)), (1, .int v1), (2, .int v2), (3, .int v3), (4, .int v4), (5, .int v5)] → lpF (fun _ _ _ _ _ => none) (X7_reach_91b n v1 k61 k78) k v2 v3 v4 v5 μ = some r → WQ p l e (rmD 5) s m args below meth c g (some (.int r.1)) r.2 H locs (F0 m 91 ls []) := by
            intro k
            induction k with
            | zero =>
              intro v2 v3 v4 v5 μ H locs ls hw hl h
              cases h
            | succ k ih91 =>
              rw [lpF_s]
              generalize lpF (fun _ _ _ _ _ => none) (X7_reach_91b n v1 k61 k78) k = k91 at ih91 ⊢
              intro v2 v3 v4 v5 μ H locs ls hw hl h
              rw [X7_reach_91b] at h
              refine lv_iload hx hb dX7_reach_91 (lv_at hl 5 rfl) ?_
              refine lv_iload_n hx hb dX7_reach_93 rfl (lv_at hl 3 rfl) ?_
              refine lv_icmp_ge (tgt := 112) hx hb dX7_reach_94 (by decide) (fun hc => ?_) (fun hc => ?_)
              · rw [if_pos hc] at h
                refine lv_iinc (v := (v4 + (1 : Int32))) (lv' := [(4, .int (v4 + (1 : Int32))), (0, .ref (g.2.2 15)), (1, .int v1), (2, .int v2), (3, .int v3), (5, .int v5)]) hx hb dX7_reach_112 hl (k := 4) rfl rfl (by decide) rfl (fun ls hl => ?_)
                refine lv_goto (tgt := 78) hx hb dX7_reach_115 (by decide) ?_
                exact ih78 v2 v3 (v4 + (1 : Int32)) μ _ _ _ hw (lv_sub hl [1, 2, 3, 4, 0] rfl) h
              · rw [if_neg hc] at h
                refine lv_aload_n hx hb dX7_reach_97 rfl (lv_at hl 0 rfl) ?_
                refine lv_iload hx hb dX7_reach_98 (lv_at hl 4 rfl) ?_
                refine lv_iload_n hx hb dX7_reach_100 rfl (lv_at hl 2 rfl) ?_
                refine lv_iload hx hb dX7_reach_101 (lv_at hl 5 rfl) ?_
                obtain ⟨r103, hr103, h⟩ := bnd h
                refine cV (b := 15) (As := [.int v4, .int v2, .int v5]) (rest := []) (st1 := []) hC hw (c_X7_readPosition l g n v4 v2 v5 μ r103 hr103) ml_X7_75 im_X7_readPosition se_X7_readPosition ok15 (CN := RX7) (T := TX7) (NF := 13) rfl rfl (by decide) rfl hl.1 ⟨Nat.le_of_ble_eq_true rfl, Nat.le_of_ble_eq_true rfl⟩ (Nat.le_of_ble_eq_true rfl) ⟨Nat.zero_le _, Nat.zero_le _⟩ rfl dX7_reach_103 (fun H locs hw => ?_)
                refine lv_iinc (v := (v5 + (1 : Int32))) (lv' := [(5, .int (v5 + (1 : Int32))), (0, .ref (g.2.2 15)), (1, .int v1), (2, .int v2), (3, .int v3), (4, .int v4)]) hx hb dX7_reach_106 hl (k := 5) rfl rfl (by decide) rfl (fun ls hl => ?_)
                refine lv_goto (tgt := 91) hx hb dX7_reach_109 (by decide) ?_
                exact ih91 v2 v3 v4 (v5 + (1 : Int32)) r103.2 _ _ _ hw (lv_sub hl [1, 2, 3, 4, 5, 0] rfl) h
          rw [X7_reach_78b] at h
          refine lv_iload hx hb dX7_reach_78 (lv_at hl 4 rfl) ?_
          refine lv_aload_n hx hb dX7_reach_80 rfl (lv_at hl 0 rfl) ?_
          refine lv_iconst (v := (1 : Int32)) hx hb dX7_reach_81 (by decide) ?_
          obtain ⟨r82, hr82, h⟩ := bnd h
          refine cV (b := 15) (As := [.int (1 : Int32)]) (rest := [.int v4]) (st1 := [.int r82.1, .int v4]) hC hw (c_X7_halfOf l g n (1 : Int32) μ r82 hr82) ml_X7_72 im_X7_halfOf se_X7_halfOf ok15 (CN := RX7) (T := TX7) (NF := 13) rfl rfl (by decide) rfl hl.1 ⟨Nat.le_of_ble_eq_true rfl, Nat.le_of_ble_eq_true rfl⟩ (Nat.le_of_ble_eq_true rfl) ⟨Nat.zero_le _, Nat.zero_le _⟩ rfl dX7_reach_82 (fun H locs hw => ?_)
          refine lv_icmp_gt (tgt := 118) hx hb dX7_reach_85 (by decide) (fun hc => ?_) (fun hc => ?_)
          · rw [if_pos hc] at h
            refine lv_aload_n hx hb dX7_reach_118 rfl (lv_at hl 0 rfl) ?_
            refine lv_iload_n hx hb dX7_reach_119 rfl (lv_at hl 2 rfl) ?_
            obtain ⟨r120, hr120, h⟩ := bnd h
            refine cV (b := 15) (As := [.int v2]) (rest := []) (st1 := []) hC hw (c_X7_weighLevel l g n v2 r82.2 r120 hr120) ml_X7_79 im_X7_weighLevel se_X7_weighLevel ok15 (CN := RX7) (T := TX7) (NF := 13) rfl rfl (by decide) rfl hl.1 ⟨Nat.le_of_ble_eq_true rfl, Nat.le_of_ble_eq_true rfl⟩ (Nat.le_of_ble_eq_true rfl) ⟨Nat.zero_le _, Nat.zero_le _⟩ rfl dX7_reach_120 (fun H locs hw => ?_)
            refine lv_aload_n hx hb dX7_reach_123 rfl (lv_at hl 0 rfl) ?_
            refine lv_iload_n hx hb dX7_reach_124 rfl (lv_at hl 2 rfl) ?_
            refine pI hC hw fl_X7_25 fp_7_7 ok15 dX7_reach_125 (fun H locs hw => ?_)
            refine lv_iinc (v := (v2 + (1 : Int32))) (lv' := [(2, .int (v2 + (1 : Int32))), (0, .ref (g.2.2 15)), (1, .int v1), (3, .int v3), (4, .int v4)]) hx hb dX7_reach_128 hl (k := 2) rfl rfl (by decide) rfl (fun ls hl => ?_)
            refine lv_goto (tgt := 61) hx hb dX7_reach_131 (by decide) ?_
            exact ih61 (v2 + (1 : Int32)) (si r120.2 15 7 v2) _ _ _ hw (lv_sub hl [1, 2, 0] rfl) h
          · rw [if_neg hc] at h
            refine lv_iconst (v := (0 : Int32)) hx hb dX7_reach_88 (by decide) ?_
            refine lv_istore (lv' := [(5, .int (0 : Int32)), (0, .ref (g.2.2 15)), (1, .int v1), (2, .int v2), (3, .int v3), (4, .int v4)]) hx hb dX7_reach_89 hl (by decide) rfl (fun ls hl => ?_)
            exact B91 n v2 v3 v4 (0 : Int32) r82.2 _ _ _ hw (lv_sub hl [1, 2, 3, 4, 5, 0] rfl) h
      rw [X7_reach_61b] at h
      refine lv_iload_n hx hb dX7_reach_61 rfl (lv_at hl 2 rfl) ?_
      refine lv_iload_n hx hb dX7_reach_62 rfl (lv_at hl 1 rfl) ?_
      refine lv_icmp_gt (tgt := 134) hx hb dX7_reach_63 (by decide) (fun hc => ?_) (fun hc => ?_)
      · rw [if_pos hc] at h
        refine lv_iconst (v := (1 : Int32)) hx hb dX7_reach_134 (by decide) ?_
        exact rZ hC hw hr hlocks (Or.inr rfl) (by rw [← Option.some.inj h]) (by rw [← Option.some.inj h]) dX7_reach_135
      · rw [if_neg hc] at h
        refine lv_aload_n hx hb dX7_reach_66 rfl (lv_at hl 0 rfl) ?_
        refine gR (t := 2) hC hw fl_X7_46 ok15 (by decide) ot15_3 dX7_reach_67 ?_
        refine lv_iload_n hx hb dX7_reach_70 rfl (lv_at hl 2 rfl) ?_
        obtain ⟨r71, hr71, h⟩ := bnd h
        refine cV (b := 2) (As := [.int v2]) (rest := []) (st1 := [.int r71.1]) hC hw (c_X1_positionsOf l g n v2 μ r71 hr71) ml_X7_69 im_X1_positionsOf se_X1_positionsOf ok2 (CN := RX1) (T := TX1) (NF := 7) rfl rfl (by decide) rfl hl.1 ⟨Nat.le_of_ble_eq_true rfl, Nat.le_of_ble_eq_true rfl⟩ (Nat.le_of_ble_eq_true rfl) ⟨Nat.zero_le _, Nat.zero_le _⟩ rfl dX7_reach_71 (fun H locs hw => ?_)
        refine lv_istore_n (lv' := [(3, .int r71.1), (0, .ref (g.2.2 15)), (1, .int v1), (2, .int v2)]) hx hb dX7_reach_74 rfl hl (by decide) rfl (fun ls hl => ?_)
        refine lv_iconst (v := (0 : Int32)) hx hb dX7_reach_75 (by decide) ?_
        refine lv_istore (lv' := [(4, .int (0 : Int32)), (3, .int r71.1), (0, .ref (g.2.2 15)), (1, .int v1), (2, .int v2)]) hx hb dX7_reach_76 hl (by decide) rfl (fun ls hl => ?_)
        exact B78 n v2 r71.1 (0 : Int32) r71.2 _ _ _ hw (lv_sub hl [2, 3, 4, 1, 0] rfl) h
  have B54 : ∀ (μ : Mu) (H : Heap) (locs : List Loc) (ls : Array Slot), wd g μ s (Aw g s.heap.size) H locs → lv_has ls 6 [(0, .ref (g.2.2 15)), (1, .int v1)] → X7_reach_54 n v1  μ = some r → WQ p l e (rmD 5) s m args below meth c g (some (.int r.1)) r.2 H locs (F0 m 54 ls []) := by
    intro μ H locs ls hw hl h
    rw [X7_reach_54] at h
    refine lv_aload_n hx hb dX7_reach_54 rfl (lv_at hl 0 rfl) ?_
    refine gI hC hw fl_X7_25 ok15 (by decide) dX7_reach_55 ?_
    refine lv_iconst (v := (1 : Int32)) hx hb dX7_reach_58 (by decide) ?_
    refine lv_iadd hx hb dX7_reach_59 ?_
    refine lv_istore_n (lv' := [(2, .int ((μ.1 15 7) + (1 : Int32))), (0, .ref (g.2.2 15)), (1, .int v1)]) hx hb dX7_reach_60 rfl hl (by decide) rfl (fun ls hl => ?_)
    exact B61 n ((μ.1 15 7) + (1 : Int32)) μ _ _ _ hw (lv_sub hl [1, 2, 0] rfl) h
  have B38 : ∀ (μ : Mu) (H : Heap) (locs : List Loc) (ls : Array Slot), wd g μ s (Aw g s.heap.size) H locs → lv_has ls 6 [(0, .ref (g.2.2 15)), (1, .int v1)] → X7_reach_38 n v1  μ = some r → WQ p l e (rmD 5) s m args below meth c g (some (.int r.1)) r.2 H locs (F0 m 38 ls []) := by
    intro μ H locs ls hw hl h
    rw [X7_reach_38] at h
    refine lv_aload_n hx hb dX7_reach_38 rfl (lv_at hl 0 rfl) ?_
    refine lv_aload_n hx hb dX7_reach_39 rfl (lv_at hl 0 rfl) ?_
    refine gR (t := 1) hC hw fl_X7_42 ok15 (by decide) ot15_2 dX7_reach_40 ?_
    obtain ⟨r43, hr43, h⟩ := bnd h
    refine cV (b := 1) (As := []) (rest := [.ref (g.2.2 15)]) (st1 := [.int r43.1, .ref (g.2.2 15)]) hC hw (c_X5_key l g n 1 μ r43 hr43) ml_X7_63 im_X5_key se_X5_key ok1 (CN := RX5) (T := TX5) (NF := 9) rfl rfl (by decide) rfl hl.1 ⟨Nat.le_of_ble_eq_true rfl, Nat.le_of_ble_eq_true rfl⟩ (Nat.le_of_ble_eq_true rfl) ⟨Nat.zero_le _, Nat.zero_le _⟩ rfl dX7_reach_43 (fun H locs hw => ?_)
    refine pI hC hw fl_X7_60 fp_7_6 ok15 dX7_reach_46 (fun H locs hw => ?_)
    refine lv_aload_n hx hb dX7_reach_49 rfl (lv_at hl 0 rfl) ?_
    refine lv_iconst (v := ((-1) : Int32)) hx hb dX7_reach_50 (by decide) ?_
    refine pI hC hw fl_X7_25 fp_7_7 ok15 dX7_reach_51 (fun H locs hw => ?_)
    exact B54 (si (si r43.2 15 6 r43.1) 15 7 ((-1) : Int32)) _ _ _ hw (lv_sub hl [0, 1] rfl) h
  refine lv_aload_n hx hb dX7_reach_0 rfl (lv_at hl 0 rfl) ?_
  refine gR (t := 2) hC hw fl_X7_46 ok15 (by decide) ot15_3 dX7_reach_1 ?_
  refine lv_iload_n hx hb dX7_reach_4 rfl (lv_at hl 1 rfl) ?_
  obtain ⟨r5, hr5, h⟩ := bnd h
  refine cV (b := 2) (As := [.int v1]) (rest := []) (st1 := [.int r5.1]) hC hw (c_X1_positionsUpTo l g n v1 μ r5 hr5) ml_X7_54 im_X1_positionsUpTo se_X1_positionsUpTo ok2 (CN := RX1) (T := TX1) (NF := 7) rfl rfl (by decide) rfl hl.1 ⟨Nat.le_of_ble_eq_true rfl, Nat.le_of_ble_eq_true rfl⟩ (Nat.le_of_ble_eq_true rfl) ⟨Nat.zero_le _, Nat.zero_le _⟩ rfl dX7_reach_5 (fun H locs hw => ?_)
  refine lv_sipush (v := (6000 : Int32)) hx hb dX7_reach_8 (by decide) ?_
  refine lv_icmp_le (tgt := 16) hx hb dX7_reach_11 (by decide) (fun hc => ?_) (fun hc => ?_)
  · rw [if_pos hc] at h
    refine lv_aload_n hx hb dX7_reach_16 rfl (lv_at hl 0 rfl) ?_
    refine gI hC hw fl_X7_25 ok15 (by decide) dX7_reach_17 ?_
    refine lv_iconst (v := ((-1) : Int32)) hx hb dX7_reach_20 (by decide) ?_
    refine lv_icmp_eq (tgt := 38) hx hb dX7_reach_21 (by decide) (fun hc => ?_) (fun hc => ?_)
    · rw [if_pos hc] at h
      exact B38 r5.2 _ _ _ hw (lv_sub hl [0, 1] rfl) h
    · rw [if_neg hc] at h
      refine lv_aload_n hx hb dX7_reach_24 rfl (lv_at hl 0 rfl) ?_
      refine gI hC hw fl_X7_60 ok15 (by decide) dX7_reach_25 ?_
      refine lv_aload_n hx hb dX7_reach_28 rfl (lv_at hl 0 rfl) ?_
      refine gR (t := 1) hC hw fl_X7_42 ok15 (by decide) ot15_2 dX7_reach_29 ?_
      obtain ⟨r32, hr32, h⟩ := bnd h
      refine cV (b := 1) (As := []) (rest := [.int (r5.2.1 15 6)]) (st1 := [.int r32.1, .int (r5.2.1 15 6)]) hC hw (c_X5_key l g n 1 r5.2 r32 hr32) ml_X7_63 im_X5_key se_X5_key ok1 (CN := RX5) (T := TX5) (NF := 9) rfl rfl (by decide) rfl hl.1 ⟨Nat.le_of_ble_eq_true rfl, Nat.le_of_ble_eq_true rfl⟩ (Nat.le_of_ble_eq_true rfl) ⟨Nat.zero_le _, Nat.zero_le _⟩ rfl dX7_reach_32 (fun H locs hw => ?_)
      refine lv_icmp_eq (tgt := 54) hx hb dX7_reach_35 (by decide) (fun hc => ?_) (fun hc => ?_)
      · rw [if_pos hc] at h
        exact B54 r32.2 _ _ _ hw (lv_sub hl [0, 1] rfl) h
      · rw [if_neg hc] at h
        exact B38 r32.2 _ _ _ hw (lv_sub hl [0, 1] rfl) h
  · rw [if_neg hc] at h
    refine lv_iconst (v := (0 : Int32)) hx hb dX7_reach_14 (by decide) ?_
    exact rZ hC hw hr hlocks (Or.inl rfl) (by rw [← Option.some.inj h]) (by rw [← Option.some.inj h]) dX7_reach_15
set_option maxRecDepth 100000 in
set_option maxHeartbeats 4000000 in
theorem c_X11_value (l : Launch) (g : Gw) (n : Nat) (μ : Mu) (r : Int32 × Mu) (h : X11_value n  μ = some r) : Ct l g yX11_value cX11_value 1 (some .int) 6 [.ref (g.2.2 0)] μ (some (.int r.1)) r.2 := by
  rw [X11_value] at h
  refine Ct.of (by decide) (Nat.le_of_ble_eq_true rfl) ?_
  intro p e s m args below meth c ls hC hw hr hlocks hl
  have hx := hC.1
  have hb := hC.2.1
  have hl : lv_has ls 1 [(0, .ref (g.2.2 0))] := hl
  have B34 : ∀ (s0 : Int32) (μ : Mu) (H : Heap) (locs : List Loc) (ls : Array Slot), wd g μ s (Aw g s.heap.size) H locs → lv_has ls 1 [] → X11_value_34 n s0 μ = some r → WQ p l e (rmD 6) s m args below meth c g (some (.int r.1)) r.2 H locs (F0 m 34 ls [.int s0]) := by
    intro s0 μ H locs ls hw hl h
    rw [X11_value_34] at h
    exact rI hC hw hr hlocks (by rw [← Option.some.inj h]) (by rw [← Option.some.inj h]) dX11_value_34
  refine lv_aload_n hx hb dX11_value_0 rfl (lv_at hl 0 rfl) ?_
  refine gR (t := 15) hC hw fl_X11_63 ok0 (by decide) ot0_7 dX11_value_1 ?_
  refine lv_aload_n hx hb dX11_value_4 rfl (lv_at hl 0 rfl) ?_
  refine gR (t := 53) hC hw fl_X11_37 ok0 (by decide) ot0_3 dX11_value_5 ?_
  obtain ⟨r8, hr8, h⟩ := bnd h
  refine cV (b := 53) (As := []) (rest := [.ref (g.2.2 15)]) (st1 := [.int r8.1, .ref (g.2.2 15)]) hC hw (c_X6_inPits l g n 53 μ r8 hr8) ml_X11_236 im_X6_inPits se_X6_inPits ok53 (CN := RX6) (T := TX6) (NF := 2) rfl rfl (by decide) rfl hl.1 ⟨Nat.le_of_ble_eq_true rfl, Nat.le_of_ble_eq_true rfl⟩ (Nat.le_of_ble_eq_true rfl) ⟨Nat.zero_le _, Nat.zero_le _⟩ rfl dX11_value_8 (fun H locs hw => ?_)
  obtain ⟨r11, hr11, h⟩ := bnd h
  refine cV (b := 15) (As := [.int r8.1]) (rest := []) (st1 := [.int r11.1]) hC hw (c_X7_reach l g n r8.1 r8.2 r11 hr11) ml_X11_259 im_X7_reach se_X7_reach ok15 (CN := RX7) (T := TX7) (NF := 13) rfl rfl (by decide) rfl hl.1 ⟨Nat.le_of_ble_eq_true rfl, Nat.le_of_ble_eq_true rfl⟩ (Nat.le_of_ble_eq_true rfl) ⟨Nat.zero_le _, Nat.zero_le _⟩ rfl dX11_value_11 (fun H locs hw => ?_)
  refine lv_if_eq (tgt := 31) hx hb dX11_value_14 (by decide) (fun hc => ?_) (fun hc => ?_)
  · rw [if_pos hc] at h
    refine lv_sipush (v := ((-1000) : Int32)) hx hb dX11_value_31 (by decide) ?_
    exact B34 ((-1000) : Int32) r11.2 _ _ _ hw (lv_sub hl [] rfl) h
  · rw [if_neg hc] at h
    refine lv_aload_n hx hb dX11_value_17 rfl (lv_at hl 0 rfl) ?_
    refine gR (t := 15) hC hw fl_X11_63 ok0 (by decide) ot0_7 dX11_value_18 ?_
    refine lv_aload_n hx hb dX11_value_21 rfl (lv_at hl 0 rfl) ?_
    refine gR (t := 53) hC hw fl_X11_37 ok0 (by decide) ot0_3 dX11_value_22 ?_
    obtain ⟨r25, hr25, h⟩ := bnd h
    refine cV (b := 15) (As := [.ref (g.2.2 53)]) (rest := []) (st1 := [.int r25.1]) hC hw (c_X7_valueAt l g n 53 r11.2 r25 hr25) ml_X11_263 im_X7_valueAt se_X7_valueAt ok15 (CN := RX7) (T := TX7) (NF := 13) rfl rfl (by decide) rfl hl.1 ⟨Nat.le_of_ble_eq_true rfl, Nat.le_of_ble_eq_true rfl⟩ (Nat.le_of_ble_eq_true rfl) ⟨Nat.zero_le _, Nat.zero_le _⟩ rfl dX11_value_25 (fun H locs hw => ?_)
    refine lv_goto (tgt := 34) hx hb dX11_value_28 (by decide) ?_
    exact B34 r25.1 r25.2 _ _ _ hw (lv_sub hl [] rfl) h
set_option maxRecDepth 100000 in
set_option maxHeartbeats 4000000 in
theorem c_X11_rank (l : Launch) (g : Gw) (n : Nat) (μ : Mu) (r : Int32 × Mu) (h : X11_rank n  μ = some r) : Ct l g yX11_rank cX11_rank 1 (some .int) 6 [.ref (g.2.2 0)] μ (some (.int r.1)) r.2 := by
  rw [X11_rank] at h
  refine Ct.of (by decide) (Nat.le_of_ble_eq_true rfl) ?_
  intro p e s m args below meth c ls hC hw hr hlocks hl
  have hx := hC.1
  have hb := hC.2.1
  have hl : lv_has ls 1 [(0, .ref (g.2.2 0))] := hl
  have B32 : ∀ (s0 : Int32) (μ : Mu) (H : Heap) (locs : List Loc) (ls : Array Slot), wd g μ s (Aw g s.heap.size) H locs → lv_has ls 1 [] → X11_rank_32 n s0 μ = some r → WQ p l e (rmD 6) s m args below meth c g (some (.int r.1)) r.2 H locs (F0 m 32 ls [.int s0]) := by
    intro s0 μ H locs ls hw hl h
    rw [X11_rank_32] at h
    exact rI hC hw hr hlocks (by rw [← Option.some.inj h]) (by rw [← Option.some.inj h]) dX11_rank_32
  refine lv_aload_n hx hb dX11_rank_0 rfl (lv_at hl 0 rfl) ?_
  refine gR (t := 15) hC hw fl_X11_63 ok0 (by decide) ot0_7 dX11_rank_1 ?_
  refine lv_aload_n hx hb dX11_rank_4 rfl (lv_at hl 0 rfl) ?_
  refine gR (t := 53) hC hw fl_X11_37 ok0 (by decide) ot0_3 dX11_rank_5 ?_
  obtain ⟨r8, hr8, h⟩ := bnd h
  refine cV (b := 53) (As := []) (rest := [.ref (g.2.2 15)]) (st1 := [.int r8.1, .ref (g.2.2 15)]) hC hw (c_X6_inPits l g n 53 μ r8 hr8) ml_X11_236 im_X6_inPits se_X6_inPits ok53 (CN := RX6) (T := TX6) (NF := 2) rfl rfl (by decide) rfl hl.1 ⟨Nat.le_of_ble_eq_true rfl, Nat.le_of_ble_eq_true rfl⟩ (Nat.le_of_ble_eq_true rfl) ⟨Nat.zero_le _, Nat.zero_le _⟩ rfl dX11_rank_8 (fun H locs hw => ?_)
  obtain ⟨r11, hr11, h⟩ := bnd h
  refine cV (b := 15) (As := [.int r8.1]) (rest := []) (st1 := [.int r11.1]) hC hw (c_X7_reach l g n r8.1 r8.2 r11 hr11) ml_X11_259 im_X7_reach se_X7_reach ok15 (CN := RX7) (T := TX7) (NF := 13) rfl rfl (by decide) rfl hl.1 ⟨Nat.le_of_ble_eq_true rfl, Nat.le_of_ble_eq_true rfl⟩ (Nat.le_of_ble_eq_true rfl) ⟨Nat.zero_le _, Nat.zero_le _⟩ rfl dX11_rank_11 (fun H locs hw => ?_)
  refine lv_if_eq (tgt := 31) hx hb dX11_rank_14 (by decide) (fun hc => ?_) (fun hc => ?_)
  · rw [if_pos hc] at h
    refine lv_iconst (v := ((-1) : Int32)) hx hb dX11_rank_31 (by decide) ?_
    exact B32 ((-1) : Int32) r11.2 _ _ _ hw (lv_sub hl [] rfl) h
  · rw [if_neg hc] at h
    refine lv_aload_n hx hb dX11_rank_17 rfl (lv_at hl 0 rfl) ?_
    refine gR (t := 15) hC hw fl_X11_63 ok0 (by decide) ot0_7 dX11_rank_18 ?_
    refine lv_aload_n hx hb dX11_rank_21 rfl (lv_at hl 0 rfl) ?_
    refine gR (t := 53) hC hw fl_X11_37 ok0 (by decide) ot0_3 dX11_rank_22 ?_
    obtain ⟨r25, hr25, h⟩ := bnd h
    refine cV (b := 15) (As := [.ref (g.2.2 53)]) (rest := []) (st1 := [.int r25.1]) hC hw (c_X7_rankAt l g n 53 r11.2 r25 hr25) ml_X11_266 im_X7_rankAt se_X7_rankAt ok15 (CN := RX7) (T := TX7) (NF := 13) rfl rfl (by decide) rfl hl.1 ⟨Nat.le_of_ble_eq_true rfl, Nat.le_of_ble_eq_true rfl⟩ (Nat.le_of_ble_eq_true rfl) ⟨Nat.zero_le _, Nat.zero_le _⟩ rfl dX11_rank_25 (fun H locs hw => ?_)
    refine lv_goto (tgt := 32) hx hb dX11_rank_28 (by decide) ?_
    exact B32 r25.1 r25.2 _ _ _ hw (lv_sub hl [] rfl) h
set_option maxRecDepth 100000 in
set_option maxHeartbeats 4000000 in
theorem c_X11_best (l : Launch) (g : Gw) (n : Nat) (μ : Mu) (r : Int32 × Mu) (h : X11_best n  μ = some r) : Ct l g yX11_best cX11_best 1 (some .int) 6 [.ref (g.2.2 0)] μ (some (.int r.1)) r.2 := by
  rw [X11_best] at h
  refine Ct.of (by decide) (Nat.le_of_ble_eq_true rfl) ?_
  intro p e s m args below meth c ls hC hw hr hlocks hl
  have hx := hC.1
  have hb := hC.2.1
  have hl : lv_has ls 1 [(0, .ref (g.2.2 0))] := hl
  have B32 : ∀ (s0 : Int32) (μ : Mu) (H : Heap) (locs : List Loc) (ls : Array Slot), wd g μ s (Aw g s.heap.size) H locs → lv_has ls 1 [] → X11_best_32 n s0 μ = some r → WQ p l e (rmD 6) s m args below meth c g (some (.int r.1)) r.2 H locs (F0 m 32 ls [.int s0]) := by
    intro s0 μ H locs ls hw hl h
    rw [X11_best_32] at h
    exact rI hC hw hr hlocks (by rw [← Option.some.inj h]) (by rw [← Option.some.inj h]) dX11_best_32
  refine lv_aload_n hx hb dX11_best_0 rfl (lv_at hl 0 rfl) ?_
  refine gR (t := 15) hC hw fl_X11_63 ok0 (by decide) ot0_7 dX11_best_1 ?_
  refine lv_aload_n hx hb dX11_best_4 rfl (lv_at hl 0 rfl) ?_
  refine gR (t := 53) hC hw fl_X11_37 ok0 (by decide) ot0_3 dX11_best_5 ?_
  obtain ⟨r8, hr8, h⟩ := bnd h
  refine cV (b := 53) (As := []) (rest := [.ref (g.2.2 15)]) (st1 := [.int r8.1, .ref (g.2.2 15)]) hC hw (c_X6_inPits l g n 53 μ r8 hr8) ml_X11_236 im_X6_inPits se_X6_inPits ok53 (CN := RX6) (T := TX6) (NF := 2) rfl rfl (by decide) rfl hl.1 ⟨Nat.le_of_ble_eq_true rfl, Nat.le_of_ble_eq_true rfl⟩ (Nat.le_of_ble_eq_true rfl) ⟨Nat.zero_le _, Nat.zero_le _⟩ rfl dX11_best_8 (fun H locs hw => ?_)
  obtain ⟨r11, hr11, h⟩ := bnd h
  refine cV (b := 15) (As := [.int r8.1]) (rest := []) (st1 := [.int r11.1]) hC hw (c_X7_reach l g n r8.1 r8.2 r11 hr11) ml_X11_259 im_X7_reach se_X7_reach ok15 (CN := RX7) (T := TX7) (NF := 13) rfl rfl (by decide) rfl hl.1 ⟨Nat.le_of_ble_eq_true rfl, Nat.le_of_ble_eq_true rfl⟩ (Nat.le_of_ble_eq_true rfl) ⟨Nat.zero_le _, Nat.zero_le _⟩ rfl dX11_best_11 (fun H locs hw => ?_)
  refine lv_if_eq (tgt := 31) hx hb dX11_best_14 (by decide) (fun hc => ?_) (fun hc => ?_)
  · rw [if_pos hc] at h
    refine lv_iconst (v := ((-1) : Int32)) hx hb dX11_best_31 (by decide) ?_
    exact B32 ((-1) : Int32) r11.2 _ _ _ hw (lv_sub hl [] rfl) h
  · rw [if_neg hc] at h
    refine lv_aload_n hx hb dX11_best_17 rfl (lv_at hl 0 rfl) ?_
    refine gR (t := 15) hC hw fl_X11_63 ok0 (by decide) ot0_7 dX11_best_18 ?_
    refine lv_aload_n hx hb dX11_best_21 rfl (lv_at hl 0 rfl) ?_
    refine gR (t := 53) hC hw fl_X11_37 ok0 (by decide) ot0_3 dX11_best_22 ?_
    obtain ⟨r25, hr25, h⟩ := bnd h
    refine cV (b := 15) (As := [.ref (g.2.2 53)]) (rest := []) (st1 := [.int r25.1]) hC hw (c_X7_bestAt l g n 53 r11.2 r25 hr25) ml_X11_269 im_X7_bestAt se_X7_bestAt ok15 (CN := RX7) (T := TX7) (NF := 13) rfl rfl (by decide) rfl hl.1 ⟨Nat.le_of_ble_eq_true rfl, Nat.le_of_ble_eq_true rfl⟩ (Nat.le_of_ble_eq_true rfl) ⟨Nat.zero_le _, Nat.zero_le _⟩ rfl dX11_best_25 (fun H locs hw => ?_)
    refine lv_goto (tgt := 32) hx hb dX11_best_28 (by decide) ?_
    exact B32 r25.1 r25.2 _ _ _ hw (lv_sub hl [] rfl) h
set_option maxRecDepth 100000 in
set_option maxHeartbeats 4000000 in
theorem c_X11_worth (l : Launch) (g : Gw) (n : Nat) (v1 : Int32) (μ : Mu) (r : Int32 × Mu) (h : X11_worth n v1 μ = some r) : Ct l g yX11_worth cX11_worth 2 (some .int) 6 [.ref (g.2.2 0), .int v1] μ (some (.int r.1)) r.2 := by
  rw [X11_worth] at h
  refine Ct.of (by decide) (Nat.le_of_ble_eq_true rfl) ?_
  intro p e s m args below meth c ls hC hw hr hlocks hl
  have hx := hC.1
  have hb := hC.2.1
  have hl : lv_has ls 2 [(0, .ref (g.2.2 0)), (1, .int v1)] := hl
  have B51 : ∀ (s0 : Int32) (μ : Mu) (H : Heap) (locs : List Loc) (ls : Array Slot), wd g μ s (Aw g s.heap.size) H locs → lv_has ls 2 [] → X11_worth_51 n v1 s0 μ = some r → WQ p l e (rmD 6) s m args below meth c g (some (.int r.1)) r.2 H locs (F0 m 51 ls [.int s0]) := by
    intro s0 μ H locs ls hw hl h
    rw [X11_worth_51] at h
    exact rI hC hw hr hlocks (by rw [← Option.some.inj h]) (by rw [← Option.some.inj h]) dX11_worth_51
  have B48 : ∀ (μ : Mu) (H : Heap) (locs : List Loc) (ls : Array Slot), wd g μ s (Aw g s.heap.size) H locs → lv_has ls 2 [] → X11_worth_48 n v1  μ = some r → WQ p l e (rmD 6) s m args below meth c g (some (.int r.1)) r.2 H locs (F0 m 48 ls []) := by
    intro μ H locs ls hw hl h
    rw [X11_worth_48] at h
    refine lv_sipush (v := ((-1000) : Int32)) hx hb dX11_worth_48 (by decide) ?_
    exact B51 ((-1000) : Int32) μ _ _ _ hw (lv_sub hl [] rfl) h
  refine lv_aload_n hx hb dX11_worth_0 rfl (lv_at hl 0 rfl) ?_
  refine gR (t := 6) hC hw fl_X11_30 ok0 (by decide) ot0_2 dX11_worth_1 ?_
  refine lv_aload_n hx hb dX11_worth_4 rfl (lv_at hl 0 rfl) ?_
  refine gR (t := 53) hC hw fl_X11_37 ok0 (by decide) ot0_3 dX11_worth_5 ?_
  refine lv_iload_n hx hb dX11_worth_8 rfl (lv_at hl 1 rfl) ?_
  refine lv_i2l hx hb dX11_worth_9 rfl ?_
  obtain ⟨r10, hr10, h⟩ := bnd h
  refine cV (b := 6) (As := [.ref (g.2.2 53), .long (v1.toInt64)]) (rest := []) (st1 := [.int r10.1]) hC hw (c_X8_isOwn l g n 53 (v1.toInt64) μ r10 hr10) ml_X11_171 im_X8_isOwn se_X8_isOwn ok6 (CN := RX8) (T := TX8) (NF := 8) rfl rfl (by decide) rfl hl.1 ⟨Nat.le_of_ble_eq_true rfl, Nat.le_of_ble_eq_true rfl⟩ (Nat.le_of_ble_eq_true rfl) ⟨Nat.zero_le _, Nat.zero_le _⟩ rfl dX11_worth_10 (fun H locs hw => ?_)
  refine lv_if_eq (tgt := 48) hx hb dX11_worth_13 (by decide) (fun hc => ?_) (fun hc => ?_)
  · rw [if_pos hc] at h
    exact B48 r10.2 _ _ _ hw (lv_sub hl [] rfl) h
  · rw [if_neg hc] at h
    refine lv_aload_n hx hb dX11_worth_16 rfl (lv_at hl 0 rfl) ?_
    refine gR (t := 15) hC hw fl_X11_63 ok0 (by decide) ot0_7 dX11_worth_17 ?_
    refine lv_aload_n hx hb dX11_worth_20 rfl (lv_at hl 0 rfl) ?_
    refine gR (t := 53) hC hw fl_X11_37 ok0 (by decide) ot0_3 dX11_worth_21 ?_
    obtain ⟨r24, hr24, h⟩ := bnd h
    refine cV (b := 53) (As := []) (rest := [.ref (g.2.2 15)]) (st1 := [.int r24.1, .ref (g.2.2 15)]) hC hw (c_X6_inPits l g n 53 r10.2 r24 hr24) ml_X11_236 im_X6_inPits se_X6_inPits ok53 (CN := RX6) (T := TX6) (NF := 2) rfl rfl (by decide) rfl hl.1 ⟨Nat.le_of_ble_eq_true rfl, Nat.le_of_ble_eq_true rfl⟩ (Nat.le_of_ble_eq_true rfl) ⟨Nat.zero_le _, Nat.zero_le _⟩ rfl dX11_worth_24 (fun H locs hw => ?_)
    obtain ⟨r27, hr27, h⟩ := bnd h
    refine cV (b := 15) (As := [.int r24.1]) (rest := []) (st1 := [.int r27.1]) hC hw (c_X7_reach l g n r24.1 r24.2 r27 hr27) ml_X11_259 im_X7_reach se_X7_reach ok15 (CN := RX7) (T := TX7) (NF := 13) rfl rfl (by decide) rfl hl.1 ⟨Nat.le_of_ble_eq_true rfl, Nat.le_of_ble_eq_true rfl⟩ (Nat.le_of_ble_eq_true rfl) ⟨Nat.zero_le _, Nat.zero_le _⟩ rfl dX11_worth_27 (fun H locs hw => ?_)
    refine lv_if_eq (tgt := 48) hx hb dX11_worth_30 (by decide) (fun hc => ?_) (fun hc => ?_)
    · rw [if_pos hc] at h
      exact B48 r27.2 _ _ _ hw (lv_sub hl [] rfl) h
    · rw [if_neg hc] at h
      refine lv_aload_n hx hb dX11_worth_33 rfl (lv_at hl 0 rfl) ?_
      refine gR (t := 15) hC hw fl_X11_63 ok0 (by decide) ot0_7 dX11_worth_34 ?_
      refine lv_aload_n hx hb dX11_worth_37 rfl (lv_at hl 0 rfl) ?_
      refine gR (t := 53) hC hw fl_X11_37 ok0 (by decide) ot0_3 dX11_worth_38 ?_
      refine lv_iload_n hx hb dX11_worth_41 rfl (lv_at hl 1 rfl) ?_
      obtain ⟨r42, hr42, h⟩ := bnd h
      refine cV (b := 15) (As := [.ref (g.2.2 53), .int v1]) (rest := []) (st1 := [.int r42.1]) hC hw (c_X7_worthBy l g n 53 v1 r27.2 r42 hr42) ml_X11_272 im_X7_worthBy se_X7_worthBy ok15 (CN := RX7) (T := TX7) (NF := 13) rfl rfl (by decide) rfl hl.1 ⟨Nat.le_of_ble_eq_true rfl, Nat.le_of_ble_eq_true rfl⟩ (Nat.le_of_ble_eq_true rfl) ⟨Nat.zero_le _, Nat.zero_le _⟩ rfl dX11_worth_42 (fun H locs hw => ?_)
      refine lv_goto (tgt := 51) hx hb dX11_worth_45 (by decide) ?_
      exact B51 r42.1 r42.2 _ _ _ hw (lv_sub hl [] rfl) h
set_option maxRecDepth 100000 in
set_option maxHeartbeats 4000000 in
theorem c_X11_swapped (l : Launch) (g : Gw) (n : Nat) (μ : Mu) (r : Int32 × Mu) (h : X11_swapped n  μ = some r) : Ct l g yX11_swapped cX11_swapped 1 (some .int) 6 [.ref (g.2.2 0)] μ (some (.int r.1)) r.2 := by
  rw [X11_swapped] at h
  refine Ct.of (by decide) (Nat.le_of_ble_eq_true rfl) ?_
  intro p e s m args below meth c ls hC hw hr hlocks hl
  have hx := hC.1
  have hb := hC.2.1
  have hl : lv_has ls 1 [(0, .ref (g.2.2 0))] := hl
  refine lv_aload_n hx hb dX11_swapped_0 rfl (lv_at hl 0 rfl) ?_
  refine gR (t := 15) hC hw fl_X11_63 ok0 (by decide) ot0_7 dX11_swapped_1 ?_
  refine lv_aload_n hx hb dX11_swapped_4 rfl (lv_at hl 0 rfl) ?_
  refine gR (t := 53) hC hw fl_X11_37 ok0 (by decide) ot0_3 dX11_swapped_5 ?_
  obtain ⟨r8, hr8, h⟩ := bnd h
  refine cV (b := 53) (As := []) (rest := [.ref (g.2.2 15)]) (st1 := [.int r8.1, .ref (g.2.2 15)]) hC hw (c_X6_inPits l g n 53 μ r8 hr8) ml_X11_236 im_X6_inPits se_X6_inPits ok53 (CN := RX6) (T := TX6) (NF := 2) rfl rfl (by decide) rfl hl.1 ⟨Nat.le_of_ble_eq_true rfl, Nat.le_of_ble_eq_true rfl⟩ (Nat.le_of_ble_eq_true rfl) ⟨Nat.zero_le _, Nat.zero_le _⟩ rfl dX11_swapped_8 (fun H locs hw => ?_)
  obtain ⟨r11, hr11, h⟩ := bnd h
  refine cV (b := 15) (As := [.int r8.1]) (rest := []) (st1 := [.int r11.1]) hC hw (c_X7_reach l g n r8.1 r8.2 r11 hr11) ml_X11_259 im_X7_reach se_X7_reach ok15 (CN := RX7) (T := TX7) (NF := 13) rfl rfl (by decide) rfl hl.1 ⟨Nat.le_of_ble_eq_true rfl, Nat.le_of_ble_eq_true rfl⟩ (Nat.le_of_ble_eq_true rfl) ⟨Nat.zero_le _, Nat.zero_le _⟩ rfl dX11_swapped_11 (fun H locs hw => ?_)
  refine lv_if_ne (tgt := 21) hx hb dX11_swapped_14 (by decide) (fun hc => ?_) (fun hc => ?_)
  · rw [if_neg hc] at h
    refine lv_aload_n hx hb dX11_swapped_21 rfl (lv_at hl 0 rfl) ?_
    refine gR (t := 55) hC hw fl_X11_41 ok0 (by decide) ot0_4 dX11_swapped_22 ?_
    refine lv_aload_n hx hb dX11_swapped_25 rfl (lv_at hl 0 rfl) ?_
    refine gR (t := 53) hC hw fl_X11_37 ok0 (by decide) ot0_3 dX11_swapped_26 ?_
    obtain ⟨r29, hr29, h⟩ := bnd h
    refine cV (b := 55) (As := [.ref (g.2.2 53)]) (rest := []) (st1 := []) hC hw (c_X6_copy l g n 55 53 r11.2 r29 hr29) ml_X11_177 im_X6_copy se_X6_copy ok55 (CN := RX6) (T := TX6) (NF := 2) rfl rfl (by decide) rfl hl.1 ⟨Nat.le_of_ble_eq_true rfl, Nat.le_of_ble_eq_true rfl⟩ (Nat.le_of_ble_eq_true rfl) ⟨Nat.zero_le _, Nat.zero_le _⟩ rfl dX11_swapped_29 (fun H locs hw => ?_)
    refine lv_aload_n hx hb dX11_swapped_32 rfl (lv_at hl 0 rfl) ?_
    refine gR (t := 55) hC hw fl_X11_41 ok0 (by decide) ot0_4 dX11_swapped_33 ?_
    refine lv_iconst (v := (1 : Int32)) hx hb dX11_swapped_36 (by decide) ?_
    refine lv_aload_n hx hb dX11_swapped_37 rfl (lv_at hl 0 rfl) ?_
    refine gR (t := 53) hC hw fl_X11_37 ok0 (by decide) ot0_3 dX11_swapped_38 ?_
    refine gI hC hw fl_X11_153 ok53 (by decide) dX11_swapped_41 ?_
    refine lv_isub hx hb dX11_swapped_44 ?_
    refine pI hC hw fl_X11_153 fp_6_1 ok55 dX11_swapped_45 (fun H locs hw => ?_)
    refine lv_aload_n hx hb dX11_swapped_48 rfl (lv_at hl 0 rfl) ?_
    refine gR (t := 15) hC hw fl_X11_63 ok0 (by decide) ot0_7 dX11_swapped_49 ?_
    refine lv_aload_n hx hb dX11_swapped_52 rfl (lv_at hl 0 rfl) ?_
    refine gR (t := 55) hC hw fl_X11_41 ok0 (by decide) ot0_4 dX11_swapped_53 ?_
    obtain ⟨r56, hr56, h⟩ := bnd h
    refine cV (b := 15) (As := [.ref (g.2.2 55)]) (rest := []) (st1 := [.int r56.1]) hC hw (c_X7_valueAt l g n 55 (si r29.2 55 1 ((1 : Int32) - (r29.2.1 53 1))) r56 hr56) ml_X11_263 im_X7_valueAt se_X7_valueAt ok15 (CN := RX7) (T := TX7) (NF := 13) rfl rfl (by decide) rfl hl.1 ⟨Nat.le_of_ble_eq_true rfl, Nat.le_of_ble_eq_true rfl⟩ (Nat.le_of_ble_eq_true rfl) ⟨Nat.zero_le _, Nat.zero_le _⟩ rfl dX11_swapped_56 (fun H locs hw => ?_)
    exact rI hC hw hr hlocks (by rw [← Option.some.inj h]) (by rw [← Option.some.inj h]) dX11_swapped_59
  · rw [if_pos hc] at h
    refine lv_sipush (v := ((-1000) : Int32)) hx hb dX11_swapped_17 (by decide) ?_
    exact rI hC hw hr hlocks (by rw [← Option.some.inj h]) (by rw [← Option.some.inj h]) dX11_swapped_20
set_option maxRecDepth 100000 in
set_option maxHeartbeats 4000000 in
theorem c_X11_settle (l : Launch) (g : Gw) (n : Nat) (v1 : Nat) (v2 : Nat) (μ : Mu) (r : Unit × Mu) (h : X11_settle n v1 v2 μ = some r) : Ct l g yX11_settle cX11_settle 3 none 4 [.ref (g.2.2 0), .ref (g.2.2 v1), .ref (g.2.2 v2)] μ none r.2 := by
  rw [X11_settle] at h
  obtain ⟨hk1, h⟩ := kd_some h
  obtain ⟨hk2, h⟩ := kd_some h
  refine Ct.of (by decide) (Nat.le_of_ble_eq_true rfl) ?_
  intro p e s m args below meth c ls hC hw hr hlocks hl
  have hx := hC.1
  have hb := hC.2.1
  have hl : lv_has ls 3 [(0, .ref (g.2.2 0)), (1, .ref (g.2.2 v1)), (2, .ref (g.2.2 v2))] := hl
  refine lv_aload_n hx hb dX11_settle_0 rfl (lv_at hl 0 rfl) ?_
  refine gR (t := 1) hC hw fl_X11_12 ok0 (by decide) ot0_0 dX11_settle_1 ?_
  refine lv_aload_n hx hb dX11_settle_4 rfl (lv_at hl 1 rfl) ?_
  obtain ⟨r5, hr5, h⟩ := bnd h
  refine cV (b := 1) (As := [.ref (g.2.2 v1)]) (rest := []) (st1 := []) hC hw (c_X5_copy l g n 1 v1 μ r5 hr5) ml_X11_382 im_X5_copy se_X5_copy ok1 (CN := RX5) (T := TX5) (NF := 9) rfl rfl (by decide) rfl hl.1 ⟨Nat.le_of_ble_eq_true rfl, Nat.le_of_ble_eq_true rfl⟩ (Nat.le_of_ble_eq_true rfl) ⟨Nat.zero_le _, Nat.zero_le _⟩ rfl dX11_settle_5 (fun H locs hw => ?_)
  refine lv_aload_n hx hb dX11_settle_8 rfl (lv_at hl 0 rfl) ?_
  refine gR (t := 2) hC hw fl_X11_21 ok0 (by decide) ot0_1 dX11_settle_9 ?_
  obtain ⟨r12, hr12, h⟩ := bnd h
  refine cV (b := 2) (As := []) (rest := []) (st1 := []) hC hw (c_X1_build l g n r5.2 r12 hr12) ml_X11_405 im_X1_build se_X1_build ok2 (CN := RX1) (T := TX1) (NF := 7) rfl rfl (by decide) rfl hl.1 ⟨Nat.le_of_ble_eq_true rfl, Nat.le_of_ble_eq_true rfl⟩ (Nat.le_of_ble_eq_true rfl) ⟨Nat.zero_le _, Nat.zero_le _⟩ rfl dX11_settle_12 (fun H locs hw => ?_)
  refine lv_aload_n hx hb dX11_settle_15 rfl (lv_at hl 0 rfl) ?_
  refine gR (t := 53) hC hw fl_X11_37 ok0 (by decide) ot0_3 dX11_settle_16 ?_
  refine lv_aload_n hx hb dX11_settle_19 rfl (lv_at hl 2 rfl) ?_
  obtain ⟨r20, hr20, h⟩ := bnd h
  refine cV (b := 53) (As := [.ref (g.2.2 v2)]) (rest := []) (st1 := []) hC hw (c_X6_copy l g n 53 v2 r12.2 r20 hr20) ml_X11_177 im_X6_copy se_X6_copy ok53 (CN := RX6) (T := TX6) (NF := 2) rfl rfl (by decide) rfl hl.1 ⟨Nat.le_of_ble_eq_true rfl, Nat.le_of_ble_eq_true rfl⟩ (Nat.le_of_ble_eq_true rfl) ⟨Nat.zero_le _, Nat.zero_le _⟩ rfl dX11_settle_20 (fun H locs hw => ?_)
  refine lv_aload_n hx hb dX11_settle_23 rfl (lv_at hl 0 rfl) ?_
  refine gR (t := 9) hC hw fl_X11_47 ok0 (by decide) ot0_5 dX11_settle_24 ?_
  obtain ⟨r27, hr27, h⟩ := bnd h
  refine cV (b := 9) (As := []) (rest := []) (st1 := []) hC hw (c_X3_forget l g n r20.2 r27 hr27) ml_X11_408 im_X3_forget se_X3_forget ok9 (CN := RX3) (T := TX3) (NF := 5) rfl rfl (by decide) rfl hl.1 ⟨Nat.le_of_ble_eq_true rfl, Nat.le_of_ble_eq_true rfl⟩ (Nat.le_of_ble_eq_true rfl) ⟨Nat.zero_le _, Nat.zero_le _⟩ rfl dX11_settle_27 (fun H locs hw => ?_)
  exact rV hC hw hr hlocks rfl (by rw [← Option.some.inj h]) dX11_settle_30
set_option maxRecDepth 100000 in
set_option maxHeartbeats 4000000 in
theorem c_X12_laysMoves (l : Launch) (g : Gw) (n : Nat) (v1 : Int32) (μ : Mu) (r : Unit × Mu) (h : X12_laysMoves n v1 μ = some r) : Ct l g yX12_laysMoves cX12_laysMoves 6 none 8 [.ref (g.2.2 171), .int v1] μ none r.2 := by
  rw [X12_laysMoves] at h
  refine Ct.of (by decide) (Nat.le_of_ble_eq_true rfl) ?_
  intro p e s m args below meth c ls hC hw hr hlocks hl
  have hx := hC.1
  have hb := hC.2.1
  have hl : lv_has ls 6 [(0, .ref (g.2.2 171)), (1, .int v1)] := hl
  have B2 : ∀ (k : Nat), ∀ (v2 : Int32) (μ : Mu) (H : Heap) (locs : List Loc) (ls : Array Slot), wd g μ s (Aw g s.heap.size) H locs → lv_has ls 6 [(0, .ref (g.2.2 171)), (1, .int v1), (2, .int v2)] → lpF (fun _ _ => none) (X12_laysMoves_2b n v1) k v2 μ = some r → WQ p l e (rmD 8) s m args below meth c g none r.2 H locs (F0 m 2 ls []) := by
    intro k
    induction k with
    | zero =>
      intro v2 μ H locs ls hw hl h
      cases h
    | succ k ih2 =>
      rw [lpF_s]
      generalize lpF (fun _ _ => none) (X12_laysMoves_2b n v1) k = k2 at ih2 ⊢
      intro v2 μ H locs ls hw hl h
      have B9 : ∀ (k : Nat), ∀ (v2 : Int32) (v3 : Int32) (μ : Mu) (H : Heap) (locs : List Loc) (ls : Array Slot), wd g μ s (Aw g s.heap.size) H locs → lv_has ls 6 [(0, .ref (g.2.2 171)), (1, .int v1), (2, .int v2), (3, .int v3)] → lpF (fun _ _ _ => none) (X12_laysMoves_9b n v1 k2) k v2 v3 μ = some r → WQ p l e (rmD 8) s m args below meth c g none r.2 H locs (F0 m 9 ls []) := by
        intro k
        induction k with
        | zero =>
          intro v2 v3 μ H locs ls hw hl h
          cases h
        | succ k ih9 =>
          rw [lpF_s]
          generalize lpF (fun _ _ _ => none) (X12_laysMoves_9b n v1 k2) k = k9 at ih9 ⊢
          intro v2 v3 μ H locs ls hw hl h
          have B100 : ∀ (k : Nat), ∀ (v2 : Int32) (v3 : Int32) (v4 : Int32) (v5 : Int32) (μ : Mu) (H : Heap) (locs : List Loc) (ls : Array Slot), wd g μ s (Aw g s.heap.size) H locs → lv_has ls 6 [(0, .ref (g.2.2 171)), (1, .int v1), (2, .int v2), (3, .int v3), (4, .int v4), (5, .int v5)] → lpF (fun _ _ _ _ _ => none) (X12_laysMoves_100b n v1 k2 k9) k v2 v3 v4 v5 μ = some r → WQ p l e (rmD 8) s m args below meth c g none r.2 H locs (F0 m 100 ls []) := by
            intro k
            induction k with
            | zero =>
              intro v2 v3 v4 v5 μ H locs ls hw hl h
              cases h
            | succ k ih100 =>
              rw [lpF_s]
              generalize lpF (fun _ _ _ _ _ => none) (X12_laysMoves_100b n v1 k2 k9) k = k100 at ih100 ⊢
              intro v2 v3 v4 v5 μ H locs ls hw hl h
              rw [X12_laysMoves_100b] at h
              refine lv_iload hx hb dX12_laysMoves_100 (lv_at hl 5 rfl) ?_
              refine lv_aload_n hx hb dX12_laysMoves_102 rfl (lv_at hl 0 rfl) ?_
              refine gR (t := 172) hC hw fl_X12_9 ok171 (by decide) ot171_0 dX12_laysMoves_103 ?_
              refine lv_iconst (v := (1 : Int32)) hx hb dX12_laysMoves_106 (by decide) ?_
              refine lI (j := 1) hC hw ok172 on172 (vin (by decide)) (by decide) dX12_laysMoves_107 ?_
              refine lv_icmp_ge (tgt := 127) hx hb dX12_laysMoves_108 (by decide) (fun hc => ?_) (fun hc => ?_)
              · rw [if_pos hc] at h
                refine lv_iinc (v := (v3 + (1 : Int32))) (lv' := [(3, .int (v3 + (1 : Int32))), (0, .ref (g.2.2 171)), (1, .int v1), (2, .int v2), (4, .int v4), (5, .int v5)]) hx hb dX12_laysMoves_127 hl (k := 3) rfl rfl (by decide) rfl (fun ls hl => ?_)
                refine lv_goto (tgt := 9) hx hb dX12_laysMoves_130 (by decide) ?_
                exact ih9 v2 (v3 + (1 : Int32)) μ _ _ _ hw (lv_sub hl [1, 2, 3, 0] rfl) h
              · rw [if_neg hc] at h
                refine lv_aload_n hx hb dX12_laysMoves_111 rfl (lv_at hl 0 rfl) ?_
                refine lv_iload hx hb dX12_laysMoves_112 (lv_at hl 4 rfl) ?_
                refine lv_iload_n hx hb dX12_laysMoves_114 rfl (lv_at hl 2 rfl) ?_
                refine lv_iload_n hx hb dX12_laysMoves_115 rfl (lv_at hl 1 rfl) ?_
                refine lv_iload hx hb dX12_laysMoves_116 (lv_at hl 5 rfl) ?_
                obtain ⟨r118, hr118, h⟩ := bnd h
                refine cV (b := 171) (As := [.int v4, .int v2, .int v1, .int v5]) (rest := []) (st1 := []) hC hw (c_X12_laysMove l g n v4 v2 v1 v5 μ r118 hr118) ml_X12_387 im_X12_laysMove se_X12_laysMove ok171 (CN := RX12) (T := TX12) (NF := 54) rfl rfl (by decide) rfl hl.1 ⟨Nat.le_of_ble_eq_true rfl, Nat.le_of_ble_eq_true rfl⟩ (Nat.le_of_ble_eq_true rfl) ⟨Nat.zero_le _, Nat.zero_le _⟩ rfl dX12_laysMoves_118 (fun H locs hw => ?_)
                refine lv_iinc (v := (v5 + (1 : Int32))) (lv' := [(5, .int (v5 + (1 : Int32))), (0, .ref (g.2.2 171)), (1, .int v1), (2, .int v2), (3, .int v3), (4, .int v4)]) hx hb dX12_laysMoves_121 hl (k := 5) rfl rfl (by decide) rfl (fun ls hl => ?_)
                refine lv_goto (tgt := 100) hx hb dX12_laysMoves_124 (by decide) ?_
                exact ih100 v2 v3 v4 (v5 + (1 : Int32)) r118.2 _ _ _ hw (lv_sub hl [1, 2, 3, 4, 5, 0] rfl) h
          have B47 : ∀ (k : Nat), ∀ (v2 : Int32) (v3 : Int32) (v4 : Int32) (v5 : Int32) (μ : Mu) (H : Heap) (locs : List Loc) (ls : Array Slot), wd g μ s (Aw g s.heap.size) H locs → lv_has ls 6 [(0, .ref (g.2.2 171)), (1, .int v1), (2, .int v2), (3, .int v3), (4, .int v4), (5, .int v5)] → lpF (fun _ _ _ _ _ => none) (X12_laysMoves_47b n v1 k2 k9) k v2 v3 v4 v5 μ = some r → WQ p l e (rmD 8) s m args below meth c g none r.2 H locs (F0 m 47 ls []) := by
            intro k
            induction k with
            | zero =>
              intro v2 v3 v4 v5 μ H locs ls hw hl h
              cases h
            | succ k ih47 =>
              rw [lpF_s]
              generalize lpF (fun _ _ _ _ _ => none) (X12_laysMoves_47b n v1 k2 k9) k = k47 at ih47 ⊢
              intro v2 v3 v4 v5 μ H locs ls hw hl h
              rw [X12_laysMoves_47b] at h
              refine lv_iload hx hb dX12_laysMoves_47 (lv_at hl 5 rfl) ?_
              refine lv_aload_n hx hb dX12_laysMoves_49 rfl (lv_at hl 0 rfl) ?_
              obtain ⟨r50, hr50, h⟩ := bnd h
              refine cV (b := 171) (As := []) (rest := [.int v5]) (st1 := [.int r50.1, .int v5]) hC hw (c_X12_pitMany l g n μ r50 hr50) ml_X12_245 im_X12_pitMany se_X12_pitMany ok171 (CN := RX12) (T := TX12) (NF := 54) rfl rfl (by decide) rfl hl.1 ⟨Nat.le_of_ble_eq_true rfl, Nat.le_of_ble_eq_true rfl⟩ (Nat.le_of_ble_eq_true rfl) ⟨Nat.zero_le _, Nat.zero_le _⟩ rfl dX12_laysMoves_50 (fun H locs hw => ?_)
              refine lv_icmp_ge (tgt := 79) hx hb dX12_laysMoves_53 (by decide) (fun hc => ?_) (fun hc => ?_)
              · rw [if_pos hc] at h
                refine lv_aload_n hx hb dX12_laysMoves_79 rfl (lv_at hl 0 rfl) ?_
                refine gR (t := 172) hC hw fl_X12_9 ok171 (by decide) ot171_0 dX12_laysMoves_80 ?_
                refine lv_iconst (v := (2 : Int32)) hx hb dX12_laysMoves_83 (by decide) ?_
                refine lv_iload_n hx hb dX12_laysMoves_84 rfl (lv_at hl 2 rfl) ?_
                refine sI (j := 2) hC hw ok172 on172 (vin (by decide)) (by decide) dX12_laysMoves_85 (fun H locs hw => ?_)
                refine lv_aload_n hx hb dX12_laysMoves_86 rfl (lv_at hl 0 rfl) ?_
                refine gR (t := 190) hC hw fl_X12_70 ok171 (by decide) ot171_38 dX12_laysMoves_87 ?_
                refine lv_iload hx hb dX12_laysMoves_90 (lv_at hl 4 rfl) ?_
                refine lv_aload_n hx hb dX12_laysMoves_92 rfl (lv_at hl 0 rfl) ?_
                obtain ⟨r93, hr93, h⟩ := bnd h
                refine cV (b := 171) (As := []) (rest := [.int v4, .ref (g.2.2 190)]) (st1 := [.int r93.1, .int v4, .ref (g.2.2 190)]) hC hw (c_X12_isOver l g n (si r50.2 172 2 v2) r93 hr93) ml_X12_305 im_X12_isOver se_X12_isOver ok171 (CN := RX12) (T := TX12) (NF := 54) rfl rfl (by decide) rfl hl.1 ⟨Nat.le_of_ble_eq_true rfl, Nat.le_of_ble_eq_true rfl⟩ (Nat.le_of_ble_eq_true rfl) ⟨Nat.zero_le _, Nat.zero_le _⟩ rfl dX12_laysMoves_93 (fun H locs hw => ?_)
                obtain ⟨hi96, h⟩ := gd_some h
                obtain ⟨hz96, h⟩ := bz_some h
                refine sZ (j := v4.toNatClampNeg) hC hw ok190 on190 hi96 rfl hz96 dX12_laysMoves_96 (fun H locs hw => ?_)
                refine lv_iconst (v := (0 : Int32)) hx hb dX12_laysMoves_97 (by decide) ?_
                refine lv_istore (lv' := [(5, .int (0 : Int32)), (0, .ref (g.2.2 171)), (1, .int v1), (2, .int v2), (3, .int v3), (4, .int v4)]) hx hb dX12_laysMoves_98 hl (by decide) rfl (fun ls hl => ?_)
                exact B100 n v2 v3 v4 (0 : Int32) (si r93.2 190 v4.toNatClampNeg r93.1) _ _ _ hw (lv_sub hl [1, 2, 3, 4, 5, 0] rfl) h
              · rw [if_neg hc] at h
                refine lv_aload_n hx hb dX12_laysMoves_56 rfl (lv_at hl 0 rfl) ?_
                refine gR (t := 172) hC hw fl_X12_9 ok171 (by decide) ot171_0 dX12_laysMoves_57 ?_
                refine lv_bipush (v := (13 : Int32)) hx hb dX12_laysMoves_60 (by decide) ?_
                refine lv_iload hx hb dX12_laysMoves_62 (lv_at hl 5 rfl) ?_
                refine lv_iadd hx hb dX12_laysMoves_64 ?_
                refine lv_aload_n hx hb dX12_laysMoves_65 rfl (lv_at hl 0 rfl) ?_
                refine gR (t := 178) hC hw fl_X12_33 ok171 (by decide) ot171_17 dX12_laysMoves_66 ?_
                refine lv_iload hx hb dX12_laysMoves_69 (lv_at hl 5 rfl) ?_
                obtain ⟨hi71, h⟩ := gd_some h
                refine lI (j := v5.toNatClampNeg) hC hw ok178 on178 hi71 rfl dX12_laysMoves_71 ?_
                obtain ⟨hi72, h⟩ := gd_some h
                refine sI (j := ((13 : Int32) + v5).toNatClampNeg) hC hw ok172 on172 hi72 rfl dX12_laysMoves_72 (fun H locs hw => ?_)
                refine lv_iinc (v := (v5 + (1 : Int32))) (lv' := [(5, .int (v5 + (1 : Int32))), (0, .ref (g.2.2 171)), (1, .int v1), (2, .int v2), (3, .int v3), (4, .int v4)]) hx hb dX12_laysMoves_73 hl (k := 5) rfl rfl (by decide) rfl (fun ls hl => ?_)
                refine lv_goto (tgt := 47) hx hb dX12_laysMoves_76 (by decide) ?_
                exact ih47 v2 v3 v4 (v5 + (1 : Int32)) (si r50.2 172 ((13 : Int32) + v5).toNatClampNeg (r50.2.1 178 v5.toNatClampNeg)) _ _ _ hw (lv_sub hl [1, 2, 3, 4, 5, 0] rfl) h
          rw [X12_laysMoves_9b] at h
          refine lv_iload_n hx hb dX12_laysMoves_9 rfl (lv_at hl 3 rfl) ?_
          refine lv_aload_n hx hb dX12_laysMoves_10 rfl (lv_at hl 0 rfl) ?_
          refine gR (t := 189) hC hw fl_X12_67 ok171 (by decide) ot171_37 dX12_laysMoves_11 ?_
          refine lv_iload_n hx hb dX12_laysMoves_14 rfl (lv_at hl 1 rfl) ?_
          refine lv_iconst (v := (1 : Int32)) hx hb dX12_laysMoves_15 (by decide) ?_
          refine lv_iadd hx hb dX12_laysMoves_16 ?_
          obtain ⟨hi17, h⟩ := gd_some h
          refine lI (j := (v1 + (1 : Int32)).toNatClampNeg) hC hw ok189 on189 hi17 rfl dX12_laysMoves_17 ?_
          refine lv_aload_n hx hb dX12_laysMoves_18 rfl (lv_at hl 0 rfl) ?_
          refine gR (t := 189) hC hw fl_X12_67 ok171 (by decide) ot171_37 dX12_laysMoves_19 ?_
          refine lv_iload_n hx hb dX12_laysMoves_22 rfl (lv_at hl 1 rfl) ?_
          obtain ⟨hi23, h⟩ := gd_some h
          refine lI (j := v1.toNatClampNeg) hC hw ok189 on189 hi23 rfl dX12_laysMoves_23 ?_
          refine lv_isub hx hb dX12_laysMoves_24 ?_
          refine lv_icmp_ge (tgt := 133) hx hb dX12_laysMoves_25 (by decide) (fun hc => ?_) (fun hc => ?_)
          · rw [if_pos hc] at h
            refine lv_iinc (v := (v2 + (1 : Int32))) (lv' := [(2, .int (v2 + (1 : Int32))), (0, .ref (g.2.2 171)), (1, .int v1), (3, .int v3)]) hx hb dX12_laysMoves_133 hl (k := 2) rfl rfl (by decide) rfl (fun ls hl => ?_)
            refine lv_goto (tgt := 2) hx hb dX12_laysMoves_136 (by decide) ?_
            exact ih2 (v2 + (1 : Int32)) μ _ _ _ hw (lv_sub hl [1, 2, 0] rfl) h
          · rw [if_neg hc] at h
            refine lv_aload_n hx hb dX12_laysMoves_28 rfl (lv_at hl 0 rfl) ?_
            refine lv_iload_n hx hb dX12_laysMoves_29 rfl (lv_at hl 2 rfl) ?_
            refine lv_iload_n hx hb dX12_laysMoves_30 rfl (lv_at hl 1 rfl) ?_
            refine lv_iload_n hx hb dX12_laysMoves_31 rfl (lv_at hl 3 rfl) ?_
            obtain ⟨r32, hr32, h⟩ := bnd h
            refine cV (b := 171) (As := [.int v2, .int v1, .int v3]) (rest := []) (st1 := [.int r32.1]) hC hw (c_X12_seat l g n v2 v1 v3 μ r32 hr32) ml_X12_384 im_X12_seat se_X12_seat ok171 (CN := RX12) (T := TX12) (NF := 54) rfl rfl (by decide) rfl hl.1 ⟨Nat.le_of_ble_eq_true rfl, Nat.le_of_ble_eq_true rfl⟩ (Nat.le_of_ble_eq_true rfl) ⟨Nat.zero_le _, Nat.zero_le _⟩ rfl dX12_laysMoves_32 (fun H locs hw => ?_)
            refine lv_istore (lv' := [(4, .int r32.1), (0, .ref (g.2.2 171)), (1, .int v1), (2, .int v2), (3, .int v3)]) hx hb dX12_laysMoves_35 hl (by decide) rfl (fun ls hl => ?_)
            refine lv_aload_n hx hb dX12_laysMoves_37 rfl (lv_at hl 1 rfl) ?_
            refine lv_iload_n hx hb dX12_laysMoves_38 rfl (lv_at hl 3 rfl) ?_
            refine lv_iload_n hx hb dX12_laysMoves_39 rfl (lv_at hl 2 rfl) ?_
            refine lv_iload_n hx hb dX12_laysMoves_40 rfl (lv_at hl 4 rfl) ?_
            obtain ⟨r41, hr41, h⟩ := bnd h
            refine cV (b := 171) (As := [.int v2, .int v1, .int v3]) (rest := []) (st1 := []) hC hw (c_X12_lays l g n v2 v1 v3 r32.2 r41 hr41) ml_X12_371 im_X12_lays se_X12_lays ok171 (CN := RX12) (T := TX12) (NF := 54) rfl rfl (by decide) rfl hl.1 ⟨Nat.le_of_ble_eq_true rfl, Nat.le_of_ble_eq_true rfl⟩ (Nat.le_of_ble_eq_true rfl) ⟨Nat.zero_le _, Nat.zero_le _⟩ rfl dX12_laysMoves_41 (fun H locs hw => ?_)
            refine lv_iconst (v := (0 : Int32)) hx hb dX12_laysMoves_44 (by decide) ?_
            refine lv_istore (lv' := [(5, .int (0 : Int32)), (4, .int r32.1), (0, .ref (g.2.2 171)), (1, .int v1), (2, .int v2), (3, .int v3)]) hx hb dX12_laysMoves_45 hl (by decide) rfl (fun ls hl => ?_)
            exact B47 n v2 v3 r32.1 (0 : Int32) r41.2 _ _ _ hw (lv_sub hl [2, 3, 4, 5, 1, 0] rfl) h
      rw [X12_laysMoves_2b] at h
      refine lv_iload_n hx hb dX12_laysMoves_2 rfl (lv_at hl 2 rfl) ?_
      refine lv_iconst (v := (2 : Int32)) hx hb dX12_laysMoves_3 (by decide) ?_
      refine lv_icmp_ge (tgt := 139) hx hb dX12_laysMoves_4 (by decide) (fun hc => ?_) (fun hc => ?_)
      · rw [if_pos hc] at h
        exact rV hC hw hr hlocks rfl (by rw [← Option.some.inj h]) dX12_laysMoves_139
      · rw [if_neg hc] at h
        refine lv_iconst (v := (0 : Int32)) hx hb dX12_laysMoves_7 (by decide) ?_
        refine lv_istore_n (lv' := [(3, .int (0 : Int32)), (0, .ref (g.2.2 171)), (1, .int v1), (2, .int v2)]) hx hb dX12_laysMoves_8 rfl hl (by decide) rfl (fun ls hl => ?_)
        exact B9 n v2 (0 : Int32) μ _ _ _ hw (lv_sub hl [1, 2, 3, 0] rfl) h
  refine lv_iconst (v := (0 : Int32)) hx hb dX12_laysMoves_0 (by decide) ?_
  refine lv_istore_n (lv' := [(2, .int (0 : Int32)), (0, .ref (g.2.2 171)), (1, .int v1)]) hx hb dX12_laysMoves_1 rfl hl (by decide) rfl (fun ls hl => ?_)
  exact B2 n (0 : Int32) μ _ _ _ hw (lv_sub hl [1, 2, 0] rfl) h
set_option maxRecDepth 100000 in
set_option maxHeartbeats 4000000 in
theorem c_X12_forced (l : Launch) (g : Gw) (n : Nat) (μ : Mu) (r : Int32 × Mu) (h : X12_forced n  μ = some r) : Ct l g yX12_forced cX12_forced 2 (some .int) 8 [.ref (g.2.2 171)] μ (some (.int r.1)) r.2 := by
  rw [X12_forced] at h
  refine Ct.of (by decide) (Nat.le_of_ble_eq_true rfl) ?_
  intro p e s m args below meth c ls hC hw hr hlocks hl
  have hx := hC.1
  have hb := hC.2.1
  have hl : lv_has ls 2 [(0, .ref (g.2.2 171))] := hl
  have B47 : ∀ (v1 : Int32) (μ : Mu) (H : Heap) (locs : List Loc) (ls : Array Slot), wd g μ s (Aw g s.heap.size) H locs → lv_has ls 2 [(0, .ref (g.2.2 171)), (1, .int v1)] → X12_forced_47 n v1 μ = some r → WQ p l e (rmD 8) s m args below meth c g (some (.int r.1)) r.2 H locs (F0 m 47 ls []) := by
    intro v1 μ H locs ls hw hl h
    rw [X12_forced_47] at h
    refine lv_aload_n hx hb dX12_forced_47 rfl (lv_at hl 0 rfl) ?_
    refine gR (t := 175) hC hw fl_X12_19 ok171 (by decide) ot171_3 dX12_forced_48 ?_
    refine lv_aload_n hx hb dX12_forced_51 rfl (lv_at hl 0 rfl) ?_
    refine gR (t := 172) hC hw fl_X12_9 ok171 (by decide) ot171_0 dX12_forced_52 ?_
    obtain ⟨r55, hr55, h⟩ := bnd h
    refine cS (As := [.ref (g.2.2 175), .ref (g.2.2 172)]) (rest := []) (st1 := []) hC hw (c_X12_copies l g n 175 172 μ r55 hr55) ml_X12_235 st_X12_copies rfl hl.1 ⟨Nat.le_of_ble_eq_true rfl, Nat.le_of_ble_eq_true rfl⟩ (Nat.le_of_ble_eq_true rfl) ⟨Nat.zero_le _, Nat.zero_le _⟩ rfl dX12_forced_55 (fun H locs hw => ?_)
    refine lv_iload_n hx hb dX12_forced_58 rfl (lv_at hl 1 rfl) ?_
    exact rI hC hw hr hlocks (by rw [← Option.some.inj h]) (by rw [← Option.some.inj h]) dX12_forced_59
  have B18 : ∀ (k : Nat), ∀ (v1 : Int32) (μ : Mu) (H : Heap) (locs : List Loc) (ls : Array Slot), wd g μ s (Aw g s.heap.size) H locs → lv_has ls 2 [(0, .ref (g.2.2 171)), (1, .int v1)] → lpF (fun _ _ => none) (X12_forced_18b n) k v1 μ = some r → WQ p l e (rmD 8) s m args below meth c g (some (.int r.1)) r.2 H locs (F0 m 18 ls []) := by
    intro k
    induction k with
    | zero =>
      intro v1 μ H locs ls hw hl h
      cases h
    | succ k ih18 =>
      rw [lpF_s]
      generalize lpF (fun _ _ => none) (X12_forced_18b n) k = k18 at ih18 ⊢
      intro v1 μ H locs ls hw hl h
      rw [X12_forced_18b] at h
      refine lv_iload_n hx hb dX12_forced_18 rfl (lv_at hl 1 rfl) ?_
      refine lv_bipush (v := (60 : Int32)) hx hb dX12_forced_19 (by decide) ?_
      refine lv_icmp_ge (tgt := 47) hx hb dX12_forced_21 (by decide) (fun hc => ?_) (fun hc => ?_)
      · rw [if_pos hc] at h
        exact B47 v1 μ _ _ _ hw (lv_sub hl [0, 1] rfl) h
      · rw [if_neg hc] at h
        refine lv_aload_n hx hb dX12_forced_24 rfl (lv_at hl 0 rfl) ?_
        obtain ⟨r25, hr25, h⟩ := bnd h
        refine cV (b := 171) (As := []) (rest := []) (st1 := [.int r25.1]) hC hw (c_X12_only l g n μ r25 hr25) ml_X12_455 im_X12_only se_X12_only ok171 (CN := RX12) (T := TX12) (NF := 54) rfl rfl (by decide) rfl hl.1 ⟨Nat.le_of_ble_eq_true rfl, Nat.le_of_ble_eq_true rfl⟩ (Nat.le_of_ble_eq_true rfl) ⟨Nat.zero_le _, Nat.zero_le _⟩ rfl dX12_forced_25 (fun H locs hw => ?_)
        refine lv_iconst (v := ((-1) : Int32)) hx hb dX12_forced_28 (by decide) ?_
        refine lv_icmp_eq (tgt := 47) hx hb dX12_forced_29 (by decide) (fun hc => ?_) (fun hc => ?_)
        · rw [if_pos hc] at h
          exact B47 v1 r25.2 _ _ _ hw (lv_sub hl [0, 1] rfl) h
        · rw [if_neg hc] at h
          refine lv_aload_n hx hb dX12_forced_32 rfl (lv_at hl 0 rfl) ?_
          refine lv_aload_n hx hb dX12_forced_33 rfl (lv_at hl 0 rfl) ?_
          obtain ⟨r34, hr34, h⟩ := bnd h
          refine cV (b := 171) (As := []) (rest := [.ref (g.2.2 171)]) (st1 := [.int r34.1, .ref (g.2.2 171)]) hC hw (c_X12_only l g n r25.2 r34 hr34) ml_X12_455 im_X12_only se_X12_only ok171 (CN := RX12) (T := TX12) (NF := 54) rfl rfl (by decide) rfl hl.1 ⟨Nat.le_of_ble_eq_true rfl, Nat.le_of_ble_eq_true rfl⟩ (Nat.le_of_ble_eq_true rfl) ⟨Nat.zero_le _, Nat.zero_le _⟩ rfl dX12_forced_34 (fun H locs hw => ?_)
          obtain ⟨r37, hr37, h⟩ := bnd h
          refine cV (b := 171) (As := [.int r34.1]) (rest := []) (st1 := [.int r37.1]) hC hw (c_X12_moves l g n r34.1 r34.2 r37 hr37) ml_X12_326 im_X12_moves se_X12_moves ok171 (CN := RX12) (T := TX12) (NF := 54) rfl rfl (by decide) rfl hl.1 ⟨Nat.le_of_ble_eq_true rfl, Nat.le_of_ble_eq_true rfl⟩ (Nat.le_of_ble_eq_true rfl) ⟨Nat.zero_le _, Nat.zero_le _⟩ rfl dX12_forced_37 (fun H locs hw => ?_)
          refine lv_pop hx hb dX12_forced_40 rfl ?_
          refine lv_iinc (v := (v1 + (1 : Int32))) (lv' := [(1, .int (v1 + (1 : Int32))), (0, .ref (g.2.2 171))]) hx hb dX12_forced_41 hl (k := 1) rfl rfl (by decide) rfl (fun ls hl => ?_)
          refine lv_goto (tgt := 18) hx hb dX12_forced_44 (by decide) ?_
          exact ih18 (v1 + (1 : Int32)) r37.2 _ _ _ hw (lv_sub hl [1, 0] rfl) h
  refine lv_aload_n hx hb dX12_forced_0 rfl (lv_at hl 0 rfl) ?_
  refine lv_iconst (v := (0 : Int32)) hx hb dX12_forced_1 (by decide) ?_
  refine pI hC hw fl_X12_107 fp_12_5 ok171 dX12_forced_2 (fun H locs hw => ?_)
  refine lv_aload_n hx hb dX12_forced_5 rfl (lv_at hl 0 rfl) ?_
  refine gR (t := 172) hC hw fl_X12_9 ok171 (by decide) ot171_0 dX12_forced_6 ?_
  refine lv_aload_n hx hb dX12_forced_9 rfl (lv_at hl 0 rfl) ?_
  refine gR (t := 175) hC hw fl_X12_19 ok171 (by decide) ot171_3 dX12_forced_10 ?_
  obtain ⟨r13, hr13, h⟩ := bnd h
  refine cS (As := [.ref (g.2.2 172), .ref (g.2.2 175)]) (rest := []) (st1 := []) hC hw (c_X12_copies l g n 172 175 (si μ 171 5 (0 : Int32)) r13 hr13) ml_X12_235 st_X12_copies rfl hl.1 ⟨Nat.le_of_ble_eq_true rfl, Nat.le_of_ble_eq_true rfl⟩ (Nat.le_of_ble_eq_true rfl) ⟨Nat.zero_le _, Nat.zero_le _⟩ rfl dX12_forced_13 (fun H locs hw => ?_)
  refine lv_iconst (v := (0 : Int32)) hx hb dX12_forced_16 (by decide) ?_
  refine lv_istore_n (lv' := [(1, .int (0 : Int32)), (0, .ref (g.2.2 171))]) hx hb dX12_forced_17 rfl hl (by decide) rfl (fun ls hl => ?_)
  exact B18 n (0 : Int32) r13.2 _ _ _ hw (lv_sub hl [1, 0] rfl) h
set_option maxRecDepth 100000 in
set_option maxHeartbeats 4000000 in
theorem c_X4_readPerSide (l : Launch) (g : Gw) (n : Nat) (μ : Mu) (r : Unit × Mu) (h : X4_readPerSide n  μ = some r) : Ct l g yX4_readPerSide cX4_readPerSide 1 none 4 [.ref (g.2.2 12)] μ none r.2 := by
  rw [X4_readPerSide] at h
  refine Ct.of (by decide) (Nat.le_of_ble_eq_true rfl) ?_
  intro p e s m args below meth c ls hC hw hr hlocks hl
  have hx := hC.1
  have hb := hC.2.1
  have hl : lv_has ls 1 [(0, .ref (g.2.2 12))] := hl
  refine lv_aload_n hx hb dX4_readPerSide_0 rfl (lv_at hl 0 rfl) ?_
  refine gR (t := 13) hC hw fl_X4_12 ok12 (by decide) ot12_0 dX4_readPerSide_1 ?_
  refine gI hC hw fl_X4_124 ok13 (by decide) dX4_readPerSide_4 ?_
  refine lv_if_le (tgt := 16) hx hb dX4_readPerSide_7 (by decide) (fun hc => ?_) (fun hc => ?_)
  · rw [if_pos hc] at h
    refine lv_aload_n hx hb dX4_readPerSide_16 rfl (lv_at hl 0 rfl) ?_
    obtain ⟨r17, hr17, h⟩ := bnd h
    refine cV (b := 12) (As := []) (rest := []) (st1 := []) hC hw (c_X4_step l g n μ r17 hr17) ml_X4_49 im_X4_step se_X4_step ok12 (CN := RX4) (T := TX4) (NF := 11) rfl rfl (by decide) rfl hl.1 ⟨Nat.le_of_ble_eq_true rfl, Nat.le_of_ble_eq_true rfl⟩ (Nat.le_of_ble_eq_true rfl) ⟨Nat.zero_le _, Nat.zero_le _⟩ rfl dX4_readPerSide_17 (fun H locs hw => ?_)
    refine lv_aload_n hx hb dX4_readPerSide_20 rfl (lv_at hl 0 rfl) ?_
    refine gR (t := 13) hC hw fl_X4_12 ok12 (by decide) ot12_0 dX4_readPerSide_21 ?_
    refine lv_aload_n hx hb dX4_readPerSide_24 rfl (lv_at hl 0 rfl) ?_
    refine lv_iconst (v := (1 : Int32)) hx hb dX4_readPerSide_25 (by decide) ?_
    refine lv_bipush (v := (6 : Int32)) hx hb dX4_readPerSide_26 (by decide) ?_
    obtain ⟨r28, hr28, h⟩ := bnd h
    refine cV (b := 12) (As := [.int (1 : Int32), .int (6 : Int32)]) (rest := [.ref (g.2.2 13)]) (st1 := [.int r28.1, .ref (g.2.2 13)]) hC hw (c_X4_readNumber l g n (1 : Int32) (6 : Int32) r17.2 r28 hr28) ml_X4_97 im_X4_readNumber se_X4_readNumber ok12 (CN := RX4) (T := TX4) (NF := 11) rfl rfl (by decide) rfl hl.1 ⟨Nat.le_of_ble_eq_true rfl, Nat.le_of_ble_eq_true rfl⟩ (Nat.le_of_ble_eq_true rfl) ⟨Nat.zero_le _, Nat.zero_le _⟩ rfl dX4_readPerSide_28 (fun H locs hw => ?_)
    refine pI hC hw fl_X4_105 fp_5_1 ok13 dX4_readPerSide_31 (fun H locs hw => ?_)
    exact rV hC hw hr hlocks rfl (by rw [← Option.some.inj h]) dX4_readPerSide_34
  · rw [if_neg hc] at h
    refine lv_aload_n hx hb dX4_readPerSide_10 rfl (lv_at hl 0 rfl) ?_
    refine lv_iconst (v := (2 : Int32)) hx hb dX4_readPerSide_11 (by decide) ?_
    obtain ⟨r12, hr12, h⟩ := bnd h
    refine cV (b := 12) (As := [.int (2 : Int32)]) (rest := []) (st1 := []) hC hw (c_X4_refuse l g n (2 : Int32) μ r12 hr12) ml_X4_120 im_X4_refuse se_X4_refuse ok12 (CN := RX4) (T := TX4) (NF := 11) rfl rfl (by decide) rfl hl.1 ⟨Nat.le_of_ble_eq_true rfl, Nat.le_of_ble_eq_true rfl⟩ (Nat.le_of_ble_eq_true rfl) ⟨Nat.zero_le _, Nat.zero_le _⟩ rfl dX4_readPerSide_12 (fun H locs hw => ?_)
    exact rV hC hw hr hlocks rfl (by rw [← Option.some.inj h]) dX4_readPerSide_15
set_option maxRecDepth 100000 in
set_option maxHeartbeats 4000000 in
theorem c_X12_solves (l : Launch) (g : Gw) (n : Nat) (v1 : Int32) (μ : Mu) (r : Int32 × Mu) (h : X12_solves n v1 μ = some r) : Ct l g yX12_solves cX12_solves 5 (some .boolean) 9 [.ref (g.2.2 171), .int v1] μ (some (.int r.1)) r.2 := by
  rw [X12_solves] at h
  refine Ct.of (by decide) (Nat.le_of_ble_eq_true rfl) ?_
  intro p e s m args below meth c ls hC hw hr hlocks hl
  have hx := hC.1
  have hb := hC.2.1
  have hl : lv_has ls 5 [(0, .ref (g.2.2 171)), (1, .int v1)] := hl
  have B106 : ∀ (k : Nat), ∀ (μ : Mu) (H : Heap) (locs : List Loc) (ls : Array Slot), wd g μ s (Aw g s.heap.size) H locs → lv_has ls 5 [(0, .ref (g.2.2 171)), (1, .int v1)] → lpF (fun _ => none) (X12_solves_106b n v1) k  μ = some r → WQ p l e (rmD 9) s m args below meth c g (some (.int r.1)) r.2 H locs (F0 m 106 ls []) := by
    intro k
    induction k with
    | zero =>
      intro μ H locs ls hw hl h
      cases h
    | succ k ih106 =>
      rw [lpF_s]
      generalize lpF (fun _ => none) (X12_solves_106b n v1) k = k106 at ih106 ⊢
      intro μ H locs ls hw hl h
      rw [X12_solves_106b] at h
      refine lv_aload_n hx hb dX12_solves_106 rfl (lv_at hl 0 rfl) ?_
      refine gI hC hw fl_X12_76 ok171 (by decide) dX12_solves_107 ?_
      refine lv_iload_n hx hb dX12_solves_110 rfl (lv_at hl 1 rfl) ?_
      refine lv_icmp_ge (tgt := 167) hx hb dX12_solves_111 (by decide) (fun hc => ?_) (fun hc => ?_)
      · rw [if_pos hc] at h
        refine lv_aload_n hx hb dX12_solves_167 rfl (lv_at hl 0 rfl) ?_
        refine gR (t := 192) hC hw fl_X12_79 ok171 (by decide) ot171_41 dX12_solves_168 ?_
        refine lv_aload_n hx hb dX12_solves_171 rfl (lv_at hl 0 rfl) ?_
        refine gR (t := 172) hC hw fl_X12_9 ok171 (by decide) ot171_0 dX12_solves_172 ?_
        obtain ⟨r175, hr175, h⟩ := bnd h
        refine cS (As := [.ref (g.2.2 192), .ref (g.2.2 172)]) (rest := []) (st1 := []) hC hw (c_X12_copies l g n 192 172 μ r175 hr175) ml_X12_235 st_X12_copies rfl hl.1 ⟨Nat.le_of_ble_eq_true rfl, Nat.le_of_ble_eq_true rfl⟩ (Nat.le_of_ble_eq_true rfl) ⟨Nat.zero_le _, Nat.zero_le _⟩ rfl dX12_solves_175 (fun H locs hw => ?_)
        refine lv_iconst (v := (1 : Int32)) hx hb dX12_solves_178 (by decide) ?_
        exact rZ hC hw hr hlocks (Or.inr rfl) (by rw [← Option.some.inj h]) (by rw [← Option.some.inj h]) dX12_solves_179
      · rw [if_neg hc] at h
        refine lv_aload_n hx hb dX12_solves_114 rfl (lv_at hl 0 rfl) ?_
        refine gI hC hw fl_X12_76 ok171 (by decide) dX12_solves_115 ?_
        refine lv_iconst (v := (1 : Int32)) hx hb dX12_solves_118 (by decide) ?_
        refine lv_iadd hx hb dX12_solves_119 ?_
        refine lv_istore (lv' := [(4, .int ((μ.1 171 40) + (1 : Int32))), (0, .ref (g.2.2 171)), (1, .int v1)]) hx hb dX12_solves_120 hl (by decide) rfl (fun ls hl => ?_)
        refine lv_aload_n hx hb dX12_solves_122 rfl (lv_at hl 1 rfl) ?_
        refine gR (t := 189) hC hw fl_X12_67 ok171 (by decide) ot171_37 dX12_solves_123 ?_
        refine lv_iload hx hb dX12_solves_126 (lv_at hl 0 rfl) ?_
        refine lv_iconst (v := (1 : Int32)) hx hb dX12_solves_128 (by decide) ?_
        refine lv_iadd hx hb dX12_solves_129 ?_
        refine lv_aload_n hx hb dX12_solves_130 rfl (lv_at hl 1 rfl) ?_
        refine gR (t := 189) hC hw fl_X12_67 ok171 (by decide) ot171_37 dX12_solves_131 ?_
        refine lv_iload hx hb dX12_solves_134 (lv_at hl 0 rfl) ?_
        obtain ⟨hi136, h⟩ := gd_some h
        refine lI (j := ((μ.1 171 40) + (1 : Int32)).toNatClampNeg) hC hw ok189 on189 hi136 rfl dX12_solves_136 ?_
        refine lv_aload_n hx hb dX12_solves_137 rfl (lv_at hl 1 rfl) ?_
        refine lv_iload hx hb dX12_solves_138 (lv_at hl 0 rfl) ?_
        obtain ⟨r140, hr140, h⟩ := bnd h
        refine cV (b := 171) (As := [.int ((μ.1 171 40) + (1 : Int32))]) (rest := [.int (μ.1 189 ((μ.1 171 40) + (1 : Int32)).toNatClampNeg), .int (((μ.1 171 40) + (1 : Int32)) + (1 : Int32)), .ref (g.2.2 189)]) (st1 := [.long r140.1, .int (μ.1 189 ((μ.1 171 40) + (1 : Int32)).toNatClampNeg), .int (((μ.1 171 40) + (1 : Int32)) + (1 : Int32)), .ref (g.2.2 189)]) hC hw (c_X12_positionsOf l g n ((μ.1 171 40) + (1 : Int32)) μ r140 hr140) ml_X12_359 im_X12_positionsOf se_X12_positionsOf ok171 (CN := RX12) (T := TX12) (NF := 54) rfl rfl (by decide) rfl hl.1 ⟨Nat.le_of_ble_eq_true rfl, Nat.le_of_ble_eq_true rfl⟩ (Nat.le_of_ble_eq_true rfl) ⟨Nat.zero_le _, Nat.zero_le _⟩ rfl dX12_solves_140 (fun H locs hw => ?_)
        refine lv_l2i hx hb dX12_solves_143 rfl ?_
        refine lv_iadd hx hb dX12_solves_144 ?_
        obtain ⟨hi145, h⟩ := gd_some h
        refine sI (j := (((μ.1 171 40) + (1 : Int32)) + (1 : Int32)).toNatClampNeg) hC hw ok189 on189 hi145 rfl dX12_solves_145 (fun H locs hw => ?_)
        refine lv_aload_n hx hb dX12_solves_146 rfl (lv_at hl 1 rfl) ?_
        refine lv_iload hx hb dX12_solves_147 (lv_at hl 0 rfl) ?_
        obtain ⟨r149, hr149, h⟩ := bnd h
        refine cV (b := 171) (As := [.int ((μ.1 171 40) + (1 : Int32))]) (rest := []) (st1 := []) hC hw (c_X12_laysMoves l g n ((μ.1 171 40) + (1 : Int32)) (si r140.2 189 (((μ.1 171 40) + (1 : Int32)) + (1 : Int32)).toNatClampNeg ((μ.1 189 ((μ.1 171 40) + (1 : Int32)).toNatClampNeg) + (r140.1.toInt32))) r149 hr149) ml_X12_378 im_X12_laysMoves se_X12_laysMoves ok171 (CN := RX12) (T := TX12) (NF := 54) rfl rfl (by decide) rfl hl.1 ⟨Nat.le_of_ble_eq_true rfl, Nat.le_of_ble_eq_true rfl⟩ (Nat.le_of_ble_eq_true rfl) ⟨Nat.zero_le _, Nat.zero_le _⟩ rfl dX12_solves_149 (fun H locs hw => ?_)
        refine lv_aload_n hx hb dX12_solves_152 rfl (lv_at hl 1 rfl) ?_
        refine lv_iload hx hb dX12_solves_153 (lv_at hl 0 rfl) ?_
        obtain ⟨r155, hr155, h⟩ := bnd h
        refine cV (b := 171) (As := [.int ((μ.1 171 40) + (1 : Int32))]) (rest := []) (st1 := []) hC hw (c_X12_settles l g n ((μ.1 171 40) + (1 : Int32)) r149.2 r155 hr155) ml_X12_381 im_X12_settles se_X12_settles ok171 (CN := RX12) (T := TX12) (NF := 54) rfl rfl (by decide) rfl hl.1 ⟨Nat.le_of_ble_eq_true rfl, Nat.le_of_ble_eq_true rfl⟩ (Nat.le_of_ble_eq_true rfl) ⟨Nat.zero_le _, Nat.zero_le _⟩ rfl dX12_solves_155 (fun H locs hw => ?_)
        refine lv_aload_n hx hb dX12_solves_158 rfl (lv_at hl 1 rfl) ?_
        refine lv_iload hx hb dX12_solves_159 (lv_at hl 0 rfl) ?_
        refine pI hC hw fl_X12_76 fp_12_40 ok171 dX12_solves_161 (fun H locs hw => ?_)
        refine lv_goto (tgt := 106) hx hb dX12_solves_164 (by decide) ?_
        exact ih106 (si r155.2 171 40 ((μ.1 171 40) + (1 : Int32))) _ _ _ hw (lv_sub hl [1, 2] rfl) h
  have B85 : ∀ (μ : Mu) (H : Heap) (locs : List Loc) (ls : Array Slot), wd g μ s (Aw g s.heap.size) H locs → lv_has ls 5 [(0, .ref (g.2.2 171)), (1, .int v1)] → X12_solves_85 n v1  μ = some r → WQ p l e (rmD 9) s m args below meth c g (some (.int r.1)) r.2 H locs (F0 m 85 ls []) := by
    intro μ H locs ls hw hl h
    rw [X12_solves_85] at h
    refine lv_aload_n hx hb dX12_solves_85 rfl (lv_at hl 0 rfl) ?_
    refine gI hC hw fl_X12_76 ok171 (by decide) dX12_solves_86 ?_
    refine lv_iload_n hx hb dX12_solves_89 rfl (lv_at hl 1 rfl) ?_
    refine lv_icmp_lt (tgt := 95) hx hb dX12_solves_90 (by decide) (fun hc => ?_) (fun hc => ?_)
    · rw [if_pos hc] at h
      refine lv_aload_n hx hb dX12_solves_95 rfl (lv_at hl 0 rfl) ?_
      refine gR (t := 172) hC hw fl_X12_9 ok171 (by decide) ot171_0 dX12_solves_96 ?_
      refine lv_aload_n hx hb dX12_solves_99 rfl (lv_at hl 0 rfl) ?_
      refine gR (t := 192) hC hw fl_X12_79 ok171 (by decide) ot171_41 dX12_solves_100 ?_
      obtain ⟨r103, hr103, h⟩ := bnd h
      refine cS (As := [.ref (g.2.2 172), .ref (g.2.2 192)]) (rest := []) (st1 := []) hC hw (c_X12_copies l g n 172 192 μ r103 hr103) ml_X12_235 st_X12_copies rfl hl.1 ⟨Nat.le_of_ble_eq_true rfl, Nat.le_of_ble_eq_true rfl⟩ (Nat.le_of_ble_eq_true rfl) ⟨Nat.zero_le _, Nat.zero_le _⟩ rfl dX12_solves_103 (fun H locs hw => ?_)
      exact B106 n r103.2 _ _ _ hw (lv_sub hl [0, 1] rfl) h
    · rw [if_neg hc] at h
      refine lv_iconst (v := (1 : Int32)) hx hb dX12_solves_93 (by decide) ?_
      exact rZ hC hw hr hlocks (Or.inr rfl) (by rw [← Option.some.inj h]) (by rw [← Option.some.inj h]) dX12_solves_94
  have B46 : ∀ (k : Nat), ∀ (v4 : Int32) (μ : Mu) (H : Heap) (locs : List Loc) (ls : Array Slot), wd g μ s (Aw g s.heap.size) H locs → lv_has ls 5 [(0, .ref (g.2.2 171)), (1, .int v1), (4, .int v4)] → lpF (fun _ _ => none) (X12_solves_46b n v1) k v4 μ = some r → WQ p l e (rmD 9) s m args below meth c g (some (.int r.1)) r.2 H locs (F0 m 46 ls []) := by
    intro k
    induction k with
    | zero =>
      intro v4 μ H locs ls hw hl h
      cases h
    | succ k ih46 =>
      rw [lpF_s]
      generalize lpF (fun _ _ => none) (X12_solves_46b n v1) k = k46 at ih46 ⊢
      intro v4 μ H locs ls hw hl h
      rw [X12_solves_46b] at h
      refine lv_iload hx hb dX12_solves_46 (lv_at hl 2 rfl) ?_
      refine lv_bipush (v := (10 : Int32)) hx hb dX12_solves_48 (by decide) ?_
      refine lv_icmp_gt (tgt := 73) hx hb dX12_solves_50 (by decide) (fun hc => ?_) (fun hc => ?_)
      · rw [if_pos hc] at h
        refine lv_aload_n hx hb dX12_solves_73 rfl (lv_at hl 0 rfl) ?_
        refine lv_iconst (v := ((-1) : Int32)) hx hb dX12_solves_74 (by decide) ?_
        refine pI hC hw fl_X12_76 fp_12_40 ok171 dX12_solves_75 (fun H locs hw => ?_)
        refine lv_aload_n hx hb dX12_solves_78 rfl (lv_at hl 0 rfl) ?_
        refine gR (t := 189) hC hw fl_X12_67 ok171 (by decide) ot171_37 dX12_solves_79 ?_
        refine lv_iconst (v := (0 : Int32)) hx hb dX12_solves_82 (by decide) ?_
        refine lv_iconst (v := (0 : Int32)) hx hb dX12_solves_83 (by decide) ?_
        refine sI (j := 0) hC hw ok189 on189 (vin (by decide)) (by decide) dX12_solves_84 (fun H locs hw => ?_)
        exact B85 (si (si μ 171 40 ((-1) : Int32)) 189 0 (0 : Int32)) _ _ _ hw (lv_sub hl [0, 1] rfl) h
      · rw [if_neg hc] at h
        refine lv_aload_n hx hb dX12_solves_53 rfl (lv_at hl 0 rfl) ?_
        refine gR (t := 191) hC hw fl_X12_73 ok171 (by decide) ot171_39 dX12_solves_54 ?_
        refine lv_iload hx hb dX12_solves_57 (lv_at hl 2 rfl) ?_
        refine lv_aload_n hx hb dX12_solves_59 rfl (lv_at hl 0 rfl) ?_
        refine gR (t := 172) hC hw fl_X12_9 ok171 (by decide) ot171_0 dX12_solves_60 ?_
        refine lv_iload hx hb dX12_solves_63 (lv_at hl 2 rfl) ?_
        obtain ⟨hi65, h⟩ := gd_some h
        refine lI (j := v4.toNatClampNeg) hC hw ok172 on172 hi65 rfl dX12_solves_65 ?_
        obtain ⟨hi66, h⟩ := gd_some h
        refine sI (j := v4.toNatClampNeg) hC hw ok191 on191 hi66 rfl dX12_solves_66 (fun H locs hw => ?_)
        refine lv_iinc (v := (v4 + (1 : Int32))) (lv' := [(4, .int (v4 + (1 : Int32))), (0, .ref (g.2.2 171)), (1, .int v1)]) hx hb dX12_solves_67 hl (k := 2) rfl rfl (by decide) rfl (fun ls hl => ?_)
        refine lv_goto (tgt := 46) hx hb dX12_solves_70 (by decide) ?_
        exact ih46 (v4 + (1 : Int32)) (si μ 191 v4.toNatClampNeg (μ.1 172 v4.toNatClampNeg)) _ _ _ hw (lv_sub hl [1, 2, 0] rfl) h
  have B5 : ∀ (k : Nat), ∀ (v2 : Int64) (v4 : Int32) (μ : Mu) (H : Heap) (locs : List Loc) (ls : Array Slot), wd g μ s (Aw g s.heap.size) H locs → lv_has ls 5 [(0, .ref (g.2.2 171)), (1, .int v1), (2, .long v2), (4, .int v4)] → lpF (fun _ _ _ => none) (X12_solves_5b n v1) k v2 v4 μ = some r → WQ p l e (rmD 9) s m args below meth c g (some (.int r.1)) r.2 H locs (F0 m 5 ls []) := by
    intro k
    induction k with
    | zero =>
      intro v2 v4 μ H locs ls hw hl h
      cases h
    | succ k ih5 =>
      rw [lpF_s]
      generalize lpF (fun _ _ _ => none) (X12_solves_5b n v1) k = k5 at ih5 ⊢
      intro v2 v4 μ H locs ls hw hl h
      rw [X12_solves_5b] at h
      refine lv_iload hx hb dX12_solves_5 (lv_at hl 3 rfl) ?_
      refine lv_iload_n hx hb dX12_solves_7 rfl (lv_at hl 1 rfl) ?_
      refine lv_icmp_gt (tgt := 36) hx hb dX12_solves_8 (by decide) (fun hc => ?_) (fun hc => ?_)
      · rw [if_pos hc] at h
        refine lv_aload_n hx hb dX12_solves_36 rfl (lv_at hl 0 rfl) ?_
        obtain ⟨r37, hr37, h⟩ := bnd h
        refine cV (b := 171) (As := []) (rest := []) (st1 := [.int r37.1]) hC hw (c_X12_areRules l g n μ r37 hr37) ml_X12_375 im_X12_areRules se_X12_areRules ok171 (CN := RX12) (T := TX12) (NF := 54) rfl rfl (by decide) rfl hl.1 ⟨Nat.le_of_ble_eq_true rfl, Nat.le_of_ble_eq_true rfl⟩ (Nat.le_of_ble_eq_true rfl) ⟨Nat.zero_le _, Nat.zero_le _⟩ rfl dX12_solves_37 (fun H locs hw => ?_)
        refine lv_if_ne (tgt := 85) hx hb dX12_solves_40 (by decide) (fun hc => ?_) (fun hc => ?_)
        · rw [if_neg hc] at h
          exact B85 r37.2 _ _ _ hw (lv_sub hl [0, 1] rfl) h
        · rw [if_pos hc] at h
          refine lv_iconst (v := (1 : Int32)) hx hb dX12_solves_43 (by decide) ?_
          refine lv_istore (lv' := [(4, .int (1 : Int32)), (0, .ref (g.2.2 171)), (1, .int v1), (2, .long v2)]) hx hb dX12_solves_44 hl (by decide) rfl (fun ls hl => ?_)
          exact B46 n (1 : Int32) r37.2 _ _ _ hw (lv_sub hl [1, 2, 0] rfl) h
      · rw [if_neg hc] at h
        refine lv_lload_n hx hb dX12_solves_11 rfl (lv_at hl 2 rfl) ?_
        refine lv_aload_n hx hb dX12_solves_12 rfl (lv_at hl 0 rfl) ?_
        refine lv_iload hx hb dX12_solves_13 (lv_at hl 3 rfl) ?_
        obtain ⟨r15, hr15, h⟩ := bnd h
        refine cV (b := 171) (As := [.int v4]) (rest := [.long v2]) (st1 := [.long r15.1, .long v2]) hC hw (c_X12_positionsOf l g n v4 μ r15 hr15) ml_X12_359 im_X12_positionsOf se_X12_positionsOf ok171 (CN := RX12) (T := TX12) (NF := 54) rfl rfl (by decide) rfl hl.1 ⟨Nat.le_of_ble_eq_true rfl, Nat.le_of_ble_eq_true rfl⟩ (Nat.le_of_ble_eq_true rfl) ⟨Nat.zero_le _, Nat.zero_le _⟩ rfl dX12_solves_15 (fun H locs hw => ?_)
        refine lv_ladd hx hb dX12_solves_18 ?_
        refine lv_lstore_n (lv' := [(2, .long (v2 + r15.1)), (0, .ref (g.2.2 171)), (1, .int v1), (4, .int v4)]) hx hb dX12_solves_19 rfl hl (by decide) rfl (fun ls hl => ?_)
        refine lv_lload_n hx hb dX12_solves_20 rfl (lv_at hl 0 rfl) ?_
        refine lv_ldc2 (v := (6000 : Int64)) hx hb hC.2.2.2.1 (hC.2.2.2.2.1 _ cl_X12_363) dX12_solves_21 ?_
        refine W.lcmp hx hb dX12_solves_24 ?_
        refine lv_if_le (tgt := 30) hx hb dX12_solves_25 (by decide) (fun hc => ?_) (fun hc => ?_)
        · rw [if_pos hc] at h
          refine lv_iinc (v := (v4 + (1 : Int32))) (lv' := [(4, .int (v4 + (1 : Int32))), (2, .long (v2 + r15.1)), (0, .ref (g.2.2 171)), (1, .int v1)]) hx hb dX12_solves_30 hl (k := 3) rfl rfl (by decide) rfl (fun ls hl => ?_)
          refine lv_goto (tgt := 5) hx hb dX12_solves_33 (by decide) ?_
          exact ih5 (v2 + r15.1) (v4 + (1 : Int32)) r15.2 _ _ _ hw (lv_sub hl [2, 3, 1, 0] rfl) h
        · rw [if_neg hc] at h
          refine lv_iconst (v := (0 : Int32)) hx hb dX12_solves_28 (by decide) ?_
          exact rZ hC hw hr hlocks (Or.inl rfl) (by rw [← Option.some.inj h]) (by rw [← Option.some.inj h]) dX12_solves_29
  refine lv_lconst (v := (0 : Int64)) hx hb dX12_solves_0 (by decide) ?_
  refine lv_lstore_n (lv' := [(2, .long (0 : Int64)), (0, .ref (g.2.2 171)), (1, .int v1)]) hx hb dX12_solves_1 rfl hl (by decide) rfl (fun ls hl => ?_)
  refine lv_iconst (v := (0 : Int32)) hx hb dX12_solves_2 (by decide) ?_
  refine lv_istore (lv' := [(4, .int (0 : Int32)), (2, .long (0 : Int64)), (0, .ref (g.2.2 171)), (1, .int v1)]) hx hb dX12_solves_3 hl (by decide) rfl (fun ls hl => ?_)
  exact B5 n (0 : Int64) (0 : Int32) μ _ _ _ hw (lv_sub hl [2, 3, 1, 0] rfl) h
set_option maxRecDepth 100000 in
set_option maxHeartbeats 4000000 in
theorem c_X12_value (l : Launch) (g : Gw) (n : Nat) (μ : Mu) (r : Int32 × Mu) (h : X12_value n  μ = some r) : Ct l g yX12_value cX12_value 1 (some .int) 10 [.ref (g.2.2 171)] μ (some (.int r.1)) r.2 := by
  rw [X12_value] at h
  refine Ct.of (by decide) (Nat.le_of_ble_eq_true rfl) ?_
  intro p e s m args below meth c ls hC hw hr hlocks hl
  have hx := hC.1
  have hb := hC.2.1
  have hl : lv_has ls 1 [(0, .ref (g.2.2 171))] := hl
  have B31 : ∀ (s0 : Int32) (μ : Mu) (H : Heap) (locs : List Loc) (ls : Array Slot), wd g μ s (Aw g s.heap.size) H locs → lv_has ls 1 [] → X12_value_31 n s0 μ = some r → WQ p l e (rmD 10) s m args below meth c g (some (.int r.1)) r.2 H locs (F0 m 31 ls [.int s0]) := by
    intro s0 μ H locs ls hw hl h
    rw [X12_value_31] at h
    exact rI hC hw hr hlocks (by rw [← Option.some.inj h]) (by rw [← Option.some.inj h]) dX12_value_31
  refine lv_aload_n hx hb dX12_value_0 rfl (lv_at hl 0 rfl) ?_
  refine lv_iconst (v := (0 : Int32)) hx hb dX12_value_1 (by decide) ?_
  refine pI hC hw fl_X12_107 fp_12_5 ok171 dX12_value_2 (fun H locs hw => ?_)
  refine lv_aload_n hx hb dX12_value_5 rfl (lv_at hl 0 rfl) ?_
  refine lv_aload_n hx hb dX12_value_6 rfl (lv_at hl 0 rfl) ?_
  obtain ⟨r7, hr7, h⟩ := bnd h
  refine cV (b := 171) (As := []) (rest := [.ref (g.2.2 171)]) (st1 := [.int r7.1, .ref (g.2.2 171)]) hC hw (c_X12_seedsNow l g n (si μ 171 5 (0 : Int32)) r7 hr7) ml_X12_365 im_X12_seedsNow se_X12_seedsNow ok171 (CN := RX12) (T := TX12) (NF := 54) rfl rfl (by decide) rfl hl.1 ⟨Nat.le_of_ble_eq_true rfl, Nat.le_of_ble_eq_true rfl⟩ (Nat.le_of_ble_eq_true rfl) ⟨Nat.zero_le _, Nat.zero_le _⟩ rfl dX12_value_7 (fun H locs hw => ?_)
  obtain ⟨r10, hr10, h⟩ := bnd h
  refine cV (b := 171) (As := [.int r7.1]) (rest := []) (st1 := [.int r10.1]) hC hw (c_X12_solves l g n r7.1 r7.2 r10 hr10) ml_X12_407 im_X12_solves se_X12_solves ok171 (CN := RX12) (T := TX12) (NF := 54) rfl rfl (by decide) rfl hl.1 ⟨Nat.le_of_ble_eq_true rfl, Nat.le_of_ble_eq_true rfl⟩ (Nat.le_of_ble_eq_true rfl) ⟨Nat.zero_le _, Nat.zero_le _⟩ rfl dX12_value_10 (fun H locs hw => ?_)
  refine lv_if_eq (tgt := 28) hx hb dX12_value_13 (by decide) (fun hc => ?_) (fun hc => ?_)
  · rw [if_pos hc] at h
    refine lv_sipush (v := ((-1000) : Int32)) hx hb dX12_value_28 (by decide) ?_
    exact B31 ((-1000) : Int32) r10.2 _ _ _ hw (lv_sub hl [] rfl) h
  · rw [if_neg hc] at h
    refine lv_aload_n hx hb dX12_value_16 rfl (lv_at hl 0 rfl) ?_
    refine gR (t := 184) hC hw fl_X12_51 ok171 (by decide) ot171_32 dX12_value_17 ?_
    refine lv_aload_n hx hb dX12_value_20 rfl (lv_at hl 0 rfl) ?_
    obtain ⟨r21, hr21, h⟩ := bnd h
    refine cV (b := 171) (As := []) (rest := [.ref (g.2.2 184)]) (st1 := [.int r21.1, .ref (g.2.2 184)]) hC hw (c_X12_seatNow l g n r10.2 r21 hr21) ml_X12_410 im_X12_seatNow se_X12_seatNow ok171 (CN := RX12) (T := TX12) (NF := 54) rfl rfl (by decide) rfl hl.1 ⟨Nat.le_of_ble_eq_true rfl, Nat.le_of_ble_eq_true rfl⟩ (Nat.le_of_ble_eq_true rfl) ⟨Nat.zero_le _, Nat.zero_le _⟩ rfl dX12_value_21 (fun H locs hw => ?_)
    obtain ⟨hi24, h⟩ := gd_some h
    refine lI (j := r21.1.toNatClampNeg) hC hw ok184 on184 hi24 rfl dX12_value_24 ?_
    refine lv_goto (tgt := 31) hx hb dX12_value_25 (by decide) ?_
    exact B31 (r21.2.1 184 r21.1.toNatClampNeg) r21.2 _ _ _ hw (lv_sub hl [] rfl) h
set_option maxRecDepth 100000 in
set_option maxHeartbeats 4000000 in
theorem c_X12_rank (l : Launch) (g : Gw) (n : Nat) (μ : Mu) (r : Int32 × Mu) (h : X12_rank n  μ = some r) : Ct l g yX12_rank cX12_rank 1 (some .int) 10 [.ref (g.2.2 171)] μ (some (.int r.1)) r.2 := by
  rw [X12_rank] at h
  refine Ct.of (by decide) (Nat.le_of_ble_eq_true rfl) ?_
  intro p e s m args below meth c ls hC hw hr hlocks hl
  have hx := hC.1
  have hb := hC.2.1
  have hl : lv_has ls 1 [(0, .ref (g.2.2 171))] := hl
  have B29 : ∀ (s0 : Int32) (μ : Mu) (H : Heap) (locs : List Loc) (ls : Array Slot), wd g μ s (Aw g s.heap.size) H locs → lv_has ls 1 [] → X12_rank_29 n s0 μ = some r → WQ p l e (rmD 10) s m args below meth c g (some (.int r.1)) r.2 H locs (F0 m 29 ls [.int s0]) := by
    intro s0 μ H locs ls hw hl h
    rw [X12_rank_29] at h
    exact rI hC hw hr hlocks (by rw [← Option.some.inj h]) (by rw [← Option.some.inj h]) dX12_rank_29
  refine lv_aload_n hx hb dX12_rank_0 rfl (lv_at hl 0 rfl) ?_
  refine lv_iconst (v := (0 : Int32)) hx hb dX12_rank_1 (by decide) ?_
  refine pI hC hw fl_X12_107 fp_12_5 ok171 dX12_rank_2 (fun H locs hw => ?_)
  refine lv_aload_n hx hb dX12_rank_5 rfl (lv_at hl 0 rfl) ?_
  refine lv_aload_n hx hb dX12_rank_6 rfl (lv_at hl 0 rfl) ?_
  obtain ⟨r7, hr7, h⟩ := bnd h
  refine cV (b := 171) (As := []) (rest := [.ref (g.2.2 171)]) (st1 := [.int r7.1, .ref (g.2.2 171)]) hC hw (c_X12_seedsNow l g n (si μ 171 5 (0 : Int32)) r7 hr7) ml_X12_365 im_X12_seedsNow se_X12_seedsNow ok171 (CN := RX12) (T := TX12) (NF := 54) rfl rfl (by decide) rfl hl.1 ⟨Nat.le_of_ble_eq_true rfl, Nat.le_of_ble_eq_true rfl⟩ (Nat.le_of_ble_eq_true rfl) ⟨Nat.zero_le _, Nat.zero_le _⟩ rfl dX12_rank_7 (fun H locs hw => ?_)
  obtain ⟨r10, hr10, h⟩ := bnd h
  refine cV (b := 171) (As := [.int r7.1]) (rest := []) (st1 := [.int r10.1]) hC hw (c_X12_solves l g n r7.1 r7.2 r10 hr10) ml_X12_407 im_X12_solves se_X12_solves ok171 (CN := RX12) (T := TX12) (NF := 54) rfl rfl (by decide) rfl hl.1 ⟨Nat.le_of_ble_eq_true rfl, Nat.le_of_ble_eq_true rfl⟩ (Nat.le_of_ble_eq_true rfl) ⟨Nat.zero_le _, Nat.zero_le _⟩ rfl dX12_rank_10 (fun H locs hw => ?_)
  refine lv_if_eq (tgt := 28) hx hb dX12_rank_13 (by decide) (fun hc => ?_) (fun hc => ?_)
  · rw [if_pos hc] at h
    refine lv_iconst (v := ((-1) : Int32)) hx hb dX12_rank_28 (by decide) ?_
    exact B29 ((-1) : Int32) r10.2 _ _ _ hw (lv_sub hl [] rfl) h
  · rw [if_neg hc] at h
    refine lv_aload_n hx hb dX12_rank_16 rfl (lv_at hl 0 rfl) ?_
    refine gR (t := 185) hC hw fl_X12_54 ok171 (by decide) ot171_33 dX12_rank_17 ?_
    refine lv_aload_n hx hb dX12_rank_20 rfl (lv_at hl 0 rfl) ?_
    obtain ⟨r21, hr21, h⟩ := bnd h
    refine cV (b := 171) (As := []) (rest := [.ref (g.2.2 185)]) (st1 := [.int r21.1, .ref (g.2.2 185)]) hC hw (c_X12_seatNow l g n r10.2 r21 hr21) ml_X12_410 im_X12_seatNow se_X12_seatNow ok171 (CN := RX12) (T := TX12) (NF := 54) rfl rfl (by decide) rfl hl.1 ⟨Nat.le_of_ble_eq_true rfl, Nat.le_of_ble_eq_true rfl⟩ (Nat.le_of_ble_eq_true rfl) ⟨Nat.zero_le _, Nat.zero_le _⟩ rfl dX12_rank_21 (fun H locs hw => ?_)
    obtain ⟨hi24, h⟩ := gd_some h
    refine lI (j := r21.1.toNatClampNeg) hC hw ok185 on185 hi24 rfl dX12_rank_24 ?_
    refine lv_goto (tgt := 29) hx hb dX12_rank_25 (by decide) ?_
    exact B29 (r21.2.1 185 r21.1.toNatClampNeg) r21.2 _ _ _ hw (lv_sub hl [] rfl) h
set_option maxRecDepth 100000 in
set_option maxHeartbeats 4000000 in
theorem c_X12_best (l : Launch) (g : Gw) (n : Nat) (μ : Mu) (r : Int32 × Mu) (h : X12_best n  μ = some r) : Ct l g yX12_best cX12_best 1 (some .int) 10 [.ref (g.2.2 171)] μ (some (.int r.1)) r.2 := by
  rw [X12_best] at h
  refine Ct.of (by decide) (Nat.le_of_ble_eq_true rfl) ?_
  intro p e s m args below meth c ls hC hw hr hlocks hl
  have hx := hC.1
  have hb := hC.2.1
  have hl : lv_has ls 1 [(0, .ref (g.2.2 171))] := hl
  have B24 : ∀ (s0 : Int32) (μ : Mu) (H : Heap) (locs : List Loc) (ls : Array Slot), wd g μ s (Aw g s.heap.size) H locs → lv_has ls 1 [] → X12_best_24 n s0 μ = some r → WQ p l e (rmD 10) s m args below meth c g (some (.int r.1)) r.2 H locs (F0 m 24 ls [.int s0]) := by
    intro s0 μ H locs ls hw hl h
    rw [X12_best_24] at h
    exact rI hC hw hr hlocks (by rw [← Option.some.inj h]) (by rw [← Option.some.inj h]) dX12_best_24
  refine lv_aload_n hx hb dX12_best_0 rfl (lv_at hl 0 rfl) ?_
  refine lv_iconst (v := (0 : Int32)) hx hb dX12_best_1 (by decide) ?_
  refine pI hC hw fl_X12_107 fp_12_5 ok171 dX12_best_2 (fun H locs hw => ?_)
  refine lv_aload_n hx hb dX12_best_5 rfl (lv_at hl 0 rfl) ?_
  refine lv_aload_n hx hb dX12_best_6 rfl (lv_at hl 0 rfl) ?_
  obtain ⟨r7, hr7, h⟩ := bnd h
  refine cV (b := 171) (As := []) (rest := [.ref (g.2.2 171)]) (st1 := [.int r7.1, .ref (g.2.2 171)]) hC hw (c_X12_seedsNow l g n (si μ 171 5 (0 : Int32)) r7 hr7) ml_X12_365 im_X12_seedsNow se_X12_seedsNow ok171 (CN := RX12) (T := TX12) (NF := 54) rfl rfl (by decide) rfl hl.1 ⟨Nat.le_of_ble_eq_true rfl, Nat.le_of_ble_eq_true rfl⟩ (Nat.le_of_ble_eq_true rfl) ⟨Nat.zero_le _, Nat.zero_le _⟩ rfl dX12_best_7 (fun H locs hw => ?_)
  obtain ⟨r10, hr10, h⟩ := bnd h
  refine cV (b := 171) (As := [.int r7.1]) (rest := []) (st1 := [.int r10.1]) hC hw (c_X12_solves l g n r7.1 r7.2 r10 hr10) ml_X12_407 im_X12_solves se_X12_solves ok171 (CN := RX12) (T := TX12) (NF := 54) rfl rfl (by decide) rfl hl.1 ⟨Nat.le_of_ble_eq_true rfl, Nat.le_of_ble_eq_true rfl⟩ (Nat.le_of_ble_eq_true rfl) ⟨Nat.zero_le _, Nat.zero_le _⟩ rfl dX12_best_10 (fun H locs hw => ?_)
  refine lv_if_eq (tgt := 23) hx hb dX12_best_13 (by decide) (fun hc => ?_) (fun hc => ?_)
  · rw [if_pos hc] at h
    refine lv_iconst (v := ((-1) : Int32)) hx hb dX12_best_23 (by decide) ?_
    exact B24 ((-1) : Int32) r10.2 _ _ _ hw (lv_sub hl [] rfl) h
  · rw [if_neg hc] at h
    refine lv_aload_n hx hb dX12_best_16 rfl (lv_at hl 0 rfl) ?_
    obtain ⟨r17, hr17, h⟩ := bnd h
    refine cV (b := 171) (As := []) (rest := []) (st1 := [.int r17.1]) hC hw (c_X12_bestNow l g n r10.2 r17 hr17) ml_X12_416 im_X12_bestNow se_X12_bestNow ok171 (CN := RX12) (T := TX12) (NF := 54) rfl rfl (by decide) rfl hl.1 ⟨Nat.le_of_ble_eq_true rfl, Nat.le_of_ble_eq_true rfl⟩ (Nat.le_of_ble_eq_true rfl) ⟨Nat.zero_le _, Nat.zero_le _⟩ rfl dX12_best_17 (fun H locs hw => ?_)
    refine lv_goto (tgt := 24) hx hb dX12_best_20 (by decide) ?_
    exact B24 r17.1 r17.2 _ _ _ hw (lv_sub hl [] rfl) h
set_option maxRecDepth 100000 in
set_option maxHeartbeats 4000000 in
theorem c_X12_worth (l : Launch) (g : Gw) (n : Nat) (v1 : Int32) (μ : Mu) (r : Int32 × Mu) (h : X12_worth n v1 μ = some r) : Ct l g yX12_worth cX12_worth 2 (some .int) 10 [.ref (g.2.2 171), .int v1] μ (some (.int r.1)) r.2 := by
  rw [X12_worth] at h
  refine Ct.of (by decide) (Nat.le_of_ble_eq_true rfl) ?_
  intro p e s m args below meth c ls hC hw hr hlocks hl
  have hx := hC.1
  have hb := hC.2.1
  have hl : lv_has ls 2 [(0, .ref (g.2.2 171)), (1, .int v1)] := hl
  have B24 : ∀ (μ : Mu) (H : Heap) (locs : List Loc) (ls : Array Slot), wd g μ s (Aw g s.heap.size) H locs → lv_has ls 2 [] → X12_worth_24 n v1  μ = some r → WQ p l e (rmD 10) s m args below meth c g (some (.int r.1)) r.2 H locs (F0 m 24 ls []) := by
    intro μ H locs ls hw hl h
    rw [X12_worth_24] at h
    refine lv_sipush (v := ((-1000) : Int32)) hx hb dX12_worth_24 (by decide) ?_
    exact rI hC hw hr hlocks (by rw [← Option.some.inj h]) (by rw [← Option.some.inj h]) dX12_worth_27
  refine lv_aload_n hx hb dX12_worth_0 rfl (lv_at hl 0 rfl) ?_
  refine lv_iconst (v := (0 : Int32)) hx hb dX12_worth_1 (by decide) ?_
  refine pI hC hw fl_X12_107 fp_12_5 ok171 dX12_worth_2 (fun H locs hw => ?_)
  refine lv_aload_n hx hb dX12_worth_5 rfl (lv_at hl 0 rfl) ?_
  refine lv_aload_n hx hb dX12_worth_6 rfl (lv_at hl 0 rfl) ?_
  obtain ⟨r7, hr7, h⟩ := bnd h
  refine cV (b := 171) (As := []) (rest := [.ref (g.2.2 171)]) (st1 := [.int r7.1, .ref (g.2.2 171)]) hC hw (c_X12_seedsNow l g n (si μ 171 5 (0 : Int32)) r7 hr7) ml_X12_365 im_X12_seedsNow se_X12_seedsNow ok171 (CN := RX12) (T := TX12) (NF := 54) rfl rfl (by decide) rfl hl.1 ⟨Nat.le_of_ble_eq_true rfl, Nat.le_of_ble_eq_true rfl⟩ (Nat.le_of_ble_eq_true rfl) ⟨Nat.zero_le _, Nat.zero_le _⟩ rfl dX12_worth_7 (fun H locs hw => ?_)
  obtain ⟨r10, hr10, h⟩ := bnd h
  refine cV (b := 171) (As := [.int r7.1]) (rest := []) (st1 := [.int r10.1]) hC hw (c_X12_solves l g n r7.1 r7.2 r10 hr10) ml_X12_407 im_X12_solves se_X12_solves ok171 (CN := RX12) (T := TX12) (NF := 54) rfl rfl (by decide) rfl hl.1 ⟨Nat.le_of_ble_eq_true rfl, Nat.le_of_ble_eq_true rfl⟩ (Nat.le_of_ble_eq_true rfl) ⟨Nat.zero_le _, Nat.zero_le _⟩ rfl dX12_worth_10 (fun H locs hw => ?_)
  refine lv_if_eq (tgt := 24) hx hb dX12_worth_13 (by decide) (fun hc => ?_) (fun hc => ?_)
  · rw [if_pos hc] at h
    exact B24 r10.2 _ _ _ hw (lv_sub hl [] rfl) h
  · rw [if_neg hc] at h
    refine lv_aload_n hx hb dX12_worth_16 rfl (lv_at hl 0 rfl) ?_
    refine lv_iload_n hx hb dX12_worth_17 rfl (lv_at hl 1 rfl) ?_
    obtain ⟨r18, hr18, h⟩ := bnd h
    refine cV (b := 171) (As := [.int v1]) (rest := []) (st1 := [.int r18.1]) hC hw (c_X12_whyNot l g n v1 r10.2 r18 hr18) ml_X12_311 im_X12_whyNot se_X12_whyNot ok171 (CN := RX12) (T := TX12) (NF := 54) rfl rfl (by decide) rfl hl.1 ⟨Nat.le_of_ble_eq_true rfl, Nat.le_of_ble_eq_true rfl⟩ (Nat.le_of_ble_eq_true rfl) ⟨Nat.zero_le _, Nat.zero_le _⟩ rfl dX12_worth_18 (fun H locs hw => ?_)
    refine lv_if_eq (tgt := 28) hx hb dX12_worth_21 (by decide) (fun hc => ?_) (fun hc => ?_)
    · rw [if_pos hc] at h
      refine lv_aload_n hx hb dX12_worth_28 rfl (lv_at hl 0 rfl) ?_
      refine lv_aload_n hx hb dX12_worth_29 rfl (lv_at hl 0 rfl) ?_
      obtain ⟨r30, hr30, h⟩ := bnd h
      refine cV (b := 171) (As := []) (rest := [.ref (g.2.2 171)]) (st1 := [.int r30.1, .ref (g.2.2 171)]) hC hw (c_X12_seatNow l g n r18.2 r30 hr30) ml_X12_410 im_X12_seatNow se_X12_seatNow ok171 (CN := RX12) (T := TX12) (NF := 54) rfl rfl (by decide) rfl hl.1 ⟨Nat.le_of_ble_eq_true rfl, Nat.le_of_ble_eq_true rfl⟩ (Nat.le_of_ble_eq_true rfl) ⟨Nat.zero_le _, Nat.zero_le _⟩ rfl dX12_worth_30 (fun H locs hw => ?_)
      refine lv_iload_n hx hb dX12_worth_33 rfl (lv_at hl 1 rfl) ?_
      refine lv_aload_n hx hb dX12_worth_34 rfl (lv_at hl 0 rfl) ?_
      refine gR (t := 172) hC hw fl_X12_9 ok171 (by decide) ot171_0 dX12_worth_35 ?_
      refine lv_iconst (v := (1 : Int32)) hx hb dX12_worth_38 (by decide) ?_
      refine lI (j := 1) hC hw ok172 on172 (vin (by decide)) (by decide) dX12_worth_39 ?_
      obtain ⟨hd40, h⟩ := dv_some h
      refine lv_irem hx hb dX12_worth_40 hd40 ?_
      refine lv_aload_n hx hb dX12_worth_41 rfl (lv_at hl 0 rfl) ?_
      refine gR (t := 184) hC hw fl_X12_51 ok171 (by decide) ot171_32 dX12_worth_42 ?_
      obtain ⟨r45, hr45, h⟩ := bnd h
      refine cV (b := 171) (As := [.int r30.1, .int (v1 - v1 / (r30.2.1 172 1) * (r30.2.1 172 1)), .ref (g.2.2 184)]) (rest := []) (st1 := [.int r45.1]) hC hw (c_X12_worthOf l g n r30.1 (v1 - v1 / (r30.2.1 172 1) * (r30.2.1 172 1)) 184 r30.2 r45 hr45) ml_X12_398 im_X12_worthOf se_X12_worthOf ok171 (CN := RX12) (T := TX12) (NF := 54) rfl rfl (by decide) rfl hl.1 ⟨Nat.le_of_ble_eq_true rfl, Nat.le_of_ble_eq_true rfl⟩ (Nat.le_of_ble_eq_true rfl) ⟨Nat.zero_le _, Nat.zero_le _⟩ rfl dX12_worth_45 (fun H locs hw => ?_)
      exact rI hC hw hr hlocks (by rw [← Option.some.inj h]) (by rw [← Option.some.inj h]) dX12_worth_48
    · rw [if_neg hc] at h
      exact B24 r18.2 _ _ _ hw (lv_sub hl [] rfl) h
set_option maxRecDepth 100000 in
set_option maxHeartbeats 4000000 in
theorem c_X12_valueOf (l : Launch) (g : Gw) (n : Nat) (v1 : Int32) (v2 : Int32) (v3 : Int32) (μ : Mu) (r : Int32 × Mu) (h : X12_valueOf n v1 v2 v3 μ = some r) : Ct l g yX12_valueOf cX12_valueOf 4 (some .int) 10 [.ref (g.2.2 171), .int v1, .int v2, .int v3] μ (some (.int r.1)) r.2 := by
  rw [X12_valueOf] at h
  refine Ct.of (by decide) (Nat.le_of_ble_eq_true rfl) ?_
  intro p e s m args below meth c ls hC hw hr hlocks hl
  have hx := hC.1
  have hb := hC.2.1
  have hl : lv_has ls 4 [(0, .ref (g.2.2 171)), (1, .int v1), (2, .int v2), (3, .int v3)] := hl
  have B102 : ∀ (s0 : Int32) (μ : Mu) (H : Heap) (locs : List Loc) (ls : Array Slot), wd g μ s (Aw g s.heap.size) H locs → lv_has ls 4 [] → X12_valueOf_102 n v1 v2 v3 s0 μ = some r → WQ p l e (rmD 10) s m args below meth c g (some (.int r.1)) r.2 H locs (F0 m 102 ls [.int s0]) := by
    intro s0 μ H locs ls hw hl h
    rw [X12_valueOf_102] at h
    exact rI hC hw hr hlocks (by rw [← Option.some.inj h]) (by rw [← Option.some.inj h]) dX12_valueOf_102
  have B29 : ∀ (s1 : Int32) (μ : Mu) (H : Heap) (locs : List Loc) (ls : Array Slot), wd g μ s (Aw g s.heap.size) H locs → lv_has ls 4 [(0, .ref (g.2.2 171)), (1, .int v1), (2, .int v2), (3, .int v3)] → X12_valueOf_29 n v1 v2 v3 s1 μ = some r → WQ p l e (rmD 10) s m args below meth c g (some (.int r.1)) r.2 H locs (F0 m 29 ls [.int s1, .ref (g.2.2 171)]) := by
    intro s1 μ H locs ls hw hl h
    rw [X12_valueOf_29] at h
    refine pI hC hw fl_X12_107 fp_12_5 ok171 dX12_valueOf_29 (fun H locs hw => ?_)
    refine lv_aload_n hx hb dX12_valueOf_32 rfl (lv_at hl 0 rfl) ?_
    refine gI hC hw fl_X12_107 ok171 (by decide) dX12_valueOf_33 ?_
    refine lv_if_le (tgt := 41) hx hb dX12_valueOf_36 (by decide) (fun hc => ?_) (fun hc => ?_)
    · rw [if_pos hc] at h
      refine lv_aload_n hx hb dX12_valueOf_41 rfl (lv_at hl 0 rfl) ?_
      refine lv_iload_n hx hb dX12_valueOf_42 rfl (lv_at hl 2 rfl) ?_
      obtain ⟨r43, hr43, h⟩ := bnd h
      refine cV (b := 171) (As := [.int v2]) (rest := []) (st1 := [.int r43.1]) hC hw (c_X12_solves l g n v2 (si μ 171 5 s1) r43 hr43) ml_X12_407 im_X12_solves se_X12_solves ok171 (CN := RX12) (T := TX12) (NF := 54) rfl rfl (by decide) rfl hl.1 ⟨Nat.le_of_ble_eq_true rfl, Nat.le_of_ble_eq_true rfl⟩ (Nat.le_of_ble_eq_true rfl) ⟨Nat.zero_le _, Nat.zero_le _⟩ rfl dX12_valueOf_43 (fun H locs hw => ?_)
      refine lv_if_ne (tgt := 55) hx hb dX12_valueOf_46 (by decide) (fun hc => ?_) (fun hc => ?_)
      · rw [if_neg hc] at h
        refine lv_iload_n hx hb dX12_valueOf_55 rfl (lv_at hl 3 rfl) ?_
        refine lv_i2l hx hb dX12_valueOf_56 rfl ?_
        refine lv_lconst (v := (0 : Int64)) hx hb dX12_valueOf_57 (by decide) ?_
        refine lv_aload_n hx hb dX12_valueOf_58 rfl (lv_at hl 0 rfl) ?_
        refine gR (t := 189) hC hw fl_X12_67 ok171 (by decide) ot171_37 dX12_valueOf_59 ?_
        refine lv_iload_n hx hb dX12_valueOf_62 rfl (lv_at hl 2 rfl) ?_
        refine lv_iconst (v := (1 : Int32)) hx hb dX12_valueOf_63 (by decide) ?_
        refine lv_iadd hx hb dX12_valueOf_64 ?_
        obtain ⟨hi65, h⟩ := gd_some h
        refine lI (j := (v2 + (1 : Int32)).toNatClampNeg) hC hw ok189 on189 hi65 rfl dX12_valueOf_65 ?_
        refine lv_aload_n hx hb dX12_valueOf_66 rfl (lv_at hl 0 rfl) ?_
        refine gR (t := 189) hC hw fl_X12_67 ok171 (by decide) ot171_37 dX12_valueOf_67 ?_
        refine lv_iload_n hx hb dX12_valueOf_70 rfl (lv_at hl 2 rfl) ?_
        obtain ⟨hi71, h⟩ := gd_some h
        refine lI (j := v2.toNatClampNeg) hC hw ok189 on189 hi71 rfl dX12_valueOf_71 ?_
        refine lv_isub hx hb dX12_valueOf_72 ?_
        refine lv_iconst (v := (1 : Int32)) hx hb dX12_valueOf_73 (by decide) ?_
        refine lv_isub hx hb dX12_valueOf_74 ?_
        refine lv_i2l hx hb dX12_valueOf_75 rfl ?_
        obtain ⟨r76, hr76, h⟩ := bnd h
        refine cS (As := [.long (v3.toInt64), .long (0 : Int64), .long ((((r43.2.1 189 (v2 + (1 : Int32)).toNatClampNeg) - (r43.2.1 189 v2.toNatClampNeg)) - (1 : Int32)).toInt64)]) (rest := []) (st1 := [.int r76.1]) hC hw (c_X12_within l g n (v3.toInt64) (0 : Int64) ((((r43.2.1 189 (v2 + (1 : Int32)).toNatClampNeg) - (r43.2.1 189 v2.toNatClampNeg)) - (1 : Int32)).toInt64) r43.2 r76 hr76) ml_X12_166 st_X12_within rfl hl.1 ⟨Nat.le_of_ble_eq_true rfl, Nat.le_of_ble_eq_true rfl⟩ (Nat.le_of_ble_eq_true rfl) ⟨Nat.zero_le _, Nat.zero_le _⟩ rfl dX12_valueOf_76 (fun H locs hw => ?_)
        refine lv_if_eq (tgt := 97) hx hb dX12_valueOf_79 (by decide) (fun hc => ?_) (fun hc => ?_)
        · rw [if_pos hc] at h
          refine lv_aload_n hx hb dX12_valueOf_97 rfl (lv_at hl 0 rfl) ?_
          refine lv_iconst (v := (1 : Int32)) hx hb dX12_valueOf_98 (by decide) ?_
          obtain ⟨r99, hr99, h⟩ := bnd h
          refine cV (b := 171) (As := [.int (1 : Int32)]) (rest := []) (st1 := [.int r99.1]) hC hw (c_X12_fails l g n (1 : Int32) r76.2 r99 hr99) ml_X12_221 im_X12_fails se_X12_fails ok171 (CN := RX12) (T := TX12) (NF := 54) rfl rfl (by decide) rfl hl.1 ⟨Nat.le_of_ble_eq_true rfl, Nat.le_of_ble_eq_true rfl⟩ (Nat.le_of_ble_eq_true rfl) ⟨Nat.zero_le _, Nat.zero_le _⟩ rfl dX12_valueOf_99 (fun H locs hw => ?_)
          exact B102 r99.1 r99.2 _ _ _ hw (lv_sub hl [] rfl) h
        · rw [if_neg hc] at h
          refine lv_aload_n hx hb dX12_valueOf_82 rfl (lv_at hl 0 rfl) ?_
          refine gR (t := 184) hC hw fl_X12_51 ok171 (by decide) ot171_32 dX12_valueOf_83 ?_
          refine lv_aload_n hx hb dX12_valueOf_86 rfl (lv_at hl 0 rfl) ?_
          refine lv_iload_n hx hb dX12_valueOf_87 rfl (lv_at hl 1 rfl) ?_
          refine lv_iload_n hx hb dX12_valueOf_88 rfl (lv_at hl 2 rfl) ?_
          refine lv_iload_n hx hb dX12_valueOf_89 rfl (lv_at hl 3 rfl) ?_
          obtain ⟨r90, hr90, h⟩ := bnd h
          refine cV (b := 171) (As := [.int v1, .int v2, .int v3]) (rest := [.ref (g.2.2 184)]) (st1 := [.int r90.1, .ref (g.2.2 184)]) hC hw (c_X12_seat l g n v1 v2 v3 r76.2 r90 hr90) ml_X12_384 im_X12_seat se_X12_seat ok171 (CN := RX12) (T := TX12) (NF := 54) rfl rfl (by decide) rfl hl.1 ⟨Nat.le_of_ble_eq_true rfl, Nat.le_of_ble_eq_true rfl⟩ (Nat.le_of_ble_eq_true rfl) ⟨Nat.zero_le _, Nat.zero_le _⟩ rfl dX12_valueOf_90 (fun H locs hw => ?_)
          obtain ⟨hi93, h⟩ := gd_some h
          refine lI (j := r90.1.toNatClampNeg) hC hw ok184 on184 hi93 rfl dX12_valueOf_93 ?_
          refine lv_goto (tgt := 102) hx hb dX12_valueOf_94 (by decide) ?_
          exact B102 (r90.2.1 184 r90.1.toNatClampNeg) r90.2 _ _ _ hw (lv_sub hl [] rfl) h
      · rw [if_pos hc] at h
        refine lv_aload_n hx hb dX12_valueOf_49 rfl (lv_at hl 0 rfl) ?_
        refine lv_iconst (v := (3 : Int32)) hx hb dX12_valueOf_50 (by decide) ?_
        obtain ⟨r51, hr51, h⟩ := bnd h
        refine cV (b := 171) (As := [.int (3 : Int32)]) (rest := []) (st1 := [.int r51.1]) hC hw (c_X12_fails l g n (3 : Int32) r43.2 r51 hr51) ml_X12_221 im_X12_fails se_X12_fails ok171 (CN := RX12) (T := TX12) (NF := 54) rfl rfl (by decide) rfl hl.1 ⟨Nat.le_of_ble_eq_true rfl, Nat.le_of_ble_eq_true rfl⟩ (Nat.le_of_ble_eq_true rfl) ⟨Nat.zero_le _, Nat.zero_le _⟩ rfl dX12_valueOf_51 (fun H locs hw => ?_)
        exact rI hC hw hr hlocks (by rw [← Option.some.inj h]) (by rw [← Option.some.inj h]) dX12_valueOf_54
    · rw [if_neg hc] at h
      refine lv_iconst (v := (0 : Int32)) hx hb dX12_valueOf_39 (by decide) ?_
      exact rI hC hw hr hlocks (by rw [← Option.some.inj h]) (by rw [← Option.some.inj h]) dX12_valueOf_40
  refine lv_aload_n hx hb dX12_valueOf_0 rfl (lv_at hl 0 rfl) ?_
  refine lv_iload_n hx hb dX12_valueOf_1 rfl (lv_at hl 1 rfl) ?_
  obtain ⟨r2, hr2, h⟩ := bnd h
  refine cS (As := [.int v1]) (rest := [.ref (g.2.2 171)]) (st1 := [.int r2.1, .ref (g.2.2 171)]) hC hw (c_X12_isSide l g n v1 μ r2 hr2) ml_X12_254 st_X12_isSide rfl hl.1 ⟨Nat.le_of_ble_eq_true rfl, Nat.le_of_ble_eq_true rfl⟩ (Nat.le_of_ble_eq_true rfl) ⟨Nat.zero_le _, Nat.zero_le _⟩ rfl dX12_valueOf_2 (fun H locs hw => ?_)
  refine lv_if_ne (tgt := 12) hx hb dX12_valueOf_5 (by decide) (fun hc => ?_) (fun hc => ?_)
  · rw [if_neg hc] at h
    refine lv_iload_n hx hb dX12_valueOf_12 rfl (lv_at hl 2 rfl) ?_
    refine lv_i2l hx hb dX12_valueOf_13 rfl ?_
    refine lv_lconst (v := (0 : Int64)) hx hb dX12_valueOf_14 (by decide) ?_
    refine lv_ldc2 (v := (40 : Int64)) hx hb hC.2.2.2.1 (hC.2.2.2.2.1 _ cl_X12_357) dX12_valueOf_15 ?_
    obtain ⟨r18, hr18, h⟩ := bnd h
    refine cS (As := [.long (v2.toInt64), .long (0 : Int64), .long (40 : Int64)]) (rest := [.ref (g.2.2 171)]) (st1 := [.int r18.1, .ref (g.2.2 171)]) hC hw (c_X12_within l g n (v2.toInt64) (0 : Int64) (40 : Int64) r2.2 r18 hr18) ml_X12_166 st_X12_within rfl hl.1 ⟨Nat.le_of_ble_eq_true rfl, Nat.le_of_ble_eq_true rfl⟩ (Nat.le_of_ble_eq_true rfl) ⟨Nat.zero_le _, Nat.zero_le _⟩ rfl dX12_valueOf_18 (fun H locs hw => ?_)
    refine lv_if_eq (tgt := 28) hx hb dX12_valueOf_21 (by decide) (fun hc => ?_) (fun hc => ?_)
    · rw [if_pos hc] at h
      refine lv_iconst (v := (2 : Int32)) hx hb dX12_valueOf_28 (by decide) ?_
      exact B29 (2 : Int32) r18.2 _ _ _ hw (lv_sub hl [0, 1, 2, 3] rfl) h
    · rw [if_neg hc] at h
      refine lv_iconst (v := (0 : Int32)) hx hb dX12_valueOf_24 (by decide) ?_
      refine lv_goto (tgt := 29) hx hb dX12_valueOf_25 (by decide) ?_
      exact B29 (0 : Int32) r18.2 _ _ _ hw (lv_sub hl [0, 1, 2, 3] rfl) h
  · rw [if_pos hc] at h
    refine lv_iconst (v := (1 : Int32)) hx hb dX12_valueOf_8 (by decide) ?_
    refine lv_goto (tgt := 29) hx hb dX12_valueOf_9 (by decide) ?_
    exact B29 (1 : Int32) r2.2 _ _ _ hw (lv_sub hl [0, 1, 2, 3] rfl) h
set_option maxRecDepth 100000 in
set_option maxHeartbeats 4000000 in
theorem c_X12_tally (l : Launch) (g : Gw) (n : Nat) (v1 : Int32) (v2 : Int32) (v3 : Int32) (μ : Mu) (r : Int32 × Mu) (h : X12_tally n v1 v2 v3 μ = some r) : Ct l g yX12_tally cX12_tally 8 (some .int) 10 [.ref (g.2.2 171), .int v1, .int v2, .int v3] μ (some (.int r.1)) r.2 := by
  rw [X12_tally] at h
  refine Ct.of (by decide) (Nat.le_of_ble_eq_true rfl) ?_
  intro p e s m args below meth c ls hC hw hr hlocks hl
  have hx := hC.1
  have hb := hC.2.1
  have hl : lv_has ls 8 [(0, .ref (g.2.2 171)), (1, .int v1), (2, .int v2), (3, .int v3)] := hl
  have B73 : ∀ (k : Nat), ∀ (v4 : Int32) (v5 : Int32) (μ : Mu) (H : Heap) (locs : List Loc) (ls : Array Slot), wd g μ s (Aw g s.heap.size) H locs → lv_has ls 8 [(0, .ref (g.2.2 171)), (1, .int v1), (2, .int v2), (3, .int v3), (4, .int v4), (5, .int v5)] → lpF (fun _ _ _ => none) (X12_tally_73b n v1 v2 v3) k v4 v5 μ = some r → WQ p l e (rmD 10) s m args below meth c g (some (.int r.1)) r.2 H locs (F0 m 73 ls []) := by
    intro k
    induction k with
    | zero =>
      intro v4 v5 μ H locs ls hw hl h
      cases h
    | succ k ih73 =>
      rw [lpF_s]
      generalize lpF (fun _ _ _ => none) (X12_tally_73b n v1 v2 v3) k = k73 at ih73 ⊢
      intro v4 v5 μ H locs ls hw hl h
      have B163 : ∀ (v5 : Int32) (s0 : Int32) (s1 : Int32) (μ : Mu) (H : Heap) (locs : List Loc) (ls : Array Slot), wd g μ s (Aw g s.heap.size) H locs → lv_has ls 8 [(0, .ref (g.2.2 171)), (1, .int v1), (2, .int v2), (3, .int v3), (5, .int v5)] → X12_tally_163 n v1 v2 v3 k73 v5 s0 s1 μ = some r → WQ p l e (rmD 10) s m args below meth c g (some (.int r.1)) r.2 H locs (F0 m 163 ls [.int s1, .int s0]) := by
        intro v5 s0 s1 μ H locs ls hw hl h
        rw [X12_tally_163] at h
        refine lv_iadd hx hb dX12_tally_163 ?_
        refine lv_istore (lv' := [(4, .int (s0 + s1)), (0, .ref (g.2.2 171)), (1, .int v1), (2, .int v2), (3, .int v3), (5, .int v5)]) hx hb dX12_tally_164 hl (by decide) rfl (fun ls hl => ?_)
        refine lv_iinc (v := (v5 + (1 : Int32))) (lv' := [(5, .int (v5 + (1 : Int32))), (4, .int (s0 + s1)), (0, .ref (g.2.2 171)), (1, .int v1), (2, .int v2), (3, .int v3)]) hx hb dX12_tally_166 hl (k := 5) rfl rfl (by decide) rfl (fun ls hl => ?_)
        refine lv_goto (tgt := 73) hx hb dX12_tally_169 (by decide) ?_
        exact ih73 (s0 + s1) (v5 + (1 : Int32)) μ _ _ _ hw (lv_sub hl [2, 3, 4, 5, 1, 0] rfl) h
      have B158 : ∀ (v5 : Int32) (s0 : Int32) (μ : Mu) (H : Heap) (locs : List Loc) (ls : Array Slot), wd g μ s (Aw g s.heap.size) H locs → lv_has ls 8 [(0, .ref (g.2.2 171)), (1, .int v1), (2, .int v2), (3, .int v3), (5, .int v5)] → X12_tally_158 n v1 v2 v3 k73 v5 s0 μ = some r → WQ p l e (rmD 10) s m args below meth c g (some (.int r.1)) r.2 H locs (F0 m 158 ls [.int s0]) := by
        intro v5 s0 μ H locs ls hw hl h
        rw [X12_tally_158] at h
        refine lv_iconst (v := (1 : Int32)) hx hb dX12_tally_158 (by decide) ?_
        refine lv_goto (tgt := 163) hx hb dX12_tally_159 (by decide) ?_
        exact B163 v5 s0 (1 : Int32) μ _ _ _ hw (lv_sub hl [0, 1, 2, 3, 4] rfl) h
      have B162 : ∀ (v5 : Int32) (s0 : Int32) (μ : Mu) (H : Heap) (locs : List Loc) (ls : Array Slot), wd g μ s (Aw g s.heap.size) H locs → lv_has ls 8 [(0, .ref (g.2.2 171)), (1, .int v1), (2, .int v2), (3, .int v3), (5, .int v5)] → X12_tally_162 n v1 v2 v3 k73 v5 s0 μ = some r → WQ p l e (rmD 10) s m args below meth c g (some (.int r.1)) r.2 H locs (F0 m 162 ls [.int s0]) := by
        intro v5 s0 μ H locs ls hw hl h
        rw [X12_tally_162] at h
        refine lv_iconst (v := (0 : Int32)) hx hb dX12_tally_162 (by decide) ?_
        exact B163 v5 s0 (0 : Int32) μ _ _ _ hw (lv_sub hl [0, 1, 2, 3, 4] rfl) h
      have B143 : ∀ (v5 : Int32) (v6 : Int32) (s0 : Int32) (μ : Mu) (H : Heap) (locs : List Loc) (ls : Array Slot), wd g μ s (Aw g s.heap.size) H locs → lv_has ls 8 [(0, .ref (g.2.2 171)), (1, .int v1), (2, .int v2), (3, .int v3), (5, .int v5), (6, .int v6)] → X12_tally_143 n v1 v2 v3 k73 v5 v6 s0 μ = some r → WQ p l e (rmD 10) s m args below meth c g (some (.int r.1)) r.2 H locs (F0 m 143 ls [.int s0]) := by
        intro v5 v6 s0 μ H locs ls hw hl h
        rw [X12_tally_143] at h
        refine lv_iload_n hx hb dX12_tally_143 rfl (lv_at hl 3 rfl) ?_
        refine lv_iconst (v := (3 : Int32)) hx hb dX12_tally_144 (by decide) ?_
        refine lv_icmp_ne (tgt := 162) hx hb dX12_tally_145 (by decide) (fun hc => ?_) (fun hc => ?_)
        · rw [if_neg hc] at h
          exact B162 v5 s0 μ _ _ _ hw (lv_sub hl [0, 1, 2, 3, 4] rfl) h
        · rw [if_pos hc] at h
          refine lv_aload_n hx hb dX12_tally_148 rfl (lv_at hl 0 rfl) ?_
          refine gR (t := 190) hC hw fl_X12_70 ok171 (by decide) ot171_38 dX12_tally_149 ?_
          refine lv_iload hx hb dX12_tally_152 (lv_at hl 5 rfl) ?_
          obtain ⟨hi154, h⟩ := gd_some h
          refine lZ (j := v6.toNatClampNeg) hC hw ok190 on190 hi154 rfl dX12_tally_154 ?_
          refine lv_if_eq (tgt := 162) hx hb dX12_tally_155 (by decide) (fun hc => ?_) (fun hc => ?_)
          · rw [if_pos hc] at h
            exact B162 v5 s0 μ _ _ _ hw (lv_sub hl [0, 1, 2, 3, 4] rfl) h
          · rw [if_neg hc] at h
            exact B158 v5 s0 μ _ _ _ hw (lv_sub hl [0, 1, 2, 3, 4] rfl) h
      have B133 : ∀ (v5 : Int32) (v6 : Int32) (v7 : Int32) (s0 : Int32) (μ : Mu) (H : Heap) (locs : List Loc) (ls : Array Slot), wd g μ s (Aw g s.heap.size) H locs → lv_has ls 8 [(0, .ref (g.2.2 171)), (1, .int v1), (2, .int v2), (3, .int v3), (5, .int v5), (6, .int v6), (7, .int v7)] → X12_tally_133 n v1 v2 v3 k73 v5 v6 v7 s0 μ = some r → WQ p l e (rmD 10) s m args below meth c g (some (.int r.1)) r.2 H locs (F0 m 133 ls [.int s0]) := by
        intro v5 v6 v7 s0 μ H locs ls hw hl h
        rw [X12_tally_133] at h
        refine lv_iload_n hx hb dX12_tally_133 rfl (lv_at hl 3 rfl) ?_
        refine lv_iconst (v := (2 : Int32)) hx hb dX12_tally_134 (by decide) ?_
        refine lv_icmp_ne (tgt := 143) hx hb dX12_tally_135 (by decide) (fun hc => ?_) (fun hc => ?_)
        · rw [if_neg hc] at h
          exact B143 v5 v6 s0 μ _ _ _ hw (lv_sub hl [0, 1, 2, 3, 4, 5] rfl) h
        · rw [if_pos hc] at h
          refine lv_iload hx hb dX12_tally_138 (lv_at hl 6 rfl) ?_
          refine lv_if_lt (tgt := 158) hx hb dX12_tally_140 (by decide) (fun hc => ?_) (fun hc => ?_)
          · rw [if_pos hc] at h
            exact B158 v5 s0 μ _ _ _ hw (lv_sub hl [0, 1, 2, 3, 4] rfl) h
          · rw [if_neg hc] at h
            exact B143 v5 v6 s0 μ _ _ _ hw (lv_sub hl [0, 1, 2, 3, 4, 5] rfl) h
      have B123 : ∀ (v5 : Int32) (v6 : Int32) (v7 : Int32) (s0 : Int32) (μ : Mu) (H : Heap) (locs : List Loc) (ls : Array Slot), wd g μ s (Aw g s.heap.size) H locs → lv_has ls 8 [(0, .ref (g.2.2 171)), (1, .int v1), (2, .int v2), (3, .int v3), (5, .int v5), (6, .int v6), (7, .int v7)] → X12_tally_123 n v1 v2 v3 k73 v5 v6 v7 s0 μ = some r → WQ p l e (rmD 10) s m args below meth c g (some (.int r.1)) r.2 H locs (F0 m 123 ls [.int s0]) := by
        intro v5 v6 v7 s0 μ H locs ls hw hl h
        rw [X12_tally_123] at h
        refine lv_iload_n hx hb dX12_tally_123 rfl (lv_at hl 3 rfl) ?_
        refine lv_iconst (v := (1 : Int32)) hx hb dX12_tally_124 (by decide) ?_
        refine lv_icmp_ne (tgt := 133) hx hb dX12_tally_125 (by decide) (fun hc => ?_) (fun hc => ?_)
        · rw [if_neg hc] at h
          exact B133 v5 v6 v7 s0 μ _ _ _ hw (lv_sub hl [0, 1, 2, 3, 4, 5, 6] rfl) h
        · rw [if_pos hc] at h
          refine lv_iload hx hb dX12_tally_128 (lv_at hl 6 rfl) ?_
          refine lv_if_eq (tgt := 158) hx hb dX12_tally_130 (by decide) (fun hc => ?_) (fun hc => ?_)
          · rw [if_pos hc] at h
            exact B158 v5 s0 μ _ _ _ hw (lv_sub hl [0, 1, 2, 3, 4] rfl) h
          · rw [if_neg hc] at h
            exact B133 v5 v6 v7 s0 μ _ _ _ hw (lv_sub hl [0, 1, 2, 3, 4, 5, 6] rfl) h
      rw [X12_tally_73b] at h
      refine lv_iload hx hb dX12_tally_73 (lv_at hl 5 rfl) ?_
      refine lv_aload_n hx hb dX12_tally_75 rfl (lv_at hl 0 rfl) ?_
      refine gR (t := 189) hC hw fl_X12_67 ok171 (by decide) ot171_37 dX12_tally_76 ?_
      refine lv_iload_n hx hb dX12_tally_79 rfl (lv_at hl 2 rfl) ?_
      refine lv_iconst (v := (1 : Int32)) hx hb dX12_tally_80 (by decide) ?_
      refine lv_iadd hx hb dX12_tally_81 ?_
      obtain ⟨hi82, h⟩ := gd_some h
      refine lI (j := (v2 + (1 : Int32)).toNatClampNeg) hC hw ok189 on189 hi82 rfl dX12_tally_82 ?_
      refine lv_aload_n hx hb dX12_tally_83 rfl (lv_at hl 0 rfl) ?_
      refine gR (t := 189) hC hw fl_X12_67 ok171 (by decide) ot171_37 dX12_tally_84 ?_
      refine lv_iload_n hx hb dX12_tally_87 rfl (lv_at hl 2 rfl) ?_
      obtain ⟨hi88, h⟩ := gd_some h
      refine lI (j := v2.toNatClampNeg) hC hw ok189 on189 hi88 rfl dX12_tally_88 ?_
      refine lv_isub hx hb dX12_tally_89 ?_
      refine lv_icmp_ge (tgt := 172) hx hb dX12_tally_90 (by decide) (fun hc => ?_) (fun hc => ?_)
      · rw [if_pos hc] at h
        refine lv_iload hx hb dX12_tally_172 (lv_at hl 4 rfl) ?_
        exact rI hC hw hr hlocks (by rw [← Option.some.inj h]) (by rw [← Option.some.inj h]) dX12_tally_174
      · rw [if_neg hc] at h
        refine lv_aload_n hx hb dX12_tally_93 rfl (lv_at hl 0 rfl) ?_
        refine lv_iload_n hx hb dX12_tally_94 rfl (lv_at hl 1 rfl) ?_
        refine lv_iload_n hx hb dX12_tally_95 rfl (lv_at hl 2 rfl) ?_
        refine lv_iload hx hb dX12_tally_96 (lv_at hl 5 rfl) ?_
        obtain ⟨r98, hr98, h⟩ := bnd h
        refine cV (b := 171) (As := [.int v1, .int v2, .int v5]) (rest := []) (st1 := [.int r98.1]) hC hw (c_X12_seat l g n v1 v2 v5 μ r98 hr98) ml_X12_384 im_X12_seat se_X12_seat ok171 (CN := RX12) (T := TX12) (NF := 54) rfl rfl (by decide) rfl hl.1 ⟨Nat.le_of_ble_eq_true rfl, Nat.le_of_ble_eq_true rfl⟩ (Nat.le_of_ble_eq_true rfl) ⟨Nat.zero_le _, Nat.zero_le _⟩ rfl dX12_tally_98 (fun H locs hw => ?_)
        refine lv_istore (lv' := [(6, .int r98.1), (0, .ref (g.2.2 171)), (1, .int v1), (2, .int v2), (3, .int v3), (4, .int v4), (5, .int v5)]) hx hb dX12_tally_101 hl (by decide) rfl (fun ls hl => ?_)
        refine lv_aload_n hx hb dX12_tally_103 rfl (lv_at hl 1 rfl) ?_
        refine gR (t := 184) hC hw fl_X12_51 ok171 (by decide) ot171_32 dX12_tally_104 ?_
        refine lv_iload hx hb dX12_tally_107 (lv_at hl 0 rfl) ?_
        obtain ⟨hi109, h⟩ := gd_some h
        refine lI (j := r98.1.toNatClampNeg) hC hw ok184 on184 hi109 rfl dX12_tally_109 ?_
        refine lv_istore (lv' := [(7, .int (r98.2.1 184 r98.1.toNatClampNeg)), (6, .int r98.1), (0, .ref (g.2.2 171)), (1, .int v1), (2, .int v2), (3, .int v3), (4, .int v4), (5, .int v5)]) hx hb dX12_tally_110 hl (by decide) rfl (fun ls hl => ?_)
        refine lv_iload hx hb dX12_tally_112 (lv_at hl 6 rfl) ?_
        refine lv_iload_n hx hb dX12_tally_114 rfl (lv_at hl 5 rfl) ?_
        refine lv_if_ne (tgt := 123) hx hb dX12_tally_115 (by decide) (fun hc => ?_) (fun hc => ?_)
        · rw [if_neg hc] at h
          exact B123 v5 r98.1 (r98.2.1 184 r98.1.toNatClampNeg) v4 r98.2 _ _ _ hw (lv_sub hl [2, 3, 4, 5, 7, 1, 0] rfl) h
        · rw [if_pos hc] at h
          refine lv_iload hx hb dX12_tally_118 (lv_at hl 0 rfl) ?_
          refine lv_if_gt (tgt := 158) hx hb dX12_tally_120 (by decide) (fun hc => ?_) (fun hc => ?_)
          · rw [if_pos hc] at h
            exact B158 v5 v4 r98.2 _ _ _ hw (lv_sub hl [2, 3, 4, 5, 7] rfl) h
          · rw [if_neg hc] at h
            exact B123 v5 r98.1 (r98.2.1 184 r98.1.toNatClampNeg) v4 r98.2 _ _ _ hw (lv_sub hl [2, 3, 4, 5, 7, 1, 0] rfl) h
  have B41 : ∀ (s1 : Int32) (μ : Mu) (H : Heap) (locs : List Loc) (ls : Array Slot), wd g μ s (Aw g s.heap.size) H locs → lv_has ls 8 [(0, .ref (g.2.2 171)), (1, .int v1), (2, .int v2), (3, .int v3)] → X12_tally_41 n v1 v2 v3 s1 μ = some r → WQ p l e (rmD 10) s m args below meth c g (some (.int r.1)) r.2 H locs (F0 m 41 ls [.int s1, .ref (g.2.2 171)]) := by
    intro s1 μ H locs ls hw hl h
    rw [X12_tally_41] at h
    refine pI hC hw fl_X12_107 fp_12_5 ok171 dX12_tally_41 (fun H locs hw => ?_)
    refine lv_aload_n hx hb dX12_tally_44 rfl (lv_at hl 0 rfl) ?_
    refine gI hC hw fl_X12_107 ok171 (by decide) dX12_tally_45 ?_
    refine lv_if_le (tgt := 53) hx hb dX12_tally_48 (by decide) (fun hc => ?_) (fun hc => ?_)
    · rw [if_pos hc] at h
      refine lv_aload_n hx hb dX12_tally_53 rfl (lv_at hl 0 rfl) ?_
      refine lv_iload_n hx hb dX12_tally_54 rfl (lv_at hl 2 rfl) ?_
      obtain ⟨r55, hr55, h⟩ := bnd h
      refine cV (b := 171) (As := [.int v2]) (rest := []) (st1 := [.int r55.1]) hC hw (c_X12_solves l g n v2 (si μ 171 5 s1) r55 hr55) ml_X12_407 im_X12_solves se_X12_solves ok171 (CN := RX12) (T := TX12) (NF := 54) rfl rfl (by decide) rfl hl.1 ⟨Nat.le_of_ble_eq_true rfl, Nat.le_of_ble_eq_true rfl⟩ (Nat.le_of_ble_eq_true rfl) ⟨Nat.zero_le _, Nat.zero_le _⟩ rfl dX12_tally_55 (fun H locs hw => ?_)
      refine lv_if_ne (tgt := 67) hx hb dX12_tally_58 (by decide) (fun hc => ?_) (fun hc => ?_)
      · rw [if_neg hc] at h
        refine lv_iconst (v := (0 : Int32)) hx hb dX12_tally_67 (by decide) ?_
        refine lv_istore (lv' := [(4, .int (0 : Int32)), (0, .ref (g.2.2 171)), (1, .int v1), (2, .int v2), (3, .int v3)]) hx hb dX12_tally_68 hl (by decide) rfl (fun ls hl => ?_)
        refine lv_iconst (v := (0 : Int32)) hx hb dX12_tally_70 (by decide) ?_
        refine lv_istore (lv' := [(5, .int (0 : Int32)), (4, .int (0 : Int32)), (0, .ref (g.2.2 171)), (1, .int v1), (2, .int v2), (3, .int v3)]) hx hb dX12_tally_71 hl (by decide) rfl (fun ls hl => ?_)
        exact B73 n (0 : Int32) (0 : Int32) r55.2 _ _ _ hw (lv_sub hl [2, 3, 4, 5, 1, 0] rfl) h
      · rw [if_pos hc] at h
        refine lv_aload_n hx hb dX12_tally_61 rfl (lv_at hl 0 rfl) ?_
        refine lv_iconst (v := (3 : Int32)) hx hb dX12_tally_62 (by decide) ?_
        obtain ⟨r63, hr63, h⟩ := bnd h
        refine cV (b := 171) (As := [.int (3 : Int32)]) (rest := []) (st1 := [.int r63.1]) hC hw (c_X12_fails l g n (3 : Int32) r55.2 r63 hr63) ml_X12_221 im_X12_fails se_X12_fails ok171 (CN := RX12) (T := TX12) (NF := 54) rfl rfl (by decide) rfl hl.1 ⟨Nat.le_of_ble_eq_true rfl, Nat.le_of_ble_eq_true rfl⟩ (Nat.le_of_ble_eq_true rfl) ⟨Nat.zero_le _, Nat.zero_le _⟩ rfl dX12_tally_63 (fun H locs hw => ?_)
        exact rI hC hw hr hlocks (by rw [← Option.some.inj h]) (by rw [← Option.some.inj h]) dX12_tally_66
    · rw [if_neg hc] at h
      refine lv_iconst (v := (0 : Int32)) hx hb dX12_tally_51 (by decide) ?_
      exact rI hC hw hr hlocks (by rw [← Option.some.inj h]) (by rw [← Option.some.inj h]) dX12_tally_52
  have B40 : ∀ (μ : Mu) (H : Heap) (locs : List Loc) (ls : Array Slot), wd g μ s (Aw g s.heap.size) H locs → lv_has ls 8 [(0, .ref (g.2.2 171)), (1, .int v1), (2, .int v2), (3, .int v3)] → X12_tally_40 n v1 v2 v3  μ = some r → WQ p l e (rmD 10) s m args below meth c g (some (.int r.1)) r.2 H locs (F0 m 40 ls [.ref (g.2.2 171)]) := by
    intro μ H locs ls hw hl h
    rw [X12_tally_40] at h
    refine lv_iconst (v := (2 : Int32)) hx hb dX12_tally_40 (by decide) ?_
    exact B41 (2 : Int32) μ _ _ _ hw (lv_sub hl [0, 1, 2, 3] rfl) h
  refine lv_aload_n hx hb dX12_tally_0 rfl (lv_at hl 0 rfl) ?_
  refine lv_iload_n hx hb dX12_tally_1 rfl (lv_at hl 1 rfl) ?_
  obtain ⟨r2, hr2, h⟩ := bnd h
  refine cS (As := [.int v1]) (rest := [.ref (g.2.2 171)]) (st1 := [.int r2.1, .ref (g.2.2 171)]) hC hw (c_X12_isSide l g n v1 μ r2 hr2) ml_X12_254 st_X12_isSide rfl hl.1 ⟨Nat.le_of_ble_eq_true rfl, Nat.le_of_ble_eq_true rfl⟩ (Nat.le_of_ble_eq_true rfl) ⟨Nat.zero_le _, Nat.zero_le _⟩ rfl dX12_tally_2 (fun H locs hw => ?_)
  refine lv_if_ne (tgt := 12) hx hb dX12_tally_5 (by decide) (fun hc => ?_) (fun hc => ?_)
  · rw [if_neg hc] at h
    refine lv_iload_n hx hb dX12_tally_12 rfl (lv_at hl 2 rfl) ?_
    refine lv_i2l hx hb dX12_tally_13 rfl ?_
    refine lv_lconst (v := (0 : Int64)) hx hb dX12_tally_14 (by decide) ?_
    refine lv_ldc2 (v := (40 : Int64)) hx hb hC.2.2.2.1 (hC.2.2.2.2.1 _ cl_X12_357) dX12_tally_15 ?_
    obtain ⟨r18, hr18, h⟩ := bnd h
    refine cS (As := [.long (v2.toInt64), .long (0 : Int64), .long (40 : Int64)]) (rest := [.ref (g.2.2 171)]) (st1 := [.int r18.1, .ref (g.2.2 171)]) hC hw (c_X12_within l g n (v2.toInt64) (0 : Int64) (40 : Int64) r2.2 r18 hr18) ml_X12_166 st_X12_within rfl hl.1 ⟨Nat.le_of_ble_eq_true rfl, Nat.le_of_ble_eq_true rfl⟩ (Nat.le_of_ble_eq_true rfl) ⟨Nat.zero_le _, Nat.zero_le _⟩ rfl dX12_tally_18 (fun H locs hw => ?_)
    refine lv_if_eq (tgt := 40) hx hb dX12_tally_21 (by decide) (fun hc => ?_) (fun hc => ?_)
    · rw [if_pos hc] at h
      exact B40 r18.2 _ _ _ hw (lv_sub hl [0, 1, 2, 3] rfl) h
    · rw [if_neg hc] at h
      refine lv_iload_n hx hb dX12_tally_24 rfl (lv_at hl 3 rfl) ?_
      refine lv_i2l hx hb dX12_tally_25 rfl ?_
      refine lv_lconst (v := (0 : Int64)) hx hb dX12_tally_26 (by decide) ?_
      refine lv_ldc2 (v := (3 : Int64)) hx hb hC.2.2.2.1 (hC.2.2.2.2.1 _ cl_X12_314) dX12_tally_27 ?_
      obtain ⟨r30, hr30, h⟩ := bnd h
      refine cS (As := [.long (v3.toInt64), .long (0 : Int64), .long (3 : Int64)]) (rest := [.ref (g.2.2 171)]) (st1 := [.int r30.1, .ref (g.2.2 171)]) hC hw (c_X12_within l g n (v3.toInt64) (0 : Int64) (3 : Int64) r18.2 r30 hr30) ml_X12_166 st_X12_within rfl hl.1 ⟨Nat.le_of_ble_eq_true rfl, Nat.le_of_ble_eq_true rfl⟩ (Nat.le_of_ble_eq_true rfl) ⟨Nat.zero_le _, Nat.zero_le _⟩ rfl dX12_tally_30 (fun H locs hw => ?_)
      refine lv_if_eq (tgt := 40) hx hb dX12_tally_33 (by decide) (fun hc => ?_) (fun hc => ?_)
      · rw [if_pos hc] at h
        exact B40 r30.2 _ _ _ hw (lv_sub hl [0, 1, 2, 3] rfl) h
      · rw [if_neg hc] at h
        refine lv_iconst (v := (0 : Int32)) hx hb dX12_tally_36 (by decide) ?_
        refine lv_goto (tgt := 41) hx hb dX12_tally_37 (by decide) ?_
        exact B41 (0 : Int32) r30.2 _ _ _ hw (lv_sub hl [0, 1, 2, 3] rfl) h
  · rw [if_pos hc] at h
    refine lv_iconst (v := (1 : Int32)) hx hb dX12_tally_8 (by decide) ?_
    refine lv_goto (tgt := 41) hx hb dX12_tally_9 (by decide) ?_
    exact B41 (1 : Int32) r2.2 _ _ _ hw (lv_sub hl [0, 1, 2, 3] rfl) h
set_option maxRecDepth 100000 in
set_option maxHeartbeats 4000000 in
theorem c_X12_row (l : Launch) (g : Gw) (n : Nat) (v1 : Int32) (v2 : Int32) (v3 : Int32) (v4 : Int32) (μ : Mu) (r : Int32 × Mu) (h : X12_row n v1 v2 v3 v4 μ = some r) : Ct l g yX12_row cX12_row 6 (some .int) 11 [.ref (g.2.2 171), .int v1, .int v2, .int v3, .int v4] μ (some (.int r.1)) r.2 := by
  rw [X12_row] at h
  refine Ct.of (by decide) (Nat.le_of_ble_eq_true rfl) ?_
  intro p e s m args below meth c ls hC hw hr hlocks hl
  have hx := hC.1
  have hb := hC.2.1
  have hl : lv_has ls 6 [(0, .ref (g.2.2 171)), (1, .int v1), (2, .int v2), (3, .int v3), (4, .int v4)] := hl
  have B121 : ∀ (s0 : Int32) (μ : Mu) (H : Heap) (locs : List Loc) (ls : Array Slot), wd g μ s (Aw g s.heap.size) H locs → lv_has ls 6 [] → X12_row_121 n v1 v2 v3 v4 s0 μ = some r → WQ p l e (rmD 11) s m args below meth c g (some (.int r.1)) r.2 H locs (F0 m 121 ls [.int s0]) := by
    intro s0 μ H locs ls hw hl h
    rw [X12_row_121] at h
    exact rI hC hw hr hlocks (by rw [← Option.some.inj h]) (by rw [← Option.some.inj h]) dX12_row_121
  have B169 : ∀ (s0 : Int32) (μ : Mu) (H : Heap) (locs : List Loc) (ls : Array Slot), wd g μ s (Aw g s.heap.size) H locs → lv_has ls 6 [] → X12_row_169 n v1 v2 v3 v4 s0 μ = some r → WQ p l e (rmD 11) s m args below meth c g (some (.int r.1)) r.2 H locs (F0 m 169 ls [.int s0]) := by
    intro s0 μ H locs ls hw hl h
    rw [X12_row_169] at h
    exact rI hC hw hr hlocks (by rw [← Option.some.inj h]) (by rw [← Option.some.inj h]) dX12_row_169
  have B166 : ∀ (s1 : Int32) (s2 : Int32) (μ : Mu) (H : Heap) (locs : List Loc) (ls : Array Slot), wd g μ s (Aw g s.heap.size) H locs → lv_has ls 6 [] → X12_row_166 n v1 v2 v3 v4 s1 s2 μ = some r → WQ p l e (rmD 11) s m args below meth c g (some (.int r.1)) r.2 H locs (F0 m 166 ls [.int s2, .int s1, .ref (g.2.2 171)]) := by
    intro s1 s2 μ H locs ls hw hl h
    rw [X12_row_166] at h
    obtain ⟨r166, hr166, h⟩ := bnd h
    refine cV (b := 171) (As := [.int s1, .int s2]) (rest := []) (st1 := [.int r166.1]) hC hw (c_X12_canAt l g n s1 s2 μ r166 hr166) ml_X12_424 im_X12_canAt se_X12_canAt ok171 (CN := RX12) (T := TX12) (NF := 54) rfl rfl (by decide) rfl hl.1 ⟨Nat.le_of_ble_eq_true rfl, Nat.le_of_ble_eq_true rfl⟩ (Nat.le_of_ble_eq_true rfl) ⟨Nat.zero_le _, Nat.zero_le _⟩ rfl dX12_row_166 (fun H locs hw => ?_)
    exact B169 r166.1 r166.2 _ _ _ hw (lv_sub hl [] rfl) h
  have B55 : ∀ (μ : Mu) (H : Heap) (locs : List Loc) (ls : Array Slot), wd g μ s (Aw g s.heap.size) H locs → lv_has ls 6 [(0, .ref (g.2.2 171)), (1, .int v1), (2, .int v2), (3, .int v3), (4, .int v4)] → X12_row_55 n v1 v2 v3 v4  μ = some r → WQ p l e (rmD 11) s m args below meth c g (some (.int r.1)) r.2 H locs (F0 m 55 ls []) := by
    intro μ H locs ls hw hl h
    rw [X12_row_55] at h
    refine lv_aload_n hx hb dX12_row_55 rfl (lv_at hl 0 rfl) ?_
    refine gI hC hw fl_X12_107 ok171 (by decide) dX12_row_56 ?_
    refine lv_if_le (tgt := 64) hx hb dX12_row_59 (by decide) (fun hc => ?_) (fun hc => ?_)
    · rw [if_pos hc] at h
      refine lv_aload_n hx hb dX12_row_64 rfl (lv_at hl 0 rfl) ?_
      refine lv_iload_n hx hb dX12_row_65 rfl (lv_at hl 1 rfl) ?_
      refine lv_iload_n hx hb dX12_row_66 rfl (lv_at hl 2 rfl) ?_
      refine lv_iload_n hx hb dX12_row_67 rfl (lv_at hl 3 rfl) ?_
      obtain ⟨r68, hr68, h⟩ := bnd h
      refine cV (b := 171) (As := [.int v1, .int v2, .int v3]) (rest := []) (st1 := [.int r68.1]) hC hw (c_X12_seat l g n v1 v2 v3 μ r68 hr68) ml_X12_384 im_X12_seat se_X12_seat ok171 (CN := RX12) (T := TX12) (NF := 54) rfl rfl (by decide) rfl hl.1 ⟨Nat.le_of_ble_eq_true rfl, Nat.le_of_ble_eq_true rfl⟩ (Nat.le_of_ble_eq_true rfl) ⟨Nat.zero_le _, Nat.zero_le _⟩ rfl dX12_row_68 (fun H locs hw => ?_)
      refine lv_istore (lv' := [(5, .int r68.1), (0, .ref (g.2.2 171)), (1, .int v1), (2, .int v2), (3, .int v3), (4, .int v4)]) hx hb dX12_row_71 hl (by decide) rfl (fun ls hl => ?_)
      refine lv_iload hx hb dX12_row_73 (lv_at hl 5 rfl) ?_
      refine lv_bipush (v := (10 : Int32)) hx hb dX12_row_75 (by decide) ?_
      refine lv_icmp_lt (tgt := 122) hx hb dX12_row_77 (by decide) (fun hc => ?_) (fun hc => ?_)
      · rw [if_pos hc] at h
        refine lv_iload hx hb dX12_row_122 (lv_at hl 5 rfl) ?_
        refine lv_if_ne (tgt := 137) hx hb dX12_row_124 (by decide) (fun hc => ?_) (fun hc => ?_)
        · rw [if_neg hc] at h
          refine lv_iload hx hb dX12_row_137 (lv_at hl 5 rfl) ?_
          refine lv_iconst (v := (1 : Int32)) hx hb dX12_row_139 (by decide) ?_
          refine lv_icmp_ne (tgt := 152) hx hb dX12_row_140 (by decide) (fun hc => ?_) (fun hc => ?_)
          · rw [if_neg hc] at h
            refine lv_aload_n hx hb dX12_row_152 rfl (lv_at hl 1 rfl) ?_
            refine lv_iload hx hb dX12_row_153 (lv_at hl 0 rfl) ?_
            refine lv_iload hx hb dX12_row_155 (lv_at hl 5 rfl) ?_
            refine lv_iconst (v := (3 : Int32)) hx hb dX12_row_157 (by decide) ?_
            refine lv_icmp_ne (tgt := 165) hx hb dX12_row_158 (by decide) (fun hc => ?_) (fun hc => ?_)
            · rw [if_neg hc] at h
              refine lv_iconst (v := (0 : Int32)) hx hb dX12_row_165 (by decide) ?_
              exact B166 r68.1 (0 : Int32) r68.2 _ _ _ hw (lv_sub hl [] rfl) h
            · rw [if_pos hc] at h
              refine lv_iconst (v := (1 : Int32)) hx hb dX12_row_161 (by decide) ?_
              refine lv_goto (tgt := 166) hx hb dX12_row_162 (by decide) ?_
              exact B166 r68.1 (1 : Int32) r68.2 _ _ _ hw (lv_sub hl [] rfl) h
          · rw [if_pos hc] at h
            refine lv_aload_n hx hb dX12_row_143 rfl (lv_at hl 1 rfl) ?_
            refine lv_iload hx hb dX12_row_144 (lv_at hl 0 rfl) ?_
            obtain ⟨r146, hr146, h⟩ := bnd h
            refine cV (b := 171) (As := [.int r68.1]) (rest := []) (st1 := [.int r146.1]) hC hw (c_X12_bestAt l g n r68.1 r68.2 r146 hr146) ml_X12_413 im_X12_bestAt se_X12_bestAt ok171 (CN := RX12) (T := TX12) (NF := 54) rfl rfl (by decide) rfl hl.1 ⟨Nat.le_of_ble_eq_true rfl, Nat.le_of_ble_eq_true rfl⟩ (Nat.le_of_ble_eq_true rfl) ⟨Nat.zero_le _, Nat.zero_le _⟩ rfl dX12_row_146 (fun H locs hw => ?_)
            refine lv_goto (tgt := 169) hx hb dX12_row_149 (by decide) ?_
            exact B169 r146.1 r146.2 _ _ _ hw (lv_sub hl [] rfl) h
        · rw [if_pos hc] at h
          refine lv_aload_n hx hb dX12_row_127 rfl (lv_at hl 1 rfl) ?_
          refine gR (t := 185) hC hw fl_X12_54 ok171 (by decide) ot171_33 dX12_row_128 ?_
          refine lv_iload hx hb dX12_row_131 (lv_at hl 0 rfl) ?_
          obtain ⟨hi133, h⟩ := gd_some h
          refine lI (j := r68.1.toNatClampNeg) hC hw ok185 on185 hi133 rfl dX12_row_133 ?_
          refine lv_goto (tgt := 169) hx hb dX12_row_134 (by decide) ?_
          exact B169 (r68.2.1 185 r68.1.toNatClampNeg) r68.2 _ _ _ hw (lv_sub hl [] rfl) h
      · rw [if_neg hc] at h
        refine lv_aload_n hx hb dX12_row_80 rfl (lv_at hl 1 rfl) ?_
        refine gR (t := 187) hC hw fl_X12_61 ok171 (by decide) ot171_35 dX12_row_81 ?_
        refine lv_bipush (v := (6 : Int32)) hx hb dX12_row_84 (by decide) ?_
        refine lv_iload hx hb dX12_row_86 (lv_at hl 0 rfl) ?_
        refine lv_imul hx hb dX12_row_88 ?_
        refine lv_iload hx hb dX12_row_89 (lv_at hl 5 rfl) ?_
        refine lv_iadd hx hb dX12_row_91 ?_
        refine lv_bipush (v := (10 : Int32)) hx hb dX12_row_92 (by decide) ?_
        refine lv_isub hx hb dX12_row_94 ?_
        obtain ⟨hi95, h⟩ := gd_some h
        refine lI (j := ((((6 : Int32) * r68.1) + v4) - (10 : Int32)).toNatClampNeg) hC hw ok187 on187 hi95 rfl dX12_row_95 ?_
        refine lv_iconst (v := ((-1) : Int32)) hx hb dX12_row_96 (by decide) ?_
        refine lv_icmp_ne (tgt := 106) hx hb dX12_row_97 (by decide) (fun hc => ?_) (fun hc => ?_)
        · rw [if_neg hc] at h
          refine lv_aload_n hx hb dX12_row_106 rfl (lv_at hl 1 rfl) ?_
          refine lv_iload hx hb dX12_row_107 (lv_at hl 0 rfl) ?_
          refine lv_iload hx hb dX12_row_109 (lv_at hl 5 rfl) ?_
          refine lv_bipush (v := (10 : Int32)) hx hb dX12_row_111 (by decide) ?_
          refine lv_isub hx hb dX12_row_113 ?_
          refine lv_aload_n hx hb dX12_row_114 rfl (lv_at hl 1 rfl) ?_
          refine gR (t := 184) hC hw fl_X12_51 ok171 (by decide) ot171_32 dX12_row_115 ?_
          obtain ⟨r118, hr118, h⟩ := bnd h
          refine cV (b := 171) (As := [.int r68.1, .int (v4 - (10 : Int32)), .ref (g.2.2 184)]) (rest := []) (st1 := [.int r118.1]) hC hw (c_X12_worthOf l g n r68.1 (v4 - (10 : Int32)) 184 r68.2 r118 hr118) ml_X12_398 im_X12_worthOf se_X12_worthOf ok171 (CN := RX12) (T := TX12) (NF := 54) rfl rfl (by decide) rfl hl.1 ⟨Nat.le_of_ble_eq_true rfl, Nat.le_of_ble_eq_true rfl⟩ (Nat.le_of_ble_eq_true rfl) ⟨Nat.zero_le _, Nat.zero_le _⟩ rfl dX12_row_118 (fun H locs hw => ?_)
          exact B121 r118.1 r118.2 _ _ _ hw (lv_sub hl [] rfl) h
        · rw [if_pos hc] at h
          refine lv_sipush (v := ((-1000) : Int32)) hx hb dX12_row_100 (by decide) ?_
          refine lv_goto (tgt := 121) hx hb dX12_row_103 (by decide) ?_
          exact B121 ((-1000) : Int32) r68.2 _ _ _ hw (lv_sub hl [] rfl) h
    · rw [if_neg hc] at h
      refine lv_iconst (v := (0 : Int32)) hx hb dX12_row_62 (by decide) ?_
      exact rI hC hw hr hlocks (by rw [← Option.some.inj h]) (by rw [← Option.some.inj h]) dX12_row_63
  refine lv_aload_n hx hb dX12_row_0 rfl (lv_at hl 0 rfl) ?_
  refine lv_iload_n hx hb dX12_row_1 rfl (lv_at hl 1 rfl) ?_
  refine lv_iload_n hx hb dX12_row_2 rfl (lv_at hl 2 rfl) ?_
  refine lv_iload_n hx hb dX12_row_3 rfl (lv_at hl 3 rfl) ?_
  obtain ⟨r4, hr4, h⟩ := bnd h
  refine cV (b := 171) (As := [.int v1, .int v2, .int v3]) (rest := []) (st1 := [.int r4.1]) hC hw (c_X12_valueOf l g n v1 v2 v3 μ r4 hr4) ml_X12_419 im_X12_valueOf se_X12_valueOf ok171 (CN := RX12) (T := TX12) (NF := 54) rfl rfl (by decide) rfl hl.1 ⟨Nat.le_of_ble_eq_true rfl, Nat.le_of_ble_eq_true rfl⟩ (Nat.le_of_ble_eq_true rfl) ⟨Nat.zero_le _, Nat.zero_le _⟩ rfl dX12_row_4 (fun H locs hw => ?_)
  refine lv_pop hx hb dX12_row_7 rfl ?_
  refine lv_aload_n hx hb dX12_row_8 rfl (lv_at hl 0 rfl) ?_
  refine gI hC hw fl_X12_107 ok171 (by decide) dX12_row_9 ?_
  refine lv_if_ne (tgt := 55) hx hb dX12_row_12 (by decide) (fun hc => ?_) (fun hc => ?_)
  · rw [if_neg hc] at h
    exact B55 r4.2 _ _ _ hw (lv_sub hl [0, 1, 2, 3, 4] rfl) h
  · rw [if_pos hc] at h
    refine lv_iload hx hb dX12_row_15 (lv_at hl 4 rfl) ?_
    refine lv_i2l hx hb dX12_row_17 rfl ?_
    refine lv_lconst (v := (0 : Int64)) hx hb dX12_row_18 (by decide) ?_
    refine lv_ldc2 (v := (3 : Int64)) hx hb hC.2.2.2.1 (hC.2.2.2.2.1 _ cl_X12_314) dX12_row_19 ?_
    obtain ⟨r22, hr22, h⟩ := bnd h
    refine cS (As := [.long (v4.toInt64), .long (0 : Int64), .long (3 : Int64)]) (rest := []) (st1 := [.int r22.1]) hC hw (c_X12_within l g n (v4.toInt64) (0 : Int64) (3 : Int64) r4.2 r22 hr22) ml_X12_166 st_X12_within rfl hl.1 ⟨Nat.le_of_ble_eq_true rfl, Nat.le_of_ble_eq_true rfl⟩ (Nat.le_of_ble_eq_true rfl) ⟨Nat.zero_le _, Nat.zero_le _⟩ rfl dX12_row_22 (fun H locs hw => ?_)
    refine lv_if_ne (tgt := 55) hx hb dX12_row_25 (by decide) (fun hc => ?_) (fun hc => ?_)
    · rw [if_neg hc] at h
      exact B55 r22.2 _ _ _ hw (lv_sub hl [0, 1, 2, 3, 4] rfl) h
    · rw [if_pos hc] at h
      refine lv_iload hx hb dX12_row_28 (lv_at hl 4 rfl) ?_
      refine lv_i2l hx hb dX12_row_30 rfl ?_
      refine lv_ldc2 (v := (10 : Int64)) hx hb hC.2.2.2.1 (hC.2.2.2.2.1 _ cl_X12_422) dX12_row_31 ?_
      refine lv_bipush (v := (9 : Int32)) hx hb dX12_row_34 (by decide) ?_
      refine lv_aload_n hx hb dX12_row_36 rfl (lv_at hl 0 rfl) ?_
      refine gR (t := 172) hC hw fl_X12_9 ok171 (by decide) ot171_0 dX12_row_37 ?_
      refine lv_iconst (v := (1 : Int32)) hx hb dX12_row_40 (by decide) ?_
      refine lI (j := 1) hC hw ok172 on172 (vin (by decide)) (by decide) dX12_row_41 ?_
      refine lv_iadd hx hb dX12_row_42 ?_
      refine lv_i2l hx hb dX12_row_43 rfl ?_
      obtain ⟨r44, hr44, h⟩ := bnd h
      refine cS (As := [.long (v4.toInt64), .long (10 : Int64), .long (((9 : Int32) + (r22.2.1 172 1)).toInt64)]) (rest := []) (st1 := [.int r44.1]) hC hw (c_X12_within l g n (v4.toInt64) (10 : Int64) (((9 : Int32) + (r22.2.1 172 1)).toInt64) r22.2 r44 hr44) ml_X12_166 st_X12_within rfl hl.1 ⟨Nat.le_of_ble_eq_true rfl, Nat.le_of_ble_eq_true rfl⟩ (Nat.le_of_ble_eq_true rfl) ⟨Nat.zero_le _, Nat.zero_le _⟩ rfl dX12_row_44 (fun H locs hw => ?_)
      refine lv_if_ne (tgt := 55) hx hb dX12_row_47 (by decide) (fun hc => ?_) (fun hc => ?_)
      · rw [if_neg hc] at h
        exact B55 r44.2 _ _ _ hw (lv_sub hl [0, 1, 2, 3, 4] rfl) h
      · rw [if_pos hc] at h
        refine lv_aload_n hx hb dX12_row_50 rfl (lv_at hl 0 rfl) ?_
        refine lv_iconst (v := (2 : Int32)) hx hb dX12_row_51 (by decide) ?_
        refine pI hC hw fl_X12_107 fp_12_5 ok171 dX12_row_52 (fun H locs hw => ?_)
        exact B55 (si r44.2 171 5 (2 : Int32)) _ _ _ hw (lv_sub hl [0, 1, 2, 3, 4] rfl) h
set_option maxRecDepth 100000 in
set_option maxHeartbeats 4000000 in
theorem c_X12_find (l : Launch) (g : Gw) (n : Nat) (v1 : Int32) (v2 : Int32) (v3 : Int32) (v4 : Int32) (μ : Mu) (r : Int32 × Mu) (h : X12_find n v1 v2 v3 v4 μ = some r) : Ct l g yX12_find cX12_find 7 (some .int) 10 [.ref (g.2.2 171), .int v1, .int v2, .int v3, .int v4] μ (some (.int r.1)) r.2 := by
  rw [X12_find] at h
  refine Ct.of (by decide) (Nat.le_of_ble_eq_true rfl) ?_
  intro p e s m args below meth c ls hC hw hr hlocks hl
  have hx := hC.1
  have hb := hC.2.1
  have hl : lv_has ls 7 [(0, .ref (g.2.2 171)), (1, .int v1), (2, .int v2), (3, .int v3), (4, .int v4)] := hl
  have B60 : ∀ (k : Nat), ∀ (v5 : Int32) (v6 : Int32) (μ : Mu) (H : Heap) (locs : List Loc) (ls : Array Slot), wd g μ s (Aw g s.heap.size) H locs → lv_has ls 7 [(0, .ref (g.2.2 171)), (1, .int v1), (2, .int v2), (3, .int v3), (5, .int v5), (6, .int v6)] → lpF (fun _ _ _ => none) (X12_find_60b n v1 v2 v3 v4) k v5 v6 μ = some r → WQ p l e (rmD 10) s m args below meth c g (some (.int r.1)) r.2 H locs (F0 m 60 ls []) := by
    intro k
    induction k with
    | zero =>
      intro v5 v6 μ H locs ls hw hl h
      cases h
    | succ k ih60 =>
      rw [lpF_s]
      generalize lpF (fun _ _ _ => none) (X12_find_60b n v1 v2 v3 v4) k = k60 at ih60 ⊢
      intro v5 v6 μ H locs ls hw hl h
      have B111 : ∀ (v5 : Int32) (v6 : Int32) (μ : Mu) (H : Heap) (locs : List Loc) (ls : Array Slot), wd g μ s (Aw g s.heap.size) H locs → lv_has ls 7 [(0, .ref (g.2.2 171)), (1, .int v1), (2, .int v2), (3, .int v3), (5, .int v5), (6, .int v6)] → X12_find_111 n v1 v2 v3 v4 k60 v5 v6 μ = some r → WQ p l e (rmD 10) s m args below meth c g (some (.int r.1)) r.2 H locs (F0 m 111 ls []) := by
        intro v5 v6 μ H locs ls hw hl h
        rw [X12_find_111] at h
        refine lv_iinc (v := (v6 + (1 : Int32))) (lv' := [(6, .int (v6 + (1 : Int32))), (0, .ref (g.2.2 171)), (1, .int v1), (2, .int v2), (3, .int v3), (5, .int v5)]) hx hb dX12_find_111 hl (k := 5) rfl rfl (by decide) rfl (fun ls hl => ?_)
        refine lv_goto (tgt := 60) hx hb dX12_find_114 (by decide) ?_
        exact ih60 v5 (v6 + (1 : Int32)) μ _ _ _ hw (lv_sub hl [1, 2, 3, 4, 5, 0] rfl) h
      rw [X12_find_60b] at h
      refine lv_iload hx hb dX12_find_60 (lv_at hl 5 rfl) ?_
      refine lv_aload_n hx hb dX12_find_62 rfl (lv_at hl 0 rfl) ?_
      refine gR (t := 189) hC hw fl_X12_67 ok171 (by decide) ot171_37 dX12_find_63 ?_
      refine lv_iload_n hx hb dX12_find_66 rfl (lv_at hl 2 rfl) ?_
      refine lv_iconst (v := (1 : Int32)) hx hb dX12_find_67 (by decide) ?_
      refine lv_iadd hx hb dX12_find_68 ?_
      obtain ⟨hi69, h⟩ := gd_some h
      refine lI (j := (v2 + (1 : Int32)).toNatClampNeg) hC hw ok189 on189 hi69 rfl dX12_find_69 ?_
      refine lv_aload_n hx hb dX12_find_70 rfl (lv_at hl 0 rfl) ?_
      refine gR (t := 189) hC hw fl_X12_67 ok171 (by decide) ot171_37 dX12_find_71 ?_
      refine lv_iload_n hx hb dX12_find_74 rfl (lv_at hl 2 rfl) ?_
      obtain ⟨hi75, h⟩ := gd_some h
      refine lI (j := v2.toNatClampNeg) hC hw ok189 on189 hi75 rfl dX12_find_75 ?_
      refine lv_isub hx hb dX12_find_76 ?_
      refine lv_icmp_ge (tgt := 117) hx hb dX12_find_77 (by decide) (fun hc => ?_) (fun hc => ?_)
      · rw [if_pos hc] at h
        refine lv_iconst (v := ((-1) : Int32)) hx hb dX12_find_117 (by decide) ?_
        exact rI hC hw hr hlocks (by rw [← Option.some.inj h]) (by rw [← Option.some.inj h]) dX12_find_118
      · rw [if_neg hc] at h
        refine lv_aload_n hx hb dX12_find_80 rfl (lv_at hl 0 rfl) ?_
        refine gR (t := 184) hC hw fl_X12_51 ok171 (by decide) ot171_32 dX12_find_81 ?_
        refine lv_aload_n hx hb dX12_find_84 rfl (lv_at hl 0 rfl) ?_
        refine lv_iload_n hx hb dX12_find_85 rfl (lv_at hl 1 rfl) ?_
        refine lv_iload_n hx hb dX12_find_86 rfl (lv_at hl 2 rfl) ?_
        refine lv_iload hx hb dX12_find_87 (lv_at hl 5 rfl) ?_
        obtain ⟨r89, hr89, h⟩ := bnd h
        refine cV (b := 171) (As := [.int v1, .int v2, .int v6]) (rest := [.ref (g.2.2 184)]) (st1 := [.int r89.1, .ref (g.2.2 184)]) hC hw (c_X12_seat l g n v1 v2 v6 μ r89 hr89) ml_X12_384 im_X12_seat se_X12_seat ok171 (CN := RX12) (T := TX12) (NF := 54) rfl rfl (by decide) rfl hl.1 ⟨Nat.le_of_ble_eq_true rfl, Nat.le_of_ble_eq_true rfl⟩ (Nat.le_of_ble_eq_true rfl) ⟨Nat.zero_le _, Nat.zero_le _⟩ rfl dX12_find_89 (fun H locs hw => ?_)
        obtain ⟨hi92, h⟩ := gd_some h
        refine lI (j := r89.1.toNatClampNeg) hC hw ok184 on184 hi92 rfl dX12_find_92 ?_
        refine lv_iload_n hx hb dX12_find_93 rfl (lv_at hl 3 rfl) ?_
        refine lv_icmp_eq (tgt := 100) hx hb dX12_find_94 (by decide) (fun hc => ?_) (fun hc => ?_)
        · rw [if_pos hc] at h
          refine lv_iload hx hb dX12_find_100 (lv_at hl 4 rfl) ?_
          refine lv_if_ne (tgt := 108) hx hb dX12_find_102 (by decide) (fun hc => ?_) (fun hc => ?_)
          · rw [if_neg hc] at h
            refine lv_iinc (v := (v5 + ((-1) : Int32))) (lv' := [(5, .int (v5 + ((-1) : Int32))), (0, .ref (g.2.2 171)), (1, .int v1), (2, .int v2), (3, .int v3), (6, .int v6)]) hx hb dX12_find_108 hl (k := 4) rfl rfl (by decide) rfl (fun ls hl => ?_)
            exact B111 (v5 + ((-1) : Int32)) v6 r89.2 _ _ _ hw (lv_sub hl [1, 2, 3, 4, 0, 5] rfl) h
          · rw [if_pos hc] at h
            refine lv_iload hx hb dX12_find_105 (lv_at hl 5 rfl) ?_
            exact rI hC hw hr hlocks (by rw [← Option.some.inj h]) (by rw [← Option.some.inj h]) dX12_find_107
        · rw [if_neg hc] at h
          refine lv_goto (tgt := 111) hx hb dX12_find_97 (by decide) ?_
          exact B111 v5 v6 r89.2 _ _ _ hw (lv_sub hl [0, 1, 2, 3, 4, 5] rfl) h
  have B41 : ∀ (s1 : Int32) (μ : Mu) (H : Heap) (locs : List Loc) (ls : Array Slot), wd g μ s (Aw g s.heap.size) H locs → lv_has ls 7 [(0, .ref (g.2.2 171)), (1, .int v1), (2, .int v2), (3, .int v3), (4, .int v4)] → X12_find_41 n v1 v2 v3 v4 s1 μ = some r → WQ p l e (rmD 10) s m args below meth c g (some (.int r.1)) r.2 H locs (F0 m 41 ls [.int s1, .ref (g.2.2 171)]) := by
    intro s1 μ H locs ls hw hl h
    rw [X12_find_41] at h
    refine pI hC hw fl_X12_107 fp_12_5 ok171 dX12_find_41 (fun H locs hw => ?_)
    refine lv_aload_n hx hb dX12_find_44 rfl (lv_at hl 0 rfl) ?_
    refine gI hC hw fl_X12_107 ok171 (by decide) dX12_find_45 ?_
    refine lv_if_le (tgt := 53) hx hb dX12_find_48 (by decide) (fun hc => ?_) (fun hc => ?_)
    · rw [if_pos hc] at h
      refine lv_iload hx hb dX12_find_53 (lv_at hl 4 rfl) ?_
      refine lv_istore (lv' := [(5, .int v4), (0, .ref (g.2.2 171)), (1, .int v1), (2, .int v2), (3, .int v3), (4, .int v4)]) hx hb dX12_find_55 hl (by decide) rfl (fun ls hl => ?_)
      refine lv_iconst (v := (0 : Int32)) hx hb dX12_find_57 (by decide) ?_
      refine lv_istore (lv' := [(6, .int (0 : Int32)), (5, .int v4), (0, .ref (g.2.2 171)), (1, .int v1), (2, .int v2), (3, .int v3), (4, .int v4)]) hx hb dX12_find_58 hl (by decide) rfl (fun ls hl => ?_)
      exact B60 n v4 (0 : Int32) (si μ 171 5 s1) _ _ _ hw (lv_sub hl [2, 3, 4, 5, 1, 0] rfl) h
    · rw [if_neg hc] at h
      refine lv_iconst (v := (0 : Int32)) hx hb dX12_find_51 (by decide) ?_
      exact rI hC hw hr hlocks (by rw [← Option.some.inj h]) (by rw [← Option.some.inj h]) dX12_find_52
  refine lv_aload_n hx hb dX12_find_0 rfl (lv_at hl 0 rfl) ?_
  refine lv_iload_n hx hb dX12_find_1 rfl (lv_at hl 1 rfl) ?_
  obtain ⟨r2, hr2, h⟩ := bnd h
  refine cS (As := [.int v1]) (rest := [.ref (g.2.2 171)]) (st1 := [.int r2.1, .ref (g.2.2 171)]) hC hw (c_X12_isSide l g n v1 μ r2 hr2) ml_X12_254 st_X12_isSide rfl hl.1 ⟨Nat.le_of_ble_eq_true rfl, Nat.le_of_ble_eq_true rfl⟩ (Nat.le_of_ble_eq_true rfl) ⟨Nat.zero_le _, Nat.zero_le _⟩ rfl dX12_find_2 (fun H locs hw => ?_)
  refine lv_if_ne (tgt := 12) hx hb dX12_find_5 (by decide) (fun hc => ?_) (fun hc => ?_)
  · rw [if_neg hc] at h
    refine lv_iload_n hx hb dX12_find_12 rfl (lv_at hl 2 rfl) ?_
    refine lv_i2l hx hb dX12_find_13 rfl ?_
    refine lv_lconst (v := (0 : Int64)) hx hb dX12_find_14 (by decide) ?_
    refine lv_ldc2 (v := (40 : Int64)) hx hb hC.2.2.2.1 (hC.2.2.2.2.1 _ cl_X12_357) dX12_find_15 ?_
    obtain ⟨r18, hr18, h⟩ := bnd h
    refine cS (As := [.long (v2.toInt64), .long (0 : Int64), .long (40 : Int64)]) (rest := [.ref (g.2.2 171)]) (st1 := [.int r18.1, .ref (g.2.2 171)]) hC hw (c_X12_within l g n (v2.toInt64) (0 : Int64) (40 : Int64) r2.2 r18 hr18) ml_X12_166 st_X12_within rfl hl.1 ⟨Nat.le_of_ble_eq_true rfl, Nat.le_of_ble_eq_true rfl⟩ (Nat.le_of_ble_eq_true rfl) ⟨Nat.zero_le _, Nat.zero_le _⟩ rfl dX12_find_18 (fun H locs hw => ?_)
    refine lv_if_ne (tgt := 28) hx hb dX12_find_21 (by decide) (fun hc => ?_) (fun hc => ?_)
    · rw [if_neg hc] at h
      refine lv_aload_n hx hb dX12_find_28 rfl (lv_at hl 0 rfl) ?_
      refine lv_iload_n hx hb dX12_find_29 rfl (lv_at hl 2 rfl) ?_
      obtain ⟨r30, hr30, h⟩ := bnd h
      refine cV (b := 171) (As := [.int v2]) (rest := [.ref (g.2.2 171)]) (st1 := [.int r30.1, .ref (g.2.2 171)]) hC hw (c_X12_solves l g n v2 r18.2 r30 hr30) ml_X12_407 im_X12_solves se_X12_solves ok171 (CN := RX12) (T := TX12) (NF := 54) rfl rfl (by decide) rfl hl.1 ⟨Nat.le_of_ble_eq_true rfl, Nat.le_of_ble_eq_true rfl⟩ (Nat.le_of_ble_eq_true rfl) ⟨Nat.zero_le _, Nat.zero_le _⟩ rfl dX12_find_30 (fun H locs hw => ?_)
      refine lv_if_eq (tgt := 40) hx hb dX12_find_33 (by decide) (fun hc => ?_) (fun hc => ?_)
      · rw [if_pos hc] at h
        refine lv_iconst (v := (3 : Int32)) hx hb dX12_find_40 (by decide) ?_
        exact B41 (3 : Int32) r30.2 _ _ _ hw (lv_sub hl [0, 1, 2, 3, 4] rfl) h
      · rw [if_neg hc] at h
        refine lv_iconst (v := (0 : Int32)) hx hb dX12_find_36 (by decide) ?_
        refine lv_goto (tgt := 41) hx hb dX12_find_37 (by decide) ?_
        exact B41 (0 : Int32) r30.2 _ _ _ hw (lv_sub hl [0, 1, 2, 3, 4] rfl) h
    · rw [if_pos hc] at h
      refine lv_iconst (v := (2 : Int32)) hx hb dX12_find_24 (by decide) ?_
      refine lv_goto (tgt := 41) hx hb dX12_find_25 (by decide) ?_
      exact B41 (2 : Int32) r18.2 _ _ _ hw (lv_sub hl [0, 1, 2, 3, 4] rfl) h
  · rw [if_pos hc] at h
    refine lv_iconst (v := (1 : Int32)) hx hb dX12_find_8 (by decide) ?_
    refine lv_goto (tgt := 41) hx hb dX12_find_9 (by decide) ?_
    exact B41 (1 : Int32) r2.2 _ _ _ hw (lv_sub hl [0, 1, 2, 3, 4] rfl) h
