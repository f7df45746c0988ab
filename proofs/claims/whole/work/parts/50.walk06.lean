set_option maxRecDepth 100000 in
set_option maxHeartbeats 4000000 in
theorem c_X12_scoreNow (l : Launch) (g : Gw) (n : Nat) (μ : Mu) (r : Int32 × Mu) (h : X12_scoreNow n  μ = some r) : Ct l g yX12_scoreNow cX12_scoreNow 3 (some .int) 6 [.ref (g.2.2 171)] μ (some (.int r.1)) r.2 := by
  rw [X12_scoreNow] at h
  refine Ct.of (by decide) (Nat.le_of_ble_eq_true rfl) ?_
  intro p e s m args below meth c ls hC hw hr hlocks hl
  have hx := hC.1
  have hb := hC.2.1
  have hl : lv_has ls 3 [(0, .ref (g.2.2 171))] := hl
  have B27 : ∀ (k : Nat), ∀ (v1 : Int32) (v2 : Int32) (μ : Mu) (H : Heap) (locs : List Loc) (ls : Array Slot), wd g μ s (Aw g s.heap.size) H locs → lv_has ls 3 [(0, .ref (g.2.2 171)), (1, .int v1), (2, .int v2)] → lpF (fun _ _ _ => none) (X12_scoreNow_27b n) k v1 v2 μ = some r → WQ p l e (rmD 6) s m args below meth c g (some (.int r.1)) r.2 H locs (F0 m 27 ls []) := by
    intro k
    induction k with
    | zero =>
      intro v1 v2 μ H locs ls hw hl h
      cases h
    | succ k ih27 =>
      rw [lpF_s]
      generalize lpF (fun _ _ _ => none) (X12_scoreNow_27b n) k = k27 at ih27 ⊢
      intro v1 v2 μ H locs ls hw hl h
      have B66 : ∀ (v2 : Int32) (s0 : Int32) (s1 : Int32) (μ : Mu) (H : Heap) (locs : List Loc) (ls : Array Slot), wd g μ s (Aw g s.heap.size) H locs → lv_has ls 3 [(0, .ref (g.2.2 171)), (2, .int v2)] → X12_scoreNow_66 n k27 v2 s0 s1 μ = some r → WQ p l e (rmD 6) s m args below meth c g (some (.int r.1)) r.2 H locs (F0 m 66 ls [.int s1, .int s0]) := by
        intro v2 s0 s1 μ H locs ls hw hl h
        rw [X12_scoreNow_66] at h
        refine lv_iadd hx hb dX12_scoreNow_66 ?_
        refine lv_istore_n (lv' := [(1, .int (s0 + s1)), (0, .ref (g.2.2 171)), (2, .int v2)]) hx hb dX12_scoreNow_67 rfl hl (by decide) rfl (fun ls hl => ?_)
        refine lv_iinc (v := (v2 + (1 : Int32))) (lv' := [(2, .int (v2 + (1 : Int32))), (1, .int (s0 + s1)), (0, .ref (g.2.2 171))]) hx hb dX12_scoreNow_68 hl (k := 2) rfl rfl (by decide) rfl (fun ls hl => ?_)
        refine lv_goto (tgt := 27) hx hb dX12_scoreNow_71 (by decide) ?_
        exact ih27 (s0 + s1) (v2 + (1 : Int32)) μ _ _ _ hw (lv_sub hl [2, 1, 0] rfl) h
      rw [X12_scoreNow_27b] at h
      refine lv_iload_n hx hb dX12_scoreNow_27 rfl (lv_at hl 2 rfl) ?_
      refine lv_aload_n hx hb dX12_scoreNow_28 rfl (lv_at hl 0 rfl) ?_
      obtain ⟨r29, hr29, h⟩ := bnd h
      refine cV (b := 171) (As := []) (rest := [.int v2]) (st1 := [.int r29.1, .int v2]) hC hw (c_X12_pitMany l g n μ r29 hr29) ml_X12_245 im_X12_pitMany se_X12_pitMany k171 (CN := RX12) (T := TX12) (NF := 54) rfl rfl (by decide) rfl hl.1 ⟨Nat.le_of_ble_eq_true rfl, Nat.le_of_ble_eq_true rfl⟩ (Nat.le_of_ble_eq_true rfl) ⟨Nat.zero_le _, Nat.zero_le _⟩ rfl dX12_scoreNow_29 (fun H locs hw => ?_)
      refine lv_icmp_ge (tgt := 74) hx hb dX12_scoreNow_32 (by decide) (fun hc => ?_) (fun hc => ?_)
      · rw [if_pos hc] at h
        refine lv_iload_n hx hb dX12_scoreNow_74 rfl (lv_at hl 1 rfl) ?_
        exact rI hC hw hr hlocks (by rw [← Option.some.inj h]) (by rw [← Option.some.inj h]) dX12_scoreNow_75
      · rw [if_neg hc] at h
        refine lv_iload_n hx hb dX12_scoreNow_35 rfl (lv_at hl 1 rfl) ?_
        refine lv_aload_n hx hb dX12_scoreNow_36 rfl (lv_at hl 0 rfl) ?_
        refine lv_iload_n hx hb dX12_scoreNow_37 rfl (lv_at hl 2 rfl) ?_
        obtain ⟨r38, hr38, h⟩ := bnd h
        refine cV (b := 171) (As := [.int v2]) (rest := [.int v1]) (st1 := [.int r38.1, .int v1]) hC hw (c_X12_sideOf l g n v2 r29.2 r38 hr38) ml_X12_257 im_X12_sideOf se_X12_sideOf k171 (CN := RX12) (T := TX12) (NF := 54) rfl rfl (by decide) rfl hl.1 ⟨Nat.le_of_ble_eq_true rfl, Nat.le_of_ble_eq_true rfl⟩ (Nat.le_of_ble_eq_true rfl) ⟨Nat.zero_le _, Nat.zero_le _⟩ rfl dX12_scoreNow_38 (fun H locs hw => ?_)
        refine lv_if_ne (tgt := 56) hx hb dX12_scoreNow_41 (by decide) (fun hc => ?_) (fun hc => ?_)
        · rw [if_neg hc] at h
          refine lv_aload_n hx hb dX12_scoreNow_56 rfl (lv_at hl 0 rfl) ?_
          refine gR (t := 172) hC hw fl_X12_9 k171 (by decide) t171_0 dX12_scoreNow_57 ?_
          refine lv_bipush (v := (13 : Int32)) hx hb dX12_scoreNow_60 (by decide) ?_
          refine lv_iload_n hx hb dX12_scoreNow_62 rfl (lv_at hl 2 rfl) ?_
          refine lv_iadd hx hb dX12_scoreNow_63 ?_
          obtain ⟨hi64, h⟩ := gd_some h
          refine lI (j := ((13 : Int32) + v2).toNatClampNeg) hC hw k172 n172 hi64 rfl dX12_scoreNow_64 ?_
          refine lv_ineg hx hb dX12_scoreNow_65 ?_
          exact B66 v2 v1 (-(r38.2.1 172 ((13 : Int32) + v2).toNatClampNeg)) r38.2 _ _ _ hw (lv_sub hl [0, 2] rfl) h
        · rw [if_pos hc] at h
          refine lv_aload_n hx hb dX12_scoreNow_44 rfl (lv_at hl 0 rfl) ?_
          refine gR (t := 172) hC hw fl_X12_9 k171 (by decide) t171_0 dX12_scoreNow_45 ?_
          refine lv_bipush (v := (13 : Int32)) hx hb dX12_scoreNow_48 (by decide) ?_
          refine lv_iload_n hx hb dX12_scoreNow_50 rfl (lv_at hl 2 rfl) ?_
          refine lv_iadd hx hb dX12_scoreNow_51 ?_
          obtain ⟨hi52, h⟩ := gd_some h
          refine lI (j := ((13 : Int32) + v2).toNatClampNeg) hC hw k172 n172 hi52 rfl dX12_scoreNow_52 ?_
          refine lv_goto (tgt := 66) hx hb dX12_scoreNow_53 (by decide) ?_
          exact B66 v2 v1 (r38.2.1 172 ((13 : Int32) + v2).toNatClampNeg) r38.2 _ _ _ hw (lv_sub hl [0, 2] rfl) h
  refine lv_aload_n hx hb dX12_scoreNow_0 rfl (lv_at hl 0 rfl) ?_
  refine gR (t := 172) hC hw fl_X12_9 k171 (by decide) t171_0 dX12_scoreNow_1 ?_
  refine lv_bipush (v := (11 : Int32)) hx hb dX12_scoreNow_4 (by decide) ?_
  refine lI (j := 11) hC hw k172 n172 (vin (by decide)) (by decide) dX12_scoreNow_6 ?_
  refine lv_aload_n hx hb dX12_scoreNow_7 rfl (lv_at hl 0 rfl) ?_
  refine gR (t := 172) hC hw fl_X12_9 k171 (by decide) t171_0 dX12_scoreNow_8 ?_
  refine lv_bipush (v := (12 : Int32)) hx hb dX12_scoreNow_11 (by decide) ?_
  refine lI (j := 12) hC hw k172 n172 (vin (by decide)) (by decide) dX12_scoreNow_13 ?_
  refine lv_isub hx hb dX12_scoreNow_14 ?_
  refine lv_istore_n (lv' := [(1, .int ((μ.1 172 11) - (μ.1 172 12))), (0, .ref (g.2.2 171))]) hx hb dX12_scoreNow_15 rfl hl (by decide) rfl (fun ls hl => ?_)
  refine lv_aload_n hx hb dX12_scoreNow_16 rfl (lv_at hl 1 rfl) ?_
  obtain ⟨r17, hr17, h⟩ := bnd h
  refine cV (b := 171) (As := []) (rest := []) (st1 := [.int r17.1]) hC hw (c_X12_isOver l g n μ r17 hr17) ml_X12_305 im_X12_isOver se_X12_isOver k171 (CN := RX12) (T := TX12) (NF := 54) rfl rfl (by decide) rfl hl.1 ⟨Nat.le_of_ble_eq_true rfl, Nat.le_of_ble_eq_true rfl⟩ (Nat.le_of_ble_eq_true rfl) ⟨Nat.zero_le _, Nat.zero_le _⟩ rfl dX12_scoreNow_17 (fun H locs hw => ?_)
  refine lv_if_ne (tgt := 25) hx hb dX12_scoreNow_20 (by decide) (fun hc => ?_) (fun hc => ?_)
  · rw [if_neg hc] at h
    refine lv_iconst (v := (0 : Int32)) hx hb dX12_scoreNow_25 (by decide) ?_
    refine lv_istore_n (lv' := [(2, .int (0 : Int32)), (1, .int ((μ.1 172 11) - (μ.1 172 12))), (0, .ref (g.2.2 171))]) hx hb dX12_scoreNow_26 rfl hl (by decide) rfl (fun ls hl => ?_)
    exact B27 n ((μ.1 172 11) - (μ.1 172 12)) (0 : Int32) r17.2 _ _ _ hw (lv_sub hl [2, 1, 0] rfl) h
  · rw [if_pos hc] at h
    refine lv_iload_n hx hb dX12_scoreNow_23 rfl (lv_at hl 0 rfl) ?_
    exact rI hC hw hr hlocks (by rw [← Option.some.inj h]) (by rw [← Option.some.inj h]) dX12_scoreNow_24
set_option maxRecDepth 100000 in
set_option maxHeartbeats 4000000 in
theorem c_X12_score (l : Launch) (g : Gw) (n : Nat) (μ : Mu) (r : Int32 × Mu) (h : X12_score n  μ = some r) : Ct l g yX12_score cX12_score 1 (some .int) 7 [.ref (g.2.2 171)] μ (some (.int r.1)) r.2 := by
  rw [X12_score] at h
  refine Ct.of (by decide) (Nat.le_of_ble_eq_true rfl) ?_
  intro p e s m args below meth c ls hC hw hr hlocks hl
  have hx := hC.1
  have hb := hC.2.1
  have hl : lv_has ls 1 [(0, .ref (g.2.2 171))] := hl
  refine lv_aload_n hx hb dX12_score_0 rfl (lv_at hl 0 rfl) ?_
  refine lv_iconst (v := (0 : Int32)) hx hb dX12_score_1 (by decide) ?_
  refine pI hC hw fl_X12_107 fp_12_5 k171 dX12_score_2 (fun H locs hw => ?_)
  refine lv_aload_n hx hb dX12_score_5 rfl (lv_at hl 0 rfl) ?_
  obtain ⟨r6, hr6, h⟩ := bnd h
  refine cV (b := 171) (As := []) (rest := []) (st1 := [.int r6.1]) hC hw (c_X12_scoreNow l g n (si μ 171 5 (0 : Int32)) r6 hr6) ml_X12_316 im_X12_scoreNow se_X12_scoreNow k171 (CN := RX12) (T := TX12) (NF := 54) rfl rfl (by decide) rfl hl.1 ⟨Nat.le_of_ble_eq_true rfl, Nat.le_of_ble_eq_true rfl⟩ (Nat.le_of_ble_eq_true rfl) ⟨Nat.zero_le _, Nat.zero_le _⟩ rfl dX12_score_6 (fun H locs hw => ?_)
  exact rI hC hw hr hlocks (by rw [← Option.some.inj h]) (by rw [← Option.some.inj h]) dX12_score_9
set_option maxRecDepth 100000 in
set_option maxHeartbeats 4000000 in
theorem c_X12_does (l : Launch) (g : Gw) (n : Nat) (v1 : Int32) (μ : Mu) (r : Int32 × Mu) (h : X12_does n v1 μ = some r) : Ct l g yX12_does cX12_does 2 (some .int) 6 [.ref (g.2.2 171), .int v1] μ (some (.int r.1)) r.2 := by
  rw [X12_does] at h
  refine Ct.of (by decide) (Nat.le_of_ble_eq_true rfl) ?_
  intro p e s m args below meth c ls hC hw hr hlocks hl
  have hx := hC.1
  have hb := hC.2.1
  have hl : lv_has ls 2 [(0, .ref (g.2.2 171)), (1, .int v1)] := hl
  refine lv_aload_n hx hb dX12_does_0 rfl (lv_at hl 0 rfl) ?_
  refine lv_iload_n hx hb dX12_does_1 rfl (lv_at hl 1 rfl) ?_
  obtain ⟨r2, hr2, h⟩ := bnd h
  refine cV (b := 171) (As := [.int v1]) (rest := []) (st1 := []) hC hw (c_X12_keeps l g n v1 μ r2 hr2) ml_X12_323 im_X12_keeps se_X12_keeps k171 (CN := RX12) (T := TX12) (NF := 54) rfl rfl (by decide) rfl hl.1 ⟨Nat.le_of_ble_eq_true rfl, Nat.le_of_ble_eq_true rfl⟩ (Nat.le_of_ble_eq_true rfl) ⟨Nat.zero_le _, Nat.zero_le _⟩ rfl dX12_does_2 (fun H locs hw => ?_)
  refine lv_aload_n hx hb dX12_does_5 rfl (lv_at hl 0 rfl) ?_
  refine lv_iconst (v := (0 : Int32)) hx hb dX12_does_6 (by decide) ?_
  refine pI hC hw fl_X12_242 fp_12_29 k171 dX12_does_7 (fun H locs hw => ?_)
  refine lv_aload_n hx hb dX12_does_10 rfl (lv_at hl 0 rfl) ?_
  refine lv_iload_n hx hb dX12_does_11 rfl (lv_at hl 1 rfl) ?_
  obtain ⟨r12, hr12, h⟩ := bnd h
  refine cV (b := 171) (As := [.int v1]) (rest := []) (st1 := [.int r12.1]) hC hw (c_X12_moves l g n v1 (si r2.2 171 29 (0 : Int32)) r12 hr12) ml_X12_326 im_X12_moves se_X12_moves k171 (CN := RX12) (T := TX12) (NF := 54) rfl rfl (by decide) rfl hl.1 ⟨Nat.le_of_ble_eq_true rfl, Nat.le_of_ble_eq_true rfl⟩ (Nat.le_of_ble_eq_true rfl) ⟨Nat.zero_le _, Nat.zero_le _⟩ rfl dX12_does_12 (fun H locs hw => ?_)
  exact rI hC hw hr hlocks (by rw [← Option.some.inj h]) (by rw [← Option.some.inj h]) dX12_does_15
set_option maxRecDepth 100000 in
set_option maxHeartbeats 4000000 in
theorem c_X12_move (l : Launch) (g : Gw) (n : Nat) (v1 : Int32) (μ : Mu) (r : Int32 × Mu) (h : X12_move n v1 μ = some r) : Ct l g yX12_move cX12_move 3 (some .int) 7 [.ref (g.2.2 171), .int v1] μ (some (.int r.1)) r.2 := by
  rw [X12_move] at h
  refine Ct.of (by decide) (Nat.le_of_ble_eq_true rfl) ?_
  intro p e s m args below meth c ls hC hw hr hlocks hl
  have hx := hC.1
  have hb := hC.2.1
  have hl : lv_has ls 3 [(0, .ref (g.2.2 171)), (1, .int v1)] := hl
  have B25 : ∀ (s0 : Int32) (μ : Mu) (H : Heap) (locs : List Loc) (ls : Array Slot), wd g μ s (Aw g s.heap.size) H locs → lv_has ls 3 [] → X12_move_25 n v1 s0 μ = some r → WQ p l e (rmD 7) s m args below meth c g (some (.int r.1)) r.2 H locs (F0 m 25 ls [.int s0]) := by
    intro s0 μ H locs ls hw hl h
    rw [X12_move_25] at h
    exact rI hC hw hr hlocks (by rw [← Option.some.inj h]) (by rw [← Option.some.inj h]) dX12_move_25
  refine lv_aload_n hx hb dX12_move_0 rfl (lv_at hl 0 rfl) ?_
  refine lv_iconst (v := (0 : Int32)) hx hb dX12_move_1 (by decide) ?_
  refine pI hC hw fl_X12_107 fp_12_5 k171 dX12_move_2 (fun H locs hw => ?_)
  refine lv_aload_n hx hb dX12_move_5 rfl (lv_at hl 0 rfl) ?_
  refine lv_iload_n hx hb dX12_move_6 rfl (lv_at hl 1 rfl) ?_
  obtain ⟨r7, hr7, h⟩ := bnd h
  refine cV (b := 171) (As := [.int v1]) (rest := []) (st1 := [.int r7.1]) hC hw (c_X12_whyNot l g n v1 (si μ 171 5 (0 : Int32)) r7 hr7) ml_X12_311 im_X12_whyNot se_X12_whyNot k171 (CN := RX12) (T := TX12) (NF := 54) rfl rfl (by decide) rfl hl.1 ⟨Nat.le_of_ble_eq_true rfl, Nat.le_of_ble_eq_true rfl⟩ (Nat.le_of_ble_eq_true rfl) ⟨Nat.zero_le _, Nat.zero_le _⟩ rfl dX12_move_7 (fun H locs hw => ?_)
  refine lv_istore_n (lv' := [(2, .int r7.1), (0, .ref (g.2.2 171)), (1, .int v1)]) hx hb dX12_move_10 rfl hl (by decide) rfl (fun ls hl => ?_)
  refine lv_iload_n hx hb dX12_move_11 rfl (lv_at hl 0 rfl) ?_
  refine lv_if_ne (tgt := 23) hx hb dX12_move_12 (by decide) (fun hc => ?_) (fun hc => ?_)
  · rw [if_neg hc] at h
    refine lv_iload_n hx hb dX12_move_23 rfl (lv_at hl 0 rfl) ?_
    refine lv_ineg hx hb dX12_move_24 ?_
    exact B25 (-r7.1) r7.2 _ _ _ hw (lv_sub hl [] rfl) h
  · rw [if_pos hc] at h
    refine lv_aload_n hx hb dX12_move_15 rfl (lv_at hl 1 rfl) ?_
    refine lv_iload_n hx hb dX12_move_16 rfl (lv_at hl 2 rfl) ?_
    obtain ⟨r17, hr17, h⟩ := bnd h
    refine cV (b := 171) (As := [.int v1]) (rest := []) (st1 := [.int r17.1]) hC hw (c_X12_does l g n v1 r7.2 r17 hr17) ml_X12_329 im_X12_does se_X12_does k171 (CN := RX12) (T := TX12) (NF := 54) rfl rfl (by decide) rfl hl.1 ⟨Nat.le_of_ble_eq_true rfl, Nat.le_of_ble_eq_true rfl⟩ (Nat.le_of_ble_eq_true rfl) ⟨Nat.zero_le _, Nat.zero_le _⟩ rfl dX12_move_17 (fun H locs hw => ?_)
    refine lv_goto (tgt := 25) hx hb dX12_move_20 (by decide) ?_
    exact B25 r17.1 r17.2 _ _ _ hw (lv_sub hl [] rfl) h
set_option maxRecDepth 100000 in
set_option maxHeartbeats 4000000 in
theorem c_X12_whyTold (l : Launch) (g : Gw) (n : Nat) (v1 : Int64) (μ : Mu) (r : Int32 × Mu) (h : X12_whyTold n v1 μ = some r) : Ct l g yX12_whyTold cX12_whyTold 3 (some .int) 7 [.ref (g.2.2 171), .long v1] μ (some (.int r.1)) r.2 := by
  rw [X12_whyTold] at h
  refine Ct.of (by decide) (Nat.le_of_ble_eq_true rfl) ?_
  intro p e s m args below meth c ls hC hw hr hlocks hl
  have hx := hC.1
  have hb := hC.2.1
  have hl : lv_has ls 3 [(0, .ref (g.2.2 171)), (1, .long v1)] := hl
  have B18 : ∀ (s1 : Int32) (μ : Mu) (H : Heap) (locs : List Loc) (ls : Array Slot), wd g μ s (Aw g s.heap.size) H locs → lv_has ls 3 [] → X12_whyTold_18 n v1 s1 μ = some r → WQ p l e (rmD 7) s m args below meth c g (some (.int r.1)) r.2 H locs (F0 m 18 ls [.int s1, .ref (g.2.2 171)]) := by
    intro s1 μ H locs ls hw hl h
    rw [X12_whyTold_18] at h
    obtain ⟨r18, hr18, h⟩ := bnd h
    refine cV (b := 171) (As := [.int s1]) (rest := []) (st1 := [.int r18.1]) hC hw (c_X12_whyNot l g n s1 μ r18 hr18) ml_X12_311 im_X12_whyNot se_X12_whyNot k171 (CN := RX12) (T := TX12) (NF := 54) rfl rfl (by decide) rfl hl.1 ⟨Nat.le_of_ble_eq_true rfl, Nat.le_of_ble_eq_true rfl⟩ (Nat.le_of_ble_eq_true rfl) ⟨Nat.zero_le _, Nat.zero_le _⟩ rfl dX12_whyTold_18 (fun H locs hw => ?_)
    exact rI hC hw hr hlocks (by rw [← Option.some.inj h]) (by rw [← Option.some.inj h]) dX12_whyTold_21
  refine lv_aload_n hx hb dX12_whyTold_0 rfl (lv_at hl 0 rfl) ?_
  refine lv_lload_n hx hb dX12_whyTold_1 rfl (lv_at hl 1 rfl) ?_
  refine lv_lconst (v := (0 : Int64)) hx hb dX12_whyTold_2 (by decide) ?_
  refine lv_ldc2 (v := (12 : Int64)) hx hb hC.2.2.2.1 (hC.2.2.2.2.1 _ cl_X12_338) dX12_whyTold_3 ?_
  obtain ⟨r6, hr6, h⟩ := bnd h
  refine cS (As := [.long v1, .long (0 : Int64), .long (12 : Int64)]) (rest := [.ref (g.2.2 171)]) (st1 := [.int r6.1, .ref (g.2.2 171)]) hC hw (c_X12_within l g n v1 (0 : Int64) (12 : Int64) μ r6 hr6) ml_X12_166 st_X12_within rfl hl.1 ⟨Nat.le_of_ble_eq_true rfl, Nat.le_of_ble_eq_true rfl⟩ (Nat.le_of_ble_eq_true rfl) ⟨Nat.zero_le _, Nat.zero_le _⟩ rfl dX12_whyTold_6 (fun H locs hw => ?_)
  refine lv_if_eq (tgt := 17) hx hb dX12_whyTold_9 (by decide) (fun hc => ?_) (fun hc => ?_)
  · rw [if_pos hc] at h
    refine lv_iconst (v := ((-1) : Int32)) hx hb dX12_whyTold_17 (by decide) ?_
    exact B18 ((-1) : Int32) r6.2 _ _ _ hw (lv_sub hl [] rfl) h
  · rw [if_neg hc] at h
    refine lv_lload_n hx hb dX12_whyTold_12 rfl (lv_at hl 1 rfl) ?_
    refine lv_l2i hx hb dX12_whyTold_13 rfl ?_
    refine lv_goto (tgt := 18) hx hb dX12_whyTold_14 (by decide) ?_
    exact B18 (v1.toInt32) r6.2 _ _ _ hw (lv_sub hl [] rfl) h
set_option maxRecDepth 100000 in
set_option maxHeartbeats 4000000 in
theorem c_X12_judge (l : Launch) (g : Gw) (n : Nat) (v1 : Int32) (v2 : Int32) (μ : Mu) (r : Int32 × Mu) (h : X12_judge n v1 v2 μ = some r) : Ct l g yX12_judge cX12_judge 7 (some .int) 8 [.ref (g.2.2 171), .int v1, .int v2] μ (some (.int r.1)) r.2 := by
  rw [X12_judge] at h
  refine Ct.of (by decide) (Nat.le_of_ble_eq_true rfl) ?_
  intro p e s m args below meth c ls hC hw hr hlocks hl
  have hx := hC.1
  have hb := hC.2.1
  have hl : lv_has ls 7 [(0, .ref (g.2.2 171)), (1, .int v1), (2, .int v2)] := hl
  have B182 : ∀ (s0 : Int32) (μ : Mu) (H : Heap) (locs : List Loc) (ls : Array Slot), wd g μ s (Aw g s.heap.size) H locs → lv_has ls 7 [] → X12_judge_182 n v1 v2 s0 μ = some r → WQ p l e (rmD 8) s m args below meth c g (some (.int r.1)) r.2 H locs (F0 m 182 ls [.int s0]) := by
    intro s0 μ H locs ls hw hl h
    rw [X12_judge_182] at h
    exact rI hC hw hr hlocks (by rw [← Option.some.inj h]) (by rw [← Option.some.inj h]) dX12_judge_182
  have B118 : ∀ (v3 : Int32) (v4 : Int32) (μ : Mu) (H : Heap) (locs : List Loc) (ls : Array Slot), wd g μ s (Aw g s.heap.size) H locs → lv_has ls 7 [(0, .ref (g.2.2 171)), (2, .int v2), (3, .int v3), (4, .int v4)] → X12_judge_118 n v1 v2 v3 v4 μ = some r → WQ p l e (rmD 8) s m args below meth c g (some (.int r.1)) r.2 H locs (F0 m 118 ls []) := by
    intro v3 v4 μ H locs ls hw hl h
    rw [X12_judge_118] at h
    refine lv_aload_n hx hb dX12_judge_118 rfl (lv_at hl 0 rfl) ?_
    obtain ⟨r119, hr119, h⟩ := bnd h
    refine cV (b := 171) (As := []) (rest := []) (st1 := [.int r119.1]) hC hw (c_X12_scoreNow l g n μ r119 hr119) ml_X12_316 im_X12_scoreNow se_X12_scoreNow k171 (CN := RX12) (T := TX12) (NF := 54) rfl rfl (by decide) rfl hl.1 ⟨Nat.le_of_ble_eq_true rfl, Nat.le_of_ble_eq_true rfl⟩ (Nat.le_of_ble_eq_true rfl) ⟨Nat.zero_le _, Nat.zero_le _⟩ rfl dX12_judge_119 (fun H locs hw => ?_)
    refine lv_istore (lv' := [(5, .int r119.1), (0, .ref (g.2.2 171)), (2, .int v2), (3, .int v3), (4, .int v4)]) hx hb dX12_judge_122 hl (by decide) rfl (fun ls hl => ?_)
    refine lv_aload_n hx hb dX12_judge_124 rfl (lv_at hl 1 rfl) ?_
    refine gR (t := 172) hC hw fl_X12_9 k171 (by decide) t171_0 dX12_judge_125 ?_
    refine lv_iconst (v := (2 : Int32)) hx hb dX12_judge_128 (by decide) ?_
    refine lI (j := 2) hC hw k172 n172 (vin (by decide)) (by decide) dX12_judge_129 ?_
    refine lv_istore (lv' := [(6, .int (r119.2.1 172 2)), (5, .int r119.1), (0, .ref (g.2.2 171)), (2, .int v2), (3, .int v3), (4, .int v4)]) hx hb dX12_judge_130 hl (by decide) rfl (fun ls hl => ?_)
    refine lv_aload_n hx hb dX12_judge_132 rfl (lv_at hl 2 rfl) ?_
    refine gR (t := 175) hC hw fl_X12_19 k171 (by decide) t171_3 dX12_judge_133 ?_
    refine lv_aload_n hx hb dX12_judge_136 rfl (lv_at hl 2 rfl) ?_
    refine gR (t := 172) hC hw fl_X12_9 k171 (by decide) t171_0 dX12_judge_137 ?_
    obtain ⟨r140, hr140, h⟩ := bnd h
    refine cS (As := [.ref (g.2.2 175), .ref (g.2.2 172)]) (rest := []) (st1 := []) hC hw (c_X12_copies l g n 175 172 r119.2 r140 hr140) ml_X12_235 st_X12_copies rfl hl.1 ⟨Nat.le_of_ble_eq_true rfl, Nat.le_of_ble_eq_true rfl⟩ (Nat.le_of_ble_eq_true rfl) ⟨Nat.zero_le _, Nat.zero_le _⟩ rfl dX12_judge_140 (fun H locs hw => ?_)
    refine lv_iload_n hx hb dX12_judge_143 rfl (lv_at hl 3 rfl) ?_
    refine lv_if_ne (tgt := 160) hx hb dX12_judge_144 (by decide) (fun hc => ?_) (fun hc => ?_)
    · rw [if_neg hc] at h
      refine lv_iload_n hx hb dX12_judge_160 rfl (lv_at hl 3 rfl) ?_
      refine lv_iconst (v := (1 : Int32)) hx hb dX12_judge_161 (by decide) ?_
      refine lv_icmp_ne (tgt := 170) hx hb dX12_judge_162 (by decide) (fun hc => ?_) (fun hc => ?_)
      · rw [if_neg hc] at h
        refine lv_iload_n hx hb dX12_judge_170 rfl (lv_at hl 3 rfl) ?_
        refine lv_iconst (v := (2 : Int32)) hx hb dX12_judge_171 (by decide) ?_
        refine lv_icmp_ne (tgt := 180) hx hb dX12_judge_172 (by decide) (fun hc => ?_) (fun hc => ?_)
        · rw [if_neg hc] at h
          refine lv_iload hx hb dX12_judge_180 (lv_at hl 0 rfl) ?_
          exact B182 (r119.2.1 172 2) r140.2 _ _ _ hw (lv_sub hl [] rfl) h
        · rw [if_pos hc] at h
          refine lv_iload hx hb dX12_judge_175 (lv_at hl 1 rfl) ?_
          refine lv_goto (tgt := 182) hx hb dX12_judge_177 (by decide) ?_
          exact B182 r119.1 r140.2 _ _ _ hw (lv_sub hl [] rfl) h
      · rw [if_pos hc] at h
        refine lv_iload hx hb dX12_judge_165 (lv_at hl 5 rfl) ?_
        refine lv_goto (tgt := 182) hx hb dX12_judge_167 (by decide) ?_
        exact B182 v4 r140.2 _ _ _ hw (lv_sub hl [] rfl) h
    · rw [if_pos hc] at h
      refine lv_iload hx hb dX12_judge_147 (lv_at hl 5 rfl) ?_
      refine lv_if_ne (tgt := 156) hx hb dX12_judge_149 (by decide) (fun hc => ?_) (fun hc => ?_)
      · rw [if_neg hc] at h
        refine lv_iload_n hx hb dX12_judge_156 rfl (lv_at hl 4 rfl) ?_
        refine lv_goto (tgt := 182) hx hb dX12_judge_157 (by decide) ?_
        exact B182 v3 r140.2 _ _ _ hw (lv_sub hl [] rfl) h
      · rw [if_pos hc] at h
        refine lv_iconst (v := ((-1) : Int32)) hx hb dX12_judge_152 (by decide) ?_
        refine lv_goto (tgt := 182) hx hb dX12_judge_153 (by decide) ?_
        exact B182 ((-1) : Int32) r140.2 _ _ _ hw (lv_sub hl [] rfl) h
  have B58 : ∀ (k : Nat), ∀ (v3 : Int32) (v4 : Int32) (μ : Mu) (H : Heap) (locs : List Loc) (ls : Array Slot), wd g μ s (Aw g s.heap.size) H locs → lv_has ls 7 [(0, .ref (g.2.2 171)), (1, .int v1), (2, .int v2), (3, .int v3), (4, .int v4)] → lpF (fun _ _ _ => none) (X12_judge_58b n v1 v2) k v3 v4 μ = some r → WQ p l e (rmD 8) s m args below meth c g (some (.int r.1)) r.2 H locs (F0 m 58 ls []) := by
    intro k
    induction k with
    | zero =>
      intro v3 v4 μ H locs ls hw hl h
      cases h
    | succ k ih58 =>
      rw [lpF_s]
      generalize lpF (fun _ _ _ => none) (X12_judge_58b n v1 v2) k = k58 at ih58 ⊢
      intro v3 v4 μ H locs ls hw hl h
      rw [X12_judge_58b] at h
      refine lv_iload_n hx hb dX12_judge_58 rfl (lv_at hl 3 rfl) ?_
      refine lv_aload_n hx hb dX12_judge_59 rfl (lv_at hl 0 rfl) ?_
      refine gR (t := 199) hC hw fl_X12_100 k171 (by decide) t171_52 dX12_judge_60 ?_
      refine lv_iload_n hx hb dX12_judge_63 rfl (lv_at hl 1 rfl) ?_
      obtain ⟨hi64, h⟩ := gd_some h
      refine lI (j := v1.toNatClampNeg) hC hw k199 n199 hi64 rfl dX12_judge_64 ?_
      refine lv_icmp_ge (tgt := 118) hx hb dX12_judge_65 (by decide) (fun hc => ?_) (fun hc => ?_)
      · rw [if_pos hc] at h
        exact B118 v3 v4 μ _ _ _ hw (lv_sub hl [0, 2, 3, 4] rfl) h
      · rw [if_neg hc] at h
        refine lv_iload hx hb dX12_judge_68 (lv_at hl 4 rfl) ?_
        refine lv_if_ne (tgt := 118) hx hb dX12_judge_70 (by decide) (fun hc => ?_) (fun hc => ?_)
        · rw [if_neg hc] at h
          exact B118 v3 v4 μ _ _ _ hw (lv_sub hl [0, 2, 3, 4] rfl) h
        · rw [if_pos hc] at h
          refine lv_aload_n hx hb dX12_judge_73 rfl (lv_at hl 0 rfl) ?_
          refine lv_aload_n hx hb dX12_judge_74 rfl (lv_at hl 0 rfl) ?_
          refine gR (t := 200) hC hw fl_X12_103 k171 (by decide) t171_53 dX12_judge_75 ?_
          refine lv_bipush (v := (40 : Int32)) hx hb dX12_judge_78 (by decide) ?_
          refine lv_iload_n hx hb dX12_judge_80 rfl (lv_at hl 1 rfl) ?_
          refine lv_imul hx hb dX12_judge_81 ?_
          refine lv_iload_n hx hb dX12_judge_82 rfl (lv_at hl 3 rfl) ?_
          refine lv_iadd hx hb dX12_judge_83 ?_
          obtain ⟨hi84, h⟩ := gd_some h
          refine lJ (j := (((40 : Int32) * v1) + v3).toNatClampNeg) hC hw k200 n200 hi84 rfl dX12_judge_84 ?_
          obtain ⟨r85, hr85, h⟩ := bnd h
          refine cV (b := 171) (As := [.long (μ.2 200 (((40 : Int32) * v1) + v3).toNatClampNeg)]) (rest := []) (st1 := [.int r85.1]) hC hw (c_X12_whyTold l g n (μ.2 200 (((40 : Int32) * v1) + v3).toNatClampNeg) μ r85 hr85) ml_X12_343 im_X12_whyTold se_X12_whyTold k171 (CN := RX12) (T := TX12) (NF := 54) rfl rfl (by decide) rfl hl.1 ⟨Nat.le_of_ble_eq_true rfl, Nat.le_of_ble_eq_true rfl⟩ (Nat.le_of_ble_eq_true rfl) ⟨Nat.zero_le _, Nat.zero_le _⟩ rfl dX12_judge_85 (fun H locs hw => ?_)
          refine lv_istore (lv' := [(4, .int r85.1), (0, .ref (g.2.2 171)), (1, .int v1), (2, .int v2), (3, .int v3)]) hx hb dX12_judge_88 hl (by decide) rfl (fun ls hl => ?_)
          refine lv_iload hx hb dX12_judge_90 (lv_at hl 0 rfl) ?_
          refine lv_if_ne (tgt := 58) hx hb dX12_judge_92 (by decide) (fun hc => ?_) (fun hc => ?_)
          · rw [if_neg hc] at h
            exact ih58 v3 r85.1 r85.2 _ _ _ hw (lv_sub hl [1, 2, 3, 4, 0] rfl) h
          · rw [if_pos hc] at h
            refine lv_aload_n hx hb dX12_judge_95 rfl (lv_at hl 1 rfl) ?_
            refine lv_aload_n hx hb dX12_judge_96 rfl (lv_at hl 1 rfl) ?_
            refine gR (t := 200) hC hw fl_X12_103 k171 (by decide) t171_53 dX12_judge_97 ?_
            refine lv_bipush (v := (40 : Int32)) hx hb dX12_judge_100 (by decide) ?_
            refine lv_iload_n hx hb dX12_judge_102 rfl (lv_at hl 2 rfl) ?_
            refine lv_imul hx hb dX12_judge_103 ?_
            refine lv_iload_n hx hb dX12_judge_104 rfl (lv_at hl 4 rfl) ?_
            refine lv_iadd hx hb dX12_judge_105 ?_
            refine lJ (j := (((40 : Int32) * v1) + v3).toNatClampNeg) hC hw k200 n200 hi84 rfl dX12_judge_106 ?_
            refine lv_l2i hx hb dX12_judge_107 rfl ?_
            obtain ⟨r108, hr108, h⟩ := bnd h
            refine cV (b := 171) (As := [.int ((r85.2.2 200 (((40 : Int32) * v1) + v3).toNatClampNeg).toInt32)]) (rest := []) (st1 := [.int r108.1]) hC hw (c_X12_moves l g n ((r85.2.2 200 (((40 : Int32) * v1) + v3).toNatClampNeg).toInt32) r85.2 r108 hr108) ml_X12_326 im_X12_moves se_X12_moves k171 (CN := RX12) (T := TX12) (NF := 54) rfl rfl (by decide) rfl hl.1 ⟨Nat.le_of_ble_eq_true rfl, Nat.le_of_ble_eq_true rfl⟩ (Nat.le_of_ble_eq_true rfl) ⟨Nat.zero_le _, Nat.zero_le _⟩ rfl dX12_judge_108 (fun H locs hw => ?_)
            refine lv_pop hx hb dX12_judge_111 rfl ?_
            refine lv_iinc (v := (v3 + (1 : Int32))) (lv' := [(3, .int (v3 + (1 : Int32))), (4, .int r85.1), (0, .ref (g.2.2 171)), (1, .int v1), (2, .int v2)]) hx hb dX12_judge_112 hl (k := 4) rfl rfl (by decide) rfl (fun ls hl => ?_)
            refine lv_goto (tgt := 58) hx hb dX12_judge_115 (by decide) ?_
            exact ih58 (v3 + (1 : Int32)) r85.1 r108.2 _ _ _ hw (lv_sub hl [2, 3, 4, 0, 1] rfl) h
  have B33 : ∀ (μ : Mu) (H : Heap) (locs : List Loc) (ls : Array Slot), wd g μ s (Aw g s.heap.size) H locs → lv_has ls 7 [(0, .ref (g.2.2 171)), (1, .int v1), (2, .int v2)] → X12_judge_33 n v1 v2  μ = some r → WQ p l e (rmD 8) s m args below meth c g (some (.int r.1)) r.2 H locs (F0 m 33 ls []) := by
    intro μ H locs ls hw hl h
    rw [X12_judge_33] at h
    refine lv_aload_n hx hb dX12_judge_33 rfl (lv_at hl 0 rfl) ?_
    refine gI hC hw fl_X12_107 k171 (by decide) dX12_judge_34 ?_
    refine lv_if_le (tgt := 42) hx hb dX12_judge_37 (by decide) (fun hc => ?_) (fun hc => ?_)
    · rw [if_pos hc] at h
      refine lv_aload_n hx hb dX12_judge_42 rfl (lv_at hl 0 rfl) ?_
      refine gR (t := 172) hC hw fl_X12_9 k171 (by decide) t171_0 dX12_judge_43 ?_
      refine lv_aload_n hx hb dX12_judge_46 rfl (lv_at hl 0 rfl) ?_
      refine gR (t := 175) hC hw fl_X12_19 k171 (by decide) t171_3 dX12_judge_47 ?_
      obtain ⟨r50, hr50, h⟩ := bnd h
      refine cS (As := [.ref (g.2.2 172), .ref (g.2.2 175)]) (rest := []) (st1 := []) hC hw (c_X12_copies l g n 172 175 μ r50 hr50) ml_X12_235 st_X12_copies rfl hl.1 ⟨Nat.le_of_ble_eq_true rfl, Nat.le_of_ble_eq_true rfl⟩ (Nat.le_of_ble_eq_true rfl) ⟨Nat.zero_le _, Nat.zero_le _⟩ rfl dX12_judge_50 (fun H locs hw => ?_)
      refine lv_iconst (v := (0 : Int32)) hx hb dX12_judge_53 (by decide) ?_
      refine lv_istore_n (lv' := [(3, .int (0 : Int32)), (0, .ref (g.2.2 171)), (1, .int v1), (2, .int v2)]) hx hb dX12_judge_54 rfl hl (by decide) rfl (fun ls hl => ?_)
      refine lv_iconst (v := (0 : Int32)) hx hb dX12_judge_55 (by decide) ?_
      refine lv_istore (lv' := [(4, .int (0 : Int32)), (3, .int (0 : Int32)), (0, .ref (g.2.2 171)), (1, .int v1), (2, .int v2)]) hx hb dX12_judge_56 hl (by decide) rfl (fun ls hl => ?_)
      exact B58 n (0 : Int32) (0 : Int32) r50.2 _ _ _ hw (lv_sub hl [2, 3, 4, 1, 0] rfl) h
    · rw [if_neg hc] at h
      refine lv_iconst (v := (0 : Int32)) hx hb dX12_judge_40 (by decide) ?_
      exact rI hC hw hr hlocks (by rw [← Option.some.inj h]) (by rw [← Option.some.inj h]) dX12_judge_41
  refine lv_aload_n hx hb dX12_judge_0 rfl (lv_at hl 0 rfl) ?_
  refine lv_aload_n hx hb dX12_judge_1 rfl (lv_at hl 0 rfl) ?_
  refine lv_iload_n hx hb dX12_judge_2 rfl (lv_at hl 1 rfl) ?_
  obtain ⟨r3, hr3, h⟩ := bnd h
  refine cV (b := 171) (As := [.int v1]) (rest := [.ref (g.2.2 171)]) (st1 := [.int r3.1, .ref (g.2.2 171)]) hC hw (c_X12_trayFault l g n v1 μ r3 hr3) ml_X12_340 im_X12_trayFault se_X12_trayFault k171 (CN := RX12) (T := TX12) (NF := 54) rfl rfl (by decide) rfl hl.1 ⟨Nat.le_of_ble_eq_true rfl, Nat.le_of_ble_eq_true rfl⟩ (Nat.le_of_ble_eq_true rfl) ⟨Nat.zero_le _, Nat.zero_le _⟩ rfl dX12_judge_3 (fun H locs hw => ?_)
  refine pI hC hw fl_X12_107 fp_12_5 k171 dX12_judge_6 (fun H locs hw => ?_)
  refine lv_aload_n hx hb dX12_judge_9 rfl (lv_at hl 0 rfl) ?_
  refine gI hC hw fl_X12_107 k171 (by decide) dX12_judge_10 ?_
  refine lv_if_ne (tgt := 33) hx hb dX12_judge_13 (by decide) (fun hc => ?_) (fun hc => ?_)
  · rw [if_neg hc] at h
    exact B33 (si r3.2 171 5 r3.1) _ _ _ hw (lv_sub hl [0, 1, 2] rfl) h
  · rw [if_pos hc] at h
    refine lv_iload_n hx hb dX12_judge_16 rfl (lv_at hl 2 rfl) ?_
    refine lv_i2l hx hb dX12_judge_17 rfl ?_
    refine lv_lconst (v := (0 : Int64)) hx hb dX12_judge_18 (by decide) ?_
    refine lv_ldc2 (v := (3 : Int64)) hx hb hC.2.2.2.1 (hC.2.2.2.2.1 _ cl_X12_314) dX12_judge_19 ?_
    obtain ⟨r22, hr22, h⟩ := bnd h
    refine cS (As := [.long (v2.toInt64), .long (0 : Int64), .long (3 : Int64)]) (rest := []) (st1 := [.int r22.1]) hC hw (c_X12_within l g n (v2.toInt64) (0 : Int64) (3 : Int64) (si r3.2 171 5 r3.1) r22 hr22) ml_X12_166 st_X12_within rfl hl.1 ⟨Nat.le_of_ble_eq_true rfl, Nat.le_of_ble_eq_true rfl⟩ (Nat.le_of_ble_eq_true rfl) ⟨Nat.zero_le _, Nat.zero_le _⟩ rfl dX12_judge_22 (fun H locs hw => ?_)
    refine lv_if_ne (tgt := 33) hx hb dX12_judge_25 (by decide) (fun hc => ?_) (fun hc => ?_)
    · rw [if_neg hc] at h
      exact B33 r22.2 _ _ _ hw (lv_sub hl [0, 1, 2] rfl) h
    · rw [if_pos hc] at h
      refine lv_aload_n hx hb dX12_judge_28 rfl (lv_at hl 0 rfl) ?_
      refine lv_iconst (v := (3 : Int32)) hx hb dX12_judge_29 (by decide) ?_
      refine pI hC hw fl_X12_107 fp_12_5 k171 dX12_judge_30 (fun H locs hw => ?_)
      exact B33 (si r22.2 171 5 (3 : Int32)) _ _ _ hw (lv_sub hl [0, 1, 2] rfl) h
set_option maxRecDepth 100000 in
set_option maxHeartbeats 4000000 in
theorem c_X12_perform (l : Launch) (g : Gw) (n : Nat) (v1 : Int32) (μ : Mu) (r : Int32 × Mu) (h : X12_perform n v1 μ = some r) : Ct l g yX12_perform cX12_perform 3 (some .int) 8 [.ref (g.2.2 171), .int v1] μ (some (.int r.1)) r.2 := by
  rw [X12_perform] at h
  refine Ct.of (by decide) (Nat.le_of_ble_eq_true rfl) ?_
  intro p e s m args below meth c ls hC hw hr hlocks hl
  have hx := hC.1
  have hb := hC.2.1
  have hl : lv_has ls 3 [(0, .ref (g.2.2 171)), (1, .int v1)] := hl
  have B71 : ∀ (v2 : Int32) (μ : Mu) (H : Heap) (locs : List Loc) (ls : Array Slot), wd g μ s (Aw g s.heap.size) H locs → lv_has ls 3 [(2, .int v2)] → X12_perform_71 n v1 v2 μ = some r → WQ p l e (rmD 8) s m args below meth c g (some (.int r.1)) r.2 H locs (F0 m 71 ls []) := by
    intro v2 μ H locs ls hw hl h
    rw [X12_perform_71] at h
    refine lv_iload_n hx hb dX12_perform_71 rfl (lv_at hl 0 rfl) ?_
    exact rI hC hw hr hlocks (by rw [← Option.some.inj h]) (by rw [← Option.some.inj h]) dX12_perform_72
  have B20 : ∀ (k : Nat), ∀ (v2 : Int32) (μ : Mu) (H : Heap) (locs : List Loc) (ls : Array Slot), wd g μ s (Aw g s.heap.size) H locs → lv_has ls 3 [(0, .ref (g.2.2 171)), (1, .int v1), (2, .int v2)] → lpF (fun _ _ => none) (X12_perform_20b n v1) k v2 μ = some r → WQ p l e (rmD 8) s m args below meth c g (some (.int r.1)) r.2 H locs (F0 m 20 ls []) := by
    intro k
    induction k with
    | zero =>
      intro v2 μ H locs ls hw hl h
      cases h
    | succ k ih20 =>
      rw [lpF_s]
      generalize lpF (fun _ _ => none) (X12_perform_20b n v1) k = k20 at ih20 ⊢
      intro v2 μ H locs ls hw hl h
      rw [X12_perform_20b] at h
      refine lv_iload_n hx hb dX12_perform_20 rfl (lv_at hl 2 rfl) ?_
      refine lv_aload_n hx hb dX12_perform_21 rfl (lv_at hl 0 rfl) ?_
      refine gR (t := 199) hC hw fl_X12_100 k171 (by decide) t171_52 dX12_perform_22 ?_
      refine lv_iload_n hx hb dX12_perform_25 rfl (lv_at hl 1 rfl) ?_
      obtain ⟨hi26, h⟩ := gd_some h
      refine lI (j := v1.toNatClampNeg) hC hw k199 n199 hi26 rfl dX12_perform_26 ?_
      refine lv_icmp_ge (tgt := 71) hx hb dX12_perform_27 (by decide) (fun hc => ?_) (fun hc => ?_)
      · rw [if_pos hc] at h
        exact B71 v2 μ _ _ _ hw (lv_sub hl [2] rfl) h
      · rw [if_neg hc] at h
        refine lv_aload_n hx hb dX12_perform_30 rfl (lv_at hl 0 rfl) ?_
        refine lv_aload_n hx hb dX12_perform_31 rfl (lv_at hl 0 rfl) ?_
        refine gR (t := 200) hC hw fl_X12_103 k171 (by decide) t171_53 dX12_perform_32 ?_
        refine lv_bipush (v := (40 : Int32)) hx hb dX12_perform_35 (by decide) ?_
        refine lv_iload_n hx hb dX12_perform_37 rfl (lv_at hl 1 rfl) ?_
        refine lv_imul hx hb dX12_perform_38 ?_
        refine lv_iload_n hx hb dX12_perform_39 rfl (lv_at hl 2 rfl) ?_
        refine lv_iadd hx hb dX12_perform_40 ?_
        obtain ⟨hi41, h⟩ := gd_some h
        refine lJ (j := (((40 : Int32) * v1) + v2).toNatClampNeg) hC hw k200 n200 hi41 rfl dX12_perform_41 ?_
        obtain ⟨r42, hr42, h⟩ := bnd h
        refine cV (b := 171) (As := [.long (μ.2 200 (((40 : Int32) * v1) + v2).toNatClampNeg)]) (rest := []) (st1 := [.int r42.1]) hC hw (c_X12_whyTold l g n (μ.2 200 (((40 : Int32) * v1) + v2).toNatClampNeg) μ r42 hr42) ml_X12_343 im_X12_whyTold se_X12_whyTold k171 (CN := RX12) (T := TX12) (NF := 54) rfl rfl (by decide) rfl hl.1 ⟨Nat.le_of_ble_eq_true rfl, Nat.le_of_ble_eq_true rfl⟩ (Nat.le_of_ble_eq_true rfl) ⟨Nat.zero_le _, Nat.zero_le _⟩ rfl dX12_perform_42 (fun H locs hw => ?_)
        refine lv_if_ne (tgt := 71) hx hb dX12_perform_45 (by decide) (fun hc => ?_) (fun hc => ?_)
        · rw [if_neg hc] at h
          exact B71 v2 r42.2 _ _ _ hw (lv_sub hl [2] rfl) h
        · rw [if_pos hc] at h
          refine lv_aload_n hx hb dX12_perform_48 rfl (lv_at hl 0 rfl) ?_
          refine lv_aload_n hx hb dX12_perform_49 rfl (lv_at hl 0 rfl) ?_
          refine gR (t := 200) hC hw fl_X12_103 k171 (by decide) t171_53 dX12_perform_50 ?_
          refine lv_bipush (v := (40 : Int32)) hx hb dX12_perform_53 (by decide) ?_
          refine lv_iload_n hx hb dX12_perform_55 rfl (lv_at hl 1 rfl) ?_
          refine lv_imul hx hb dX12_perform_56 ?_
          refine lv_iload_n hx hb dX12_perform_57 rfl (lv_at hl 2 rfl) ?_
          refine lv_iadd hx hb dX12_perform_58 ?_
          refine lJ (j := (((40 : Int32) * v1) + v2).toNatClampNeg) hC hw k200 n200 hi41 rfl dX12_perform_59 ?_
          refine lv_l2i hx hb dX12_perform_60 rfl ?_
          obtain ⟨r61, hr61, h⟩ := bnd h
          refine cV (b := 171) (As := [.int ((r42.2.2 200 (((40 : Int32) * v1) + v2).toNatClampNeg).toInt32)]) (rest := []) (st1 := [.int r61.1]) hC hw (c_X12_does l g n ((r42.2.2 200 (((40 : Int32) * v1) + v2).toNatClampNeg).toInt32) r42.2 r61 hr61) ml_X12_329 im_X12_does se_X12_does k171 (CN := RX12) (T := TX12) (NF := 54) rfl rfl (by decide) rfl hl.1 ⟨Nat.le_of_ble_eq_true rfl, Nat.le_of_ble_eq_true rfl⟩ (Nat.le_of_ble_eq_true rfl) ⟨Nat.zero_le _, Nat.zero_le _⟩ rfl dX12_perform_61 (fun H locs hw => ?_)
          refine lv_pop hx hb dX12_perform_64 rfl ?_
          refine lv_iinc (v := (v2 + (1 : Int32))) (lv' := [(2, .int (v2 + (1 : Int32))), (0, .ref (g.2.2 171)), (1, .int v1)]) hx hb dX12_perform_65 hl (k := 2) rfl rfl (by decide) rfl (fun ls hl => ?_)
          refine lv_goto (tgt := 20) hx hb dX12_perform_68 (by decide) ?_
          exact ih20 (v2 + (1 : Int32)) r61.2 _ _ _ hw (lv_sub hl [1, 2, 0] rfl) h
  refine lv_aload_n hx hb dX12_perform_0 rfl (lv_at hl 0 rfl) ?_
  refine lv_aload_n hx hb dX12_perform_1 rfl (lv_at hl 0 rfl) ?_
  refine lv_iload_n hx hb dX12_perform_2 rfl (lv_at hl 1 rfl) ?_
  obtain ⟨r3, hr3, h⟩ := bnd h
  refine cV (b := 171) (As := [.int v1]) (rest := [.ref (g.2.2 171)]) (st1 := [.int r3.1, .ref (g.2.2 171)]) hC hw (c_X12_trayFault l g n v1 μ r3 hr3) ml_X12_340 im_X12_trayFault se_X12_trayFault k171 (CN := RX12) (T := TX12) (NF := 54) rfl rfl (by decide) rfl hl.1 ⟨Nat.le_of_ble_eq_true rfl, Nat.le_of_ble_eq_true rfl⟩ (Nat.le_of_ble_eq_true rfl) ⟨Nat.zero_le _, Nat.zero_le _⟩ rfl dX12_perform_3 (fun H locs hw => ?_)
  refine pI hC hw fl_X12_107 fp_12_5 k171 dX12_perform_6 (fun H locs hw => ?_)
  refine lv_aload_n hx hb dX12_perform_9 rfl (lv_at hl 0 rfl) ?_
  refine gI hC hw fl_X12_107 k171 (by decide) dX12_perform_10 ?_
  refine lv_if_le (tgt := 18) hx hb dX12_perform_13 (by decide) (fun hc => ?_) (fun hc => ?_)
  · rw [if_pos hc] at h
    refine lv_iconst (v := (0 : Int32)) hx hb dX12_perform_18 (by decide) ?_
    refine lv_istore_n (lv' := [(2, .int (0 : Int32)), (0, .ref (g.2.2 171)), (1, .int v1)]) hx hb dX12_perform_19 rfl hl (by decide) rfl (fun ls hl => ?_)
    exact B20 n (0 : Int32) (si r3.2 171 5 r3.1) _ _ _ hw (lv_sub hl [1, 2, 0] rfl) h
  · rw [if_neg hc] at h
    refine lv_iconst (v := (0 : Int32)) hx hb dX12_perform_16 (by decide) ?_
    exact rI hC hw hr hlocks (by rw [← Option.some.inj h]) (by rw [← Option.some.inj h]) dX12_perform_17
set_option maxRecDepth 100000 in
set_option maxHeartbeats 4000000 in
theorem c_X12_laysMove (l : Launch) (g : Gw) (n : Nat) (v1 : Int32) (v2 : Int32) (v3 : Int32) (v4 : Int32) (μ : Mu) (r : Unit × Mu) (h : X12_laysMove n v1 v2 v3 v4 μ = some r) : Ct l g yX12_laysMove cX12_laysMove 7 none 7 [.ref (g.2.2 171), .int v1, .int v2, .int v3, .int v4] μ none r.2 := by
  rw [X12_laysMove] at h
  refine Ct.of (by decide) (Nat.le_of_ble_eq_true rfl) ?_
  intro p e s m args below meth c ls hC hw hr hlocks hl
  have hx := hC.1
  have hb := hC.2.1
  have hl : lv_has ls 7 [(0, .ref (g.2.2 171)), (1, .int v1), (2, .int v2), (3, .int v3), (4, .int v4)] := hl
  have B16 : ∀ (s0 : Int32) (s1 : Int32) (μ : Mu) (H : Heap) (locs : List Loc) (ls : Array Slot), wd g μ s (Aw g s.heap.size) H locs → lv_has ls 7 [(0, .ref (g.2.2 171)), (1, .int v1), (3, .int v3), (4, .int v4)] → X12_laysMove_16 n v1 v2 v3 v4 s0 s1 μ = some r → WQ p l e (rmD 7) s m args below meth c g none r.2 H locs (F0 m 16 ls [.int s1, .int s0]) := by
    intro s0 s1 μ H locs ls hw hl h
    rw [X12_laysMove_16] at h
    refine lv_iadd hx hb dX12_laysMove_16 ?_
    refine lv_istore (lv' := [(5, .int (s0 + s1)), (0, .ref (g.2.2 171)), (1, .int v1), (3, .int v3), (4, .int v4)]) hx hb dX12_laysMove_17 hl (by decide) rfl (fun ls hl => ?_)
    refine lv_aload_n hx hb dX12_laysMove_19 rfl (lv_at hl 1 rfl) ?_
    refine gR (t := 187) hC hw fl_X12_61 k171 (by decide) t171_35 dX12_laysMove_20 ?_
    refine lv_bipush (v := (6 : Int32)) hx hb dX12_laysMove_23 (by decide) ?_
    refine lv_iload_n hx hb dX12_laysMove_25 rfl (lv_at hl 2 rfl) ?_
    refine lv_imul hx hb dX12_laysMove_26 ?_
    refine lv_iload hx hb dX12_laysMove_27 (lv_at hl 4 rfl) ?_
    refine lv_iadd hx hb dX12_laysMove_29 ?_
    refine lv_iconst (v := ((-1) : Int32)) hx hb dX12_laysMove_30 (by decide) ?_
    obtain ⟨hi31, h⟩ := gd_some h
    refine sI (j := (((6 : Int32) * v1) + v4).toNatClampNeg) hC hw k187 n187 hi31 rfl dX12_laysMove_31 (fun H locs hw => ?_)
    refine lv_aload_n hx hb dX12_laysMove_32 rfl (lv_at hl 1 rfl) ?_
    refine lv_iload hx hb dX12_laysMove_33 (lv_at hl 0 rfl) ?_
    obtain ⟨r35, hr35, h⟩ := bnd h
    refine cV (b := 171) (As := [.int (s0 + s1)]) (rest := []) (st1 := [.int r35.1]) hC hw (c_X12_whyNot l g n (s0 + s1) (si μ 187 (((6 : Int32) * v1) + v4).toNatClampNeg ((-1) : Int32)) r35 hr35) ml_X12_311 im_X12_whyNot se_X12_whyNot k171 (CN := RX12) (T := TX12) (NF := 54) rfl rfl (by decide) rfl hl.1 ⟨Nat.le_of_ble_eq_true rfl, Nat.le_of_ble_eq_true rfl⟩ (Nat.le_of_ble_eq_true rfl) ⟨Nat.zero_le _, Nat.zero_le _⟩ rfl dX12_laysMove_35 (fun H locs hw => ?_)
    refine lv_if_eq (tgt := 42) hx hb dX12_laysMove_38 (by decide) (fun hc => ?_) (fun hc => ?_)
    · rw [if_pos hc] at h
      refine lv_aload_n hx hb dX12_laysMove_42 rfl (lv_at hl 1 rfl) ?_
      refine lv_iload hx hb dX12_laysMove_43 (lv_at hl 0 rfl) ?_
      obtain ⟨r45, hr45, h⟩ := bnd h
      refine cV (b := 171) (As := [.int (s0 + s1)]) (rest := []) (st1 := []) hC hw (c_X12_triesFrom l g n (s0 + s1) r35.2 r45 hr45) ml_X12_302 im_X12_triesFrom se_X12_triesFrom k171 (CN := RX12) (T := TX12) (NF := 54) rfl rfl (by decide) rfl hl.1 ⟨Nat.le_of_ble_eq_true rfl, Nat.le_of_ble_eq_true rfl⟩ (Nat.le_of_ble_eq_true rfl) ⟨Nat.zero_le _, Nat.zero_le _⟩ rfl dX12_laysMove_45 (fun H locs hw => ?_)
      refine lv_aload_n hx hb dX12_laysMove_48 rfl (lv_at hl 1 rfl) ?_
      refine lv_aload_n hx hb dX12_laysMove_49 rfl (lv_at hl 1 rfl) ?_
      refine gI hC hw fl_X12_284 k171 (by decide) dX12_laysMove_50 ?_
      refine lv_iload_n hx hb dX12_laysMove_53 rfl (lv_at hl 3 rfl) ?_
      refine lv_aload_n hx hb dX12_laysMove_54 rfl (lv_at hl 1 rfl) ?_
      refine gI hC hw fl_X12_263 k171 (by decide) dX12_laysMove_55 ?_
      refine lv_isub hx hb dX12_laysMove_58 ?_
      refine lv_aload_n hx hb dX12_laysMove_59 rfl (lv_at hl 1 rfl) ?_
      refine lv_aload_n hx hb dX12_laysMove_60 rfl (lv_at hl 1 rfl) ?_
      refine gI hC hw fl_X12_284 k171 (by decide) dX12_laysMove_61 ?_
      obtain ⟨r64, hr64, h⟩ := bnd h
      refine cV (b := 171) (As := [.int (r45.2.1 171 22)]) (rest := [.int (v3 - (r45.2.1 171 21)), .int (r45.2.1 171 22), .ref (g.2.2 171)]) (st1 := [.int r64.1, .int (v3 - (r45.2.1 171 21)), .int (r45.2.1 171 22), .ref (g.2.2 171)]) hC hw (c_X12_numberOf l g n (r45.2.1 171 22) r45.2 r64 hr64) ml_X12_368 im_X12_numberOf se_X12_numberOf k171 (CN := RX12) (T := TX12) (NF := 54) rfl rfl (by decide) rfl hl.1 ⟨Nat.le_of_ble_eq_true rfl, Nat.le_of_ble_eq_true rfl⟩ (Nat.le_of_ble_eq_true rfl) ⟨Nat.zero_le _, Nat.zero_le _⟩ rfl dX12_laysMove_64 (fun H locs hw => ?_)
      obtain ⟨r67, hr67, h⟩ := bnd h
      refine cV (b := 171) (As := [.int (r45.2.1 171 22), .int (v3 - (r45.2.1 171 21)), .int r64.1]) (rest := []) (st1 := [.int r67.1]) hC hw (c_X12_seat l g n (r45.2.1 171 22) (v3 - (r45.2.1 171 21)) r64.1 r64.2 r67 hr67) ml_X12_384 im_X12_seat se_X12_seat k171 (CN := RX12) (T := TX12) (NF := 54) rfl rfl (by decide) rfl hl.1 ⟨Nat.le_of_ble_eq_true rfl, Nat.le_of_ble_eq_true rfl⟩ (Nat.le_of_ble_eq_true rfl) ⟨Nat.zero_le _, Nat.zero_le _⟩ rfl dX12_laysMove_67 (fun H locs hw => ?_)
      refine lv_istore (lv' := [(6, .int r67.1), (5, .int (s0 + s1)), (0, .ref (g.2.2 171)), (1, .int v1), (3, .int v3), (4, .int v4)]) hx hb dX12_laysMove_70 hl (by decide) rfl (fun ls hl => ?_)
      refine lv_aload_n hx hb dX12_laysMove_72 rfl (lv_at hl 2 rfl) ?_
      refine gR (t := 187) hC hw fl_X12_61 k171 (by decide) t171_35 dX12_laysMove_73 ?_
      refine lv_bipush (v := (6 : Int32)) hx hb dX12_laysMove_76 (by decide) ?_
      refine lv_iload_n hx hb dX12_laysMove_78 rfl (lv_at hl 3 rfl) ?_
      refine lv_imul hx hb dX12_laysMove_79 ?_
      refine lv_iload hx hb dX12_laysMove_80 (lv_at hl 5 rfl) ?_
      refine lv_iadd hx hb dX12_laysMove_82 ?_
      refine lv_iload hx hb dX12_laysMove_83 (lv_at hl 0 rfl) ?_
      refine sI (j := (((6 : Int32) * v1) + v4).toNatClampNeg) hC hw k187 n187 hi31 rfl dX12_laysMove_85 (fun H locs hw => ?_)
      refine lv_aload_n hx hb dX12_laysMove_86 rfl (lv_at hl 2 rfl) ?_
      refine gR (t := 188) hC hw fl_X12_64 k171 (by decide) t171_36 dX12_laysMove_87 ?_
      refine lv_bipush (v := (6 : Int32)) hx hb dX12_laysMove_90 (by decide) ?_
      refine lv_iload_n hx hb dX12_laysMove_92 rfl (lv_at hl 3 rfl) ?_
      refine lv_imul hx hb dX12_laysMove_93 ?_
      refine lv_iload hx hb dX12_laysMove_94 (lv_at hl 5 rfl) ?_
      refine lv_iadd hx hb dX12_laysMove_96 ?_
      refine lv_aload_n hx hb dX12_laysMove_97 rfl (lv_at hl 2 rfl) ?_
      refine gI hC hw fl_X12_263 k171 (by decide) dX12_laysMove_98 ?_
      refine sI (j := (((6 : Int32) * v1) + v4).toNatClampNeg) hC hw k188 n188 hi31 rfl dX12_laysMove_101 (fun H locs hw => ?_)
      exact rV hC hw hr hlocks rfl (by rw [← Option.some.inj h]) dX12_laysMove_102
    · rw [if_neg hc] at h
      exact rV hC hw hr hlocks rfl (by rw [← Option.some.inj h]) dX12_laysMove_41
  refine lv_iload hx hb dX12_laysMove_0 (lv_at hl 4 rfl) ?_
  refine lv_iload_n hx hb dX12_laysMove_2 rfl (lv_at hl 2 rfl) ?_
  refine lv_if_ne (tgt := 10) hx hb dX12_laysMove_3 (by decide) (fun hc => ?_) (fun hc => ?_)
  · rw [if_neg hc] at h
    refine lv_aload_n hx hb dX12_laysMove_10 rfl (lv_at hl 0 rfl) ?_
    refine gR (t := 172) hC hw fl_X12_9 k171 (by decide) t171_0 dX12_laysMove_11 ?_
    refine lv_iconst (v := (1 : Int32)) hx hb dX12_laysMove_14 (by decide) ?_
    refine lI (j := 1) hC hw k172 n172 (vin (by decide)) (by decide) dX12_laysMove_15 ?_
    exact B16 v4 (μ.1 172 1) μ _ _ _ hw (lv_sub hl [0, 1, 3, 4] rfl) h
  · rw [if_pos hc] at h
    refine lv_iconst (v := (0 : Int32)) hx hb dX12_laysMove_6 (by decide) ?_
    refine lv_goto (tgt := 16) hx hb dX12_laysMove_7 (by decide) ?_
    exact B16 v4 (0 : Int32) μ _ _ _ hw (lv_sub hl [0, 1, 3, 4] rfl) h
set_option maxRecDepth 100000 in
set_option maxHeartbeats 4000000 in
theorem c_X12_settles (l : Launch) (g : Gw) (n : Nat) (v1 : Int32) (μ : Mu) (r : Unit × Mu) (h : X12_settles n v1 μ = some r) : Ct l g yX12_settles cX12_settles 7 none 4 [.ref (g.2.2 171), .int v1] μ none r.2 := by
  rw [X12_settles] at h
  refine Ct.of (by decide) (Nat.le_of_ble_eq_true rfl) ?_
  intro p e s m args below meth c ls hC hw hr hlocks hl
  have hx := hC.1
  have hb := hC.2.1
  have hl : lv_has ls 7 [(0, .ref (g.2.2 171)), (1, .int v1)] := hl
  have B96 : ∀ (k : Nat), ∀ (v2 : Int32) (v3 : Int32) (v4 : Int32) (μ : Mu) (H : Heap) (locs : List Loc) (ls : Array Slot), wd g μ s (Aw g s.heap.size) H locs → lv_has ls 7 [(0, .ref (g.2.2 171)), (1, .int v1), (2, .int v2), (3, .int v3), (4, .int v4)] → lpF (fun _ _ _ _ => none) (X12_settles_96b n v1) k v2 v3 v4 μ = some r → WQ p l e (rmD 4) s m args below meth c g none r.2 H locs (F0 m 96 ls []) := by
    intro k
    induction k with
    | zero =>
      intro v2 v3 v4 μ H locs ls hw hl h
      cases h
    | succ k ih96 =>
      rw [lpF_s]
      generalize lpF (fun _ _ _ _ => none) (X12_settles_96b n v1) k = k96 at ih96 ⊢
      intro v2 v3 v4 μ H locs ls hw hl h
      have B163 : ∀ (k : Nat), ∀ (v2 : Int32) (v3 : Int32) (v4 : Int32) (v5 : Int32) (μ : Mu) (H : Heap) (locs : List Loc) (ls : Array Slot), wd g μ s (Aw g s.heap.size) H locs → lv_has ls 7 [(0, .ref (g.2.2 171)), (1, .int v1), (2, .int v2), (3, .int v3), (4, .int v4), (5, .int v5)] → lpF (fun _ _ _ _ _ => none) (X12_settles_163b n v1 k96) k v2 v3 v4 v5 μ = some r → WQ p l e (rmD 4) s m args below meth c g none r.2 H locs (F0 m 163 ls []) := by
        intro k
        induction k with
        | zero =>
          intro v2 v3 v4 v5 μ H locs ls hw hl h
          cases h
        | succ k ih163 =>
          rw [lpF_s]
          generalize lpF (fun _ _ _ _ _ => none) (X12_settles_163b n v1 k96) k = k163 at ih163 ⊢
          intro v2 v3 v4 v5 μ H locs ls hw hl h
          have B172 : ∀ (k : Nat), ∀ (v2 : Int32) (v3 : Int32) (v4 : Int32) (v5 : Int32) (v6 : Int32) (μ : Mu) (H : Heap) (locs : List Loc) (ls : Array Slot), wd g μ s (Aw g s.heap.size) H locs → lv_has ls 7 [(0, .ref (g.2.2 171)), (1, .int v1), (2, .int v2), (3, .int v3), (4, .int v4), (5, .int v5), (6, .int v6)] → lpF (fun _ _ _ _ _ _ => none) (X12_settles_172b n v1 k96 k163) k v2 v3 v4 v5 v6 μ = some r → WQ p l e (rmD 4) s m args below meth c g none r.2 H locs (F0 m 172 ls []) := by
            intro k
            induction k with
            | zero =>
              intro v2 v3 v4 v5 v6 μ H locs ls hw hl h
              cases h
            | succ k ih172 =>
              rw [lpF_s]
              generalize lpF (fun _ _ _ _ _ _ => none) (X12_settles_172b n v1 k96 k163) k = k172 at ih172 ⊢
              intro v2 v3 v4 v5 v6 μ H locs ls hw hl h
              rw [X12_settles_172b] at h
              refine lv_iload hx hb dX12_settles_172 (lv_at hl 6 rfl) ?_
              refine lv_iload_n hx hb dX12_settles_174 rfl (lv_at hl 2 rfl) ?_
              refine lv_icmp_ge (tgt := 203) hx hb dX12_settles_175 (by decide) (fun hc => ?_) (fun hc => ?_)
              · rw [if_pos hc] at h
                refine lv_iinc (v := (v5 + (1 : Int32))) (lv' := [(5, .int (v5 + (1 : Int32))), (0, .ref (g.2.2 171)), (1, .int v1), (2, .int v2), (3, .int v3), (4, .int v4), (6, .int v6)]) hx hb dX12_settles_203 hl (k := 5) rfl rfl (by decide) rfl (fun ls hl => ?_)
                refine lv_goto (tgt := 163) hx hb dX12_settles_206 (by decide) ?_
                exact ih163 v2 v3 v4 (v5 + (1 : Int32)) μ _ _ _ hw (lv_sub hl [1, 2, 3, 4, 5, 0] rfl) h
              · rw [if_neg hc] at h
                refine lv_iload_n hx hb dX12_settles_178 rfl (lv_at hl 3 rfl) ?_
                refine lv_aload_n hx hb dX12_settles_179 rfl (lv_at hl 0 rfl) ?_
                refine lv_aload_n hx hb dX12_settles_180 rfl (lv_at hl 0 rfl) ?_
                refine lv_iload hx hb dX12_settles_181 (lv_at hl 5 rfl) ?_
                refine lv_iload_n hx hb dX12_settles_183 rfl (lv_at hl 1 rfl) ?_
                refine lv_iload hx hb dX12_settles_184 (lv_at hl 6 rfl) ?_
                obtain ⟨r186, hr186, h⟩ := bnd h
                refine cV (b := 171) (As := [.int v5, .int v1, .int v6]) (rest := [.ref (g.2.2 171), .int v3]) (st1 := [.int r186.1, .ref (g.2.2 171), .int v3]) hC hw (c_X12_seat l g n v5 v1 v6 μ r186 hr186) ml_X12_384 im_X12_seat se_X12_seat k171 (CN := RX12) (T := TX12) (NF := 54) rfl rfl (by decide) rfl hl.1 ⟨Nat.le_of_ble_eq_true rfl, Nat.le_of_ble_eq_true rfl⟩ (Nat.le_of_ble_eq_true rfl) ⟨Nat.zero_le _, Nat.zero_le _⟩ rfl dX12_settles_186 (fun H locs hw => ?_)
                refine lv_iload_n hx hb dX12_settles_189 rfl (lv_at hl 1 rfl) ?_
                refine lv_iload hx hb dX12_settles_190 (lv_at hl 4 rfl) ?_
                obtain ⟨r192, hr192, h⟩ := bnd h
                refine cV (b := 171) (As := [.int r186.1, .int v1, .int v4]) (rest := [.int v3]) (st1 := [.int r192.1, .int v3]) hC hw (c_X12_betters l g n r186.1 v1 v4 r186.2 r192 hr192) ml_X12_394 im_X12_betters se_X12_betters k171 (CN := RX12) (T := TX12) (NF := 54) rfl rfl (by decide) rfl hl.1 ⟨Nat.le_of_ble_eq_true rfl, Nat.le_of_ble_eq_true rfl⟩ (Nat.le_of_ble_eq_true rfl) ⟨Nat.zero_le _, Nat.zero_le _⟩ rfl dX12_settles_192 (fun H locs hw => ?_)
                refine lv_ior hx hb dX12_settles_195 ?_
                refine lv_istore_n (lv' := [(3, .int (v3 ||| r192.1)), (0, .ref (g.2.2 171)), (1, .int v1), (2, .int v2), (4, .int v4), (5, .int v5), (6, .int v6)]) hx hb dX12_settles_196 rfl hl (by decide) rfl (fun ls hl => ?_)
                refine lv_iinc (v := (v6 + (1 : Int32))) (lv' := [(6, .int (v6 + (1 : Int32))), (3, .int (v3 ||| r192.1)), (0, .ref (g.2.2 171)), (1, .int v1), (2, .int v2), (4, .int v4), (5, .int v5)]) hx hb dX12_settles_197 hl (k := 6) rfl rfl (by decide) rfl (fun ls hl => ?_)
                refine lv_goto (tgt := 172) hx hb dX12_settles_200 (by decide) ?_
                exact ih172 v2 (v3 ||| r192.1) v4 v5 (v6 + (1 : Int32)) r192.2 _ _ _ hw (lv_sub hl [2, 3, 4, 1, 5, 6, 0] rfl) h
          rw [X12_settles_163b] at h
          refine lv_iload hx hb dX12_settles_163 (lv_at hl 5 rfl) ?_
          refine lv_iconst (v := (2 : Int32)) hx hb dX12_settles_165 (by decide) ?_
          refine lv_icmp_ge (tgt := 209) hx hb dX12_settles_166 (by decide) (fun hc => ?_) (fun hc => ?_)
          · rw [if_pos hc] at h
            refine lv_iinc (v := (v4 + (1 : Int32))) (lv' := [(4, .int (v4 + (1 : Int32))), (0, .ref (g.2.2 171)), (1, .int v1), (2, .int v2), (3, .int v3), (5, .int v5)]) hx hb dX12_settles_209 hl (k := 4) rfl rfl (by decide) rfl (fun ls hl => ?_)
            refine lv_goto (tgt := 96) hx hb dX12_settles_212 (by decide) ?_
            exact ih96 v2 v3 (v4 + (1 : Int32)) μ _ _ _ hw (lv_sub hl [1, 2, 3, 4, 0] rfl) h
          · rw [if_neg hc] at h
            refine lv_iconst (v := (0 : Int32)) hx hb dX12_settles_169 (by decide) ?_
            refine lv_istore (lv' := [(6, .int (0 : Int32)), (0, .ref (g.2.2 171)), (1, .int v1), (2, .int v2), (3, .int v3), (4, .int v4), (5, .int v5)]) hx hb dX12_settles_170 hl (by decide) rfl (fun ls hl => ?_)
            exact B172 n v2 v3 v4 v5 (0 : Int32) μ _ _ _ hw (lv_sub hl [1, 2, 3, 4, 5, 6, 0] rfl) h
      have B105 : ∀ (k : Nat), ∀ (v2 : Int32) (v3 : Int32) (v4 : Int32) (v5 : Int32) (μ : Mu) (H : Heap) (locs : List Loc) (ls : Array Slot), wd g μ s (Aw g s.heap.size) H locs → lv_has ls 7 [(0, .ref (g.2.2 171)), (1, .int v1), (2, .int v2), (3, .int v3), (4, .int v4), (5, .int v5)] → lpF (fun _ _ _ _ _ => none) (X12_settles_105b n v1 k96) k v2 v3 v4 v5 μ = some r → WQ p l e (rmD 4) s m args below meth c g none r.2 H locs (F0 m 105 ls []) := by
        intro k
        induction k with
        | zero =>
          intro v2 v3 v4 v5 μ H locs ls hw hl h
          cases h
        | succ k ih105 =>
          rw [lpF_s]
          generalize lpF (fun _ _ _ _ _ => none) (X12_settles_105b n v1 k96) k = k105 at ih105 ⊢
          intro v2 v3 v4 v5 μ H locs ls hw hl h
          have B114 : ∀ (k : Nat), ∀ (v2 : Int32) (v3 : Int32) (v4 : Int32) (v5 : Int32) (v6 : Int32) (μ : Mu) (H : Heap) (locs : List Loc) (ls : Array Slot), wd g μ s (Aw g s.heap.size) H locs → lv_has ls 7 [(0, .ref (g.2.2 171)), (1, .int v1), (2, .int v2), (3, .int v3), (4, .int v4), (5, .int v5), (6, .int v6)] → lpF (fun _ _ _ _ _ _ => none) (X12_settles_114b n v1 k96 k105) k v2 v3 v4 v5 v6 μ = some r → WQ p l e (rmD 4) s m args below meth c g none r.2 H locs (F0 m 114 ls []) := by
            intro k
            induction k with
            | zero =>
              intro v2 v3 v4 v5 v6 μ H locs ls hw hl h
              cases h
            | succ k ih114 =>
              rw [lpF_s]
              generalize lpF (fun _ _ _ _ _ _ => none) (X12_settles_114b n v1 k96 k105) k = k114 at ih114 ⊢
              intro v2 v3 v4 v5 v6 μ H locs ls hw hl h
              rw [X12_settles_114b] at h
              refine lv_iload hx hb dX12_settles_114 (lv_at hl 6 rfl) ?_
              refine lv_iload_n hx hb dX12_settles_116 rfl (lv_at hl 2 rfl) ?_
              refine lv_icmp_ge (tgt := 154) hx hb dX12_settles_117 (by decide) (fun hc => ?_) (fun hc => ?_)
              · rw [if_pos hc] at h
                refine lv_iinc (v := (v5 + (1 : Int32))) (lv' := [(5, .int (v5 + (1 : Int32))), (0, .ref (g.2.2 171)), (1, .int v1), (2, .int v2), (3, .int v3), (4, .int v4), (6, .int v6)]) hx hb dX12_settles_154 hl (k := 5) rfl rfl (by decide) rfl (fun ls hl => ?_)
                refine lv_goto (tgt := 105) hx hb dX12_settles_157 (by decide) ?_
                exact ih105 v2 v3 v4 (v5 + (1 : Int32)) μ _ _ _ hw (lv_sub hl [1, 2, 3, 4, 5, 0] rfl) h
              · rw [if_neg hc] at h
                refine lv_aload_n hx hb dX12_settles_120 rfl (lv_at hl 0 rfl) ?_
                refine gR (t := 186) hC hw fl_X12_57 k171 (by decide) t171_34 dX12_settles_121 ?_
                refine lv_aload_n hx hb dX12_settles_124 rfl (lv_at hl 0 rfl) ?_
                refine lv_iload hx hb dX12_settles_125 (lv_at hl 5 rfl) ?_
                refine lv_iload_n hx hb dX12_settles_127 rfl (lv_at hl 1 rfl) ?_
                refine lv_iload hx hb dX12_settles_128 (lv_at hl 6 rfl) ?_
                obtain ⟨r130, hr130, h⟩ := bnd h
                refine cV (b := 171) (As := [.int v5, .int v1, .int v6]) (rest := [.ref (g.2.2 186)]) (st1 := [.int r130.1, .ref (g.2.2 186)]) hC hw (c_X12_seat l g n v5 v1 v6 μ r130 hr130) ml_X12_384 im_X12_seat se_X12_seat k171 (CN := RX12) (T := TX12) (NF := 54) rfl rfl (by decide) rfl hl.1 ⟨Nat.le_of_ble_eq_true rfl, Nat.le_of_ble_eq_true rfl⟩ (Nat.le_of_ble_eq_true rfl) ⟨Nat.zero_le _, Nat.zero_le _⟩ rfl dX12_settles_130 (fun H locs hw => ?_)
                refine lv_aload_n hx hb dX12_settles_133 rfl (lv_at hl 0 rfl) ?_
                refine gR (t := 184) hC hw fl_X12_51 k171 (by decide) t171_32 dX12_settles_134 ?_
                refine lv_aload_n hx hb dX12_settles_137 rfl (lv_at hl 0 rfl) ?_
                refine lv_iload hx hb dX12_settles_138 (lv_at hl 5 rfl) ?_
                refine lv_iload_n hx hb dX12_settles_140 rfl (lv_at hl 1 rfl) ?_
                refine lv_iload hx hb dX12_settles_141 (lv_at hl 6 rfl) ?_
                obtain ⟨r143, hr143, h⟩ := bnd h
                refine cV (b := 171) (As := [.int v5, .int v1, .int v6]) (rest := [.ref (g.2.2 184), .int r130.1, .ref (g.2.2 186)]) (st1 := [.int r143.1, .ref (g.2.2 184), .int r130.1, .ref (g.2.2 186)]) hC hw (c_X12_seat l g n v5 v1 v6 r130.2 r143 hr143) ml_X12_384 im_X12_seat se_X12_seat k171 (CN := RX12) (T := TX12) (NF := 54) rfl rfl (by decide) rfl hl.1 ⟨Nat.le_of_ble_eq_true rfl, Nat.le_of_ble_eq_true rfl⟩ (Nat.le_of_ble_eq_true rfl) ⟨Nat.zero_le _, Nat.zero_le _⟩ rfl dX12_settles_143 (fun H locs hw => ?_)
                obtain ⟨hi146, h⟩ := gd_some h
                refine lI (j := r143.1.toNatClampNeg) hC hw k184 n184 hi146 rfl dX12_settles_146 ?_
                obtain ⟨hi147, h⟩ := gd_some h
                refine sI (j := r130.1.toNatClampNeg) hC hw k186 n186 hi147 rfl dX12_settles_147 (fun H locs hw => ?_)
                refine lv_iinc (v := (v6 + (1 : Int32))) (lv' := [(6, .int (v6 + (1 : Int32))), (0, .ref (g.2.2 171)), (1, .int v1), (2, .int v2), (3, .int v3), (4, .int v4), (5, .int v5)]) hx hb dX12_settles_148 hl (k := 6) rfl rfl (by decide) rfl (fun ls hl => ?_)
                refine lv_goto (tgt := 114) hx hb dX12_settles_151 (by decide) ?_
                exact ih114 v2 v3 v4 v5 (v6 + (1 : Int32)) (si r143.2 186 r130.1.toNatClampNeg (r143.2.1 184 r143.1.toNatClampNeg)) _ _ _ hw (lv_sub hl [1, 2, 3, 4, 5, 6, 0] rfl) h
          rw [X12_settles_105b] at h
          refine lv_iload hx hb dX12_settles_105 (lv_at hl 5 rfl) ?_
          refine lv_iconst (v := (2 : Int32)) hx hb dX12_settles_107 (by decide) ?_
          refine lv_icmp_ge (tgt := 160) hx hb dX12_settles_108 (by decide) (fun hc => ?_) (fun hc => ?_)
          · rw [if_pos hc] at h
            refine lv_iconst (v := (0 : Int32)) hx hb dX12_settles_160 (by decide) ?_
            refine lv_istore (lv' := [(5, .int (0 : Int32)), (0, .ref (g.2.2 171)), (1, .int v1), (2, .int v2), (3, .int v3), (4, .int v4)]) hx hb dX12_settles_161 hl (by decide) rfl (fun ls hl => ?_)
            exact B163 n v2 v3 v4 (0 : Int32) μ _ _ _ hw (lv_sub hl [1, 2, 3, 4, 5, 0] rfl) h
          · rw [if_neg hc] at h
            refine lv_iconst (v := (0 : Int32)) hx hb dX12_settles_111 (by decide) ?_
            refine lv_istore (lv' := [(6, .int (0 : Int32)), (0, .ref (g.2.2 171)), (1, .int v1), (2, .int v2), (3, .int v3), (4, .int v4), (5, .int v5)]) hx hb dX12_settles_112 hl (by decide) rfl (fun ls hl => ?_)
            exact B114 n v2 v3 v4 v5 (0 : Int32) μ _ _ _ hw (lv_sub hl [1, 2, 3, 4, 5, 6, 0] rfl) h
      rw [X12_settles_96b] at h
      refine lv_iload_n hx hb dX12_settles_96 rfl (lv_at hl 3 rfl) ?_
      refine lv_if_eq (tgt := 215) hx hb dX12_settles_97 (by decide) (fun hc => ?_) (fun hc => ?_)
      · rw [if_pos hc] at h
        exact rV hC hw hr hlocks rfl (by rw [← Option.some.inj h]) dX12_settles_215
      · rw [if_neg hc] at h
        refine lv_iconst (v := (0 : Int32)) hx hb dX12_settles_100 (by decide) ?_
        refine lv_istore_n (lv' := [(3, .int (0 : Int32)), (0, .ref (g.2.2 171)), (1, .int v1), (2, .int v2), (4, .int v4)]) hx hb dX12_settles_101 rfl hl (by decide) rfl (fun ls hl => ?_)
        refine lv_iconst (v := (0 : Int32)) hx hb dX12_settles_102 (by decide) ?_
        refine lv_istore (lv' := [(5, .int (0 : Int32)), (3, .int (0 : Int32)), (0, .ref (g.2.2 171)), (1, .int v1), (2, .int v2), (4, .int v4)]) hx hb dX12_settles_103 hl (by decide) rfl (fun ls hl => ?_)
        exact B105 n v2 (0 : Int32) v4 (0 : Int32) μ _ _ _ hw (lv_sub hl [2, 3, 4, 1, 5, 0] rfl) h
  have B18 : ∀ (k : Nat), ∀ (v2 : Int32) (v3 : Int32) (μ : Mu) (H : Heap) (locs : List Loc) (ls : Array Slot), wd g μ s (Aw g s.heap.size) H locs → lv_has ls 7 [(0, .ref (g.2.2 171)), (1, .int v1), (2, .int v2), (3, .int v3)] → lpF (fun _ _ _ => none) (X12_settles_18b n v1) k v2 v3 μ = some r → WQ p l e (rmD 4) s m args below meth c g none r.2 H locs (F0 m 18 ls []) := by
    intro k
    induction k with
    | zero =>
      intro v2 v3 μ H locs ls hw hl h
      cases h
    | succ k ih18 =>
      rw [lpF_s]
      generalize lpF (fun _ _ _ => none) (X12_settles_18b n v1) k = k18 at ih18 ⊢
      intro v2 v3 μ H locs ls hw hl h
      have B26 : ∀ (k : Nat), ∀ (v2 : Int32) (v3 : Int32) (v4 : Int32) (μ : Mu) (H : Heap) (locs : List Loc) (ls : Array Slot), wd g μ s (Aw g s.heap.size) H locs → lv_has ls 7 [(0, .ref (g.2.2 171)), (1, .int v1), (2, .int v2), (3, .int v3), (4, .int v4)] → lpF (fun _ _ _ _ => none) (X12_settles_26b n v1 k18) k v2 v3 v4 μ = some r → WQ p l e (rmD 4) s m args below meth c g none r.2 H locs (F0 m 26 ls []) := by
        intro k
        induction k with
        | zero =>
          intro v2 v3 v4 μ H locs ls hw hl h
          cases h
        | succ k ih26 =>
          rw [lpF_s]
          generalize lpF (fun _ _ _ _ => none) (X12_settles_26b n v1 k18) k = k26 at ih26 ⊢
          intro v2 v3 v4 μ H locs ls hw hl h
          have B70 : ∀ (v2 : Int32) (v3 : Int32) (v4 : Int32) (v5 : Int32) (s1 : Int32) (s2 : Int32) (μ : Mu) (H : Heap) (locs : List Loc) (ls : Array Slot), wd g μ s (Aw g s.heap.size) H locs → lv_has ls 7 [(0, .ref (g.2.2 171)), (1, .int v1), (2, .int v2), (3, .int v3), (4, .int v4), (5, .int v5)] → X12_settles_70 n v1 k18 k26 v2 v3 v4 v5 s1 s2 μ = some r → WQ p l e (rmD 4) s m args below meth c g none r.2 H locs (F0 m 70 ls [.int s2, .int s1, .ref (g.2.2 184)]) := by
            intro v2 v3 v4 v5 s1 s2 μ H locs ls hw hl h
            rw [X12_settles_70] at h
            obtain ⟨hi70, h⟩ := gd_some h
            refine sI (j := s1.toNatClampNeg) hC hw k184 n184 hi70 rfl dX12_settles_70 (fun H locs hw => ?_)
            refine lv_aload_n hx hb dX12_settles_71 rfl (lv_at hl 0 rfl) ?_
            refine gR (t := 185) hC hw fl_X12_54 k171 (by decide) t171_33 dX12_settles_72 ?_
            refine lv_iload hx hb dX12_settles_75 (lv_at hl 5 rfl) ?_
            refine lv_iconst (v := (0 : Int32)) hx hb dX12_settles_77 (by decide) ?_
            obtain ⟨hi78, h⟩ := gd_some h
            refine sI (j := v5.toNatClampNeg) hC hw k185 n185 hi78 rfl dX12_settles_78 (fun H locs hw => ?_)
            refine lv_iinc (v := (v4 + (1 : Int32))) (lv' := [(4, .int (v4 + (1 : Int32))), (0, .ref (g.2.2 171)), (1, .int v1), (2, .int v2), (3, .int v3), (5, .int v5)]) hx hb dX12_settles_79 hl (k := 4) rfl rfl (by decide) rfl (fun ls hl => ?_)
            refine lv_goto (tgt := 26) hx hb dX12_settles_82 (by decide) ?_
            exact ih26 v2 v3 (v4 + (1 : Int32)) (si (si μ 184 s1.toNatClampNeg s2) 185 v5.toNatClampNeg (0 : Int32)) _ _ _ hw (lv_sub hl [1, 2, 3, 4, 0] rfl) h
          rw [X12_settles_26b] at h
          refine lv_iload hx hb dX12_settles_26 (lv_at hl 4 rfl) ?_
          refine lv_iload_n hx hb dX12_settles_28 rfl (lv_at hl 2 rfl) ?_
          refine lv_icmp_ge (tgt := 85) hx hb dX12_settles_29 (by decide) (fun hc => ?_) (fun hc => ?_)
          · rw [if_pos hc] at h
            refine lv_iinc (v := (v3 + (1 : Int32))) (lv' := [(3, .int (v3 + (1 : Int32))), (0, .ref (g.2.2 171)), (1, .int v1), (2, .int v2), (4, .int v4)]) hx hb dX12_settles_85 hl (k := 3) rfl rfl (by decide) rfl (fun ls hl => ?_)
            refine lv_goto (tgt := 18) hx hb dX12_settles_88 (by decide) ?_
            exact ih18 v2 (v3 + (1 : Int32)) μ _ _ _ hw (lv_sub hl [1, 2, 3, 0] rfl) h
          · rw [if_neg hc] at h
            refine lv_aload_n hx hb dX12_settles_32 rfl (lv_at hl 0 rfl) ?_
            refine lv_iload_n hx hb dX12_settles_33 rfl (lv_at hl 3 rfl) ?_
            refine lv_iload_n hx hb dX12_settles_34 rfl (lv_at hl 1 rfl) ?_
            refine lv_iload hx hb dX12_settles_35 (lv_at hl 4 rfl) ?_
            obtain ⟨r37, hr37, h⟩ := bnd h
            refine cV (b := 171) (As := [.int v3, .int v1, .int v4]) (rest := []) (st1 := [.int r37.1]) hC hw (c_X12_seat l g n v3 v1 v4 μ r37 hr37) ml_X12_384 im_X12_seat se_X12_seat k171 (CN := RX12) (T := TX12) (NF := 54) rfl rfl (by decide) rfl hl.1 ⟨Nat.le_of_ble_eq_true rfl, Nat.le_of_ble_eq_true rfl⟩ (Nat.le_of_ble_eq_true rfl) ⟨Nat.zero_le _, Nat.zero_le _⟩ rfl dX12_settles_37 (fun H locs hw => ?_)
            refine lv_istore (lv' := [(5, .int r37.1), (0, .ref (g.2.2 171)), (1, .int v1), (2, .int v2), (3, .int v3), (4, .int v4)]) hx hb dX12_settles_40 hl (by decide) rfl (fun ls hl => ?_)
            refine lv_aload_n hx hb dX12_settles_42 rfl (lv_at hl 1 rfl) ?_
            refine gR (t := 184) hC hw fl_X12_51 k171 (by decide) t171_32 dX12_settles_43 ?_
            refine lv_iload hx hb dX12_settles_46 (lv_at hl 0 rfl) ?_
            refine lv_aload_n hx hb dX12_settles_48 rfl (lv_at hl 1 rfl) ?_
            refine gR (t := 190) hC hw fl_X12_70 k171 (by decide) t171_38 dX12_settles_49 ?_
            refine lv_iload hx hb dX12_settles_52 (lv_at hl 0 rfl) ?_
            obtain ⟨hi54, h⟩ := gd_some h
            refine lZ (j := r37.1.toNatClampNeg) hC hw k190 n190 hi54 rfl dX12_settles_54 ?_
            refine lv_if_eq (tgt := 69) hx hb dX12_settles_55 (by decide) (fun hc => ?_) (fun hc => ?_)
            · rw [if_pos hc] at h
              refine lv_iconst (v := (0 : Int32)) hx hb dX12_settles_69 (by decide) ?_
              exact B70 v2 v3 v4 r37.1 r37.1 (0 : Int32) r37.2 _ _ _ hw (lv_sub hl [1, 2, 3, 4, 5, 0] rfl) h
            · rw [if_neg hc] at h
              refine lv_aload_n hx hb dX12_settles_58 rfl (lv_at hl 1 rfl) ?_
              refine lv_iload_n hx hb dX12_settles_59 rfl (lv_at hl 4 rfl) ?_
              refine lv_iload_n hx hb dX12_settles_60 rfl (lv_at hl 2 rfl) ?_
              refine lv_iload hx hb dX12_settles_61 (lv_at hl 5 rfl) ?_
              obtain ⟨r63, hr63, h⟩ := bnd h
              refine cV (b := 171) (As := [.int v3, .int v1, .int v4]) (rest := [.int r37.1, .ref (g.2.2 184)]) (st1 := [.int r63.1, .int r37.1, .ref (g.2.2 184)]) hC hw (c_X12_ownLess l g n v3 v1 v4 r37.2 r63 hr63) ml_X12_391 im_X12_ownLess se_X12_ownLess k171 (CN := RX12) (T := TX12) (NF := 54) rfl rfl (by decide) rfl hl.1 ⟨Nat.le_of_ble_eq_true rfl, Nat.le_of_ble_eq_true rfl⟩ (Nat.le_of_ble_eq_true rfl) ⟨Nat.zero_le _, Nat.zero_le _⟩ rfl dX12_settles_63 (fun H locs hw => ?_)
              refine lv_goto (tgt := 70) hx hb dX12_settles_66 (by decide) ?_
              exact B70 v2 v3 v4 r37.1 r37.1 r63.1 r63.2 _ _ _ hw (lv_sub hl [1, 2, 3, 4, 5, 0] rfl) h
      rw [X12_settles_18b] at h
      refine lv_iload_n hx hb dX12_settles_18 rfl (lv_at hl 3 rfl) ?_
      refine lv_iconst (v := (2 : Int32)) hx hb dX12_settles_19 (by decide) ?_
      refine lv_icmp_ge (tgt := 91) hx hb dX12_settles_20 (by decide) (fun hc => ?_) (fun hc => ?_)
      · rw [if_pos hc] at h
        refine lv_iconst (v := (1 : Int32)) hx hb dX12_settles_91 (by decide) ?_
        refine lv_istore_n (lv' := [(3, .int (1 : Int32)), (0, .ref (g.2.2 171)), (1, .int v1), (2, .int v2)]) hx hb dX12_settles_92 rfl hl (by decide) rfl (fun ls hl => ?_)
        refine lv_iconst (v := (1 : Int32)) hx hb dX12_settles_93 (by decide) ?_
        refine lv_istore (lv' := [(4, .int (1 : Int32)), (3, .int (1 : Int32)), (0, .ref (g.2.2 171)), (1, .int v1), (2, .int v2)]) hx hb dX12_settles_94 hl (by decide) rfl (fun ls hl => ?_)
        exact B96 n v2 (1 : Int32) (1 : Int32) μ _ _ _ hw (lv_sub hl [2, 3, 4, 1, 0] rfl) h
      · rw [if_neg hc] at h
        refine lv_iconst (v := (0 : Int32)) hx hb dX12_settles_23 (by decide) ?_
        refine lv_istore (lv' := [(4, .int (0 : Int32)), (0, .ref (g.2.2 171)), (1, .int v1), (2, .int v2), (3, .int v3)]) hx hb dX12_settles_24 hl (by decide) rfl (fun ls hl => ?_)
        exact B26 n v2 v3 (0 : Int32) μ _ _ _ hw (lv_sub hl [1, 2, 3, 4, 0] rfl) h
  refine lv_aload_n hx hb dX12_settles_0 rfl (lv_at hl 0 rfl) ?_
  refine gR (t := 189) hC hw fl_X12_67 k171 (by decide) t171_37 dX12_settles_1 ?_
  refine lv_iload_n hx hb dX12_settles_4 rfl (lv_at hl 1 rfl) ?_
  refine lv_iconst (v := (1 : Int32)) hx hb dX12_settles_5 (by decide) ?_
  refine lv_iadd hx hb dX12_settles_6 ?_
  obtain ⟨hi7, h⟩ := gd_some h
  refine lI (j := (v1 + (1 : Int32)).toNatClampNeg) hC hw k189 n189 hi7 rfl dX12_settles_7 ?_
  refine lv_aload_n hx hb dX12_settles_8 rfl (lv_at hl 0 rfl) ?_
  refine gR (t := 189) hC hw fl_X12_67 k171 (by decide) t171_37 dX12_settles_9 ?_
  refine lv_iload_n hx hb dX12_settles_12 rfl (lv_at hl 1 rfl) ?_
  obtain ⟨hi13, h⟩ := gd_some h
  refine lI (j := v1.toNatClampNeg) hC hw k189 n189 hi13 rfl dX12_settles_13 ?_
  refine lv_isub hx hb dX12_settles_14 ?_
  refine lv_istore_n (lv' := [(2, .int ((μ.1 189 (v1 + (1 : Int32)).toNatClampNeg) - (μ.1 189 v1.toNatClampNeg))), (0, .ref (g.2.2 171)), (1, .int v1)]) hx hb dX12_settles_15 rfl hl (by decide) rfl (fun ls hl => ?_)
  refine lv_iconst (v := (0 : Int32)) hx hb dX12_settles_16 (by decide) ?_
  refine lv_istore_n (lv' := [(3, .int (0 : Int32)), (2, .int ((μ.1 189 (v1 + (1 : Int32)).toNatClampNeg) - (μ.1 189 v1.toNatClampNeg))), (0, .ref (g.2.2 171)), (1, .int v1)]) hx hb dX12_settles_17 rfl hl (by decide) rfl (fun ls hl => ?_)
  exact B18 n ((μ.1 189 (v1 + (1 : Int32)).toNatClampNeg) - (μ.1 189 v1.toNatClampNeg)) (0 : Int32) μ _ _ _ hw (lv_sub hl [2, 3, 1, 0] rfl) h
set_option maxRecDepth 100000 in
set_option maxHeartbeats 4000000 in
theorem c_X12_goesOn (l : Launch) (g : Gw) (n : Nat) (μ : Mu) (r : Int32 × Mu) (h : X12_goesOn n  μ = some r) : Ct l g yX12_goesOn cX12_goesOn 2 (some .boolean) 6 [.ref (g.2.2 171)] μ (some (.int r.1)) r.2 := by
  rw [X12_goesOn] at h
  refine Ct.of (by decide) (Nat.le_of_ble_eq_true rfl) ?_
  intro p e s m args below meth c ls hC hw hr hlocks hl
  have hx := hC.1
  have hb := hC.2.1
  have hl : lv_has ls 2 [(0, .ref (g.2.2 171))] := hl
  have B120 : ∀ (μ : Mu) (H : Heap) (locs : List Loc) (ls : Array Slot), wd g μ s (Aw g s.heap.size) H locs → lv_has ls 2 [] → X12_goesOn_120 n  μ = some r → WQ p l e (rmD 6) s m args below meth c g (some (.int r.1)) r.2 H locs (F0 m 120 ls []) := by
    intro μ H locs ls hw hl h
    rw [X12_goesOn_120] at h
    refine lv_iconst (v := (0 : Int32)) hx hb dX12_goesOn_120 (by decide) ?_
    exact rZ hC hw hr hlocks (Or.inl rfl) (by rw [← Option.some.inj h]) (by rw [← Option.some.inj h]) dX12_goesOn_121
  have B15 : ∀ (k : Nat), ∀ (μ : Mu) (H : Heap) (locs : List Loc) (ls : Array Slot), wd g μ s (Aw g s.heap.size) H locs → lv_has ls 2 [(0, .ref (g.2.2 171))] → lpF (fun _ => none) (X12_goesOn_15b n) k  μ = some r → WQ p l e (rmD 6) s m args below meth c g (some (.int r.1)) r.2 H locs (F0 m 15 ls []) := by
    intro k
    induction k with
    | zero =>
      intro μ H locs ls hw hl h
      cases h
    | succ k ih15 =>
      rw [lpF_s]
      generalize lpF (fun _ => none) (X12_goesOn_15b n) k = k15 at ih15 ⊢
      intro μ H locs ls hw hl h
      have B83 : ∀ (k : Nat), ∀ (v1 : Int32) (μ : Mu) (H : Heap) (locs : List Loc) (ls : Array Slot), wd g μ s (Aw g s.heap.size) H locs → lv_has ls 2 [(0, .ref (g.2.2 171)), (1, .int v1)] → lpF (fun _ _ => none) (X12_goesOn_83b n k15) k v1 μ = some r → WQ p l e (rmD 6) s m args below meth c g (some (.int r.1)) r.2 H locs (F0 m 83 ls []) := by
        intro k
        induction k with
        | zero =>
          intro v1 μ H locs ls hw hl h
          cases h
        | succ k ih83 =>
          rw [lpF_s]
          generalize lpF (fun _ _ => none) (X12_goesOn_83b n k15) k = k83 at ih83 ⊢
          intro v1 μ H locs ls hw hl h
          rw [X12_goesOn_83b] at h
          refine lv_iload_n hx hb dX12_goesOn_83 rfl (lv_at hl 1 rfl) ?_
          refine lv_aload_n hx hb dX12_goesOn_84 rfl (lv_at hl 0 rfl) ?_
          refine gI hC hw fl_X12_430 k171 (by decide) dX12_goesOn_85 ?_
          refine lv_icmp_ge (tgt := 117) hx hb dX12_goesOn_88 (by decide) (fun hc => ?_) (fun hc => ?_)
          · rw [if_pos hc] at h
            refine lv_goto (tgt := 15) hx hb dX12_goesOn_117 (by decide) ?_
            exact ih15 μ _ _ _ hw (lv_sub hl [0] rfl) h
          · rw [if_neg hc] at h
            refine lv_aload_n hx hb dX12_goesOn_91 rfl (lv_at hl 0 rfl) ?_
            refine gR (t := 194) hC hw fl_X12_85 k171 (by decide) t171_43 dX12_goesOn_92 ?_
            refine lv_iload_n hx hb dX12_goesOn_95 rfl (lv_at hl 1 rfl) ?_
            obtain ⟨hi96, h⟩ := gd_some h
            refine lI (j := v1.toNatClampNeg) hC hw k194 n194 hi96 rfl dX12_goesOn_96 ?_
            refine lv_aload_n hx hb dX12_goesOn_97 rfl (lv_at hl 0 rfl) ?_
            refine gR (t := 194) hC hw fl_X12_85 k171 (by decide) t171_43 dX12_goesOn_98 ?_
            refine lv_aload_n hx hb dX12_goesOn_101 rfl (lv_at hl 0 rfl) ?_
            refine gI hC hw fl_X12_430 k171 (by decide) dX12_goesOn_102 ?_
            obtain ⟨hi105, h⟩ := gd_some h
            refine lI (j := (μ.1 171 44).toNatClampNeg) hC hw k194 n194 hi105 rfl dX12_goesOn_105 ?_
            refine lv_icmp_ne (tgt := 111) hx hb dX12_goesOn_106 (by decide) (fun hc => ?_) (fun hc => ?_)
            · rw [if_neg hc] at h
              refine lv_iinc (v := (v1 + (1 : Int32))) (lv' := [(1, .int (v1 + (1 : Int32))), (0, .ref (g.2.2 171))]) hx hb dX12_goesOn_111 hl (k := 1) rfl rfl (by decide) rfl (fun ls hl => ?_)
              refine lv_goto (tgt := 83) hx hb dX12_goesOn_114 (by decide) ?_
              exact ih83 (v1 + (1 : Int32)) μ _ _ _ hw (lv_sub hl [1, 0] rfl) h
            · rw [if_pos hc] at h
              refine lv_iconst (v := (1 : Int32)) hx hb dX12_goesOn_109 (by decide) ?_
              exact rZ hC hw hr hlocks (Or.inr rfl) (by rw [← Option.some.inj h]) (by rw [← Option.some.inj h]) dX12_goesOn_110
      rw [X12_goesOn_15b] at h
      refine lv_aload_n hx hb dX12_goesOn_15 rfl (lv_at hl 0 rfl) ?_
      refine gI hC hw fl_X12_430 k171 (by decide) dX12_goesOn_16 ?_
      refine lv_bipush (v := (60 : Int32)) hx hb dX12_goesOn_19 (by decide) ?_
      refine lv_icmp_ge (tgt := 120) hx hb dX12_goesOn_21 (by decide) (fun hc => ?_) (fun hc => ?_)
      · rw [if_pos hc] at h
        exact B120 μ _ _ _ hw (lv_sub hl [] rfl) h
      · rw [if_neg hc] at h
        refine lv_aload_n hx hb dX12_goesOn_24 rfl (lv_at hl 0 rfl) ?_
        obtain ⟨r25, hr25, h⟩ := bnd h
        refine cV (b := 171) (As := []) (rest := []) (st1 := [.int r25.1]) hC hw (c_X12_isOver l g n μ r25 hr25) ml_X12_305 im_X12_isOver se_X12_isOver k171 (CN := RX12) (T := TX12) (NF := 54) rfl rfl (by decide) rfl hl.1 ⟨Nat.le_of_ble_eq_true rfl, Nat.le_of_ble_eq_true rfl⟩ (Nat.le_of_ble_eq_true rfl) ⟨Nat.zero_le _, Nat.zero_le _⟩ rfl dX12_goesOn_25 (fun H locs hw => ?_)
        refine lv_if_ne (tgt := 120) hx hb dX12_goesOn_28 (by decide) (fun hc => ?_) (fun hc => ?_)
        · rw [if_neg hc] at h
          exact B120 r25.2 _ _ _ hw (lv_sub hl [] rfl) h
        · rw [if_pos hc] at h
          refine lv_aload_n hx hb dX12_goesOn_31 rfl (lv_at hl 0 rfl) ?_
          refine gR (t := 193) hC hw fl_X12_82 k171 (by decide) t171_42 dX12_goesOn_32 ?_
          refine lv_aload_n hx hb dX12_goesOn_35 rfl (lv_at hl 0 rfl) ?_
          refine gI hC hw fl_X12_430 k171 (by decide) dX12_goesOn_36 ?_
          refine lv_aload_n hx hb dX12_goesOn_39 rfl (lv_at hl 0 rfl) ?_
          obtain ⟨r40, hr40, h⟩ := bnd h
          refine cV (b := 171) (As := []) (rest := [.int (r25.2.1 171 44), .ref (g.2.2 193)]) (st1 := [.int r40.1, .int (r25.2.1 171 44), .ref (g.2.2 193)]) hC hw (c_X12_bestNow l g n r25.2 r40 hr40) ml_X12_416 im_X12_bestNow se_X12_bestNow k171 (CN := RX12) (T := TX12) (NF := 54) rfl rfl (by decide) rfl hl.1 ⟨Nat.le_of_ble_eq_true rfl, Nat.le_of_ble_eq_true rfl⟩ (Nat.le_of_ble_eq_true rfl) ⟨Nat.zero_le _, Nat.zero_le _⟩ rfl dX12_goesOn_40 (fun H locs hw => ?_)
          obtain ⟨hi43, h⟩ := gd_some h
          refine sI (j := (r25.2.1 171 44).toNatClampNeg) hC hw k193 n193 hi43 rfl dX12_goesOn_43 (fun H locs hw => ?_)
          refine lv_aload_n hx hb dX12_goesOn_44 rfl (lv_at hl 0 rfl) ?_
          refine lv_aload_n hx hb dX12_goesOn_45 rfl (lv_at hl 0 rfl) ?_
          refine gR (t := 193) hC hw fl_X12_82 k171 (by decide) t171_42 dX12_goesOn_46 ?_
          refine lv_aload_n hx hb dX12_goesOn_49 rfl (lv_at hl 0 rfl) ?_
          refine gI hC hw fl_X12_430 k171 (by decide) dX12_goesOn_50 ?_
          obtain ⟨hi53, h⟩ := gd_some h
          refine lI (j := ((si r40.2 193 (r25.2.1 171 44).toNatClampNeg r40.1).1 171 44).toNatClampNeg) hC hw k193 n193 hi53 rfl dX12_goesOn_53 ?_
          obtain ⟨r54, hr54, h⟩ := bnd h
          refine cV (b := 171) (As := [.int ((si r40.2 193 (r25.2.1 171 44).toNatClampNeg r40.1).1 193 ((si r40.2 193 (r25.2.1 171 44).toNatClampNeg r40.1).1 171 44).toNatClampNeg)]) (rest := []) (st1 := [.int r54.1]) hC hw (c_X12_moves l g n ((si r40.2 193 (r25.2.1 171 44).toNatClampNeg r40.1).1 193 ((si r40.2 193 (r25.2.1 171 44).toNatClampNeg r40.1).1 171 44).toNatClampNeg) (si r40.2 193 (r25.2.1 171 44).toNatClampNeg r40.1) r54 hr54) ml_X12_326 im_X12_moves se_X12_moves k171 (CN := RX12) (T := TX12) (NF := 54) rfl rfl (by decide) rfl hl.1 ⟨Nat.le_of_ble_eq_true rfl, Nat.le_of_ble_eq_true rfl⟩ (Nat.le_of_ble_eq_true rfl) ⟨Nat.zero_le _, Nat.zero_le _⟩ rfl dX12_goesOn_54 (fun H locs hw => ?_)
          refine lv_pop hx hb dX12_goesOn_57 rfl ?_
          refine lv_aload_n hx hb dX12_goesOn_58 rfl (lv_at hl 0 rfl) ?_
          refine lv_dup hx hb dX12_goesOn_59 rfl ?_
          refine gI hC hw fl_X12_430 k171 (by decide) dX12_goesOn_60 ?_
          refine lv_iconst (v := (1 : Int32)) hx hb dX12_goesOn_63 (by decide) ?_
          refine lv_iadd hx hb dX12_goesOn_64 ?_
          refine pI hC hw fl_X12_430 fp_12_44 k171 dX12_goesOn_65 (fun H locs hw => ?_)
          refine lv_aload_n hx hb dX12_goesOn_68 rfl (lv_at hl 0 rfl) ?_
          refine gR (t := 194) hC hw fl_X12_85 k171 (by decide) t171_43 dX12_goesOn_69 ?_
          refine lv_aload_n hx hb dX12_goesOn_72 rfl (lv_at hl 0 rfl) ?_
          refine gI hC hw fl_X12_430 k171 (by decide) dX12_goesOn_73 ?_
          refine lv_aload_n hx hb dX12_goesOn_76 rfl (lv_at hl 0 rfl) ?_
          obtain ⟨r77, hr77, h⟩ := bnd h
          refine cV (b := 171) (As := []) (rest := [.int ((si r54.2 171 44 ((r54.2.1 171 44) + (1 : Int32))).1 171 44), .ref (g.2.2 194)]) (st1 := [.int r77.1, .int ((si r54.2 171 44 ((r54.2.1 171 44) + (1 : Int32))).1 171 44), .ref (g.2.2 194)]) hC hw (c_X12_seatNow l g n (si r54.2 171 44 ((r54.2.1 171 44) + (1 : Int32))) r77 hr77) ml_X12_410 im_X12_seatNow se_X12_seatNow k171 (CN := RX12) (T := TX12) (NF := 54) rfl rfl (by decide) rfl hl.1 ⟨Nat.le_of_ble_eq_true rfl, Nat.le_of_ble_eq_true rfl⟩ (Nat.le_of_ble_eq_true rfl) ⟨Nat.zero_le _, Nat.zero_le _⟩ rfl dX12_goesOn_77 (fun H locs hw => ?_)
          obtain ⟨hi80, h⟩ := gd_some h
          refine sI (j := ((si r54.2 171 44 ((r54.2.1 171 44) + (1 : Int32))).1 171 44).toNatClampNeg) hC hw k194 n194 hi80 rfl dX12_goesOn_80 (fun H locs hw => ?_)
          refine lv_iconst (v := (0 : Int32)) hx hb dX12_goesOn_81 (by decide) ?_
          refine lv_istore_n (lv' := [(1, .int (0 : Int32)), (0, .ref (g.2.2 171))]) hx hb dX12_goesOn_82 rfl hl (by decide) rfl (fun ls hl => ?_)
          exact B83 n (0 : Int32) (si r77.2 194 ((si r54.2 171 44 ((r54.2.1 171 44) + (1 : Int32))).1 171 44).toNatClampNeg r77.1) _ _ _ hw (lv_sub hl [1, 0] rfl) h
  refine lv_aload_n hx hb dX12_goesOn_0 rfl (lv_at hl 0 rfl) ?_
  refine lv_iconst (v := (0 : Int32)) hx hb dX12_goesOn_1 (by decide) ?_
  refine pI hC hw fl_X12_430 fp_12_44 k171 dX12_goesOn_2 (fun H locs hw => ?_)
  refine lv_aload_n hx hb dX12_goesOn_5 rfl (lv_at hl 0 rfl) ?_
  refine gR (t := 194) hC hw fl_X12_85 k171 (by decide) t171_43 dX12_goesOn_6 ?_
  refine lv_iconst (v := (0 : Int32)) hx hb dX12_goesOn_9 (by decide) ?_
  refine lv_aload_n hx hb dX12_goesOn_10 rfl (lv_at hl 0 rfl) ?_
  obtain ⟨r11, hr11, h⟩ := bnd h
  refine cV (b := 171) (As := []) (rest := [.int (0 : Int32), .ref (g.2.2 194)]) (st1 := [.int r11.1, .int (0 : Int32), .ref (g.2.2 194)]) hC hw (c_X12_seatNow l g n (si μ 171 44 (0 : Int32)) r11 hr11) ml_X12_410 im_X12_seatNow se_X12_seatNow k171 (CN := RX12) (T := TX12) (NF := 54) rfl rfl (by decide) rfl hl.1 ⟨Nat.le_of_ble_eq_true rfl, Nat.le_of_ble_eq_true rfl⟩ (Nat.le_of_ble_eq_true rfl) ⟨Nat.zero_le _, Nat.zero_le _⟩ rfl dX12_goesOn_11 (fun H locs hw => ?_)
  refine sI (j := 0) hC hw k194 n194 (vin (by decide)) (by decide) dX12_goesOn_14 (fun H locs hw => ?_)
  exact B15 n (si r11.2 194 0 r11.1) _ _ _ hw (lv_sub hl [0] rfl) h
set_option maxRecDepth 100000 in
set_option maxHeartbeats 4000000 in
theorem c_X12_pits (l : Launch) (g : Gw) (n : Nat) (v1 : Int32) (μ : Mu) (r : Int32 × Mu) (h : X12_pits n v1 μ = some r) : Ct l g yX12_pits cX12_pits 4 (some .int) 7 [.ref (g.2.2 171), .int v1] μ (some (.int r.1)) r.2 := by
  rw [X12_pits] at h
  refine Ct.of (by decide) (Nat.le_of_ble_eq_true rfl) ?_
  intro p e s m args below meth c ls hC hw hr hlocks hl
  have hx := hC.1
  have hb := hC.2.1
  have hl : lv_has ls 4 [(0, .ref (g.2.2 171)), (1, .int v1)] := hl
  have B118 : ∀ (v2 : Int32) (μ : Mu) (H : Heap) (locs : List Loc) (ls : Array Slot), wd g μ s (Aw g s.heap.size) H locs → lv_has ls 4 [(2, .int v2)] → X12_pits_118 n v1 v2 μ = some r → WQ p l e (rmD 7) s m args below meth c g (some (.int r.1)) r.2 H locs (F0 m 118 ls []) := by
    intro v2 μ H locs ls hw hl h
    rw [X12_pits_118] at h
    refine lv_iload_n hx hb dX12_pits_118 rfl (lv_at hl 0 rfl) ?_
    exact rI hC hw hr hlocks (by rw [← Option.some.inj h]) (by rw [← Option.some.inj h]) dX12_pits_119
  have B25 : ∀ (k : Nat), ∀ (v2 : Int32) (v3 : Int32) (μ : Mu) (H : Heap) (locs : List Loc) (ls : Array Slot), wd g μ s (Aw g s.heap.size) H locs → lv_has ls 4 [(0, .ref (g.2.2 171)), (1, .int v1), (2, .int v2), (3, .int v3)] → lpF (fun _ _ _ => none) (X12_pits_25b n v1) k v2 v3 μ = some r → WQ p l e (rmD 7) s m args below meth c g (some (.int r.1)) r.2 H locs (F0 m 25 ls []) := by
    intro k
    induction k with
    | zero =>
      intro v2 v3 μ H locs ls hw hl h
      cases h
    | succ k ih25 =>
      rw [lpF_s]
      generalize lpF (fun _ _ _ => none) (X12_pits_25b n v1) k = k25 at ih25 ⊢
      intro v2 v3 μ H locs ls hw hl h
      have B112 : ∀ (v2 : Int32) (v3 : Int32) (μ : Mu) (H : Heap) (locs : List Loc) (ls : Array Slot), wd g μ s (Aw g s.heap.size) H locs → lv_has ls 4 [(0, .ref (g.2.2 171)), (1, .int v1), (2, .int v2), (3, .int v3)] → X12_pits_112 n v1 k25 v2 v3 μ = some r → WQ p l e (rmD 7) s m args below meth c g (some (.int r.1)) r.2 H locs (F0 m 112 ls []) := by
        intro v2 v3 μ H locs ls hw hl h
        rw [X12_pits_112] at h
        refine lv_iinc (v := (v3 + (1 : Int32))) (lv' := [(3, .int (v3 + (1 : Int32))), (0, .ref (g.2.2 171)), (1, .int v1), (2, .int v2)]) hx hb dX12_pits_112 hl (k := 3) rfl rfl (by decide) rfl (fun ls hl => ?_)
        refine lv_goto (tgt := 25) hx hb dX12_pits_115 (by decide) ?_
        exact ih25 v2 (v3 + (1 : Int32)) μ _ _ _ hw (lv_sub hl [1, 2, 3, 0] rfl) h
      have B110 : ∀ (v3 : Int32) (s0 : Int32) (s1 : Int32) (μ : Mu) (H : Heap) (locs : List Loc) (ls : Array Slot), wd g μ s (Aw g s.heap.size) H locs → lv_has ls 4 [(0, .ref (g.2.2 171)), (1, .int v1), (3, .int v3)] → X12_pits_110 n v1 k25 v3 s0 s1 μ = some r → WQ p l e (rmD 7) s m args below meth c g (some (.int r.1)) r.2 H locs (F0 m 110 ls [.int s1, .int s0]) := by
        intro v3 s0 s1 μ H locs ls hw hl h
        rw [X12_pits_110] at h
        refine lv_ior hx hb dX12_pits_110 ?_
        refine lv_istore_n (lv' := [(2, .int (s0 ||| s1)), (0, .ref (g.2.2 171)), (1, .int v1), (3, .int v3)]) hx hb dX12_pits_111 rfl hl (by decide) rfl (fun ls hl => ?_)
        exact B112 (s0 ||| s1) v3 μ _ _ _ hw (lv_sub hl [1, 2, 0, 3] rfl) h
      have B103 : ∀ (v3 : Int32) (s0 : Int32) (μ : Mu) (H : Heap) (locs : List Loc) (ls : Array Slot), wd g μ s (Aw g s.heap.size) H locs → lv_has ls 4 [(0, .ref (g.2.2 171)), (1, .int v1), (3, .int v3)] → X12_pits_103 n v1 k25 v3 s0 μ = some r → WQ p l e (rmD 7) s m args below meth c g (some (.int r.1)) r.2 H locs (F0 m 103 ls [.int s0]) := by
        intro v3 s0 μ H locs ls hw hl h
        rw [X12_pits_103] at h
        refine lv_iconst (v := (1 : Int32)) hx hb dX12_pits_103 (by decide) ?_
        refine lv_iload_n hx hb dX12_pits_104 rfl (lv_at hl 2 rfl) ?_
        refine lv_ishl hx hb dX12_pits_105 ?_
        refine lv_goto (tgt := 110) hx hb dX12_pits_106 (by decide) ?_
        exact B110 v3 s0 ((1 : Int32) <<< (v3 &&& 31)) μ _ _ _ hw (lv_sub hl [0, 1, 2] rfl) h
      have B109 : ∀ (v3 : Int32) (s0 : Int32) (μ : Mu) (H : Heap) (locs : List Loc) (ls : Array Slot), wd g μ s (Aw g s.heap.size) H locs → lv_has ls 4 [(0, .ref (g.2.2 171)), (1, .int v1), (3, .int v3)] → X12_pits_109 n v1 k25 v3 s0 μ = some r → WQ p l e (rmD 7) s m args below meth c g (some (.int r.1)) r.2 H locs (F0 m 109 ls [.int s0]) := by
        intro v3 s0 μ H locs ls hw hl h
        rw [X12_pits_109] at h
        refine lv_iconst (v := (0 : Int32)) hx hb dX12_pits_109 (by decide) ?_
        exact B110 v3 s0 (0 : Int32) μ _ _ _ hw (lv_sub hl [0, 1, 2] rfl) h
      rw [X12_pits_25b] at h
      refine lv_iload_n hx hb dX12_pits_25 rfl (lv_at hl 3 rfl) ?_
      refine lv_aload_n hx hb dX12_pits_26 rfl (lv_at hl 0 rfl) ?_
      obtain ⟨r27, hr27, h⟩ := bnd h
      refine cV (b := 171) (As := []) (rest := [.int v3]) (st1 := [.int r27.1, .int v3]) hC hw (c_X12_pitMany l g n μ r27 hr27) ml_X12_245 im_X12_pitMany se_X12_pitMany k171 (CN := RX12) (T := TX12) (NF := 54) rfl rfl (by decide) rfl hl.1 ⟨Nat.le_of_ble_eq_true rfl, Nat.le_of_ble_eq_true rfl⟩ (Nat.le_of_ble_eq_true rfl) ⟨Nat.zero_le _, Nat.zero_le _⟩ rfl dX12_pits_27 (fun H locs hw => ?_)
      refine lv_icmp_ge (tgt := 118) hx hb dX12_pits_30 (by decide) (fun hc => ?_) (fun hc => ?_)
      · rw [if_pos hc] at h
        exact B118 v2 r27.2 _ _ _ hw (lv_sub hl [2] rfl) h
      · rw [if_neg hc] at h
        refine lv_aload_n hx hb dX12_pits_33 rfl (lv_at hl 0 rfl) ?_
        refine gI hC hw fl_X12_107 k171 (by decide) dX12_pits_34 ?_
        refine lv_if_ne (tgt := 118) hx hb dX12_pits_37 (by decide) (fun hc => ?_) (fun hc => ?_)
        · rw [if_neg hc] at h
          exact B118 v2 r27.2 _ _ _ hw (lv_sub hl [2] rfl) h
        · rw [if_pos hc] at h
          refine lv_aload_n hx hb dX12_pits_40 rfl (lv_at hl 0 rfl) ?_
          refine lv_iload_n hx hb dX12_pits_41 rfl (lv_at hl 3 rfl) ?_
          obtain ⟨r42, hr42, h⟩ := bnd h
          refine cV (b := 171) (As := [.int v3]) (rest := []) (st1 := [.int r42.1]) hC hw (c_X12_whyNot l g n v3 r27.2 r42 hr42) ml_X12_311 im_X12_whyNot se_X12_whyNot k171 (CN := RX12) (T := TX12) (NF := 54) rfl rfl (by decide) rfl hl.1 ⟨Nat.le_of_ble_eq_true rfl, Nat.le_of_ble_eq_true rfl⟩ (Nat.le_of_ble_eq_true rfl) ⟨Nat.zero_le _, Nat.zero_le _⟩ rfl dX12_pits_42 (fun H locs hw => ?_)
          refine lv_if_eq (tgt := 51) hx hb dX12_pits_45 (by decide) (fun hc => ?_) (fun hc => ?_)
          · rw [if_pos hc] at h
            refine lv_aload_n hx hb dX12_pits_51 rfl (lv_at hl 0 rfl) ?_
            refine lv_iload_n hx hb dX12_pits_52 rfl (lv_at hl 3 rfl) ?_
            obtain ⟨r53, hr53, h⟩ := bnd h
            refine cV (b := 171) (As := [.int v3]) (rest := []) (st1 := []) hC hw (c_X12_triesFrom l g n v3 r42.2 r53 hr53) ml_X12_302 im_X12_triesFrom se_X12_triesFrom k171 (CN := RX12) (T := TX12) (NF := 54) rfl rfl (by decide) rfl hl.1 ⟨Nat.le_of_ble_eq_true rfl, Nat.le_of_ble_eq_true rfl⟩ (Nat.le_of_ble_eq_true rfl) ⟨Nat.zero_le _, Nat.zero_le _⟩ rfl dX12_pits_53 (fun H locs hw => ?_)
            refine lv_iload_n hx hb dX12_pits_56 rfl (lv_at hl 2 rfl) ?_
            refine lv_iload_n hx hb dX12_pits_57 rfl (lv_at hl 1 rfl) ?_
            refine lv_if_ne (tgt := 73) hx hb dX12_pits_58 (by decide) (fun hc => ?_) (fun hc => ?_)
            · rw [if_neg hc] at h
              refine lv_iload_n hx hb dX12_pits_73 rfl (lv_at hl 1 rfl) ?_
              refine lv_iconst (v := (1 : Int32)) hx hb dX12_pits_74 (by decide) ?_
              refine lv_icmp_ne (tgt := 88) hx hb dX12_pits_75 (by decide) (fun hc => ?_) (fun hc => ?_)
              · rw [if_neg hc] at h
                refine lv_aload_n hx hb dX12_pits_88 rfl (lv_at hl 0 rfl) ?_
                refine lv_iconst (v := (1 : Int32)) hx hb dX12_pits_89 (by decide) ?_
                refine lv_aload_n hx hb dX12_pits_90 rfl (lv_at hl 0 rfl) ?_
                refine gR (t := 172) hC hw fl_X12_9 k171 (by decide) t171_0 dX12_pits_91 ?_
                refine lv_iconst (v := (2 : Int32)) hx hb dX12_pits_94 (by decide) ?_
                refine lI (j := 2) hC hw k172 n172 (vin (by decide)) (by decide) dX12_pits_95 ?_
                refine lv_isub hx hb dX12_pits_96 ?_
                obtain ⟨r97, hr97, h⟩ := bnd h
                refine cV (b := 171) (As := [.int ((1 : Int32) - (r53.2.1 172 2))]) (rest := [.int v2]) (st1 := [.int r97.1, .int v2]) hC hw (c_X12_sum l g n ((1 : Int32) - (r53.2.1 172 2)) r53.2 r97 hr97) ml_X12_290 im_X12_sum se_X12_sum k171 (CN := RX12) (T := TX12) (NF := 54) rfl rfl (by decide) rfl hl.1 ⟨Nat.le_of_ble_eq_true rfl, Nat.le_of_ble_eq_true rfl⟩ (Nat.le_of_ble_eq_true rfl) ⟨Nat.zero_le _, Nat.zero_le _⟩ rfl dX12_pits_97 (fun H locs hw => ?_)
                refine lv_if_ne (tgt := 109) hx hb dX12_pits_100 (by decide) (fun hc => ?_) (fun hc => ?_)
                · rw [if_neg hc] at h
                  exact B109 v3 v2 r97.2 _ _ _ hw (lv_sub hl [0, 1, 3] rfl) h
                · rw [if_pos hc] at h
                  exact B103 v3 v2 r97.2 _ _ _ hw (lv_sub hl [0, 1, 3] rfl) h
              · rw [if_pos hc] at h
                refine lv_aload_n hx hb dX12_pits_78 rfl (lv_at hl 0 rfl) ?_
                refine gI hC hw fl_X12_266 k171 (by decide) dX12_pits_79 ?_
                refine lv_if_le (tgt := 109) hx hb dX12_pits_82 (by decide) (fun hc => ?_) (fun hc => ?_)
                · rw [if_pos hc] at h
                  exact B109 v3 v2 r53.2 _ _ _ hw (lv_sub hl [0, 1, 3] rfl) h
                · rw [if_neg hc] at h
                  refine lv_goto (tgt := 103) hx hb dX12_pits_85 (by decide) ?_
                  exact B103 v3 v2 r53.2 _ _ _ hw (lv_sub hl [0, 1, 3] rfl) h
            · rw [if_pos hc] at h
              refine lv_aload_n hx hb dX12_pits_61 rfl (lv_at hl 0 rfl) ?_
              refine gI hC hw fl_X12_277 k171 (by decide) dX12_pits_62 ?_
              refine lv_bipush (v := (100 : Int32)) hx hb dX12_pits_65 (by decide) ?_
              refine lv_icmp_ne (tgt := 109) hx hb dX12_pits_67 (by decide) (fun hc => ?_) (fun hc => ?_)
              · rw [if_neg hc] at h
                exact B109 v3 v2 r53.2 _ _ _ hw (lv_sub hl [0, 1, 3] rfl) h
              · rw [if_pos hc] at h
                refine lv_goto (tgt := 103) hx hb dX12_pits_70 (by decide) ?_
                exact B103 v3 v2 r53.2 _ _ _ hw (lv_sub hl [0, 1, 3] rfl) h
          · rw [if_neg hc] at h
            refine lv_goto (tgt := 112) hx hb dX12_pits_48 (by decide) ?_
            exact B112 v2 v3 r42.2 _ _ _ hw (lv_sub hl [0, 1, 2, 3] rfl) h
  have B18 : ∀ (s1 : Int32) (μ : Mu) (H : Heap) (locs : List Loc) (ls : Array Slot), wd g μ s (Aw g s.heap.size) H locs → lv_has ls 4 [(0, .ref (g.2.2 171)), (1, .int v1)] → X12_pits_18 n v1 s1 μ = some r → WQ p l e (rmD 7) s m args below meth c g (some (.int r.1)) r.2 H locs (F0 m 18 ls [.int s1, .ref (g.2.2 171)]) := by
    intro s1 μ H locs ls hw hl h
    rw [X12_pits_18] at h
    refine pI hC hw fl_X12_107 fp_12_5 k171 dX12_pits_18 (fun H locs hw => ?_)
    refine lv_iconst (v := (0 : Int32)) hx hb dX12_pits_21 (by decide) ?_
    refine lv_istore_n (lv' := [(2, .int (0 : Int32)), (0, .ref (g.2.2 171)), (1, .int v1)]) hx hb dX12_pits_22 rfl hl (by decide) rfl (fun ls hl => ?_)
    refine lv_iconst (v := (0 : Int32)) hx hb dX12_pits_23 (by decide) ?_
    refine lv_istore_n (lv' := [(3, .int (0 : Int32)), (2, .int (0 : Int32)), (0, .ref (g.2.2 171)), (1, .int v1)]) hx hb dX12_pits_24 rfl hl (by decide) rfl (fun ls hl => ?_)
    exact B25 n (0 : Int32) (0 : Int32) (si μ 171 5 s1) _ _ _ hw (lv_sub hl [2, 3, 1, 0] rfl) h
  refine lv_aload_n hx hb dX12_pits_0 rfl (lv_at hl 0 rfl) ?_
  refine lv_iload_n hx hb dX12_pits_1 rfl (lv_at hl 1 rfl) ?_
  refine lv_i2l hx hb dX12_pits_2 rfl ?_
  refine lv_lconst (v := (0 : Int64)) hx hb dX12_pits_3 (by decide) ?_
  refine lv_ldc2 (v := (2 : Int64)) hx hb hC.2.2.2.1 (hC.2.2.2.2.1 _ cl_X12_453) dX12_pits_4 ?_
  obtain ⟨r7, hr7, h⟩ := bnd h
  refine cS (As := [.long (v1.toInt64), .long (0 : Int64), .long (2 : Int64)]) (rest := [.ref (g.2.2 171)]) (st1 := [.int r7.1, .ref (g.2.2 171)]) hC hw (c_X12_within l g n (v1.toInt64) (0 : Int64) (2 : Int64) μ r7 hr7) ml_X12_166 st_X12_within rfl hl.1 ⟨Nat.le_of_ble_eq_true rfl, Nat.le_of_ble_eq_true rfl⟩ (Nat.le_of_ble_eq_true rfl) ⟨Nat.zero_le _, Nat.zero_le _⟩ rfl dX12_pits_7 (fun H locs hw => ?_)
  refine lv_if_eq (tgt := 17) hx hb dX12_pits_10 (by decide) (fun hc => ?_) (fun hc => ?_)
  · rw [if_pos hc] at h
    refine lv_iconst (v := (1 : Int32)) hx hb dX12_pits_17 (by decide) ?_
    exact B18 (1 : Int32) r7.2 _ _ _ hw (lv_sub hl [0, 1] rfl) h
  · rw [if_neg hc] at h
    refine lv_iconst (v := (0 : Int32)) hx hb dX12_pits_13 (by decide) ?_
    refine lv_goto (tgt := 18) hx hb dX12_pits_14 (by decide) ?_
    exact B18 (0 : Int32) r7.2 _ _ _ hw (lv_sub hl [0, 1] rfl) h
set_option maxRecDepth 100000 in
set_option maxHeartbeats 4000000 in
theorem c_X12_only (l : Launch) (g : Gw) (n : Nat) (μ : Mu) (r : Int32 × Mu) (h : X12_only n  μ = some r) : Ct l g yX12_only cX12_only 3 (some .int) 7 [.ref (g.2.2 171)] μ (some (.int r.1)) r.2 := by
  rw [X12_only] at h
  refine Ct.of (by decide) (Nat.le_of_ble_eq_true rfl) ?_
  intro p e s m args below meth c ls hC hw hr hlocks hl
  have hx := hC.1
  have hb := hC.2.1
  have hl : lv_has ls 3 [(0, .ref (g.2.2 171))] := hl
  have B4 : ∀ (k : Nat), ∀ (v1 : Int32) (v2 : Int32) (μ : Mu) (H : Heap) (locs : List Loc) (ls : Array Slot), wd g μ s (Aw g s.heap.size) H locs → lv_has ls 3 [(0, .ref (g.2.2 171)), (1, .int v1), (2, .int v2)] → lpF (fun _ _ _ => none) (X12_only_4b n) k v1 v2 μ = some r → WQ p l e (rmD 7) s m args below meth c g (some (.int r.1)) r.2 H locs (F0 m 4 ls []) := by
    intro k
    induction k with
    | zero =>
      intro v1 v2 μ H locs ls hw hl h
      cases h
    | succ k ih4 =>
      rw [lpF_s]
      generalize lpF (fun _ _ _ => none) (X12_only_4b n) k = k4 at ih4 ⊢
      intro v1 v2 μ H locs ls hw hl h
      have B32 : ∀ (v1 : Int32) (v2 : Int32) (μ : Mu) (H : Heap) (locs : List Loc) (ls : Array Slot), wd g μ s (Aw g s.heap.size) H locs → lv_has ls 3 [(0, .ref (g.2.2 171)), (1, .int v1), (2, .int v2)] → X12_only_32 n k4 v1 v2 μ = some r → WQ p l e (rmD 7) s m args below meth c g (some (.int r.1)) r.2 H locs (F0 m 32 ls []) := by
        intro v1 v2 μ H locs ls hw hl h
        rw [X12_only_32] at h
        refine lv_iinc (v := (v2 + (1 : Int32))) (lv' := [(2, .int (v2 + (1 : Int32))), (0, .ref (g.2.2 171)), (1, .int v1)]) hx hb dX12_only_32 hl (k := 2) rfl rfl (by decide) rfl (fun ls hl => ?_)
        refine lv_goto (tgt := 4) hx hb dX12_only_35 (by decide) ?_
        exact ih4 v1 (v2 + (1 : Int32)) μ _ _ _ hw (lv_sub hl [1, 2, 0] rfl) h
      rw [X12_only_4b] at h
      refine lv_iload_n hx hb dX12_only_4 rfl (lv_at hl 2 rfl) ?_
      refine lv_aload_n hx hb dX12_only_5 rfl (lv_at hl 0 rfl) ?_
      obtain ⟨r6, hr6, h⟩ := bnd h
      refine cV (b := 171) (As := []) (rest := [.int v2]) (st1 := [.int r6.1, .int v2]) hC hw (c_X12_pitMany l g n μ r6 hr6) ml_X12_245 im_X12_pitMany se_X12_pitMany k171 (CN := RX12) (T := TX12) (NF := 54) rfl rfl (by decide) rfl hl.1 ⟨Nat.le_of_ble_eq_true rfl, Nat.le_of_ble_eq_true rfl⟩ (Nat.le_of_ble_eq_true rfl) ⟨Nat.zero_le _, Nat.zero_le _⟩ rfl dX12_only_6 (fun H locs hw => ?_)
      refine lv_icmp_ge (tgt := 38) hx hb dX12_only_9 (by decide) (fun hc => ?_) (fun hc => ?_)
      · rw [if_pos hc] at h
        refine lv_iload_n hx hb dX12_only_38 rfl (lv_at hl 1 rfl) ?_
        exact rI hC hw hr hlocks (by rw [← Option.some.inj h]) (by rw [← Option.some.inj h]) dX12_only_39
      · rw [if_neg hc] at h
        refine lv_aload_n hx hb dX12_only_12 rfl (lv_at hl 0 rfl) ?_
        refine lv_iload_n hx hb dX12_only_13 rfl (lv_at hl 2 rfl) ?_
        obtain ⟨r14, hr14, h⟩ := bnd h
        refine cV (b := 171) (As := [.int v2]) (rest := []) (st1 := [.int r14.1]) hC hw (c_X12_whyNot l g n v2 r6.2 r14 hr14) ml_X12_311 im_X12_whyNot se_X12_whyNot k171 (CN := RX12) (T := TX12) (NF := 54) rfl rfl (by decide) rfl hl.1 ⟨Nat.le_of_ble_eq_true rfl, Nat.le_of_ble_eq_true rfl⟩ (Nat.le_of_ble_eq_true rfl) ⟨Nat.zero_le _, Nat.zero_le _⟩ rfl dX12_only_14 (fun H locs hw => ?_)
        refine lv_if_eq (tgt := 23) hx hb dX12_only_17 (by decide) (fun hc => ?_) (fun hc => ?_)
        · rw [if_pos hc] at h
          refine lv_iload_n hx hb dX12_only_23 rfl (lv_at hl 1 rfl) ?_
          refine lv_iconst (v := ((-1) : Int32)) hx hb dX12_only_24 (by decide) ?_
          refine lv_icmp_eq (tgt := 30) hx hb dX12_only_25 (by decide) (fun hc => ?_) (fun hc => ?_)
          · rw [if_pos hc] at h
            refine lv_iload_n hx hb dX12_only_30 rfl (lv_at hl 2 rfl) ?_
            refine lv_istore_n (lv' := [(1, .int v2), (0, .ref (g.2.2 171)), (2, .int v2)]) hx hb dX12_only_31 rfl hl (by decide) rfl (fun ls hl => ?_)
            exact B32 v2 v2 r14.2 _ _ _ hw (lv_sub hl [1, 0, 2] rfl) h
          · rw [if_neg hc] at h
            refine lv_iconst (v := ((-1) : Int32)) hx hb dX12_only_28 (by decide) ?_
            exact rI hC hw hr hlocks (by rw [← Option.some.inj h]) (by rw [← Option.some.inj h]) dX12_only_29
        · rw [if_neg hc] at h
          refine lv_goto (tgt := 32) hx hb dX12_only_20 (by decide) ?_
          exact B32 v1 v2 r14.2 _ _ _ hw (lv_sub hl [0, 1, 2] rfl) h
  refine lv_iconst (v := ((-1) : Int32)) hx hb dX12_only_0 (by decide) ?_
  refine lv_istore_n (lv' := [(1, .int ((-1) : Int32)), (0, .ref (g.2.2 171))]) hx hb dX12_only_1 rfl hl (by decide) rfl (fun ls hl => ?_)
  refine lv_iconst (v := (0 : Int32)) hx hb dX12_only_2 (by decide) ?_
  refine lv_istore_n (lv' := [(2, .int (0 : Int32)), (1, .int ((-1) : Int32)), (0, .ref (g.2.2 171))]) hx hb dX12_only_3 rfl hl (by decide) rfl (fun ls hl => ?_)
  exact B4 n ((-1) : Int32) (0 : Int32) μ _ _ _ hw (lv_sub hl [2, 1, 0] rfl) h
set_option maxRecDepth 100000 in
set_option maxHeartbeats 4000000 in
theorem c_X12_drawn (l : Launch) (g : Gw) (n : Nat) (μ : Mu) (r : Int32 × Mu) (h : X12_drawn n  μ = some r) : Ct l g yX12_drawn cX12_drawn 4 (some .int) 7 [.ref (g.2.2 171)] μ (some (.int r.1)) r.2 := by
  rw [X12_drawn] at h
  refine Ct.of (by decide) (Nat.le_of_ble_eq_true rfl) ?_
  intro p e s m args below meth c ls hC hw hr hlocks hl
  have hx := hC.1
  have hb := hC.2.1
  have hl : lv_has ls 4 [(0, .ref (g.2.2 171))] := hl
  have B42 : ∀ (k : Nat), ∀ (v2 : Int32) (v3 : Int32) (μ : Mu) (H : Heap) (locs : List Loc) (ls : Array Slot), wd g μ s (Aw g s.heap.size) H locs → lv_has ls 4 [(0, .ref (g.2.2 171)), (2, .int v2), (3, .int v3)] → lpF (fun _ _ _ => none) (X12_drawn_42b n) k v2 v3 μ = some r → WQ p l e (rmD 7) s m args below meth c g (some (.int r.1)) r.2 H locs (F0 m 42 ls []) := by
    intro k
    induction k with
    | zero =>
      intro v2 v3 μ H locs ls hw hl h
      cases h
    | succ k ih42 =>
      rw [lpF_s]
      generalize lpF (fun _ _ _ => none) (X12_drawn_42b n) k = k42 at ih42 ⊢
      intro v2 v3 μ H locs ls hw hl h
      have B68 : ∀ (v3 : Int32) (s0 : Int32) (s1 : Int32) (μ : Mu) (H : Heap) (locs : List Loc) (ls : Array Slot), wd g μ s (Aw g s.heap.size) H locs → lv_has ls 4 [(0, .ref (g.2.2 171)), (3, .int v3)] → X12_drawn_68 n k42 v3 s0 s1 μ = some r → WQ p l e (rmD 7) s m args below meth c g (some (.int r.1)) r.2 H locs (F0 m 68 ls [.int s1, .int s0]) := by
        intro v3 s0 s1 μ H locs ls hw hl h
        rw [X12_drawn_68] at h
        refine lv_isub hx hb dX12_drawn_68 ?_
        refine lv_istore_n (lv' := [(2, .int (s0 - s1)), (0, .ref (g.2.2 171)), (3, .int v3)]) hx hb dX12_drawn_69 rfl hl (by decide) rfl (fun ls hl => ?_)
        refine lv_iinc (v := (v3 + (1 : Int32))) (lv' := [(3, .int (v3 + (1 : Int32))), (2, .int (s0 - s1)), (0, .ref (g.2.2 171))]) hx hb dX12_drawn_70 hl (k := 2) rfl rfl (by decide) rfl (fun ls hl => ?_)
        refine lv_goto (tgt := 42) hx hb dX12_drawn_73 (by decide) ?_
        exact ih42 (s0 - s1) (v3 + (1 : Int32)) μ _ _ _ hw (lv_sub hl [2, 1, 0] rfl) h
      have B54 : ∀ (v2 : Int32) (v3 : Int32) (μ : Mu) (H : Heap) (locs : List Loc) (ls : Array Slot), wd g μ s (Aw g s.heap.size) H locs → lv_has ls 4 [(0, .ref (g.2.2 171)), (2, .int v2), (3, .int v3)] → X12_drawn_54 n k42 v2 v3 μ = some r → WQ p l e (rmD 7) s m args below meth c g (some (.int r.1)) r.2 H locs (F0 m 54 ls []) := by
        intro v2 v3 μ H locs ls hw hl h
        rw [X12_drawn_54] at h
        refine lv_iload_n hx hb dX12_drawn_54 rfl (lv_at hl 1 rfl) ?_
        refine lv_aload_n hx hb dX12_drawn_55 rfl (lv_at hl 0 rfl) ?_
        refine lv_iload_n hx hb dX12_drawn_56 rfl (lv_at hl 2 rfl) ?_
        obtain ⟨r57, hr57, h⟩ := bnd h
        refine cV (b := 171) (As := [.int v3]) (rest := [.int v2]) (st1 := [.int r57.1, .int v2]) hC hw (c_X12_whyNot l g n v3 μ r57 hr57) ml_X12_311 im_X12_whyNot se_X12_whyNot k171 (CN := RX12) (T := TX12) (NF := 54) rfl rfl (by decide) rfl hl.1 ⟨Nat.le_of_ble_eq_true rfl, Nat.le_of_ble_eq_true rfl⟩ (Nat.le_of_ble_eq_true rfl) ⟨Nat.zero_le _, Nat.zero_le _⟩ rfl dX12_drawn_57 (fun H locs hw => ?_)
        refine lv_if_ne (tgt := 67) hx hb dX12_drawn_60 (by decide) (fun hc => ?_) (fun hc => ?_)
        · rw [if_neg hc] at h
          refine lv_iconst (v := (0 : Int32)) hx hb dX12_drawn_67 (by decide) ?_
          exact B68 v3 v2 (0 : Int32) r57.2 _ _ _ hw (lv_sub hl [0, 2] rfl) h
        · rw [if_pos hc] at h
          refine lv_iconst (v := (1 : Int32)) hx hb dX12_drawn_63 (by decide) ?_
          refine lv_goto (tgt := 68) hx hb dX12_drawn_64 (by decide) ?_
          exact B68 v3 v2 (1 : Int32) r57.2 _ _ _ hw (lv_sub hl [0, 2] rfl) h
      rw [X12_drawn_42b] at h
      refine lv_aload_n hx hb dX12_drawn_42 rfl (lv_at hl 0 rfl) ?_
      refine lv_iload_n hx hb dX12_drawn_43 rfl (lv_at hl 2 rfl) ?_
      obtain ⟨r44, hr44, h⟩ := bnd h
      refine cV (b := 171) (As := [.int v3]) (rest := []) (st1 := [.int r44.1]) hC hw (c_X12_whyNot l g n v3 μ r44 hr44) ml_X12_311 im_X12_whyNot se_X12_whyNot k171 (CN := RX12) (T := TX12) (NF := 54) rfl rfl (by decide) rfl hl.1 ⟨Nat.le_of_ble_eq_true rfl, Nat.le_of_ble_eq_true rfl⟩ (Nat.le_of_ble_eq_true rfl) ⟨Nat.zero_le _, Nat.zero_le _⟩ rfl dX12_drawn_44 (fun H locs hw => ?_)
      refine lv_if_ne (tgt := 54) hx hb dX12_drawn_47 (by decide) (fun hc => ?_) (fun hc => ?_)
      · rw [if_neg hc] at h
        exact B54 v2 v3 r44.2 _ _ _ hw (lv_sub hl [0, 1, 2] rfl) h
      · rw [if_pos hc] at h
        refine lv_iload_n hx hb dX12_drawn_50 rfl (lv_at hl 1 rfl) ?_
        refine lv_if_le (tgt := 76) hx hb dX12_drawn_51 (by decide) (fun hc => ?_) (fun hc => ?_)
        · rw [if_pos hc] at h
          refine lv_iload_n hx hb dX12_drawn_76 rfl (lv_at hl 2 rfl) ?_
          exact rI hC hw hr hlocks (by rw [← Option.some.inj h]) (by rw [← Option.some.inj h]) dX12_drawn_77
        · rw [if_neg hc] at h
          exact B54 v2 v3 r44.2 _ _ _ hw (lv_sub hl [0, 1, 2] rfl) h
  have B4 : ∀ (k : Nat), ∀ (v1 : Int32) (v2 : Int32) (μ : Mu) (H : Heap) (locs : List Loc) (ls : Array Slot), wd g μ s (Aw g s.heap.size) H locs → lv_has ls 4 [(0, .ref (g.2.2 171)), (1, .int v1), (2, .int v2)] → lpF (fun _ _ _ => none) (X12_drawn_4b n) k v1 v2 μ = some r → WQ p l e (rmD 7) s m args below meth c g (some (.int r.1)) r.2 H locs (F0 m 4 ls []) := by
    intro k
    induction k with
    | zero =>
      intro v1 v2 μ H locs ls hw hl h
      cases h
    | succ k ih4 =>
      rw [lpF_s]
      generalize lpF (fun _ _ _ => none) (X12_drawn_4b n) k = k4 at ih4 ⊢
      intro v1 v2 μ H locs ls hw hl h
      have B26 : ∀ (v2 : Int32) (s0 : Int32) (s1 : Int32) (μ : Mu) (H : Heap) (locs : List Loc) (ls : Array Slot), wd g μ s (Aw g s.heap.size) H locs → lv_has ls 4 [(0, .ref (g.2.2 171)), (2, .int v2)] → X12_drawn_26 n k4 v2 s0 s1 μ = some r → WQ p l e (rmD 7) s m args below meth c g (some (.int r.1)) r.2 H locs (F0 m 26 ls [.int s1, .int s0]) := by
        intro v2 s0 s1 μ H locs ls hw hl h
        rw [X12_drawn_26] at h
        refine lv_iadd hx hb dX12_drawn_26 ?_
        refine lv_istore_n (lv' := [(1, .int (s0 + s1)), (0, .ref (g.2.2 171)), (2, .int v2)]) hx hb dX12_drawn_27 rfl hl (by decide) rfl (fun ls hl => ?_)
        refine lv_iinc (v := (v2 + (1 : Int32))) (lv' := [(2, .int (v2 + (1 : Int32))), (1, .int (s0 + s1)), (0, .ref (g.2.2 171))]) hx hb dX12_drawn_28 hl (k := 2) rfl rfl (by decide) rfl (fun ls hl => ?_)
        refine lv_goto (tgt := 4) hx hb dX12_drawn_31 (by decide) ?_
        exact ih4 (s0 + s1) (v2 + (1 : Int32)) μ _ _ _ hw (lv_sub hl [2, 1, 0] rfl) h
      rw [X12_drawn_4b] at h
      refine lv_iload_n hx hb dX12_drawn_4 rfl (lv_at hl 2 rfl) ?_
      refine lv_aload_n hx hb dX12_drawn_5 rfl (lv_at hl 0 rfl) ?_
      obtain ⟨r6, hr6, h⟩ := bnd h
      refine cV (b := 171) (As := []) (rest := [.int v2]) (st1 := [.int r6.1, .int v2]) hC hw (c_X12_pitMany l g n μ r6 hr6) ml_X12_245 im_X12_pitMany se_X12_pitMany k171 (CN := RX12) (T := TX12) (NF := 54) rfl rfl (by decide) rfl hl.1 ⟨Nat.le_of_ble_eq_true rfl, Nat.le_of_ble_eq_true rfl⟩ (Nat.le_of_ble_eq_true rfl) ⟨Nat.zero_le _, Nat.zero_le _⟩ rfl dX12_drawn_6 (fun H locs hw => ?_)
      refine lv_icmp_ge (tgt := 34) hx hb dX12_drawn_9 (by decide) (fun hc => ?_) (fun hc => ?_)
      · rw [if_pos hc] at h
        refine lv_aload_n hx hb dX12_drawn_34 rfl (lv_at hl 0 rfl) ?_
        refine lv_iload_n hx hb dX12_drawn_35 rfl (lv_at hl 1 rfl) ?_
        obtain ⟨r36, hr36, h⟩ := bnd h
        refine cV (b := 171) (As := [.int v1]) (rest := []) (st1 := [.int r36.1]) hC hw (c_X12_draw l g n v1 r6.2 r36 hr36) ml_X12_462 im_X12_draw se_X12_draw k171 (CN := RX12) (T := TX12) (NF := 54) rfl rfl (by decide) rfl hl.1 ⟨Nat.le_of_ble_eq_true rfl, Nat.le_of_ble_eq_true rfl⟩ (Nat.le_of_ble_eq_true rfl) ⟨Nat.zero_le _, Nat.zero_le _⟩ rfl dX12_drawn_36 (fun H locs hw => ?_)
        refine lv_istore_n (lv' := [(2, .int r36.1), (0, .ref (g.2.2 171)), (1, .int v1)]) hx hb dX12_drawn_39 rfl hl (by decide) rfl (fun ls hl => ?_)
        refine lv_iconst (v := (0 : Int32)) hx hb dX12_drawn_40 (by decide) ?_
        refine lv_istore_n (lv' := [(3, .int (0 : Int32)), (2, .int r36.1), (0, .ref (g.2.2 171)), (1, .int v1)]) hx hb dX12_drawn_41 rfl hl (by decide) rfl (fun ls hl => ?_)
        exact B42 n r36.1 (0 : Int32) r36.2 _ _ _ hw (lv_sub hl [2, 1, 0] rfl) h
      · rw [if_neg hc] at h
        refine lv_iload_n hx hb dX12_drawn_12 rfl (lv_at hl 1 rfl) ?_
        refine lv_aload_n hx hb dX12_drawn_13 rfl (lv_at hl 0 rfl) ?_
        refine lv_iload_n hx hb dX12_drawn_14 rfl (lv_at hl 2 rfl) ?_
        obtain ⟨r15, hr15, h⟩ := bnd h
        refine cV (b := 171) (As := [.int v2]) (rest := [.int v1]) (st1 := [.int r15.1, .int v1]) hC hw (c_X12_whyNot l g n v2 r6.2 r15 hr15) ml_X12_311 im_X12_whyNot se_X12_whyNot k171 (CN := RX12) (T := TX12) (NF := 54) rfl rfl (by decide) rfl hl.1 ⟨Nat.le_of_ble_eq_true rfl, Nat.le_of_ble_eq_true rfl⟩ (Nat.le_of_ble_eq_true rfl) ⟨Nat.zero_le _, Nat.zero_le _⟩ rfl dX12_drawn_15 (fun H locs hw => ?_)
        refine lv_if_ne (tgt := 25) hx hb dX12_drawn_18 (by decide) (fun hc => ?_) (fun hc => ?_)
        · rw [if_neg hc] at h
          refine lv_iconst (v := (0 : Int32)) hx hb dX12_drawn_25 (by decide) ?_
          exact B26 v2 v1 (0 : Int32) r15.2 _ _ _ hw (lv_sub hl [0, 2] rfl) h
        · rw [if_pos hc] at h
          refine lv_iconst (v := (1 : Int32)) hx hb dX12_drawn_21 (by decide) ?_
          refine lv_goto (tgt := 26) hx hb dX12_drawn_22 (by decide) ?_
          exact B26 v2 v1 (1 : Int32) r15.2 _ _ _ hw (lv_sub hl [0, 2] rfl) h
  refine lv_iconst (v := (0 : Int32)) hx hb dX12_drawn_0 (by decide) ?_
  refine lv_istore_n (lv' := [(1, .int (0 : Int32)), (0, .ref (g.2.2 171))]) hx hb dX12_drawn_1 rfl hl (by decide) rfl (fun ls hl => ?_)
  refine lv_iconst (v := (0 : Int32)) hx hb dX12_drawn_2 (by decide) ?_
  refine lv_istore_n (lv' := [(2, .int (0 : Int32)), (1, .int (0 : Int32)), (0, .ref (g.2.2 171))]) hx hb dX12_drawn_3 rfl hl (by decide) rfl (fun ls hl => ?_)
  exact B4 n (0 : Int32) (0 : Int32) μ _ _ _ hw (lv_sub hl [2, 1, 0] rfl) h
set_option maxRecDepth 100000 in
set_option maxHeartbeats 4000000 in
theorem c_X12_playOf (l : Launch) (g : Gw) (n : Nat) (v1 : Int32) (v2 : Int32) (v3 : Int32) (μ : Mu) (r : Int32 × Mu) (h : X12_playOf n v1 v2 v3 μ = some r) : Ct l g yX12_playOf cX12_playOf 6 (some .int) 8 [.ref (g.2.2 171), .int v1, .int v2, .int v3] μ (some (.int r.1)) r.2 := by
  rw [X12_playOf] at h
  refine Ct.of (by decide) (Nat.le_of_ble_eq_true rfl) ?_
  intro p e s m args below meth c ls hC hw hr hlocks hl
  have hx := hC.1
  have hb := hC.2.1
  have hl : lv_has ls 6 [(0, .ref (g.2.2 171)), (1, .int v1), (2, .int v2), (3, .int v3)] := hl
  have B134 : ∀ (s0 : Int32) (μ : Mu) (H : Heap) (locs : List Loc) (ls : Array Slot), wd g μ s (Aw g s.heap.size) H locs → lv_has ls 6 [] → X12_playOf_134 n v1 v2 v3 s0 μ = some r → WQ p l e (rmD 8) s m args below meth c g (some (.int r.1)) r.2 H locs (F0 m 134 ls [.int s0]) := by
    intro s0 μ H locs ls hw hl h
    rw [X12_playOf_134] at h
    exact rI hC hw hr hlocks (by rw [← Option.some.inj h]) (by rw [← Option.some.inj h]) dX12_playOf_134
  have B98 : ∀ (v4 : Int32) (s0 : Int32) (μ : Mu) (H : Heap) (locs : List Loc) (ls : Array Slot), wd g μ s (Aw g s.heap.size) H locs → lv_has ls 6 [(0, .ref (g.2.2 171)), (3, .int v3), (4, .int v4)] → X12_playOf_98 n v1 v2 v3 v4 s0 μ = some r → WQ p l e (rmD 8) s m args below meth c g (some (.int r.1)) r.2 H locs (F0 m 98 ls [.int s0]) := by
    intro v4 s0 μ H locs ls hw hl h
    rw [X12_playOf_98] at h
    refine lv_istore (lv' := [(5, .int s0), (0, .ref (g.2.2 171)), (3, .int v3), (4, .int v4)]) hx hb dX12_playOf_98 hl (by decide) rfl (fun ls hl => ?_)
    refine lv_aload_n hx hb dX12_playOf_100 rfl (lv_at hl 1 rfl) ?_
    refine gR (t := 175) hC hw fl_X12_19 k171 (by decide) t171_3 dX12_playOf_101 ?_
    refine lv_aload_n hx hb dX12_playOf_104 rfl (lv_at hl 1 rfl) ?_
    refine gR (t := 172) hC hw fl_X12_9 k171 (by decide) t171_0 dX12_playOf_105 ?_
    obtain ⟨r108, hr108, h⟩ := bnd h
    refine cS (As := [.ref (g.2.2 175), .ref (g.2.2 172)]) (rest := []) (st1 := []) hC hw (c_X12_copies l g n 175 172 μ r108 hr108) ml_X12_235 st_X12_copies rfl hl.1 ⟨Nat.le_of_ble_eq_true rfl, Nat.le_of_ble_eq_true rfl⟩ (Nat.le_of_ble_eq_true rfl) ⟨Nat.zero_le _, Nat.zero_le _⟩ rfl dX12_playOf_108 (fun H locs hw => ?_)
    refine lv_iload_n hx hb dX12_playOf_111 rfl (lv_at hl 2 rfl) ?_
    refine lv_if_ne (tgt := 120) hx hb dX12_playOf_112 (by decide) (fun hc => ?_) (fun hc => ?_)
    · rw [if_neg hc] at h
      refine lv_iload_n hx hb dX12_playOf_120 rfl (lv_at hl 2 rfl) ?_
      refine lv_iconst (v := (1 : Int32)) hx hb dX12_playOf_121 (by decide) ?_
      refine lv_icmp_ne (tgt := 132) hx hb dX12_playOf_122 (by decide) (fun hc => ?_) (fun hc => ?_)
      · rw [if_neg hc] at h
        refine lv_iload hx hb dX12_playOf_132 (lv_at hl 0 rfl) ?_
        exact B134 s0 r108.2 _ _ _ hw (lv_sub hl [] rfl) h
      · rw [if_pos hc] at h
        refine lv_aload_n hx hb dX12_playOf_125 rfl (lv_at hl 1 rfl) ?_
        refine gI hC hw fl_X12_465 k171 (by decide) dX12_playOf_126 ?_
        refine lv_goto (tgt := 134) hx hb dX12_playOf_129 (by decide) ?_
        exact B134 (r108.2.1 171 50) r108.2 _ _ _ hw (lv_sub hl [] rfl) h
    · rw [if_pos hc] at h
      refine lv_iload hx hb dX12_playOf_115 (lv_at hl 3 rfl) ?_
      refine lv_goto (tgt := 134) hx hb dX12_playOf_117 (by decide) ?_
      exact B134 v4 r108.2 _ _ _ hw (lv_sub hl [] rfl) h
  have B80 : ∀ (μ : Mu) (H : Heap) (locs : List Loc) (ls : Array Slot), wd g μ s (Aw g s.heap.size) H locs → lv_has ls 6 [(0, .ref (g.2.2 171)), (3, .int v3)] → X12_playOf_80 n v1 v2 v3  μ = some r → WQ p l e (rmD 8) s m args below meth c g (some (.int r.1)) r.2 H locs (F0 m 80 ls []) := by
    intro μ H locs ls hw hl h
    rw [X12_playOf_80] at h
    refine lv_aload_n hx hb dX12_playOf_80 rfl (lv_at hl 0 rfl) ?_
    obtain ⟨r81, hr81, h⟩ := bnd h
    refine cV (b := 171) (As := []) (rest := []) (st1 := [.int r81.1]) hC hw (c_X12_scoreNow l g n μ r81 hr81) ml_X12_316 im_X12_scoreNow se_X12_scoreNow k171 (CN := RX12) (T := TX12) (NF := 54) rfl rfl (by decide) rfl hl.1 ⟨Nat.le_of_ble_eq_true rfl, Nat.le_of_ble_eq_true rfl⟩ (Nat.le_of_ble_eq_true rfl) ⟨Nat.zero_le _, Nat.zero_le _⟩ rfl dX12_playOf_81 (fun H locs hw => ?_)
    refine lv_istore (lv' := [(4, .int r81.1), (0, .ref (g.2.2 171)), (3, .int v3)]) hx hb dX12_playOf_84 hl (by decide) rfl (fun ls hl => ?_)
    refine lv_aload_n hx hb dX12_playOf_86 rfl (lv_at hl 1 rfl) ?_
    obtain ⟨r87, hr87, h⟩ := bnd h
    refine cV (b := 171) (As := []) (rest := []) (st1 := [.int r87.1]) hC hw (c_X12_isOver l g n r81.2 r87 hr87) ml_X12_305 im_X12_isOver se_X12_isOver k171 (CN := RX12) (T := TX12) (NF := 54) rfl rfl (by decide) rfl hl.1 ⟨Nat.le_of_ble_eq_true rfl, Nat.le_of_ble_eq_true rfl⟩ (Nat.le_of_ble_eq_true rfl) ⟨Nat.zero_le _, Nat.zero_le _⟩ rfl dX12_playOf_87 (fun H locs hw => ?_)
    refine lv_if_eq (tgt := 97) hx hb dX12_playOf_90 (by decide) (fun hc => ?_) (fun hc => ?_)
    · rw [if_pos hc] at h
      refine lv_iconst (v := (0 : Int32)) hx hb dX12_playOf_97 (by decide) ?_
      exact B98 r81.1 (0 : Int32) r87.2 _ _ _ hw (lv_sub hl [1, 2, 0] rfl) h
    · rw [if_neg hc] at h
      refine lv_iconst (v := (1 : Int32)) hx hb dX12_playOf_93 (by decide) ?_
      refine lv_goto (tgt := 98) hx hb dX12_playOf_94 (by decide) ?_
      exact B98 r81.1 (1 : Int32) r87.2 _ _ _ hw (lv_sub hl [1, 2, 0] rfl) h
  have B21 : ∀ (k : Nat), ∀ (μ : Mu) (H : Heap) (locs : List Loc) (ls : Array Slot), wd g μ s (Aw g s.heap.size) H locs → lv_has ls 6 [(0, .ref (g.2.2 171)), (2, .int v2), (3, .int v3)] → lpF (fun _ => none) (X12_playOf_21b n v1 v2 v3) k  μ = some r → WQ p l e (rmD 8) s m args below meth c g (some (.int r.1)) r.2 H locs (F0 m 21 ls []) := by
    intro k
    induction k with
    | zero =>
      intro μ H locs ls hw hl h
      cases h
    | succ k ih21 =>
      rw [lpF_s]
      generalize lpF (fun _ => none) (X12_playOf_21b n v1 v2 v3) k = k21 at ih21 ⊢
      intro μ H locs ls hw hl h
      have B63 : ∀ (s1 : Int32) (μ : Mu) (H : Heap) (locs : List Loc) (ls : Array Slot), wd g μ s (Aw g s.heap.size) H locs → lv_has ls 6 [(0, .ref (g.2.2 171)), (2, .int v2), (3, .int v3)] → X12_playOf_63 n v1 v2 v3 k21 s1 μ = some r → WQ p l e (rmD 8) s m args below meth c g (some (.int r.1)) r.2 H locs (F0 m 63 ls [.int s1, .ref (g.2.2 171)]) := by
        intro s1 μ H locs ls hw hl h
        rw [X12_playOf_63] at h
        obtain ⟨r63, hr63, h⟩ := bnd h
        refine cV (b := 171) (As := [.int s1]) (rest := []) (st1 := [.int r63.1]) hC hw (c_X12_moves l g n s1 μ r63 hr63) ml_X12_326 im_X12_moves se_X12_moves k171 (CN := RX12) (T := TX12) (NF := 54) rfl rfl (by decide) rfl hl.1 ⟨Nat.le_of_ble_eq_true rfl, Nat.le_of_ble_eq_true rfl⟩ (Nat.le_of_ble_eq_true rfl) ⟨Nat.zero_le _, Nat.zero_le _⟩ rfl dX12_playOf_63 (fun H locs hw => ?_)
        refine lv_pop hx hb dX12_playOf_66 rfl ?_
        refine lv_aload_n hx hb dX12_playOf_67 rfl (lv_at hl 0 rfl) ?_
        refine lv_dup hx hb dX12_playOf_68 rfl ?_
        refine gI hC hw fl_X12_465 k171 (by decide) dX12_playOf_69 ?_
        refine lv_iconst (v := (1 : Int32)) hx hb dX12_playOf_72 (by decide) ?_
        refine lv_iadd hx hb dX12_playOf_73 ?_
        refine pI hC hw fl_X12_465 fp_12_50 k171 dX12_playOf_74 (fun H locs hw => ?_)
        refine lv_goto (tgt := 21) hx hb dX12_playOf_77 (by decide) ?_
        exact ih21 (si r63.2 171 50 ((r63.2.1 171 50) + (1 : Int32))) _ _ _ hw (lv_sub hl [0, 1, 2] rfl) h
      have B59 : ∀ (μ : Mu) (H : Heap) (locs : List Loc) (ls : Array Slot), wd g μ s (Aw g s.heap.size) H locs → lv_has ls 6 [(0, .ref (g.2.2 171)), (2, .int v2), (3, .int v3)] → X12_playOf_59 n v1 v2 v3 k21  μ = some r → WQ p l e (rmD 8) s m args below meth c g (some (.int r.1)) r.2 H locs (F0 m 59 ls [.ref (g.2.2 171)]) := by
        intro μ H locs ls hw hl h
        rw [X12_playOf_59] at h
        refine lv_aload_n hx hb dX12_playOf_59 rfl (lv_at hl 0 rfl) ?_
        obtain ⟨r60, hr60, h⟩ := bnd h
        refine cV (b := 171) (As := []) (rest := [.ref (g.2.2 171)]) (st1 := [.int r60.1, .ref (g.2.2 171)]) hC hw (c_X12_drawn l g n μ r60 hr60) ml_X12_468 im_X12_drawn se_X12_drawn k171 (CN := RX12) (T := TX12) (NF := 54) rfl rfl (by decide) rfl hl.1 ⟨Nat.le_of_ble_eq_true rfl, Nat.le_of_ble_eq_true rfl⟩ (Nat.le_of_ble_eq_true rfl) ⟨Nat.zero_le _, Nat.zero_le _⟩ rfl dX12_playOf_60 (fun H locs hw => ?_)
        exact B63 r60.1 r60.2 _ _ _ hw (lv_sub hl [0, 1, 2] rfl) h
      rw [X12_playOf_21b] at h
      refine lv_aload_n hx hb dX12_playOf_21 rfl (lv_at hl 0 rfl) ?_
      refine gI hC hw fl_X12_465 k171 (by decide) dX12_playOf_22 ?_
      refine lv_bipush (v := (100 : Int32)) hx hb dX12_playOf_25 (by decide) ?_
      refine lv_icmp_ge (tgt := 80) hx hb dX12_playOf_27 (by decide) (fun hc => ?_) (fun hc => ?_)
      · rw [if_pos hc] at h
        exact B80 μ _ _ _ hw (lv_sub hl [0, 2] rfl) h
      · rw [if_neg hc] at h
        refine lv_aload_n hx hb dX12_playOf_30 rfl (lv_at hl 0 rfl) ?_
        obtain ⟨r31, hr31, h⟩ := bnd h
        refine cV (b := 171) (As := []) (rest := []) (st1 := [.int r31.1]) hC hw (c_X12_isOver l g n μ r31 hr31) ml_X12_305 im_X12_isOver se_X12_isOver k171 (CN := RX12) (T := TX12) (NF := 54) rfl rfl (by decide) rfl hl.1 ⟨Nat.le_of_ble_eq_true rfl, Nat.le_of_ble_eq_true rfl⟩ (Nat.le_of_ble_eq_true rfl) ⟨Nat.zero_le _, Nat.zero_le _⟩ rfl dX12_playOf_31 (fun H locs hw => ?_)
        refine lv_if_ne (tgt := 80) hx hb dX12_playOf_34 (by decide) (fun hc => ?_) (fun hc => ?_)
        · rw [if_neg hc] at h
          exact B80 r31.2 _ _ _ hw (lv_sub hl [0, 2] rfl) h
        · rw [if_pos hc] at h
          refine lv_aload_n hx hb dX12_playOf_37 rfl (lv_at hl 0 rfl) ?_
          refine lv_iload_n hx hb dX12_playOf_38 rfl (lv_at hl 1 rfl) ?_
          refine lv_if_eq (tgt := 59) hx hb dX12_playOf_39 (by decide) (fun hc => ?_) (fun hc => ?_)
          · rw [if_pos hc] at h
            exact B59 r31.2 _ _ _ hw (lv_sub hl [0, 1, 2] rfl) h
          · rw [if_neg hc] at h
            refine lv_aload_n hx hb dX12_playOf_42 rfl (lv_at hl 0 rfl) ?_
            refine gR (t := 172) hC hw fl_X12_9 k171 (by decide) t171_0 dX12_playOf_43 ?_
            refine lv_iconst (v := (2 : Int32)) hx hb dX12_playOf_46 (by decide) ?_
            refine lI (j := 2) hC hw k172 n172 (vin (by decide)) (by decide) dX12_playOf_47 ?_
            refine lv_iconst (v := (1 : Int32)) hx hb dX12_playOf_48 (by decide) ?_
            refine lv_icmp_ne (tgt := 59) hx hb dX12_playOf_49 (by decide) (fun hc => ?_) (fun hc => ?_)
            · rw [if_neg hc] at h
              exact B59 r31.2 _ _ _ hw (lv_sub hl [0, 1, 2] rfl) h
            · rw [if_pos hc] at h
              refine lv_aload_n hx hb dX12_playOf_52 rfl (lv_at hl 0 rfl) ?_
              obtain ⟨r53, hr53, h⟩ := bnd h
              refine cV (b := 171) (As := []) (rest := [.ref (g.2.2 171)]) (st1 := [.int r53.1, .ref (g.2.2 171)]) hC hw (c_X12_bestNow l g n r31.2 r53 hr53) ml_X12_416 im_X12_bestNow se_X12_bestNow k171 (CN := RX12) (T := TX12) (NF := 54) rfl rfl (by decide) rfl hl.1 ⟨Nat.le_of_ble_eq_true rfl, Nat.le_of_ble_eq_true rfl⟩ (Nat.le_of_ble_eq_true rfl) ⟨Nat.zero_le _, Nat.zero_le _⟩ rfl dX12_playOf_53 (fun H locs hw => ?_)
              refine lv_goto (tgt := 63) hx hb dX12_playOf_56 (by decide) ?_
              exact B63 r53.1 r53.2 _ _ _ hw (lv_sub hl [0, 1, 2] rfl) h
  refine lv_aload_n hx hb dX12_playOf_0 rfl (lv_at hl 0 rfl) ?_
  refine gR (t := 172) hC hw fl_X12_9 k171 (by decide) t171_0 dX12_playOf_1 ?_
  refine lv_aload_n hx hb dX12_playOf_4 rfl (lv_at hl 0 rfl) ?_
  refine gR (t := 175) hC hw fl_X12_19 k171 (by decide) t171_3 dX12_playOf_5 ?_
  obtain ⟨r8, hr8, h⟩ := bnd h
  refine cS (As := [.ref (g.2.2 172), .ref (g.2.2 175)]) (rest := []) (st1 := []) hC hw (c_X12_copies l g n 172 175 μ r8 hr8) ml_X12_235 st_X12_copies rfl hl.1 ⟨Nat.le_of_ble_eq_true rfl, Nat.le_of_ble_eq_true rfl⟩ (Nat.le_of_ble_eq_true rfl) ⟨Nat.zero_le _, Nat.zero_le _⟩ rfl dX12_playOf_8 (fun H locs hw => ?_)
  refine lv_aload_n hx hb dX12_playOf_11 rfl (lv_at hl 0 rfl) ?_
  refine lv_iload_n hx hb dX12_playOf_12 rfl (lv_at hl 1 rfl) ?_
  refine pI hC hw fl_X12_459 fp_12_49 k171 dX12_playOf_13 (fun H locs hw => ?_)
  refine lv_aload_n hx hb dX12_playOf_16 rfl (lv_at hl 0 rfl) ?_
  refine lv_iconst (v := (0 : Int32)) hx hb dX12_playOf_17 (by decide) ?_
  refine pI hC hw fl_X12_465 fp_12_50 k171 dX12_playOf_18 (fun H locs hw => ?_)
  exact B21 n (si (si r8.2 171 49 v1) 171 50 (0 : Int32)) _ _ _ hw (lv_sub hl [0, 2, 3] rfl) h
set_option maxRecDepth 100000 in
set_option maxHeartbeats 4000000 in
theorem c_X12_play (l : Launch) (g : Gw) (n : Nat) (v1 : Int32) (v2 : Int32) (μ : Mu) (r : Int32 × Mu) (h : X12_play n v1 v2 μ = some r) : Ct l g yX12_play cX12_play 3 (some .int) 9 [.ref (g.2.2 171), .int v1, .int v2] μ (some (.int r.1)) r.2 := by
  rw [X12_play] at h
  refine Ct.of (by decide) (Nat.le_of_ble_eq_true rfl) ?_
  intro p e s m args below meth c ls hC hw hr hlocks hl
  have hx := hC.1
  have hb := hC.2.1
  have hl : lv_has ls 3 [(0, .ref (g.2.2 171)), (1, .int v1), (2, .int v2)] := hl
  have B39 : ∀ (s0 : Int32) (μ : Mu) (H : Heap) (locs : List Loc) (ls : Array Slot), wd g μ s (Aw g s.heap.size) H locs → lv_has ls 3 [] → X12_play_39 n v1 v2 s0 μ = some r → WQ p l e (rmD 9) s m args below meth c g (some (.int r.1)) r.2 H locs (F0 m 39 ls [.int s0]) := by
    intro s0 μ H locs ls hw hl h
    rw [X12_play_39] at h
    exact rI hC hw hr hlocks (by rw [← Option.some.inj h]) (by rw [← Option.some.inj h]) dX12_play_39
  have B18 : ∀ (s1 : Int32) (μ : Mu) (H : Heap) (locs : List Loc) (ls : Array Slot), wd g μ s (Aw g s.heap.size) H locs → lv_has ls 3 [(0, .ref (g.2.2 171)), (1, .int v1), (2, .int v2)] → X12_play_18 n v1 v2 s1 μ = some r → WQ p l e (rmD 9) s m args below meth c g (some (.int r.1)) r.2 H locs (F0 m 18 ls [.int s1, .ref (g.2.2 171)]) := by
    intro s1 μ H locs ls hw hl h
    rw [X12_play_18] at h
    refine pI hC hw fl_X12_107 fp_12_5 k171 dX12_play_18 (fun H locs hw => ?_)
    refine lv_aload_n hx hb dX12_play_21 rfl (lv_at hl 0 rfl) ?_
    refine gI hC hw fl_X12_107 k171 (by decide) dX12_play_22 ?_
    refine lv_if_le (tgt := 32) hx hb dX12_play_25 (by decide) (fun hc => ?_) (fun hc => ?_)
    · rw [if_pos hc] at h
      refine lv_aload_n hx hb dX12_play_32 rfl (lv_at hl 0 rfl) ?_
      refine lv_iload_n hx hb dX12_play_33 rfl (lv_at hl 1 rfl) ?_
      refine lv_iconst (v := (0 : Int32)) hx hb dX12_play_34 (by decide) ?_
      refine lv_iload_n hx hb dX12_play_35 rfl (lv_at hl 2 rfl) ?_
      obtain ⟨r36, hr36, h⟩ := bnd h
      refine cV (b := 171) (As := [.int v1, .int (0 : Int32), .int v2]) (rest := []) (st1 := [.int r36.1]) hC hw (c_X12_playOf l g n v1 (0 : Int32) v2 (si μ 171 5 s1) r36 hr36) ml_X12_471 im_X12_playOf se_X12_playOf k171 (CN := RX12) (T := TX12) (NF := 54) rfl rfl (by decide) rfl hl.1 ⟨Nat.le_of_ble_eq_true rfl, Nat.le_of_ble_eq_true rfl⟩ (Nat.le_of_ble_eq_true rfl) ⟨Nat.zero_le _, Nat.zero_le _⟩ rfl dX12_play_36 (fun H locs hw => ?_)
      exact B39 r36.1 r36.2 _ _ _ hw (lv_sub hl [] rfl) h
    · rw [if_neg hc] at h
      refine lv_iconst (v := (0 : Int32)) hx hb dX12_play_28 (by decide) ?_
      refine lv_goto (tgt := 39) hx hb dX12_play_29 (by decide) ?_
      exact B39 (0 : Int32) (si μ 171 5 s1) _ _ _ hw (lv_sub hl [] rfl) h
  refine lv_aload_n hx hb dX12_play_0 rfl (lv_at hl 0 rfl) ?_
  refine lv_iload_n hx hb dX12_play_1 rfl (lv_at hl 2 rfl) ?_
  refine lv_i2l hx hb dX12_play_2 rfl ?_
  refine lv_lconst (v := (0 : Int64)) hx hb dX12_play_3 (by decide) ?_
  refine lv_ldc2 (v := (2 : Int64)) hx hb hC.2.2.2.1 (hC.2.2.2.2.1 _ cl_X12_453) dX12_play_4 ?_
  obtain ⟨r7, hr7, h⟩ := bnd h
  refine cS (As := [.long (v2.toInt64), .long (0 : Int64), .long (2 : Int64)]) (rest := [.ref (g.2.2 171)]) (st1 := [.int r7.1, .ref (g.2.2 171)]) hC hw (c_X12_within l g n (v2.toInt64) (0 : Int64) (2 : Int64) μ r7 hr7) ml_X12_166 st_X12_within rfl hl.1 ⟨Nat.le_of_ble_eq_true rfl, Nat.le_of_ble_eq_true rfl⟩ (Nat.le_of_ble_eq_true rfl) ⟨Nat.zero_le _, Nat.zero_le _⟩ rfl dX12_play_7 (fun H locs hw => ?_)
  refine lv_if_eq (tgt := 17) hx hb dX12_play_10 (by decide) (fun hc => ?_) (fun hc => ?_)
  · rw [if_pos hc] at h
    refine lv_iconst (v := (1 : Int32)) hx hb dX12_play_17 (by decide) ?_
    exact B18 (1 : Int32) r7.2 _ _ _ hw (lv_sub hl [0, 1, 2] rfl) h
  · rw [if_neg hc] at h
    refine lv_iconst (v := (0 : Int32)) hx hb dX12_play_13 (by decide) ?_
    refine lv_goto (tgt := 18) hx hb dX12_play_14 (by decide) ?_
    exact B18 (0 : Int32) r7.2 _ _ _ hw (lv_sub hl [0, 1, 2] rfl) h
set_option maxRecDepth 100000 in
set_option maxHeartbeats 4000000 in
theorem c_X1_build (l : Launch) (g : Gw) (n : Nat) (μ : Mu) (r : Unit × Mu) (h : X1_build n  μ = some r) : Ct l g yX1_build cX1_build 2 none 3 [.ref (g.2.2 2)] μ none r.2 := by
  rw [X1_build] at h
  refine Ct.of (by decide) (Nat.le_of_ble_eq_true rfl) ?_
  intro p e s m args below meth c ls hC hw hr hlocks hl
  have hx := hC.1
  have hb := hC.2.1
  have hl : lv_has ls 2 [(0, .ref (g.2.2 2))] := hl
  have B72 : ∀ (s1 : Int32) (μ : Mu) (H : Heap) (locs : List Loc) (ls : Array Slot), wd g μ s (Aw g s.heap.size) H locs → lv_has ls 2 [] → X1_build_72 n s1 μ = some r → WQ p l e (rmD 3) s m args below meth c g none r.2 H locs (F0 m 72 ls [.int s1, .ref (g.2.2 2)]) := by
    intro s1 μ H locs ls hw hl h
    rw [X1_build_72] at h
    obtain ⟨hz72, h⟩ := bz_some h
    refine pZ hC hw fl_X1_63 fp_1_3 k2 hz72 dX1_build_72 (fun H locs hw => ?_)
    exact rV hC hw hr hlocks rfl (by rw [← Option.some.inj h]) dX1_build_75
  have B67 : ∀ (μ : Mu) (H : Heap) (locs : List Loc) (ls : Array Slot), wd g μ s (Aw g s.heap.size) H locs → lv_has ls 2 [] → X1_build_67 n  μ = some r → WQ p l e (rmD 3) s m args below meth c g none r.2 H locs (F0 m 67 ls [.ref (g.2.2 2)]) := by
    intro μ H locs ls hw hl h
    rw [X1_build_67] at h
    refine lv_iconst (v := (1 : Int32)) hx hb dX1_build_67 (by decide) ?_
    refine lv_goto (tgt := 72) hx hb dX1_build_68 (by decide) ?_
    exact B72 (1 : Int32) μ _ _ _ hw (lv_sub hl [] rfl) h
  have B71 : ∀ (μ : Mu) (H : Heap) (locs : List Loc) (ls : Array Slot), wd g μ s (Aw g s.heap.size) H locs → lv_has ls 2 [] → X1_build_71 n  μ = some r → WQ p l e (rmD 3) s m args below meth c g none r.2 H locs (F0 m 71 ls [.ref (g.2.2 2)]) := by
    intro μ H locs ls hw hl h
    rw [X1_build_71] at h
    refine lv_iconst (v := (0 : Int32)) hx hb dX1_build_71 (by decide) ?_
    exact B72 (0 : Int32) μ _ _ _ hw (lv_sub hl [] rfl) h
  have B7 : ∀ (k : Nat), ∀ (v1 : Int32) (μ : Mu) (H : Heap) (locs : List Loc) (ls : Array Slot), wd g μ s (Aw g s.heap.size) H locs → lv_has ls 2 [(0, .ref (g.2.2 2)), (1, .int v1)] → lpF (fun _ _ => none) (X1_build_7b n) k v1 μ = some r → WQ p l e (rmD 3) s m args below meth c g none r.2 H locs (F0 m 7 ls []) := by
    intro k
    induction k with
    | zero =>
      intro v1 μ H locs ls hw hl h
      cases h
    | succ k ih7 =>
      rw [lpF_s]
      generalize lpF (fun _ _ => none) (X1_build_7b n) k = k7 at ih7 ⊢
      intro v1 μ H locs ls hw hl h
      rw [X1_build_7b] at h
      refine lv_iload_n hx hb dX1_build_7 rfl (lv_at hl 1 rfl) ?_
      refine lv_iconst (v := (2 : Int32)) hx hb dX1_build_8 (by decide) ?_
      refine lv_icmp_ge (tgt := 28) hx hb dX1_build_9 (by decide) (fun hc => ?_) (fun hc => ?_)
      · rw [if_pos hc] at h
        refine lv_aload_n hx hb dX1_build_28 rfl (lv_at hl 0 rfl) ?_
        refine lv_aload_n hx hb dX1_build_29 rfl (lv_at hl 0 rfl) ?_
        refine gR (t := 1) hC hw fl_X1_21 k2 (by decide) t2_4 dX1_build_30 ?_
        refine gI hC hw fl_X1_48 k1 (by decide) dX1_build_33 ?_
        refine lv_if_gt (tgt := 67) hx hb dX1_build_36 (by decide) (fun hc => ?_) (fun hc => ?_)
        · rw [if_pos hc] at h
          exact B67 μ _ _ _ hw (lv_sub hl [] rfl) h
        · rw [if_neg hc] at h
          refine lv_aload_n hx hb dX1_build_39 rfl (lv_at hl 0 rfl) ?_
          refine gR (t := 1) hC hw fl_X1_21 k2 (by decide) t2_4 dX1_build_40 ?_
          refine gI hC hw fl_X1_54 k1 (by decide) dX1_build_43 ?_
          refine lv_if_eq (tgt := 71) hx hb dX1_build_46 (by decide) (fun hc => ?_) (fun hc => ?_)
          · rw [if_pos hc] at h
            exact B71 μ _ _ _ hw (lv_sub hl [] rfl) h
          · rw [if_neg hc] at h
            refine lv_aload_n hx hb dX1_build_49 rfl (lv_at hl 0 rfl) ?_
            refine gR (t := 1) hC hw fl_X1_21 k2 (by decide) t2_4 dX1_build_50 ?_
            refine gI hC hw fl_X1_57 k1 (by decide) dX1_build_53 ?_
            refine lv_if_ne (tgt := 71) hx hb dX1_build_56 (by decide) (fun hc => ?_) (fun hc => ?_)
            · rw [if_neg hc] at h
              exact B71 μ _ _ _ hw (lv_sub hl [] rfl) h
            · rw [if_pos hc] at h
              refine lv_aload_n hx hb dX1_build_59 rfl (lv_at hl 0 rfl) ?_
              refine gI hC hw fl_X1_60 k2 (by decide) dX1_build_60 ?_
              refine lv_iconst (v := (1 : Int32)) hx hb dX1_build_63 (by decide) ?_
              refine lv_icmp_ne (tgt := 71) hx hb dX1_build_64 (by decide) (fun hc => ?_) (fun hc => ?_)
              · rw [if_neg hc] at h
                exact B71 μ _ _ _ hw (lv_sub hl [] rfl) h
              · rw [if_pos hc] at h
                exact B67 μ _ _ _ hw (lv_sub hl [] rfl) h
      · rw [if_neg hc] at h
        refine lv_aload_n hx hb dX1_build_12 rfl (lv_at hl 0 rfl) ?_
        refine lv_iload_n hx hb dX1_build_13 rfl (lv_at hl 1 rfl) ?_
        obtain ⟨r14, hr14, h⟩ := bnd h
        refine cV (b := 2) (As := [.int v1]) (rest := []) (st1 := []) hC hw (c_X1_linkWay l g n v1 μ r14 hr14) ml_X1_41 im_X1_linkWay se_X1_linkWay k2 (CN := RX1) (T := TX1) (NF := 7) rfl rfl (by decide) rfl hl.1 ⟨Nat.le_of_ble_eq_true rfl, Nat.le_of_ble_eq_true rfl⟩ (Nat.le_of_ble_eq_true rfl) ⟨Nat.zero_le _, Nat.zero_le _⟩ rfl dX1_build_14 (fun H locs hw => ?_)
        refine lv_aload_n hx hb dX1_build_17 rfl (lv_at hl 0 rfl) ?_
        refine lv_iload_n hx hb dX1_build_18 rfl (lv_at hl 1 rfl) ?_
        obtain ⟨r19, hr19, h⟩ := bnd h
        refine cV (b := 2) (As := [.int v1]) (rest := []) (st1 := []) hC hw (c_X1_listSeen l g n v1 r14.2 r19 hr19) ml_X1_45 im_X1_listSeen se_X1_listSeen k2 (CN := RX1) (T := TX1) (NF := 7) rfl rfl (by decide) rfl hl.1 ⟨Nat.le_of_ble_eq_true rfl, Nat.le_of_ble_eq_true rfl⟩ (Nat.le_of_ble_eq_true rfl) ⟨Nat.zero_le _, Nat.zero_le _⟩ rfl dX1_build_19 (fun H locs hw => ?_)
        refine lv_iinc (v := (v1 + (1 : Int32))) (lv' := [(1, .int (v1 + (1 : Int32))), (0, .ref (g.2.2 2))]) hx hb dX1_build_22 hl (k := 1) rfl rfl (by decide) rfl (fun ls hl => ?_)
        refine lv_goto (tgt := 7) hx hb dX1_build_25 (by decide) ?_
        exact ih7 (v1 + (1 : Int32)) r19.2 _ _ _ hw (lv_sub hl [1, 0] rfl) h
  refine lv_aload_n hx hb dX1_build_0 rfl (lv_at hl 0 rfl) ?_
  refine lv_iconst (v := (1 : Int32)) hx hb dX1_build_1 (by decide) ?_
  refine pZ hC hw fl_X1_37 fp_1_2 k2 (Or.inr rfl) dX1_build_2 (fun H locs hw => ?_)
  refine lv_iconst (v := (0 : Int32)) hx hb dX1_build_5 (by decide) ?_
  refine lv_istore_n (lv' := [(1, .int (0 : Int32)), (0, .ref (g.2.2 2))]) hx hb dX1_build_6 rfl hl (by decide) rfl (fun ls hl => ?_)
  exact B7 n (0 : Int32) (si μ 2 2 (1 : Int32)) _ _ _ hw (lv_sub hl [1, 0] rfl) h
set_option maxRecDepth 100000 in
set_option maxHeartbeats 4000000 in
theorem c_X4_readSeeds (l : Launch) (g : Gw) (n : Nat) (μ : Mu) (r : Unit × Mu) (h : X4_readSeeds n  μ = some r) : Ct l g yX4_readSeeds cX4_readSeeds 3 none 3 [.ref (g.2.2 12)] μ none r.2 := by
  rw [X4_readSeeds] at h
  refine Ct.of (by decide) (Nat.le_of_ble_eq_true rfl) ?_
  intro p e s m args below meth c ls hC hw hr hlocks hl
  have hx := hC.1
  have hb := hC.2.1
  have hl : lv_has ls 3 [(0, .ref (g.2.2 12))] := hl
  have B78 : ∀ (μ : Mu) (H : Heap) (locs : List Loc) (ls : Array Slot), wd g μ s (Aw g s.heap.size) H locs → lv_has ls 3 [] → X4_readSeeds_78 n  μ = some r → WQ p l e (rmD 3) s m args below meth c g none r.2 H locs (F0 m 78 ls []) := by
    intro μ H locs ls hw hl h
    rw [X4_readSeeds_78] at h
    exact rV hC hw hr hlocks rfl (by rw [← Option.some.inj h]) dX4_readSeeds_78
  have B6 : ∀ (k : Nat), ∀ (v1 : Int32) (μ : Mu) (H : Heap) (locs : List Loc) (ls : Array Slot), wd g μ s (Aw g s.heap.size) H locs → lv_has ls 3 [(0, .ref (g.2.2 12)), (1, .int v1)] → lpF (fun _ _ => none) (X4_readSeeds_6b n) k v1 μ = some r → WQ p l e (rmD 3) s m args below meth c g none r.2 H locs (F0 m 6 ls []) := by
    intro k
    induction k with
    | zero =>
      intro v1 μ H locs ls hw hl h
      cases h
    | succ k ih6 =>
      rw [lpF_s]
      generalize lpF (fun _ _ => none) (X4_readSeeds_6b n) k = k6 at ih6 ⊢
      intro v1 μ H locs ls hw hl h
      have B39 : ∀ (v1 : Int32) (v2 : Int32) (μ : Mu) (H : Heap) (locs : List Loc) (ls : Array Slot), wd g μ s (Aw g s.heap.size) H locs → lv_has ls 3 [(0, .ref (g.2.2 12)), (1, .int v1), (2, .int v2)] → X4_readSeeds_39 n k6 v1 v2 μ = some r → WQ p l e (rmD 3) s m args below meth c g none r.2 H locs (F0 m 39 ls []) := by
        intro v1 v2 μ H locs ls hw hl h
        rw [X4_readSeeds_39] at h
        refine lv_aload_n hx hb dX4_readSeeds_39 rfl (lv_at hl 0 rfl) ?_
        refine gI hC hw fl_X4_40 k12 (by decide) dX4_readSeeds_40 ?_
        refine lv_if_eq (tgt := 47) hx hb dX4_readSeeds_43 (by decide) (fun hc => ?_) (fun hc => ?_)
        · rw [if_pos hc] at h
          refine lv_aload_n hx hb dX4_readSeeds_47 rfl (lv_at hl 0 rfl) ?_
          refine gR (t := 149) hC hw fl_X4_21 k12 (by decide) t12_1 dX4_readSeeds_48 ?_
          refine gR (t := 150) hC hw fl_X4_66 k149 (by decide) t149_0 dX4_readSeeds_51 ?_
          refine lv_iload_n hx hb dX4_readSeeds_54 rfl (lv_at hl 1 rfl) ?_
          refine lv_iload_n hx hb dX4_readSeeds_55 rfl (lv_at hl 2 rfl) ?_
          obtain ⟨hi56, h⟩ := gd_some h
          refine sI (j := v1.toNatClampNeg) hC hw k150 n150 hi56 rfl dX4_readSeeds_56 (fun H locs hw => ?_)
          refine lv_iinc (v := (v1 + (1 : Int32))) (lv' := [(1, .int (v1 + (1 : Int32))), (0, .ref (g.2.2 12)), (2, .int v2)]) hx hb dX4_readSeeds_57 hl (k := 1) rfl rfl (by decide) rfl (fun ls hl => ?_)
          refine lv_aload_n hx hb dX4_readSeeds_60 rfl (lv_at hl 1 rfl) ?_
          obtain ⟨r61, hr61, h⟩ := bnd h
          refine cV (b := 12) (As := []) (rest := []) (st1 := []) hC hw (c_X4_step l g n (si μ 150 v1.toNatClampNeg v2) r61 hr61) ml_X4_49 im_X4_step se_X4_step k12 (CN := RX4) (T := TX4) (NF := 11) rfl rfl (by decide) rfl hl.1 ⟨Nat.le_of_ble_eq_true rfl, Nat.le_of_ble_eq_true rfl⟩ (Nat.le_of_ble_eq_true rfl) ⟨Nat.zero_le _, Nat.zero_le _⟩ rfl dX4_readSeeds_61 (fun H locs hw => ?_)
          refine lv_aload_n hx hb dX4_readSeeds_64 rfl (lv_at hl 1 rfl) ?_
          refine gI hC hw fl_X4_52 k12 (by decide) dX4_readSeeds_65 ?_
          refine lv_iconst (v := (2 : Int32)) hx hb dX4_readSeeds_68 (by decide) ?_
          refine lv_icmp_ne (tgt := 78) hx hb dX4_readSeeds_69 (by decide) (fun hc => ?_) (fun hc => ?_)
          · rw [if_neg hc] at h
            exact B78 r61.2 _ _ _ hw (lv_sub hl [] rfl) h
          · rw [if_pos hc] at h
            refine lv_iload_n hx hb dX4_readSeeds_72 rfl (lv_at hl 0 rfl) ?_
            refine lv_bipush (v := (12 : Int32)) hx hb dX4_readSeeds_73 (by decide) ?_
            refine lv_icmp_le (tgt := 6) hx hb dX4_readSeeds_75 (by decide) (fun hc => ?_) (fun hc => ?_)
            · rw [if_pos hc] at h
              exact ih6 (v1 + (1 : Int32)) r61.2 _ _ _ hw (lv_sub hl [1, 0] rfl) h
            · rw [if_neg hc] at h
              exact B78 r61.2 _ _ _ hw (lv_sub hl [] rfl) h
        · rw [if_neg hc] at h
          exact rV hC hw hr hlocks rfl (by rw [← Option.some.inj h]) dX4_readSeeds_46
      rw [X4_readSeeds_6b] at h
      refine lv_aload_n hx hb dX4_readSeeds_6 rfl (lv_at hl 0 rfl) ?_
      refine lv_iconst (v := (0 : Int32)) hx hb dX4_readSeeds_7 (by decide) ?_
      refine lv_bipush (v := (20 : Int32)) hx hb dX4_readSeeds_8 (by decide) ?_
      obtain ⟨r10, hr10, h⟩ := bnd h
      refine cV (b := 12) (As := [.int (0 : Int32), .int (20 : Int32)]) (rest := []) (st1 := [.int r10.1]) hC hw (c_X4_checkedNumber l g n (0 : Int32) (20 : Int32) μ r10 hr10) ml_X4_127 im_X4_checkedNumber se_X4_checkedNumber k12 (CN := RX4) (T := TX4) (NF := 11) rfl rfl (by decide) rfl hl.1 ⟨Nat.le_of_ble_eq_true rfl, Nat.le_of_ble_eq_true rfl⟩ (Nat.le_of_ble_eq_true rfl) ⟨Nat.zero_le _, Nat.zero_le _⟩ rfl dX4_readSeeds_10 (fun H locs hw => ?_)
      refine lv_istore_n (lv' := [(2, .int r10.1), (0, .ref (g.2.2 12)), (1, .int v1)]) hx hb dX4_readSeeds_13 rfl hl (by decide) rfl (fun ls hl => ?_)
      refine lv_aload_n hx hb dX4_readSeeds_14 rfl (lv_at hl 1 rfl) ?_
      refine gI hC hw fl_X4_40 k12 (by decide) dX4_readSeeds_15 ?_
      refine lv_if_ne (tgt := 39) hx hb dX4_readSeeds_18 (by decide) (fun hc => ?_) (fun hc => ?_)
      · rw [if_neg hc] at h
        exact B39 v1 r10.1 r10.2 _ _ _ hw (lv_sub hl [1, 2, 0] rfl) h
      · rw [if_pos hc] at h
        refine lv_iload_n hx hb dX4_readSeeds_21 rfl (lv_at hl 2 rfl) ?_
        refine lv_iconst (v := (2 : Int32)) hx hb dX4_readSeeds_22 (by decide) ?_
        refine lv_aload_n hx hb dX4_readSeeds_23 rfl (lv_at hl 1 rfl) ?_
        refine gR (t := 13) hC hw fl_X4_12 k12 (by decide) t12_0 dX4_readSeeds_24 ?_
        refine gI hC hw fl_X4_105 k13 (by decide) dX4_readSeeds_27 ?_
        refine lv_imul hx hb dX4_readSeeds_30 ?_
        refine lv_icmp_lt (tgt := 39) hx hb dX4_readSeeds_31 (by decide) (fun hc => ?_) (fun hc => ?_)
        · rw [if_pos hc] at h
          exact B39 v1 r10.1 r10.2 _ _ _ hw (lv_sub hl [1, 2, 0] rfl) h
        · rw [if_neg hc] at h
          refine lv_aload_n hx hb dX4_readSeeds_34 rfl (lv_at hl 1 rfl) ?_
          refine lv_iconst (v := (4 : Int32)) hx hb dX4_readSeeds_35 (by decide) ?_
          obtain ⟨r36, hr36, h⟩ := bnd h
          refine cV (b := 12) (As := [.int (4 : Int32)]) (rest := []) (st1 := []) hC hw (c_X4_refuse l g n (4 : Int32) r10.2 r36 hr36) ml_X4_120 im_X4_refuse se_X4_refuse k12 (CN := RX4) (T := TX4) (NF := 11) rfl rfl (by decide) rfl hl.1 ⟨Nat.le_of_ble_eq_true rfl, Nat.le_of_ble_eq_true rfl⟩ (Nat.le_of_ble_eq_true rfl) ⟨Nat.zero_le _, Nat.zero_le _⟩ rfl dX4_readSeeds_36 (fun H locs hw => ?_)
          exact B39 v1 r10.1 r36.2 _ _ _ hw (lv_sub hl [1, 2, 0] rfl) h
  refine lv_aload_n hx hb dX4_readSeeds_0 rfl (lv_at hl 0 rfl) ?_
  obtain ⟨r1, hr1, h⟩ := bnd h
  refine cV (b := 12) (As := []) (rest := []) (st1 := []) hC hw (c_X4_step l g n μ r1 hr1) ml_X4_49 im_X4_step se_X4_step k12 (CN := RX4) (T := TX4) (NF := 11) rfl rfl (by decide) rfl hl.1 ⟨Nat.le_of_ble_eq_true rfl, Nat.le_of_ble_eq_true rfl⟩ (Nat.le_of_ble_eq_true rfl) ⟨Nat.zero_le _, Nat.zero_le _⟩ rfl dX4_readSeeds_1 (fun H locs hw => ?_)
  refine lv_iconst (v := (0 : Int32)) hx hb dX4_readSeeds_4 (by decide) ?_
  refine lv_istore_n (lv' := [(1, .int (0 : Int32)), (0, .ref (g.2.2 12))]) hx hb dX4_readSeeds_5 rfl hl (by decide) rfl (fun ls hl => ?_)
  exact B6 n (0 : Int32) r1.2 _ _ _ hw (lv_sub hl [1, 0] rfl) h
set_option maxRecDepth 100000 in
set_option maxHeartbeats 4000000 in
theorem c_X4_readNumber (l : Launch) (g : Gw) (n : Nat) (v1 : Int32) (v2 : Int32) (μ : Mu) (r : Int32 × Mu) (h : X4_readNumber n v1 v2 μ = some r) : Ct l g yX4_readNumber cX4_readNumber 4 (some .int) 3 [.ref (g.2.2 12), .int v1, .int v2] μ (some (.int r.1)) r.2 := by
  rw [X4_readNumber] at h
  refine Ct.of (by decide) (Nat.le_of_ble_eq_true rfl) ?_
  intro p e s m args below meth c ls hC hw hr hlocks hl
  have hx := hC.1
  have hb := hC.2.1
  have hl : lv_has ls 4 [(0, .ref (g.2.2 12)), (1, .int v1), (2, .int v2)] := hl
  have B18 : ∀ (v3 : Int32) (μ : Mu) (H : Heap) (locs : List Loc) (ls : Array Slot), wd g μ s (Aw g s.heap.size) H locs → lv_has ls 4 [(3, .int v3)] → X4_readNumber_18 n v1 v2 v3 μ = some r → WQ p l e (rmD 3) s m args below meth c g (some (.int r.1)) r.2 H locs (F0 m 18 ls []) := by
    intro v3 μ H locs ls hw hl h
    rw [X4_readNumber_18] at h
    refine lv_iload_n hx hb dX4_readNumber_18 rfl (lv_at hl 0 rfl) ?_
    exact rI hC hw hr hlocks (by rw [← Option.some.inj h]) (by rw [← Option.some.inj h]) dX4_readNumber_19
  refine lv_aload_n hx hb dX4_readNumber_0 rfl (lv_at hl 0 rfl) ?_
  refine lv_iload_n hx hb dX4_readNumber_1 rfl (lv_at hl 1 rfl) ?_
  refine lv_iload_n hx hb dX4_readNumber_2 rfl (lv_at hl 2 rfl) ?_
  obtain ⟨r3, hr3, h⟩ := bnd h
  refine cV (b := 12) (As := [.int v1, .int v2]) (rest := []) (st1 := [.int r3.1]) hC hw (c_X4_checkedNumber l g n v1 v2 μ r3 hr3) ml_X4_127 im_X4_checkedNumber se_X4_checkedNumber k12 (CN := RX4) (T := TX4) (NF := 11) rfl rfl (by decide) rfl hl.1 ⟨Nat.le_of_ble_eq_true rfl, Nat.le_of_ble_eq_true rfl⟩ (Nat.le_of_ble_eq_true rfl) ⟨Nat.zero_le _, Nat.zero_le _⟩ rfl dX4_readNumber_3 (fun H locs hw => ?_)
  refine lv_istore_n (lv' := [(3, .int r3.1), (0, .ref (g.2.2 12)), (1, .int v1), (2, .int v2)]) hx hb dX4_readNumber_6 rfl hl (by decide) rfl (fun ls hl => ?_)
  refine lv_aload_n hx hb dX4_readNumber_7 rfl (lv_at hl 1 rfl) ?_
  refine gI hC hw fl_X4_40 k12 (by decide) dX4_readNumber_8 ?_
  refine lv_if_ne (tgt := 18) hx hb dX4_readNumber_11 (by decide) (fun hc => ?_) (fun hc => ?_)
  · rw [if_neg hc] at h
    exact B18 r3.1 r3.2 _ _ _ hw (lv_sub hl [0] rfl) h
  · rw [if_pos hc] at h
    refine lv_aload_n hx hb dX4_readNumber_14 rfl (lv_at hl 1 rfl) ?_
    obtain ⟨r15, hr15, h⟩ := bnd h
    refine cV (b := 12) (As := []) (rest := []) (st1 := []) hC hw (c_X4_step l g n r3.2 r15 hr15) ml_X4_49 im_X4_step se_X4_step k12 (CN := RX4) (T := TX4) (NF := 11) rfl rfl (by decide) rfl hl.1 ⟨Nat.le_of_ble_eq_true rfl, Nat.le_of_ble_eq_true rfl⟩ (Nat.le_of_ble_eq_true rfl) ⟨Nat.zero_le _, Nat.zero_le _⟩ rfl dX4_readNumber_15 (fun H locs hw => ?_)
    exact B18 r3.1 r15.2 _ _ _ hw (lv_sub hl [0] rfl) h
