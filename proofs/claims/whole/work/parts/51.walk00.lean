set_option maxRecDepth 100000 in
set_option maxHeartbeats 4000000 in
theorem c_X12_playsOf_k (l : Launch) (g : Gw) (n : Nat) : ∀ (k : Nat) (v1 : Int32) (μ : Mu) (r : Int32 × Mu) (h : lpF (fun _ _ => none) (X12_playsOf_body n) k v1 μ = some r), Ct l g yX12_playsOf cX12_playsOf 4 (some .int) (7 + k) [.ref (g.2.2 171), .int v1] μ (some (.int r.1)) r.2 := by
  intro kr
  induction kr with
  | zero =>
    intro v1 μ r h
    cases h
  | succ kr ihself =>
    rw [lpF_s]
    generalize lpF (fun _ _ => none) (X12_playsOf_body n) kr = kself at ihself ⊢
    intro v1 μ r h
    rw [X12_playsOf_body] at h
    refine Ct.of (by decide) (Nat.le_of_ble_eq_true rfl) ?_
    intro p e s m args below meth c ls hC hw hr hlocks hl
    have hx := hC.1
    have hb := hC.2.1
    have hl : lv_has ls 4 [(0, .ref (g.2.2 171)), (1, .int v1)] := hl
    have B22 : ∀ (k : Nat), ∀ (v2 : Int32) (v3 : Int32) (μ : Mu) (H : Heap) (locs : List Loc) (ls : Array Slot), wd g μ s (Aw g s.heap.size) H locs → lv_has ls 4 [(0, .ref (g.2.2 171)), (1, .int v1), (2, .int v2), (3, .int v3)] → lpF (fun _ _ _ => none) (X12_playsOf_22b n kself v1) k v2 v3 μ = some r → WQ p l e (rmD (7 + kr + 1)) s m args below meth c g (some (.int r.1)) r.2 H locs (F0 m 22 ls []) := by
      intro k
      induction k with
      | zero =>
        intro v2 v3 μ H locs ls hw hl h
        cases h
      | succ k ih22 =>
        rw [lpF_s]
        generalize lpF (fun _ _ _ => none) (X12_playsOf_22b n kself v1) k = k22 at ih22 ⊢
        intro v2 v3 μ H locs ls hw hl h
        have B69 : ∀ (v2 : Int32) (v3 : Int32) (μ : Mu) (H : Heap) (locs : List Loc) (ls : Array Slot), wd g μ s (Aw g s.heap.size) H locs → lv_has ls 4 [(0, .ref (g.2.2 171)), (1, .int v1), (2, .int v2), (3, .int v3)] → X12_playsOf_69 n kself v1 k22 v2 v3 μ = some r → WQ p l e (rmD (7 + kr + 1)) s m args below meth c g (some (.int r.1)) r.2 H locs (F0 m 69 ls []) := by
          intro v2 v3 μ H locs ls hw hl h
          rw [X12_playsOf_69] at h
          refine lv_iinc (v := (v3 + (1 : Int32))) (lv' := [(3, .int (v3 + (1 : Int32))), (0, .ref (g.2.2 171)), (1, .int v1), (2, .int v2)]) hx hb dX12_playsOf_69 hl (k := 3) rfl rfl (by decide) rfl (fun ls hl => ?_)
          refine lv_goto (tgt := 22) hx hb dX12_playsOf_72 (by decide) ?_
          exact ih22 v2 (v3 + (1 : Int32)) μ _ _ _ hw (lv_sub hl [1, 2, 3, 0] rfl) h
        rw [X12_playsOf_22b] at h
        refine lv_iload_n hx hb dX12_playsOf_22 rfl (lv_at hl 3 rfl) ?_
        refine lv_aload_n hx hb dX12_playsOf_23 rfl (lv_at hl 0 rfl) ?_
        obtain ⟨r24, hr24, h⟩ := bnd h
        refine cV (b := 171) (As := []) (rest := [.int v3]) (st1 := [.int r24.1, .int v3]) hC hw (c_X12_pitMany l g n μ r24 hr24) ml_X12_245 im_X12_pitMany se_X12_pitMany ok171 (CN := RX12) (T := TX12) (NF := 54) rfl rfl (by decide) rfl hl.1 ⟨by show 0 + 1 ≤ 7 + kr + 1; omega, by show 8 + (1 + 11) + 40 * 0 ≤ 40 * (7 + kr + 1); omega⟩ (Nat.le_of_ble_eq_true rfl) ⟨Nat.zero_le _, Nat.zero_le _⟩ rfl dX12_playsOf_24 (fun H locs hw => ?_)
        refine lv_icmp_ge (tgt := 75) hx hb dX12_playsOf_27 (by decide) (fun hc => ?_) (fun hc => ?_)
        · rw [if_pos hc] at h
          refine lv_iload_n hx hb dX12_playsOf_75 rfl (lv_at hl 2 rfl) ?_
          exact rI hC hw hr hlocks (by rw [← Option.some.inj h]) (by rw [← Option.some.inj h]) dX12_playsOf_76
        · rw [if_neg hc] at h
          refine lv_aload_n hx hb dX12_playsOf_30 rfl (lv_at hl 0 rfl) ?_
          refine lv_iload_n hx hb dX12_playsOf_31 rfl (lv_at hl 3 rfl) ?_
          obtain ⟨r32, hr32, h⟩ := bnd h
          refine cV (b := 171) (As := [.int v3]) (rest := []) (st1 := [.int r32.1]) hC hw (c_X12_whyNot l g n v3 r24.2 r32 hr32) ml_X12_311 im_X12_whyNot se_X12_whyNot ok171 (CN := RX12) (T := TX12) (NF := 54) rfl rfl (by decide) rfl hl.1 ⟨by show 6 + 1 ≤ 7 + kr + 1; omega, by show 8 + (2 + 11) + 40 * 6 ≤ 40 * (7 + kr + 1); omega⟩ (Nat.le_of_ble_eq_true rfl) ⟨Nat.zero_le _, Nat.zero_le _⟩ rfl dX12_playsOf_32 (fun H locs hw => ?_)
          refine lv_if_eq (tgt := 41) hx hb dX12_playsOf_35 (by decide) (fun hc => ?_) (fun hc => ?_)
          · rw [if_pos hc] at h
            refine lv_aload_n hx hb dX12_playsOf_41 rfl (lv_at hl 0 rfl) ?_
            refine lv_iload_n hx hb dX12_playsOf_42 rfl (lv_at hl 3 rfl) ?_
            obtain ⟨r43, hr43, h⟩ := bnd h
            refine cV (b := 171) (As := [.int v3]) (rest := []) (st1 := [.int r43.1]) hC hw (c_X12_moves l g n v3 r32.2 r43 hr43) ml_X12_326 im_X12_moves se_X12_moves ok171 (CN := RX12) (T := TX12) (NF := 54) rfl rfl (by decide) rfl hl.1 ⟨by show 5 + 1 ≤ 7 + kr + 1; omega, by show 8 + (3 + 11) + 40 * 5 ≤ 40 * (7 + kr + 1); omega⟩ (Nat.le_of_ble_eq_true rfl) ⟨Nat.zero_le _, Nat.zero_le _⟩ rfl dX12_playsOf_43 (fun H locs hw => ?_)
            refine lv_pop hx hb dX12_playsOf_46 rfl ?_
            refine lv_iload_n hx hb dX12_playsOf_47 rfl (lv_at hl 2 rfl) ?_
            refine lv_aload_n hx hb dX12_playsOf_48 rfl (lv_at hl 0 rfl) ?_
            refine lv_iload_n hx hb dX12_playsOf_49 rfl (lv_at hl 1 rfl) ?_
            refine lv_iconst (v := (1 : Int32)) hx hb dX12_playsOf_50 (by decide) ?_
            refine lv_isub hx hb dX12_playsOf_51 ?_
            obtain ⟨r52, hr52, h⟩ := bnd h
            refine cV (b := 171) (As := [.int (v1 - (1 : Int32))]) (rest := [.int v2]) (st1 := [.int r52.1, .int v2]) hC hw (ihself (v1 - (1 : Int32)) r43.2 r52 hr52) ml_X12_436 im_X12_playsOf se_X12_playsOf ok171 (CN := RX12) (T := TX12) (NF := 54) rfl rfl (by decide) rfl hl.1 ⟨by show (7 + kr) + 1 ≤ 7 + kr + 1; omega, by show 8 + (4 + 11) + 40 * (7 + kr) ≤ 40 * (7 + kr + 1); omega⟩ (Nat.le_of_ble_eq_true rfl) ⟨Nat.zero_le _, Nat.zero_le _⟩ rfl dX12_playsOf_52 (fun H locs hw => ?_)
            refine lv_iadd hx hb dX12_playsOf_55 ?_
            refine lv_istore_n (lv' := [(2, .int (v2 + r52.1)), (0, .ref (g.2.2 171)), (1, .int v1), (3, .int v3)]) hx hb dX12_playsOf_56 rfl hl (by decide) rfl (fun ls hl => ?_)
            refine lv_aload_n hx hb dX12_playsOf_57 rfl (lv_at hl 1 rfl) ?_
            refine gR (t := 195) hC hw fl_X12_88 ok171 (by decide) ot171_45 dX12_playsOf_58 ?_
            refine lv_iload_n hx hb dX12_playsOf_61 rfl (lv_at hl 2 rfl) ?_
            refine lv_aload_n hx hb dX12_playsOf_62 rfl (lv_at hl 1 rfl) ?_
            refine gR (t := 172) hC hw fl_X12_9 ok171 (by decide) ot171_0 dX12_playsOf_63 ?_
            obtain ⟨r66, hr66, h⟩ := bnd h
            refine cS (As := [.ref (g.2.2 195), .int v1, .ref (g.2.2 172)]) (rest := []) (st1 := []) hC hw (c_X12_gets l g n 195 v1 172 r52.2 r66 hr66) ml_X12_332 st_X12_gets rfl hl.1 ⟨by show 0 + 1 ≤ 7 + kr + 1; omega, by show 8 + (4 + 11) + 40 * 0 ≤ 40 * (7 + kr + 1); omega⟩ (Nat.le_of_ble_eq_true rfl) ⟨Nat.zero_le _, Nat.zero_le _⟩ rfl dX12_playsOf_66 (fun H locs hw => ?_)
            exact B69 (v2 + r52.1) v3 r66.2 _ _ _ hw (lv_sub hl [1, 2, 0, 3] rfl) h
          · rw [if_neg hc] at h
            refine lv_goto (tgt := 69) hx hb dX12_playsOf_38 (by decide) ?_
            exact B69 v2 v3 r32.2 _ _ _ hw (lv_sub hl [0, 1, 2, 3] rfl) h
    refine lv_iload_n hx hb dX12_playsOf_0 rfl (lv_at hl 1 rfl) ?_
    refine lv_if_ne (tgt := 6) hx hb dX12_playsOf_1 (by decide) (fun hc => ?_) (fun hc => ?_)
    · rw [if_neg hc] at h
      refine lv_iconst (v := (0 : Int32)) hx hb dX12_playsOf_6 (by decide) ?_
      refine lv_istore_n (lv' := [(2, .int (0 : Int32)), (0, .ref (g.2.2 171)), (1, .int v1)]) hx hb dX12_playsOf_7 rfl hl (by decide) rfl (fun ls hl => ?_)
      refine lv_aload_n hx hb dX12_playsOf_8 rfl (lv_at hl 1 rfl) ?_
      refine gR (t := 195) hC hw fl_X12_88 ok171 (by decide) ot171_45 dX12_playsOf_9 ?_
      refine lv_iload_n hx hb dX12_playsOf_12 rfl (lv_at hl 2 rfl) ?_
      refine lv_aload_n hx hb dX12_playsOf_13 rfl (lv_at hl 1 rfl) ?_
      refine gR (t := 172) hC hw fl_X12_9 ok171 (by decide) ot171_0 dX12_playsOf_14 ?_
      obtain ⟨r17, hr17, h⟩ := bnd h
      refine cS (As := [.ref (g.2.2 195), .int v1, .ref (g.2.2 172)]) (rest := []) (st1 := []) hC hw (c_X12_puts l g n 195 v1 172 μ r17 hr17) ml_X12_319 st_X12_puts rfl hl.1 ⟨by show 0 + 1 ≤ 7 + kr + 1; omega, by show 8 + (4 + 11) + 40 * 0 ≤ 40 * (7 + kr + 1); omega⟩ (Nat.le_of_ble_eq_true rfl) ⟨Nat.zero_le _, Nat.zero_le _⟩ rfl dX12_playsOf_17 (fun H locs hw => ?_)
      refine lv_iconst (v := (0 : Int32)) hx hb dX12_playsOf_20 (by decide) ?_
      refine lv_istore_n (lv' := [(3, .int (0 : Int32)), (2, .int (0 : Int32)), (0, .ref (g.2.2 171)), (1, .int v1)]) hx hb dX12_playsOf_21 rfl hl (by decide) rfl (fun ls hl => ?_)
      exact B22 n (0 : Int32) (0 : Int32) r17.2 _ _ _ hw (lv_sub hl [2, 3, 1, 0] rfl) h
    · rw [if_pos hc] at h
      refine lv_iconst (v := (1 : Int32)) hx hb dX12_playsOf_4 (by decide) ?_
      exact rI hC hw hr hlocks (by rw [← Option.some.inj h]) (by rw [← Option.some.inj h]) dX12_playsOf_5
theorem c_X12_playsOf (l : Launch) (g : Gw) (n : Nat) (v1 : Int32) (μ : Mu) (r : Int32 × Mu) (h : X12_playsOf n v1 μ = some r) : Ct l g yX12_playsOf cX12_playsOf 4 (some .int) 15 [.ref (g.2.2 171), .int v1] μ (some (.int r.1)) r.2 := c_X12_playsOf_k l g n 8 v1 μ r h
set_option maxRecDepth 100000 in
set_option maxHeartbeats 4000000 in
theorem c_X12_plays (l : Launch) (g : Gw) (n : Nat) (v1 : Int32) (μ : Mu) (r : Int32 × Mu) (h : X12_plays n v1 μ = some r) : Ct l g yX12_plays cX12_plays 2 (some .int) 16 [.ref (g.2.2 171), .int v1] μ (some (.int r.1)) r.2 := by
  rw [X12_plays] at h
  refine Ct.of (by decide) (Nat.le_of_ble_eq_true rfl) ?_
  intro p e s m args below meth c ls hC hw hr hlocks hl
  have hx := hC.1
  have hb := hC.2.1
  have hl : lv_has ls 2 [(0, .ref (g.2.2 171)), (1, .int v1)] := hl
  have B37 : ∀ (s0 : Int32) (μ : Mu) (H : Heap) (locs : List Loc) (ls : Array Slot), wd g μ s (Aw g s.heap.size) H locs → lv_has ls 2 [] → X12_plays_37 n v1 s0 μ = some r → WQ p l e (rmD 16) s m args below meth c g (some (.int r.1)) r.2 H locs (F0 m 37 ls [.int s0]) := by
    intro s0 μ H locs ls hw hl h
    rw [X12_plays_37] at h
    exact rI hC hw hr hlocks (by rw [← Option.some.inj h]) (by rw [← Option.some.inj h]) dX12_plays_37
  have B18 : ∀ (s1 : Int32) (μ : Mu) (H : Heap) (locs : List Loc) (ls : Array Slot), wd g μ s (Aw g s.heap.size) H locs → lv_has ls 2 [(0, .ref (g.2.2 171)), (1, .int v1)] → X12_plays_18 n v1 s1 μ = some r → WQ p l e (rmD 16) s m args below meth c g (some (.int r.1)) r.2 H locs (F0 m 18 ls [.int s1, .ref (g.2.2 171)]) := by
    intro s1 μ H locs ls hw hl h
    rw [X12_plays_18] at h
    refine pI hC hw fl_X12_107 fp_12_5 ok171 dX12_plays_18 (fun H locs hw => ?_)
    refine lv_aload_n hx hb dX12_plays_21 rfl (lv_at hl 0 rfl) ?_
    refine gI hC hw fl_X12_107 ok171 (by decide) dX12_plays_22 ?_
    refine lv_if_le (tgt := 32) hx hb dX12_plays_25 (by decide) (fun hc => ?_) (fun hc => ?_)
    · rw [if_pos hc] at h
      refine lv_aload_n hx hb dX12_plays_32 rfl (lv_at hl 0 rfl) ?_
      refine lv_iload_n hx hb dX12_plays_33 rfl (lv_at hl 1 rfl) ?_
      obtain ⟨r34, hr34, h⟩ := bnd h
      refine cV (b := 171) (As := [.int v1]) (rest := []) (st1 := [.int r34.1]) hC hw (c_X12_playsOf l g n v1 (si μ 171 5 s1) r34 hr34) ml_X12_436 im_X12_playsOf se_X12_playsOf ok171 (CN := RX12) (T := TX12) (NF := 54) rfl rfl (by decide) rfl hl.1 ⟨Nat.le_of_ble_eq_true rfl, Nat.le_of_ble_eq_true rfl⟩ (Nat.le_of_ble_eq_true rfl) ⟨Nat.zero_le _, Nat.zero_le _⟩ rfl dX12_plays_34 (fun H locs hw => ?_)
      exact B37 r34.1 r34.2 _ _ _ hw (lv_sub hl [] rfl) h
    · rw [if_neg hc] at h
      refine lv_iconst (v := (0 : Int32)) hx hb dX12_plays_28 (by decide) ?_
      refine lv_goto (tgt := 37) hx hb dX12_plays_29 (by decide) ?_
      exact B37 (0 : Int32) (si μ 171 5 s1) _ _ _ hw (lv_sub hl [] rfl) h
  refine lv_aload_n hx hb dX12_plays_0 rfl (lv_at hl 0 rfl) ?_
  refine lv_iload_n hx hb dX12_plays_1 rfl (lv_at hl 1 rfl) ?_
  refine lv_i2l hx hb dX12_plays_2 rfl ?_
  refine lv_lconst (v := (0 : Int64)) hx hb dX12_plays_3 (by decide) ?_
  refine lv_ldc2 (v := (5 : Int64)) hx hb hC.2.2.2.1 (hC.2.2.2.2.1 _ cl_X12_428) dX12_plays_4 ?_
  obtain ⟨r7, hr7, h⟩ := bnd h
  refine cS (As := [.long (v1.toInt64), .long (0 : Int64), .long (5 : Int64)]) (rest := [.ref (g.2.2 171)]) (st1 := [.int r7.1, .ref (g.2.2 171)]) hC hw (c_X12_within l g n (v1.toInt64) (0 : Int64) (5 : Int64) μ r7 hr7) ml_X12_166 st_X12_within rfl hl.1 ⟨Nat.le_of_ble_eq_true rfl, Nat.le_of_ble_eq_true rfl⟩ (Nat.le_of_ble_eq_true rfl) ⟨Nat.zero_le _, Nat.zero_le _⟩ rfl dX12_plays_7 (fun H locs hw => ?_)
  refine lv_if_eq (tgt := 17) hx hb dX12_plays_10 (by decide) (fun hc => ?_) (fun hc => ?_)
  · rw [if_pos hc] at h
    refine lv_iconst (v := (1 : Int32)) hx hb dX12_plays_17 (by decide) ?_
    exact B18 (1 : Int32) r7.2 _ _ _ hw (lv_sub hl [0, 1] rfl) h
  · rw [if_neg hc] at h
    refine lv_iconst (v := (0 : Int32)) hx hb dX12_plays_13 (by decide) ?_
    refine lv_goto (tgt := 18) hx hb dX12_plays_14 (by decide) ?_
    exact B18 (0 : Int32) r7.2 _ _ _ hw (lv_sub hl [0, 1] rfl) h
set_option maxRecDepth 100000 in
set_option maxHeartbeats 4000000 in
theorem c_X12_reaches_k (l : Launch) (g : Gw) (n : Nat) : ∀ (k : Nat) (v1 : Int32) (μ : Mu) (r : Unit × Mu) (h : lpF (fun _ _ => none) (X12_reaches_body n) k v1 μ = some r), Ct l g yX12_reaches cX12_reaches 3 none (7 + k) [.ref (g.2.2 171), .int v1] μ none r.2 := by
  intro kr
  induction kr with
  | zero =>
    intro v1 μ r h
    cases h
  | succ kr ihself =>
    rw [lpF_s]
    generalize lpF (fun _ _ => none) (X12_reaches_body n) kr = kself at ihself ⊢
    intro v1 μ r h
    rw [X12_reaches_body] at h
    refine Ct.of (by decide) (Nat.le_of_ble_eq_true rfl) ?_
    intro p e s m args below meth c ls hC hw hr hlocks hl
    have hx := hC.1
    have hb := hC.2.1
    have hl : lv_has ls 3 [(0, .ref (g.2.2 171)), (1, .int v1)] := hl
    have B6 : ∀ (k : Nat), ∀ (v2 : Int32) (μ : Mu) (H : Heap) (locs : List Loc) (ls : Array Slot), wd g μ s (Aw g s.heap.size) H locs → lv_has ls 3 [(0, .ref (g.2.2 171)), (2, .int v2)] → lpF (fun _ _ => none) (X12_reaches_6b n kself v1) k v2 μ = some r → WQ p l e (rmD (7 + kr + 1)) s m args below meth c g none r.2 H locs (F0 m 6 ls []) := by
      intro k
      induction k with
      | zero =>
        intro v2 μ H locs ls hw hl h
        cases h
      | succ k ih6 =>
        rw [lpF_s]
        generalize lpF (fun _ _ => none) (X12_reaches_6b n kself v1) k = k6 at ih6 ⊢
        intro v2 μ H locs ls hw hl h
        rw [X12_reaches_6b] at h
        refine lv_iload_n hx hb dX12_reaches_6 rfl (lv_at hl 1 rfl) ?_
        refine lv_aload_n hx hb dX12_reaches_7 rfl (lv_at hl 0 rfl) ?_
        refine gI hC hw fl_X12_439 ok171 (by decide) dX12_reaches_8 ?_
        refine lv_icmp_ge (tgt := 29) hx hb dX12_reaches_11 (by decide) (fun hc => ?_) (fun hc => ?_)
        · rw [if_pos hc] at h
          refine lv_aload_n hx hb dX12_reaches_29 rfl (lv_at hl 0 rfl) ?_
          refine gR (t := 196) hC hw fl_X12_91 ok171 (by decide) ot171_46 dX12_reaches_30 ?_
          refine lv_aload_n hx hb dX12_reaches_33 rfl (lv_at hl 0 rfl) ?_
          refine gI hC hw fl_X12_439 ok171 (by decide) dX12_reaches_34 ?_
          refine lv_aload_n hx hb dX12_reaches_37 rfl (lv_at hl 0 rfl) ?_
          refine gR (t := 172) hC hw fl_X12_9 ok171 (by decide) ot171_0 dX12_reaches_38 ?_
          obtain ⟨r41, hr41, h⟩ := bnd h
          refine cS (As := [.ref (g.2.2 196), .int (μ.1 171 47), .ref (g.2.2 172)]) (rest := []) (st1 := []) hC hw (c_X12_puts l g n 196 (μ.1 171 47) 172 μ r41 hr41) ml_X12_319 st_X12_puts rfl hl.1 ⟨by show 0 + 1 ≤ 7 + kr + 1; omega, by show 8 + (4 + 11) + 40 * 0 ≤ 40 * (7 + kr + 1); omega⟩ (Nat.le_of_ble_eq_true rfl) ⟨Nat.zero_le _, Nat.zero_le _⟩ rfl dX12_reaches_41 (fun H locs hw => ?_)
          refine lv_aload_n hx hb dX12_reaches_44 rfl (lv_at hl 0 rfl) ?_
          refine lv_dup hx hb dX12_reaches_45 rfl ?_
          refine gI hC hw fl_X12_439 ok171 (by decide) dX12_reaches_46 ?_
          refine lv_iconst (v := (1 : Int32)) hx hb dX12_reaches_49 (by decide) ?_
          refine lv_iadd hx hb dX12_reaches_50 ?_
          refine pI hC hw fl_X12_439 fp_12_47 ok171 dX12_reaches_51 (fun H locs hw => ?_)
          exact rV hC hw hr hlocks rfl (by rw [← Option.some.inj h]) dX12_reaches_54
        · rw [if_neg hc] at h
          refine lv_aload_n hx hb dX12_reaches_14 rfl (lv_at hl 0 rfl) ?_
          refine lv_iload_n hx hb dX12_reaches_15 rfl (lv_at hl 1 rfl) ?_
          obtain ⟨r16, hr16, h⟩ := bnd h
          refine cV (b := 171) (As := [.int v2]) (rest := []) (st1 := [.int r16.1]) hC hw (c_X12_isBoard l g n v2 μ r16 hr16) ml_X12_442 im_X12_isBoard se_X12_isBoard ok171 (CN := RX12) (T := TX12) (NF := 54) rfl rfl (by decide) rfl hl.1 ⟨by show 0 + 1 ≤ 7 + kr + 1; omega, by show 8 + (3 + 11) + 40 * 0 ≤ 40 * (7 + kr + 1); omega⟩ (Nat.le_of_ble_eq_true rfl) ⟨Nat.zero_le _, Nat.zero_le _⟩ rfl dX12_reaches_16 (fun H locs hw => ?_)
          refine lv_if_eq (tgt := 23) hx hb dX12_reaches_19 (by decide) (fun hc => ?_) (fun hc => ?_)
          · rw [if_pos hc] at h
            refine lv_iinc (v := (v2 + (1 : Int32))) (lv' := [(2, .int (v2 + (1 : Int32))), (0, .ref (g.2.2 171))]) hx hb dX12_reaches_23 hl (k := 1) rfl rfl (by decide) rfl (fun ls hl => ?_)
            refine lv_goto (tgt := 6) hx hb dX12_reaches_26 (by decide) ?_
            exact ih6 (v2 + (1 : Int32)) r16.2 _ _ _ hw (lv_sub hl [1, 0] rfl) h
          · rw [if_neg hc] at h
            exact rV hC hw hr hlocks rfl (by rw [← Option.some.inj h]) dX12_reaches_22
    have B69 : ∀ (k : Nat), ∀ (v2 : Int32) (μ : Mu) (H : Heap) (locs : List Loc) (ls : Array Slot), wd g μ s (Aw g s.heap.size) H locs → lv_has ls 3 [(0, .ref (g.2.2 171)), (1, .int v1), (2, .int v2)] → lpF (fun _ _ => none) (X12_reaches_69b n kself v1) k v2 μ = some r → WQ p l e (rmD (7 + kr + 1)) s m args below meth c g none r.2 H locs (F0 m 69 ls []) := by
      intro k
      induction k with
      | zero =>
        intro v2 μ H locs ls hw hl h
        cases h
      | succ k ih69 =>
        rw [lpF_s]
        generalize lpF (fun _ _ => none) (X12_reaches_69b n kself v1) k = k69 at ih69 ⊢
        intro v2 μ H locs ls hw hl h
        have B113 : ∀ (v2 : Int32) (μ : Mu) (H : Heap) (locs : List Loc) (ls : Array Slot), wd g μ s (Aw g s.heap.size) H locs → lv_has ls 3 [(0, .ref (g.2.2 171)), (1, .int v1), (2, .int v2)] → X12_reaches_113 n kself v1 k69 v2 μ = some r → WQ p l e (rmD (7 + kr + 1)) s m args below meth c g none r.2 H locs (F0 m 113 ls []) := by
          intro v2 μ H locs ls hw hl h
          rw [X12_reaches_113] at h
          refine lv_iinc (v := (v2 + (1 : Int32))) (lv' := [(2, .int (v2 + (1 : Int32))), (0, .ref (g.2.2 171)), (1, .int v1)]) hx hb dX12_reaches_113 hl (k := 2) rfl rfl (by decide) rfl (fun ls hl => ?_)
          refine lv_goto (tgt := 69) hx hb dX12_reaches_116 (by decide) ?_
          exact ih69 (v2 + (1 : Int32)) μ _ _ _ hw (lv_sub hl [1, 2, 0] rfl) h
        rw [X12_reaches_69b] at h
        refine lv_iload_n hx hb dX12_reaches_69 rfl (lv_at hl 2 rfl) ?_
        refine lv_aload_n hx hb dX12_reaches_70 rfl (lv_at hl 0 rfl) ?_
        obtain ⟨r71, hr71, h⟩ := bnd h
        refine cV (b := 171) (As := []) (rest := [.int v2]) (st1 := [.int r71.1, .int v2]) hC hw (c_X12_pitMany l g n μ r71 hr71) ml_X12_245 im_X12_pitMany se_X12_pitMany ok171 (CN := RX12) (T := TX12) (NF := 54) rfl rfl (by decide) rfl hl.1 ⟨by show 0 + 1 ≤ 7 + kr + 1; omega, by show 8 + (1 + 11) + 40 * 0 ≤ 40 * (7 + kr + 1); omega⟩ (Nat.le_of_ble_eq_true rfl) ⟨Nat.zero_le _, Nat.zero_le _⟩ rfl dX12_reaches_71 (fun H locs hw => ?_)
        refine lv_icmp_ge (tgt := 119) hx hb dX12_reaches_74 (by decide) (fun hc => ?_) (fun hc => ?_)
        · rw [if_pos hc] at h
          exact rV hC hw hr hlocks rfl (by rw [← Option.some.inj h]) dX12_reaches_119
        · rw [if_neg hc] at h
          refine lv_aload_n hx hb dX12_reaches_77 rfl (lv_at hl 0 rfl) ?_
          refine lv_iload_n hx hb dX12_reaches_78 rfl (lv_at hl 2 rfl) ?_
          obtain ⟨r79, hr79, h⟩ := bnd h
          refine cV (b := 171) (As := [.int v2]) (rest := []) (st1 := [.int r79.1]) hC hw (c_X12_whyNot l g n v2 r71.2 r79 hr79) ml_X12_311 im_X12_whyNot se_X12_whyNot ok171 (CN := RX12) (T := TX12) (NF := 54) rfl rfl (by decide) rfl hl.1 ⟨by show 6 + 1 ≤ 7 + kr + 1; omega, by show 8 + (2 + 11) + 40 * 6 ≤ 40 * (7 + kr + 1); omega⟩ (Nat.le_of_ble_eq_true rfl) ⟨Nat.zero_le _, Nat.zero_le _⟩ rfl dX12_reaches_79 (fun H locs hw => ?_)
          refine lv_if_eq (tgt := 88) hx hb dX12_reaches_82 (by decide) (fun hc => ?_) (fun hc => ?_)
          · rw [if_pos hc] at h
            refine lv_aload_n hx hb dX12_reaches_88 rfl (lv_at hl 0 rfl) ?_
            refine lv_iload_n hx hb dX12_reaches_89 rfl (lv_at hl 2 rfl) ?_
            obtain ⟨r90, hr90, h⟩ := bnd h
            refine cV (b := 171) (As := [.int v2]) (rest := []) (st1 := [.int r90.1]) hC hw (c_X12_moves l g n v2 r79.2 r90 hr90) ml_X12_326 im_X12_moves se_X12_moves ok171 (CN := RX12) (T := TX12) (NF := 54) rfl rfl (by decide) rfl hl.1 ⟨by show 5 + 1 ≤ 7 + kr + 1; omega, by show 8 + (3 + 11) + 40 * 5 ≤ 40 * (7 + kr + 1); omega⟩ (Nat.le_of_ble_eq_true rfl) ⟨Nat.zero_le _, Nat.zero_le _⟩ rfl dX12_reaches_90 (fun H locs hw => ?_)
            refine lv_pop hx hb dX12_reaches_93 rfl ?_
            refine lv_aload_n hx hb dX12_reaches_94 rfl (lv_at hl 0 rfl) ?_
            refine lv_iload_n hx hb dX12_reaches_95 rfl (lv_at hl 1 rfl) ?_
            refine lv_iconst (v := (1 : Int32)) hx hb dX12_reaches_96 (by decide) ?_
            refine lv_isub hx hb dX12_reaches_97 ?_
            obtain ⟨r98, hr98, h⟩ := bnd h
            refine cV (b := 171) (As := [.int (v1 - (1 : Int32))]) (rest := []) (st1 := []) hC hw (ihself (v1 - (1 : Int32)) r90.2 r98 hr98) ml_X12_445 im_X12_reaches se_X12_reaches ok171 (CN := RX12) (T := TX12) (NF := 54) rfl rfl (by decide) rfl hl.1 ⟨by show (7 + kr) + 1 ≤ 7 + kr + 1; omega, by show 8 + (3 + 11) + 40 * (7 + kr) ≤ 40 * (7 + kr + 1); omega⟩ (Nat.le_of_ble_eq_true rfl) ⟨Nat.zero_le _, Nat.zero_le _⟩ rfl dX12_reaches_98 (fun H locs hw => ?_)
            refine lv_aload_n hx hb dX12_reaches_101 rfl (lv_at hl 0 rfl) ?_
            refine gR (t := 195) hC hw fl_X12_88 ok171 (by decide) ot171_45 dX12_reaches_102 ?_
            refine lv_iload_n hx hb dX12_reaches_105 rfl (lv_at hl 1 rfl) ?_
            refine lv_aload_n hx hb dX12_reaches_106 rfl (lv_at hl 0 rfl) ?_
            refine gR (t := 172) hC hw fl_X12_9 ok171 (by decide) ot171_0 dX12_reaches_107 ?_
            obtain ⟨r110, hr110, h⟩ := bnd h
            refine cS (As := [.ref (g.2.2 195), .int v1, .ref (g.2.2 172)]) (rest := []) (st1 := []) hC hw (c_X12_gets l g n 195 v1 172 r98.2 r110 hr110) ml_X12_332 st_X12_gets rfl hl.1 ⟨by show 0 + 1 ≤ 7 + kr + 1; omega, by show 8 + (4 + 11) + 40 * 0 ≤ 40 * (7 + kr + 1); omega⟩ (Nat.le_of_ble_eq_true rfl) ⟨Nat.zero_le _, Nat.zero_le _⟩ rfl dX12_reaches_110 (fun H locs hw => ?_)
            exact B113 v2 r110.2 _ _ _ hw (lv_sub hl [0, 1, 2] rfl) h
          · rw [if_neg hc] at h
            refine lv_goto (tgt := 113) hx hb dX12_reaches_85 (by decide) ?_
            exact B113 v2 r79.2 _ _ _ hw (lv_sub hl [0, 1, 2] rfl) h
    refine lv_iload_n hx hb dX12_reaches_0 rfl (lv_at hl 1 rfl) ?_
    refine lv_if_ne (tgt := 55) hx hb dX12_reaches_1 (by decide) (fun hc => ?_) (fun hc => ?_)
    · rw [if_neg hc] at h
      refine lv_aload_n hx hb dX12_reaches_55 rfl (lv_at hl 0 rfl) ?_
      refine gR (t := 195) hC hw fl_X12_88 ok171 (by decide) ot171_45 dX12_reaches_56 ?_
      refine lv_iload_n hx hb dX12_reaches_59 rfl (lv_at hl 1 rfl) ?_
      refine lv_aload_n hx hb dX12_reaches_60 rfl (lv_at hl 0 rfl) ?_
      refine gR (t := 172) hC hw fl_X12_9 ok171 (by decide) ot171_0 dX12_reaches_61 ?_
      obtain ⟨r64, hr64, h⟩ := bnd h
      refine cS (As := [.ref (g.2.2 195), .int v1, .ref (g.2.2 172)]) (rest := []) (st1 := []) hC hw (c_X12_puts l g n 195 v1 172 μ r64 hr64) ml_X12_319 st_X12_puts rfl hl.1 ⟨by show 0 + 1 ≤ 7 + kr + 1; omega, by show 8 + (4 + 11) + 40 * 0 ≤ 40 * (7 + kr + 1); omega⟩ (Nat.le_of_ble_eq_true rfl) ⟨Nat.zero_le _, Nat.zero_le _⟩ rfl dX12_reaches_64 (fun H locs hw => ?_)
      refine lv_iconst (v := (0 : Int32)) hx hb dX12_reaches_67 (by decide) ?_
      refine lv_istore_n (lv' := [(2, .int (0 : Int32)), (0, .ref (g.2.2 171)), (1, .int v1)]) hx hb dX12_reaches_68 rfl hl (by decide) rfl (fun ls hl => ?_)
      exact B69 n (0 : Int32) r64.2 _ _ _ hw (lv_sub hl [1, 2, 0] rfl) h
    · rw [if_pos hc] at h
      refine lv_iconst (v := (0 : Int32)) hx hb dX12_reaches_4 (by decide) ?_
      refine lv_istore_n (lv' := [(2, .int (0 : Int32)), (0, .ref (g.2.2 171)), (1, .int v1)]) hx hb dX12_reaches_5 rfl hl (by decide) rfl (fun ls hl => ?_)
      exact B6 n (0 : Int32) μ _ _ _ hw (lv_sub hl [1, 0] rfl) h
theorem c_X12_reaches (l : Launch) (g : Gw) (n : Nat) (v1 : Int32) (μ : Mu) (r : Unit × Mu) (h : X12_reaches n v1 μ = some r) : Ct l g yX12_reaches cX12_reaches 3 none 15 [.ref (g.2.2 171), .int v1] μ none r.2 := c_X12_reaches_k l g n 8 v1 μ r h
set_option maxRecDepth 100000 in
set_option maxHeartbeats 4000000 in
theorem c_X12_reached (l : Launch) (g : Gw) (n : Nat) (v1 : Int32) (μ : Mu) (r : Int32 × Mu) (h : X12_reached n v1 μ = some r) : Ct l g yX12_reached cX12_reached 2 (some .int) 16 [.ref (g.2.2 171), .int v1] μ (some (.int r.1)) r.2 := by
  rw [X12_reached] at h
  refine Ct.of (by decide) (Nat.le_of_ble_eq_true rfl) ?_
  intro p e s m args below meth c ls hC hw hr hlocks hl
  have hx := hC.1
  have hb := hC.2.1
  have hl : lv_has ls 2 [(0, .ref (g.2.2 171)), (1, .int v1)] := hl
  have B18 : ∀ (s1 : Int32) (μ : Mu) (H : Heap) (locs : List Loc) (ls : Array Slot), wd g μ s (Aw g s.heap.size) H locs → lv_has ls 2 [(0, .ref (g.2.2 171)), (1, .int v1)] → X12_reached_18 n v1 s1 μ = some r → WQ p l e (rmD 16) s m args below meth c g (some (.int r.1)) r.2 H locs (F0 m 18 ls [.int s1, .ref (g.2.2 171)]) := by
    intro s1 μ H locs ls hw hl h
    rw [X12_reached_18] at h
    refine pI hC hw fl_X12_107 fp_12_5 ok171 dX12_reached_18 (fun H locs hw => ?_)
    refine lv_aload_n hx hb dX12_reached_21 rfl (lv_at hl 0 rfl) ?_
    refine gI hC hw fl_X12_107 ok171 (by decide) dX12_reached_22 ?_
    refine lv_if_le (tgt := 30) hx hb dX12_reached_25 (by decide) (fun hc => ?_) (fun hc => ?_)
    · rw [if_pos hc] at h
      refine lv_aload_n hx hb dX12_reached_30 rfl (lv_at hl 0 rfl) ?_
      refine lv_iconst (v := (0 : Int32)) hx hb dX12_reached_31 (by decide) ?_
      refine pI hC hw fl_X12_439 fp_12_47 ok171 dX12_reached_32 (fun H locs hw => ?_)
      refine lv_aload_n hx hb dX12_reached_35 rfl (lv_at hl 0 rfl) ?_
      refine lv_iload_n hx hb dX12_reached_36 rfl (lv_at hl 1 rfl) ?_
      obtain ⟨r37, hr37, h⟩ := bnd h
      refine cV (b := 171) (As := [.int v1]) (rest := []) (st1 := []) hC hw (c_X12_reaches l g n v1 (si (si μ 171 5 s1) 171 47 (0 : Int32)) r37 hr37) ml_X12_445 im_X12_reaches se_X12_reaches ok171 (CN := RX12) (T := TX12) (NF := 54) rfl rfl (by decide) rfl hl.1 ⟨Nat.le_of_ble_eq_true rfl, Nat.le_of_ble_eq_true rfl⟩ (Nat.le_of_ble_eq_true rfl) ⟨Nat.zero_le _, Nat.zero_le _⟩ rfl dX12_reached_37 (fun H locs hw => ?_)
      refine lv_aload_n hx hb dX12_reached_40 rfl (lv_at hl 0 rfl) ?_
      refine gI hC hw fl_X12_439 ok171 (by decide) dX12_reached_41 ?_
      exact rI hC hw hr hlocks (by rw [← Option.some.inj h]) (by rw [← Option.some.inj h]) dX12_reached_44
    · rw [if_neg hc] at h
      refine lv_iconst (v := (0 : Int32)) hx hb dX12_reached_28 (by decide) ?_
      exact rI hC hw hr hlocks (by rw [← Option.some.inj h]) (by rw [← Option.some.inj h]) dX12_reached_29
  refine lv_aload_n hx hb dX12_reached_0 rfl (lv_at hl 0 rfl) ?_
  refine lv_iload_n hx hb dX12_reached_1 rfl (lv_at hl 1 rfl) ?_
  refine lv_i2l hx hb dX12_reached_2 rfl ?_
  refine lv_lconst (v := (0 : Int64)) hx hb dX12_reached_3 (by decide) ?_
  refine lv_ldc2 (v := (4 : Int64)) hx hb hC.2.2.2.1 (hC.2.2.2.2.1 _ cl_X12_448) dX12_reached_4 ?_
  obtain ⟨r7, hr7, h⟩ := bnd h
  refine cS (As := [.long (v1.toInt64), .long (0 : Int64), .long (4 : Int64)]) (rest := [.ref (g.2.2 171)]) (st1 := [.int r7.1, .ref (g.2.2 171)]) hC hw (c_X12_within l g n (v1.toInt64) (0 : Int64) (4 : Int64) μ r7 hr7) ml_X12_166 st_X12_within rfl hl.1 ⟨Nat.le_of_ble_eq_true rfl, Nat.le_of_ble_eq_true rfl⟩ (Nat.le_of_ble_eq_true rfl) ⟨Nat.zero_le _, Nat.zero_le _⟩ rfl dX12_reached_7 (fun H locs hw => ?_)
  refine lv_if_eq (tgt := 17) hx hb dX12_reached_10 (by decide) (fun hc => ?_) (fun hc => ?_)
  · rw [if_pos hc] at h
    refine lv_iconst (v := (1 : Int32)) hx hb dX12_reached_17 (by decide) ?_
    exact B18 (1 : Int32) r7.2 _ _ _ hw (lv_sub hl [0, 1] rfl) h
  · rw [if_neg hc] at h
    refine lv_iconst (v := (0 : Int32)) hx hb dX12_reached_13 (by decide) ?_
    refine lv_goto (tgt := 18) hx hb dX12_reached_14 (by decide) ?_
    exact B18 (0 : Int32) r7.2 _ _ _ hw (lv_sub hl [0, 1] rfl) h
set_option maxRecDepth 100000 in
set_option maxHeartbeats 4000000 in
theorem c_X12_ends_k (l : Launch) (g : Gw) (n : Nat) : ∀ (k : Nat) (v1 : Int32) (μ : Mu) (r : Int32 × Mu) (h : lpF (fun _ _ => none) (X12_ends_body n) k v1 μ = some r), Ct l g yX12_ends cX12_ends 4 (some .boolean) (7 + k) [.ref (g.2.2 171), .int v1] μ (some (.int r.1)) r.2 := by
  intro kr
  induction kr with
  | zero =>
    intro v1 μ r h
    cases h
  | succ kr ihself =>
    rw [lpF_s]
    generalize lpF (fun _ _ => none) (X12_ends_body n) kr = kself at ihself ⊢
    intro v1 μ r h
    rw [X12_ends_body] at h
    refine Ct.of (by decide) (Nat.le_of_ble_eq_true rfl) ?_
    intro p e s m args below meth c ls hC hw hr hlocks hl
    have hx := hC.1
    have hb := hC.2.1
    have hl : lv_has ls 4 [(0, .ref (g.2.2 171)), (1, .int v1)] := hl
    have B27 : ∀ (s0 : Int32) (μ : Mu) (H : Heap) (locs : List Loc) (ls : Array Slot), wd g μ s (Aw g s.heap.size) H locs → lv_has ls 4 [] → X12_ends_27 n kself v1 s0 μ = some r → WQ p l e (rmD (7 + kr + 1)) s m args below meth c g (some (.int r.1)) r.2 H locs (F0 m 27 ls [.int s0]) := by
      intro s0 μ H locs ls hw hl h
      rw [X12_ends_27] at h
      obtain ⟨hz27, h⟩ := bz_some h
      exact rZ hC hw hr hlocks hz27 (by rw [← Option.some.inj h]) (by rw [← Option.some.inj h]) dX12_ends_27
    have B26 : ∀ (μ : Mu) (H : Heap) (locs : List Loc) (ls : Array Slot), wd g μ s (Aw g s.heap.size) H locs → lv_has ls 4 [] → X12_ends_26 n kself v1  μ = some r → WQ p l e (rmD (7 + kr + 1)) s m args below meth c g (some (.int r.1)) r.2 H locs (F0 m 26 ls []) := by
      intro μ H locs ls hw hl h
      rw [X12_ends_26] at h
      refine lv_iconst (v := (0 : Int32)) hx hb dX12_ends_26 (by decide) ?_
      exact B27 (0 : Int32) μ _ _ _ hw (lv_sub hl [] rfl) h
    have B11 : ∀ (μ : Mu) (H : Heap) (locs : List Loc) (ls : Array Slot), wd g μ s (Aw g s.heap.size) H locs → lv_has ls 4 [(0, .ref (g.2.2 171)), (1, .int v1)] → X12_ends_11 n kself v1  μ = some r → WQ p l e (rmD (7 + kr + 1)) s m args below meth c g (some (.int r.1)) r.2 H locs (F0 m 11 ls []) := by
      intro μ H locs ls hw hl h
      rw [X12_ends_11] at h
      refine lv_iload_n hx hb dX12_ends_11 rfl (lv_at hl 1 rfl) ?_
      refine lv_if_ne (tgt := 26) hx hb dX12_ends_12 (by decide) (fun hc => ?_) (fun hc => ?_)
      · rw [if_neg hc] at h
        exact B26 μ _ _ _ hw (lv_sub hl [] rfl) h
      · rw [if_pos hc] at h
        refine lv_aload_n hx hb dX12_ends_15 rfl (lv_at hl 0 rfl) ?_
        obtain ⟨r16, hr16, h⟩ := bnd h
        refine cV (b := 171) (As := []) (rest := []) (st1 := [.int r16.1]) hC hw (c_X12_isOver l g n μ r16 hr16) ml_X12_305 im_X12_isOver se_X12_isOver ok171 (CN := RX12) (T := TX12) (NF := 54) rfl rfl (by decide) rfl hl.1 ⟨by show 5 + 1 ≤ 7 + kr + 1; omega, by show 8 + (2 + 11) + 40 * 5 ≤ 40 * (7 + kr + 1); omega⟩ (Nat.le_of_ble_eq_true rfl) ⟨Nat.zero_le _, Nat.zero_le _⟩ rfl dX12_ends_16 (fun H locs hw => ?_)
        refine lv_if_eq (tgt := 26) hx hb dX12_ends_19 (by decide) (fun hc => ?_) (fun hc => ?_)
        · rw [if_pos hc] at h
          exact B26 r16.2 _ _ _ hw (lv_sub hl [] rfl) h
        · rw [if_neg hc] at h
          refine lv_iconst (v := (1 : Int32)) hx hb dX12_ends_22 (by decide) ?_
          refine lv_goto (tgt := 27) hx hb dX12_ends_23 (by decide) ?_
          exact B27 (1 : Int32) r16.2 _ _ _ hw (lv_sub hl [] rfl) h
    have B42 : ∀ (k : Nat), ∀ (v2 : Int32) (μ : Mu) (H : Heap) (locs : List Loc) (ls : Array Slot), wd g μ s (Aw g s.heap.size) H locs → lv_has ls 4 [(0, .ref (g.2.2 171)), (1, .int v1), (2, .int v2)] → lpF (fun _ _ => none) (X12_ends_42b n kself v1) k v2 μ = some r → WQ p l e (rmD (7 + kr + 1)) s m args below meth c g (some (.int r.1)) r.2 H locs (F0 m 42 ls []) := by
      intro k
      induction k with
      | zero =>
        intro v2 μ H locs ls hw hl h
        cases h
      | succ k ih42 =>
        rw [lpF_s]
        generalize lpF (fun _ _ => none) (X12_ends_42b n kself v1) k = k42 at ih42 ⊢
        intro v2 μ H locs ls hw hl h
        have B100 : ∀ (v2 : Int32) (μ : Mu) (H : Heap) (locs : List Loc) (ls : Array Slot), wd g μ s (Aw g s.heap.size) H locs → lv_has ls 4 [(0, .ref (g.2.2 171)), (1, .int v1), (2, .int v2)] → X12_ends_100 n kself v1 k42 v2 μ = some r → WQ p l e (rmD (7 + kr + 1)) s m args below meth c g (some (.int r.1)) r.2 H locs (F0 m 100 ls []) := by
          intro v2 μ H locs ls hw hl h
          rw [X12_ends_100] at h
          refine lv_iinc (v := (v2 + (1 : Int32))) (lv' := [(2, .int (v2 + (1 : Int32))), (0, .ref (g.2.2 171)), (1, .int v1)]) hx hb dX12_ends_100 hl (k := 2) rfl rfl (by decide) rfl (fun ls hl => ?_)
          refine lv_goto (tgt := 42) hx hb dX12_ends_103 (by decide) ?_
          exact ih42 (v2 + (1 : Int32)) μ _ _ _ hw (lv_sub hl [1, 2, 0] rfl) h
        rw [X12_ends_42b] at h
        refine lv_iload_n hx hb dX12_ends_42 rfl (lv_at hl 2 rfl) ?_
        refine lv_aload_n hx hb dX12_ends_43 rfl (lv_at hl 0 rfl) ?_
        obtain ⟨r44, hr44, h⟩ := bnd h
        refine cV (b := 171) (As := []) (rest := [.int v2]) (st1 := [.int r44.1, .int v2]) hC hw (c_X12_pitMany l g n μ r44 hr44) ml_X12_245 im_X12_pitMany se_X12_pitMany ok171 (CN := RX12) (T := TX12) (NF := 54) rfl rfl (by decide) rfl hl.1 ⟨by show 0 + 1 ≤ 7 + kr + 1; omega, by show 8 + (1 + 11) + 40 * 0 ≤ 40 * (7 + kr + 1); omega⟩ (Nat.le_of_ble_eq_true rfl) ⟨Nat.zero_le _, Nat.zero_le _⟩ rfl dX12_ends_44 (fun H locs hw => ?_)
        refine lv_icmp_ge (tgt := 106) hx hb dX12_ends_47 (by decide) (fun hc => ?_) (fun hc => ?_)
        · rw [if_pos hc] at h
          refine lv_iconst (v := (0 : Int32)) hx hb dX12_ends_106 (by decide) ?_
          exact rZ hC hw hr hlocks (Or.inl rfl) (by rw [← Option.some.inj h]) (by rw [← Option.some.inj h]) dX12_ends_107
        · rw [if_neg hc] at h
          refine lv_aload_n hx hb dX12_ends_50 rfl (lv_at hl 0 rfl) ?_
          refine lv_iload_n hx hb dX12_ends_51 rfl (lv_at hl 2 rfl) ?_
          obtain ⟨r52, hr52, h⟩ := bnd h
          refine cV (b := 171) (As := [.int v2]) (rest := []) (st1 := [.int r52.1]) hC hw (c_X12_whyNot l g n v2 r44.2 r52 hr52) ml_X12_311 im_X12_whyNot se_X12_whyNot ok171 (CN := RX12) (T := TX12) (NF := 54) rfl rfl (by decide) rfl hl.1 ⟨by show 6 + 1 ≤ 7 + kr + 1; omega, by show 8 + (2 + 11) + 40 * 6 ≤ 40 * (7 + kr + 1); omega⟩ (Nat.le_of_ble_eq_true rfl) ⟨Nat.zero_le _, Nat.zero_le _⟩ rfl dX12_ends_52 (fun H locs hw => ?_)
          refine lv_if_eq (tgt := 61) hx hb dX12_ends_55 (by decide) (fun hc => ?_) (fun hc => ?_)
          · rw [if_pos hc] at h
            refine lv_aload_n hx hb dX12_ends_61 rfl (lv_at hl 0 rfl) ?_
            refine lv_iload_n hx hb dX12_ends_62 rfl (lv_at hl 2 rfl) ?_
            obtain ⟨r63, hr63, h⟩ := bnd h
            refine cV (b := 171) (As := [.int v2]) (rest := []) (st1 := [.int r63.1]) hC hw (c_X12_moves l g n v2 r52.2 r63 hr63) ml_X12_326 im_X12_moves se_X12_moves ok171 (CN := RX12) (T := TX12) (NF := 54) rfl rfl (by decide) rfl hl.1 ⟨by show 5 + 1 ≤ 7 + kr + 1; omega, by show 8 + (3 + 11) + 40 * 5 ≤ 40 * (7 + kr + 1); omega⟩ (Nat.le_of_ble_eq_true rfl) ⟨Nat.zero_le _, Nat.zero_le _⟩ rfl dX12_ends_63 (fun H locs hw => ?_)
            refine lv_pop hx hb dX12_ends_66 rfl ?_
            refine lv_aload_n hx hb dX12_ends_67 rfl (lv_at hl 0 rfl) ?_
            refine lv_iload_n hx hb dX12_ends_68 rfl (lv_at hl 1 rfl) ?_
            refine lv_iconst (v := (1 : Int32)) hx hb dX12_ends_69 (by decide) ?_
            refine lv_isub hx hb dX12_ends_70 ?_
            obtain ⟨r71, hr71, h⟩ := bnd h
            refine cV (b := 171) (As := [.int (v1 - (1 : Int32))]) (rest := []) (st1 := [.int r71.1]) hC hw (ihself (v1 - (1 : Int32)) r63.2 r71 hr71) ml_X12_450 im_X12_ends se_X12_ends ok171 (CN := RX12) (T := TX12) (NF := 54) rfl rfl (by decide) rfl hl.1 ⟨by show (7 + kr) + 1 ≤ 7 + kr + 1; omega, by show 8 + (4 + 11) + 40 * (7 + kr) ≤ 40 * (7 + kr + 1); omega⟩ (Nat.le_of_ble_eq_true rfl) ⟨Nat.zero_le _, Nat.zero_le _⟩ rfl dX12_ends_71 (fun H locs hw => ?_)
            refine lv_istore_n (lv' := [(3, .int r71.1), (0, .ref (g.2.2 171)), (1, .int v1), (2, .int v2)]) hx hb dX12_ends_74 rfl hl (by decide) rfl (fun ls hl => ?_)
            refine lv_aload_n hx hb dX12_ends_75 rfl (lv_at hl 1 rfl) ?_
            refine gR (t := 195) hC hw fl_X12_88 ok171 (by decide) ot171_45 dX12_ends_76 ?_
            refine lv_iload_n hx hb dX12_ends_79 rfl (lv_at hl 2 rfl) ?_
            refine lv_aload_n hx hb dX12_ends_80 rfl (lv_at hl 1 rfl) ?_
            refine gR (t := 172) hC hw fl_X12_9 ok171 (by decide) ot171_0 dX12_ends_81 ?_
            obtain ⟨r84, hr84, h⟩ := bnd h
            refine cS (As := [.ref (g.2.2 195), .int v1, .ref (g.2.2 172)]) (rest := []) (st1 := []) hC hw (c_X12_gets l g n 195 v1 172 r71.2 r84 hr84) ml_X12_332 st_X12_gets rfl hl.1 ⟨by show 0 + 1 ≤ 7 + kr + 1; omega, by show 8 + (4 + 11) + 40 * 0 ≤ 40 * (7 + kr + 1); omega⟩ (Nat.le_of_ble_eq_true rfl) ⟨Nat.zero_le _, Nat.zero_le _⟩ rfl dX12_ends_84 (fun H locs hw => ?_)
            refine lv_aload_n hx hb dX12_ends_87 rfl (lv_at hl 1 rfl) ?_
            refine gR (t := 197) hC hw fl_X12_94 ok171 (by decide) ot171_48 dX12_ends_88 ?_
            refine lv_iload_n hx hb dX12_ends_91 rfl (lv_at hl 2 rfl) ?_
            refine lv_iload_n hx hb dX12_ends_92 rfl (lv_at hl 3 rfl) ?_
            obtain ⟨hi93, h⟩ := gd_some h
            refine sI (j := v1.toNatClampNeg) hC hw ok197 on197 hi93 rfl dX12_ends_93 (fun H locs hw => ?_)
            refine lv_iload_n hx hb dX12_ends_94 rfl (lv_at hl 0 rfl) ?_
            refine lv_if_eq (tgt := 100) hx hb dX12_ends_95 (by decide) (fun hc => ?_) (fun hc => ?_)
            · rw [if_pos hc] at h
              exact B100 v2 (si r84.2 197 v1.toNatClampNeg v2) _ _ _ hw (lv_sub hl [1, 2, 3] rfl) h
            · rw [if_neg hc] at h
              refine lv_iconst (v := (1 : Int32)) hx hb dX12_ends_98 (by decide) ?_
              exact rZ hC hw hr hlocks (Or.inr rfl) (by rw [← Option.some.inj h]) (by rw [← Option.some.inj h]) dX12_ends_99
          · rw [if_neg hc] at h
            refine lv_goto (tgt := 100) hx hb dX12_ends_58 (by decide) ?_
            exact B100 v2 r52.2 _ _ _ hw (lv_sub hl [0, 1, 2] rfl) h
    refine lv_iload_n hx hb dX12_ends_0 rfl (lv_at hl 1 rfl) ?_
    refine lv_if_eq (tgt := 11) hx hb dX12_ends_1 (by decide) (fun hc => ?_) (fun hc => ?_)
    · rw [if_pos hc] at h
      exact B11 μ _ _ _ hw (lv_sub hl [0, 1] rfl) h
    · rw [if_neg hc] at h
      refine lv_aload_n hx hb dX12_ends_4 rfl (lv_at hl 0 rfl) ?_
      obtain ⟨r5, hr5, h⟩ := bnd h
      refine cV (b := 171) (As := []) (rest := []) (st1 := [.int r5.1]) hC hw (c_X12_isOver l g n μ r5 hr5) ml_X12_305 im_X12_isOver se_X12_isOver ok171 (CN := RX12) (T := TX12) (NF := 54) rfl rfl (by decide) rfl hl.1 ⟨by show 5 + 1 ≤ 7 + kr + 1; omega, by show 8 + (2 + 11) + 40 * 5 ≤ 40 * (7 + kr + 1); omega⟩ (Nat.le_of_ble_eq_true rfl) ⟨Nat.zero_le _, Nat.zero_le _⟩ rfl dX12_ends_5 (fun H locs hw => ?_)
      refine lv_if_eq (tgt := 28) hx hb dX12_ends_8 (by decide) (fun hc => ?_) (fun hc => ?_)
      · rw [if_pos hc] at h
        refine lv_aload_n hx hb dX12_ends_28 rfl (lv_at hl 0 rfl) ?_
        refine gR (t := 195) hC hw fl_X12_88 ok171 (by decide) ot171_45 dX12_ends_29 ?_
        refine lv_iload_n hx hb dX12_ends_32 rfl (lv_at hl 1 rfl) ?_
        refine lv_aload_n hx hb dX12_ends_33 rfl (lv_at hl 0 rfl) ?_
        refine gR (t := 172) hC hw fl_X12_9 ok171 (by decide) ot171_0 dX12_ends_34 ?_
        obtain ⟨r37, hr37, h⟩ := bnd h
        refine cS (As := [.ref (g.2.2 195), .int v1, .ref (g.2.2 172)]) (rest := []) (st1 := []) hC hw (c_X12_puts l g n 195 v1 172 r5.2 r37 hr37) ml_X12_319 st_X12_puts rfl hl.1 ⟨by show 0 + 1 ≤ 7 + kr + 1; omega, by show 8 + (4 + 11) + 40 * 0 ≤ 40 * (7 + kr + 1); omega⟩ (Nat.le_of_ble_eq_true rfl) ⟨Nat.zero_le _, Nat.zero_le _⟩ rfl dX12_ends_37 (fun H locs hw => ?_)
        refine lv_iconst (v := (0 : Int32)) hx hb dX12_ends_40 (by decide) ?_
        refine lv_istore_n (lv' := [(2, .int (0 : Int32)), (0, .ref (g.2.2 171)), (1, .int v1)]) hx hb dX12_ends_41 rfl hl (by decide) rfl (fun ls hl => ?_)
        exact B42 n (0 : Int32) r37.2 _ _ _ hw (lv_sub hl [1, 2, 0] rfl) h
      · rw [if_neg hc] at h
        exact B11 r5.2 _ _ _ hw (lv_sub hl [0, 1] rfl) h
theorem c_X12_ends (l : Launch) (g : Gw) (n : Nat) (v1 : Int32) (μ : Mu) (r : Int32 × Mu) (h : X12_ends n v1 μ = some r) : Ct l g yX12_ends cX12_ends 4 (some .boolean) 15 [.ref (g.2.2 171), .int v1] μ (some (.int r.1)) r.2 := c_X12_ends_k l g n 8 v1 μ r h
set_option maxRecDepth 100000 in
set_option maxHeartbeats 4000000 in
theorem c_X12_soonest (l : Launch) (g : Gw) (n : Nat) (v1 : Int32) (μ : Mu) (r : Int32 × Mu) (h : X12_soonest n v1 μ = some r) : Ct l g yX12_soonest cX12_soonest 3 (some .int) 16 [.ref (g.2.2 171), .int v1] μ (some (.int r.1)) r.2 := by
  rw [X12_soonest] at h
  refine Ct.of (by decide) (Nat.le_of_ble_eq_true rfl) ?_
  intro p e s m args below meth c ls hC hw hr hlocks hl
  have hx := hC.1
  have hb := hC.2.1
  have hl : lv_has ls 3 [(0, .ref (g.2.2 171)), (1, .int v1)] := hl
  have B55 : ∀ (s0 : Int32) (μ : Mu) (H : Heap) (locs : List Loc) (ls : Array Slot), wd g μ s (Aw g s.heap.size) H locs → lv_has ls 3 [] → X12_soonest_55 n v1 s0 μ = some r → WQ p l e (rmD 16) s m args below meth c g (some (.int r.1)) r.2 H locs (F0 m 55 ls [.int s0]) := by
    intro s0 μ H locs ls hw hl h
    rw [X12_soonest_55] at h
    exact rI hC hw hr hlocks (by rw [← Option.some.inj h]) (by rw [← Option.some.inj h]) dX12_soonest_55
  have B7 : ∀ (k : Nat), ∀ (v2 : Int32) (μ : Mu) (H : Heap) (locs : List Loc) (ls : Array Slot), wd g μ s (Aw g s.heap.size) H locs → lv_has ls 3 [(0, .ref (g.2.2 171)), (1, .int v1), (2, .int v2)] → lpF (fun _ _ => none) (X12_soonest_7b n v1) k v2 μ = some r → WQ p l e (rmD 16) s m args below meth c g (some (.int r.1)) r.2 H locs (F0 m 7 ls []) := by
    intro k
    induction k with
    | zero =>
      intro v2 μ H locs ls hw hl h
      cases h
    | succ k ih7 =>
      rw [lpF_s]
      generalize lpF (fun _ _ => none) (X12_soonest_7b n v1) k = k7 at ih7 ⊢
      intro v2 μ H locs ls hw hl h
      rw [X12_soonest_7b] at h
      refine lv_iload_n hx hb dX12_soonest_7 rfl (lv_at hl 2 rfl) ?_
      refine lv_bipush (v := (6 : Int32)) hx hb dX12_soonest_8 (by decide) ?_
      refine lv_icmp_gt (tgt := 62) hx hb dX12_soonest_10 (by decide) (fun hc => ?_) (fun hc => ?_)
      · rw [if_pos hc] at h
        refine lv_iconst (v := ((-1) : Int32)) hx hb dX12_soonest_62 (by decide) ?_
        exact rI hC hw hr hlocks (by rw [← Option.some.inj h]) (by rw [← Option.some.inj h]) dX12_soonest_63
      · rw [if_neg hc] at h
        refine lv_aload_n hx hb dX12_soonest_13 rfl (lv_at hl 0 rfl) ?_
        refine lv_iload_n hx hb dX12_soonest_14 rfl (lv_at hl 2 rfl) ?_
        obtain ⟨r15, hr15, h⟩ := bnd h
        refine cV (b := 171) (As := [.int v2]) (rest := []) (st1 := [.int r15.1]) hC hw (c_X12_ends l g n v2 μ r15 hr15) ml_X12_450 im_X12_ends se_X12_ends ok171 (CN := RX12) (T := TX12) (NF := 54) rfl rfl (by decide) rfl hl.1 ⟨Nat.le_of_ble_eq_true rfl, Nat.le_of_ble_eq_true rfl⟩ (Nat.le_of_ble_eq_true rfl) ⟨Nat.zero_le _, Nat.zero_le _⟩ rfl dX12_soonest_15 (fun H locs hw => ?_)
        refine lv_if_eq (tgt := 56) hx hb dX12_soonest_18 (by decide) (fun hc => ?_) (fun hc => ?_)
        · rw [if_pos hc] at h
          refine lv_iinc (v := (v2 + (1 : Int32))) (lv' := [(2, .int (v2 + (1 : Int32))), (0, .ref (g.2.2 171)), (1, .int v1)]) hx hb dX12_soonest_56 hl (k := 2) rfl rfl (by decide) rfl (fun ls hl => ?_)
          refine lv_goto (tgt := 7) hx hb dX12_soonest_59 (by decide) ?_
          exact ih7 (v2 + (1 : Int32)) r15.2 _ _ _ hw (lv_sub hl [1, 2, 0] rfl) h
        · rw [if_neg hc] at h
          refine lv_iload_n hx hb dX12_soonest_21 rfl (lv_at hl 1 rfl) ?_
          refine lv_iconst (v := ((-1) : Int32)) hx hb dX12_soonest_22 (by decide) ?_
          refine lv_icmp_ne (tgt := 30) hx hb dX12_soonest_23 (by decide) (fun hc => ?_) (fun hc => ?_)
          · rw [if_neg hc] at h
            refine lv_iload_n hx hb dX12_soonest_30 rfl (lv_at hl 1 rfl) ?_
            refine lv_i2l hx hb dX12_soonest_31 rfl ?_
            refine lv_lconst (v := (0 : Int64)) hx hb dX12_soonest_32 (by decide) ?_
            refine lv_iload_n hx hb dX12_soonest_33 rfl (lv_at hl 2 rfl) ?_
            refine lv_iconst (v := (1 : Int32)) hx hb dX12_soonest_34 (by decide) ?_
            refine lv_isub hx hb dX12_soonest_35 ?_
            refine lv_i2l hx hb dX12_soonest_36 rfl ?_
            obtain ⟨r37, hr37, h⟩ := bnd h
            refine cS (As := [.long (v1.toInt64), .long (0 : Int64), .long ((v2 - (1 : Int32)).toInt64)]) (rest := []) (st1 := [.int r37.1]) hC hw (c_X12_within l g n (v1.toInt64) (0 : Int64) ((v2 - (1 : Int32)).toInt64) r15.2 r37 hr37) ml_X12_166 st_X12_within rfl hl.1 ⟨Nat.le_of_ble_eq_true rfl, Nat.le_of_ble_eq_true rfl⟩ (Nat.le_of_ble_eq_true rfl) ⟨Nat.zero_le _, Nat.zero_le _⟩ rfl dX12_soonest_37 (fun H locs hw => ?_)
            refine lv_if_eq (tgt := 54) hx hb dX12_soonest_40 (by decide) (fun hc => ?_) (fun hc => ?_)
            · rw [if_pos hc] at h
              refine lv_iconst (v := ((-1) : Int32)) hx hb dX12_soonest_54 (by decide) ?_
              exact B55 ((-1) : Int32) r37.2 _ _ _ hw (lv_sub hl [] rfl) h
            · rw [if_neg hc] at h
              refine lv_aload_n hx hb dX12_soonest_43 rfl (lv_at hl 0 rfl) ?_
              refine gR (t := 197) hC hw fl_X12_94 ok171 (by decide) ot171_48 dX12_soonest_44 ?_
              refine lv_iload_n hx hb dX12_soonest_47 rfl (lv_at hl 2 rfl) ?_
              refine lv_iload_n hx hb dX12_soonest_48 rfl (lv_at hl 1 rfl) ?_
              refine lv_isub hx hb dX12_soonest_49 ?_
              obtain ⟨hi50, h⟩ := gd_some h
              refine lI (j := (v2 - v1).toNatClampNeg) hC hw ok197 on197 hi50 rfl dX12_soonest_50 ?_
              refine lv_goto (tgt := 55) hx hb dX12_soonest_51 (by decide) ?_
              exact B55 (r37.2.1 197 (v2 - v1).toNatClampNeg) r37.2 _ _ _ hw (lv_sub hl [] rfl) h
          · rw [if_pos hc] at h
            refine lv_iload_n hx hb dX12_soonest_26 rfl (lv_at hl 2 rfl) ?_
            refine lv_goto (tgt := 55) hx hb dX12_soonest_27 (by decide) ?_
            exact B55 v2 r15.2 _ _ _ hw (lv_sub hl [] rfl) h
  refine lv_aload_n hx hb dX12_soonest_0 rfl (lv_at hl 0 rfl) ?_
  refine lv_iconst (v := (0 : Int32)) hx hb dX12_soonest_1 (by decide) ?_
  refine pI hC hw fl_X12_107 fp_12_5 ok171 dX12_soonest_2 (fun H locs hw => ?_)
  refine lv_iconst (v := (0 : Int32)) hx hb dX12_soonest_5 (by decide) ?_
  refine lv_istore_n (lv' := [(2, .int (0 : Int32)), (0, .ref (g.2.2 171)), (1, .int v1)]) hx hb dX12_soonest_6 rfl hl (by decide) rfl (fun ls hl => ?_)
  exact B7 n (0 : Int32) (si μ 171 5 (0 : Int32)) _ _ _ hw (lv_sub hl [1, 2, 0] rfl) h
set_option maxRecDepth 100000 in
set_option maxHeartbeats 4000000 in
theorem c_X0_countRows_k (l : Launch) (g : Gw) (n : Nat) : ∀ (k : Nat) (v1 : Int32) (v2 : Int32) (μ : Mu) (r : Int32 × Mu) (h : lpF (fun _ _ _ => none) (X0_countRows_body n) k v1 v2 μ = some r), Ct l g yX0_countRows cX0_countRows 6 (some .int) (5 + k) [.ref (g.2.2 25), .int v1, .int v2] μ (some (.int r.1)) r.2 := by
  intro kr
  induction kr with
  | zero =>
    intro v1 v2 μ r h
    cases h
  | succ kr ihself =>
    rw [lpF_s]
    generalize lpF (fun _ _ _ => none) (X0_countRows_body n) kr = kself at ihself ⊢
    intro v1 v2 μ r h
    rw [X0_countRows_body] at h
    refine Ct.of (by decide) (Nat.le_of_ble_eq_true rfl) ?_
    intro p e s m args below meth c ls hC hw hr hlocks hl
    have hx := hC.1
    have hb := hC.2.1
    have hl : lv_has ls 6 [(0, .ref (g.2.2 25)), (1, .int v1), (2, .int v2)] := hl
    have B11 : ∀ (μ : Mu) (H : Heap) (locs : List Loc) (ls : Array Slot), wd g μ s (Aw g s.heap.size) H locs → lv_has ls 6 [] → X0_countRows_11 n kself v1 v2  μ = some r → WQ p l e (rmD (5 + kr + 1)) s m args below meth c g (some (.int r.1)) r.2 H locs (F0 m 11 ls []) := by
      intro μ H locs ls hw hl h
      rw [X0_countRows_11] at h
      refine lv_iconst (v := (1 : Int32)) hx hb dX0_countRows_11 (by decide) ?_
      exact rI hC hw hr hlocks (by rw [← Option.some.inj h]) (by rw [← Option.some.inj h]) dX0_countRows_12
    have B45 : ∀ (k : Nat), ∀ (v3 : Int32) (v4 : Int32) (v5 : Int32) (μ : Mu) (H : Heap) (locs : List Loc) (ls : Array Slot), wd g μ s (Aw g s.heap.size) H locs → lv_has ls 6 [(0, .ref (g.2.2 25)), (1, .int v1), (2, .int v2), (3, .int v3), (4, .int v4), (5, .int v5)] → lpF (fun _ _ _ _ => none) (X0_countRows_45b n kself v1 v2) k v3 v4 v5 μ = some r → WQ p l e (rmD (5 + kr + 1)) s m args below meth c g (some (.int r.1)) r.2 H locs (F0 m 45 ls []) := by
      intro k
      induction k with
      | zero =>
        intro v3 v4 v5 μ H locs ls hw hl h
        cases h
      | succ k ih45 =>
        rw [lpF_s]
        generalize lpF (fun _ _ _ _ => none) (X0_countRows_45b n kself v1 v2) k = k45 at ih45 ⊢
        intro v3 v4 v5 μ H locs ls hw hl h
        have B81 : ∀ (v3 : Int32) (v4 : Int32) (v5 : Int32) (μ : Mu) (H : Heap) (locs : List Loc) (ls : Array Slot), wd g μ s (Aw g s.heap.size) H locs → lv_has ls 6 [(0, .ref (g.2.2 25)), (1, .int v1), (2, .int v2), (3, .int v3), (4, .int v4), (5, .int v5)] → X0_countRows_81 n kself v1 v2 k45 v3 v4 v5 μ = some r → WQ p l e (rmD (5 + kr + 1)) s m args below meth c g (some (.int r.1)) r.2 H locs (F0 m 81 ls []) := by
          intro v3 v4 v5 μ H locs ls hw hl h
          rw [X0_countRows_81] at h
          refine lv_iinc (v := (v5 + (1 : Int32))) (lv' := [(5, .int (v5 + (1 : Int32))), (0, .ref (g.2.2 25)), (1, .int v1), (2, .int v2), (3, .int v3), (4, .int v4)]) hx hb dX0_countRows_81 hl (k := 5) rfl rfl (by decide) rfl (fun ls hl => ?_)
          refine lv_goto (tgt := 45) hx hb dX0_countRows_84 (by decide) ?_
          exact ih45 v3 v4 (v5 + (1 : Int32)) μ _ _ _ hw (lv_sub hl [1, 2, 3, 4, 5, 0] rfl) h
        rw [X0_countRows_45b] at h
        refine lv_iload hx hb dX0_countRows_45 (lv_at hl 5 rfl) ?_
        refine lv_bipush (v := (12 : Int32)) hx hb dX0_countRows_47 (by decide) ?_
        refine lv_icmp_ge (tgt := 87) hx hb dX0_countRows_49 (by decide) (fun hc => ?_) (fun hc => ?_)
        · rw [if_pos hc] at h
          refine lv_iload hx hb dX0_countRows_87 (lv_at hl 4 rfl) ?_
          exact rI hC hw hr hlocks (by rw [← Option.some.inj h]) (by rw [← Option.some.inj h]) dX0_countRows_89
        · rw [if_neg hc] at h
          refine lv_iload_n hx hb dX0_countRows_52 rfl (lv_at hl 3 rfl) ?_
          refine lv_iload hx hb dX0_countRows_53 (lv_at hl 5 rfl) ?_
          obtain ⟨r55, hr55, h⟩ := bnd h
          refine cSN (As := [.int v3, .int v5]) (rest := []) (st1 := [.int r55.1]) hC hw (c_X11_has l g n v3 v5 μ r55 hr55) mn_X0_68 st_X11_has rfl hl.1 ⟨by show 0 + 1 ≤ 5 + kr + 1; omega, by show 8 + (2 + 11) + 40 * 0 ≤ 40 * (5 + kr + 1); omega⟩ (Nat.le_of_ble_eq_true rfl) ⟨Nat.zero_le _, Nat.zero_le _⟩ rfl dX0_countRows_55 (fun H locs hw => ?_)
          refine lv_if_eq (tgt := 81) hx hb dX0_countRows_58 (by decide) (fun hc => ?_) (fun hc => ?_)
          · rw [if_pos hc] at h
            exact B81 v3 v4 v5 r55.2 _ _ _ hw (lv_sub hl [0, 1, 2, 3, 4, 5] rfl) h
          · rw [if_neg hc] at h
            refine lv_aload_n hx hb dX0_countRows_61 rfl (lv_at hl 0 rfl) ?_
            refine lv_iload_n hx hb dX0_countRows_62 rfl (lv_at hl 1 rfl) ?_
            refine lv_iload hx hb dX0_countRows_63 (lv_at hl 5 rfl) ?_
            obtain ⟨r65, hr65, h⟩ := bnd h
            refine cV (b := 25) (As := [.int v1, .int v5]) (rest := []) (st1 := []) hC hw (c_X0_goDown l g n v1 v5 r55.2 r65 hr65) ml_X0_72 im_X0_goDown se_X0_goDown ok25 (CN := RX0) (T := TX0) (NF := 12) rfl rfl (by decide) rfl hl.1 ⟨by show 3 + 1 ≤ 5 + kr + 1; omega, by show 8 + (3 + 11) + 40 * 3 ≤ 40 * (5 + kr + 1); omega⟩ (Nat.le_of_ble_eq_true rfl) ⟨Nat.zero_le _, Nat.zero_le _⟩ rfl dX0_countRows_65 (fun H locs hw => ?_)
            refine lv_iload hx hb dX0_countRows_68 (lv_at hl 4 rfl) ?_
            refine lv_aload_n hx hb dX0_countRows_70 rfl (lv_at hl 0 rfl) ?_
            refine lv_iload_n hx hb dX0_countRows_71 rfl (lv_at hl 1 rfl) ?_
            refine lv_iconst (v := (1 : Int32)) hx hb dX0_countRows_72 (by decide) ?_
            refine lv_iadd hx hb dX0_countRows_73 ?_
            refine lv_iload_n hx hb dX0_countRows_74 rfl (lv_at hl 2 rfl) ?_
            obtain ⟨r75, hr75, h⟩ := bnd h
            refine cV (b := 25) (As := [.int (v1 + (1 : Int32)), .int v2]) (rest := [.int v4]) (st1 := [.int r75.1, .int v4]) hC hw (ihself (v1 + (1 : Int32)) v2 r65.2 r75 hr75) ml_X0_54 im_X0_countRows se_X0_countRows ok25 (CN := RX0) (T := TX0) (NF := 12) rfl rfl (by decide) rfl hl.1 ⟨by show (5 + kr) + 1 ≤ 5 + kr + 1; omega, by show 8 + (6 + 11) + 40 * (5 + kr) ≤ 40 * (5 + kr + 1); omega⟩ (Nat.le_of_ble_eq_true rfl) ⟨Nat.zero_le _, Nat.zero_le _⟩ rfl dX0_countRows_75 (fun H locs hw => ?_)
            refine lv_iadd hx hb dX0_countRows_78 ?_
            refine lv_istore (lv' := [(4, .int (v4 + r75.1)), (0, .ref (g.2.2 25)), (1, .int v1), (2, .int v2), (3, .int v3), (5, .int v5)]) hx hb dX0_countRows_79 hl (by decide) rfl (fun ls hl => ?_)
            exact B81 v3 (v4 + r75.1) v5 r75.2 _ _ _ hw (lv_sub hl [1, 2, 3, 4, 0, 5] rfl) h
    refine lv_iload_n hx hb dX0_countRows_0 rfl (lv_at hl 1 rfl) ?_
    refine lv_iload_n hx hb dX0_countRows_1 rfl (lv_at hl 2 rfl) ?_
    refine lv_icmp_ge (tgt := 11) hx hb dX0_countRows_2 (by decide) (fun hc => ?_) (fun hc => ?_)
    · rw [if_pos hc] at h
      exact B11 μ _ _ _ hw (lv_sub hl [] rfl) h
    · rw [if_neg hc] at h
      refine lv_iload_n hx hb dX0_countRows_5 rfl (lv_at hl 1 rfl) ?_
      refine lv_bipush (v := (6 : Int32)) hx hb dX0_countRows_6 (by decide) ?_
      refine lv_icmp_lt (tgt := 13) hx hb dX0_countRows_8 (by decide) (fun hc => ?_) (fun hc => ?_)
      · rw [if_pos hc] at h
        refine lv_aload_n hx hb dX0_countRows_13 rfl (lv_at hl 0 rfl) ?_
        refine gR (t := 6) hC hw fl_X0_40 ok25 (by decide) ot25_2 dX0_countRows_14 ?_
        refine lv_aload_n hx hb dX0_countRows_17 rfl (lv_at hl 0 rfl) ?_
        refine gR (t := 27) hC hw fl_X0_17 ok25 (by decide) ot25_3 dX0_countRows_18 ?_
        refine lv_iload_n hx hb dX0_countRows_21 rfl (lv_at hl 1 rfl) ?_
        obtain ⟨hi22, h⟩ := gd_some h
        have ha22 : oK (155 + 2 * v1.toNatClampNeg) = 6 := aK27 (i := v1) (j := v1.toNatClampNeg) hi22 rfl
        refine lA (t := (155 + 2 * v1.toNatClampNeg)) (CN := "SowingHouse$Scene") hC hw ok27 (by decide) rfl on27 hi22 (aT27 (i := v1) (j := v1.toNatClampNeg) hi22 rfl) dX0_countRows_22 (by decide) ?_
        obtain ⟨r23, hr23, h⟩ := bnd h
        refine cV (b := 6) (As := [.ref (g.2.2 (155 + 2 * v1.toNatClampNeg))]) (rest := []) (st1 := [.int r23.1]) hC hw (c_X8_choices l g n (155 + 2 * v1.toNatClampNeg) μ r23 hr23) ml_X0_58 im_X8_choices se_X8_choices ok6 (CN := RX8) (T := TX8) (NF := 8) rfl rfl (by decide) rfl hl.1 ⟨by show 4 + 1 ≤ 5 + kr + 1; omega, by show 8 + (2 + 11) + 40 * 4 ≤ 40 * (5 + kr + 1); omega⟩ (Nat.le_of_ble_eq_true rfl) ⟨Nat.zero_le _, Nat.zero_le _⟩ rfl dX0_countRows_23 (fun H locs hw => ?_)
        refine lv_istore_n (lv' := [(3, .int r23.1), (0, .ref (g.2.2 25)), (1, .int v1), (2, .int v2)]) hx hb dX0_countRows_26 rfl hl (by decide) rfl (fun ls hl => ?_)
        refine lv_iload_n hx hb dX0_countRows_27 rfl (lv_at hl 2 rfl) ?_
        refine lv_iload_n hx hb dX0_countRows_28 rfl (lv_at hl 3 rfl) ?_
        refine lv_iconst (v := (1 : Int32)) hx hb dX0_countRows_29 (by decide) ?_
        refine lv_isub hx hb dX0_countRows_30 ?_
        refine lv_icmp_ne (tgt := 39) hx hb dX0_countRows_31 (by decide) (fun hc => ?_) (fun hc => ?_)
        · rw [if_neg hc] at h
          refine lv_iconst (v := (0 : Int32)) hx hb dX0_countRows_39 (by decide) ?_
          refine lv_istore (lv' := [(4, .int (0 : Int32)), (3, .int r23.1), (0, .ref (g.2.2 25)), (1, .int v1), (2, .int v2)]) hx hb dX0_countRows_40 hl (by decide) rfl (fun ls hl => ?_)
          refine lv_iconst (v := (0 : Int32)) hx hb dX0_countRows_42 (by decide) ?_
          refine lv_istore (lv' := [(5, .int (0 : Int32)), (4, .int (0 : Int32)), (3, .int r23.1), (0, .ref (g.2.2 25)), (1, .int v1), (2, .int v2)]) hx hb dX0_countRows_43 hl (by decide) rfl (fun ls hl => ?_)
          exact B45 n r23.1 (0 : Int32) (0 : Int32) r23.2 _ _ _ hw (lv_sub hl [3, 4, 5, 2, 1, 0] rfl) h
        · rw [if_pos hc] at h
          refine lv_iload_n hx hb dX0_countRows_34 rfl (lv_at hl 0 rfl) ?_
          obtain ⟨r35, hr35, h⟩ := bnd h
          refine cS (As := [.int r23.1]) (rest := []) (st1 := [.int r35.1]) hC hw (c_J6_bitCount_0f7a4 l g n r23.1 r23.2 r35 hr35) ml_X0_62 st_J6_bitCount_0f7a4 rfl hl.1 ⟨by show 0 + 1 ≤ 5 + kr + 1; omega, by show 8 + (1 + 11) + 40 * 0 ≤ 40 * (5 + kr + 1); omega⟩ (Nat.le_of_ble_eq_true rfl) ⟨Nat.zero_le _, Nat.zero_le _⟩ rfl dX0_countRows_35 (fun H locs hw => ?_)
          exact rI hC hw hr hlocks (by rw [← Option.some.inj h]) (by rw [← Option.some.inj h]) dX0_countRows_38
      · rw [if_neg hc] at h
        exact B11 μ _ _ _ hw (lv_sub hl [] rfl) h
theorem c_X0_countRows (l : Launch) (g : Gw) (n : Nat) (v1 : Int32) (v2 : Int32) (μ : Mu) (r : Int32 × Mu) (h : X0_countRows n v1 v2 μ = some r) : Ct l g yX0_countRows cX0_countRows 6 (some .int) 13 [.ref (g.2.2 25), .int v1, .int v2] μ (some (.int r.1)) r.2 := c_X0_countRows_k l g n 8 v1 v2 μ r h
set_option maxRecDepth 100000 in
set_option maxHeartbeats 4000000 in
theorem c_X0_gather_k (l : Launch) (g : Gw) (n : Nat) : ∀ (k : Nat) (v1 : Int32) (v2 : Int32) (μ : Mu) (r : Unit × Mu) (h : lpF (fun _ _ _ => none) (X0_gather_body n) k v1 v2 μ = some r), Ct l g yX0_gather cX0_gather 5 none (5 + k) [.ref (g.2.2 25), .int v1, .int v2] μ none r.2 := by
  intro kr
  induction kr with
  | zero =>
    intro v1 v2 μ r h
    cases h
  | succ kr ihself =>
    rw [lpF_s]
    generalize lpF (fun _ _ _ => none) (X0_gather_body n) kr = kself at ihself ⊢
    intro v1 v2 μ r h
    rw [X0_gather_body] at h
    refine Ct.of (by decide) (Nat.le_of_ble_eq_true rfl) ?_
    intro p e s m args below meth c ls hC hw hr hlocks hl
    have hx := hC.1
    have hb := hC.2.1
    have hl : lv_has ls 5 [(0, .ref (g.2.2 25)), (1, .int v1), (2, .int v2)] := hl
    have B11 : ∀ (μ : Mu) (H : Heap) (locs : List Loc) (ls : Array Slot), wd g μ s (Aw g s.heap.size) H locs → lv_has ls 5 [(0, .ref (g.2.2 25)), (1, .int v1)] → X0_gather_11 n kself v1 v2  μ = some r → WQ p l e (rmD (5 + kr + 1)) s m args below meth c g none r.2 H locs (F0 m 11 ls []) := by
      intro μ H locs ls hw hl h
      rw [X0_gather_11] at h
      refine lv_aload_n hx hb dX0_gather_11 rfl (lv_at hl 0 rfl) ?_
      refine lv_aload_n hx hb dX0_gather_12 rfl (lv_at hl 0 rfl) ?_
      refine gR (t := 27) hC hw fl_X0_17 ok25 (by decide) ot25_3 dX0_gather_13 ?_
      refine lv_iload_n hx hb dX0_gather_16 rfl (lv_at hl 1 rfl) ?_
      obtain ⟨hi17, h⟩ := gd_some h
      have ha17 : oK (155 + 2 * v1.toNatClampNeg) = 6 := aK27 (i := v1) (j := v1.toNatClampNeg) hi17 rfl
      refine lA (t := (155 + 2 * v1.toNatClampNeg)) (CN := "SowingHouse$Scene") hC hw ok27 (by decide) rfl on27 hi17 (aT27 (i := v1) (j := v1.toNatClampNeg) hi17 rfl) dX0_gather_17 (by decide) ?_
      obtain ⟨r18, hr18, h⟩ := bnd h
      refine cV (b := 25) (As := [.ref (g.2.2 (155 + 2 * v1.toNatClampNeg))]) (rest := []) (st1 := []) hC hw (c_X0_note l g n (155 + 2 * v1.toNatClampNeg) μ r18 hr18) ml_X0_83 im_X0_note se_X0_note ok25 (CN := RX0) (T := TX0) (NF := 12) rfl rfl (by decide) rfl hl.1 ⟨by show 1 + 1 ≤ 5 + kr + 1; omega, by show 8 + (11 + 11) + 40 * 1 ≤ 40 * (5 + kr + 1); omega⟩ (Nat.le_of_ble_eq_true rfl) ⟨Nat.zero_le _, Nat.zero_le _⟩ rfl dX0_gather_18 (fun H locs hw => ?_)
      exact rV hC hw hr hlocks rfl (by rw [← Option.some.inj h]) dX0_gather_21
    have B39 : ∀ (k : Nat), ∀ (v3 : Int32) (v4 : Int32) (μ : Mu) (H : Heap) (locs : List Loc) (ls : Array Slot), wd g μ s (Aw g s.heap.size) H locs → lv_has ls 5 [(0, .ref (g.2.2 25)), (1, .int v1), (2, .int v2), (3, .int v3), (4, .int v4)] → lpF (fun _ _ _ => none) (X0_gather_39b n kself v1 v2) k v3 v4 μ = some r → WQ p l e (rmD (5 + kr + 1)) s m args below meth c g none r.2 H locs (F0 m 39 ls []) := by
      intro k
      induction k with
      | zero =>
        intro v3 v4 μ H locs ls hw hl h
        cases h
      | succ k ih39 =>
        rw [lpF_s]
        generalize lpF (fun _ _ _ => none) (X0_gather_39b n kself v1 v2) k = k39 at ih39 ⊢
        intro v3 v4 μ H locs ls hw hl h
        have B70 : ∀ (v3 : Int32) (v4 : Int32) (μ : Mu) (H : Heap) (locs : List Loc) (ls : Array Slot), wd g μ s (Aw g s.heap.size) H locs → lv_has ls 5 [(0, .ref (g.2.2 25)), (1, .int v1), (2, .int v2), (3, .int v3), (4, .int v4)] → X0_gather_70 n kself v1 v2 k39 v3 v4 μ = some r → WQ p l e (rmD (5 + kr + 1)) s m args below meth c g none r.2 H locs (F0 m 70 ls []) := by
          intro v3 v4 μ H locs ls hw hl h
          rw [X0_gather_70] at h
          refine lv_iinc (v := (v4 + (1 : Int32))) (lv' := [(4, .int (v4 + (1 : Int32))), (0, .ref (g.2.2 25)), (1, .int v1), (2, .int v2), (3, .int v3)]) hx hb dX0_gather_70 hl (k := 4) rfl rfl (by decide) rfl (fun ls hl => ?_)
          refine lv_goto (tgt := 39) hx hb dX0_gather_73 (by decide) ?_
          exact ih39 v3 (v4 + (1 : Int32)) μ _ _ _ hw (lv_sub hl [1, 2, 3, 4, 0] rfl) h
        rw [X0_gather_39b] at h
        refine lv_iload hx hb dX0_gather_39 (lv_at hl 4 rfl) ?_
        refine lv_bipush (v := (12 : Int32)) hx hb dX0_gather_41 (by decide) ?_
        refine lv_icmp_ge (tgt := 76) hx hb dX0_gather_43 (by decide) (fun hc => ?_) (fun hc => ?_)
        · rw [if_pos hc] at h
          exact rV hC hw hr hlocks rfl (by rw [← Option.some.inj h]) dX0_gather_76
        · rw [if_neg hc] at h
          refine lv_iload_n hx hb dX0_gather_46 rfl (lv_at hl 3 rfl) ?_
          refine lv_iload hx hb dX0_gather_47 (lv_at hl 4 rfl) ?_
          obtain ⟨r49, hr49, h⟩ := bnd h
          refine cSN (As := [.int v3, .int v4]) (rest := []) (st1 := [.int r49.1]) hC hw (c_X11_has l g n v3 v4 μ r49 hr49) mn_X0_68 st_X11_has rfl hl.1 ⟨by show 0 + 1 ≤ 5 + kr + 1; omega, by show 8 + (2 + 11) + 40 * 0 ≤ 40 * (5 + kr + 1); omega⟩ (Nat.le_of_ble_eq_true rfl) ⟨Nat.zero_le _, Nat.zero_le _⟩ rfl dX0_gather_49 (fun H locs hw => ?_)
          refine lv_if_eq (tgt := 70) hx hb dX0_gather_52 (by decide) (fun hc => ?_) (fun hc => ?_)
          · rw [if_pos hc] at h
            exact B70 v3 v4 r49.2 _ _ _ hw (lv_sub hl [0, 1, 2, 3, 4] rfl) h
          · rw [if_neg hc] at h
            refine lv_aload_n hx hb dX0_gather_55 rfl (lv_at hl 0 rfl) ?_
            refine lv_iload_n hx hb dX0_gather_56 rfl (lv_at hl 1 rfl) ?_
            refine lv_iload hx hb dX0_gather_57 (lv_at hl 4 rfl) ?_
            obtain ⟨r59, hr59, h⟩ := bnd h
            refine cV (b := 25) (As := [.int v1, .int v4]) (rest := []) (st1 := []) hC hw (c_X0_goDown l g n v1 v4 r49.2 r59 hr59) ml_X0_72 im_X0_goDown se_X0_goDown ok25 (CN := RX0) (T := TX0) (NF := 12) rfl rfl (by decide) rfl hl.1 ⟨by show 3 + 1 ≤ 5 + kr + 1; omega, by show 8 + (3 + 11) + 40 * 3 ≤ 40 * (5 + kr + 1); omega⟩ (Nat.le_of_ble_eq_true rfl) ⟨Nat.zero_le _, Nat.zero_le _⟩ rfl dX0_gather_59 (fun H locs hw => ?_)
            refine lv_aload_n hx hb dX0_gather_62 rfl (lv_at hl 0 rfl) ?_
            refine lv_iload_n hx hb dX0_gather_63 rfl (lv_at hl 1 rfl) ?_
            refine lv_iconst (v := (1 : Int32)) hx hb dX0_gather_64 (by decide) ?_
            refine lv_iadd hx hb dX0_gather_65 ?_
            refine lv_iload_n hx hb dX0_gather_66 rfl (lv_at hl 2 rfl) ?_
            obtain ⟨r67, hr67, h⟩ := bnd h
            refine cV (b := 25) (As := [.int (v1 + (1 : Int32)), .int v2]) (rest := []) (st1 := []) hC hw (ihself (v1 + (1 : Int32)) v2 r59.2 r67 hr67) ml_X0_80 im_X0_gather se_X0_gather ok25 (CN := RX0) (T := TX0) (NF := 12) rfl rfl (by decide) rfl hl.1 ⟨by show (5 + kr) + 1 ≤ 5 + kr + 1; omega, by show 8 + (5 + 11) + 40 * (5 + kr) ≤ 40 * (5 + kr + 1); omega⟩ (Nat.le_of_ble_eq_true rfl) ⟨Nat.zero_le _, Nat.zero_le _⟩ rfl dX0_gather_67 (fun H locs hw => ?_)
            exact B70 v3 v4 r67.2 _ _ _ hw (lv_sub hl [0, 1, 2, 3, 4] rfl) h
    refine lv_iload_n hx hb dX0_gather_0 rfl (lv_at hl 1 rfl) ?_
    refine lv_iload_n hx hb dX0_gather_1 rfl (lv_at hl 2 rfl) ?_
    refine lv_icmp_ge (tgt := 11) hx hb dX0_gather_2 (by decide) (fun hc => ?_) (fun hc => ?_)
    · rw [if_pos hc] at h
      exact B11 μ _ _ _ hw (lv_sub hl [0, 1] rfl) h
    · rw [if_neg hc] at h
      refine lv_iload_n hx hb dX0_gather_5 rfl (lv_at hl 1 rfl) ?_
      refine lv_bipush (v := (6 : Int32)) hx hb dX0_gather_6 (by decide) ?_
      refine lv_icmp_lt (tgt := 22) hx hb dX0_gather_8 (by decide) (fun hc => ?_) (fun hc => ?_)
      · rw [if_pos hc] at h
        refine lv_aload_n hx hb dX0_gather_22 rfl (lv_at hl 0 rfl) ?_
        refine gR (t := 6) hC hw fl_X0_40 ok25 (by decide) ot25_2 dX0_gather_23 ?_
        refine lv_aload_n hx hb dX0_gather_26 rfl (lv_at hl 0 rfl) ?_
        refine gR (t := 27) hC hw fl_X0_17 ok25 (by decide) ot25_3 dX0_gather_27 ?_
        refine lv_iload_n hx hb dX0_gather_30 rfl (lv_at hl 1 rfl) ?_
        obtain ⟨hi31, h⟩ := gd_some h
        have ha31 : oK (155 + 2 * v1.toNatClampNeg) = 6 := aK27 (i := v1) (j := v1.toNatClampNeg) hi31 rfl
        refine lA (t := (155 + 2 * v1.toNatClampNeg)) (CN := "SowingHouse$Scene") hC hw ok27 (by decide) rfl on27 hi31 (aT27 (i := v1) (j := v1.toNatClampNeg) hi31 rfl) dX0_gather_31 (by decide) ?_
        obtain ⟨r32, hr32, h⟩ := bnd h
        refine cV (b := 6) (As := [.ref (g.2.2 (155 + 2 * v1.toNatClampNeg))]) (rest := []) (st1 := [.int r32.1]) hC hw (c_X8_choices l g n (155 + 2 * v1.toNatClampNeg) μ r32 hr32) ml_X0_58 im_X8_choices se_X8_choices ok6 (CN := RX8) (T := TX8) (NF := 8) rfl rfl (by decide) rfl hl.1 ⟨by show 4 + 1 ≤ 5 + kr + 1; omega, by show 8 + (2 + 11) + 40 * 4 ≤ 40 * (5 + kr + 1); omega⟩ (Nat.le_of_ble_eq_true rfl) ⟨Nat.zero_le _, Nat.zero_le _⟩ rfl dX0_gather_32 (fun H locs hw => ?_)
        refine lv_istore_n (lv' := [(3, .int r32.1), (0, .ref (g.2.2 25)), (1, .int v1), (2, .int v2)]) hx hb dX0_gather_35 rfl hl (by decide) rfl (fun ls hl => ?_)
        refine lv_iconst (v := (0 : Int32)) hx hb dX0_gather_36 (by decide) ?_
        refine lv_istore (lv' := [(4, .int (0 : Int32)), (3, .int r32.1), (0, .ref (g.2.2 25)), (1, .int v1), (2, .int v2)]) hx hb dX0_gather_37 hl (by decide) rfl (fun ls hl => ?_)
        exact B39 n r32.1 (0 : Int32) r32.2 _ _ _ hw (lv_sub hl [2, 3, 4, 1, 0] rfl) h
      · rw [if_neg hc] at h
        exact B11 μ _ _ _ hw (lv_sub hl [0, 1] rfl) h
theorem c_X0_gather (l : Launch) (g : Gw) (n : Nat) (v1 : Int32) (v2 : Int32) (μ : Mu) (r : Unit × Mu) (h : X0_gather n v1 v2 μ = some r) : Ct l g yX0_gather cX0_gather 5 none 13 [.ref (g.2.2 25), .int v1, .int v2] μ none r.2 := c_X0_gather_k l g n 8 v1 v2 μ r h
set_option maxRecDepth 100000 in
set_option maxHeartbeats 4000000 in
theorem c_X0_endsWithin_k (l : Launch) (g : Gw) (n : Nat) : ∀ (k : Nat) (v1 : Int32) (v2 : Int32) (μ : Mu) (r : Int32 × Mu) (h : lpF (fun _ _ _ => none) (X0_endsWithin_body n) k v1 v2 μ = some r), Ct l g yX0_endsWithin cX0_endsWithin 5 (some .boolean) (5 + k) [.ref (g.2.2 25), .int v1, .int v2] μ (some (.int r.1)) r.2 := by
  intro kr
  induction kr with
  | zero =>
    intro v1 v2 μ r h
    cases h
  | succ kr ihself =>
    rw [lpF_s]
    generalize lpF (fun _ _ _ => none) (X0_endsWithin_body n) kr = kself at ihself ⊢
    intro v1 v2 μ r h
    rw [X0_endsWithin_body] at h
    refine Ct.of (by decide) (Nat.le_of_ble_eq_true rfl) ?_
    intro p e s m args below meth c ls hC hw hr hlocks hl
    have hx := hC.1
    have hb := hC.2.1
    have hl : lv_has ls 5 [(0, .ref (g.2.2 25)), (1, .int v1), (2, .int v2)] := hl
    have B11 : ∀ (μ : Mu) (H : Heap) (locs : List Loc) (ls : Array Slot), wd g μ s (Aw g s.heap.size) H locs → lv_has ls 5 [(0, .ref (g.2.2 25)), (1, .int v1)] → X0_endsWithin_11 n kself v1 v2  μ = some r → WQ p l e (rmD (5 + kr + 1)) s m args below meth c g (some (.int r.1)) r.2 H locs (F0 m 11 ls []) := by
      intro μ H locs ls hw hl h
      rw [X0_endsWithin_11] at h
      refine lv_aload_n hx hb dX0_endsWithin_11 rfl (lv_at hl 0 rfl) ?_
      refine gR (t := 6) hC hw fl_X0_40 ok25 (by decide) ot25_2 dX0_endsWithin_12 ?_
      refine lv_aload_n hx hb dX0_endsWithin_15 rfl (lv_at hl 0 rfl) ?_
      refine gR (t := 27) hC hw fl_X0_17 ok25 (by decide) ot25_3 dX0_endsWithin_16 ?_
      refine lv_iload_n hx hb dX0_endsWithin_19 rfl (lv_at hl 1 rfl) ?_
      obtain ⟨hi20, h⟩ := gd_some h
      have ha20 : oK (155 + 2 * v1.toNatClampNeg) = 6 := aK27 (i := v1) (j := v1.toNatClampNeg) hi20 rfl
      refine lA (t := (155 + 2 * v1.toNatClampNeg)) (CN := "SowingHouse$Scene") hC hw ok27 (by decide) rfl on27 hi20 (aT27 (i := v1) (j := v1.toNatClampNeg) hi20 rfl) dX0_endsWithin_20 (by decide) ?_
      obtain ⟨r21, hr21, h⟩ := bnd h
      refine cV (b := 6) (As := [.ref (g.2.2 (155 + 2 * v1.toNatClampNeg))]) (rest := []) (st1 := [.int r21.1]) hC hw (c_X8_isOver l g n (155 + 2 * v1.toNatClampNeg) μ r21 hr21) ml_X0_125 im_X8_isOver se_X8_isOver ok6 (CN := RX8) (T := TX8) (NF := 8) rfl rfl (by decide) rfl hl.1 ⟨by show 4 + 1 ≤ 5 + kr + 1; omega, by show 8 + (4 + 11) + 40 * 4 ≤ 40 * (5 + kr + 1); omega⟩ (Nat.le_of_ble_eq_true rfl) ⟨Nat.zero_le _, Nat.zero_le _⟩ rfl dX0_endsWithin_21 (fun H locs hw => ?_)
      obtain ⟨hz24, h⟩ := bz_some h
      exact rZ hC hw hr hlocks hz24 (by rw [← Option.some.inj h]) (by rw [← Option.some.inj h]) dX0_endsWithin_24
    have B42 : ∀ (k : Nat), ∀ (v3 : Int32) (v4 : Int32) (μ : Mu) (H : Heap) (locs : List Loc) (ls : Array Slot), wd g μ s (Aw g s.heap.size) H locs → lv_has ls 5 [(0, .ref (g.2.2 25)), (1, .int v1), (2, .int v2), (3, .int v3), (4, .int v4)] → lpF (fun _ _ _ => none) (X0_endsWithin_42b n kself v1 v2) k v3 v4 μ = some r → WQ p l e (rmD (5 + kr + 1)) s m args below meth c g (some (.int r.1)) r.2 H locs (F0 m 42 ls []) := by
      intro k
      induction k with
      | zero =>
        intro v3 v4 μ H locs ls hw hl h
        cases h
      | succ k ih42 =>
        rw [lpF_s]
        generalize lpF (fun _ _ _ => none) (X0_endsWithin_42b n kself v1 v2) k = k42 at ih42 ⊢
        intro v3 v4 μ H locs ls hw hl h
        have B86 : ∀ (v3 : Int32) (v4 : Int32) (μ : Mu) (H : Heap) (locs : List Loc) (ls : Array Slot), wd g μ s (Aw g s.heap.size) H locs → lv_has ls 5 [(0, .ref (g.2.2 25)), (1, .int v1), (2, .int v2), (3, .int v3), (4, .int v4)] → X0_endsWithin_86 n kself v1 v2 k42 v3 v4 μ = some r → WQ p l e (rmD (5 + kr + 1)) s m args below meth c g (some (.int r.1)) r.2 H locs (F0 m 86 ls []) := by
          intro v3 v4 μ H locs ls hw hl h
          rw [X0_endsWithin_86] at h
          refine lv_iinc (v := (v4 + (1 : Int32))) (lv' := [(4, .int (v4 + (1 : Int32))), (0, .ref (g.2.2 25)), (1, .int v1), (2, .int v2), (3, .int v3)]) hx hb dX0_endsWithin_86 hl (k := 4) rfl rfl (by decide) rfl (fun ls hl => ?_)
          refine lv_goto (tgt := 42) hx hb dX0_endsWithin_89 (by decide) ?_
          exact ih42 v3 (v4 + (1 : Int32)) μ _ _ _ hw (lv_sub hl [1, 2, 3, 4, 0] rfl) h
        rw [X0_endsWithin_42b] at h
        refine lv_iload hx hb dX0_endsWithin_42 (lv_at hl 4 rfl) ?_
        refine lv_bipush (v := (12 : Int32)) hx hb dX0_endsWithin_44 (by decide) ?_
        refine lv_icmp_ge (tgt := 92) hx hb dX0_endsWithin_46 (by decide) (fun hc => ?_) (fun hc => ?_)
        · rw [if_pos hc] at h
          refine lv_iconst (v := (0 : Int32)) hx hb dX0_endsWithin_92 (by decide) ?_
          exact rZ hC hw hr hlocks (Or.inl rfl) (by rw [← Option.some.inj h]) (by rw [← Option.some.inj h]) dX0_endsWithin_93
        · rw [if_neg hc] at h
          refine lv_iload_n hx hb dX0_endsWithin_49 rfl (lv_at hl 3 rfl) ?_
          refine lv_iload hx hb dX0_endsWithin_50 (lv_at hl 4 rfl) ?_
          obtain ⟨r52, hr52, h⟩ := bnd h
          refine cSN (As := [.int v3, .int v4]) (rest := []) (st1 := [.int r52.1]) hC hw (c_X11_has l g n v3 v4 μ r52 hr52) mn_X0_68 st_X11_has rfl hl.1 ⟨by show 0 + 1 ≤ 5 + kr + 1; omega, by show 8 + (2 + 11) + 40 * 0 ≤ 40 * (5 + kr + 1); omega⟩ (Nat.le_of_ble_eq_true rfl) ⟨Nat.zero_le _, Nat.zero_le _⟩ rfl dX0_endsWithin_52 (fun H locs hw => ?_)
          refine lv_if_eq (tgt := 86) hx hb dX0_endsWithin_55 (by decide) (fun hc => ?_) (fun hc => ?_)
          · rw [if_pos hc] at h
            exact B86 v3 v4 r52.2 _ _ _ hw (lv_sub hl [0, 1, 2, 3, 4] rfl) h
          · rw [if_neg hc] at h
            refine lv_aload_n hx hb dX0_endsWithin_58 rfl (lv_at hl 0 rfl) ?_
            refine gR (t := 26) hC hw fl_X0_9 ok25 (by decide) ot25_0 dX0_endsWithin_59 ?_
            refine lv_iload_n hx hb dX0_endsWithin_62 rfl (lv_at hl 1 rfl) ?_
            refine lv_iload hx hb dX0_endsWithin_63 (lv_at hl 4 rfl) ?_
            obtain ⟨hi65, h⟩ := gd_some h
            refine sI (j := v1.toNatClampNeg) hC hw ok26 on26 hi65 rfl dX0_endsWithin_65 (fun H locs hw => ?_)
            refine lv_aload_n hx hb dX0_endsWithin_66 rfl (lv_at hl 0 rfl) ?_
            refine lv_iload_n hx hb dX0_endsWithin_67 rfl (lv_at hl 1 rfl) ?_
            refine lv_iload hx hb dX0_endsWithin_68 (lv_at hl 4 rfl) ?_
            obtain ⟨r70, hr70, h⟩ := bnd h
            refine cV (b := 25) (As := [.int v1, .int v4]) (rest := []) (st1 := []) hC hw (c_X0_goDown l g n v1 v4 (si r52.2 26 v1.toNatClampNeg v4) r70 hr70) ml_X0_72 im_X0_goDown se_X0_goDown ok25 (CN := RX0) (T := TX0) (NF := 12) rfl rfl (by decide) rfl hl.1 ⟨by show 3 + 1 ≤ 5 + kr + 1; omega, by show 8 + (3 + 11) + 40 * 3 ≤ 40 * (5 + kr + 1); omega⟩ (Nat.le_of_ble_eq_true rfl) ⟨Nat.zero_le _, Nat.zero_le _⟩ rfl dX0_endsWithin_70 (fun H locs hw => ?_)
            refine lv_aload_n hx hb dX0_endsWithin_73 rfl (lv_at hl 0 rfl) ?_
            refine lv_iload_n hx hb dX0_endsWithin_74 rfl (lv_at hl 1 rfl) ?_
            refine lv_iconst (v := (1 : Int32)) hx hb dX0_endsWithin_75 (by decide) ?_
            refine lv_iadd hx hb dX0_endsWithin_76 ?_
            refine lv_iload_n hx hb dX0_endsWithin_77 rfl (lv_at hl 2 rfl) ?_
            obtain ⟨r78, hr78, h⟩ := bnd h
            refine cV (b := 25) (As := [.int (v1 + (1 : Int32)), .int v2]) (rest := []) (st1 := [.int r78.1]) hC hw (ihself (v1 + (1 : Int32)) v2 r70.2 r78 hr78) ml_X0_122 im_X0_endsWithin se_X0_endsWithin ok25 (CN := RX0) (T := TX0) (NF := 12) rfl rfl (by decide) rfl hl.1 ⟨by show (5 + kr) + 1 ≤ 5 + kr + 1; omega, by show 8 + (5 + 11) + 40 * (5 + kr) ≤ 40 * (5 + kr + 1); omega⟩ (Nat.le_of_ble_eq_true rfl) ⟨Nat.zero_le _, Nat.zero_le _⟩ rfl dX0_endsWithin_78 (fun H locs hw => ?_)
            refine lv_if_eq (tgt := 86) hx hb dX0_endsWithin_81 (by decide) (fun hc => ?_) (fun hc => ?_)
            · rw [if_pos hc] at h
              exact B86 v3 v4 r78.2 _ _ _ hw (lv_sub hl [0, 1, 2, 3, 4] rfl) h
            · rw [if_neg hc] at h
              refine lv_iconst (v := (1 : Int32)) hx hb dX0_endsWithin_84 (by decide) ?_
              exact rZ hC hw hr hlocks (Or.inr rfl) (by rw [← Option.some.inj h]) (by rw [← Option.some.inj h]) dX0_endsWithin_85
    refine lv_iload_n hx hb dX0_endsWithin_0 rfl (lv_at hl 1 rfl) ?_
    refine lv_iload_n hx hb dX0_endsWithin_1 rfl (lv_at hl 2 rfl) ?_
    refine lv_icmp_ge (tgt := 11) hx hb dX0_endsWithin_2 (by decide) (fun hc => ?_) (fun hc => ?_)
    · rw [if_pos hc] at h
      exact B11 μ _ _ _ hw (lv_sub hl [0, 1] rfl) h
    · rw [if_neg hc] at h
      refine lv_iload_n hx hb dX0_endsWithin_5 rfl (lv_at hl 1 rfl) ?_
      refine lv_bipush (v := (6 : Int32)) hx hb dX0_endsWithin_6 (by decide) ?_
      refine lv_icmp_lt (tgt := 25) hx hb dX0_endsWithin_8 (by decide) (fun hc => ?_) (fun hc => ?_)
      · rw [if_pos hc] at h
        refine lv_aload_n hx hb dX0_endsWithin_25 rfl (lv_at hl 0 rfl) ?_
        refine gR (t := 6) hC hw fl_X0_40 ok25 (by decide) ot25_2 dX0_endsWithin_26 ?_
        refine lv_aload_n hx hb dX0_endsWithin_29 rfl (lv_at hl 0 rfl) ?_
        refine gR (t := 27) hC hw fl_X0_17 ok25 (by decide) ot25_3 dX0_endsWithin_30 ?_
        refine lv_iload_n hx hb dX0_endsWithin_33 rfl (lv_at hl 1 rfl) ?_
        obtain ⟨hi34, h⟩ := gd_some h
        have ha34 : oK (155 + 2 * v1.toNatClampNeg) = 6 := aK27 (i := v1) (j := v1.toNatClampNeg) hi34 rfl
        refine lA (t := (155 + 2 * v1.toNatClampNeg)) (CN := "SowingHouse$Scene") hC hw ok27 (by decide) rfl on27 hi34 (aT27 (i := v1) (j := v1.toNatClampNeg) hi34 rfl) dX0_endsWithin_34 (by decide) ?_
        obtain ⟨r35, hr35, h⟩ := bnd h
        refine cV (b := 6) (As := [.ref (g.2.2 (155 + 2 * v1.toNatClampNeg))]) (rest := []) (st1 := [.int r35.1]) hC hw (c_X8_choices l g n (155 + 2 * v1.toNatClampNeg) μ r35 hr35) ml_X0_58 im_X8_choices se_X8_choices ok6 (CN := RX8) (T := TX8) (NF := 8) rfl rfl (by decide) rfl hl.1 ⟨by show 4 + 1 ≤ 5 + kr + 1; omega, by show 8 + (2 + 11) + 40 * 4 ≤ 40 * (5 + kr + 1); omega⟩ (Nat.le_of_ble_eq_true rfl) ⟨Nat.zero_le _, Nat.zero_le _⟩ rfl dX0_endsWithin_35 (fun H locs hw => ?_)
        refine lv_istore_n (lv' := [(3, .int r35.1), (0, .ref (g.2.2 25)), (1, .int v1), (2, .int v2)]) hx hb dX0_endsWithin_38 rfl hl (by decide) rfl (fun ls hl => ?_)
        refine lv_iconst (v := (0 : Int32)) hx hb dX0_endsWithin_39 (by decide) ?_
        refine lv_istore (lv' := [(4, .int (0 : Int32)), (3, .int r35.1), (0, .ref (g.2.2 25)), (1, .int v1), (2, .int v2)]) hx hb dX0_endsWithin_40 hl (by decide) rfl (fun ls hl => ?_)
        exact B42 n r35.1 (0 : Int32) r35.2 _ _ _ hw (lv_sub hl [2, 3, 4, 1, 0] rfl) h
      · rw [if_neg hc] at h
        exact B11 μ _ _ _ hw (lv_sub hl [0, 1] rfl) h
theorem c_X0_endsWithin (l : Launch) (g : Gw) (n : Nat) (v1 : Int32) (v2 : Int32) (μ : Mu) (r : Int32 × Mu) (h : X0_endsWithin n v1 v2 μ = some r) : Ct l g yX0_endsWithin cX0_endsWithin 5 (some .boolean) 13 [.ref (g.2.2 25), .int v1, .int v2] μ (some (.int r.1)) r.2 := c_X0_endsWithin_k l g n 8 v1 v2 μ r h
set_option maxRecDepth 100000 in
set_option maxHeartbeats 4000000 in
theorem c_X0_countFrom (l : Launch) (g : Gw) (n : Nat) (v1 : Nat) (v2 : Int32) (μ : Mu) (r : Int32 × Mu) (h : X0_countFrom n v1 v2 μ = some r) : Ct l g yX0_countFrom cX0_countFrom 3 (some .int) 14 [.ref (g.2.2 25), .ref (g.2.2 v1), .int v2] μ (some (.int r.1)) r.2 := by
  rw [X0_countFrom] at h
  obtain ⟨hk1, h⟩ := kd_some h
  refine Ct.of (by decide) (Nat.le_of_ble_eq_true rfl) ?_
  intro p e s m args below meth c ls hC hw hr hlocks hl
  have hx := hC.1
  have hb := hC.2.1
  have hl : lv_has ls 3 [(0, .ref (g.2.2 25)), (1, .ref (g.2.2 v1)), (2, .int v2)] := hl
  refine lv_aload_n hx hb dX0_countFrom_0 rfl (lv_at hl 0 rfl) ?_
  refine gR (t := 27) hC hw fl_X0_17 ok25 (by decide) ot25_3 dX0_countFrom_1 ?_
  refine lv_iconst (v := (0 : Int32)) hx hb dX0_countFrom_4 (by decide) ?_
  have ha5 : oK 155 = 6 := ok155
  refine lA (t := 155) (CN := "SowingHouse$Scene") hC hw ok27 (by decide) rfl on27 (vin (by decide)) (aT27 (i := (0 : Int32)) (j := 0) (vin (by decide)) (by decide)) dX0_countFrom_5 (by decide) ?_
  refine lv_aload_n hx hb dX0_countFrom_6 rfl (lv_at hl 1 rfl) ?_
  obtain ⟨r7, hr7, h⟩ := bnd h
  refine cV (b := 155) (As := [.ref (g.2.2 v1)]) (rest := []) (st1 := []) hC hw (c_X6_copy l g n 155 v1 μ r7 hr7) ml_X0_44 im_X6_copy se_X6_copy ha5 (CN := RX6) (T := TX6) (NF := 2) rfl rfl (by decide) rfl hl.1 ⟨Nat.le_of_ble_eq_true rfl, Nat.le_of_ble_eq_true rfl⟩ (Nat.le_of_ble_eq_true rfl) ⟨Nat.zero_le _, Nat.zero_le _⟩ rfl dX0_countFrom_7 (fun H locs hw => ?_)
  refine lv_aload_n hx hb dX0_countFrom_10 rfl (lv_at hl 0 rfl) ?_
  refine lv_iconst (v := (0 : Int32)) hx hb dX0_countFrom_11 (by decide) ?_
  refine lv_iload_n hx hb dX0_countFrom_12 rfl (lv_at hl 2 rfl) ?_
  obtain ⟨r13, hr13, h⟩ := bnd h
  refine cV (b := 25) (As := [.int (0 : Int32), .int v2]) (rest := []) (st1 := [.int r13.1]) hC hw (c_X0_countRows l g n (0 : Int32) v2 r7.2 r13 hr13) ml_X0_54 im_X0_countRows se_X0_countRows ok25 (CN := RX0) (T := TX0) (NF := 12) rfl rfl (by decide) rfl hl.1 ⟨Nat.le_of_ble_eq_true rfl, Nat.le_of_ble_eq_true rfl⟩ (Nat.le_of_ble_eq_true rfl) ⟨Nat.zero_le _, Nat.zero_le _⟩ rfl dX0_countFrom_13 (fun H locs hw => ?_)
  exact rI hC hw hr hlocks (by rw [← Option.some.inj h]) (by rw [← Option.some.inj h]) dX0_countFrom_16
set_option maxRecDepth 100000 in
set_option maxHeartbeats 4000000 in
theorem c_X0_countUnlike (l : Launch) (g : Gw) (n : Nat) (v1 : Nat) (v2 : Int32) (μ : Mu) (r : Int32 × Mu) (h : X0_countUnlike n v1 v2 μ = some r) : Ct l g yX0_countUnlike cX0_countUnlike 4 (some .int) 14 [.ref (g.2.2 25), .ref (g.2.2 v1), .int v2] μ (some (.int r.1)) r.2 := by
  rw [X0_countUnlike] at h
  obtain ⟨hk1, h⟩ := kd_some h
  refine Ct.of (by decide) (Nat.le_of_ble_eq_true rfl) ?_
  intro p e s m args below meth c ls hC hw hr hlocks hl
  have hx := hC.1
  have hb := hC.2.1
  have hl : lv_has ls 4 [(0, .ref (g.2.2 25)), (1, .ref (g.2.2 v1)), (2, .int v2)] := hl
  have B17 : ∀ (k : Nat), ∀ (v3 : Int32) (μ : Mu) (H : Heap) (locs : List Loc) (ls : Array Slot), wd g μ s (Aw g s.heap.size) H locs → lv_has ls 4 [(0, .ref (g.2.2 25)), (2, .int v2), (3, .int v3)] → lpF (fun _ _ => none) (X0_countUnlike_17b n v1 v2) k v3 μ = some r → WQ p l e (rmD 14) s m args below meth c g (some (.int r.1)) r.2 H locs (F0 m 17 ls []) := by
    intro k
    induction k with
    | zero =>
      intro v3 μ H locs ls hw hl h
      cases h
    | succ k ih17 =>
      rw [lpF_s]
      generalize lpF (fun _ _ => none) (X0_countUnlike_17b n v1 v2) k = k17 at ih17 ⊢
      intro v3 μ H locs ls hw hl h
      rw [X0_countUnlike_17b] at h
      refine lv_iload_n hx hb dX0_countUnlike_17 rfl (lv_at hl 2 rfl) ?_
      refine lv_sipush (v := (4096 : Int32)) hx hb dX0_countUnlike_18 (by decide) ?_
      refine lv_icmp_ge (tgt := 37) hx hb dX0_countUnlike_21 (by decide) (fun hc => ?_) (fun hc => ?_)
      · rw [if_pos hc] at h
        refine lv_aload_n hx hb dX0_countUnlike_37 rfl (lv_at hl 0 rfl) ?_
        refine lv_iconst (v := (0 : Int32)) hx hb dX0_countUnlike_38 (by decide) ?_
        refine lv_iload_n hx hb dX0_countUnlike_39 rfl (lv_at hl 1 rfl) ?_
        obtain ⟨r40, hr40, h⟩ := bnd h
        refine cV (b := 25) (As := [.int (0 : Int32), .int v2]) (rest := []) (st1 := []) hC hw (c_X0_gather l g n (0 : Int32) v2 μ r40 hr40) ml_X0_80 im_X0_gather se_X0_gather ok25 (CN := RX0) (T := TX0) (NF := 12) rfl rfl (by decide) rfl hl.1 ⟨Nat.le_of_ble_eq_true rfl, Nat.le_of_ble_eq_true rfl⟩ (Nat.le_of_ble_eq_true rfl) ⟨Nat.zero_le _, Nat.zero_le _⟩ rfl dX0_countUnlike_40 (fun H locs hw => ?_)
        refine lv_aload_n hx hb dX0_countUnlike_43 rfl (lv_at hl 0 rfl) ?_
        refine gI hC hw fl_X0_76 ok25 (by decide) dX0_countUnlike_44 ?_
        exact rI hC hw hr hlocks (by rw [← Option.some.inj h]) (by rw [← Option.some.inj h]) dX0_countUnlike_47
      · rw [if_neg hc] at h
        refine lv_aload_n hx hb dX0_countUnlike_24 rfl (lv_at hl 0 rfl) ?_
        refine gR (t := 30) hC hw fl_X0_33 ok25 (by decide) ot25_10 dX0_countUnlike_25 ?_
        refine lv_iload_n hx hb dX0_countUnlike_28 rfl (lv_at hl 2 rfl) ?_
        refine lv_iconst (v := (0 : Int32)) hx hb dX0_countUnlike_29 (by decide) ?_
        obtain ⟨hi30, h⟩ := gd_some h
        refine sI (j := v3.toNatClampNeg) hC hw ok30 on30 hi30 rfl dX0_countUnlike_30 (fun H locs hw => ?_)
        refine lv_iinc (v := (v3 + (1 : Int32))) (lv' := [(3, .int (v3 + (1 : Int32))), (0, .ref (g.2.2 25)), (2, .int v2)]) hx hb dX0_countUnlike_31 hl (k := 2) rfl rfl (by decide) rfl (fun ls hl => ?_)
        refine lv_goto (tgt := 17) hx hb dX0_countUnlike_34 (by decide) ?_
        exact ih17 (v3 + (1 : Int32)) (si μ 30 v3.toNatClampNeg (0 : Int32)) _ _ _ hw (lv_sub hl [1, 2, 0] rfl) h
  refine lv_aload_n hx hb dX0_countUnlike_0 rfl (lv_at hl 0 rfl) ?_
  refine gR (t := 27) hC hw fl_X0_17 ok25 (by decide) ot25_3 dX0_countUnlike_1 ?_
  refine lv_iconst (v := (0 : Int32)) hx hb dX0_countUnlike_4 (by decide) ?_
  have ha5 : oK 155 = 6 := ok155
  refine lA (t := 155) (CN := "SowingHouse$Scene") hC hw ok27 (by decide) rfl on27 (vin (by decide)) (aT27 (i := (0 : Int32)) (j := 0) (vin (by decide)) (by decide)) dX0_countUnlike_5 (by decide) ?_
  refine lv_aload_n hx hb dX0_countUnlike_6 rfl (lv_at hl 1 rfl) ?_
  obtain ⟨r7, hr7, h⟩ := bnd h
  refine cV (b := 155) (As := [.ref (g.2.2 v1)]) (rest := []) (st1 := []) hC hw (c_X6_copy l g n 155 v1 μ r7 hr7) ml_X0_44 im_X6_copy se_X6_copy ha5 (CN := RX6) (T := TX6) (NF := 2) rfl rfl (by decide) rfl hl.1 ⟨Nat.le_of_ble_eq_true rfl, Nat.le_of_ble_eq_true rfl⟩ (Nat.le_of_ble_eq_true rfl) ⟨Nat.zero_le _, Nat.zero_le _⟩ rfl dX0_countUnlike_7 (fun H locs hw => ?_)
  refine lv_aload_n hx hb dX0_countUnlike_10 rfl (lv_at hl 0 rfl) ?_
  refine lv_iconst (v := (0 : Int32)) hx hb dX0_countUnlike_11 (by decide) ?_
  refine pI hC hw fl_X0_76 fp_0_11 ok25 dX0_countUnlike_12 (fun H locs hw => ?_)
  refine lv_iconst (v := (0 : Int32)) hx hb dX0_countUnlike_15 (by decide) ?_
  refine lv_istore_n (lv' := [(3, .int (0 : Int32)), (0, .ref (g.2.2 25)), (1, .ref (g.2.2 v1)), (2, .int v2)]) hx hb dX0_countUnlike_16 rfl hl (by decide) rfl (fun ls hl => ?_)
  exact B17 n (0 : Int32) (si r7.2 25 11 (0 : Int32)) _ _ _ hw (lv_sub hl [1, 3, 0] rfl) h
set_option maxRecDepth 100000 in
set_option maxHeartbeats 4000000 in
theorem c_X0_seekEnd (l : Launch) (g : Gw) (n : Nat) (v1 : Nat) (μ : Mu) (r : Int32 × Mu) (h : X0_seekEnd n v1 μ = some r) : Ct l g yX0_seekEnd cX0_seekEnd 3 (some .int) 14 [.ref (g.2.2 25), .ref (g.2.2 v1)] μ (some (.int r.1)) r.2 := by
  rw [X0_seekEnd] at h
  obtain ⟨hk1, h⟩ := kd_some h
  refine Ct.of (by decide) (Nat.le_of_ble_eq_true rfl) ?_
  intro p e s m args below meth c ls hC hw hr hlocks hl
  have hx := hC.1
  have hb := hC.2.1
  have hl : lv_has ls 3 [(0, .ref (g.2.2 25)), (1, .ref (g.2.2 v1))] := hl
  have B112 : ∀ (μ : Mu) (H : Heap) (locs : List Loc) (ls : Array Slot), wd g μ s (Aw g s.heap.size) H locs → lv_has ls 3 [(0, .ref (g.2.2 25))] → X0_seekEnd_112 n v1  μ = some r → WQ p l e (rmD 14) s m args below meth c g (some (.int r.1)) r.2 H locs (F0 m 112 ls []) := by
    intro μ H locs ls hw hl h
    rw [X0_seekEnd_112] at h
    refine lv_aload_n hx hb dX0_seekEnd_112 rfl (lv_at hl 0 rfl) ?_
    refine gI hC hw fl_X0_119 ok25 (by decide) dX0_seekEnd_113 ?_
    exact rI hC hw hr hlocks (by rw [← Option.some.inj h]) (by rw [← Option.some.inj h]) dX0_seekEnd_116
  have B78 : ∀ (k : Nat), ∀ (v2 : Int32) (μ : Mu) (H : Heap) (locs : List Loc) (ls : Array Slot), wd g μ s (Aw g s.heap.size) H locs → lv_has ls 3 [(0, .ref (g.2.2 25)), (2, .int v2)] → lpF (fun _ _ => none) (X0_seekEnd_78b n v1) k v2 μ = some r → WQ p l e (rmD 14) s m args below meth c g (some (.int r.1)) r.2 H locs (F0 m 78 ls []) := by
    intro k
    induction k with
    | zero =>
      intro v2 μ H locs ls hw hl h
      cases h
    | succ k ih78 =>
      rw [lpF_s]
      generalize lpF (fun _ _ => none) (X0_seekEnd_78b n v1) k = k78 at ih78 ⊢
      intro v2 μ H locs ls hw hl h
      have B106 : ∀ (v2 : Int32) (μ : Mu) (H : Heap) (locs : List Loc) (ls : Array Slot), wd g μ s (Aw g s.heap.size) H locs → lv_has ls 3 [(0, .ref (g.2.2 25)), (2, .int v2)] → X0_seekEnd_106 n v1 k78 v2 μ = some r → WQ p l e (rmD 14) s m args below meth c g (some (.int r.1)) r.2 H locs (F0 m 106 ls []) := by
        intro v2 μ H locs ls hw hl h
        rw [X0_seekEnd_106] at h
        refine lv_iinc (v := (v2 + (1 : Int32))) (lv' := [(2, .int (v2 + (1 : Int32))), (0, .ref (g.2.2 25))]) hx hb dX0_seekEnd_106 hl (k := 1) rfl rfl (by decide) rfl (fun ls hl => ?_)
        refine lv_goto (tgt := 78) hx hb dX0_seekEnd_109 (by decide) ?_
        exact ih78 (v2 + (1 : Int32)) μ _ _ _ hw (lv_sub hl [1, 0] rfl) h
      rw [X0_seekEnd_78b] at h
      refine lv_iload_n hx hb dX0_seekEnd_78 rfl (lv_at hl 1 rfl) ?_
      refine lv_bipush (v := (6 : Int32)) hx hb dX0_seekEnd_79 (by decide) ?_
      refine lv_icmp_gt (tgt := 112) hx hb dX0_seekEnd_81 (by decide) (fun hc => ?_) (fun hc => ?_)
      · rw [if_pos hc] at h
        exact B112 μ _ _ _ hw (lv_sub hl [0] rfl) h
      · rw [if_neg hc] at h
        refine lv_aload_n hx hb dX0_seekEnd_84 rfl (lv_at hl 0 rfl) ?_
        refine gI hC hw fl_X0_119 ok25 (by decide) dX0_seekEnd_85 ?_
        refine lv_iconst (v := ((-1) : Int32)) hx hb dX0_seekEnd_88 (by decide) ?_
        refine lv_icmp_ne (tgt := 112) hx hb dX0_seekEnd_89 (by decide) (fun hc => ?_) (fun hc => ?_)
        · rw [if_neg hc] at h
          exact B112 μ _ _ _ hw (lv_sub hl [0] rfl) h
        · rw [if_pos hc] at h
          refine lv_aload_n hx hb dX0_seekEnd_92 rfl (lv_at hl 0 rfl) ?_
          refine lv_iconst (v := (0 : Int32)) hx hb dX0_seekEnd_93 (by decide) ?_
          refine lv_iload_n hx hb dX0_seekEnd_94 rfl (lv_at hl 1 rfl) ?_
          obtain ⟨r95, hr95, h⟩ := bnd h
          refine cV (b := 25) (As := [.int (0 : Int32), .int v2]) (rest := []) (st1 := [.int r95.1]) hC hw (c_X0_endsWithin l g n (0 : Int32) v2 μ r95 hr95) ml_X0_122 im_X0_endsWithin se_X0_endsWithin ok25 (CN := RX0) (T := TX0) (NF := 12) rfl rfl (by decide) rfl hl.1 ⟨Nat.le_of_ble_eq_true rfl, Nat.le_of_ble_eq_true rfl⟩ (Nat.le_of_ble_eq_true rfl) ⟨Nat.zero_le _, Nat.zero_le _⟩ rfl dX0_seekEnd_95 (fun H locs hw => ?_)
          refine lv_if_eq (tgt := 106) hx hb dX0_seekEnd_98 (by decide) (fun hc => ?_) (fun hc => ?_)
          · rw [if_pos hc] at h
            exact B106 v2 r95.2 _ _ _ hw (lv_sub hl [0, 1] rfl) h
          · rw [if_neg hc] at h
            refine lv_aload_n hx hb dX0_seekEnd_101 rfl (lv_at hl 0 rfl) ?_
            refine lv_iload_n hx hb dX0_seekEnd_102 rfl (lv_at hl 1 rfl) ?_
            refine pI hC hw fl_X0_119 fp_0_6 ok25 dX0_seekEnd_103 (fun H locs hw => ?_)
            exact B106 v2 (si r95.2 25 6 v2) _ _ _ hw (lv_sub hl [0, 1] rfl) h
  have B37 : ∀ (μ : Mu) (H : Heap) (locs : List Loc) (ls : Array Slot), wd g μ s (Aw g s.heap.size) H locs → lv_has ls 3 [(0, .ref (g.2.2 25)), (1, .ref (g.2.2 v1))] → X0_seekEnd_37 n v1  μ = some r → WQ p l e (rmD 14) s m args below meth c g (some (.int r.1)) r.2 H locs (F0 m 37 ls []) := by
    intro μ H locs ls hw hl h
    rw [X0_seekEnd_37] at h
    refine lv_aload_n hx hb dX0_seekEnd_37 rfl (lv_at hl 0 rfl) ?_
    refine lv_iconst (v := (1 : Int32)) hx hb dX0_seekEnd_38 (by decide) ?_
    refine pZ hC hw fl_X0_102 fp_0_7 ok25 (Or.inr rfl) dX0_seekEnd_39 (fun H locs hw => ?_)
    refine lv_aload_n hx hb dX0_seekEnd_42 rfl (lv_at hl 0 rfl) ?_
    refine lv_aload_n hx hb dX0_seekEnd_43 rfl (lv_at hl 0 rfl) ?_
    refine gR (t := 1) hC hw fl_X0_36 ok25 (by decide) ot25_1 dX0_seekEnd_44 ?_
    obtain ⟨r47, hr47, h⟩ := bnd h
    refine cV (b := 1) (As := []) (rest := [.ref (g.2.2 25)]) (st1 := [.int r47.1, .ref (g.2.2 25)]) hC hw (c_X5_key l g n 1 (si μ 25 7 (1 : Int32)) r47 hr47) ml_X0_109 im_X5_key se_X5_key ok1 (CN := RX5) (T := TX5) (NF := 9) rfl rfl (by decide) rfl hl.1 ⟨Nat.le_of_ble_eq_true rfl, Nat.le_of_ble_eq_true rfl⟩ (Nat.le_of_ble_eq_true rfl) ⟨Nat.zero_le _, Nat.zero_le _⟩ rfl dX0_seekEnd_47 (fun H locs hw => ?_)
    refine pI hC hw fl_X0_106 fp_0_5 ok25 dX0_seekEnd_50 (fun H locs hw => ?_)
    refine lv_aload_n hx hb dX0_seekEnd_53 rfl (lv_at hl 0 rfl) ?_
    refine gR (t := 169) hC hw fl_X0_22 ok25 (by decide) ot25_4 dX0_seekEnd_54 ?_
    refine lv_aload_n hx hb dX0_seekEnd_57 rfl (lv_at hl 1 rfl) ?_
    obtain ⟨r58, hr58, h⟩ := bnd h
    refine cV (b := 169) (As := [.ref (g.2.2 v1)]) (rest := []) (st1 := []) hC hw (c_X6_copy l g n 169 v1 (si r47.2 25 5 r47.1) r58 hr58) ml_X0_44 im_X6_copy se_X6_copy ok169 (CN := RX6) (T := TX6) (NF := 2) rfl rfl (by decide) rfl hl.1 ⟨Nat.le_of_ble_eq_true rfl, Nat.le_of_ble_eq_true rfl⟩ (Nat.le_of_ble_eq_true rfl) ⟨Nat.zero_le _, Nat.zero_le _⟩ rfl dX0_seekEnd_58 (fun H locs hw => ?_)
    refine lv_aload_n hx hb dX0_seekEnd_61 rfl (lv_at hl 0 rfl) ?_
    refine gR (t := 27) hC hw fl_X0_17 ok25 (by decide) ot25_3 dX0_seekEnd_62 ?_
    refine lv_iconst (v := (0 : Int32)) hx hb dX0_seekEnd_65 (by decide) ?_
    have ha66 : oK 155 = 6 := ok155
    refine lA (t := 155) (CN := "SowingHouse$Scene") hC hw ok27 (by decide) rfl on27 (vin (by decide)) (aT27 (i := (0 : Int32)) (j := 0) (vin (by decide)) (by decide)) dX0_seekEnd_66 (by decide) ?_
    refine lv_aload_n hx hb dX0_seekEnd_67 rfl (lv_at hl 1 rfl) ?_
    obtain ⟨r68, hr68, h⟩ := bnd h
    refine cV (b := 155) (As := [.ref (g.2.2 v1)]) (rest := []) (st1 := []) hC hw (c_X6_copy l g n 155 v1 r58.2 r68 hr68) ml_X0_44 im_X6_copy se_X6_copy ha66 (CN := RX6) (T := TX6) (NF := 2) rfl rfl (by decide) rfl hl.1 ⟨Nat.le_of_ble_eq_true rfl, Nat.le_of_ble_eq_true rfl⟩ (Nat.le_of_ble_eq_true rfl) ⟨Nat.zero_le _, Nat.zero_le _⟩ rfl dX0_seekEnd_68 (fun H locs hw => ?_)
    refine lv_aload_n hx hb dX0_seekEnd_71 rfl (lv_at hl 0 rfl) ?_
    refine lv_iconst (v := ((-1) : Int32)) hx hb dX0_seekEnd_72 (by decide) ?_
    refine pI hC hw fl_X0_119 fp_0_6 ok25 dX0_seekEnd_73 (fun H locs hw => ?_)
    refine lv_iconst (v := (0 : Int32)) hx hb dX0_seekEnd_76 (by decide) ?_
    refine lv_istore_n (lv' := [(2, .int (0 : Int32)), (0, .ref (g.2.2 25)), (1, .ref (g.2.2 v1))]) hx hb dX0_seekEnd_77 rfl hl (by decide) rfl (fun ls hl => ?_)
    exact B78 n (0 : Int32) (si r68.2 25 6 ((-1) : Int32)) _ _ _ hw (lv_sub hl [1, 0] rfl) h
  refine lv_aload_n hx hb dX0_seekEnd_0 rfl (lv_at hl 0 rfl) ?_
  refine gI hC hw fl_X0_102 ok25 (by decide) dX0_seekEnd_1 ?_
  refine lv_if_eq (tgt := 37) hx hb dX0_seekEnd_4 (by decide) (fun hc => ?_) (fun hc => ?_)
  · rw [if_pos hc] at h
    exact B37 μ _ _ _ hw (lv_sub hl [0, 1] rfl) h
  · rw [if_neg hc] at h
    refine lv_aload_n hx hb dX0_seekEnd_7 rfl (lv_at hl 0 rfl) ?_
    refine gI hC hw fl_X0_106 ok25 (by decide) dX0_seekEnd_8 ?_
    refine lv_aload_n hx hb dX0_seekEnd_11 rfl (lv_at hl 0 rfl) ?_
    refine gR (t := 1) hC hw fl_X0_36 ok25 (by decide) ot25_1 dX0_seekEnd_12 ?_
    obtain ⟨r15, hr15, h⟩ := bnd h
    refine cV (b := 1) (As := []) (rest := [.int (μ.1 25 5)]) (st1 := [.int r15.1, .int (μ.1 25 5)]) hC hw (c_X5_key l g n 1 μ r15 hr15) ml_X0_109 im_X5_key se_X5_key ok1 (CN := RX5) (T := TX5) (NF := 9) rfl rfl (by decide) rfl hl.1 ⟨Nat.le_of_ble_eq_true rfl, Nat.le_of_ble_eq_true rfl⟩ (Nat.le_of_ble_eq_true rfl) ⟨Nat.zero_le _, Nat.zero_le _⟩ rfl dX0_seekEnd_15 (fun H locs hw => ?_)
    refine lv_icmp_ne (tgt := 37) hx hb dX0_seekEnd_18 (by decide) (fun hc => ?_) (fun hc => ?_)
    · rw [if_neg hc] at h
      exact B37 r15.2 _ _ _ hw (lv_sub hl [0, 1] rfl) h
    · rw [if_pos hc] at h
      refine lv_aload_n hx hb dX0_seekEnd_21 rfl (lv_at hl 0 rfl) ?_
      refine gR (t := 169) hC hw fl_X0_22 ok25 (by decide) ot25_4 dX0_seekEnd_22 ?_
      refine lv_aload_n hx hb dX0_seekEnd_25 rfl (lv_at hl 1 rfl) ?_
      obtain ⟨r26, hr26, h⟩ := bnd h
      refine cV (b := 169) (As := [.ref (g.2.2 v1)]) (rest := []) (st1 := [.int r26.1]) hC hw (c_X6_isLike l g n 169 v1 r15.2 r26 hr26) ml_X0_115 im_X6_isLike se_X6_isLike ok169 (CN := RX6) (T := TX6) (NF := 2) rfl rfl (by decide) rfl hl.1 ⟨Nat.le_of_ble_eq_true rfl, Nat.le_of_ble_eq_true rfl⟩ (Nat.le_of_ble_eq_true rfl) ⟨Nat.zero_le _, Nat.zero_le _⟩ rfl dX0_seekEnd_26 (fun H locs hw => ?_)
      refine lv_if_eq (tgt := 37) hx hb dX0_seekEnd_29 (by decide) (fun hc => ?_) (fun hc => ?_)
      · rw [if_pos hc] at h
        exact B37 r26.2 _ _ _ hw (lv_sub hl [0, 1] rfl) h
      · rw [if_neg hc] at h
        refine lv_aload_n hx hb dX0_seekEnd_32 rfl (lv_at hl 0 rfl) ?_
        refine gI hC hw fl_X0_119 ok25 (by decide) dX0_seekEnd_33 ?_
        exact rI hC hw hr hlocks (by rw [← Option.some.inj h]) (by rw [← Option.some.inj h]) dX0_seekEnd_36
set_option maxRecDepth 100000 in
set_option maxHeartbeats 4000000 in
theorem c_X11_soonest (l : Launch) (g : Gw) (n : Nat) (v1 : Int32) (μ : Mu) (r : Int32 × Mu) (h : X11_soonest n v1 μ = some r) : Ct l g yX11_soonest cX11_soonest 3 (some .int) 15 [.ref (g.2.2 0), .int v1] μ (some (.int r.1)) r.2 := by
  rw [X11_soonest] at h
  refine Ct.of (by decide) (Nat.le_of_ble_eq_true rfl) ?_
  intro p e s m args below meth c ls hC hw hr hlocks hl
  have hx := hC.1
  have hb := hC.2.1
  have hl : lv_has ls 3 [(0, .ref (g.2.2 0)), (1, .int v1)] := hl
  have B41 : ∀ (s0 : Int32) (μ : Mu) (H : Heap) (locs : List Loc) (ls : Array Slot), wd g μ s (Aw g s.heap.size) H locs → lv_has ls 3 [] → X11_soonest_41 n v1 s0 μ = some r → WQ p l e (rmD 15) s m args below meth c g (some (.int r.1)) r.2 H locs (F0 m 41 ls [.int s0]) := by
    intro s0 μ H locs ls hw hl h
    rw [X11_soonest_41] at h
    exact rI hC hw hr hlocks (by rw [← Option.some.inj h]) (by rw [← Option.some.inj h]) dX11_soonest_41
  have B40 : ∀ (μ : Mu) (H : Heap) (locs : List Loc) (ls : Array Slot), wd g μ s (Aw g s.heap.size) H locs → lv_has ls 3 [] → X11_soonest_40 n v1  μ = some r → WQ p l e (rmD 15) s m args below meth c g (some (.int r.1)) r.2 H locs (F0 m 40 ls []) := by
    intro μ H locs ls hw hl h
    rw [X11_soonest_40] at h
    refine lv_iconst (v := ((-1) : Int32)) hx hb dX11_soonest_40 (by decide) ?_
    exact B41 ((-1) : Int32) μ _ _ _ hw (lv_sub hl [] rfl) h
  refine lv_aload_n hx hb dX11_soonest_0 rfl (lv_at hl 0 rfl) ?_
  refine gR (t := 25) hC hw fl_X11_81 ok0 (by decide) ot0_9 dX11_soonest_1 ?_
  refine lv_aload_n hx hb dX11_soonest_4 rfl (lv_at hl 0 rfl) ?_
  refine gR (t := 53) hC hw fl_X11_37 ok0 (by decide) ot0_3 dX11_soonest_5 ?_
  obtain ⟨r8, hr8, h⟩ := bnd h
  refine cV (b := 25) (As := [.ref (g.2.2 53)]) (rest := []) (st1 := [.int r8.1]) hC hw (c_X0_seekEnd l g n 53 μ r8 hr8) ml_X11_331 im_X0_seekEnd se_X0_seekEnd ok25 (CN := RX0) (T := TX0) (NF := 12) rfl rfl (by decide) rfl hl.1 ⟨Nat.le_of_ble_eq_true rfl, Nat.le_of_ble_eq_true rfl⟩ (Nat.le_of_ble_eq_true rfl) ⟨Nat.zero_le _, Nat.zero_le _⟩ rfl dX11_soonest_8 (fun H locs hw => ?_)
  refine lv_istore_n (lv' := [(2, .int r8.1), (0, .ref (g.2.2 0)), (1, .int v1)]) hx hb dX11_soonest_11 rfl hl (by decide) rfl (fun ls hl => ?_)
  refine lv_iload_n hx hb dX11_soonest_12 rfl (lv_at hl 2 rfl) ?_
  refine lv_iconst (v := ((-1) : Int32)) hx hb dX11_soonest_13 (by decide) ?_
  refine lv_icmp_ne (tgt := 19) hx hb dX11_soonest_14 (by decide) (fun hc => ?_) (fun hc => ?_)
  · rw [if_neg hc] at h
    refine lv_iload_n hx hb dX11_soonest_19 rfl (lv_at hl 2 rfl) ?_
    refine lv_if_lt (tgt := 40) hx hb dX11_soonest_20 (by decide) (fun hc => ?_) (fun hc => ?_)
    · rw [if_pos hc] at h
      exact B40 r8.2 _ _ _ hw (lv_sub hl [] rfl) h
    · rw [if_neg hc] at h
      refine lv_iload_n hx hb dX11_soonest_23 rfl (lv_at hl 2 rfl) ?_
      refine lv_iload_n hx hb dX11_soonest_24 rfl (lv_at hl 0 rfl) ?_
      refine lv_icmp_ge (tgt := 40) hx hb dX11_soonest_25 (by decide) (fun hc => ?_) (fun hc => ?_)
      · rw [if_pos hc] at h
        exact B40 r8.2 _ _ _ hw (lv_sub hl [] rfl) h
      · rw [if_neg hc] at h
        refine lv_aload_n hx hb dX11_soonest_28 rfl (lv_at hl 1 rfl) ?_
        refine gR (t := 25) hC hw fl_X11_81 ok0 (by decide) ot0_9 dX11_soonest_29 ?_
        refine gR (t := 26) hC hw fl_X11_334 ok25 (by decide) ot25_0 dX11_soonest_32 ?_
        refine lv_iload_n hx hb dX11_soonest_35 rfl (lv_at hl 2 rfl) ?_
        obtain ⟨hi36, h⟩ := gd_some h
        refine lI (j := v1.toNatClampNeg) hC hw ok26 on26 hi36 rfl dX11_soonest_36 ?_
        refine lv_goto (tgt := 41) hx hb dX11_soonest_37 (by decide) ?_
        exact B41 (r8.2.1 26 v1.toNatClampNeg) r8.2 _ _ _ hw (lv_sub hl [] rfl) h
  · rw [if_pos hc] at h
    refine lv_iload_n hx hb dX11_soonest_17 rfl (lv_at hl 0 rfl) ?_
    exact rI hC hw hr hlocks (by rw [← Option.some.inj h]) (by rw [← Option.some.inj h]) dX11_soonest_18
