set_option maxRecDepth 100000 in
set_option maxHeartbeats 4000000 in
theorem c_X11_pits (l : Launch) (g : Gw) (n : Nat) (v1 : Int32) (μ : Mu) (r : Int32 × Mu) (h : X11_pits n v1 μ = some (Sum.inl r.1, r.2)) : Ct l g yX11_pits cX11_pits 5 (some .int) 6 [.ref (g.2.2 0), .int v1] μ (some (.int r.1)) r.2 := by
  rw [X11_pits] at h
  refine Ct.of (by decide) (Nat.le_of_ble_eq_true rfl) ?_
  intro p e s m args below meth c ls hC hw hr hlocks hl
  have hx := hC.1
  have hb := hC.2.1
  have hl : lv_has ls 5 [(0, .ref (g.2.2 0)), (1, .int v1)] := hl
  have B9 : ∀ (μ : Mu) (H : Heap) (locs : List Loc) (ls : Array Slot), wd g μ s (Aw g s.heap.size) H locs → lv_has ls 5 [] → X11_pits_9 n v1  μ = some (Sum.inl r.1, r.2) → WQ p l e (rmD 6) s m args below meth c g (some (.int r.1)) r.2 H locs (F0 m 9 ls []) := by
    intro μ H locs ls hw hl h
    rw [X11_pits_9] at h
    cases h
  have B36 : ∀ (k : Nat), ∀ (v2 : Int32) (v3 : Int32) (v4 : Int32) (μ : Mu) (H : Heap) (locs : List Loc) (ls : Array Slot), wd g μ s (Aw g s.heap.size) H locs → lv_has ls 5 [(0, .ref (g.2.2 0)), (1, .int v1), (2, .int v2), (3, .int v3), (4, .int v4)] → lpF (fun _ _ _ _ => none) (X11_pits_36b n v1) k v2 v3 v4 μ = some (Sum.inl r.1, r.2) → WQ p l e (rmD 6) s m args below meth c g (some (.int r.1)) r.2 H locs (F0 m 36 ls []) := by
    intro k
    induction k with
    | zero =>
      intro v2 v3 v4 μ H locs ls hw hl h
      cases h
    | succ k ih36 =>
      rw [lpF_s]
      generalize lpF (fun _ _ _ _ => none) (X11_pits_36b n v1) k = k36 at ih36 ⊢
      intro v2 v3 v4 μ H locs ls hw hl h
      have B69 : ∀ (v2 : Int32) (v3 : Int32) (v4 : Int32) (μ : Mu) (H : Heap) (locs : List Loc) (ls : Array Slot), wd g μ s (Aw g s.heap.size) H locs → lv_has ls 5 [(0, .ref (g.2.2 0)), (1, .int v1), (2, .int v2), (3, .int v3), (4, .int v4)] → X11_pits_69 n v1 k36 v2 v3 v4 μ = some (Sum.inl r.1, r.2) → WQ p l e (rmD 6) s m args below meth c g (some (.int r.1)) r.2 H locs (F0 m 69 ls []) := by
        intro v2 v3 v4 μ H locs ls hw hl h
        rw [X11_pits_69] at h
        refine lv_iinc (v := (v4 + (1 : Int32))) (lv' := [(4, .int (v4 + (1 : Int32))), (0, .ref (g.2.2 0)), (1, .int v1), (2, .int v2), (3, .int v3)]) hx hb dX11_pits_69 hl (k := 4) rfl rfl (by decide) rfl (fun ls hl => ?_)
        refine lv_goto (tgt := 36) hx hb dX11_pits_72 (by decide) ?_
        exact ih36 v2 v3 (v4 + (1 : Int32)) μ _ _ _ hw (lv_sub hl [1, 2, 3, 4, 0] rfl) h
      rw [X11_pits_36b] at h
      refine lv_iload hx hb dX11_pits_36 (lv_at hl 4 rfl) ?_
      refine lv_bipush (v := (12 : Int32)) hx hb dX11_pits_38 (by decide) ?_
      refine lv_icmp_ge (tgt := 75) hx hb dX11_pits_40 (by decide) (fun hc => ?_) (fun hc => ?_)
      · rw [if_pos hc] at h
        refine lv_iload_n hx hb dX11_pits_75 rfl (lv_at hl 3 rfl) ?_
        exact rI hC hw hr hlocks (by rw [(inlI h).1]) (inlI h).2 dX11_pits_76
      · rw [if_neg hc] at h
        refine lv_iload_n hx hb dX11_pits_43 rfl (lv_at hl 2 rfl) ?_
        refine lv_iload hx hb dX11_pits_44 (lv_at hl 4 rfl) ?_
        obtain ⟨r46, hr46, h⟩ := bnd h
        refine cS (As := [.int v2, .int v4]) (rest := []) (st1 := [.int r46.1]) hC hw (c_X11_has l g n v2 v4 μ r46 hr46) ml_X11_337 st_X11_has rfl hl.1 ⟨Nat.le_of_ble_eq_true rfl, Nat.le_of_ble_eq_true rfl⟩ (Nat.le_of_ble_eq_true rfl) ⟨Nat.zero_le _, Nat.zero_le _⟩ rfl dX11_pits_46 (fun H locs hw => ?_)
        refine lv_if_eq (tgt := 69) hx hb dX11_pits_49 (by decide) (fun hc => ?_) (fun hc => ?_)
        · rw [if_pos hc] at h
          exact B69 v2 v3 v4 r46.2 _ _ _ hw (lv_sub hl [0, 1, 2, 3, 4] rfl) h
        · rw [if_neg hc] at h
          refine lv_aload_n hx hb dX11_pits_52 rfl (lv_at hl 0 rfl) ?_
          refine lv_iload hx hb dX11_pits_53 (lv_at hl 4 rfl) ?_
          refine lv_iload_n hx hb dX11_pits_55 rfl (lv_at hl 1 rfl) ?_
          obtain ⟨r56, hr56, h⟩ := bnd h
          refine cV (b := 0) (As := [.int v4, .int v1]) (rest := []) (st1 := [.int r56.1]) hC hw (c_X11_isNotable l g n v4 v1 r46.2 r56 hr56) ml_X11_340 im_X11_isNotable se_X11_isNotable ok0 (CN := RX11) (T := TX11) (NF := 12) rfl rfl (by decide) rfl hl.1 ⟨Nat.le_of_ble_eq_true rfl, Nat.le_of_ble_eq_true rfl⟩ (Nat.le_of_ble_eq_true rfl) ⟨Nat.zero_le _, Nat.zero_le _⟩ rfl dX11_pits_56 (fun H locs hw => ?_)
          refine lv_if_eq (tgt := 69) hx hb dX11_pits_59 (by decide) (fun hc => ?_) (fun hc => ?_)
          · rw [if_pos hc] at h
            exact B69 v2 v3 v4 r56.2 _ _ _ hw (lv_sub hl [0, 1, 2, 3, 4] rfl) h
          · rw [if_neg hc] at h
            refine lv_iload_n hx hb dX11_pits_62 rfl (lv_at hl 3 rfl) ?_
            refine lv_iconst (v := (1 : Int32)) hx hb dX11_pits_63 (by decide) ?_
            refine lv_iload hx hb dX11_pits_64 (lv_at hl 4 rfl) ?_
            refine lv_ishl hx hb dX11_pits_66 ?_
            refine lv_ior hx hb dX11_pits_67 ?_
            refine lv_istore_n (lv' := [(3, .int (v3 ||| ((1 : Int32) <<< (v4 &&& 31)))), (0, .ref (g.2.2 0)), (1, .int v1), (2, .int v2), (4, .int v4)]) hx hb dX11_pits_68 rfl hl (by decide) rfl (fun ls hl => ?_)
            exact B69 v2 (v3 ||| ((1 : Int32) <<< (v4 &&& 31))) v4 r56.2 _ _ _ hw (lv_sub hl [1, 2, 3, 0, 4] rfl) h
  refine lv_iload_n hx hb dX11_pits_0 rfl (lv_at hl 1 rfl) ?_
  refine lv_if_lt (tgt := 9) hx hb dX11_pits_1 (by decide) (fun hc => ?_) (fun hc => ?_)
  · rw [if_pos hc] at h
    exact B9 μ _ _ _ hw (lv_sub hl [] rfl) h
  · rw [if_neg hc] at h
    refine lv_iload_n hx hb dX11_pits_4 rfl (lv_at hl 1 rfl) ?_
    refine lv_iconst (v := (2 : Int32)) hx hb dX11_pits_5 (by decide) ?_
    refine lv_icmp_le (tgt := 19) hx hb dX11_pits_6 (by decide) (fun hc => ?_) (fun hc => ?_)
    · rw [if_pos hc] at h
      refine lv_aload_n hx hb dX11_pits_19 rfl (lv_at hl 0 rfl) ?_
      refine gR (t := 6) hC hw fl_X11_30 ok0 (by decide) ot0_2 dX11_pits_20 ?_
      refine lv_aload_n hx hb dX11_pits_23 rfl (lv_at hl 0 rfl) ?_
      refine gR (t := 53) hC hw fl_X11_37 ok0 (by decide) ot0_3 dX11_pits_24 ?_
      obtain ⟨r27, hr27, h⟩ := bnd h
      refine cV (b := 6) (As := [.ref (g.2.2 53)]) (rest := []) (st1 := [.int r27.1]) hC hw (c_X8_choices l g n 53 μ r27 hr27) ml_X11_290 im_X8_choices se_X8_choices ok6 (CN := RX8) (T := TX8) (NF := 8) rfl rfl (by decide) rfl hl.1 ⟨Nat.le_of_ble_eq_true rfl, Nat.le_of_ble_eq_true rfl⟩ (Nat.le_of_ble_eq_true rfl) ⟨Nat.zero_le _, Nat.zero_le _⟩ rfl dX11_pits_27 (fun H locs hw => ?_)
      refine lv_istore_n (lv' := [(2, .int r27.1), (0, .ref (g.2.2 0)), (1, .int v1)]) hx hb dX11_pits_30 rfl hl (by decide) rfl (fun ls hl => ?_)
      refine lv_iconst (v := (0 : Int32)) hx hb dX11_pits_31 (by decide) ?_
      refine lv_istore_n (lv' := [(3, .int (0 : Int32)), (2, .int r27.1), (0, .ref (g.2.2 0)), (1, .int v1)]) hx hb dX11_pits_32 rfl hl (by decide) rfl (fun ls hl => ?_)
      refine lv_iconst (v := (0 : Int32)) hx hb dX11_pits_33 (by decide) ?_
      refine lv_istore (lv' := [(4, .int (0 : Int32)), (3, .int (0 : Int32)), (2, .int r27.1), (0, .ref (g.2.2 0)), (1, .int v1)]) hx hb dX11_pits_34 hl (by decide) rfl (fun ls hl => ?_)
      exact B36 n r27.1 (0 : Int32) (0 : Int32) r27.2 _ _ _ hw (lv_sub hl [3, 4, 2, 1, 0] rfl) h
    · rw [if_neg hc] at h
      exact B9 μ _ _ _ hw (lv_sub hl [] rfl) h
set_option maxRecDepth 100000 in
set_option maxHeartbeats 4000000 in
theorem x_X11_pits (l : Launch) (hst : l.stackTraces = false) (g : Gw) (n : Nat) (v1 : Int32) (μ : Mu) (kx : Nat) (μx : Mu) (h : X11_pits n v1 μ = some (Sum.inr kx, μx)) : CtX l g yX11_pits cX11_pits 5 (some .int) 6 [.ref (g.2.2 0), .int v1] μ kx μx := by
  rw [X11_pits] at h
  refine CtX.of (by decide) (Nat.le_of_ble_eq_true rfl) ?_
  intro p e s m args below meth c ls hC hw htab hlocks hl
  have hx := hC.1
  have hb := hC.2.1
  have hl : lv_has ls 5 [(0, .ref (g.2.2 0)), (1, .int v1)] := hl
  have B9 : ∀ (μ : Mu) (H : Heap) (locs : List Loc) (ls : Array Slot), wd g μ s (Aw g s.heap.size) H locs → lv_has ls 5 [] → X11_pits_9 n v1  μ = some (Sum.inr kx, μx) → WX p l e (rmX 6) s m args below meth c g kx μx H locs (F0 m 9 ls []) := by
    intro μ H locs ls hw hl h
    rw [X11_pits_9] at h
    exact thS (rest := []) hC hw hst 20 (by decide) rfl rfl xft1 xnm xcl1 xin1 xat1 hl.1 htab hlocks (by rw [← (inrI h).1]; rfl) (inrI h).2 (Nat.le_of_ble_eq_true rfl) (Nat.le_of_ble_eq_true rfl) dX11_pits_9 dX11_pits_12 dX11_pits_13 dX11_pits_15 dX11_pits_18
  have B36 : ∀ (k : Nat), ∀ (v2 : Int32) (v3 : Int32) (v4 : Int32) (μ : Mu) (H : Heap) (locs : List Loc) (ls : Array Slot), wd g μ s (Aw g s.heap.size) H locs → lv_has ls 5 [(0, .ref (g.2.2 0)), (1, .int v1), (2, .int v2), (3, .int v3), (4, .int v4)] → lpF (fun _ _ _ _ => none) (X11_pits_36b n v1) k v2 v3 v4 μ = some (Sum.inr kx, μx) → WX p l e (rmX 6) s m args below meth c g kx μx H locs (F0 m 36 ls []) := by
    intro k
    induction k with
    | zero =>
      intro v2 v3 v4 μ H locs ls hw hl h
      cases h
    | succ k ih36 =>
      rw [lpF_s]
      generalize lpF (fun _ _ _ _ => none) (X11_pits_36b n v1) k = k36 at ih36 ⊢
      intro v2 v3 v4 μ H locs ls hw hl h
      have B69 : ∀ (v2 : Int32) (v3 : Int32) (v4 : Int32) (μ : Mu) (H : Heap) (locs : List Loc) (ls : Array Slot), wd g μ s (Aw g s.heap.size) H locs → lv_has ls 5 [(0, .ref (g.2.2 0)), (1, .int v1), (2, .int v2), (3, .int v3), (4, .int v4)] → X11_pits_69 n v1 k36 v2 v3 v4 μ = some (Sum.inr kx, μx) → WX p l e (rmX 6) s m args below meth c g kx μx H locs (F0 m 69 ls []) := by
        intro v2 v3 v4 μ H locs ls hw hl h
        rw [X11_pits_69] at h
        refine lv_iinc (v := (v4 + (1 : Int32))) (lv' := [(4, .int (v4 + (1 : Int32))), (0, .ref (g.2.2 0)), (1, .int v1), (2, .int v2), (3, .int v3)]) hx hb dX11_pits_69 hl (k := 4) rfl rfl (by decide) rfl (fun ls hl => ?_)
        refine lv_goto (tgt := 36) hx hb dX11_pits_72 (by decide) ?_
        exact ih36 v2 v3 (v4 + (1 : Int32)) μ _ _ _ hw (lv_sub hl [1, 2, 3, 4, 0] rfl) h
      rw [X11_pits_36b] at h
      refine lv_iload hx hb dX11_pits_36 (lv_at hl 4 rfl) ?_
      refine lv_bipush (v := (12 : Int32)) hx hb dX11_pits_38 (by decide) ?_
      refine lv_icmp_ge (tgt := 75) hx hb dX11_pits_40 (by decide) (fun hc => ?_) (fun hc => ?_)
      · rw [if_pos hc] at h
        refine lv_iload_n hx hb dX11_pits_75 rfl (lv_at hl 3 rfl) ?_
        cases h
      · rw [if_neg hc] at h
        refine lv_iload_n hx hb dX11_pits_43 rfl (lv_at hl 2 rfl) ?_
        refine lv_iload hx hb dX11_pits_44 (lv_at hl 4 rfl) ?_
        obtain ⟨r46, hr46, h⟩ := bnd h
        refine cS (As := [.int v2, .int v4]) (rest := []) (st1 := [.int r46.1]) hC hw (c_X11_has l g n v2 v4 μ r46 hr46) ml_X11_337 st_X11_has rfl hl.1 ⟨Nat.le_of_ble_eq_true rfl, Nat.le_of_ble_eq_true rfl⟩ (Nat.le_of_ble_eq_true rfl) ⟨Nat.zero_le _, Nat.zero_le _⟩ rfl dX11_pits_46 (fun H locs hw => ?_)
        refine lv_if_eq (tgt := 69) hx hb dX11_pits_49 (by decide) (fun hc => ?_) (fun hc => ?_)
        · rw [if_pos hc] at h
          exact B69 v2 v3 v4 r46.2 _ _ _ hw (lv_sub hl [0, 1, 2, 3, 4] rfl) h
        · rw [if_neg hc] at h
          refine lv_aload_n hx hb dX11_pits_52 rfl (lv_at hl 0 rfl) ?_
          refine lv_iload hx hb dX11_pits_53 (lv_at hl 4 rfl) ?_
          refine lv_iload_n hx hb dX11_pits_55 rfl (lv_at hl 1 rfl) ?_
          obtain ⟨r56, hr56, h⟩ := bnd h
          refine cV (b := 0) (As := [.int v4, .int v1]) (rest := []) (st1 := [.int r56.1]) hC hw (c_X11_isNotable l g n v4 v1 r46.2 r56 hr56) ml_X11_340 im_X11_isNotable se_X11_isNotable ok0 (CN := RX11) (T := TX11) (NF := 12) rfl rfl (by decide) rfl hl.1 ⟨Nat.le_of_ble_eq_true rfl, Nat.le_of_ble_eq_true rfl⟩ (Nat.le_of_ble_eq_true rfl) ⟨Nat.zero_le _, Nat.zero_le _⟩ rfl dX11_pits_56 (fun H locs hw => ?_)
          refine lv_if_eq (tgt := 69) hx hb dX11_pits_59 (by decide) (fun hc => ?_) (fun hc => ?_)
          · rw [if_pos hc] at h
            exact B69 v2 v3 v4 r56.2 _ _ _ hw (lv_sub hl [0, 1, 2, 3, 4] rfl) h
          · rw [if_neg hc] at h
            refine lv_iload_n hx hb dX11_pits_62 rfl (lv_at hl 3 rfl) ?_
            refine lv_iconst (v := (1 : Int32)) hx hb dX11_pits_63 (by decide) ?_
            refine lv_iload hx hb dX11_pits_64 (lv_at hl 4 rfl) ?_
            refine lv_ishl hx hb dX11_pits_66 ?_
            refine lv_ior hx hb dX11_pits_67 ?_
            refine lv_istore_n (lv' := [(3, .int (v3 ||| ((1 : Int32) <<< (v4 &&& 31)))), (0, .ref (g.2.2 0)), (1, .int v1), (2, .int v2), (4, .int v4)]) hx hb dX11_pits_68 rfl hl (by decide) rfl (fun ls hl => ?_)
            exact B69 v2 (v3 ||| ((1 : Int32) <<< (v4 &&& 31))) v4 r56.2 _ _ _ hw (lv_sub hl [1, 2, 3, 0, 4] rfl) h
  refine lv_iload_n hx hb dX11_pits_0 rfl (lv_at hl 1 rfl) ?_
  refine lv_if_lt (tgt := 9) hx hb dX11_pits_1 (by decide) (fun hc => ?_) (fun hc => ?_)
  · rw [if_pos hc] at h
    exact B9 μ _ _ _ hw (lv_sub hl [] rfl) h
  · rw [if_neg hc] at h
    refine lv_iload_n hx hb dX11_pits_4 rfl (lv_at hl 1 rfl) ?_
    refine lv_iconst (v := (2 : Int32)) hx hb dX11_pits_5 (by decide) ?_
    refine lv_icmp_le (tgt := 19) hx hb dX11_pits_6 (by decide) (fun hc => ?_) (fun hc => ?_)
    · rw [if_pos hc] at h
      refine lv_aload_n hx hb dX11_pits_19 rfl (lv_at hl 0 rfl) ?_
      refine gR (t := 6) hC hw fl_X11_30 ok0 (by decide) ot0_2 dX11_pits_20 ?_
      refine lv_aload_n hx hb dX11_pits_23 rfl (lv_at hl 0 rfl) ?_
      refine gR (t := 53) hC hw fl_X11_37 ok0 (by decide) ot0_3 dX11_pits_24 ?_
      obtain ⟨r27, hr27, h⟩ := bnd h
      refine cV (b := 6) (As := [.ref (g.2.2 53)]) (rest := []) (st1 := [.int r27.1]) hC hw (c_X8_choices l g n 53 μ r27 hr27) ml_X11_290 im_X8_choices se_X8_choices ok6 (CN := RX8) (T := TX8) (NF := 8) rfl rfl (by decide) rfl hl.1 ⟨Nat.le_of_ble_eq_true rfl, Nat.le_of_ble_eq_true rfl⟩ (Nat.le_of_ble_eq_true rfl) ⟨Nat.zero_le _, Nat.zero_le _⟩ rfl dX11_pits_27 (fun H locs hw => ?_)
      refine lv_istore_n (lv' := [(2, .int r27.1), (0, .ref (g.2.2 0)), (1, .int v1)]) hx hb dX11_pits_30 rfl hl (by decide) rfl (fun ls hl => ?_)
      refine lv_iconst (v := (0 : Int32)) hx hb dX11_pits_31 (by decide) ?_
      refine lv_istore_n (lv' := [(3, .int (0 : Int32)), (2, .int r27.1), (0, .ref (g.2.2 0)), (1, .int v1)]) hx hb dX11_pits_32 rfl hl (by decide) rfl (fun ls hl => ?_)
      refine lv_iconst (v := (0 : Int32)) hx hb dX11_pits_33 (by decide) ?_
      refine lv_istore (lv' := [(4, .int (0 : Int32)), (3, .int (0 : Int32)), (2, .int r27.1), (0, .ref (g.2.2 0)), (1, .int v1)]) hx hb dX11_pits_34 hl (by decide) rfl (fun ls hl => ?_)
      exact B36 n r27.1 (0 : Int32) (0 : Int32) r27.2 _ _ _ hw (lv_sub hl [3, 4, 2, 1, 0] rfl) h
    · rw [if_neg hc] at h
      exact B9 μ _ _ _ hw (lv_sub hl [] rfl) h
set_option maxRecDepth 100000 in
set_option maxHeartbeats 4000000 in
theorem c_X11_play (l : Launch) (g : Gw) (n : Nat) (v1 : Int32) (v2 : Int32) (μ : Mu) (r : Int32 × Mu) (h : X11_play n v1 v2 μ = some (Sum.inl r.1, r.2)) : Ct l g yX11_play cX11_play 3 (some .int) 7 [.ref (g.2.2 0), .int v1, .int v2] μ (some (.int r.1)) r.2 := by
  rw [X11_play] at h
  refine Ct.of (by decide) (Nat.le_of_ble_eq_true rfl) ?_
  intro p e s m args below meth c ls hC hw hr hlocks hl
  have hx := hC.1
  have hb := hC.2.1
  have hl : lv_has ls 3 [(0, .ref (g.2.2 0)), (1, .int v1), (2, .int v2)] := hl
  have B9 : ∀ (μ : Mu) (H : Heap) (locs : List Loc) (ls : Array Slot), wd g μ s (Aw g s.heap.size) H locs → lv_has ls 3 [] → X11_play_9 n v1 v2  μ = some (Sum.inl r.1, r.2) → WQ p l e (rmD 7) s m args below meth c g (some (.int r.1)) r.2 H locs (F0 m 9 ls []) := by
    intro μ H locs ls hw hl h
    rw [X11_play_9] at h
    cases h
  refine lv_iload_n hx hb dX11_play_0 rfl (lv_at hl 2 rfl) ?_
  refine lv_if_lt (tgt := 9) hx hb dX11_play_1 (by decide) (fun hc => ?_) (fun hc => ?_)
  · rw [if_pos hc] at h
    exact B9 μ _ _ _ hw (lv_sub hl [] rfl) h
  · rw [if_neg hc] at h
    refine lv_iload_n hx hb dX11_play_4 rfl (lv_at hl 2 rfl) ?_
    refine lv_iconst (v := (2 : Int32)) hx hb dX11_play_5 (by decide) ?_
    refine lv_icmp_le (tgt := 19) hx hb dX11_play_6 (by decide) (fun hc => ?_) (fun hc => ?_)
    · rw [if_pos hc] at h
      refine lv_aload_n hx hb dX11_play_19 rfl (lv_at hl 0 rfl) ?_
      refine gR (t := 22) hC hw fl_X11_72 ok0 (by decide) ot0_8 dX11_play_20 ?_
      refine lv_aload_n hx hb dX11_play_23 rfl (lv_at hl 0 rfl) ?_
      refine gR (t := 53) hC hw fl_X11_37 ok0 (by decide) ot0_3 dX11_play_24 ?_
      refine lv_iload_n hx hb dX11_play_27 rfl (lv_at hl 1 rfl) ?_
      refine lv_iconst (v := (0 : Int32)) hx hb dX11_play_28 (by decide) ?_
      obtain ⟨r29, hr29, h⟩ := bnd h
      refine cV (b := 22) (As := [.ref (g.2.2 53), .int v1, .int (0 : Int32)]) (rest := []) (st1 := []) hC hw (c_X10_goByDraws l g n 53 v1 (0 : Int32) μ r29 hr29) ml_X11_346 im_X10_goByDraws se_X10_goByDraws ok22 (CN := RX10) (T := TX10) (NF := 7) rfl rfl (by decide) rfl hl.1 ⟨Nat.le_of_ble_eq_true rfl, Nat.le_of_ble_eq_true rfl⟩ (Nat.le_of_ble_eq_true rfl) ⟨Nat.zero_le _, Nat.zero_le _⟩ rfl dX11_play_29 (fun H locs hw => ?_)
      refine lv_aload_n hx hb dX11_play_32 rfl (lv_at hl 0 rfl) ?_
      refine lv_iload_n hx hb dX11_play_33 rfl (lv_at hl 2 rfl) ?_
      obtain ⟨r34, hr34, h⟩ := bnd h
      refine cV (b := 0) (As := [.int v2]) (rest := []) (st1 := [.int r34.1]) hC hw (c_X11_toldOfPlay l g n v2 r29.2 r34 hr34) ml_X11_350 im_X11_toldOfPlay se_X11_toldOfPlay ok0 (CN := RX11) (T := TX11) (NF := 12) rfl rfl (by decide) rfl hl.1 ⟨Nat.le_of_ble_eq_true rfl, Nat.le_of_ble_eq_true rfl⟩ (Nat.le_of_ble_eq_true rfl) ⟨Nat.zero_le _, Nat.zero_le _⟩ rfl dX11_play_34 (fun H locs hw => ?_)
      exact rI hC hw hr hlocks (by rw [(inlI h).1]) (inlI h).2 dX11_play_37
    · rw [if_neg hc] at h
      exact B9 μ _ _ _ hw (lv_sub hl [] rfl) h
set_option maxRecDepth 100000 in
set_option maxHeartbeats 4000000 in
theorem x_X11_play (l : Launch) (hst : l.stackTraces = false) (g : Gw) (n : Nat) (v1 : Int32) (v2 : Int32) (μ : Mu) (kx : Nat) (μx : Mu) (h : X11_play n v1 v2 μ = some (Sum.inr kx, μx)) : CtX l g yX11_play cX11_play 3 (some .int) 7 [.ref (g.2.2 0), .int v1, .int v2] μ kx μx := by
  rw [X11_play] at h
  refine CtX.of (by decide) (Nat.le_of_ble_eq_true rfl) ?_
  intro p e s m args below meth c ls hC hw htab hlocks hl
  have hx := hC.1
  have hb := hC.2.1
  have hl : lv_has ls 3 [(0, .ref (g.2.2 0)), (1, .int v1), (2, .int v2)] := hl
  have B9 : ∀ (μ : Mu) (H : Heap) (locs : List Loc) (ls : Array Slot), wd g μ s (Aw g s.heap.size) H locs → lv_has ls 3 [] → X11_play_9 n v1 v2  μ = some (Sum.inr kx, μx) → WX p l e (rmX 7) s m args below meth c g kx μx H locs (F0 m 9 ls []) := by
    intro μ H locs ls hw hl h
    rw [X11_play_9] at h
    exact thS (rest := []) hC hw hst 20 (by decide) rfl rfl xft1 xnm xcl1 xin1 xat1 hl.1 htab hlocks (by rw [← (inrI h).1]; rfl) (inrI h).2 (Nat.le_of_ble_eq_true rfl) (Nat.le_of_ble_eq_true rfl) dX11_play_9 dX11_play_12 dX11_play_13 dX11_play_15 dX11_play_18
  refine lv_iload_n hx hb dX11_play_0 rfl (lv_at hl 2 rfl) ?_
  refine lv_if_lt (tgt := 9) hx hb dX11_play_1 (by decide) (fun hc => ?_) (fun hc => ?_)
  · rw [if_pos hc] at h
    exact B9 μ _ _ _ hw (lv_sub hl [] rfl) h
  · rw [if_neg hc] at h
    refine lv_iload_n hx hb dX11_play_4 rfl (lv_at hl 2 rfl) ?_
    refine lv_iconst (v := (2 : Int32)) hx hb dX11_play_5 (by decide) ?_
    refine lv_icmp_le (tgt := 19) hx hb dX11_play_6 (by decide) (fun hc => ?_) (fun hc => ?_)
    · rw [if_pos hc] at h
      refine lv_aload_n hx hb dX11_play_19 rfl (lv_at hl 0 rfl) ?_
      refine gR (t := 22) hC hw fl_X11_72 ok0 (by decide) ot0_8 dX11_play_20 ?_
      refine lv_aload_n hx hb dX11_play_23 rfl (lv_at hl 0 rfl) ?_
      refine gR (t := 53) hC hw fl_X11_37 ok0 (by decide) ot0_3 dX11_play_24 ?_
      refine lv_iload_n hx hb dX11_play_27 rfl (lv_at hl 1 rfl) ?_
      refine lv_iconst (v := (0 : Int32)) hx hb dX11_play_28 (by decide) ?_
      obtain ⟨r29, hr29, h⟩ := bnd h
      refine cV (b := 22) (As := [.ref (g.2.2 53), .int v1, .int (0 : Int32)]) (rest := []) (st1 := []) hC hw (c_X10_goByDraws l g n 53 v1 (0 : Int32) μ r29 hr29) ml_X11_346 im_X10_goByDraws se_X10_goByDraws ok22 (CN := RX10) (T := TX10) (NF := 7) rfl rfl (by decide) rfl hl.1 ⟨Nat.le_of_ble_eq_true rfl, Nat.le_of_ble_eq_true rfl⟩ (Nat.le_of_ble_eq_true rfl) ⟨Nat.zero_le _, Nat.zero_le _⟩ rfl dX11_play_29 (fun H locs hw => ?_)
      refine lv_aload_n hx hb dX11_play_32 rfl (lv_at hl 0 rfl) ?_
      refine lv_iload_n hx hb dX11_play_33 rfl (lv_at hl 2 rfl) ?_
      obtain ⟨r34, hr34, h⟩ := bnd h
      refine cV (b := 0) (As := [.int v2]) (rest := []) (st1 := [.int r34.1]) hC hw (c_X11_toldOfPlay l g n v2 r29.2 r34 hr34) ml_X11_350 im_X11_toldOfPlay se_X11_toldOfPlay ok0 (CN := RX11) (T := TX11) (NF := 12) rfl rfl (by decide) rfl hl.1 ⟨Nat.le_of_ble_eq_true rfl, Nat.le_of_ble_eq_true rfl⟩ (Nat.le_of_ble_eq_true rfl) ⟨Nat.zero_le _, Nat.zero_le _⟩ rfl dX11_play_34 (fun H locs hw => ?_)
      cases h
    · rw [if_neg hc] at h
      exact B9 μ _ _ _ hw (lv_sub hl [] rfl) h
set_option maxRecDepth 100000 in
set_option maxHeartbeats 4000000 in
theorem c_X11_needSolved (l : Launch) (g : Gw) (n : Nat) (v1 : Int32) (μ : Mu) (r : Unit × Mu) (h : X11_needSolved n v1 μ = some (Sum.inl r.1, r.2)) : Ct l g yX11_needSolved cX11_needSolved 2 none 6 [.ref (g.2.2 0), .int v1] μ none r.2 := by
  rw [X11_needSolved] at h
  refine Ct.of (by decide) (Nat.le_of_ble_eq_true rfl) ?_
  intro p e s m args below meth c ls hC hw hr hlocks hl
  have hx := hC.1
  have hb := hC.2.1
  have hl : lv_has ls 2 [(0, .ref (g.2.2 0)), (1, .int v1)] := hl
  refine lv_aload_n hx hb dX11_needSolved_0 rfl (lv_at hl 0 rfl) ?_
  refine gR (t := 15) hC hw fl_X11_63 ok0 (by decide) ot0_7 dX11_needSolved_1 ?_
  refine lv_iload_n hx hb dX11_needSolved_4 rfl (lv_at hl 1 rfl) ?_
  obtain ⟨r5, hr5, h⟩ := bnd h
  refine cV (b := 15) (As := [.int v1]) (rest := []) (st1 := [.int r5.1]) hC hw (c_X7_reach l g n v1 μ r5 hr5) ml_X11_259 im_X7_reach se_X7_reach ok15 (CN := RX7) (T := TX7) (NF := 13) rfl rfl (by decide) rfl hl.1 ⟨Nat.le_of_ble_eq_true rfl, Nat.le_of_ble_eq_true rfl⟩ (Nat.le_of_ble_eq_true rfl) ⟨Nat.zero_le _, Nat.zero_le _⟩ rfl dX11_needSolved_5 (fun H locs hw => ?_)
  refine lv_if_ne (tgt := 21) hx hb dX11_needSolved_8 (by decide) (fun hc => ?_) (fun hc => ?_)
  · rw [if_neg hc] at h
    exact rV hC hw hr hlocks rfl (inlI h).2 dX11_needSolved_21
  · rw [if_pos hc] at h
    cases h
set_option maxRecDepth 100000 in
set_option maxHeartbeats 4000000 in
theorem x_X11_needSolved (l : Launch) (hst : l.stackTraces = false) (g : Gw) (n : Nat) (v1 : Int32) (μ : Mu) (kx : Nat) (μx : Mu) (h : X11_needSolved n v1 μ = some (Sum.inr kx, μx)) : CtX l g yX11_needSolved cX11_needSolved 2 none 6 [.ref (g.2.2 0), .int v1] μ kx μx := by
  rw [X11_needSolved] at h
  refine CtX.of (by decide) (Nat.le_of_ble_eq_true rfl) ?_
  intro p e s m args below meth c ls hC hw htab hlocks hl
  have hx := hC.1
  have hb := hC.2.1
  have hl : lv_has ls 2 [(0, .ref (g.2.2 0)), (1, .int v1)] := hl
  refine lv_aload_n hx hb dX11_needSolved_0 rfl (lv_at hl 0 rfl) ?_
  refine gR (t := 15) hC hw fl_X11_63 ok0 (by decide) ot0_7 dX11_needSolved_1 ?_
  refine lv_iload_n hx hb dX11_needSolved_4 rfl (lv_at hl 1 rfl) ?_
  obtain ⟨r5, hr5, h⟩ := bnd h
  refine cV (b := 15) (As := [.int v1]) (rest := []) (st1 := [.int r5.1]) hC hw (c_X7_reach l g n v1 μ r5 hr5) ml_X11_259 im_X7_reach se_X7_reach ok15 (CN := RX7) (T := TX7) (NF := 13) rfl rfl (by decide) rfl hl.1 ⟨Nat.le_of_ble_eq_true rfl, Nat.le_of_ble_eq_true rfl⟩ (Nat.le_of_ble_eq_true rfl) ⟨Nat.zero_le _, Nat.zero_le _⟩ rfl dX11_needSolved_5 (fun H locs hw => ?_)
  refine lv_if_ne (tgt := 21) hx hb dX11_needSolved_8 (by decide) (fun hc => ?_) (fun hc => ?_)
  · rw [if_neg hc] at h
    cases h
  · rw [if_pos hc] at h
    exact thS (rest := []) hC hw hst 24 (by decide) rfl rfl xft2 xnm xcl2 xin2 xat2 hl.1 htab hlocks (by rw [← (inrI h).1]; rfl) (inrI h).2 (Nat.le_of_ble_eq_true rfl) (Nat.le_of_ble_eq_true rfl) dX11_needSolved_11 dX11_needSolved_14 dX11_needSolved_15 dX11_needSolved_17 dX11_needSolved_20
set_option maxRecDepth 100000 in
set_option maxHeartbeats 4000000 in
theorem c_X11_laySolved (l : Launch) (g : Gw) (n : Nat) (v1 : Int32) (v2 : Int32) (v3 : Int32) (μ : Mu) (r : Unit × Mu) (h : X11_laySolved n v1 v2 v3 μ = some (Sum.inl r.1, r.2)) : Ct l g yX11_laySolved cX11_laySolved 4 none 7 [.ref (g.2.2 0), .int v1, .int v2, .int v3] μ none r.2 := by
  rw [X11_laySolved] at h
  refine Ct.of (by decide) (Nat.le_of_ble_eq_true rfl) ?_
  intro p e s m args below meth c ls hC hw hr hlocks hl
  have hx := hC.1
  have hb := hC.2.1
  have hl : lv_has ls 4 [(0, .ref (g.2.2 0)), (1, .int v1), (2, .int v2), (3, .int v3)] := hl
  refine lv_iload_n hx hb dX11_laySolved_0 rfl (lv_at hl 1 rfl) ?_
  obtain ⟨r1, m1, hr1, h⟩ := thr_rt h
  refine cS (As := [.int v1]) (rest := []) (st1 := []) hC hw (c_X11_needSide l g n v1 μ (r1, m1) hr1) ml_X11_146 st_X11_needSide rfl hl.1 ⟨Nat.le_of_ble_eq_true rfl, Nat.le_of_ble_eq_true rfl⟩ (Nat.le_of_ble_eq_true rfl) ⟨Nat.zero_le _, Nat.zero_le _⟩ rfl dX11_laySolved_1 (fun H locs hw => ?_)
  refine lv_iload_n hx hb dX11_laySolved_4 rfl (lv_at hl 2 rfl) ?_
  obtain ⟨r5, m5, hr5, h⟩ := thr_rt h
  refine cS (As := [.int v2]) (rest := []) (st1 := []) hC hw (c_X11_needSeeds l g n v2 m1 (r5, m5) hr5) ml_X11_229 st_X11_needSeeds rfl hl.1 ⟨Nat.le_of_ble_eq_true rfl, Nat.le_of_ble_eq_true rfl⟩ (Nat.le_of_ble_eq_true rfl) ⟨Nat.zero_le _, Nat.zero_le _⟩ rfl dX11_laySolved_5 (fun H locs hw => ?_)
  refine lv_aload_n hx hb dX11_laySolved_8 rfl (lv_at hl 0 rfl) ?_
  refine gR (t := 15) hC hw fl_X11_63 ok0 (by decide) ot0_7 dX11_laySolved_9 ?_
  refine lv_iload_n hx hb dX11_laySolved_12 rfl (lv_at hl 2 rfl) ?_
  obtain ⟨r13, hr13, h⟩ := bnd h
  refine cV (b := 15) (As := [.int v2]) (rest := []) (st1 := [.int r13.1]) hC hw (c_X7_reach l g n v2 m5 r13 hr13) ml_X11_259 im_X7_reach se_X7_reach ok15 (CN := RX7) (T := TX7) (NF := 13) rfl rfl (by decide) rfl hl.1 ⟨Nat.le_of_ble_eq_true rfl, Nat.le_of_ble_eq_true rfl⟩ (Nat.le_of_ble_eq_true rfl) ⟨Nat.zero_le _, Nat.zero_le _⟩ rfl dX11_laySolved_13 (fun H locs hw => ?_)
  refine lv_if_ne (tgt := 29) hx hb dX11_laySolved_16 (by decide) (fun hc => ?_) (fun hc => ?_)
  · rw [if_neg hc] at h
    refine lv_iload_n hx hb dX11_laySolved_29 rfl (lv_at hl 3 rfl) ?_
    refine lv_aload_n hx hb dX11_laySolved_30 rfl (lv_at hl 0 rfl) ?_
    refine gR (t := 2) hC hw fl_X11_21 ok0 (by decide) ot0_1 dX11_laySolved_31 ?_
    refine lv_iload_n hx hb dX11_laySolved_34 rfl (lv_at hl 2 rfl) ?_
    obtain ⟨r35, hr35, h⟩ := bnd h
    refine cV (b := 2) (As := [.int v2]) (rest := [.int v3]) (st1 := [.int r35.1, .int v3]) hC hw (c_X1_positionsOf l g n v2 r13.2 r35 hr35) ml_X11_232 im_X1_positionsOf se_X1_positionsOf ok2 (CN := RX1) (T := TX1) (NF := 7) rfl rfl (by decide) rfl hl.1 ⟨Nat.le_of_ble_eq_true rfl, Nat.le_of_ble_eq_true rfl⟩ (Nat.le_of_ble_eq_true rfl) ⟨Nat.zero_le _, Nat.zero_le _⟩ rfl dX11_laySolved_35 (fun H locs hw => ?_)
    obtain ⟨r38, m38, hr38, h⟩ := thr_rt h
    refine cS (As := [.int v3, .int r35.1]) (rest := []) (st1 := []) hC hw (c_X11_needPosition l g n v3 r35.1 r35.2 (r38, m38) hr38) ml_X11_244 st_X11_needPosition rfl hl.1 ⟨Nat.le_of_ble_eq_true rfl, Nat.le_of_ble_eq_true rfl⟩ (Nat.le_of_ble_eq_true rfl) ⟨Nat.zero_le _, Nat.zero_le _⟩ rfl dX11_laySolved_38 (fun H locs hw => ?_)
    refine lv_aload_n hx hb dX11_laySolved_41 rfl (lv_at hl 0 rfl) ?_
    refine gR (t := 2) hC hw fl_X11_21 ok0 (by decide) ot0_1 dX11_laySolved_42 ?_
    refine lv_aload_n hx hb dX11_laySolved_45 rfl (lv_at hl 0 rfl) ?_
    refine gR (t := 55) hC hw fl_X11_41 ok0 (by decide) ot0_4 dX11_laySolved_46 ?_
    refine lv_iload_n hx hb dX11_laySolved_49 rfl (lv_at hl 1 rfl) ?_
    refine lv_iload_n hx hb dX11_laySolved_50 rfl (lv_at hl 2 rfl) ?_
    refine lv_iload_n hx hb dX11_laySolved_51 rfl (lv_at hl 3 rfl) ?_
    obtain ⟨r52, hr52, h⟩ := bnd h
    refine cV (b := 2) (As := [.ref (g.2.2 55), .int v1, .int v2, .int v3]) (rest := []) (st1 := []) hC hw (c_X1_lay l g n 55 v1 v2 v3 m38 r52 hr52) ml_X11_251 im_X1_lay se_X1_lay ok2 (CN := RX1) (T := TX1) (NF := 7) rfl rfl (by decide) rfl hl.1 ⟨Nat.le_of_ble_eq_true rfl, Nat.le_of_ble_eq_true rfl⟩ (Nat.le_of_ble_eq_true rfl) ⟨Nat.zero_le _, Nat.zero_le _⟩ rfl dX11_laySolved_52 (fun H locs hw => ?_)
    exact rV hC hw hr hlocks rfl (inlI h).2 dX11_laySolved_55
  · rw [if_pos hc] at h
    cases h
set_option maxRecDepth 100000 in
set_option maxHeartbeats 4000000 in
theorem x_X11_laySolved (l : Launch) (hst : l.stackTraces = false) (g : Gw) (n : Nat) (v1 : Int32) (v2 : Int32) (v3 : Int32) (μ : Mu) (kx : Nat) (μx : Mu) (h : X11_laySolved n v1 v2 v3 μ = some (Sum.inr kx, μx)) : CtX l g yX11_laySolved cX11_laySolved 4 none 7 [.ref (g.2.2 0), .int v1, .int v2, .int v3] μ kx μx := by
  rw [X11_laySolved] at h
  refine CtX.of (by decide) (Nat.le_of_ble_eq_true rfl) ?_
  intro p e s m args below meth c ls hC hw htab hlocks hl
  have hx := hC.1
  have hb := hC.2.1
  have hl : lv_has ls 4 [(0, .ref (g.2.2 0)), (1, .int v1), (2, .int v2), (3, .int v3)] := hl
  refine lv_iload_n hx hb dX11_laySolved_0 rfl (lv_at hl 1 rfl) ?_
  rcases thr_cs h with ⟨k1x, m1, hr1, h⟩ | ⟨r1, m1, hr1, h⟩
  · rw [(inrI h).1, (inrI h).2] at hr1
    exact cSX (As := [.int v1]) (rest := []) hC hw htab hlocks (x_X11_needSide l hst g n v1 μ kx μx hr1) ml_X11_146 st_X11_needSide rfl hl.1 ⟨Nat.le_of_ble_eq_true rfl, Nat.le_of_ble_eq_true rfl⟩ (Nat.le_of_ble_eq_true rfl) ⟨Nat.le_refl 1, Nat.le_refl 6⟩ dX11_laySolved_1
  refine cS (As := [.int v1]) (rest := []) (st1 := []) hC hw (c_X11_needSide l g n v1 μ (r1, m1) hr1) ml_X11_146 st_X11_needSide rfl hl.1 ⟨Nat.le_of_ble_eq_true rfl, Nat.le_of_ble_eq_true rfl⟩ (Nat.le_of_ble_eq_true rfl) ⟨Nat.zero_le _, Nat.zero_le _⟩ rfl dX11_laySolved_1 (fun H locs hw => ?_)
  refine lv_iload_n hx hb dX11_laySolved_4 rfl (lv_at hl 2 rfl) ?_
  rcases thr_cs h with ⟨k5x, m5, hr5, h⟩ | ⟨r5, m5, hr5, h⟩
  · rw [(inrI h).1, (inrI h).2] at hr5
    exact cSX (As := [.int v2]) (rest := []) hC hw htab hlocks (x_X11_needSeeds l hst g n v2 m1 kx μx hr5) ml_X11_229 st_X11_needSeeds rfl hl.1 ⟨Nat.le_of_ble_eq_true rfl, Nat.le_of_ble_eq_true rfl⟩ (Nat.le_of_ble_eq_true rfl) ⟨Nat.le_refl 1, Nat.le_refl 6⟩ dX11_laySolved_5
  refine cS (As := [.int v2]) (rest := []) (st1 := []) hC hw (c_X11_needSeeds l g n v2 m1 (r5, m5) hr5) ml_X11_229 st_X11_needSeeds rfl hl.1 ⟨Nat.le_of_ble_eq_true rfl, Nat.le_of_ble_eq_true rfl⟩ (Nat.le_of_ble_eq_true rfl) ⟨Nat.zero_le _, Nat.zero_le _⟩ rfl dX11_laySolved_5 (fun H locs hw => ?_)
  refine lv_aload_n hx hb dX11_laySolved_8 rfl (lv_at hl 0 rfl) ?_
  refine gR (t := 15) hC hw fl_X11_63 ok0 (by decide) ot0_7 dX11_laySolved_9 ?_
  refine lv_iload_n hx hb dX11_laySolved_12 rfl (lv_at hl 2 rfl) ?_
  obtain ⟨r13, hr13, h⟩ := bnd h
  refine cV (b := 15) (As := [.int v2]) (rest := []) (st1 := [.int r13.1]) hC hw (c_X7_reach l g n v2 m5 r13 hr13) ml_X11_259 im_X7_reach se_X7_reach ok15 (CN := RX7) (T := TX7) (NF := 13) rfl rfl (by decide) rfl hl.1 ⟨Nat.le_of_ble_eq_true rfl, Nat.le_of_ble_eq_true rfl⟩ (Nat.le_of_ble_eq_true rfl) ⟨Nat.zero_le _, Nat.zero_le _⟩ rfl dX11_laySolved_13 (fun H locs hw => ?_)
  refine lv_if_ne (tgt := 29) hx hb dX11_laySolved_16 (by decide) (fun hc => ?_) (fun hc => ?_)
  · rw [if_neg hc] at h
    refine lv_iload_n hx hb dX11_laySolved_29 rfl (lv_at hl 3 rfl) ?_
    refine lv_aload_n hx hb dX11_laySolved_30 rfl (lv_at hl 0 rfl) ?_
    refine gR (t := 2) hC hw fl_X11_21 ok0 (by decide) ot0_1 dX11_laySolved_31 ?_
    refine lv_iload_n hx hb dX11_laySolved_34 rfl (lv_at hl 2 rfl) ?_
    obtain ⟨r35, hr35, h⟩ := bnd h
    refine cV (b := 2) (As := [.int v2]) (rest := [.int v3]) (st1 := [.int r35.1, .int v3]) hC hw (c_X1_positionsOf l g n v2 r13.2 r35 hr35) ml_X11_232 im_X1_positionsOf se_X1_positionsOf ok2 (CN := RX1) (T := TX1) (NF := 7) rfl rfl (by decide) rfl hl.1 ⟨Nat.le_of_ble_eq_true rfl, Nat.le_of_ble_eq_true rfl⟩ (Nat.le_of_ble_eq_true rfl) ⟨Nat.zero_le _, Nat.zero_le _⟩ rfl dX11_laySolved_35 (fun H locs hw => ?_)
    rcases thr_cs h with ⟨k38x, m38, hr38, h⟩ | ⟨r38, m38, hr38, h⟩
    · rw [(inrI h).1, (inrI h).2] at hr38
      exact cSX (As := [.int v3, .int r35.1]) (rest := []) hC hw htab hlocks (x_X11_needPosition l hst g n v3 r35.1 r35.2 kx μx hr38) ml_X11_244 st_X11_needPosition rfl hl.1 ⟨Nat.le_of_ble_eq_true rfl, Nat.le_of_ble_eq_true rfl⟩ (Nat.le_of_ble_eq_true rfl) ⟨Nat.le_refl 1, Nat.le_refl 6⟩ dX11_laySolved_38
    refine cS (As := [.int v3, .int r35.1]) (rest := []) (st1 := []) hC hw (c_X11_needPosition l g n v3 r35.1 r35.2 (r38, m38) hr38) ml_X11_244 st_X11_needPosition rfl hl.1 ⟨Nat.le_of_ble_eq_true rfl, Nat.le_of_ble_eq_true rfl⟩ (Nat.le_of_ble_eq_true rfl) ⟨Nat.zero_le _, Nat.zero_le _⟩ rfl dX11_laySolved_38 (fun H locs hw => ?_)
    refine lv_aload_n hx hb dX11_laySolved_41 rfl (lv_at hl 0 rfl) ?_
    refine gR (t := 2) hC hw fl_X11_21 ok0 (by decide) ot0_1 dX11_laySolved_42 ?_
    refine lv_aload_n hx hb dX11_laySolved_45 rfl (lv_at hl 0 rfl) ?_
    refine gR (t := 55) hC hw fl_X11_41 ok0 (by decide) ot0_4 dX11_laySolved_46 ?_
    refine lv_iload_n hx hb dX11_laySolved_49 rfl (lv_at hl 1 rfl) ?_
    refine lv_iload_n hx hb dX11_laySolved_50 rfl (lv_at hl 2 rfl) ?_
    refine lv_iload_n hx hb dX11_laySolved_51 rfl (lv_at hl 3 rfl) ?_
    obtain ⟨r52, hr52, h⟩ := bnd h
    refine cV (b := 2) (As := [.ref (g.2.2 55), .int v1, .int v2, .int v3]) (rest := []) (st1 := []) hC hw (c_X1_lay l g n 55 v1 v2 v3 m38 r52 hr52) ml_X11_251 im_X1_lay se_X1_lay ok2 (CN := RX1) (T := TX1) (NF := 7) rfl rfl (by decide) rfl hl.1 ⟨Nat.le_of_ble_eq_true rfl, Nat.le_of_ble_eq_true rfl⟩ (Nat.le_of_ble_eq_true rfl) ⟨Nat.zero_le _, Nat.zero_le _⟩ rfl dX11_laySolved_52 (fun H locs hw => ?_)
    cases h
  · rw [if_pos hc] at h
    exact thS (rest := []) hC hw hst 24 (by decide) rfl rfl xft2 xnm xcl2 xin2 xat2 hl.1 htab hlocks (by rw [← (inrI h).1]; rfl) (inrI h).2 (Nat.le_of_ble_eq_true rfl) (Nat.le_of_ble_eq_true rfl) dX11_laySolved_19 dX11_laySolved_22 dX11_laySolved_23 dX11_laySolved_25 dX11_laySolved_28
set_option maxRecDepth 100000 in
set_option maxHeartbeats 4000000 in
theorem c_X11_valueOf (l : Launch) (g : Gw) (n : Nat) (v1 : Int32) (v2 : Int32) (v3 : Int32) (μ : Mu) (r : Int32 × Mu) (h : X11_valueOf n v1 v2 v3 μ = some (Sum.inl r.1, r.2)) : Ct l g yX11_valueOf cX11_valueOf 4 (some .int) 8 [.ref (g.2.2 0), .int v1, .int v2, .int v3] μ (some (.int r.1)) r.2 := by
  rw [X11_valueOf] at h
  refine Ct.of (by decide) (Nat.le_of_ble_eq_true rfl) ?_
  intro p e s m args below meth c ls hC hw hr hlocks hl
  have hx := hC.1
  have hb := hC.2.1
  have hl : lv_has ls 4 [(0, .ref (g.2.2 0)), (1, .int v1), (2, .int v2), (3, .int v3)] := hl
  refine lv_aload_n hx hb dX11_valueOf_0 rfl (lv_at hl 0 rfl) ?_
  refine lv_iload_n hx hb dX11_valueOf_1 rfl (lv_at hl 1 rfl) ?_
  refine lv_iload_n hx hb dX11_valueOf_2 rfl (lv_at hl 2 rfl) ?_
  refine lv_iload_n hx hb dX11_valueOf_3 rfl (lv_at hl 3 rfl) ?_
  obtain ⟨r4, m4, hr4, h⟩ := thr_rt h
  refine cV (b := 0) (As := [.int v1, .int v2, .int v3]) (rest := []) (st1 := []) hC hw (c_X11_laySolved l g n v1 v2 v3 μ (r4, m4) hr4) ml_X11_275 im_X11_laySolved se_X11_laySolved ok0 (CN := RX11) (T := TX11) (NF := 12) rfl rfl (by decide) rfl hl.1 ⟨Nat.le_of_ble_eq_true rfl, Nat.le_of_ble_eq_true rfl⟩ (Nat.le_of_ble_eq_true rfl) ⟨Nat.zero_le _, Nat.zero_le _⟩ rfl dX11_valueOf_4 (fun H locs hw => ?_)
  refine lv_aload_n hx hb dX11_valueOf_7 rfl (lv_at hl 0 rfl) ?_
  refine gR (t := 15) hC hw fl_X11_63 ok0 (by decide) ot0_7 dX11_valueOf_8 ?_
  refine lv_aload_n hx hb dX11_valueOf_11 rfl (lv_at hl 0 rfl) ?_
  refine gR (t := 55) hC hw fl_X11_41 ok0 (by decide) ot0_4 dX11_valueOf_12 ?_
  obtain ⟨r15, hr15, h⟩ := bnd h
  refine cV (b := 15) (As := [.ref (g.2.2 55)]) (rest := []) (st1 := [.int r15.1]) hC hw (c_X7_valueAt l g n 55 m4 r15 hr15) ml_X11_263 im_X7_valueAt se_X7_valueAt ok15 (CN := RX7) (T := TX7) (NF := 13) rfl rfl (by decide) rfl hl.1 ⟨Nat.le_of_ble_eq_true rfl, Nat.le_of_ble_eq_true rfl⟩ (Nat.le_of_ble_eq_true rfl) ⟨Nat.zero_le _, Nat.zero_le _⟩ rfl dX11_valueOf_15 (fun H locs hw => ?_)
  exact rI hC hw hr hlocks (by rw [(inlI h).1]) (inlI h).2 dX11_valueOf_18
set_option maxRecDepth 100000 in
set_option maxHeartbeats 4000000 in
theorem x_X11_valueOf (l : Launch) (hst : l.stackTraces = false) (g : Gw) (n : Nat) (v1 : Int32) (v2 : Int32) (v3 : Int32) (μ : Mu) (kx : Nat) (μx : Mu) (h : X11_valueOf n v1 v2 v3 μ = some (Sum.inr kx, μx)) : CtX l g yX11_valueOf cX11_valueOf 4 (some .int) 8 [.ref (g.2.2 0), .int v1, .int v2, .int v3] μ kx μx := by
  rw [X11_valueOf] at h
  refine CtX.of (by decide) (Nat.le_of_ble_eq_true rfl) ?_
  intro p e s m args below meth c ls hC hw htab hlocks hl
  have hx := hC.1
  have hb := hC.2.1
  have hl : lv_has ls 4 [(0, .ref (g.2.2 0)), (1, .int v1), (2, .int v2), (3, .int v3)] := hl
  refine lv_aload_n hx hb dX11_valueOf_0 rfl (lv_at hl 0 rfl) ?_
  refine lv_iload_n hx hb dX11_valueOf_1 rfl (lv_at hl 1 rfl) ?_
  refine lv_iload_n hx hb dX11_valueOf_2 rfl (lv_at hl 2 rfl) ?_
  refine lv_iload_n hx hb dX11_valueOf_3 rfl (lv_at hl 3 rfl) ?_
  rcases thr_cs h with ⟨k4x, m4, hr4, h⟩ | ⟨r4, m4, hr4, h⟩
  · rw [(inrI h).1, (inrI h).2] at hr4
    exact cVX (b := 0) (As := [.int v1, .int v2, .int v3]) (rest := []) hC hw htab hlocks (x_X11_laySolved l hst g n v1 v2 v3 μ kx μx hr4) ml_X11_275 im_X11_laySolved se_X11_laySolved ok0 (CN := RX11) (T := TX11) (NF := 12) rfl rfl (by decide) rfl hl.1 ⟨Nat.le_of_ble_eq_true rfl, Nat.le_of_ble_eq_true rfl⟩ (Nat.le_of_ble_eq_true rfl) ⟨Nat.le_refl 1, Nat.le_refl 6⟩ dX11_valueOf_4
  refine cV (b := 0) (As := [.int v1, .int v2, .int v3]) (rest := []) (st1 := []) hC hw (c_X11_laySolved l g n v1 v2 v3 μ (r4, m4) hr4) ml_X11_275 im_X11_laySolved se_X11_laySolved ok0 (CN := RX11) (T := TX11) (NF := 12) rfl rfl (by decide) rfl hl.1 ⟨Nat.le_of_ble_eq_true rfl, Nat.le_of_ble_eq_true rfl⟩ (Nat.le_of_ble_eq_true rfl) ⟨Nat.zero_le _, Nat.zero_le _⟩ rfl dX11_valueOf_4 (fun H locs hw => ?_)
  refine lv_aload_n hx hb dX11_valueOf_7 rfl (lv_at hl 0 rfl) ?_
  refine gR (t := 15) hC hw fl_X11_63 ok0 (by decide) ot0_7 dX11_valueOf_8 ?_
  refine lv_aload_n hx hb dX11_valueOf_11 rfl (lv_at hl 0 rfl) ?_
  refine gR (t := 55) hC hw fl_X11_41 ok0 (by decide) ot0_4 dX11_valueOf_12 ?_
  obtain ⟨r15, hr15, h⟩ := bnd h
  refine cV (b := 15) (As := [.ref (g.2.2 55)]) (rest := []) (st1 := [.int r15.1]) hC hw (c_X7_valueAt l g n 55 m4 r15 hr15) ml_X11_263 im_X7_valueAt se_X7_valueAt ok15 (CN := RX7) (T := TX7) (NF := 13) rfl rfl (by decide) rfl hl.1 ⟨Nat.le_of_ble_eq_true rfl, Nat.le_of_ble_eq_true rfl⟩ (Nat.le_of_ble_eq_true rfl) ⟨Nat.zero_le _, Nat.zero_le _⟩ rfl dX11_valueOf_15 (fun H locs hw => ?_)
  cases h
set_option maxRecDepth 100000 in
set_option maxHeartbeats 4000000 in
theorem c_X11_tally (l : Launch) (g : Gw) (n : Nat) (v1 : Int32) (v2 : Int32) (v3 : Int32) (μ : Mu) (r : Int32 × Mu) (h : X11_tally n v1 v2 v3 μ = some (Sum.inl r.1, r.2)) : Ct l g yX11_tally cX11_tally 6 (some .int) 7 [.ref (g.2.2 0), .int v1, .int v2, .int v3] μ (some (.int r.1)) r.2 := by
  rw [X11_tally] at h
  refine Ct.of (by decide) (Nat.le_of_ble_eq_true rfl) ?_
  intro p e s m args below meth c ls hC hw hr hlocks hl
  have hx := hC.1
  have hb := hC.2.1
  have hl : lv_has ls 6 [(0, .ref (g.2.2 0)), (1, .int v1), (2, .int v2), (3, .int v3)] := hl
  have B17 : ∀ (μ : Mu) (H : Heap) (locs : List Loc) (ls : Array Slot), wd g μ s (Aw g s.heap.size) H locs → lv_has ls 6 [] → X11_tally_17 n v1 v2 v3  μ = some (Sum.inl r.1, r.2) → WQ p l e (rmD 7) s m args below meth c g (some (.int r.1)) r.2 H locs (F0 m 17 ls []) := by
    intro μ H locs ls hw hl h
    rw [X11_tally_17] at h
    cases h
  have B38 : ∀ (k : Nat), ∀ (v4 : Int32) (v5 : Int32) (μ : Mu) (H : Heap) (locs : List Loc) (ls : Array Slot), wd g μ s (Aw g s.heap.size) H locs → lv_has ls 6 [(0, .ref (g.2.2 0)), (1, .int v1), (2, .int v2), (3, .int v3), (4, .int v4), (5, .int v5)] → lpF (fun _ _ _ => none) (X11_tally_38b n v1 v2 v3) k v4 v5 μ = some (Sum.inl r.1, r.2) → WQ p l e (rmD 7) s m args below meth c g (some (.int r.1)) r.2 H locs (F0 m 38 ls []) := by
    intro k
    induction k with
    | zero =>
      intro v4 v5 μ H locs ls hw hl h
      cases h
    | succ k ih38 =>
      rw [lpF_s]
      generalize lpF (fun _ _ _ => none) (X11_tally_38b n v1 v2 v3) k = k38 at ih38 ⊢
      intro v4 v5 μ H locs ls hw hl h
      have B76 : ∀ (v4 : Int32) (v5 : Int32) (μ : Mu) (H : Heap) (locs : List Loc) (ls : Array Slot), wd g μ s (Aw g s.heap.size) H locs → lv_has ls 6 [(0, .ref (g.2.2 0)), (1, .int v1), (2, .int v2), (3, .int v3), (4, .int v4), (5, .int v5)] → X11_tally_76 n v1 v2 v3 k38 v4 v5 μ = some (Sum.inl r.1, r.2) → WQ p l e (rmD 7) s m args below meth c g (some (.int r.1)) r.2 H locs (F0 m 76 ls []) := by
        intro v4 v5 μ H locs ls hw hl h
        rw [X11_tally_76] at h
        refine lv_iinc (v := (v5 + (1 : Int32))) (lv' := [(5, .int (v5 + (1 : Int32))), (0, .ref (g.2.2 0)), (1, .int v1), (2, .int v2), (3, .int v3), (4, .int v4)]) hx hb dX11_tally_76 hl (k := 5) rfl rfl (by decide) rfl (fun ls hl => ?_)
        refine lv_goto (tgt := 38) hx hb dX11_tally_79 (by decide) ?_
        exact ih38 v4 (v5 + (1 : Int32)) μ _ _ _ hw (lv_sub hl [1, 2, 3, 4, 5, 0] rfl) h
      rw [X11_tally_38b] at h
      refine lv_iload hx hb dX11_tally_38 (lv_at hl 5 rfl) ?_
      refine lv_aload_n hx hb dX11_tally_40 rfl (lv_at hl 0 rfl) ?_
      refine gR (t := 2) hC hw fl_X11_21 ok0 (by decide) ot0_1 dX11_tally_41 ?_
      refine lv_iload_n hx hb dX11_tally_44 rfl (lv_at hl 2 rfl) ?_
      obtain ⟨r45, hr45, h⟩ := bnd h
      refine cV (b := 2) (As := [.int v2]) (rest := [.int v5]) (st1 := [.int r45.1, .int v5]) hC hw (c_X1_positionsOf l g n v2 μ r45 hr45) ml_X11_232 im_X1_positionsOf se_X1_positionsOf ok2 (CN := RX1) (T := TX1) (NF := 7) rfl rfl (by decide) rfl hl.1 ⟨Nat.le_of_ble_eq_true rfl, Nat.le_of_ble_eq_true rfl⟩ (Nat.le_of_ble_eq_true rfl) ⟨Nat.zero_le _, Nat.zero_le _⟩ rfl dX11_tally_45 (fun H locs hw => ?_)
      refine lv_icmp_ge (tgt := 82) hx hb dX11_tally_48 (by decide) (fun hc => ?_) (fun hc => ?_)
      · rw [if_pos hc] at h
        refine lv_iload hx hb dX11_tally_82 (lv_at hl 4 rfl) ?_
        exact rI hC hw hr hlocks (by rw [(inlI h).1]) (inlI h).2 dX11_tally_84
      · rw [if_neg hc] at h
        refine lv_aload_n hx hb dX11_tally_51 rfl (lv_at hl 0 rfl) ?_
        refine gR (t := 15) hC hw fl_X11_63 ok0 (by decide) ot0_7 dX11_tally_52 ?_
        refine lv_aload_n hx hb dX11_tally_55 rfl (lv_at hl 0 rfl) ?_
        refine gR (t := 15) hC hw fl_X11_63 ok0 (by decide) ot0_7 dX11_tally_56 ?_
        refine lv_iload_n hx hb dX11_tally_59 rfl (lv_at hl 1 rfl) ?_
        refine lv_iload_n hx hb dX11_tally_60 rfl (lv_at hl 2 rfl) ?_
        refine lv_iload hx hb dX11_tally_61 (lv_at hl 5 rfl) ?_
        obtain ⟨r63, hr63, h⟩ := bnd h
        refine cV (b := 15) (As := [.int v1, .int v2, .int v5]) (rest := [.ref (g.2.2 15)]) (st1 := [.int r63.1, .ref (g.2.2 15)]) hC hw (c_X7_indexOf l g n v1 v2 v5 r45.2 r63 hr63) ml_X11_282 im_X7_indexOf se_X7_indexOf ok15 (CN := RX7) (T := TX7) (NF := 13) rfl rfl (by decide) rfl hl.1 ⟨Nat.le_of_ble_eq_true rfl, Nat.le_of_ble_eq_true rfl⟩ (Nat.le_of_ble_eq_true rfl) ⟨Nat.zero_le _, Nat.zero_le _⟩ rfl dX11_tally_63 (fun H locs hw => ?_)
        refine lv_iload_n hx hb dX11_tally_66 rfl (lv_at hl 3 rfl) ?_
        obtain ⟨r67, hr67, h⟩ := bnd h
        refine cV (b := 15) (As := [.int r63.1, .int v3]) (rest := []) (st1 := [.int r67.1]) hC hw (c_X7_isOfKind l g n r63.1 v3 r63.2 r67 hr67) ml_X11_286 im_X7_isOfKind se_X7_isOfKind ok15 (CN := RX7) (T := TX7) (NF := 13) rfl rfl (by decide) rfl hl.1 ⟨Nat.le_of_ble_eq_true rfl, Nat.le_of_ble_eq_true rfl⟩ (Nat.le_of_ble_eq_true rfl) ⟨Nat.zero_le _, Nat.zero_le _⟩ rfl dX11_tally_67 (fun H locs hw => ?_)
        refine lv_if_eq (tgt := 76) hx hb dX11_tally_70 (by decide) (fun hc => ?_) (fun hc => ?_)
        · rw [if_pos hc] at h
          exact B76 v4 v5 r67.2 _ _ _ hw (lv_sub hl [0, 1, 2, 3, 4, 5] rfl) h
        · rw [if_neg hc] at h
          refine lv_iinc (v := (v4 + (1 : Int32))) (lv' := [(4, .int (v4 + (1 : Int32))), (0, .ref (g.2.2 0)), (1, .int v1), (2, .int v2), (3, .int v3), (5, .int v5)]) hx hb dX11_tally_73 hl (k := 4) rfl rfl (by decide) rfl (fun ls hl => ?_)
          exact B76 (v4 + (1 : Int32)) v5 r67.2 _ _ _ hw (lv_sub hl [1, 2, 3, 4, 0, 5] rfl) h
  refine lv_iload_n hx hb dX11_tally_0 rfl (lv_at hl 1 rfl) ?_
  obtain ⟨r1, m1, hr1, h⟩ := thr_rt h
  refine cS (As := [.int v1]) (rest := []) (st1 := []) hC hw (c_X11_needSide l g n v1 μ (r1, m1) hr1) ml_X11_146 st_X11_needSide rfl hl.1 ⟨Nat.le_of_ble_eq_true rfl, Nat.le_of_ble_eq_true rfl⟩ (Nat.le_of_ble_eq_true rfl) ⟨Nat.zero_le _, Nat.zero_le _⟩ rfl dX11_tally_1 (fun H locs hw => ?_)
  refine lv_iload_n hx hb dX11_tally_4 rfl (lv_at hl 2 rfl) ?_
  obtain ⟨r5, m5, hr5, h⟩ := thr_rt h
  refine cS (As := [.int v2]) (rest := []) (st1 := []) hC hw (c_X11_needSeeds l g n v2 m1 (r5, m5) hr5) ml_X11_229 st_X11_needSeeds rfl hl.1 ⟨Nat.le_of_ble_eq_true rfl, Nat.le_of_ble_eq_true rfl⟩ (Nat.le_of_ble_eq_true rfl) ⟨Nat.zero_le _, Nat.zero_le _⟩ rfl dX11_tally_5 (fun H locs hw => ?_)
  refine lv_iload_n hx hb dX11_tally_8 rfl (lv_at hl 3 rfl) ?_
  refine lv_if_lt (tgt := 17) hx hb dX11_tally_9 (by decide) (fun hc => ?_) (fun hc => ?_)
  · rw [if_pos hc] at h
    exact B17 m5 _ _ _ hw (lv_sub hl [] rfl) h
  · rw [if_neg hc] at h
    refine lv_iload_n hx hb dX11_tally_12 rfl (lv_at hl 3 rfl) ?_
    refine lv_iconst (v := (3 : Int32)) hx hb dX11_tally_13 (by decide) ?_
    refine lv_icmp_le (tgt := 27) hx hb dX11_tally_14 (by decide) (fun hc => ?_) (fun hc => ?_)
    · rw [if_pos hc] at h
      refine lv_aload_n hx hb dX11_tally_27 rfl (lv_at hl 0 rfl) ?_
      refine lv_iload_n hx hb dX11_tally_28 rfl (lv_at hl 2 rfl) ?_
      obtain ⟨r29, m29, hr29, h⟩ := thr_rt h
      refine cV (b := 0) (As := [.int v2]) (rest := []) (st1 := []) hC hw (c_X11_needSolved l g n v2 m5 (r29, m29) hr29) ml_X11_279 im_X11_needSolved se_X11_needSolved ok0 (CN := RX11) (T := TX11) (NF := 12) rfl rfl (by decide) rfl hl.1 ⟨Nat.le_of_ble_eq_true rfl, Nat.le_of_ble_eq_true rfl⟩ (Nat.le_of_ble_eq_true rfl) ⟨Nat.zero_le _, Nat.zero_le _⟩ rfl dX11_tally_29 (fun H locs hw => ?_)
      refine lv_iconst (v := (0 : Int32)) hx hb dX11_tally_32 (by decide) ?_
      refine lv_istore (lv' := [(4, .int (0 : Int32)), (0, .ref (g.2.2 0)), (1, .int v1), (2, .int v2), (3, .int v3)]) hx hb dX11_tally_33 hl (by decide) rfl (fun ls hl => ?_)
      refine lv_iconst (v := (0 : Int32)) hx hb dX11_tally_35 (by decide) ?_
      refine lv_istore (lv' := [(5, .int (0 : Int32)), (4, .int (0 : Int32)), (0, .ref (g.2.2 0)), (1, .int v1), (2, .int v2), (3, .int v3)]) hx hb dX11_tally_36 hl (by decide) rfl (fun ls hl => ?_)
      exact B38 n (0 : Int32) (0 : Int32) m29 _ _ _ hw (lv_sub hl [2, 3, 4, 5, 1, 0] rfl) h
    · rw [if_neg hc] at h
      exact B17 m5 _ _ _ hw (lv_sub hl [] rfl) h
set_option maxRecDepth 100000 in
set_option maxHeartbeats 4000000 in
theorem x_X11_tally (l : Launch) (hst : l.stackTraces = false) (g : Gw) (n : Nat) (v1 : Int32) (v2 : Int32) (v3 : Int32) (μ : Mu) (kx : Nat) (μx : Mu) (h : X11_tally n v1 v2 v3 μ = some (Sum.inr kx, μx)) : CtX l g yX11_tally cX11_tally 6 (some .int) 7 [.ref (g.2.2 0), .int v1, .int v2, .int v3] μ kx μx := by
  rw [X11_tally] at h
  refine CtX.of (by decide) (Nat.le_of_ble_eq_true rfl) ?_
  intro p e s m args below meth c ls hC hw htab hlocks hl
  have hx := hC.1
  have hb := hC.2.1
  have hl : lv_has ls 6 [(0, .ref (g.2.2 0)), (1, .int v1), (2, .int v2), (3, .int v3)] := hl
  have B17 : ∀ (μ : Mu) (H : Heap) (locs : List Loc) (ls : Array Slot), wd g μ s (Aw g s.heap.size) H locs → lv_has ls 6 [] → X11_tally_17 n v1 v2 v3  μ = some (Sum.inr kx, μx) → WX p l e (rmX 7) s m args below meth c g kx μx H locs (F0 m 17 ls []) := by
    intro μ H locs ls hw hl h
    rw [X11_tally_17] at h
    exact thS (rest := []) hC hw hst 20 (by decide) rfl rfl xft1 xnm xcl1 xin1 xat1 hl.1 htab hlocks (by rw [← (inrI h).1]; rfl) (inrI h).2 (Nat.le_of_ble_eq_true rfl) (Nat.le_of_ble_eq_true rfl) dX11_tally_17 dX11_tally_20 dX11_tally_21 dX11_tally_23 dX11_tally_26
  have B38 : ∀ (k : Nat), ∀ (v4 : Int32) (v5 : Int32) (μ : Mu) (H : Heap) (locs : List Loc) (ls : Array Slot), wd g μ s (Aw g s.heap.size) H locs → lv_has ls 6 [(0, .ref (g.2.2 0)), (1, .int v1), (2, .int v2), (3, .int v3), (4, .int v4), (5, .int v5)] → lpF (fun _ _ _ => none) (X11_tally_38b n v1 v2 v3) k v4 v5 μ = some (Sum.inr kx, μx) → WX p l e (rmX 7) s m args below meth c g kx μx H locs (F0 m 38 ls []) := by
    intro k
    induction k with
    | zero =>
      intro v4 v5 μ H locs ls hw hl h
      cases h
    | succ k ih38 =>
      rw [lpF_s]
      generalize lpF (fun _ _ _ => none) (X11_tally_38b n v1 v2 v3) k = k38 at ih38 ⊢
      intro v4 v5 μ H locs ls hw hl h
      have B76 : ∀ (v4 : Int32) (v5 : Int32) (μ : Mu) (H : Heap) (locs : List Loc) (ls : Array Slot), wd g μ s (Aw g s.heap.size) H locs → lv_has ls 6 [(0, .ref (g.2.2 0)), (1, .int v1), (2, .int v2), (3, .int v3), (4, .int v4), (5, .int v5)] → X11_tally_76 n v1 v2 v3 k38 v4 v5 μ = some (Sum.inr kx, μx) → WX p l e (rmX 7) s m args below meth c g kx μx H locs (F0 m 76 ls []) := by
        intro v4 v5 μ H locs ls hw hl h
        rw [X11_tally_76] at h
        refine lv_iinc (v := (v5 + (1 : Int32))) (lv' := [(5, .int (v5 + (1 : Int32))), (0, .ref (g.2.2 0)), (1, .int v1), (2, .int v2), (3, .int v3), (4, .int v4)]) hx hb dX11_tally_76 hl (k := 5) rfl rfl (by decide) rfl (fun ls hl => ?_)
        refine lv_goto (tgt := 38) hx hb dX11_tally_79 (by decide) ?_
        exact ih38 v4 (v5 + (1 : Int32)) μ _ _ _ hw (lv_sub hl [1, 2, 3, 4, 5, 0] rfl) h
      rw [X11_tally_38b] at h
      refine lv_iload hx hb dX11_tally_38 (lv_at hl 5 rfl) ?_
      refine lv_aload_n hx hb dX11_tally_40 rfl (lv_at hl 0 rfl) ?_
      refine gR (t := 2) hC hw fl_X11_21 ok0 (by decide) ot0_1 dX11_tally_41 ?_
      refine lv_iload_n hx hb dX11_tally_44 rfl (lv_at hl 2 rfl) ?_
      obtain ⟨r45, hr45, h⟩ := bnd h
      refine cV (b := 2) (As := [.int v2]) (rest := [.int v5]) (st1 := [.int r45.1, .int v5]) hC hw (c_X1_positionsOf l g n v2 μ r45 hr45) ml_X11_232 im_X1_positionsOf se_X1_positionsOf ok2 (CN := RX1) (T := TX1) (NF := 7) rfl rfl (by decide) rfl hl.1 ⟨Nat.le_of_ble_eq_true rfl, Nat.le_of_ble_eq_true rfl⟩ (Nat.le_of_ble_eq_true rfl) ⟨Nat.zero_le _, Nat.zero_le _⟩ rfl dX11_tally_45 (fun H locs hw => ?_)
      refine lv_icmp_ge (tgt := 82) hx hb dX11_tally_48 (by decide) (fun hc => ?_) (fun hc => ?_)
      · rw [if_pos hc] at h
        refine lv_iload hx hb dX11_tally_82 (lv_at hl 4 rfl) ?_
        cases h
      · rw [if_neg hc] at h
        refine lv_aload_n hx hb dX11_tally_51 rfl (lv_at hl 0 rfl) ?_
        refine gR (t := 15) hC hw fl_X11_63 ok0 (by decide) ot0_7 dX11_tally_52 ?_
        refine lv_aload_n hx hb dX11_tally_55 rfl (lv_at hl 0 rfl) ?_
        refine gR (t := 15) hC hw fl_X11_63 ok0 (by decide) ot0_7 dX11_tally_56 ?_
        refine lv_iload_n hx hb dX11_tally_59 rfl (lv_at hl 1 rfl) ?_
        refine lv_iload_n hx hb dX11_tally_60 rfl (lv_at hl 2 rfl) ?_
        refine lv_iload hx hb dX11_tally_61 (lv_at hl 5 rfl) ?_
        obtain ⟨r63, hr63, h⟩ := bnd h
        refine cV (b := 15) (As := [.int v1, .int v2, .int v5]) (rest := [.ref (g.2.2 15)]) (st1 := [.int r63.1, .ref (g.2.2 15)]) hC hw (c_X7_indexOf l g n v1 v2 v5 r45.2 r63 hr63) ml_X11_282 im_X7_indexOf se_X7_indexOf ok15 (CN := RX7) (T := TX7) (NF := 13) rfl rfl (by decide) rfl hl.1 ⟨Nat.le_of_ble_eq_true rfl, Nat.le_of_ble_eq_true rfl⟩ (Nat.le_of_ble_eq_true rfl) ⟨Nat.zero_le _, Nat.zero_le _⟩ rfl dX11_tally_63 (fun H locs hw => ?_)
        refine lv_iload_n hx hb dX11_tally_66 rfl (lv_at hl 3 rfl) ?_
        obtain ⟨r67, hr67, h⟩ := bnd h
        refine cV (b := 15) (As := [.int r63.1, .int v3]) (rest := []) (st1 := [.int r67.1]) hC hw (c_X7_isOfKind l g n r63.1 v3 r63.2 r67 hr67) ml_X11_286 im_X7_isOfKind se_X7_isOfKind ok15 (CN := RX7) (T := TX7) (NF := 13) rfl rfl (by decide) rfl hl.1 ⟨Nat.le_of_ble_eq_true rfl, Nat.le_of_ble_eq_true rfl⟩ (Nat.le_of_ble_eq_true rfl) ⟨Nat.zero_le _, Nat.zero_le _⟩ rfl dX11_tally_67 (fun H locs hw => ?_)
        refine lv_if_eq (tgt := 76) hx hb dX11_tally_70 (by decide) (fun hc => ?_) (fun hc => ?_)
        · rw [if_pos hc] at h
          exact B76 v4 v5 r67.2 _ _ _ hw (lv_sub hl [0, 1, 2, 3, 4, 5] rfl) h
        · rw [if_neg hc] at h
          refine lv_iinc (v := (v4 + (1 : Int32))) (lv' := [(4, .int (v4 + (1 : Int32))), (0, .ref (g.2.2 0)), (1, .int v1), (2, .int v2), (3, .int v3), (5, .int v5)]) hx hb dX11_tally_73 hl (k := 4) rfl rfl (by decide) rfl (fun ls hl => ?_)
          exact B76 (v4 + (1 : Int32)) v5 r67.2 _ _ _ hw (lv_sub hl [1, 2, 3, 4, 0, 5] rfl) h
  refine lv_iload_n hx hb dX11_tally_0 rfl (lv_at hl 1 rfl) ?_
  rcases thr_cs h with ⟨k1x, m1, hr1, h⟩ | ⟨r1, m1, hr1, h⟩
  · rw [(inrI h).1, (inrI h).2] at hr1
    exact cSX (As := [.int v1]) (rest := []) hC hw htab hlocks (x_X11_needSide l hst g n v1 μ kx μx hr1) ml_X11_146 st_X11_needSide rfl hl.1 ⟨Nat.le_of_ble_eq_true rfl, Nat.le_of_ble_eq_true rfl⟩ (Nat.le_of_ble_eq_true rfl) ⟨Nat.le_refl 1, Nat.le_refl 6⟩ dX11_tally_1
  refine cS (As := [.int v1]) (rest := []) (st1 := []) hC hw (c_X11_needSide l g n v1 μ (r1, m1) hr1) ml_X11_146 st_X11_needSide rfl hl.1 ⟨Nat.le_of_ble_eq_true rfl, Nat.le_of_ble_eq_true rfl⟩ (Nat.le_of_ble_eq_true rfl) ⟨Nat.zero_le _, Nat.zero_le _⟩ rfl dX11_tally_1 (fun H locs hw => ?_)
  refine lv_iload_n hx hb dX11_tally_4 rfl (lv_at hl 2 rfl) ?_
  rcases thr_cs h with ⟨k5x, m5, hr5, h⟩ | ⟨r5, m5, hr5, h⟩
  · rw [(inrI h).1, (inrI h).2] at hr5
    exact cSX (As := [.int v2]) (rest := []) hC hw htab hlocks (x_X11_needSeeds l hst g n v2 m1 kx μx hr5) ml_X11_229 st_X11_needSeeds rfl hl.1 ⟨Nat.le_of_ble_eq_true rfl, Nat.le_of_ble_eq_true rfl⟩ (Nat.le_of_ble_eq_true rfl) ⟨Nat.le_refl 1, Nat.le_refl 6⟩ dX11_tally_5
  refine cS (As := [.int v2]) (rest := []) (st1 := []) hC hw (c_X11_needSeeds l g n v2 m1 (r5, m5) hr5) ml_X11_229 st_X11_needSeeds rfl hl.1 ⟨Nat.le_of_ble_eq_true rfl, Nat.le_of_ble_eq_true rfl⟩ (Nat.le_of_ble_eq_true rfl) ⟨Nat.zero_le _, Nat.zero_le _⟩ rfl dX11_tally_5 (fun H locs hw => ?_)
  refine lv_iload_n hx hb dX11_tally_8 rfl (lv_at hl 3 rfl) ?_
  refine lv_if_lt (tgt := 17) hx hb dX11_tally_9 (by decide) (fun hc => ?_) (fun hc => ?_)
  · rw [if_pos hc] at h
    exact B17 m5 _ _ _ hw (lv_sub hl [] rfl) h
  · rw [if_neg hc] at h
    refine lv_iload_n hx hb dX11_tally_12 rfl (lv_at hl 3 rfl) ?_
    refine lv_iconst (v := (3 : Int32)) hx hb dX11_tally_13 (by decide) ?_
    refine lv_icmp_le (tgt := 27) hx hb dX11_tally_14 (by decide) (fun hc => ?_) (fun hc => ?_)
    · rw [if_pos hc] at h
      refine lv_aload_n hx hb dX11_tally_27 rfl (lv_at hl 0 rfl) ?_
      refine lv_iload_n hx hb dX11_tally_28 rfl (lv_at hl 2 rfl) ?_
      rcases thr_cs h with ⟨k29x, m29, hr29, h⟩ | ⟨r29, m29, hr29, h⟩
      · rw [(inrI h).1, (inrI h).2] at hr29
        exact cVX (b := 0) (As := [.int v2]) (rest := []) hC hw htab hlocks (x_X11_needSolved l hst g n v2 m5 kx μx hr29) ml_X11_279 im_X11_needSolved se_X11_needSolved ok0 (CN := RX11) (T := TX11) (NF := 12) rfl rfl (by decide) rfl hl.1 ⟨Nat.le_of_ble_eq_true rfl, Nat.le_of_ble_eq_true rfl⟩ (Nat.le_of_ble_eq_true rfl) ⟨Nat.le_refl 1, Nat.le_refl 6⟩ dX11_tally_29
      refine cV (b := 0) (As := [.int v2]) (rest := []) (st1 := []) hC hw (c_X11_needSolved l g n v2 m5 (r29, m29) hr29) ml_X11_279 im_X11_needSolved se_X11_needSolved ok0 (CN := RX11) (T := TX11) (NF := 12) rfl rfl (by decide) rfl hl.1 ⟨Nat.le_of_ble_eq_true rfl, Nat.le_of_ble_eq_true rfl⟩ (Nat.le_of_ble_eq_true rfl) ⟨Nat.zero_le _, Nat.zero_le _⟩ rfl dX11_tally_29 (fun H locs hw => ?_)
      refine lv_iconst (v := (0 : Int32)) hx hb dX11_tally_32 (by decide) ?_
      refine lv_istore (lv' := [(4, .int (0 : Int32)), (0, .ref (g.2.2 0)), (1, .int v1), (2, .int v2), (3, .int v3)]) hx hb dX11_tally_33 hl (by decide) rfl (fun ls hl => ?_)
      refine lv_iconst (v := (0 : Int32)) hx hb dX11_tally_35 (by decide) ?_
      refine lv_istore (lv' := [(5, .int (0 : Int32)), (4, .int (0 : Int32)), (0, .ref (g.2.2 0)), (1, .int v1), (2, .int v2), (3, .int v3)]) hx hb dX11_tally_36 hl (by decide) rfl (fun ls hl => ?_)
      exact B38 n (0 : Int32) (0 : Int32) m29 _ _ _ hw (lv_sub hl [2, 3, 4, 5, 1, 0] rfl) h
    · rw [if_neg hc] at h
      exact B17 m5 _ _ _ hw (lv_sub hl [] rfl) h
set_option maxRecDepth 100000 in
set_option maxHeartbeats 4000000 in
theorem c_X11_row (l : Launch) (g : Gw) (n : Nat) (v1 : Int32) (v2 : Int32) (v3 : Int32) (v4 : Int32) (μ : Mu) (r : Int32 × Mu) (h : X11_row n v1 v2 v3 v4 μ = some (Sum.inl r.1, r.2)) : Ct l g yX11_row cX11_row 7 (some .int) 8 [.ref (g.2.2 0), .int v1, .int v2, .int v3, .int v4] μ (some (.int r.1)) r.2 := by
  rw [X11_row] at h
  refine Ct.of (by decide) (Nat.le_of_ble_eq_true rfl) ?_
  intro p e s m args below meth c ls hC hw hr hlocks hl
  have hx := hC.1
  have hb := hC.2.1
  have hl : lv_has ls 7 [(0, .ref (g.2.2 0)), (1, .int v1), (2, .int v2), (3, .int v3), (4, .int v4)] := hl
  have B132 : ∀ (s0 : Int32) (μ : Mu) (H : Heap) (locs : List Loc) (ls : Array Slot), wd g μ s (Aw g s.heap.size) H locs → lv_has ls 7 [] → X11_row_132 n v1 v2 v3 v4 s0 μ = some (Sum.inl r.1, r.2) → WQ p l e (rmD 8) s m args below meth c g (some (.int r.1)) r.2 H locs (F0 m 132 ls [.int s0]) := by
    intro s0 μ H locs ls hw hl h
    rw [X11_row_132] at h
    exact rI hC hw hr hlocks (by rw [(inlI h).1]) (inlI h).2 dX11_row_132
  have B60 : ∀ (v5 : Int32) (μ : Mu) (H : Heap) (locs : List Loc) (ls : Array Slot), wd g μ s (Aw g s.heap.size) H locs → lv_has ls 7 [(0, .ref (g.2.2 0)), (4, .int v4), (5, .int v5)] → X11_row_60 n v1 v2 v3 v4 v5 μ = some (Sum.inl r.1, r.2) → WQ p l e (rmD 8) s m args below meth c g (some (.int r.1)) r.2 H locs (F0 m 60 ls []) := by
    intro v5 μ H locs ls hw hl h
    rw [X11_row_60] at h
    refine lv_iload hx hb dX11_row_60 (lv_at hl 1 rfl) ?_
    by_cases hs62_0 : v4 = (0 : Int32)
    · rw [if_pos hs62_0] at h
      refine lv_tableIn (off := 30) (tgt := 92) hx hb dX11_row_62 (by rw [hs62_0]; decide) (by rw [hs62_0]; decide) (by rw [hs62_0]; decide) (by decide) ?_
      refine lv_aload_n hx hb dX11_row_92 rfl (lv_at hl 0 rfl) ?_
      refine gR (t := 15) hC hw fl_X11_63 ok0 (by decide) ot0_7 dX11_row_93 ?_
      refine lv_aload_n hx hb dX11_row_96 rfl (lv_at hl 0 rfl) ?_
      refine gR (t := 55) hC hw fl_X11_41 ok0 (by decide) ot0_4 dX11_row_97 ?_
      obtain ⟨r100, hr100, h⟩ := bnd h
      refine cV (b := 15) (As := [.ref (g.2.2 55)]) (rest := []) (st1 := [.int r100.1]) hC hw (c_X7_rankAt l g n 55 μ r100 hr100) ml_X11_266 im_X7_rankAt se_X7_rankAt ok15 (CN := RX7) (T := TX7) (NF := 13) rfl rfl (by decide) rfl hl.1 ⟨Nat.le_of_ble_eq_true rfl, Nat.le_of_ble_eq_true rfl⟩ (Nat.le_of_ble_eq_true rfl) ⟨Nat.zero_le _, Nat.zero_le _⟩ rfl dX11_row_100 (fun H locs hw => ?_)
      exact rI hC hw hr hlocks (by rw [(inlI h).1]) (inlI h).2 dX11_row_103
    rw [if_neg hs62_0] at h
    by_cases hs62_1 : v4 = (1 : Int32)
    · rw [if_pos hs62_1] at h
      refine lv_tableIn (off := 42) (tgt := 104) hx hb dX11_row_62 (by rw [hs62_1]; decide) (by rw [hs62_1]; decide) (by rw [hs62_1]; decide) (by decide) ?_
      refine lv_aload_n hx hb dX11_row_104 rfl (lv_at hl 0 rfl) ?_
      refine gR (t := 15) hC hw fl_X11_63 ok0 (by decide) ot0_7 dX11_row_105 ?_
      refine lv_aload_n hx hb dX11_row_108 rfl (lv_at hl 0 rfl) ?_
      refine gR (t := 55) hC hw fl_X11_41 ok0 (by decide) ot0_4 dX11_row_109 ?_
      obtain ⟨r112, hr112, h⟩ := bnd h
      refine cV (b := 15) (As := [.ref (g.2.2 55)]) (rest := []) (st1 := [.int r112.1]) hC hw (c_X7_bestAt l g n 55 μ r112 hr112) ml_X11_269 im_X7_bestAt se_X7_bestAt ok15 (CN := RX7) (T := TX7) (NF := 13) rfl rfl (by decide) rfl hl.1 ⟨Nat.le_of_ble_eq_true rfl, Nat.le_of_ble_eq_true rfl⟩ (Nat.le_of_ble_eq_true rfl) ⟨Nat.zero_le _, Nat.zero_le _⟩ rfl dX11_row_112 (fun H locs hw => ?_)
      refine lv_istore (lv' := [(6, .int r112.1), (0, .ref (g.2.2 0)), (4, .int v4), (5, .int v5)]) hx hb dX11_row_115 hl (by decide) rfl (fun ls hl => ?_)
      refine lv_iload hx hb dX11_row_117 (lv_at hl 0 rfl) ?_
      refine lv_iconst (v := ((-1) : Int32)) hx hb dX11_row_119 (by decide) ?_
      refine lv_icmp_ne (tgt := 127) hx hb dX11_row_120 (by decide) (fun hc => ?_) (fun hc => ?_)
      · rw [if_neg hc] at h
        refine lv_iload hx hb dX11_row_127 (lv_at hl 0 rfl) ?_
        refine lv_iload hx hb dX11_row_129 (lv_at hl 3 rfl) ?_
        refine lv_isub hx hb dX11_row_131 ?_
        exact B132 (r112.1 - v5) r112.2 _ _ _ hw (lv_sub hl [] rfl) h
      · rw [if_pos hc] at h
        refine lv_iconst (v := ((-1) : Int32)) hx hb dX11_row_123 (by decide) ?_
        refine lv_goto (tgt := 132) hx hb dX11_row_124 (by decide) ?_
        exact B132 ((-1) : Int32) r112.2 _ _ _ hw (lv_sub hl [] rfl) h
    rw [if_neg hs62_1] at h
    by_cases hs62_2 : v4 = (2 : Int32)
    · rw [if_pos hs62_2] at h
      refine lv_tableIn (off := 71) (tgt := 133) hx hb dX11_row_62 (by rw [hs62_2]; decide) (by rw [hs62_2]; decide) (by rw [hs62_2]; decide) (by decide) ?_
      refine lv_aload_n hx hb dX11_row_133 rfl (lv_at hl 0 rfl) ?_
      refine gR (t := 6) hC hw fl_X11_30 ok0 (by decide) ot0_2 dX11_row_134 ?_
      refine lv_aload_n hx hb dX11_row_137 rfl (lv_at hl 0 rfl) ?_
      refine gR (t := 55) hC hw fl_X11_41 ok0 (by decide) ot0_4 dX11_row_138 ?_
      obtain ⟨r141, hr141, h⟩ := bnd h
      refine cV (b := 6) (As := [.ref (g.2.2 55)]) (rest := []) (st1 := [.int r141.1]) hC hw (c_X8_choices l g n 55 μ r141 hr141) ml_X11_290 im_X8_choices se_X8_choices ok6 (CN := RX8) (T := TX8) (NF := 8) rfl rfl (by decide) rfl hl.1 ⟨Nat.le_of_ble_eq_true rfl, Nat.le_of_ble_eq_true rfl⟩ (Nat.le_of_ble_eq_true rfl) ⟨Nat.zero_le _, Nat.zero_le _⟩ rfl dX11_row_141 (fun H locs hw => ?_)
      obtain ⟨r144, hr144, h⟩ := bnd h
      refine cS (As := [.int r141.1]) (rest := []) (st1 := [.int r144.1]) hC hw (c_J6_bitCount_0f7a4 l g n r141.1 r141.2 r144 hr144) ml_X11_293 st_J6_bitCount_0f7a4 rfl hl.1 ⟨Nat.le_of_ble_eq_true rfl, Nat.le_of_ble_eq_true rfl⟩ (Nat.le_of_ble_eq_true rfl) ⟨Nat.zero_le _, Nat.zero_le _⟩ rfl dX11_row_144 (fun H locs hw => ?_)
      exact rI hC hw hr hlocks (by rw [(inlI h).1]) (inlI h).2 dX11_row_147
    rw [if_neg hs62_2] at h
    by_cases hs62_3 : v4 = (3 : Int32)
    · rw [if_pos hs62_3] at h
      refine lv_tableIn (off := 86) (tgt := 148) hx hb dX11_row_62 (by rw [hs62_3]; decide) (by rw [hs62_3]; decide) (by rw [hs62_3]; decide) (by decide) ?_
      refine lv_aload_n hx hb dX11_row_148 rfl (lv_at hl 0 rfl) ?_
      refine gR (t := 15) hC hw fl_X11_63 ok0 (by decide) ot0_7 dX11_row_149 ?_
      refine lv_aload_n hx hb dX11_row_152 rfl (lv_at hl 0 rfl) ?_
      refine gR (t := 55) hC hw fl_X11_41 ok0 (by decide) ot0_4 dX11_row_153 ?_
      obtain ⟨r156, hr156, h⟩ := bnd h
      refine cV (b := 15) (As := [.ref (g.2.2 55)]) (rest := []) (st1 := [.int r156.1]) hC hw (c_X7_manyBest l g n 55 μ r156 hr156) ml_X11_298 im_X7_manyBest se_X7_manyBest ok15 (CN := RX7) (T := TX7) (NF := 13) rfl rfl (by decide) rfl hl.1 ⟨Nat.le_of_ble_eq_true rfl, Nat.le_of_ble_eq_true rfl⟩ (Nat.le_of_ble_eq_true rfl) ⟨Nat.zero_le _, Nat.zero_le _⟩ rfl dX11_row_156 (fun H locs hw => ?_)
      exact rI hC hw hr hlocks (by rw [(inlI h).1]) (inlI h).2 dX11_row_159
    rw [if_neg hs62_3] at h
    have ht0 := lv_neT (a := 0) hs62_0 (by decide)
    have ht1 := lv_neT (a := 1) hs62_1 (by decide)
    have ht2 := lv_neT (a := 2) hs62_2 (by decide)
    have ht3 := lv_neT (a := 3) hs62_3 (by decide)
    refine lv_tableOut (tgt := 160) hx hb dX11_row_62 (by omega) (by decide) ?_
    cases h
  refine lv_aload_n hx hb dX11_row_0 rfl (lv_at hl 0 rfl) ?_
  refine lv_iload_n hx hb dX11_row_1 rfl (lv_at hl 1 rfl) ?_
  refine lv_iload_n hx hb dX11_row_2 rfl (lv_at hl 2 rfl) ?_
  refine lv_iload_n hx hb dX11_row_3 rfl (lv_at hl 3 rfl) ?_
  obtain ⟨r4, m4, hr4, h⟩ := thr_rt h
  refine cV (b := 0) (As := [.int v1, .int v2, .int v3]) (rest := []) (st1 := []) hC hw (c_X11_laySolved l g n v1 v2 v3 μ (r4, m4) hr4) ml_X11_275 im_X11_laySolved se_X11_laySolved ok0 (CN := RX11) (T := TX11) (NF := 12) rfl rfl (by decide) rfl hl.1 ⟨Nat.le_of_ble_eq_true rfl, Nat.le_of_ble_eq_true rfl⟩ (Nat.le_of_ble_eq_true rfl) ⟨Nat.zero_le _, Nat.zero_le _⟩ rfl dX11_row_4 (fun H locs hw => ?_)
  refine lv_iload_n hx hb dX11_row_7 rfl (lv_at hl 1 rfl) ?_
  refine lv_aload_n hx hb dX11_row_8 rfl (lv_at hl 0 rfl) ?_
  refine gR (t := 1) hC hw fl_X11_12 ok0 (by decide) ot0_0 dX11_row_9 ?_
  refine gI hC hw fl_X11_134 ok1 (by decide) dX11_row_12 ?_
  refine lv_imul hx hb dX11_row_15 ?_
  refine lv_istore (lv' := [(5, .int (v1 * (m4.1 1 1))), (0, .ref (g.2.2 0)), (1, .int v1), (2, .int v2), (3, .int v3), (4, .int v4)]) hx hb dX11_row_16 hl (by decide) rfl (fun ls hl => ?_)
  refine lv_iload hx hb dX11_row_18 (lv_at hl 5 rfl) ?_
  refine lv_bipush (v := (10 : Int32)) hx hb dX11_row_20 (by decide) ?_
  refine lv_icmp_lt (tgt := 60) hx hb dX11_row_22 (by decide) (fun hc => ?_) (fun hc => ?_)
  · rw [if_pos hc] at h
    exact B60 (v1 * (m4.1 1 1)) m4 _ _ _ hw (lv_sub hl [1, 5, 0] rfl) h
  · rw [if_neg hc] at h
    refine lv_iload hx hb dX11_row_25 (lv_at hl 5 rfl) ?_
    refine lv_bipush (v := (10 : Int32)) hx hb dX11_row_27 (by decide) ?_
    refine lv_aload_n hx hb dX11_row_29 rfl (lv_at hl 1 rfl) ?_
    refine gR (t := 1) hC hw fl_X11_12 ok0 (by decide) ot0_0 dX11_row_30 ?_
    refine gI hC hw fl_X11_134 ok1 (by decide) dX11_row_33 ?_
    refine lv_iadd hx hb dX11_row_36 ?_
    refine lv_icmp_ge (tgt := 60) hx hb dX11_row_37 (by decide) (fun hc => ?_) (fun hc => ?_)
    · rw [if_pos hc] at h
      exact B60 (v1 * (m4.1 1 1)) m4 _ _ _ hw (lv_sub hl [1, 5, 0] rfl) h
    · rw [if_neg hc] at h
      refine lv_aload_n hx hb dX11_row_40 rfl (lv_at hl 1 rfl) ?_
      refine gR (t := 15) hC hw fl_X11_63 ok0 (by decide) ot0_7 dX11_row_41 ?_
      refine lv_aload_n hx hb dX11_row_44 rfl (lv_at hl 1 rfl) ?_
      refine gR (t := 55) hC hw fl_X11_41 ok0 (by decide) ot0_4 dX11_row_45 ?_
      refine lv_iload hx hb dX11_row_48 (lv_at hl 0 rfl) ?_
      refine lv_iload hx hb dX11_row_50 (lv_at hl 5 rfl) ?_
      refine lv_iadd hx hb dX11_row_52 ?_
      refine lv_bipush (v := (10 : Int32)) hx hb dX11_row_53 (by decide) ?_
      refine lv_isub hx hb dX11_row_55 ?_
      obtain ⟨r56, hr56, h⟩ := bnd h
      refine cV (b := 15) (As := [.ref (g.2.2 55), .int (((v1 * (m4.1 1 1)) + v4) - (10 : Int32))]) (rest := []) (st1 := [.int r56.1]) hC hw (c_X7_worthBy l g n 55 (((v1 * (m4.1 1 1)) + v4) - (10 : Int32)) m4 r56 hr56) ml_X11_272 im_X7_worthBy se_X7_worthBy ok15 (CN := RX7) (T := TX7) (NF := 13) rfl rfl (by decide) rfl hl.1 ⟨Nat.le_of_ble_eq_true rfl, Nat.le_of_ble_eq_true rfl⟩ (Nat.le_of_ble_eq_true rfl) ⟨Nat.zero_le _, Nat.zero_le _⟩ rfl dX11_row_56 (fun H locs hw => ?_)
      exact rI hC hw hr hlocks (by rw [(inlI h).1]) (inlI h).2 dX11_row_59
set_option maxRecDepth 100000 in
set_option maxHeartbeats 4000000 in
theorem x_X11_row (l : Launch) (hst : l.stackTraces = false) (g : Gw) (n : Nat) (v1 : Int32) (v2 : Int32) (v3 : Int32) (v4 : Int32) (μ : Mu) (kx : Nat) (μx : Mu) (h : X11_row n v1 v2 v3 v4 μ = some (Sum.inr kx, μx)) : CtX l g yX11_row cX11_row 7 (some .int) 8 [.ref (g.2.2 0), .int v1, .int v2, .int v3, .int v4] μ kx μx := by
  rw [X11_row] at h
  refine CtX.of (by decide) (Nat.le_of_ble_eq_true rfl) ?_
  intro p e s m args below meth c ls hC hw htab hlocks hl
  have hx := hC.1
  have hb := hC.2.1
  have hl : lv_has ls 7 [(0, .ref (g.2.2 0)), (1, .int v1), (2, .int v2), (3, .int v3), (4, .int v4)] := hl
  have B132 : ∀ (s0 : Int32) (μ : Mu) (H : Heap) (locs : List Loc) (ls : Array Slot), wd g μ s (Aw g s.heap.size) H locs → lv_has ls 7 [] → X11_row_132 n v1 v2 v3 v4 s0 μ = some (Sum.inr kx, μx) → WX p l e (rmX 8) s m args below meth c g kx μx H locs (F0 m 132 ls [.int s0]) := by
    intro s0 μ H locs ls hw hl h
    rw [X11_row_132] at h
    cases h
  have B60 : ∀ (v5 : Int32) (μ : Mu) (H : Heap) (locs : List Loc) (ls : Array Slot), wd g μ s (Aw g s.heap.size) H locs → lv_has ls 7 [(0, .ref (g.2.2 0)), (4, .int v4), (5, .int v5)] → X11_row_60 n v1 v2 v3 v4 v5 μ = some (Sum.inr kx, μx) → WX p l e (rmX 8) s m args below meth c g kx μx H locs (F0 m 60 ls []) := by
    intro v5 μ H locs ls hw hl h
    rw [X11_row_60] at h
    refine lv_iload hx hb dX11_row_60 (lv_at hl 1 rfl) ?_
    by_cases hs62_0 : v4 = (0 : Int32)
    · rw [if_pos hs62_0] at h
      refine lv_tableIn (off := 30) (tgt := 92) hx hb dX11_row_62 (by rw [hs62_0]; decide) (by rw [hs62_0]; decide) (by rw [hs62_0]; decide) (by decide) ?_
      refine lv_aload_n hx hb dX11_row_92 rfl (lv_at hl 0 rfl) ?_
      refine gR (t := 15) hC hw fl_X11_63 ok0 (by decide) ot0_7 dX11_row_93 ?_
      refine lv_aload_n hx hb dX11_row_96 rfl (lv_at hl 0 rfl) ?_
      refine gR (t := 55) hC hw fl_X11_41 ok0 (by decide) ot0_4 dX11_row_97 ?_
      obtain ⟨r100, hr100, h⟩ := bnd h
      refine cV (b := 15) (As := [.ref (g.2.2 55)]) (rest := []) (st1 := [.int r100.1]) hC hw (c_X7_rankAt l g n 55 μ r100 hr100) ml_X11_266 im_X7_rankAt se_X7_rankAt ok15 (CN := RX7) (T := TX7) (NF := 13) rfl rfl (by decide) rfl hl.1 ⟨Nat.le_of_ble_eq_true rfl, Nat.le_of_ble_eq_true rfl⟩ (Nat.le_of_ble_eq_true rfl) ⟨Nat.zero_le _, Nat.zero_le _⟩ rfl dX11_row_100 (fun H locs hw => ?_)
      cases h
    rw [if_neg hs62_0] at h
    by_cases hs62_1 : v4 = (1 : Int32)
    · rw [if_pos hs62_1] at h
      refine lv_tableIn (off := 42) (tgt := 104) hx hb dX11_row_62 (by rw [hs62_1]; decide) (by rw [hs62_1]; decide) (by rw [hs62_1]; decide) (by decide) ?_
      refine lv_aload_n hx hb dX11_row_104 rfl (lv_at hl 0 rfl) ?_
      refine gR (t := 15) hC hw fl_X11_63 ok0 (by decide) ot0_7 dX11_row_105 ?_
      refine lv_aload_n hx hb dX11_row_108 rfl (lv_at hl 0 rfl) ?_
      refine gR (t := 55) hC hw fl_X11_41 ok0 (by decide) ot0_4 dX11_row_109 ?_
      obtain ⟨r112, hr112, h⟩ := bnd h
      refine cV (b := 15) (As := [.ref (g.2.2 55)]) (rest := []) (st1 := [.int r112.1]) hC hw (c_X7_bestAt l g n 55 μ r112 hr112) ml_X11_269 im_X7_bestAt se_X7_bestAt ok15 (CN := RX7) (T := TX7) (NF := 13) rfl rfl (by decide) rfl hl.1 ⟨Nat.le_of_ble_eq_true rfl, Nat.le_of_ble_eq_true rfl⟩ (Nat.le_of_ble_eq_true rfl) ⟨Nat.zero_le _, Nat.zero_le _⟩ rfl dX11_row_112 (fun H locs hw => ?_)
      refine lv_istore (lv' := [(6, .int r112.1), (0, .ref (g.2.2 0)), (4, .int v4), (5, .int v5)]) hx hb dX11_row_115 hl (by decide) rfl (fun ls hl => ?_)
      refine lv_iload hx hb dX11_row_117 (lv_at hl 0 rfl) ?_
      refine lv_iconst (v := ((-1) : Int32)) hx hb dX11_row_119 (by decide) ?_
      refine lv_icmp_ne (tgt := 127) hx hb dX11_row_120 (by decide) (fun hc => ?_) (fun hc => ?_)
      · rw [if_neg hc] at h
        refine lv_iload hx hb dX11_row_127 (lv_at hl 0 rfl) ?_
        refine lv_iload hx hb dX11_row_129 (lv_at hl 3 rfl) ?_
        refine lv_isub hx hb dX11_row_131 ?_
        exact B132 (r112.1 - v5) r112.2 _ _ _ hw (lv_sub hl [] rfl) h
      · rw [if_pos hc] at h
        refine lv_iconst (v := ((-1) : Int32)) hx hb dX11_row_123 (by decide) ?_
        refine lv_goto (tgt := 132) hx hb dX11_row_124 (by decide) ?_
        exact B132 ((-1) : Int32) r112.2 _ _ _ hw (lv_sub hl [] rfl) h
    rw [if_neg hs62_1] at h
    by_cases hs62_2 : v4 = (2 : Int32)
    · rw [if_pos hs62_2] at h
      refine lv_tableIn (off := 71) (tgt := 133) hx hb dX11_row_62 (by rw [hs62_2]; decide) (by rw [hs62_2]; decide) (by rw [hs62_2]; decide) (by decide) ?_
      refine lv_aload_n hx hb dX11_row_133 rfl (lv_at hl 0 rfl) ?_
      refine gR (t := 6) hC hw fl_X11_30 ok0 (by decide) ot0_2 dX11_row_134 ?_
      refine lv_aload_n hx hb dX11_row_137 rfl (lv_at hl 0 rfl) ?_
      refine gR (t := 55) hC hw fl_X11_41 ok0 (by decide) ot0_4 dX11_row_138 ?_
      obtain ⟨r141, hr141, h⟩ := bnd h
      refine cV (b := 6) (As := [.ref (g.2.2 55)]) (rest := []) (st1 := [.int r141.1]) hC hw (c_X8_choices l g n 55 μ r141 hr141) ml_X11_290 im_X8_choices se_X8_choices ok6 (CN := RX8) (T := TX8) (NF := 8) rfl rfl (by decide) rfl hl.1 ⟨Nat.le_of_ble_eq_true rfl, Nat.le_of_ble_eq_true rfl⟩ (Nat.le_of_ble_eq_true rfl) ⟨Nat.zero_le _, Nat.zero_le _⟩ rfl dX11_row_141 (fun H locs hw => ?_)
      obtain ⟨r144, hr144, h⟩ := bnd h
      refine cS (As := [.int r141.1]) (rest := []) (st1 := [.int r144.1]) hC hw (c_J6_bitCount_0f7a4 l g n r141.1 r141.2 r144 hr144) ml_X11_293 st_J6_bitCount_0f7a4 rfl hl.1 ⟨Nat.le_of_ble_eq_true rfl, Nat.le_of_ble_eq_true rfl⟩ (Nat.le_of_ble_eq_true rfl) ⟨Nat.zero_le _, Nat.zero_le _⟩ rfl dX11_row_144 (fun H locs hw => ?_)
      cases h
    rw [if_neg hs62_2] at h
    by_cases hs62_3 : v4 = (3 : Int32)
    · rw [if_pos hs62_3] at h
      refine lv_tableIn (off := 86) (tgt := 148) hx hb dX11_row_62 (by rw [hs62_3]; decide) (by rw [hs62_3]; decide) (by rw [hs62_3]; decide) (by decide) ?_
      refine lv_aload_n hx hb dX11_row_148 rfl (lv_at hl 0 rfl) ?_
      refine gR (t := 15) hC hw fl_X11_63 ok0 (by decide) ot0_7 dX11_row_149 ?_
      refine lv_aload_n hx hb dX11_row_152 rfl (lv_at hl 0 rfl) ?_
      refine gR (t := 55) hC hw fl_X11_41 ok0 (by decide) ot0_4 dX11_row_153 ?_
      obtain ⟨r156, hr156, h⟩ := bnd h
      refine cV (b := 15) (As := [.ref (g.2.2 55)]) (rest := []) (st1 := [.int r156.1]) hC hw (c_X7_manyBest l g n 55 μ r156 hr156) ml_X11_298 im_X7_manyBest se_X7_manyBest ok15 (CN := RX7) (T := TX7) (NF := 13) rfl rfl (by decide) rfl hl.1 ⟨Nat.le_of_ble_eq_true rfl, Nat.le_of_ble_eq_true rfl⟩ (Nat.le_of_ble_eq_true rfl) ⟨Nat.zero_le _, Nat.zero_le _⟩ rfl dX11_row_156 (fun H locs hw => ?_)
      cases h
    rw [if_neg hs62_3] at h
    have ht0 := lv_neT (a := 0) hs62_0 (by decide)
    have ht1 := lv_neT (a := 1) hs62_1 (by decide)
    have ht2 := lv_neT (a := 2) hs62_2 (by decide)
    have ht3 := lv_neT (a := 3) hs62_3 (by decide)
    refine lv_tableOut (tgt := 160) hx hb dX11_row_62 (by omega) (by decide) ?_
    exact thS (rest := []) hC hw hst 20 (by decide) rfl rfl xft1 xnm xcl1 xin1 xat1 hl.1 htab hlocks (by rw [← (inrI h).1]; rfl) (inrI h).2 (Nat.le_of_ble_eq_true rfl) (Nat.le_of_ble_eq_true rfl) dX11_row_160 dX11_row_163 dX11_row_164 dX11_row_166 dX11_row_169
  refine lv_aload_n hx hb dX11_row_0 rfl (lv_at hl 0 rfl) ?_
  refine lv_iload_n hx hb dX11_row_1 rfl (lv_at hl 1 rfl) ?_
  refine lv_iload_n hx hb dX11_row_2 rfl (lv_at hl 2 rfl) ?_
  refine lv_iload_n hx hb dX11_row_3 rfl (lv_at hl 3 rfl) ?_
  rcases thr_cs h with ⟨k4x, m4, hr4, h⟩ | ⟨r4, m4, hr4, h⟩
  · rw [(inrI h).1, (inrI h).2] at hr4
    exact cVX (b := 0) (As := [.int v1, .int v2, .int v3]) (rest := []) hC hw htab hlocks (x_X11_laySolved l hst g n v1 v2 v3 μ kx μx hr4) ml_X11_275 im_X11_laySolved se_X11_laySolved ok0 (CN := RX11) (T := TX11) (NF := 12) rfl rfl (by decide) rfl hl.1 ⟨Nat.le_of_ble_eq_true rfl, Nat.le_of_ble_eq_true rfl⟩ (Nat.le_of_ble_eq_true rfl) ⟨Nat.le_refl 1, Nat.le_refl 6⟩ dX11_row_4
  refine cV (b := 0) (As := [.int v1, .int v2, .int v3]) (rest := []) (st1 := []) hC hw (c_X11_laySolved l g n v1 v2 v3 μ (r4, m4) hr4) ml_X11_275 im_X11_laySolved se_X11_laySolved ok0 (CN := RX11) (T := TX11) (NF := 12) rfl rfl (by decide) rfl hl.1 ⟨Nat.le_of_ble_eq_true rfl, Nat.le_of_ble_eq_true rfl⟩ (Nat.le_of_ble_eq_true rfl) ⟨Nat.zero_le _, Nat.zero_le _⟩ rfl dX11_row_4 (fun H locs hw => ?_)
  refine lv_iload_n hx hb dX11_row_7 rfl (lv_at hl 1 rfl) ?_
  refine lv_aload_n hx hb dX11_row_8 rfl (lv_at hl 0 rfl) ?_
  refine gR (t := 1) hC hw fl_X11_12 ok0 (by decide) ot0_0 dX11_row_9 ?_
  refine gI hC hw fl_X11_134 ok1 (by decide) dX11_row_12 ?_
  refine lv_imul hx hb dX11_row_15 ?_
  refine lv_istore (lv' := [(5, .int (v1 * (m4.1 1 1))), (0, .ref (g.2.2 0)), (1, .int v1), (2, .int v2), (3, .int v3), (4, .int v4)]) hx hb dX11_row_16 hl (by decide) rfl (fun ls hl => ?_)
  refine lv_iload hx hb dX11_row_18 (lv_at hl 5 rfl) ?_
  refine lv_bipush (v := (10 : Int32)) hx hb dX11_row_20 (by decide) ?_
  refine lv_icmp_lt (tgt := 60) hx hb dX11_row_22 (by decide) (fun hc => ?_) (fun hc => ?_)
  · rw [if_pos hc] at h
    exact B60 (v1 * (m4.1 1 1)) m4 _ _ _ hw (lv_sub hl [1, 5, 0] rfl) h
  · rw [if_neg hc] at h
    refine lv_iload hx hb dX11_row_25 (lv_at hl 5 rfl) ?_
    refine lv_bipush (v := (10 : Int32)) hx hb dX11_row_27 (by decide) ?_
    refine lv_aload_n hx hb dX11_row_29 rfl (lv_at hl 1 rfl) ?_
    refine gR (t := 1) hC hw fl_X11_12 ok0 (by decide) ot0_0 dX11_row_30 ?_
    refine gI hC hw fl_X11_134 ok1 (by decide) dX11_row_33 ?_
    refine lv_iadd hx hb dX11_row_36 ?_
    refine lv_icmp_ge (tgt := 60) hx hb dX11_row_37 (by decide) (fun hc => ?_) (fun hc => ?_)
    · rw [if_pos hc] at h
      exact B60 (v1 * (m4.1 1 1)) m4 _ _ _ hw (lv_sub hl [1, 5, 0] rfl) h
    · rw [if_neg hc] at h
      refine lv_aload_n hx hb dX11_row_40 rfl (lv_at hl 1 rfl) ?_
      refine gR (t := 15) hC hw fl_X11_63 ok0 (by decide) ot0_7 dX11_row_41 ?_
      refine lv_aload_n hx hb dX11_row_44 rfl (lv_at hl 1 rfl) ?_
      refine gR (t := 55) hC hw fl_X11_41 ok0 (by decide) ot0_4 dX11_row_45 ?_
      refine lv_iload hx hb dX11_row_48 (lv_at hl 0 rfl) ?_
      refine lv_iload hx hb dX11_row_50 (lv_at hl 5 rfl) ?_
      refine lv_iadd hx hb dX11_row_52 ?_
      refine lv_bipush (v := (10 : Int32)) hx hb dX11_row_53 (by decide) ?_
      refine lv_isub hx hb dX11_row_55 ?_
      obtain ⟨r56, hr56, h⟩ := bnd h
      refine cV (b := 15) (As := [.ref (g.2.2 55), .int (((v1 * (m4.1 1 1)) + v4) - (10 : Int32))]) (rest := []) (st1 := [.int r56.1]) hC hw (c_X7_worthBy l g n 55 (((v1 * (m4.1 1 1)) + v4) - (10 : Int32)) m4 r56 hr56) ml_X11_272 im_X7_worthBy se_X7_worthBy ok15 (CN := RX7) (T := TX7) (NF := 13) rfl rfl (by decide) rfl hl.1 ⟨Nat.le_of_ble_eq_true rfl, Nat.le_of_ble_eq_true rfl⟩ (Nat.le_of_ble_eq_true rfl) ⟨Nat.zero_le _, Nat.zero_le _⟩ rfl dX11_row_56 (fun H locs hw => ?_)
      cases h
set_option maxRecDepth 100000 in
set_option maxHeartbeats 4000000 in
theorem c_X11_find (l : Launch) (g : Gw) (n : Nat) (v1 : Int32) (v2 : Int32) (v3 : Int32) (v4 : Int32) (μ : Mu) (r : Int32 × Mu) (h : X11_find n v1 v2 v3 v4 μ = some (Sum.inl r.1, r.2)) : Ct l g yX11_find cX11_find 7 (some .int) 7 [.ref (g.2.2 0), .int v1, .int v2, .int v3, .int v4] μ (some (.int r.1)) r.2 := by
  rw [X11_find] at h
  refine Ct.of (by decide) (Nat.le_of_ble_eq_true rfl) ?_
  intro p e s m args below meth c ls hC hw hr hlocks hl
  have hx := hC.1
  have hb := hC.2.1
  have hl : lv_has ls 7 [(0, .ref (g.2.2 0)), (1, .int v1), (2, .int v2), (3, .int v3), (4, .int v4)] := hl
  have B78 : ∀ (μ : Mu) (H : Heap) (locs : List Loc) (ls : Array Slot), wd g μ s (Aw g s.heap.size) H locs → lv_has ls 7 [] → X11_find_78 n v1 v2 v3 v4  μ = some (Sum.inl r.1, r.2) → WQ p l e (rmD 7) s m args below meth c g (some (.int r.1)) r.2 H locs (F0 m 78 ls []) := by
    intro μ H locs ls hw hl h
    rw [X11_find_78] at h
    refine lv_iconst (v := ((-1) : Int32)) hx hb dX11_find_78 (by decide) ?_
    exact rI hC hw hr hlocks (by rw [(inlI h).1]) (inlI h).2 dX11_find_79
  have B20 : ∀ (k : Nat), ∀ (v5 : Int32) (v6 : Int32) (μ : Mu) (H : Heap) (locs : List Loc) (ls : Array Slot), wd g μ s (Aw g s.heap.size) H locs → lv_has ls 7 [(0, .ref (g.2.2 0)), (1, .int v1), (2, .int v2), (3, .int v3), (5, .int v5), (6, .int v6)] → lpF (fun _ _ _ => none) (X11_find_20b n v1 v2 v3 v4) k v5 v6 μ = some (Sum.inl r.1, r.2) → WQ p l e (rmD 7) s m args below meth c g (some (.int r.1)) r.2 H locs (F0 m 20 ls []) := by
    intro k
    induction k with
    | zero =>
      intro v5 v6 μ H locs ls hw hl h
      cases h
    | succ k ih20 =>
      rw [lpF_s]
      generalize lpF (fun _ _ _ => none) (X11_find_20b n v1 v2 v3 v4) k = k20 at ih20 ⊢
      intro v5 v6 μ H locs ls hw hl h
      have B72 : ∀ (v5 : Int32) (v6 : Int32) (μ : Mu) (H : Heap) (locs : List Loc) (ls : Array Slot), wd g μ s (Aw g s.heap.size) H locs → lv_has ls 7 [(0, .ref (g.2.2 0)), (1, .int v1), (2, .int v2), (3, .int v3), (5, .int v5), (6, .int v6)] → X11_find_72 n v1 v2 v3 v4 k20 v5 v6 μ = some (Sum.inl r.1, r.2) → WQ p l e (rmD 7) s m args below meth c g (some (.int r.1)) r.2 H locs (F0 m 72 ls []) := by
        intro v5 v6 μ H locs ls hw hl h
        rw [X11_find_72] at h
        refine lv_iinc (v := (v6 + (1 : Int32))) (lv' := [(6, .int (v6 + (1 : Int32))), (0, .ref (g.2.2 0)), (1, .int v1), (2, .int v2), (3, .int v3), (5, .int v5)]) hx hb dX11_find_72 hl (k := 5) rfl rfl (by decide) rfl (fun ls hl => ?_)
        refine lv_goto (tgt := 20) hx hb dX11_find_75 (by decide) ?_
        exact ih20 v5 (v6 + (1 : Int32)) μ _ _ _ hw (lv_sub hl [1, 2, 3, 4, 5, 0] rfl) h
      rw [X11_find_20b] at h
      refine lv_iload hx hb dX11_find_20 (lv_at hl 5 rfl) ?_
      refine lv_aload_n hx hb dX11_find_22 rfl (lv_at hl 0 rfl) ?_
      refine gR (t := 2) hC hw fl_X11_21 ok0 (by decide) ot0_1 dX11_find_23 ?_
      refine lv_iload_n hx hb dX11_find_26 rfl (lv_at hl 2 rfl) ?_
      obtain ⟨r27, hr27, h⟩ := bnd h
      refine cV (b := 2) (As := [.int v2]) (rest := [.int v6]) (st1 := [.int r27.1, .int v6]) hC hw (c_X1_positionsOf l g n v2 μ r27 hr27) ml_X11_232 im_X1_positionsOf se_X1_positionsOf ok2 (CN := RX1) (T := TX1) (NF := 7) rfl rfl (by decide) rfl hl.1 ⟨Nat.le_of_ble_eq_true rfl, Nat.le_of_ble_eq_true rfl⟩ (Nat.le_of_ble_eq_true rfl) ⟨Nat.zero_le _, Nat.zero_le _⟩ rfl dX11_find_27 (fun H locs hw => ?_)
      refine lv_icmp_ge (tgt := 78) hx hb dX11_find_30 (by decide) (fun hc => ?_) (fun hc => ?_)
      · rw [if_pos hc] at h
        exact B78 r27.2 _ _ _ hw (lv_sub hl [] rfl) h
      · rw [if_neg hc] at h
        refine lv_iload hx hb dX11_find_33 (lv_at hl 4 rfl) ?_
        refine lv_if_lt (tgt := 78) hx hb dX11_find_35 (by decide) (fun hc => ?_) (fun hc => ?_)
        · rw [if_pos hc] at h
          exact B78 r27.2 _ _ _ hw (lv_sub hl [] rfl) h
        · rw [if_neg hc] at h
          refine lv_aload_n hx hb dX11_find_38 rfl (lv_at hl 0 rfl) ?_
          refine gR (t := 15) hC hw fl_X11_63 ok0 (by decide) ot0_7 dX11_find_39 ?_
          refine gR (t := 16) hC hw fl_X11_301 ok15 (by decide) ot15_0 dX11_find_42 ?_
          refine lv_aload_n hx hb dX11_find_45 rfl (lv_at hl 0 rfl) ?_
          refine gR (t := 15) hC hw fl_X11_63 ok0 (by decide) ot0_7 dX11_find_46 ?_
          refine lv_iload_n hx hb dX11_find_49 rfl (lv_at hl 1 rfl) ?_
          refine lv_iload_n hx hb dX11_find_50 rfl (lv_at hl 2 rfl) ?_
          refine lv_iload hx hb dX11_find_51 (lv_at hl 5 rfl) ?_
          obtain ⟨r53, hr53, h⟩ := bnd h
          refine cV (b := 15) (As := [.int v1, .int v2, .int v6]) (rest := [.ref (g.2.2 16)]) (st1 := [.int r53.1, .ref (g.2.2 16)]) hC hw (c_X7_indexOf l g n v1 v2 v6 r27.2 r53 hr53) ml_X11_282 im_X7_indexOf se_X7_indexOf ok15 (CN := RX7) (T := TX7) (NF := 13) rfl rfl (by decide) rfl hl.1 ⟨Nat.le_of_ble_eq_true rfl, Nat.le_of_ble_eq_true rfl⟩ (Nat.le_of_ble_eq_true rfl) ⟨Nat.zero_le _, Nat.zero_le _⟩ rfl dX11_find_53 (fun H locs hw => ?_)
          obtain ⟨hi56, h⟩ := gd_some h
          refine lI (j := r53.1.toNatClampNeg) hC hw ok16 on16 hi56 rfl dX11_find_56 ?_
          refine lv_iload_n hx hb dX11_find_57 rfl (lv_at hl 3 rfl) ?_
          refine lv_icmp_ne (tgt := 72) hx hb dX11_find_58 (by decide) (fun hc => ?_) (fun hc => ?_)
          · rw [if_neg hc] at h
            exact B72 v5 v6 r53.2 _ _ _ hw (lv_sub hl [0, 1, 2, 3, 4, 5] rfl) h
          · rw [if_pos hc] at h
            refine lv_iload hx hb dX11_find_61 (lv_at hl 4 rfl) ?_
            refine lv_if_ne (tgt := 69) hx hb dX11_find_63 (by decide) (fun hc => ?_) (fun hc => ?_)
            · rw [if_neg hc] at h
              refine lv_iinc (v := (v5 + ((-1) : Int32))) (lv' := [(5, .int (v5 + ((-1) : Int32))), (0, .ref (g.2.2 0)), (1, .int v1), (2, .int v2), (3, .int v3), (6, .int v6)]) hx hb dX11_find_69 hl (k := 4) rfl rfl (by decide) rfl (fun ls hl => ?_)
              exact B72 (v5 + ((-1) : Int32)) v6 r53.2 _ _ _ hw (lv_sub hl [1, 2, 3, 4, 0, 5] rfl) h
            · rw [if_pos hc] at h
              refine lv_iload hx hb dX11_find_66 (lv_at hl 5 rfl) ?_
              exact rI hC hw hr hlocks (by rw [(inlI h).1]) (inlI h).2 dX11_find_68
  refine lv_iload_n hx hb dX11_find_0 rfl (lv_at hl 1 rfl) ?_
  obtain ⟨r1, m1, hr1, h⟩ := thr_rt h
  refine cS (As := [.int v1]) (rest := []) (st1 := []) hC hw (c_X11_needSide l g n v1 μ (r1, m1) hr1) ml_X11_146 st_X11_needSide rfl hl.1 ⟨Nat.le_of_ble_eq_true rfl, Nat.le_of_ble_eq_true rfl⟩ (Nat.le_of_ble_eq_true rfl) ⟨Nat.zero_le _, Nat.zero_le _⟩ rfl dX11_find_1 (fun H locs hw => ?_)
  refine lv_iload_n hx hb dX11_find_4 rfl (lv_at hl 2 rfl) ?_
  obtain ⟨r5, m5, hr5, h⟩ := thr_rt h
  refine cS (As := [.int v2]) (rest := []) (st1 := []) hC hw (c_X11_needSeeds l g n v2 m1 (r5, m5) hr5) ml_X11_229 st_X11_needSeeds rfl hl.1 ⟨Nat.le_of_ble_eq_true rfl, Nat.le_of_ble_eq_true rfl⟩ (Nat.le_of_ble_eq_true rfl) ⟨Nat.zero_le _, Nat.zero_le _⟩ rfl dX11_find_5 (fun H locs hw => ?_)
  refine lv_aload_n hx hb dX11_find_8 rfl (lv_at hl 0 rfl) ?_
  refine lv_iload_n hx hb dX11_find_9 rfl (lv_at hl 2 rfl) ?_
  obtain ⟨r10, m10, hr10, h⟩ := thr_rt h
  refine cV (b := 0) (As := [.int v2]) (rest := []) (st1 := []) hC hw (c_X11_needSolved l g n v2 m5 (r10, m10) hr10) ml_X11_279 im_X11_needSolved se_X11_needSolved ok0 (CN := RX11) (T := TX11) (NF := 12) rfl rfl (by decide) rfl hl.1 ⟨Nat.le_of_ble_eq_true rfl, Nat.le_of_ble_eq_true rfl⟩ (Nat.le_of_ble_eq_true rfl) ⟨Nat.zero_le _, Nat.zero_le _⟩ rfl dX11_find_10 (fun H locs hw => ?_)
  refine lv_iload hx hb dX11_find_13 (lv_at hl 4 rfl) ?_
  refine lv_istore (lv' := [(5, .int v4), (0, .ref (g.2.2 0)), (1, .int v1), (2, .int v2), (3, .int v3), (4, .int v4)]) hx hb dX11_find_15 hl (by decide) rfl (fun ls hl => ?_)
  refine lv_iconst (v := (0 : Int32)) hx hb dX11_find_17 (by decide) ?_
  refine lv_istore (lv' := [(6, .int (0 : Int32)), (5, .int v4), (0, .ref (g.2.2 0)), (1, .int v1), (2, .int v2), (3, .int v3), (4, .int v4)]) hx hb dX11_find_18 hl (by decide) rfl (fun ls hl => ?_)
  exact B20 n v4 (0 : Int32) m10 _ _ _ hw (lv_sub hl [2, 3, 4, 5, 1, 0] rfl) h
set_option maxRecDepth 100000 in
set_option maxHeartbeats 4000000 in
theorem x_X11_find (l : Launch) (hst : l.stackTraces = false) (g : Gw) (n : Nat) (v1 : Int32) (v2 : Int32) (v3 : Int32) (v4 : Int32) (μ : Mu) (kx : Nat) (μx : Mu) (h : X11_find n v1 v2 v3 v4 μ = some (Sum.inr kx, μx)) : CtX l g yX11_find cX11_find 7 (some .int) 7 [.ref (g.2.2 0), .int v1, .int v2, .int v3, .int v4] μ kx μx := by
  rw [X11_find] at h
  refine CtX.of (by decide) (Nat.le_of_ble_eq_true rfl) ?_
  intro p e s m args below meth c ls hC hw htab hlocks hl
  have hx := hC.1
  have hb := hC.2.1
  have hl : lv_has ls 7 [(0, .ref (g.2.2 0)), (1, .int v1), (2, .int v2), (3, .int v3), (4, .int v4)] := hl
  have B78 : ∀ (μ : Mu) (H : Heap) (locs : List Loc) (ls : Array Slot), wd g μ s (Aw g s.heap.size) H locs → lv_has ls 7 [] → X11_find_78 n v1 v2 v3 v4  μ = some (Sum.inr kx, μx) → WX p l e (rmX 7) s m args below meth c g kx μx H locs (F0 m 78 ls []) := by
    intro μ H locs ls hw hl h
    rw [X11_find_78] at h
    refine lv_iconst (v := ((-1) : Int32)) hx hb dX11_find_78 (by decide) ?_
    cases h
  have B20 : ∀ (k : Nat), ∀ (v5 : Int32) (v6 : Int32) (μ : Mu) (H : Heap) (locs : List Loc) (ls : Array Slot), wd g μ s (Aw g s.heap.size) H locs → lv_has ls 7 [(0, .ref (g.2.2 0)), (1, .int v1), (2, .int v2), (3, .int v3), (5, .int v5), (6, .int v6)] → lpF (fun _ _ _ => none) (X11_find_20b n v1 v2 v3 v4) k v5 v6 μ = some (Sum.inr kx, μx) → WX p l e (rmX 7) s m args below meth c g kx μx H locs (F0 m 20 ls []) := by
    intro k
    induction k with
    | zero =>
      intro v5 v6 μ H locs ls hw hl h
      cases h
    | succ k ih20 =>
      rw [lpF_s]
      generalize lpF (fun _ _ _ => none) (X11_find_20b n v1 v2 v3 v4) k = k20 at ih20 ⊢
      intro v5 v6 μ H locs ls hw hl h
      have B72 : ∀ (v5 : Int32) (v6 : Int32) (μ : Mu) (H : Heap) (locs : List Loc) (ls : Array Slot), wd g μ s (Aw g s.heap.size) H locs → lv_has ls 7 [(0, .ref (g.2.2 0)), (1, .int v1), (2, .int v2), (3, .int v3), (5, .int v5), (6, .int v6)] → X11_find_72 n v1 v2 v3 v4 k20 v5 v6 μ = some (Sum.inr kx, μx) → WX p l e (rmX 7) s m args below meth c g kx μx H locs (F0 m 72 ls []) := by
        intro v5 v6 μ H locs ls hw hl h
        rw [X11_find_72] at h
        refine lv_iinc (v := (v6 + (1 : Int32))) (lv' := [(6, .int (v6 + (1 : Int32))), (0, .ref (g.2.2 0)), (1, .int v1), (2, .int v2), (3, .int v3), (5, .int v5)]) hx hb dX11_find_72 hl (k := 5) rfl rfl (by decide) rfl (fun ls hl => ?_)
        refine lv_goto (tgt := 20) hx hb dX11_find_75 (by decide) ?_
        exact ih20 v5 (v6 + (1 : Int32)) μ _ _ _ hw (lv_sub hl [1, 2, 3, 4, 5, 0] rfl) h
      rw [X11_find_20b] at h
      refine lv_iload hx hb dX11_find_20 (lv_at hl 5 rfl) ?_
      refine lv_aload_n hx hb dX11_find_22 rfl (lv_at hl 0 rfl) ?_
      refine gR (t := 2) hC hw fl_X11_21 ok0 (by decide) ot0_1 dX11_find_23 ?_
      refine lv_iload_n hx hb dX11_find_26 rfl (lv_at hl 2 rfl) ?_
      obtain ⟨r27, hr27, h⟩ := bnd h
      refine cV (b := 2) (As := [.int v2]) (rest := [.int v6]) (st1 := [.int r27.1, .int v6]) hC hw (c_X1_positionsOf l g n v2 μ r27 hr27) ml_X11_232 im_X1_positionsOf se_X1_positionsOf ok2 (CN := RX1) (T := TX1) (NF := 7) rfl rfl (by decide) rfl hl.1 ⟨Nat.le_of_ble_eq_true rfl, Nat.le_of_ble_eq_true rfl⟩ (Nat.le_of_ble_eq_true rfl) ⟨Nat.zero_le _, Nat.zero_le _⟩ rfl dX11_find_27 (fun H locs hw => ?_)
      refine lv_icmp_ge (tgt := 78) hx hb dX11_find_30 (by decide) (fun hc => ?_) (fun hc => ?_)
      · rw [if_pos hc] at h
        exact B78 r27.2 _ _ _ hw (lv_sub hl [] rfl) h
      · rw [if_neg hc] at h
        refine lv_iload hx hb dX11_find_33 (lv_at hl 4 rfl) ?_
        refine lv_if_lt (tgt := 78) hx hb dX11_find_35 (by decide) (fun hc => ?_) (fun hc => ?_)
        · rw [if_pos hc] at h
          exact B78 r27.2 _ _ _ hw (lv_sub hl [] rfl) h
        · rw [if_neg hc] at h
          refine lv_aload_n hx hb dX11_find_38 rfl (lv_at hl 0 rfl) ?_
          refine gR (t := 15) hC hw fl_X11_63 ok0 (by decide) ot0_7 dX11_find_39 ?_
          refine gR (t := 16) hC hw fl_X11_301 ok15 (by decide) ot15_0 dX11_find_42 ?_
          refine lv_aload_n hx hb dX11_find_45 rfl (lv_at hl 0 rfl) ?_
          refine gR (t := 15) hC hw fl_X11_63 ok0 (by decide) ot0_7 dX11_find_46 ?_
          refine lv_iload_n hx hb dX11_find_49 rfl (lv_at hl 1 rfl) ?_
          refine lv_iload_n hx hb dX11_find_50 rfl (lv_at hl 2 rfl) ?_
          refine lv_iload hx hb dX11_find_51 (lv_at hl 5 rfl) ?_
          obtain ⟨r53, hr53, h⟩ := bnd h
          refine cV (b := 15) (As := [.int v1, .int v2, .int v6]) (rest := [.ref (g.2.2 16)]) (st1 := [.int r53.1, .ref (g.2.2 16)]) hC hw (c_X7_indexOf l g n v1 v2 v6 r27.2 r53 hr53) ml_X11_282 im_X7_indexOf se_X7_indexOf ok15 (CN := RX7) (T := TX7) (NF := 13) rfl rfl (by decide) rfl hl.1 ⟨Nat.le_of_ble_eq_true rfl, Nat.le_of_ble_eq_true rfl⟩ (Nat.le_of_ble_eq_true rfl) ⟨Nat.zero_le _, Nat.zero_le _⟩ rfl dX11_find_53 (fun H locs hw => ?_)
          obtain ⟨hi56, h⟩ := gd_some h
          refine lI (j := r53.1.toNatClampNeg) hC hw ok16 on16 hi56 rfl dX11_find_56 ?_
          refine lv_iload_n hx hb dX11_find_57 rfl (lv_at hl 3 rfl) ?_
          refine lv_icmp_ne (tgt := 72) hx hb dX11_find_58 (by decide) (fun hc => ?_) (fun hc => ?_)
          · rw [if_neg hc] at h
            exact B72 v5 v6 r53.2 _ _ _ hw (lv_sub hl [0, 1, 2, 3, 4, 5] rfl) h
          · rw [if_pos hc] at h
            refine lv_iload hx hb dX11_find_61 (lv_at hl 4 rfl) ?_
            refine lv_if_ne (tgt := 69) hx hb dX11_find_63 (by decide) (fun hc => ?_) (fun hc => ?_)
            · rw [if_neg hc] at h
              refine lv_iinc (v := (v5 + ((-1) : Int32))) (lv' := [(5, .int (v5 + ((-1) : Int32))), (0, .ref (g.2.2 0)), (1, .int v1), (2, .int v2), (3, .int v3), (6, .int v6)]) hx hb dX11_find_69 hl (k := 4) rfl rfl (by decide) rfl (fun ls hl => ?_)
              exact B72 (v5 + ((-1) : Int32)) v6 r53.2 _ _ _ hw (lv_sub hl [1, 2, 3, 4, 0, 5] rfl) h
            · rw [if_pos hc] at h
              refine lv_iload hx hb dX11_find_66 (lv_at hl 5 rfl) ?_
              cases h
  refine lv_iload_n hx hb dX11_find_0 rfl (lv_at hl 1 rfl) ?_
  rcases thr_cs h with ⟨k1x, m1, hr1, h⟩ | ⟨r1, m1, hr1, h⟩
  · rw [(inrI h).1, (inrI h).2] at hr1
    exact cSX (As := [.int v1]) (rest := []) hC hw htab hlocks (x_X11_needSide l hst g n v1 μ kx μx hr1) ml_X11_146 st_X11_needSide rfl hl.1 ⟨Nat.le_of_ble_eq_true rfl, Nat.le_of_ble_eq_true rfl⟩ (Nat.le_of_ble_eq_true rfl) ⟨Nat.le_refl 1, Nat.le_refl 6⟩ dX11_find_1
  refine cS (As := [.int v1]) (rest := []) (st1 := []) hC hw (c_X11_needSide l g n v1 μ (r1, m1) hr1) ml_X11_146 st_X11_needSide rfl hl.1 ⟨Nat.le_of_ble_eq_true rfl, Nat.le_of_ble_eq_true rfl⟩ (Nat.le_of_ble_eq_true rfl) ⟨Nat.zero_le _, Nat.zero_le _⟩ rfl dX11_find_1 (fun H locs hw => ?_)
  refine lv_iload_n hx hb dX11_find_4 rfl (lv_at hl 2 rfl) ?_
  rcases thr_cs h with ⟨k5x, m5, hr5, h⟩ | ⟨r5, m5, hr5, h⟩
  · rw [(inrI h).1, (inrI h).2] at hr5
    exact cSX (As := [.int v2]) (rest := []) hC hw htab hlocks (x_X11_needSeeds l hst g n v2 m1 kx μx hr5) ml_X11_229 st_X11_needSeeds rfl hl.1 ⟨Nat.le_of_ble_eq_true rfl, Nat.le_of_ble_eq_true rfl⟩ (Nat.le_of_ble_eq_true rfl) ⟨Nat.le_refl 1, Nat.le_refl 6⟩ dX11_find_5
  refine cS (As := [.int v2]) (rest := []) (st1 := []) hC hw (c_X11_needSeeds l g n v2 m1 (r5, m5) hr5) ml_X11_229 st_X11_needSeeds rfl hl.1 ⟨Nat.le_of_ble_eq_true rfl, Nat.le_of_ble_eq_true rfl⟩ (Nat.le_of_ble_eq_true rfl) ⟨Nat.zero_le _, Nat.zero_le _⟩ rfl dX11_find_5 (fun H locs hw => ?_)
  refine lv_aload_n hx hb dX11_find_8 rfl (lv_at hl 0 rfl) ?_
  refine lv_iload_n hx hb dX11_find_9 rfl (lv_at hl 2 rfl) ?_
  rcases thr_cs h with ⟨k10x, m10, hr10, h⟩ | ⟨r10, m10, hr10, h⟩
  · rw [(inrI h).1, (inrI h).2] at hr10
    exact cVX (b := 0) (As := [.int v2]) (rest := []) hC hw htab hlocks (x_X11_needSolved l hst g n v2 m5 kx μx hr10) ml_X11_279 im_X11_needSolved se_X11_needSolved ok0 (CN := RX11) (T := TX11) (NF := 12) rfl rfl (by decide) rfl hl.1 ⟨Nat.le_of_ble_eq_true rfl, Nat.le_of_ble_eq_true rfl⟩ (Nat.le_of_ble_eq_true rfl) ⟨Nat.le_refl 1, Nat.le_refl 6⟩ dX11_find_10
  refine cV (b := 0) (As := [.int v2]) (rest := []) (st1 := []) hC hw (c_X11_needSolved l g n v2 m5 (r10, m10) hr10) ml_X11_279 im_X11_needSolved se_X11_needSolved ok0 (CN := RX11) (T := TX11) (NF := 12) rfl rfl (by decide) rfl hl.1 ⟨Nat.le_of_ble_eq_true rfl, Nat.le_of_ble_eq_true rfl⟩ (Nat.le_of_ble_eq_true rfl) ⟨Nat.zero_le _, Nat.zero_le _⟩ rfl dX11_find_10 (fun H locs hw => ?_)
  refine lv_iload hx hb dX11_find_13 (lv_at hl 4 rfl) ?_
  refine lv_istore (lv' := [(5, .int v4), (0, .ref (g.2.2 0)), (1, .int v1), (2, .int v2), (3, .int v3), (4, .int v4)]) hx hb dX11_find_15 hl (by decide) rfl (fun ls hl => ?_)
  refine lv_iconst (v := (0 : Int32)) hx hb dX11_find_17 (by decide) ?_
  refine lv_istore (lv' := [(6, .int (0 : Int32)), (5, .int v4), (0, .ref (g.2.2 0)), (1, .int v1), (2, .int v2), (3, .int v3), (4, .int v4)]) hx hb dX11_find_18 hl (by decide) rfl (fun ls hl => ?_)
  exact B20 n v4 (0 : Int32) m10 _ _ _ hw (lv_sub hl [2, 3, 4, 5, 1, 0] rfl) h
set_option maxRecDepth 100000 in
set_option maxHeartbeats 4000000 in
theorem c_X11_most (l : Launch) (g : Gw) (n : Nat) (v1 : Int32) (v2 : Int32) (v3 : Int32) (μ : Mu) (r : Int32 × Mu) (h : X11_most n v1 v2 v3 μ = some (Sum.inl r.1, r.2)) : Ct l g yX11_most cX11_most 8 (some .int) 7 [.ref (g.2.2 0), .int v1, .int v2, .int v3] μ (some (.int r.1)) r.2 := by
  rw [X11_most] at h
  refine Ct.of (by decide) (Nat.le_of_ble_eq_true rfl) ?_
  intro p e s m args below meth c ls hC hw hr hlocks hl
  have hx := hC.1
  have hb := hC.2.1
  have hl : lv_has ls 8 [(0, .ref (g.2.2 0)), (1, .int v1), (2, .int v2), (3, .int v3)] := hl
  have B17 : ∀ (μ : Mu) (H : Heap) (locs : List Loc) (ls : Array Slot), wd g μ s (Aw g s.heap.size) H locs → lv_has ls 8 [] → X11_most_17 n v1 v2 v3  μ = some (Sum.inl r.1, r.2) → WQ p l e (rmD 7) s m args below meth c g (some (.int r.1)) r.2 H locs (F0 m 17 ls []) := by
    intro μ H locs ls hw hl h
    rw [X11_most_17] at h
    cases h
  have B117 : ∀ (v4 : Int32) (μ : Mu) (H : Heap) (locs : List Loc) (ls : Array Slot), wd g μ s (Aw g s.heap.size) H locs → lv_has ls 8 [(4, .int v4)] → X11_most_117 n v1 v2 v3 v4 μ = some (Sum.inl r.1, r.2) → WQ p l e (rmD 7) s m args below meth c g (some (.int r.1)) r.2 H locs (F0 m 117 ls []) := by
    intro v4 μ H locs ls hw hl h
    rw [X11_most_117] at h
    refine lv_iload hx hb dX11_most_117 (lv_at hl 0 rfl) ?_
    exact rI hC hw hr hlocks (by rw [(inlI h).1]) (inlI h).2 dX11_most_119
  have B133 : ∀ (s0 : Int32) (μ : Mu) (H : Heap) (locs : List Loc) (ls : Array Slot), wd g μ s (Aw g s.heap.size) H locs → lv_has ls 8 [] → X11_most_133 n v1 v2 v3 s0 μ = some (Sum.inl r.1, r.2) → WQ p l e (rmD 7) s m args below meth c g (some (.int r.1)) r.2 H locs (F0 m 133 ls [.int s0]) := by
    intro s0 μ H locs ls hw hl h
    rw [X11_most_133] at h
    exact rI hC hw hr hlocks (by rw [(inlI h).1]) (inlI h).2 dX11_most_133
  have B41 : ∀ (k : Nat), ∀ (v4 : Int32) (v5 : Int32) (v6 : Int32) (μ : Mu) (H : Heap) (locs : List Loc) (ls : Array Slot), wd g μ s (Aw g s.heap.size) H locs → lv_has ls 8 [(0, .ref (g.2.2 0)), (1, .int v1), (2, .int v2), (3, .int v3), (4, .int v4), (5, .int v5), (6, .int v6)] → lpF (fun _ _ _ _ => none) (X11_most_41b n v1 v2 v3) k v4 v5 v6 μ = some (Sum.inl r.1, r.2) → WQ p l e (rmD 7) s m args below meth c g (some (.int r.1)) r.2 H locs (F0 m 41 ls []) := by
    intro k
    induction k with
    | zero =>
      intro v4 v5 v6 μ H locs ls hw hl h
      cases h
    | succ k ih41 =>
      rw [lpF_s]
      generalize lpF (fun _ _ _ _ => none) (X11_most_41b n v1 v2 v3) k = k41 at ih41 ⊢
      intro v4 v5 v6 μ H locs ls hw hl h
      have B98 : ∀ (v4 : Int32) (v5 : Int32) (v6 : Int32) (μ : Mu) (H : Heap) (locs : List Loc) (ls : Array Slot), wd g μ s (Aw g s.heap.size) H locs → lv_has ls 8 [(0, .ref (g.2.2 0)), (1, .int v1), (2, .int v2), (3, .int v3), (4, .int v4), (5, .int v5), (6, .int v6)] → X11_most_98 n v1 v2 v3 k41 v4 v5 v6 μ = some (Sum.inl r.1, r.2) → WQ p l e (rmD 7) s m args below meth c g (some (.int r.1)) r.2 H locs (F0 m 98 ls []) := by
        intro v4 v5 v6 μ H locs ls hw hl h
        rw [X11_most_98] at h
        refine lv_iinc (v := (v6 + (1 : Int32))) (lv' := [(6, .int (v6 + (1 : Int32))), (0, .ref (g.2.2 0)), (1, .int v1), (2, .int v2), (3, .int v3), (4, .int v4), (5, .int v5)]) hx hb dX11_most_98 hl (k := 6) rfl rfl (by decide) rfl (fun ls hl => ?_)
        refine lv_goto (tgt := 41) hx hb dX11_most_101 (by decide) ?_
        exact ih41 v4 v5 (v6 + (1 : Int32)) μ _ _ _ hw (lv_sub hl [1, 2, 3, 4, 5, 6, 0] rfl) h
      have B90 : ∀ (v6 : Int32) (v7 : Int32) (μ : Mu) (H : Heap) (locs : List Loc) (ls : Array Slot), wd g μ s (Aw g s.heap.size) H locs → lv_has ls 8 [(0, .ref (g.2.2 0)), (1, .int v1), (2, .int v2), (3, .int v3), (6, .int v6), (7, .int v7)] → X11_most_90 n v1 v2 v3 k41 v6 v7 μ = some (Sum.inl r.1, r.2) → WQ p l e (rmD 7) s m args below meth c g (some (.int r.1)) r.2 H locs (F0 m 90 ls []) := by
        intro v6 v7 μ H locs ls hw hl h
        rw [X11_most_90] at h
        refine lv_iload hx hb dX11_most_90 (lv_at hl 4 rfl) ?_
        refine lv_istore (lv' := [(4, .int v6), (0, .ref (g.2.2 0)), (1, .int v1), (2, .int v2), (3, .int v3), (6, .int v6), (7, .int v7)]) hx hb dX11_most_92 hl (by decide) rfl (fun ls hl => ?_)
        refine lv_iload hx hb dX11_most_94 (lv_at hl 6 rfl) ?_
        refine lv_istore (lv' := [(5, .int v7), (4, .int v6), (0, .ref (g.2.2 0)), (1, .int v1), (2, .int v2), (3, .int v3), (6, .int v6), (7, .int v7)]) hx hb dX11_most_96 hl (by decide) rfl (fun ls hl => ?_)
        exact B98 v6 v7 v6 μ _ _ _ hw (lv_sub hl [2, 3, 4, 5, 1, 0, 6] rfl) h
      rw [X11_most_41b] at h
      refine lv_iload hx hb dX11_most_41 (lv_at hl 6 rfl) ?_
      refine lv_aload_n hx hb dX11_most_43 rfl (lv_at hl 0 rfl) ?_
      refine gR (t := 2) hC hw fl_X11_21 ok0 (by decide) ot0_1 dX11_most_44 ?_
      refine lv_iload_n hx hb dX11_most_47 rfl (lv_at hl 2 rfl) ?_
      obtain ⟨r48, hr48, h⟩ := bnd h
      refine cV (b := 2) (As := [.int v2]) (rest := [.int v6]) (st1 := [.int r48.1, .int v6]) hC hw (c_X1_positionsOf l g n v2 μ r48 hr48) ml_X11_232 im_X1_positionsOf se_X1_positionsOf ok2 (CN := RX1) (T := TX1) (NF := 7) rfl rfl (by decide) rfl hl.1 ⟨Nat.le_of_ble_eq_true rfl, Nat.le_of_ble_eq_true rfl⟩ (Nat.le_of_ble_eq_true rfl) ⟨Nat.zero_le _, Nat.zero_le _⟩ rfl dX11_most_48 (fun H locs hw => ?_)
      refine lv_icmp_ge (tgt := 104) hx hb dX11_most_51 (by decide) (fun hc => ?_) (fun hc => ?_)
      · rw [if_pos hc] at h
        refine lv_iload hx hb dX11_most_104 (lv_at hl 4 rfl) ?_
        refine lv_iconst (v := ((-1) : Int32)) hx hb dX11_most_106 (by decide) ?_
        refine lv_icmp_eq (tgt := 117) hx hb dX11_most_107 (by decide) (fun hc => ?_) (fun hc => ?_)
        · rw [if_pos hc] at h
          exact B117 v4 r48.2 _ _ _ hw (lv_sub hl [4] rfl) h
        · rw [if_neg hc] at h
          refine lv_iload_n hx hb dX11_most_110 rfl (lv_at hl 3 rfl) ?_
          refine lv_iconst (v := (2 : Int32)) hx hb dX11_most_111 (by decide) ?_
          refine lv_irem hx hb dX11_most_112 (by decide) ?_
          refine lv_iconst (v := (1 : Int32)) hx hb dX11_most_113 (by decide) ?_
          refine lv_icmp_ne (tgt := 120) hx hb dX11_most_114 (by decide) (fun hc => ?_) (fun hc => ?_)
          · rw [if_neg hc] at h
            refine lv_iload_n hx hb dX11_most_120 rfl (lv_at hl 3 rfl) ?_
            refine lv_iconst (v := (2 : Int32)) hx hb dX11_most_121 (by decide) ?_
            refine lv_icmp_ne (tgt := 131) hx hb dX11_most_122 (by decide) (fun hc => ?_) (fun hc => ?_)
            · rw [if_neg hc] at h
              refine lv_iload hx hb dX11_most_131 (lv_at hl 5 rfl) ?_
              exact B133 v5 r48.2 _ _ _ hw (lv_sub hl [] rfl) h
            · rw [if_pos hc] at h
              refine lv_iload hx hb dX11_most_125 (lv_at hl 5 rfl) ?_
              refine lv_ineg hx hb dX11_most_127 ?_
              refine lv_goto (tgt := 133) hx hb dX11_most_128 (by decide) ?_
              exact B133 (-v5) r48.2 _ _ _ hw (lv_sub hl [] rfl) h
          · rw [if_pos hc] at h
            exact B117 v4 r48.2 _ _ _ hw (lv_sub hl [4] rfl) h
      · rw [if_neg hc] at h
        refine lv_aload_n hx hb dX11_most_54 rfl (lv_at hl 0 rfl) ?_
        refine gR (t := 15) hC hw fl_X11_63 ok0 (by decide) ot0_7 dX11_most_55 ?_
        refine lv_aload_n hx hb dX11_most_58 rfl (lv_at hl 0 rfl) ?_
        refine gR (t := 15) hC hw fl_X11_63 ok0 (by decide) ot0_7 dX11_most_59 ?_
        refine lv_iload_n hx hb dX11_most_62 rfl (lv_at hl 1 rfl) ?_
        refine lv_iload_n hx hb dX11_most_63 rfl (lv_at hl 2 rfl) ?_
        refine lv_iload hx hb dX11_most_64 (lv_at hl 6 rfl) ?_
        obtain ⟨r66, hr66, h⟩ := bnd h
        refine cV (b := 15) (As := [.int v1, .int v2, .int v6]) (rest := [.ref (g.2.2 15)]) (st1 := [.int r66.1, .ref (g.2.2 15)]) hC hw (c_X7_indexOf l g n v1 v2 v6 r48.2 r66 hr66) ml_X11_282 im_X7_indexOf se_X7_indexOf ok15 (CN := RX7) (T := TX7) (NF := 13) rfl rfl (by decide) rfl hl.1 ⟨Nat.le_of_ble_eq_true rfl, Nat.le_of_ble_eq_true rfl⟩ (Nat.le_of_ble_eq_true rfl) ⟨Nat.zero_le _, Nat.zero_le _⟩ rfl dX11_most_66 (fun H locs hw => ?_)
        refine lv_iload_n hx hb dX11_most_69 rfl (lv_at hl 3 rfl) ?_
        refine lv_iconst (v := (2 : Int32)) hx hb dX11_most_70 (by decide) ?_
        refine lv_idiv hx hb dX11_most_71 (by decide) ?_
        obtain ⟨r72, hr72, h⟩ := bnd h
        refine cV (b := 15) (As := [.int r66.1, .int (v3 / (2 : Int32))]) (rest := []) (st1 := [.int r72.1]) hC hw (c_X7_measure l g n r66.1 (v3 / (2 : Int32)) r66.2 r72 hr72) ml_X11_304 im_X7_measure se_X7_measure ok15 (CN := RX7) (T := TX7) (NF := 13) rfl rfl (by decide) rfl hl.1 ⟨Nat.le_of_ble_eq_true rfl, Nat.le_of_ble_eq_true rfl⟩ (Nat.le_of_ble_eq_true rfl) ⟨Nat.zero_le _, Nat.zero_le _⟩ rfl dX11_most_72 (fun H locs hw => ?_)
        refine lv_istore (lv' := [(7, .int r72.1), (0, .ref (g.2.2 0)), (1, .int v1), (2, .int v2), (3, .int v3), (4, .int v4), (5, .int v5), (6, .int v6)]) hx hb dX11_most_75 hl (by decide) rfl (fun ls hl => ?_)
        refine lv_iload hx hb dX11_most_77 (lv_at hl 5 rfl) ?_
        refine lv_iconst (v := ((-1) : Int32)) hx hb dX11_most_79 (by decide) ?_
        refine lv_icmp_eq (tgt := 90) hx hb dX11_most_80 (by decide) (fun hc => ?_) (fun hc => ?_)
        · rw [if_pos hc] at h
          exact B90 v6 r72.1 r72.2 _ _ _ hw (lv_sub hl [1, 2, 3, 4, 7, 0] rfl) h
        · rw [if_neg hc] at h
          refine lv_iload hx hb dX11_most_83 (lv_at hl 0 rfl) ?_
          refine lv_iload hx hb dX11_most_85 (lv_at hl 6 rfl) ?_
          refine lv_icmp_le (tgt := 98) hx hb dX11_most_87 (by decide) (fun hc => ?_) (fun hc => ?_)
          · rw [if_pos hc] at h
            exact B98 v4 v5 v6 r72.2 _ _ _ hw (lv_sub hl [1, 2, 3, 4, 5, 6, 7] rfl) h
          · rw [if_neg hc] at h
            exact B90 v6 r72.1 r72.2 _ _ _ hw (lv_sub hl [1, 2, 3, 4, 7, 0] rfl) h
  refine lv_iload_n hx hb dX11_most_0 rfl (lv_at hl 1 rfl) ?_
  obtain ⟨r1, m1, hr1, h⟩ := thr_rt h
  refine cS (As := [.int v1]) (rest := []) (st1 := []) hC hw (c_X11_needSide l g n v1 μ (r1, m1) hr1) ml_X11_146 st_X11_needSide rfl hl.1 ⟨Nat.le_of_ble_eq_true rfl, Nat.le_of_ble_eq_true rfl⟩ (Nat.le_of_ble_eq_true rfl) ⟨Nat.zero_le _, Nat.zero_le _⟩ rfl dX11_most_1 (fun H locs hw => ?_)
  refine lv_iload_n hx hb dX11_most_4 rfl (lv_at hl 2 rfl) ?_
  obtain ⟨r5, m5, hr5, h⟩ := thr_rt h
  refine cS (As := [.int v2]) (rest := []) (st1 := []) hC hw (c_X11_needSeeds l g n v2 m1 (r5, m5) hr5) ml_X11_229 st_X11_needSeeds rfl hl.1 ⟨Nat.le_of_ble_eq_true rfl, Nat.le_of_ble_eq_true rfl⟩ (Nat.le_of_ble_eq_true rfl) ⟨Nat.zero_le _, Nat.zero_le _⟩ rfl dX11_most_5 (fun H locs hw => ?_)
  refine lv_iload_n hx hb dX11_most_8 rfl (lv_at hl 3 rfl) ?_
  refine lv_if_lt (tgt := 17) hx hb dX11_most_9 (by decide) (fun hc => ?_) (fun hc => ?_)
  · rw [if_pos hc] at h
    exact B17 m5 _ _ _ hw (lv_sub hl [] rfl) h
  · rw [if_neg hc] at h
    refine lv_iload_n hx hb dX11_most_12 rfl (lv_at hl 3 rfl) ?_
    refine lv_iconst (v := (5 : Int32)) hx hb dX11_most_13 (by decide) ?_
    refine lv_icmp_le (tgt := 27) hx hb dX11_most_14 (by decide) (fun hc => ?_) (fun hc => ?_)
    · rw [if_pos hc] at h
      refine lv_aload_n hx hb dX11_most_27 rfl (lv_at hl 0 rfl) ?_
      refine lv_iload_n hx hb dX11_most_28 rfl (lv_at hl 2 rfl) ?_
      obtain ⟨r29, m29, hr29, h⟩ := thr_rt h
      refine cV (b := 0) (As := [.int v2]) (rest := []) (st1 := []) hC hw (c_X11_needSolved l g n v2 m5 (r29, m29) hr29) ml_X11_279 im_X11_needSolved se_X11_needSolved ok0 (CN := RX11) (T := TX11) (NF := 12) rfl rfl (by decide) rfl hl.1 ⟨Nat.le_of_ble_eq_true rfl, Nat.le_of_ble_eq_true rfl⟩ (Nat.le_of_ble_eq_true rfl) ⟨Nat.zero_le _, Nat.zero_le _⟩ rfl dX11_most_29 (fun H locs hw => ?_)
      refine lv_iconst (v := ((-1) : Int32)) hx hb dX11_most_32 (by decide) ?_
      refine lv_istore (lv' := [(4, .int ((-1) : Int32)), (0, .ref (g.2.2 0)), (1, .int v1), (2, .int v2), (3, .int v3)]) hx hb dX11_most_33 hl (by decide) rfl (fun ls hl => ?_)
      refine lv_iconst (v := ((-1) : Int32)) hx hb dX11_most_35 (by decide) ?_
      refine lv_istore (lv' := [(5, .int ((-1) : Int32)), (4, .int ((-1) : Int32)), (0, .ref (g.2.2 0)), (1, .int v1), (2, .int v2), (3, .int v3)]) hx hb dX11_most_36 hl (by decide) rfl (fun ls hl => ?_)
      refine lv_iconst (v := (0 : Int32)) hx hb dX11_most_38 (by decide) ?_
      refine lv_istore (lv' := [(6, .int (0 : Int32)), (5, .int ((-1) : Int32)), (4, .int ((-1) : Int32)), (0, .ref (g.2.2 0)), (1, .int v1), (2, .int v2), (3, .int v3)]) hx hb dX11_most_39 hl (by decide) rfl (fun ls hl => ?_)
      exact B41 n ((-1) : Int32) ((-1) : Int32) (0 : Int32) m29 _ _ _ hw (lv_sub hl [3, 4, 5, 6, 2, 1, 0] rfl) h
    · rw [if_neg hc] at h
      exact B17 m5 _ _ _ hw (lv_sub hl [] rfl) h
set_option maxRecDepth 100000 in
set_option maxHeartbeats 4000000 in
theorem x_X11_most (l : Launch) (hst : l.stackTraces = false) (g : Gw) (n : Nat) (v1 : Int32) (v2 : Int32) (v3 : Int32) (μ : Mu) (kx : Nat) (μx : Mu) (h : X11_most n v1 v2 v3 μ = some (Sum.inr kx, μx)) : CtX l g yX11_most cX11_most 8 (some .int) 7 [.ref (g.2.2 0), .int v1, .int v2, .int v3] μ kx μx := by
  rw [X11_most] at h
  refine CtX.of (by decide) (Nat.le_of_ble_eq_true rfl) ?_
  intro p e s m args below meth c ls hC hw htab hlocks hl
  have hx := hC.1
  have hb := hC.2.1
  have hl : lv_has ls 8 [(0, .ref (g.2.2 0)), (1, .int v1), (2, .int v2), (3, .int v3)] := hl
  have B17 : ∀ (μ : Mu) (H : Heap) (locs : List Loc) (ls : Array Slot), wd g μ s (Aw g s.heap.size) H locs → lv_has ls 8 [] → X11_most_17 n v1 v2 v3  μ = some (Sum.inr kx, μx) → WX p l e (rmX 7) s m args below meth c g kx μx H locs (F0 m 17 ls []) := by
    intro μ H locs ls hw hl h
    rw [X11_most_17] at h
    exact thS (rest := []) hC hw hst 20 (by decide) rfl rfl xft1 xnm xcl1 xin1 xat1 hl.1 htab hlocks (by rw [← (inrI h).1]; rfl) (inrI h).2 (Nat.le_of_ble_eq_true rfl) (Nat.le_of_ble_eq_true rfl) dX11_most_17 dX11_most_20 dX11_most_21 dX11_most_23 dX11_most_26
  have B117 : ∀ (v4 : Int32) (μ : Mu) (H : Heap) (locs : List Loc) (ls : Array Slot), wd g μ s (Aw g s.heap.size) H locs → lv_has ls 8 [(4, .int v4)] → X11_most_117 n v1 v2 v3 v4 μ = some (Sum.inr kx, μx) → WX p l e (rmX 7) s m args below meth c g kx μx H locs (F0 m 117 ls []) := by
    intro v4 μ H locs ls hw hl h
    rw [X11_most_117] at h
    refine lv_iload hx hb dX11_most_117 (lv_at hl 0 rfl) ?_
    cases h
  have B133 : ∀ (s0 : Int32) (μ : Mu) (H : Heap) (locs : List Loc) (ls : Array Slot), wd g μ s (Aw g s.heap.size) H locs → lv_has ls 8 [] → X11_most_133 n v1 v2 v3 s0 μ = some (Sum.inr kx, μx) → WX p l e (rmX 7) s m args below meth c g kx μx H locs (F0 m 133 ls [.int s0]) := by
    intro s0 μ H locs ls hw hl h
    rw [X11_most_133] at h
    cases h
  have B41 : ∀ (k : Nat), ∀ (v4 : Int32) (v5 : Int32) (v6 : Int32) (μ : Mu) (H : Heap) (locs : List Loc) (ls : Array Slot), wd g μ s (Aw g s.heap.size) H locs → lv_has ls 8 [(0, .ref (g.2.2 0)), (1, .int v1), (2, .int v2), (3, .int v3), (4, .int v4), (5, .int v5), (6, .int v6)] → lpF (fun _ _ _ _ => none) (X11_most_41b n v1 v2 v3) k v4 v5 v6 μ = some (Sum.inr kx, μx) → WX p l e (rmX 7) s m args below meth c g kx μx H locs (F0 m 41 ls []) := by
    intro k
    induction k with
    | zero =>
      intro v4 v5 v6 μ H locs ls hw hl h
      cases h
    | succ k ih41 =>
      rw [lpF_s]
      generalize lpF (fun _ _ _ _ => none) (X11_most_41b n v1 v2 v3) k = k41 at ih41 ⊢
      intro v4 v5 v6 μ H locs ls hw hl h
      have B98 : ∀ (v4 : Int32) (v5 : Int32) (v6 : Int32) (μ : Mu) (H : Heap) (locs : List Loc) (ls : Array Slot), wd g μ s (Aw g s.heap.size) H locs → lv_has ls 8 [(0, .ref (g.2.2 0)), (1, .int v1), (2, .int v2), (3, .int v3), (4, .int v4), (5, .int v5), (6, .int v6)] → X11_most_98 n v1 v2 v3 k41 v4 v5 v6 μ = some (Sum.inr kx, μx) → WX p l e (rmX 7) s m args below meth c g kx μx H locs (F0 m 98 ls []) := by
        intro v4 v5 v6 μ H locs ls hw hl h
        rw [X11_most_98] at h
        refine lv_iinc (v := (v6 + (1 : Int32))) (lv' := [(6, .int (v6 + (1 : Int32))), (0, .ref (g.2.2 0)), (1, .int v1), (2, .int v2), (3, .int v3), (4, .int v4), (5, .int v5)]) hx hb dX11_most_98 hl (k := 6) rfl rfl (by decide) rfl (fun ls hl => ?_)
        refine lv_goto (tgt := 41) hx hb dX11_most_101 (by decide) ?_
        exact ih41 v4 v5 (v6 + (1 : Int32)) μ _ _ _ hw (lv_sub hl [1, 2, 3, 4, 5, 6, 0] rfl) h
      have B90 : ∀ (v6 : Int32) (v7 : Int32) (μ : Mu) (H : Heap) (locs : List Loc) (ls : Array Slot), wd g μ s (Aw g s.heap.size) H locs → lv_has ls 8 [(0, .ref (g.2.2 0)), (1, .int v1), (2, .int v2), (3, .int v3), (6, .int v6), (7, .int v7)] → X11_most_90 n v1 v2 v3 k41 v6 v7 μ = some (Sum.inr kx, μx) → WX p l e (rmX 7) s m args below meth c g kx μx H locs (F0 m 90 ls []) := by
        intro v6 v7 μ H locs ls hw hl h
        rw [X11_most_90] at h
        refine lv_iload hx hb dX11_most_90 (lv_at hl 4 rfl) ?_
        refine lv_istore (lv' := [(4, .int v6), (0, .ref (g.2.2 0)), (1, .int v1), (2, .int v2), (3, .int v3), (6, .int v6), (7, .int v7)]) hx hb dX11_most_92 hl (by decide) rfl (fun ls hl => ?_)
        refine lv_iload hx hb dX11_most_94 (lv_at hl 6 rfl) ?_
        refine lv_istore (lv' := [(5, .int v7), (4, .int v6), (0, .ref (g.2.2 0)), (1, .int v1), (2, .int v2), (3, .int v3), (6, .int v6), (7, .int v7)]) hx hb dX11_most_96 hl (by decide) rfl (fun ls hl => ?_)
        exact B98 v6 v7 v6 μ _ _ _ hw (lv_sub hl [2, 3, 4, 5, 1, 0, 6] rfl) h
      rw [X11_most_41b] at h
      refine lv_iload hx hb dX11_most_41 (lv_at hl 6 rfl) ?_
      refine lv_aload_n hx hb dX11_most_43 rfl (lv_at hl 0 rfl) ?_
      refine gR (t := 2) hC hw fl_X11_21 ok0 (by decide) ot0_1 dX11_most_44 ?_
      refine lv_iload_n hx hb dX11_most_47 rfl (lv_at hl 2 rfl) ?_
      obtain ⟨r48, hr48, h⟩ := bnd h
      refine cV (b := 2) (As := [.int v2]) (rest := [.int v6]) (st1 := [.int r48.1, .int v6]) hC hw (c_X1_positionsOf l g n v2 μ r48 hr48) ml_X11_232 im_X1_positionsOf se_X1_positionsOf ok2 (CN := RX1) (T := TX1) (NF := 7) rfl rfl (by decide) rfl hl.1 ⟨Nat.le_of_ble_eq_true rfl, Nat.le_of_ble_eq_true rfl⟩ (Nat.le_of_ble_eq_true rfl) ⟨Nat.zero_le _, Nat.zero_le _⟩ rfl dX11_most_48 (fun H locs hw => ?_)
      refine lv_icmp_ge (tgt := 104) hx hb dX11_most_51 (by decide) (fun hc => ?_) (fun hc => ?_)
      · rw [if_pos hc] at h
        refine lv_iload hx hb dX11_most_104 (lv_at hl 4 rfl) ?_
        refine lv_iconst (v := ((-1) : Int32)) hx hb dX11_most_106 (by decide) ?_
        refine lv_icmp_eq (tgt := 117) hx hb dX11_most_107 (by decide) (fun hc => ?_) (fun hc => ?_)
        · rw [if_pos hc] at h
          exact B117 v4 r48.2 _ _ _ hw (lv_sub hl [4] rfl) h
        · rw [if_neg hc] at h
          refine lv_iload_n hx hb dX11_most_110 rfl (lv_at hl 3 rfl) ?_
          refine lv_iconst (v := (2 : Int32)) hx hb dX11_most_111 (by decide) ?_
          refine lv_irem hx hb dX11_most_112 (by decide) ?_
          refine lv_iconst (v := (1 : Int32)) hx hb dX11_most_113 (by decide) ?_
          refine lv_icmp_ne (tgt := 120) hx hb dX11_most_114 (by decide) (fun hc => ?_) (fun hc => ?_)
          · rw [if_neg hc] at h
            refine lv_iload_n hx hb dX11_most_120 rfl (lv_at hl 3 rfl) ?_
            refine lv_iconst (v := (2 : Int32)) hx hb dX11_most_121 (by decide) ?_
            refine lv_icmp_ne (tgt := 131) hx hb dX11_most_122 (by decide) (fun hc => ?_) (fun hc => ?_)
            · rw [if_neg hc] at h
              refine lv_iload hx hb dX11_most_131 (lv_at hl 5 rfl) ?_
              exact B133 v5 r48.2 _ _ _ hw (lv_sub hl [] rfl) h
            · rw [if_pos hc] at h
              refine lv_iload hx hb dX11_most_125 (lv_at hl 5 rfl) ?_
              refine lv_ineg hx hb dX11_most_127 ?_
              refine lv_goto (tgt := 133) hx hb dX11_most_128 (by decide) ?_
              exact B133 (-v5) r48.2 _ _ _ hw (lv_sub hl [] rfl) h
          · rw [if_pos hc] at h
            exact B117 v4 r48.2 _ _ _ hw (lv_sub hl [4] rfl) h
      · rw [if_neg hc] at h
        refine lv_aload_n hx hb dX11_most_54 rfl (lv_at hl 0 rfl) ?_
        refine gR (t := 15) hC hw fl_X11_63 ok0 (by decide) ot0_7 dX11_most_55 ?_
        refine lv_aload_n hx hb dX11_most_58 rfl (lv_at hl 0 rfl) ?_
        refine gR (t := 15) hC hw fl_X11_63 ok0 (by decide) ot0_7 dX11_most_59 ?_
        refine lv_iload_n hx hb dX11_most_62 rfl (lv_at hl 1 rfl) ?_
        refine lv_iload_n hx hb dX11_most_63 rfl (lv_at hl 2 rfl) ?_
        refine lv_iload hx hb dX11_most_64 (lv_at hl 6 rfl) ?_
        obtain ⟨r66, hr66, h⟩ := bnd h
        refine cV (b := 15) (As := [.int v1, .int v2, .int v6]) (rest := [.ref (g.2.2 15)]) (st1 := [.int r66.1, .ref (g.2.2 15)]) hC hw (c_X7_indexOf l g n v1 v2 v6 r48.2 r66 hr66) ml_X11_282 im_X7_indexOf se_X7_indexOf ok15 (CN := RX7) (T := TX7) (NF := 13) rfl rfl (by decide) rfl hl.1 ⟨Nat.le_of_ble_eq_true rfl, Nat.le_of_ble_eq_true rfl⟩ (Nat.le_of_ble_eq_true rfl) ⟨Nat.zero_le _, Nat.zero_le _⟩ rfl dX11_most_66 (fun H locs hw => ?_)
        refine lv_iload_n hx hb dX11_most_69 rfl (lv_at hl 3 rfl) ?_
        refine lv_iconst (v := (2 : Int32)) hx hb dX11_most_70 (by decide) ?_
        refine lv_idiv hx hb dX11_most_71 (by decide) ?_
        obtain ⟨r72, hr72, h⟩ := bnd h
        refine cV (b := 15) (As := [.int r66.1, .int (v3 / (2 : Int32))]) (rest := []) (st1 := [.int r72.1]) hC hw (c_X7_measure l g n r66.1 (v3 / (2 : Int32)) r66.2 r72 hr72) ml_X11_304 im_X7_measure se_X7_measure ok15 (CN := RX7) (T := TX7) (NF := 13) rfl rfl (by decide) rfl hl.1 ⟨Nat.le_of_ble_eq_true rfl, Nat.le_of_ble_eq_true rfl⟩ (Nat.le_of_ble_eq_true rfl) ⟨Nat.zero_le _, Nat.zero_le _⟩ rfl dX11_most_72 (fun H locs hw => ?_)
        refine lv_istore (lv' := [(7, .int r72.1), (0, .ref (g.2.2 0)), (1, .int v1), (2, .int v2), (3, .int v3), (4, .int v4), (5, .int v5), (6, .int v6)]) hx hb dX11_most_75 hl (by decide) rfl (fun ls hl => ?_)
        refine lv_iload hx hb dX11_most_77 (lv_at hl 5 rfl) ?_
        refine lv_iconst (v := ((-1) : Int32)) hx hb dX11_most_79 (by decide) ?_
        refine lv_icmp_eq (tgt := 90) hx hb dX11_most_80 (by decide) (fun hc => ?_) (fun hc => ?_)
        · rw [if_pos hc] at h
          exact B90 v6 r72.1 r72.2 _ _ _ hw (lv_sub hl [1, 2, 3, 4, 7, 0] rfl) h
        · rw [if_neg hc] at h
          refine lv_iload hx hb dX11_most_83 (lv_at hl 0 rfl) ?_
          refine lv_iload hx hb dX11_most_85 (lv_at hl 6 rfl) ?_
          refine lv_icmp_le (tgt := 98) hx hb dX11_most_87 (by decide) (fun hc => ?_) (fun hc => ?_)
          · rw [if_pos hc] at h
            exact B98 v4 v5 v6 r72.2 _ _ _ hw (lv_sub hl [1, 2, 3, 4, 5, 6, 7] rfl) h
          · rw [if_neg hc] at h
            exact B90 v6 r72.1 r72.2 _ _ _ hw (lv_sub hl [1, 2, 3, 4, 7, 0] rfl) h
  refine lv_iload_n hx hb dX11_most_0 rfl (lv_at hl 1 rfl) ?_
  rcases thr_cs h with ⟨k1x, m1, hr1, h⟩ | ⟨r1, m1, hr1, h⟩
  · rw [(inrI h).1, (inrI h).2] at hr1
    exact cSX (As := [.int v1]) (rest := []) hC hw htab hlocks (x_X11_needSide l hst g n v1 μ kx μx hr1) ml_X11_146 st_X11_needSide rfl hl.1 ⟨Nat.le_of_ble_eq_true rfl, Nat.le_of_ble_eq_true rfl⟩ (Nat.le_of_ble_eq_true rfl) ⟨Nat.le_refl 1, Nat.le_refl 6⟩ dX11_most_1
  refine cS (As := [.int v1]) (rest := []) (st1 := []) hC hw (c_X11_needSide l g n v1 μ (r1, m1) hr1) ml_X11_146 st_X11_needSide rfl hl.1 ⟨Nat.le_of_ble_eq_true rfl, Nat.le_of_ble_eq_true rfl⟩ (Nat.le_of_ble_eq_true rfl) ⟨Nat.zero_le _, Nat.zero_le _⟩ rfl dX11_most_1 (fun H locs hw => ?_)
  refine lv_iload_n hx hb dX11_most_4 rfl (lv_at hl 2 rfl) ?_
  rcases thr_cs h with ⟨k5x, m5, hr5, h⟩ | ⟨r5, m5, hr5, h⟩
  · rw [(inrI h).1, (inrI h).2] at hr5
    exact cSX (As := [.int v2]) (rest := []) hC hw htab hlocks (x_X11_needSeeds l hst g n v2 m1 kx μx hr5) ml_X11_229 st_X11_needSeeds rfl hl.1 ⟨Nat.le_of_ble_eq_true rfl, Nat.le_of_ble_eq_true rfl⟩ (Nat.le_of_ble_eq_true rfl) ⟨Nat.le_refl 1, Nat.le_refl 6⟩ dX11_most_5
  refine cS (As := [.int v2]) (rest := []) (st1 := []) hC hw (c_X11_needSeeds l g n v2 m1 (r5, m5) hr5) ml_X11_229 st_X11_needSeeds rfl hl.1 ⟨Nat.le_of_ble_eq_true rfl, Nat.le_of_ble_eq_true rfl⟩ (Nat.le_of_ble_eq_true rfl) ⟨Nat.zero_le _, Nat.zero_le _⟩ rfl dX11_most_5 (fun H locs hw => ?_)
  refine lv_iload_n hx hb dX11_most_8 rfl (lv_at hl 3 rfl) ?_
  refine lv_if_lt (tgt := 17) hx hb dX11_most_9 (by decide) (fun hc => ?_) (fun hc => ?_)
  · rw [if_pos hc] at h
    exact B17 m5 _ _ _ hw (lv_sub hl [] rfl) h
  · rw [if_neg hc] at h
    refine lv_iload_n hx hb dX11_most_12 rfl (lv_at hl 3 rfl) ?_
    refine lv_iconst (v := (5 : Int32)) hx hb dX11_most_13 (by decide) ?_
    refine lv_icmp_le (tgt := 27) hx hb dX11_most_14 (by decide) (fun hc => ?_) (fun hc => ?_)
    · rw [if_pos hc] at h
      refine lv_aload_n hx hb dX11_most_27 rfl (lv_at hl 0 rfl) ?_
      refine lv_iload_n hx hb dX11_most_28 rfl (lv_at hl 2 rfl) ?_
      rcases thr_cs h with ⟨k29x, m29, hr29, h⟩ | ⟨r29, m29, hr29, h⟩
      · rw [(inrI h).1, (inrI h).2] at hr29
        exact cVX (b := 0) (As := [.int v2]) (rest := []) hC hw htab hlocks (x_X11_needSolved l hst g n v2 m5 kx μx hr29) ml_X11_279 im_X11_needSolved se_X11_needSolved ok0 (CN := RX11) (T := TX11) (NF := 12) rfl rfl (by decide) rfl hl.1 ⟨Nat.le_of_ble_eq_true rfl, Nat.le_of_ble_eq_true rfl⟩ (Nat.le_of_ble_eq_true rfl) ⟨Nat.le_refl 1, Nat.le_refl 6⟩ dX11_most_29
      refine cV (b := 0) (As := [.int v2]) (rest := []) (st1 := []) hC hw (c_X11_needSolved l g n v2 m5 (r29, m29) hr29) ml_X11_279 im_X11_needSolved se_X11_needSolved ok0 (CN := RX11) (T := TX11) (NF := 12) rfl rfl (by decide) rfl hl.1 ⟨Nat.le_of_ble_eq_true rfl, Nat.le_of_ble_eq_true rfl⟩ (Nat.le_of_ble_eq_true rfl) ⟨Nat.zero_le _, Nat.zero_le _⟩ rfl dX11_most_29 (fun H locs hw => ?_)
      refine lv_iconst (v := ((-1) : Int32)) hx hb dX11_most_32 (by decide) ?_
      refine lv_istore (lv' := [(4, .int ((-1) : Int32)), (0, .ref (g.2.2 0)), (1, .int v1), (2, .int v2), (3, .int v3)]) hx hb dX11_most_33 hl (by decide) rfl (fun ls hl => ?_)
      refine lv_iconst (v := ((-1) : Int32)) hx hb dX11_most_35 (by decide) ?_
      refine lv_istore (lv' := [(5, .int ((-1) : Int32)), (4, .int ((-1) : Int32)), (0, .ref (g.2.2 0)), (1, .int v1), (2, .int v2), (3, .int v3)]) hx hb dX11_most_36 hl (by decide) rfl (fun ls hl => ?_)
      refine lv_iconst (v := (0 : Int32)) hx hb dX11_most_38 (by decide) ?_
      refine lv_istore (lv' := [(6, .int (0 : Int32)), (5, .int ((-1) : Int32)), (4, .int ((-1) : Int32)), (0, .ref (g.2.2 0)), (1, .int v1), (2, .int v2), (3, .int v3)]) hx hb dX11_most_39 hl (by decide) rfl (fun ls hl => ?_)
      exact B41 n ((-1) : Int32) ((-1) : Int32) (0 : Int32) m29 _ _ _ hw (lv_sub hl [3, 4, 5, 6, 2, 1, 0] rfl) h
    · rw [if_neg hc] at h
      exact B17 m5 _ _ _ hw (lv_sub hl [] rfl) h
set_option maxRecDepth 100000 in
set_option maxHeartbeats 4000000 in
theorem c_X11_line (l : Launch) (g : Gw) (n : Nat) (v1 : Int32) (μ : Mu) (r : Int32 × Mu) (h : X11_line n v1 μ = some (Sum.inl r.1, r.2)) : Ct l g yX11_line cX11_line 2 (some .int) 7 [.ref (g.2.2 0), .int v1] μ (some (.int r.1)) r.2 := by
  rw [X11_line] at h
  refine Ct.of (by decide) (Nat.le_of_ble_eq_true rfl) ?_
  intro p e s m args below meth c ls hC hw hr hlocks hl
  have hx := hC.1
  have hb := hC.2.1
  have hl : lv_has ls 2 [(0, .ref (g.2.2 0)), (1, .int v1)] := hl
  have B98 : ∀ (s0 : Int32) (μ : Mu) (H : Heap) (locs : List Loc) (ls : Array Slot), wd g μ s (Aw g s.heap.size) H locs → lv_has ls 2 [] → X11_line_98 n v1 s0 μ = some (Sum.inl r.1, r.2) → WQ p l e (rmD 7) s m args below meth c g (some (.int r.1)) r.2 H locs (F0 m 98 ls [.int s0]) := by
    intro s0 μ H locs ls hw hl h
    rw [X11_line_98] at h
    exact rI hC hw hr hlocks (by rw [(inlI h).1]) (inlI h).2 dX11_line_98
  have B131 : ∀ (s0 : Int32) (μ : Mu) (H : Heap) (locs : List Loc) (ls : Array Slot), wd g μ s (Aw g s.heap.size) H locs → lv_has ls 2 [] → X11_line_131 n v1 s0 μ = some (Sum.inl r.1, r.2) → WQ p l e (rmD 7) s m args below meth c g (some (.int r.1)) r.2 H locs (F0 m 131 ls [.int s0]) := by
    intro s0 μ H locs ls hw hl h
    rw [X11_line_131] at h
    exact rI hC hw hr hlocks (by rw [(inlI h).1]) (inlI h).2 dX11_line_131
  refine lv_iload_n hx hb dX11_line_0 rfl (lv_at hl 1 rfl) ?_
  refine lv_bipush (v := ((-3) : Int32)) hx hb dX11_line_1 (by decide) ?_
  refine lv_icmp_ge (tgt := 17) hx hb dX11_line_3 (by decide) (fun hc => ?_) (fun hc => ?_)
  · rw [if_pos hc] at h
    refine lv_aload_n hx hb dX11_line_17 rfl (lv_at hl 0 rfl) ?_
    refine lv_aload_n hx hb dX11_line_18 rfl (lv_at hl 0 rfl) ?_
    refine gR (t := 53) hC hw fl_X11_37 ok0 (by decide) ot0_3 dX11_line_19 ?_
    obtain ⟨r22, hr22, h⟩ := bnd h
    refine cV (b := 53) (As := []) (rest := [.ref (g.2.2 0)]) (st1 := [.int r22.1, .ref (g.2.2 0)]) hC hw (c_X6_inPits l g n 53 μ r22 hr22) ml_X11_236 im_X6_inPits se_X6_inPits ok53 (CN := RX6) (T := TX6) (NF := 2) rfl rfl (by decide) rfl hl.1 ⟨Nat.le_of_ble_eq_true rfl, Nat.le_of_ble_eq_true rfl⟩ (Nat.le_of_ble_eq_true rfl) ⟨Nat.zero_le _, Nat.zero_le _⟩ rfl dX11_line_22 (fun H locs hw => ?_)
    obtain ⟨r25, m25, hr25, h⟩ := thr_rt h
    refine cV (b := 0) (As := [.int r22.1]) (rest := []) (st1 := []) hC hw (c_X11_needSolved l g n r22.1 r22.2 (r25, m25) hr25) ml_X11_279 im_X11_needSolved se_X11_needSolved ok0 (CN := RX11) (T := TX11) (NF := 12) rfl rfl (by decide) rfl hl.1 ⟨Nat.le_of_ble_eq_true rfl, Nat.le_of_ble_eq_true rfl⟩ (Nat.le_of_ble_eq_true rfl) ⟨Nat.zero_le _, Nat.zero_le _⟩ rfl dX11_line_25 (fun H locs hw => ?_)
    refine lv_aload_n hx hb dX11_line_28 rfl (lv_at hl 0 rfl) ?_
    refine gR (t := 22) hC hw fl_X11_72 ok0 (by decide) ot0_8 dX11_line_29 ?_
    refine lv_aload_n hx hb dX11_line_32 rfl (lv_at hl 0 rfl) ?_
    refine gR (t := 53) hC hw fl_X11_37 ok0 (by decide) ot0_3 dX11_line_33 ?_
    obtain ⟨r36, hr36, h⟩ := bnd h
    refine cV (b := 22) (As := [.ref (g.2.2 53)]) (rest := []) (st1 := []) hC hw (c_X10_goByBest l g n 53 m25 r36 hr36) ml_X11_309 im_X10_goByBest se_X10_goByBest ok22 (CN := RX10) (T := TX10) (NF := 7) rfl rfl (by decide) rfl hl.1 ⟨Nat.le_of_ble_eq_true rfl, Nat.le_of_ble_eq_true rfl⟩ (Nat.le_of_ble_eq_true rfl) ⟨Nat.zero_le _, Nat.zero_le _⟩ rfl dX11_line_36 (fun H locs hw => ?_)
    refine lv_iload_n hx hb dX11_line_39 rfl (lv_at hl 1 rfl) ?_
    by_cases hs40_m3 : v1 = ((-3) : Int32)
    · rw [if_pos hs40_m3] at h
      refine lv_tableIn (off := 28) (tgt := 68) hx hb dX11_line_40 (by rw [hs40_m3]; decide) (by rw [hs40_m3]; decide) (by rw [hs40_m3]; decide) (by decide) ?_
      refine lv_aload_n hx hb dX11_line_68 rfl (lv_at hl 0 rfl) ?_
      refine gR (t := 6) hC hw fl_X11_30 ok0 (by decide) ot0_2 dX11_line_69 ?_
      refine lv_aload_n hx hb dX11_line_72 rfl (lv_at hl 0 rfl) ?_
      refine gR (t := 22) hC hw fl_X11_72 ok0 (by decide) ot0_8 dX11_line_73 ?_
      refine gR (t := 153) hC hw fl_X11_312 ok22 (by decide) ot22_0 dX11_line_76 ?_
      obtain ⟨r79, hr79, h⟩ := bnd h
      refine cV (b := 6) (As := [.ref (g.2.2 153)]) (rest := []) (st1 := [.int r79.1]) hC hw (c_X8_scoreOf l g n 153 r36.2 r79 hr79) ml_X11_214 im_X8_scoreOf se_X8_scoreOf ok6 (CN := RX8) (T := TX8) (NF := 8) rfl rfl (by decide) rfl hl.1 ⟨Nat.le_of_ble_eq_true rfl, Nat.le_of_ble_eq_true rfl⟩ (Nat.le_of_ble_eq_true rfl) ⟨Nat.zero_le _, Nat.zero_le _⟩ rfl dX11_line_79 (fun H locs hw => ?_)
      exact rI hC hw hr hlocks (by rw [(inlI h).1]) (inlI h).2 dX11_line_82
    rw [if_neg hs40_m3] at h
    by_cases hs40_m2 : v1 = ((-2) : Int32)
    · rw [if_pos hs40_m2] at h
      refine lv_tableIn (off := 43) (tgt := 83) hx hb dX11_line_40 (by rw [hs40_m2]; decide) (by rw [hs40_m2]; decide) (by rw [hs40_m2]; decide) (by decide) ?_
      refine lv_aload_n hx hb dX11_line_83 rfl (lv_at hl 0 rfl) ?_
      refine gR (t := 22) hC hw fl_X11_72 ok0 (by decide) ot0_8 dX11_line_84 ?_
      refine gI hC hw fl_X11_315 ok22 (by decide) dX11_line_87 ?_
      refine lv_if_eq (tgt := 97) hx hb dX11_line_90 (by decide) (fun hc => ?_) (fun hc => ?_)
      · rw [if_pos hc] at h
        refine lv_iconst (v := (0 : Int32)) hx hb dX11_line_97 (by decide) ?_
        exact B98 (0 : Int32) r36.2 _ _ _ hw (lv_sub hl [] rfl) h
      · rw [if_neg hc] at h
        refine lv_iconst (v := (1 : Int32)) hx hb dX11_line_93 (by decide) ?_
        refine lv_goto (tgt := 98) hx hb dX11_line_94 (by decide) ?_
        exact B98 (1 : Int32) r36.2 _ _ _ hw (lv_sub hl [] rfl) h
    rw [if_neg hs40_m2] at h
    by_cases hs40_m1 : v1 = ((-1) : Int32)
    · rw [if_pos hs40_m1] at h
      refine lv_tableIn (off := 59) (tgt := 99) hx hb dX11_line_40 (by rw [hs40_m1]; decide) (by rw [hs40_m1]; decide) (by rw [hs40_m1]; decide) (by decide) ?_
      refine lv_aload_n hx hb dX11_line_99 rfl (lv_at hl 0 rfl) ?_
      refine gR (t := 22) hC hw fl_X11_72 ok0 (by decide) ot0_8 dX11_line_100 ?_
      refine gI hC hw fl_X11_319 ok22 (by decide) dX11_line_103 ?_
      exact rI hC hw hr hlocks (by rw [(inlI h).1]) (inlI h).2 dX11_line_106
    rw [if_neg hs40_m1] at h
    have htm3 := lv_neT (a := (-3)) hs40_m3 (by decide)
    have htm2 := lv_neT (a := (-2)) hs40_m2 (by decide)
    have htm1 := lv_neT (a := (-1)) hs40_m1 (by decide)
    refine lv_tableOut (tgt := 107) hx hb dX11_line_40 (by omega) (by decide) ?_
    refine lv_iload_n hx hb dX11_line_107 rfl (lv_at hl 1 rfl) ?_
    refine lv_aload_n hx hb dX11_line_108 rfl (lv_at hl 0 rfl) ?_
    refine gR (t := 22) hC hw fl_X11_72 ok0 (by decide) ot0_8 dX11_line_109 ?_
    refine gI hC hw fl_X11_319 ok22 (by decide) dX11_line_112 ?_
    refine lv_icmp_ge (tgt := 130) hx hb dX11_line_115 (by decide) (fun hc => ?_) (fun hc => ?_)
    · rw [if_pos hc] at h
      refine lv_iconst (v := ((-1) : Int32)) hx hb dX11_line_130 (by decide) ?_
      exact B131 ((-1) : Int32) r36.2 _ _ _ hw (lv_sub hl [] rfl) h
    · rw [if_neg hc] at h
      refine lv_aload_n hx hb dX11_line_118 rfl (lv_at hl 0 rfl) ?_
      refine gR (t := 22) hC hw fl_X11_72 ok0 (by decide) ot0_8 dX11_line_119 ?_
      refine gR (t := 23) hC hw fl_X11_320 ok22 (by decide) ot22_1 dX11_line_122 ?_
      refine lv_iload_n hx hb dX11_line_125 rfl (lv_at hl 1 rfl) ?_
      obtain ⟨hi126, h⟩ := gd_some h
      refine lI (j := v1.toNatClampNeg) hC hw ok23 on23 hi126 rfl dX11_line_126 ?_
      refine lv_goto (tgt := 131) hx hb dX11_line_127 (by decide) ?_
      exact B131 (r36.2.1 23 v1.toNatClampNeg) r36.2 _ _ _ hw (lv_sub hl [] rfl) h
  · rw [if_neg hc] at h
    cases h
set_option maxRecDepth 100000 in
set_option maxHeartbeats 4000000 in
theorem x_X11_line (l : Launch) (hst : l.stackTraces = false) (g : Gw) (n : Nat) (v1 : Int32) (μ : Mu) (kx : Nat) (μx : Mu) (h : X11_line n v1 μ = some (Sum.inr kx, μx)) : CtX l g yX11_line cX11_line 2 (some .int) 7 [.ref (g.2.2 0), .int v1] μ kx μx := by
  rw [X11_line] at h
  refine CtX.of (by decide) (Nat.le_of_ble_eq_true rfl) ?_
  intro p e s m args below meth c ls hC hw htab hlocks hl
  have hx := hC.1
  have hb := hC.2.1
  have hl : lv_has ls 2 [(0, .ref (g.2.2 0)), (1, .int v1)] := hl
  have B98 : ∀ (s0 : Int32) (μ : Mu) (H : Heap) (locs : List Loc) (ls : Array Slot), wd g μ s (Aw g s.heap.size) H locs → lv_has ls 2 [] → X11_line_98 n v1 s0 μ = some (Sum.inr kx, μx) → WX p l e (rmX 7) s m args below meth c g kx μx H locs (F0 m 98 ls [.int s0]) := by
    intro s0 μ H locs ls hw hl h
    rw [X11_line_98] at h
    cases h
  have B131 : ∀ (s0 : Int32) (μ : Mu) (H : Heap) (locs : List Loc) (ls : Array Slot), wd g μ s (Aw g s.heap.size) H locs → lv_has ls 2 [] → X11_line_131 n v1 s0 μ = some (Sum.inr kx, μx) → WX p l e (rmX 7) s m args below meth c g kx μx H locs (F0 m 131 ls [.int s0]) := by
    intro s0 μ H locs ls hw hl h
    rw [X11_line_131] at h
    cases h
  refine lv_iload_n hx hb dX11_line_0 rfl (lv_at hl 1 rfl) ?_
  refine lv_bipush (v := ((-3) : Int32)) hx hb dX11_line_1 (by decide) ?_
  refine lv_icmp_ge (tgt := 17) hx hb dX11_line_3 (by decide) (fun hc => ?_) (fun hc => ?_)
  · rw [if_pos hc] at h
    refine lv_aload_n hx hb dX11_line_17 rfl (lv_at hl 0 rfl) ?_
    refine lv_aload_n hx hb dX11_line_18 rfl (lv_at hl 0 rfl) ?_
    refine gR (t := 53) hC hw fl_X11_37 ok0 (by decide) ot0_3 dX11_line_19 ?_
    obtain ⟨r22, hr22, h⟩ := bnd h
    refine cV (b := 53) (As := []) (rest := [.ref (g.2.2 0)]) (st1 := [.int r22.1, .ref (g.2.2 0)]) hC hw (c_X6_inPits l g n 53 μ r22 hr22) ml_X11_236 im_X6_inPits se_X6_inPits ok53 (CN := RX6) (T := TX6) (NF := 2) rfl rfl (by decide) rfl hl.1 ⟨Nat.le_of_ble_eq_true rfl, Nat.le_of_ble_eq_true rfl⟩ (Nat.le_of_ble_eq_true rfl) ⟨Nat.zero_le _, Nat.zero_le _⟩ rfl dX11_line_22 (fun H locs hw => ?_)
    rcases thr_cs h with ⟨k25x, m25, hr25, h⟩ | ⟨r25, m25, hr25, h⟩
    · rw [(inrI h).1, (inrI h).2] at hr25
      exact cVX (b := 0) (As := [.int r22.1]) (rest := []) hC hw htab hlocks (x_X11_needSolved l hst g n r22.1 r22.2 kx μx hr25) ml_X11_279 im_X11_needSolved se_X11_needSolved ok0 (CN := RX11) (T := TX11) (NF := 12) rfl rfl (by decide) rfl hl.1 ⟨Nat.le_of_ble_eq_true rfl, Nat.le_of_ble_eq_true rfl⟩ (Nat.le_of_ble_eq_true rfl) ⟨Nat.le_refl 1, Nat.le_refl 6⟩ dX11_line_25
    refine cV (b := 0) (As := [.int r22.1]) (rest := []) (st1 := []) hC hw (c_X11_needSolved l g n r22.1 r22.2 (r25, m25) hr25) ml_X11_279 im_X11_needSolved se_X11_needSolved ok0 (CN := RX11) (T := TX11) (NF := 12) rfl rfl (by decide) rfl hl.1 ⟨Nat.le_of_ble_eq_true rfl, Nat.le_of_ble_eq_true rfl⟩ (Nat.le_of_ble_eq_true rfl) ⟨Nat.zero_le _, Nat.zero_le _⟩ rfl dX11_line_25 (fun H locs hw => ?_)
    refine lv_aload_n hx hb dX11_line_28 rfl (lv_at hl 0 rfl) ?_
    refine gR (t := 22) hC hw fl_X11_72 ok0 (by decide) ot0_8 dX11_line_29 ?_
    refine lv_aload_n hx hb dX11_line_32 rfl (lv_at hl 0 rfl) ?_
    refine gR (t := 53) hC hw fl_X11_37 ok0 (by decide) ot0_3 dX11_line_33 ?_
    obtain ⟨r36, hr36, h⟩ := bnd h
    refine cV (b := 22) (As := [.ref (g.2.2 53)]) (rest := []) (st1 := []) hC hw (c_X10_goByBest l g n 53 m25 r36 hr36) ml_X11_309 im_X10_goByBest se_X10_goByBest ok22 (CN := RX10) (T := TX10) (NF := 7) rfl rfl (by decide) rfl hl.1 ⟨Nat.le_of_ble_eq_true rfl, Nat.le_of_ble_eq_true rfl⟩ (Nat.le_of_ble_eq_true rfl) ⟨Nat.zero_le _, Nat.zero_le _⟩ rfl dX11_line_36 (fun H locs hw => ?_)
    refine lv_iload_n hx hb dX11_line_39 rfl (lv_at hl 1 rfl) ?_
    by_cases hs40_m3 : v1 = ((-3) : Int32)
    · rw [if_pos hs40_m3] at h
      refine lv_tableIn (off := 28) (tgt := 68) hx hb dX11_line_40 (by rw [hs40_m3]; decide) (by rw [hs40_m3]; decide) (by rw [hs40_m3]; decide) (by decide) ?_
      refine lv_aload_n hx hb dX11_line_68 rfl (lv_at hl 0 rfl) ?_
      refine gR (t := 6) hC hw fl_X11_30 ok0 (by decide) ot0_2 dX11_line_69 ?_
      refine lv_aload_n hx hb dX11_line_72 rfl (lv_at hl 0 rfl) ?_
      refine gR (t := 22) hC hw fl_X11_72 ok0 (by decide) ot0_8 dX11_line_73 ?_
      refine gR (t := 153) hC hw fl_X11_312 ok22 (by decide) ot22_0 dX11_line_76 ?_
      obtain ⟨r79, hr79, h⟩ := bnd h
      refine cV (b := 6) (As := [.ref (g.2.2 153)]) (rest := []) (st1 := [.int r79.1]) hC hw (c_X8_scoreOf l g n 153 r36.2 r79 hr79) ml_X11_214 im_X8_scoreOf se_X8_scoreOf ok6 (CN := RX8) (T := TX8) (NF := 8) rfl rfl (by decide) rfl hl.1 ⟨Nat.le_of_ble_eq_true rfl, Nat.le_of_ble_eq_true rfl⟩ (Nat.le_of_ble_eq_true rfl) ⟨Nat.zero_le _, Nat.zero_le _⟩ rfl dX11_line_79 (fun H locs hw => ?_)
      cases h
    rw [if_neg hs40_m3] at h
    by_cases hs40_m2 : v1 = ((-2) : Int32)
    · rw [if_pos hs40_m2] at h
      refine lv_tableIn (off := 43) (tgt := 83) hx hb dX11_line_40 (by rw [hs40_m2]; decide) (by rw [hs40_m2]; decide) (by rw [hs40_m2]; decide) (by decide) ?_
      refine lv_aload_n hx hb dX11_line_83 rfl (lv_at hl 0 rfl) ?_
      refine gR (t := 22) hC hw fl_X11_72 ok0 (by decide) ot0_8 dX11_line_84 ?_
      refine gI hC hw fl_X11_315 ok22 (by decide) dX11_line_87 ?_
      refine lv_if_eq (tgt := 97) hx hb dX11_line_90 (by decide) (fun hc => ?_) (fun hc => ?_)
      · rw [if_pos hc] at h
        refine lv_iconst (v := (0 : Int32)) hx hb dX11_line_97 (by decide) ?_
        exact B98 (0 : Int32) r36.2 _ _ _ hw (lv_sub hl [] rfl) h
      · rw [if_neg hc] at h
        refine lv_iconst (v := (1 : Int32)) hx hb dX11_line_93 (by decide) ?_
        refine lv_goto (tgt := 98) hx hb dX11_line_94 (by decide) ?_
        exact B98 (1 : Int32) r36.2 _ _ _ hw (lv_sub hl [] rfl) h
    rw [if_neg hs40_m2] at h
    by_cases hs40_m1 : v1 = ((-1) : Int32)
    · rw [if_pos hs40_m1] at h
      refine lv_tableIn (off := 59) (tgt := 99) hx hb dX11_line_40 (by rw [hs40_m1]; decide) (by rw [hs40_m1]; decide) (by rw [hs40_m1]; decide) (by decide) ?_
      refine lv_aload_n hx hb dX11_line_99 rfl (lv_at hl 0 rfl) ?_
      refine gR (t := 22) hC hw fl_X11_72 ok0 (by decide) ot0_8 dX11_line_100 ?_
      refine gI hC hw fl_X11_319 ok22 (by decide) dX11_line_103 ?_
      cases h
    rw [if_neg hs40_m1] at h
    have htm3 := lv_neT (a := (-3)) hs40_m3 (by decide)
    have htm2 := lv_neT (a := (-2)) hs40_m2 (by decide)
    have htm1 := lv_neT (a := (-1)) hs40_m1 (by decide)
    refine lv_tableOut (tgt := 107) hx hb dX11_line_40 (by omega) (by decide) ?_
    refine lv_iload_n hx hb dX11_line_107 rfl (lv_at hl 1 rfl) ?_
    refine lv_aload_n hx hb dX11_line_108 rfl (lv_at hl 0 rfl) ?_
    refine gR (t := 22) hC hw fl_X11_72 ok0 (by decide) ot0_8 dX11_line_109 ?_
    refine gI hC hw fl_X11_319 ok22 (by decide) dX11_line_112 ?_
    refine lv_icmp_ge (tgt := 130) hx hb dX11_line_115 (by decide) (fun hc => ?_) (fun hc => ?_)
    · rw [if_pos hc] at h
      refine lv_iconst (v := ((-1) : Int32)) hx hb dX11_line_130 (by decide) ?_
      exact B131 ((-1) : Int32) r36.2 _ _ _ hw (lv_sub hl [] rfl) h
    · rw [if_neg hc] at h
      refine lv_aload_n hx hb dX11_line_118 rfl (lv_at hl 0 rfl) ?_
      refine gR (t := 22) hC hw fl_X11_72 ok0 (by decide) ot0_8 dX11_line_119 ?_
      refine gR (t := 23) hC hw fl_X11_320 ok22 (by decide) ot22_1 dX11_line_122 ?_
      refine lv_iload_n hx hb dX11_line_125 rfl (lv_at hl 1 rfl) ?_
      obtain ⟨hi126, h⟩ := gd_some h
      refine lI (j := v1.toNatClampNeg) hC hw ok23 on23 hi126 rfl dX11_line_126 ?_
      refine lv_goto (tgt := 131) hx hb dX11_line_127 (by decide) ?_
      exact B131 (r36.2.1 23 v1.toNatClampNeg) r36.2 _ _ _ hw (lv_sub hl [] rfl) h
  · rw [if_neg hc] at h
    exact thSW (rest := []) hC hw hst 26 (by decide) rfl rfl xft1 xnm xcl1 xin1 xat1 hl.1 htab hlocks (by rw [← (inrI h).1]; rfl) (inrI h).2 (Nat.le_of_ble_eq_true rfl) (Nat.le_of_ble_eq_true rfl) dX11_line_6 dX11_line_9 dX11_line_10 dX11_line_13 dX11_line_16
set_option maxRecDepth 100000 in
set_option maxHeartbeats 4000000 in
theorem c_X11_plays (l : Launch) (g : Gw) (n : Nat) (v1 : Int32) (μ : Mu) (r : Int32 × Mu) (h : X11_plays n v1 μ = some (Sum.inl r.1, r.2)) : Ct l g yX11_plays cX11_plays 2 (some .int) 15 [.ref (g.2.2 0), .int v1] μ (some (.int r.1)) r.2 := by
  rw [X11_plays] at h
  refine Ct.of (by decide) (Nat.le_of_ble_eq_true rfl) ?_
  intro p e s m args below meth c ls hC hw hr hlocks hl
  have hx := hC.1
  have hb := hC.2.1
  have hl : lv_has ls 2 [(0, .ref (g.2.2 0)), (1, .int v1)] := hl
  have B9 : ∀ (μ : Mu) (H : Heap) (locs : List Loc) (ls : Array Slot), wd g μ s (Aw g s.heap.size) H locs → lv_has ls 2 [] → X11_plays_9 n v1  μ = some (Sum.inl r.1, r.2) → WQ p l e (rmD 15) s m args below meth c g (some (.int r.1)) r.2 H locs (F0 m 9 ls []) := by
    intro μ H locs ls hw hl h
    rw [X11_plays_9] at h
    cases h
  refine lv_iload_n hx hb dX11_plays_0 rfl (lv_at hl 1 rfl) ?_
  refine lv_if_lt (tgt := 9) hx hb dX11_plays_1 (by decide) (fun hc => ?_) (fun hc => ?_)
  · rw [if_pos hc] at h
    exact B9 μ _ _ _ hw (lv_sub hl [] rfl) h
  · rw [if_neg hc] at h
    refine lv_iload_n hx hb dX11_plays_4 rfl (lv_at hl 1 rfl) ?_
    refine lv_iconst (v := (5 : Int32)) hx hb dX11_plays_5 (by decide) ?_
    refine lv_icmp_le (tgt := 20) hx hb dX11_plays_6 (by decide) (fun hc => ?_) (fun hc => ?_)
    · rw [if_pos hc] at h
      refine lv_aload_n hx hb dX11_plays_20 rfl (lv_at hl 0 rfl) ?_
      refine gR (t := 25) hC hw fl_X11_81 ok0 (by decide) ot0_9 dX11_plays_21 ?_
      refine lv_aload_n hx hb dX11_plays_24 rfl (lv_at hl 0 rfl) ?_
      refine gR (t := 53) hC hw fl_X11_37 ok0 (by decide) ot0_3 dX11_plays_25 ?_
      refine lv_iload_n hx hb dX11_plays_28 rfl (lv_at hl 1 rfl) ?_
      obtain ⟨r29, hr29, h⟩ := bnd h
      refine cV (b := 25) (As := [.ref (g.2.2 53), .int v1]) (rest := []) (st1 := [.int r29.1]) hC hw (c_X0_countFrom l g n 53 v1 μ r29 hr29) ml_X11_325 im_X0_countFrom se_X0_countFrom ok25 (CN := RX0) (T := TX0) (NF := 12) rfl rfl (by decide) rfl hl.1 ⟨Nat.le_of_ble_eq_true rfl, Nat.le_of_ble_eq_true rfl⟩ (Nat.le_of_ble_eq_true rfl) ⟨Nat.zero_le _, Nat.zero_le _⟩ rfl dX11_plays_29 (fun H locs hw => ?_)
      exact rI hC hw hr hlocks (by rw [(inlI h).1]) (inlI h).2 dX11_plays_32
    · rw [if_neg hc] at h
      exact B9 μ _ _ _ hw (lv_sub hl [] rfl) h
set_option maxRecDepth 100000 in
set_option maxHeartbeats 4000000 in
theorem x_X11_plays (l : Launch) (hst : l.stackTraces = false) (g : Gw) (n : Nat) (v1 : Int32) (μ : Mu) (kx : Nat) (μx : Mu) (h : X11_plays n v1 μ = some (Sum.inr kx, μx)) : CtX l g yX11_plays cX11_plays 2 (some .int) 15 [.ref (g.2.2 0), .int v1] μ kx μx := by
  rw [X11_plays] at h
  refine CtX.of (by decide) (Nat.le_of_ble_eq_true rfl) ?_
  intro p e s m args below meth c ls hC hw htab hlocks hl
  have hx := hC.1
  have hb := hC.2.1
  have hl : lv_has ls 2 [(0, .ref (g.2.2 0)), (1, .int v1)] := hl
  have B9 : ∀ (μ : Mu) (H : Heap) (locs : List Loc) (ls : Array Slot), wd g μ s (Aw g s.heap.size) H locs → lv_has ls 2 [] → X11_plays_9 n v1  μ = some (Sum.inr kx, μx) → WX p l e (rmX 15) s m args below meth c g kx μx H locs (F0 m 9 ls []) := by
    intro μ H locs ls hw hl h
    rw [X11_plays_9] at h
    exact thSW (rest := []) hC hw hst 27 (by decide) rfl rfl xft1 xnm xcl1 xin1 xat1 hl.1 htab hlocks (by rw [← (inrI h).1]; rfl) (inrI h).2 (Nat.le_of_ble_eq_true rfl) (Nat.le_of_ble_eq_true rfl) dX11_plays_9 dX11_plays_12 dX11_plays_13 dX11_plays_16 dX11_plays_19
  refine lv_iload_n hx hb dX11_plays_0 rfl (lv_at hl 1 rfl) ?_
  refine lv_if_lt (tgt := 9) hx hb dX11_plays_1 (by decide) (fun hc => ?_) (fun hc => ?_)
  · rw [if_pos hc] at h
    exact B9 μ _ _ _ hw (lv_sub hl [] rfl) h
  · rw [if_neg hc] at h
    refine lv_iload_n hx hb dX11_plays_4 rfl (lv_at hl 1 rfl) ?_
    refine lv_iconst (v := (5 : Int32)) hx hb dX11_plays_5 (by decide) ?_
    refine lv_icmp_le (tgt := 20) hx hb dX11_plays_6 (by decide) (fun hc => ?_) (fun hc => ?_)
    · rw [if_pos hc] at h
      refine lv_aload_n hx hb dX11_plays_20 rfl (lv_at hl 0 rfl) ?_
      refine gR (t := 25) hC hw fl_X11_81 ok0 (by decide) ot0_9 dX11_plays_21 ?_
      refine lv_aload_n hx hb dX11_plays_24 rfl (lv_at hl 0 rfl) ?_
      refine gR (t := 53) hC hw fl_X11_37 ok0 (by decide) ot0_3 dX11_plays_25 ?_
      refine lv_iload_n hx hb dX11_plays_28 rfl (lv_at hl 1 rfl) ?_
      obtain ⟨r29, hr29, h⟩ := bnd h
      refine cV (b := 25) (As := [.ref (g.2.2 53), .int v1]) (rest := []) (st1 := [.int r29.1]) hC hw (c_X0_countFrom l g n 53 v1 μ r29 hr29) ml_X11_325 im_X0_countFrom se_X0_countFrom ok25 (CN := RX0) (T := TX0) (NF := 12) rfl rfl (by decide) rfl hl.1 ⟨Nat.le_of_ble_eq_true rfl, Nat.le_of_ble_eq_true rfl⟩ (Nat.le_of_ble_eq_true rfl) ⟨Nat.zero_le _, Nat.zero_le _⟩ rfl dX11_plays_29 (fun H locs hw => ?_)
      cases h
    · rw [if_neg hc] at h
      exact B9 μ _ _ _ hw (lv_sub hl [] rfl) h
set_option maxRecDepth 100000 in
set_option maxHeartbeats 4000000 in
theorem c_X11_reached (l : Launch) (g : Gw) (n : Nat) (v1 : Int32) (μ : Mu) (r : Int32 × Mu) (h : X11_reached n v1 μ = some (Sum.inl r.1, r.2)) : Ct l g yX11_reached cX11_reached 2 (some .int) 15 [.ref (g.2.2 0), .int v1] μ (some (.int r.1)) r.2 := by
  rw [X11_reached] at h
  refine Ct.of (by decide) (Nat.le_of_ble_eq_true rfl) ?_
  intro p e s m args below meth c ls hC hw hr hlocks hl
  have hx := hC.1
  have hb := hC.2.1
  have hl : lv_has ls 2 [(0, .ref (g.2.2 0)), (1, .int v1)] := hl
  have B9 : ∀ (μ : Mu) (H : Heap) (locs : List Loc) (ls : Array Slot), wd g μ s (Aw g s.heap.size) H locs → lv_has ls 2 [] → X11_reached_9 n v1  μ = some (Sum.inl r.1, r.2) → WQ p l e (rmD 15) s m args below meth c g (some (.int r.1)) r.2 H locs (F0 m 9 ls []) := by
    intro μ H locs ls hw hl h
    rw [X11_reached_9] at h
    cases h
  refine lv_iload_n hx hb dX11_reached_0 rfl (lv_at hl 1 rfl) ?_
  refine lv_if_lt (tgt := 9) hx hb dX11_reached_1 (by decide) (fun hc => ?_) (fun hc => ?_)
  · rw [if_pos hc] at h
    exact B9 μ _ _ _ hw (lv_sub hl [] rfl) h
  · rw [if_neg hc] at h
    refine lv_iload_n hx hb dX11_reached_4 rfl (lv_at hl 1 rfl) ?_
    refine lv_iconst (v := (4 : Int32)) hx hb dX11_reached_5 (by decide) ?_
    refine lv_icmp_le (tgt := 20) hx hb dX11_reached_6 (by decide) (fun hc => ?_) (fun hc => ?_)
    · rw [if_pos hc] at h
      refine lv_aload_n hx hb dX11_reached_20 rfl (lv_at hl 0 rfl) ?_
      refine gR (t := 25) hC hw fl_X11_81 ok0 (by decide) ot0_9 dX11_reached_21 ?_
      refine lv_aload_n hx hb dX11_reached_24 rfl (lv_at hl 0 rfl) ?_
      refine gR (t := 53) hC hw fl_X11_37 ok0 (by decide) ot0_3 dX11_reached_25 ?_
      refine lv_iload_n hx hb dX11_reached_28 rfl (lv_at hl 1 rfl) ?_
      obtain ⟨r29, hr29, h⟩ := bnd h
      refine cV (b := 25) (As := [.ref (g.2.2 53), .int v1]) (rest := []) (st1 := [.int r29.1]) hC hw (c_X0_countUnlike l g n 53 v1 μ r29 hr29) ml_X11_328 im_X0_countUnlike se_X0_countUnlike ok25 (CN := RX0) (T := TX0) (NF := 12) rfl rfl (by decide) rfl hl.1 ⟨Nat.le_of_ble_eq_true rfl, Nat.le_of_ble_eq_true rfl⟩ (Nat.le_of_ble_eq_true rfl) ⟨Nat.zero_le _, Nat.zero_le _⟩ rfl dX11_reached_29 (fun H locs hw => ?_)
      exact rI hC hw hr hlocks (by rw [(inlI h).1]) (inlI h).2 dX11_reached_32
    · rw [if_neg hc] at h
      exact B9 μ _ _ _ hw (lv_sub hl [] rfl) h
set_option maxRecDepth 100000 in
set_option maxHeartbeats 4000000 in
theorem x_X11_reached (l : Launch) (hst : l.stackTraces = false) (g : Gw) (n : Nat) (v1 : Int32) (μ : Mu) (kx : Nat) (μx : Mu) (h : X11_reached n v1 μ = some (Sum.inr kx, μx)) : CtX l g yX11_reached cX11_reached 2 (some .int) 15 [.ref (g.2.2 0), .int v1] μ kx μx := by
  rw [X11_reached] at h
  refine CtX.of (by decide) (Nat.le_of_ble_eq_true rfl) ?_
  intro p e s m args below meth c ls hC hw htab hlocks hl
  have hx := hC.1
  have hb := hC.2.1
  have hl : lv_has ls 2 [(0, .ref (g.2.2 0)), (1, .int v1)] := hl
  have B9 : ∀ (μ : Mu) (H : Heap) (locs : List Loc) (ls : Array Slot), wd g μ s (Aw g s.heap.size) H locs → lv_has ls 2 [] → X11_reached_9 n v1  μ = some (Sum.inr kx, μx) → WX p l e (rmX 15) s m args below meth c g kx μx H locs (F0 m 9 ls []) := by
    intro μ H locs ls hw hl h
    rw [X11_reached_9] at h
    exact thSW (rest := []) hC hw hst 27 (by decide) rfl rfl xft1 xnm xcl1 xin1 xat1 hl.1 htab hlocks (by rw [← (inrI h).1]; rfl) (inrI h).2 (Nat.le_of_ble_eq_true rfl) (Nat.le_of_ble_eq_true rfl) dX11_reached_9 dX11_reached_12 dX11_reached_13 dX11_reached_16 dX11_reached_19
  refine lv_iload_n hx hb dX11_reached_0 rfl (lv_at hl 1 rfl) ?_
  refine lv_if_lt (tgt := 9) hx hb dX11_reached_1 (by decide) (fun hc => ?_) (fun hc => ?_)
  · rw [if_pos hc] at h
    exact B9 μ _ _ _ hw (lv_sub hl [] rfl) h
  · rw [if_neg hc] at h
    refine lv_iload_n hx hb dX11_reached_4 rfl (lv_at hl 1 rfl) ?_
    refine lv_iconst (v := (4 : Int32)) hx hb dX11_reached_5 (by decide) ?_
    refine lv_icmp_le (tgt := 20) hx hb dX11_reached_6 (by decide) (fun hc => ?_) (fun hc => ?_)
    · rw [if_pos hc] at h
      refine lv_aload_n hx hb dX11_reached_20 rfl (lv_at hl 0 rfl) ?_
      refine gR (t := 25) hC hw fl_X11_81 ok0 (by decide) ot0_9 dX11_reached_21 ?_
      refine lv_aload_n hx hb dX11_reached_24 rfl (lv_at hl 0 rfl) ?_
      refine gR (t := 53) hC hw fl_X11_37 ok0 (by decide) ot0_3 dX11_reached_25 ?_
      refine lv_iload_n hx hb dX11_reached_28 rfl (lv_at hl 1 rfl) ?_
      obtain ⟨r29, hr29, h⟩ := bnd h
      refine cV (b := 25) (As := [.ref (g.2.2 53), .int v1]) (rest := []) (st1 := [.int r29.1]) hC hw (c_X0_countUnlike l g n 53 v1 μ r29 hr29) ml_X11_328 im_X0_countUnlike se_X0_countUnlike ok25 (CN := RX0) (T := TX0) (NF := 12) rfl rfl (by decide) rfl hl.1 ⟨Nat.le_of_ble_eq_true rfl, Nat.le_of_ble_eq_true rfl⟩ (Nat.le_of_ble_eq_true rfl) ⟨Nat.zero_le _, Nat.zero_le _⟩ rfl dX11_reached_29 (fun H locs hw => ?_)
      cases h
    · rw [if_neg hc] at h
      exact B9 μ _ _ _ hw (lv_sub hl [] rfl) h
