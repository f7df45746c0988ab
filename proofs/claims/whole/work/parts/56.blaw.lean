set_option maxRecDepth 100000 in
set_option maxHeartbeats 4000000 in
theorem c_L_board (l : Launch) (hst : l.stackTraces = false) (g : Gw) (n : Nat) (v1 : Int32) (μ : Mu) (r : Int32 × Mu) (h : L_board n v1 μ = some r) : CtW l g yL_board cL_board 4 (some .int) [(0, 9, 12, 13)] 9 [.ref (g.2.2 0), .int v1, .ref (g.2.2 201)] μ (some (.int r.1)) r.2 := by
  rw [L_board] at h
  refine CtW.of (by decide) (Nat.le_of_ble_eq_true rfl) ?_
  intro p e s m args below meth c ls hC hw hr hlocks htab hl
  have hx := hC.1
  have hb := hC.2.1
  have hl : lv_has ls 4 [(0, .ref (g.2.2 0)), (1, .int v1), (2, .ref (g.2.2 201))] := hl
  match hq : X11_board n v1 μ, h with
  | some (.inl v, m1), h =>
    refine lv_aload_n hx hb dL_board_0 rfl (lv_at hl 2 rfl) ?_
    refine lv_iconst (v := (0 : Int32)) hx hb dL_board_1 (by decide) ?_
    refine lv_aload_n hx hb dL_board_2 rfl (lv_at hl 0 rfl) ?_
    refine lv_iload_n hx hb dL_board_3 rfl (lv_at hl 1 rfl) ?_
    refine cV (b := 0) (As := [.int v1]) (rest := [.int (0 : Int32), .ref (g.2.2 201)]) (st1 := [.int v, .int (0 : Int32), .ref (g.2.2 201)]) hC hw (c_X11_board l g n v1 μ (v, m1) hq) ml_L_7 im_X11_board se_X11_board ok0 (CN := RX11) (T := TX11) (NF := 12) rfl rfl (by decide) rfl hl.1 ⟨Nat.le_of_ble_eq_true rfl, Nat.le_of_ble_eq_true rfl⟩ (Nat.le_of_ble_eq_true rfl) ⟨Nat.zero_le _, Nat.zero_le _⟩ rfl dL_board_4 (fun H locs hw => ?_)
    refine lv_i2l hx hb dL_board_7 rfl ?_
    refine sJ (j := 0) hC hw ok201 on201 (vin (by decide)) (by decide) dL_board_8 (fun H locs hw => ?_)
    refine lv_goto (tgt := 15) hx hb dL_board_9 (by decide) ?_
    refine lv_iconst (v := 0) hx hb dL_board_15 (by decide) ?_
    exact vx_ret (W.widen (k := 1) (n := 6) (by decide) (by decide) (rI hC hw hr hlocks (by rw [← Option.some.inj h]) (by rw [← Option.some.inj h]) dL_board_16))
  | some (.inr k, m1), h =>
    dsimp only at h
    by_cases hk1 : k = 1
    · subst hk1
      rw [if_pos rfl] at h
      refine lv_aload_n hx hb dL_board_0 rfl (lv_at hl 2 rfl) ?_
      refine lv_iconst (v := (0 : Int32)) hx hb dL_board_1 (by decide) ?_
      refine lv_aload_n hx hb dL_board_2 rfl (lv_at hl 0 rfl) ?_
      refine lv_iload_n hx hb dL_board_3 rfl (lv_at hl 1 rfl) ?_
      refine cVK (b := 0) (As := [.int v1]) (rest := [.int (0 : Int32), .ref (g.2.2 201)]) (k := 1) hC hw (x_X11_board l hst g n v1 μ 1 m1 hq) ml_L_7 im_X11_board se_X11_board ok0 (CN := RX11) (T := TX11) (NF := 12) rfl rfl (by decide) rfl hl.1 ⟨Nat.le_of_ble_eq_true rfl, Nat.le_of_ble_eq_true rfl⟩ (Nat.le_of_ble_eq_true rfl) ⟨Nat.le_refl 1, Nat.le_refl 6⟩ dL_board_4 (fun ce q H locs hw hce hcv hcl => ?_)
      refine vx_catch (own := RL) (name := "java/lang/IllegalArgumentException") (E := exN.getD 1 "") hC.2.2.2.1 [] ⟨0, 9, 12, 13⟩ [] (by rw [htab]; rfl) (fun z hz => nomatch hz) (by decide) (by decide) (hC.2.2.2.2.1 _ (gi4 96 rfl rfl)) (nest_use xcs1 (hC.2.2.2.2.2.1.2.1.1 _ xcs1)) hce hcv hcl ?_
      refine lv_astore_n (lv' := (3, .ref q) :: [(0, .ref (g.2.2 0)), (1, .int v1), (2, .ref (g.2.2 201))]) hx hb dL_board_12 rfl hl (by decide) rfl (fun ls hl => ?_)
      refine lv_iconst (v := 1) hx hb dL_board_13 (by decide) ?_
      exact vx_ret (rI hC hw hr hlocks (by rw [← Option.some.inj h]) (by rw [← Option.some.inj h]) dL_board_14)
    rw [if_neg hk1] at h
    cases h
set_option maxRecDepth 100000 in
set_option maxHeartbeats 4000000 in
theorem c_L_pit (l : Launch) (hst : l.stackTraces = false) (g : Gw) (n : Nat) (v1 : Int32) (μ : Mu) (r : Int32 × Mu) (h : L_pit n v1 μ = some r) : CtW l g yL_pit cL_pit 4 (some .int) [(0, 9, 12, 18)] 7 [.ref (g.2.2 0), .int v1, .ref (g.2.2 201)] μ (some (.int r.1)) r.2 := by
  rw [L_pit] at h
  refine CtW.of (by decide) (Nat.le_of_ble_eq_true rfl) ?_
  intro p e s m args below meth c ls hC hw hr hlocks htab hl
  have hx := hC.1
  have hb := hC.2.1
  have hl : lv_has ls 4 [(0, .ref (g.2.2 0)), (1, .int v1), (2, .ref (g.2.2 201))] := hl
  match hq : X11_pit n v1 μ, h with
  | some (.inl v, m1), h =>
    refine lv_aload_n hx hb dL_pit_0 rfl (lv_at hl 2 rfl) ?_
    refine lv_iconst (v := (0 : Int32)) hx hb dL_pit_1 (by decide) ?_
    refine lv_aload_n hx hb dL_pit_2 rfl (lv_at hl 0 rfl) ?_
    refine lv_iload_n hx hb dL_pit_3 rfl (lv_at hl 1 rfl) ?_
    refine cV (b := 0) (As := [.int v1]) (rest := [.int (0 : Int32), .ref (g.2.2 201)]) (st1 := [.int v, .int (0 : Int32), .ref (g.2.2 201)]) hC hw (c_X11_pit l g n v1 μ (v, m1) hq) ml_L_15 im_X11_pit se_X11_pit ok0 (CN := RX11) (T := TX11) (NF := 12) rfl rfl (by decide) rfl hl.1 ⟨Nat.le_of_ble_eq_true rfl, Nat.le_of_ble_eq_true rfl⟩ (Nat.le_of_ble_eq_true rfl) ⟨Nat.zero_le _, Nat.zero_le _⟩ rfl dL_pit_4 (fun H locs hw => ?_)
    refine lv_i2l hx hb dL_pit_7 rfl ?_
    refine sJ (j := 0) hC hw ok201 on201 (vin (by decide)) (by decide) dL_pit_8 (fun H locs hw => ?_)
    refine lv_goto (tgt := 15) hx hb dL_pit_9 (by decide) ?_
    refine lv_iconst (v := 0) hx hb dL_pit_15 (by decide) ?_
    exact vx_ret (W.widen (k := 1) (n := 6) (by decide) (by decide) (rI hC hw hr hlocks (by rw [← Option.some.inj h]) (by rw [← Option.some.inj h]) dL_pit_16))
  | some (.inr k, m1), h =>
    dsimp only at h
    by_cases hk0 : k = 0
    · subst hk0
      rw [if_pos rfl] at h
      refine lv_aload_n hx hb dL_pit_0 rfl (lv_at hl 2 rfl) ?_
      refine lv_iconst (v := (0 : Int32)) hx hb dL_pit_1 (by decide) ?_
      refine lv_aload_n hx hb dL_pit_2 rfl (lv_at hl 0 rfl) ?_
      refine lv_iload_n hx hb dL_pit_3 rfl (lv_at hl 1 rfl) ?_
      refine cVK (b := 0) (As := [.int v1]) (rest := [.int (0 : Int32), .ref (g.2.2 201)]) (k := 0) hC hw (x_X11_pit l hst g n v1 μ 0 m1 hq) ml_L_15 im_X11_pit se_X11_pit ok0 (CN := RX11) (T := TX11) (NF := 12) rfl rfl (by decide) rfl hl.1 ⟨Nat.le_of_ble_eq_true rfl, Nat.le_of_ble_eq_true rfl⟩ (Nat.le_of_ble_eq_true rfl) ⟨Nat.le_refl 1, Nat.le_refl 6⟩ dL_pit_4 (fun ce q H locs hw hce hcv hcl => ?_)
      refine vx_catch (own := RL) (name := "java/util/NoSuchElementException") (E := exN.getD 0 "") hC.2.2.2.1 [] ⟨0, 9, 12, 18⟩ [] (by rw [htab]; rfl) (fun z hz => nomatch hz) (by decide) (by decide) (hC.2.2.2.2.1 _ (gi5 80 rfl rfl)) (nest_use xcs0 (hC.2.2.2.2.2.1.2.1.1 _ xcs0)) hce hcv hcl ?_
      refine lv_astore_n (lv' := (3, .ref q) :: [(0, .ref (g.2.2 0)), (1, .int v1), (2, .ref (g.2.2 201))]) hx hb dL_pit_12 rfl hl (by decide) rfl (fun ls hl => ?_)
      refine lv_iconst (v := 1) hx hb dL_pit_13 (by decide) ?_
      exact vx_ret (rI hC hw hr hlocks (by rw [← Option.some.inj h]) (by rw [← Option.some.inj h]) dL_pit_14)
    rw [if_neg hk0] at h
    cases h
set_option maxRecDepth 100000 in
set_option maxHeartbeats 4000000 in
theorem c_L_store (l : Launch) (hst : l.stackTraces = false) (g : Gw) (n : Nat) (v1 : Int32) (μ : Mu) (r : Int32 × Mu) (h : L_store n v1 μ = some r) : CtW l g yL_store cL_store 4 (some .int) [(0, 9, 12, 18)] 8 [.ref (g.2.2 0), .int v1, .ref (g.2.2 201)] μ (some (.int r.1)) r.2 := by
  rw [L_store] at h
  refine CtW.of (by decide) (Nat.le_of_ble_eq_true rfl) ?_
  intro p e s m args below meth c ls hC hw hr hlocks htab hl
  have hx := hC.1
  have hb := hC.2.1
  have hl : lv_has ls 4 [(0, .ref (g.2.2 0)), (1, .int v1), (2, .ref (g.2.2 201))] := hl
  match hq : X11_store n v1 μ, h with
  | some (.inl v, m1), h =>
    refine lv_aload_n hx hb dL_store_0 rfl (lv_at hl 2 rfl) ?_
    refine lv_iconst (v := (0 : Int32)) hx hb dL_store_1 (by decide) ?_
    refine lv_aload_n hx hb dL_store_2 rfl (lv_at hl 0 rfl) ?_
    refine lv_iload_n hx hb dL_store_3 rfl (lv_at hl 1 rfl) ?_
    refine cV (b := 0) (As := [.int v1]) (rest := [.int (0 : Int32), .ref (g.2.2 201)]) (st1 := [.int v, .int (0 : Int32), .ref (g.2.2 201)]) hC hw (c_X11_store l g n v1 μ (v, m1) hq) ml_L_20 im_X11_store se_X11_store ok0 (CN := RX11) (T := TX11) (NF := 12) rfl rfl (by decide) rfl hl.1 ⟨Nat.le_of_ble_eq_true rfl, Nat.le_of_ble_eq_true rfl⟩ (Nat.le_of_ble_eq_true rfl) ⟨Nat.zero_le _, Nat.zero_le _⟩ rfl dL_store_4 (fun H locs hw => ?_)
    refine lv_i2l hx hb dL_store_7 rfl ?_
    refine sJ (j := 0) hC hw ok201 on201 (vin (by decide)) (by decide) dL_store_8 (fun H locs hw => ?_)
    refine lv_goto (tgt := 15) hx hb dL_store_9 (by decide) ?_
    refine lv_iconst (v := 0) hx hb dL_store_15 (by decide) ?_
    exact vx_ret (W.widen (k := 1) (n := 6) (by decide) (by decide) (rI hC hw hr hlocks (by rw [← Option.some.inj h]) (by rw [← Option.some.inj h]) dL_store_16))
  | some (.inr k, m1), h =>
    dsimp only at h
    by_cases hk0 : k = 0
    · subst hk0
      rw [if_pos rfl] at h
      refine lv_aload_n hx hb dL_store_0 rfl (lv_at hl 2 rfl) ?_
      refine lv_iconst (v := (0 : Int32)) hx hb dL_store_1 (by decide) ?_
      refine lv_aload_n hx hb dL_store_2 rfl (lv_at hl 0 rfl) ?_
      refine lv_iload_n hx hb dL_store_3 rfl (lv_at hl 1 rfl) ?_
      refine cVK (b := 0) (As := [.int v1]) (rest := [.int (0 : Int32), .ref (g.2.2 201)]) (k := 0) hC hw (x_X11_store l hst g n v1 μ 0 m1 hq) ml_L_20 im_X11_store se_X11_store ok0 (CN := RX11) (T := TX11) (NF := 12) rfl rfl (by decide) rfl hl.1 ⟨Nat.le_of_ble_eq_true rfl, Nat.le_of_ble_eq_true rfl⟩ (Nat.le_of_ble_eq_true rfl) ⟨Nat.le_refl 1, Nat.le_refl 6⟩ dL_store_4 (fun ce q H locs hw hce hcv hcl => ?_)
      refine vx_catch (own := RL) (name := "java/util/NoSuchElementException") (E := exN.getD 0 "") hC.2.2.2.1 [] ⟨0, 9, 12, 18⟩ [] (by rw [htab]; rfl) (fun z hz => nomatch hz) (by decide) (by decide) (hC.2.2.2.2.1 _ (gi5 80 rfl rfl)) (nest_use xcs0 (hC.2.2.2.2.2.1.2.1.1 _ xcs0)) hce hcv hcl ?_
      refine lv_astore_n (lv' := (3, .ref q) :: [(0, .ref (g.2.2 0)), (1, .int v1), (2, .ref (g.2.2 201))]) hx hb dL_store_12 rfl hl (by decide) rfl (fun ls hl => ?_)
      refine lv_iconst (v := 1) hx hb dL_store_13 (by decide) ?_
      exact vx_ret (rI hC hw hr hlocks (by rw [← Option.some.inj h]) (by rw [← Option.some.inj h]) dL_store_14)
    rw [if_neg hk0] at h
    cases h
set_option maxRecDepth 100000 in
set_option maxHeartbeats 4000000 in
theorem c_L_sown (l : Launch) (hst : l.stackTraces = false) (g : Gw) (n : Nat) (v1 : Int32) (v2 : Int32) (μ : Mu) (r : Int32 × Mu) (h : L_sown n v1 v2 μ = some r) : CtW l g yL_sown cL_sown 5 (some .int) [(0, 10, 13, 18), (0, 10, 17, 27), (0, 10, 21, 13)] 7 [.ref (g.2.2 0), .int v1, .int v2, .ref (g.2.2 201)] μ (some (.int r.1)) r.2 := by
  rw [L_sown] at h
  refine CtW.of (by decide) (Nat.le_of_ble_eq_true rfl) ?_
  intro p e s m args below meth c ls hC hw hr hlocks htab hl
  have hx := hC.1
  have hb := hC.2.1
  have hl : lv_has ls 5 [(0, .ref (g.2.2 0)), (1, .int v1), (2, .int v2), (3, .ref (g.2.2 201))] := hl
  match hq : X11_sown n v1 v2 μ, h with
  | some (.inl v, m1), h =>
    refine lv_aload_n hx hb dL_sown_0 rfl (lv_at hl 3 rfl) ?_
    refine lv_iconst (v := (0 : Int32)) hx hb dL_sown_1 (by decide) ?_
    refine lv_aload_n hx hb dL_sown_2 rfl (lv_at hl 0 rfl) ?_
    refine lv_iload_n hx hb dL_sown_3 rfl (lv_at hl 1 rfl) ?_
    refine lv_iload_n hx hb dL_sown_4 rfl (lv_at hl 2 rfl) ?_
    refine cV (b := 0) (As := [.int v1, .int v2]) (rest := [.int (0 : Int32), .ref (g.2.2 201)]) (st1 := [.int v, .int (0 : Int32), .ref (g.2.2 201)]) hC hw (c_X11_sown l g n v1 v2 μ (v, m1) hq) ml_L_23 im_X11_sown se_X11_sown ok0 (CN := RX11) (T := TX11) (NF := 12) rfl rfl (by decide) rfl hl.1 ⟨Nat.le_of_ble_eq_true rfl, Nat.le_of_ble_eq_true rfl⟩ (Nat.le_of_ble_eq_true rfl) ⟨Nat.zero_le _, Nat.zero_le _⟩ rfl dL_sown_5 (fun H locs hw => ?_)
    refine lv_i2l hx hb dL_sown_8 rfl ?_
    refine sJ (j := 0) hC hw ok201 on201 (vin (by decide)) (by decide) dL_sown_9 (fun H locs hw => ?_)
    refine lv_goto (tgt := 25) hx hb dL_sown_10 (by decide) ?_
    refine lv_iconst (v := 0) hx hb dL_sown_25 (by decide) ?_
    exact vx_ret (W.widen (k := 1) (n := 6) (by decide) (by decide) (rI hC hw hr hlocks (by rw [← Option.some.inj h]) (by rw [← Option.some.inj h]) dL_sown_26))
  | some (.inr k, m1), h =>
    dsimp only at h
    by_cases hk0 : k = 0
    · subst hk0
      rw [if_pos rfl] at h
      refine lv_aload_n hx hb dL_sown_0 rfl (lv_at hl 3 rfl) ?_
      refine lv_iconst (v := (0 : Int32)) hx hb dL_sown_1 (by decide) ?_
      refine lv_aload_n hx hb dL_sown_2 rfl (lv_at hl 0 rfl) ?_
      refine lv_iload_n hx hb dL_sown_3 rfl (lv_at hl 1 rfl) ?_
      refine lv_iload_n hx hb dL_sown_4 rfl (lv_at hl 2 rfl) ?_
      refine cVK (b := 0) (As := [.int v1, .int v2]) (rest := [.int (0 : Int32), .ref (g.2.2 201)]) (k := 0) hC hw (x_X11_sown l hst g n v1 v2 μ 0 m1 hq) ml_L_23 im_X11_sown se_X11_sown ok0 (CN := RX11) (T := TX11) (NF := 12) rfl rfl (by decide) rfl hl.1 ⟨Nat.le_of_ble_eq_true rfl, Nat.le_of_ble_eq_true rfl⟩ (Nat.le_of_ble_eq_true rfl) ⟨Nat.le_refl 1, Nat.le_refl 6⟩ dL_sown_5 (fun ce q H locs hw hce hcv hcl => ?_)
      refine vx_catch (own := RL) (name := "java/util/NoSuchElementException") (E := exN.getD 0 "") hC.2.2.2.1 [] ⟨0, 10, 13, 18⟩ [⟨0, 10, 17, 27⟩, ⟨0, 10, 21, 13⟩] (by rw [htab]; rfl) (fun z hz => nomatch hz) (by decide) (by decide) (hC.2.2.2.2.1 _ (gi5 80 rfl rfl)) (nest_use xcs0 (hC.2.2.2.2.2.1.2.1.1 _ xcs0)) hce hcv hcl ?_
      refine lv_astore (lv' := (4, .ref q) :: [(0, .ref (g.2.2 0)), (1, .int v1), (2, .int v2), (3, .ref (g.2.2 201))]) hx hb dL_sown_13 hl (by decide) rfl (fun ls hl => ?_)
      refine lv_iconst (v := 1) hx hb dL_sown_15 (by decide) ?_
      exact vx_ret (rI hC hw hr hlocks (by rw [← Option.some.inj h]) (by rw [← Option.some.inj h]) dL_sown_16)
    by_cases hk2 : k = 2
    · subst hk2
      rw [if_neg (by decide)] at h
      rw [if_pos rfl] at h
      refine lv_aload_n hx hb dL_sown_0 rfl (lv_at hl 3 rfl) ?_
      refine lv_iconst (v := (0 : Int32)) hx hb dL_sown_1 (by decide) ?_
      refine lv_aload_n hx hb dL_sown_2 rfl (lv_at hl 0 rfl) ?_
      refine lv_iload_n hx hb dL_sown_3 rfl (lv_at hl 1 rfl) ?_
      refine lv_iload_n hx hb dL_sown_4 rfl (lv_at hl 2 rfl) ?_
      refine cVK (b := 0) (As := [.int v1, .int v2]) (rest := [.int (0 : Int32), .ref (g.2.2 201)]) (k := 2) hC hw (x_X11_sown l hst g n v1 v2 μ 2 m1 hq) ml_L_23 im_X11_sown se_X11_sown ok0 (CN := RX11) (T := TX11) (NF := 12) rfl rfl (by decide) rfl hl.1 ⟨Nat.le_of_ble_eq_true rfl, Nat.le_of_ble_eq_true rfl⟩ (Nat.le_of_ble_eq_true rfl) ⟨Nat.le_refl 1, Nat.le_refl 6⟩ dL_sown_5 (fun ce q H locs hw hce hcv hcl => ?_)
      refine vx_catch (own := RL) (name := "java/lang/IllegalStateException") (E := exN.getD 2 "") hC.2.2.2.1 [⟨0, 10, 13, 18⟩] ⟨0, 10, 17, 27⟩ [⟨0, 10, 21, 13⟩] (by rw [htab]; rfl) (fun z hz => by
      rcases List.mem_cons.mp hz with rfl | hz
      · exact Or.inr ⟨by decide, "java/util/NoSuchElementException", hC.2.2.2.2.1 _ (gi5 80 rfl rfl), hC.2.2.2.2.2.1.2.1.2 2 0 (by decide) (by decide) (by decide)⟩
      cases hz) (by decide) (by decide) (hC.2.2.2.2.1 _ (gi5 120 rfl rfl)) (nest_use xcs2 (hC.2.2.2.2.2.1.2.1.1 _ xcs2)) hce hcv hcl ?_
      refine lv_astore (lv' := (4, .ref q) :: [(0, .ref (g.2.2 0)), (1, .int v1), (2, .int v2), (3, .ref (g.2.2 201))]) hx hb dL_sown_17 hl (by decide) rfl (fun ls hl => ?_)
      refine lv_iconst (v := 2) hx hb dL_sown_19 (by decide) ?_
      exact vx_ret (rI hC hw hr hlocks (by rw [← Option.some.inj h]) (by rw [← Option.some.inj h]) dL_sown_20)
    by_cases hk1 : k = 1
    · subst hk1
      rw [if_neg (by decide)] at h
      rw [if_neg (by decide)] at h
      rw [if_pos rfl] at h
      refine lv_aload_n hx hb dL_sown_0 rfl (lv_at hl 3 rfl) ?_
      refine lv_iconst (v := (0 : Int32)) hx hb dL_sown_1 (by decide) ?_
      refine lv_aload_n hx hb dL_sown_2 rfl (lv_at hl 0 rfl) ?_
      refine lv_iload_n hx hb dL_sown_3 rfl (lv_at hl 1 rfl) ?_
      refine lv_iload_n hx hb dL_sown_4 rfl (lv_at hl 2 rfl) ?_
      refine cVK (b := 0) (As := [.int v1, .int v2]) (rest := [.int (0 : Int32), .ref (g.2.2 201)]) (k := 1) hC hw (x_X11_sown l hst g n v1 v2 μ 1 m1 hq) ml_L_23 im_X11_sown se_X11_sown ok0 (CN := RX11) (T := TX11) (NF := 12) rfl rfl (by decide) rfl hl.1 ⟨Nat.le_of_ble_eq_true rfl, Nat.le_of_ble_eq_true rfl⟩ (Nat.le_of_ble_eq_true rfl) ⟨Nat.le_refl 1, Nat.le_refl 6⟩ dL_sown_5 (fun ce q H locs hw hce hcv hcl => ?_)
      refine vx_catch (own := RL) (name := "java/lang/IllegalArgumentException") (E := exN.getD 1 "") hC.2.2.2.1 [⟨0, 10, 13, 18⟩, ⟨0, 10, 17, 27⟩] ⟨0, 10, 21, 13⟩ [] (by rw [htab]; rfl) (fun z hz => by
      rcases List.mem_cons.mp hz with rfl | hz
      · exact Or.inr ⟨by decide, "java/util/NoSuchElementException", hC.2.2.2.2.1 _ (gi5 80 rfl rfl), hC.2.2.2.2.2.1.2.1.2 1 0 (by decide) (by decide) (by decide)⟩
      rcases List.mem_cons.mp hz with rfl | hz
      · exact Or.inr ⟨by decide, "java/lang/IllegalStateException", hC.2.2.2.2.1 _ (gi5 120 rfl rfl), hC.2.2.2.2.2.1.2.1.2 1 2 (by decide) (by decide) (by decide)⟩
      cases hz) (by decide) (by decide) (hC.2.2.2.2.1 _ (gi4 96 rfl rfl)) (nest_use xcs1 (hC.2.2.2.2.2.1.2.1.1 _ xcs1)) hce hcv hcl ?_
      refine lv_astore (lv' := (4, .ref q) :: [(0, .ref (g.2.2 0)), (1, .int v1), (2, .int v2), (3, .ref (g.2.2 201))]) hx hb dL_sown_21 hl (by decide) rfl (fun ls hl => ?_)
      refine lv_iconst (v := 3) hx hb dL_sown_23 (by decide) ?_
      exact vx_ret (rI hC hw hr hlocks (by rw [← Option.some.inj h]) (by rw [← Option.some.inj h]) dL_sown_24)
    rw [if_neg hk0] at h
    rw [if_neg hk2] at h
    rw [if_neg hk1] at h
    cases h
set_option maxRecDepth 100000 in
set_option maxHeartbeats 4000000 in
theorem c_L_judge (l : Launch) (hst : l.stackTraces = false) (g : Gw) (n : Nat) (v1 : Int32) (v2 : Int32) (μ : Mu) (r : Int32 × Mu) (h : L_judge n v1 v2 μ = some r) : CtW l g yL_judge cL_judge 5 (some .int) [(0, 10, 13, 18), (0, 10, 17, 27), (0, 10, 21, 13)] 9 [.ref (g.2.2 0), .int v1, .int v2, .ref (g.2.2 201)] μ (some (.int r.1)) r.2 := by
  rw [L_judge] at h
  refine CtW.of (by decide) (Nat.le_of_ble_eq_true rfl) ?_
  intro p e s m args below meth c ls hC hw hr hlocks htab hl
  have hx := hC.1
  have hb := hC.2.1
  have hl : lv_has ls 5 [(0, .ref (g.2.2 0)), (1, .int v1), (2, .int v2), (3, .ref (g.2.2 201))] := hl
  match hq : X11_judge n v1 v2 μ, h with
  | some (.inl v, m1), h =>
    refine lv_aload_n hx hb dL_judge_0 rfl (lv_at hl 3 rfl) ?_
    refine lv_iconst (v := (0 : Int32)) hx hb dL_judge_1 (by decide) ?_
    refine lv_aload_n hx hb dL_judge_2 rfl (lv_at hl 0 rfl) ?_
    refine lv_iload_n hx hb dL_judge_3 rfl (lv_at hl 1 rfl) ?_
    refine lv_iload_n hx hb dL_judge_4 rfl (lv_at hl 2 rfl) ?_
    refine cV (b := 0) (As := [.int v1, .int v2]) (rest := [.int (0 : Int32), .ref (g.2.2 201)]) (st1 := [.int v, .int (0 : Int32), .ref (g.2.2 201)]) hC hw (c_X11_judge l g n v1 v2 μ (v, m1) hq) ml_L_29 im_X11_judge se_X11_judge ok0 (CN := RX11) (T := TX11) (NF := 12) rfl rfl (by decide) rfl hl.1 ⟨Nat.le_of_ble_eq_true rfl, Nat.le_of_ble_eq_true rfl⟩ (Nat.le_of_ble_eq_true rfl) ⟨Nat.zero_le _, Nat.zero_le _⟩ rfl dL_judge_5 (fun H locs hw => ?_)
    refine lv_i2l hx hb dL_judge_8 rfl ?_
    refine sJ (j := 0) hC hw ok201 on201 (vin (by decide)) (by decide) dL_judge_9 (fun H locs hw => ?_)
    refine lv_goto (tgt := 25) hx hb dL_judge_10 (by decide) ?_
    refine lv_iconst (v := 0) hx hb dL_judge_25 (by decide) ?_
    exact vx_ret (W.widen (k := 1) (n := 6) (by decide) (by decide) (rI hC hw hr hlocks (by rw [← Option.some.inj h]) (by rw [← Option.some.inj h]) dL_judge_26))
  | some (.inr k, m1), h =>
    dsimp only at h
    by_cases hk0 : k = 0
    · subst hk0
      rw [if_pos rfl] at h
      refine lv_aload_n hx hb dL_judge_0 rfl (lv_at hl 3 rfl) ?_
      refine lv_iconst (v := (0 : Int32)) hx hb dL_judge_1 (by decide) ?_
      refine lv_aload_n hx hb dL_judge_2 rfl (lv_at hl 0 rfl) ?_
      refine lv_iload_n hx hb dL_judge_3 rfl (lv_at hl 1 rfl) ?_
      refine lv_iload_n hx hb dL_judge_4 rfl (lv_at hl 2 rfl) ?_
      refine cVK (b := 0) (As := [.int v1, .int v2]) (rest := [.int (0 : Int32), .ref (g.2.2 201)]) (k := 0) hC hw (x_X11_judge l hst g n v1 v2 μ 0 m1 hq) ml_L_29 im_X11_judge se_X11_judge ok0 (CN := RX11) (T := TX11) (NF := 12) rfl rfl (by decide) rfl hl.1 ⟨Nat.le_of_ble_eq_true rfl, Nat.le_of_ble_eq_true rfl⟩ (Nat.le_of_ble_eq_true rfl) ⟨Nat.le_refl 1, Nat.le_refl 6⟩ dL_judge_5 (fun ce q H locs hw hce hcv hcl => ?_)
      refine vx_catch (own := RL) (name := "java/util/NoSuchElementException") (E := exN.getD 0 "") hC.2.2.2.1 [] ⟨0, 10, 13, 18⟩ [⟨0, 10, 17, 27⟩, ⟨0, 10, 21, 13⟩] (by rw [htab]; rfl) (fun z hz => nomatch hz) (by decide) (by decide) (hC.2.2.2.2.1 _ (gi5 80 rfl rfl)) (nest_use xcs0 (hC.2.2.2.2.2.1.2.1.1 _ xcs0)) hce hcv hcl ?_
      refine lv_astore (lv' := (4, .ref q) :: [(0, .ref (g.2.2 0)), (1, .int v1), (2, .int v2), (3, .ref (g.2.2 201))]) hx hb dL_judge_13 hl (by decide) rfl (fun ls hl => ?_)
      refine lv_iconst (v := 1) hx hb dL_judge_15 (by decide) ?_
      exact vx_ret (rI hC hw hr hlocks (by rw [← Option.some.inj h]) (by rw [← Option.some.inj h]) dL_judge_16)
    by_cases hk2 : k = 2
    · subst hk2
      rw [if_neg (by decide)] at h
      rw [if_pos rfl] at h
      refine lv_aload_n hx hb dL_judge_0 rfl (lv_at hl 3 rfl) ?_
      refine lv_iconst (v := (0 : Int32)) hx hb dL_judge_1 (by decide) ?_
      refine lv_aload_n hx hb dL_judge_2 rfl (lv_at hl 0 rfl) ?_
      refine lv_iload_n hx hb dL_judge_3 rfl (lv_at hl 1 rfl) ?_
      refine lv_iload_n hx hb dL_judge_4 rfl (lv_at hl 2 rfl) ?_
      refine cVK (b := 0) (As := [.int v1, .int v2]) (rest := [.int (0 : Int32), .ref (g.2.2 201)]) (k := 2) hC hw (x_X11_judge l hst g n v1 v2 μ 2 m1 hq) ml_L_29 im_X11_judge se_X11_judge ok0 (CN := RX11) (T := TX11) (NF := 12) rfl rfl (by decide) rfl hl.1 ⟨Nat.le_of_ble_eq_true rfl, Nat.le_of_ble_eq_true rfl⟩ (Nat.le_of_ble_eq_true rfl) ⟨Nat.le_refl 1, Nat.le_refl 6⟩ dL_judge_5 (fun ce q H locs hw hce hcv hcl => ?_)
      refine vx_catch (own := RL) (name := "java/lang/IllegalStateException") (E := exN.getD 2 "") hC.2.2.2.1 [⟨0, 10, 13, 18⟩] ⟨0, 10, 17, 27⟩ [⟨0, 10, 21, 13⟩] (by rw [htab]; rfl) (fun z hz => by
      rcases List.mem_cons.mp hz with rfl | hz
      · exact Or.inr ⟨by decide, "java/util/NoSuchElementException", hC.2.2.2.2.1 _ (gi5 80 rfl rfl), hC.2.2.2.2.2.1.2.1.2 2 0 (by decide) (by decide) (by decide)⟩
      cases hz) (by decide) (by decide) (hC.2.2.2.2.1 _ (gi5 120 rfl rfl)) (nest_use xcs2 (hC.2.2.2.2.2.1.2.1.1 _ xcs2)) hce hcv hcl ?_
      refine lv_astore (lv' := (4, .ref q) :: [(0, .ref (g.2.2 0)), (1, .int v1), (2, .int v2), (3, .ref (g.2.2 201))]) hx hb dL_judge_17 hl (by decide) rfl (fun ls hl => ?_)
      refine lv_iconst (v := 2) hx hb dL_judge_19 (by decide) ?_
      exact vx_ret (rI hC hw hr hlocks (by rw [← Option.some.inj h]) (by rw [← Option.some.inj h]) dL_judge_20)
    by_cases hk1 : k = 1
    · subst hk1
      rw [if_neg (by decide)] at h
      rw [if_neg (by decide)] at h
      rw [if_pos rfl] at h
      refine lv_aload_n hx hb dL_judge_0 rfl (lv_at hl 3 rfl) ?_
      refine lv_iconst (v := (0 : Int32)) hx hb dL_judge_1 (by decide) ?_
      refine lv_aload_n hx hb dL_judge_2 rfl (lv_at hl 0 rfl) ?_
      refine lv_iload_n hx hb dL_judge_3 rfl (lv_at hl 1 rfl) ?_
      refine lv_iload_n hx hb dL_judge_4 rfl (lv_at hl 2 rfl) ?_
      refine cVK (b := 0) (As := [.int v1, .int v2]) (rest := [.int (0 : Int32), .ref (g.2.2 201)]) (k := 1) hC hw (x_X11_judge l hst g n v1 v2 μ 1 m1 hq) ml_L_29 im_X11_judge se_X11_judge ok0 (CN := RX11) (T := TX11) (NF := 12) rfl rfl (by decide) rfl hl.1 ⟨Nat.le_of_ble_eq_true rfl, Nat.le_of_ble_eq_true rfl⟩ (Nat.le_of_ble_eq_true rfl) ⟨Nat.le_refl 1, Nat.le_refl 6⟩ dL_judge_5 (fun ce q H locs hw hce hcv hcl => ?_)
      refine vx_catch (own := RL) (name := "java/lang/IllegalArgumentException") (E := exN.getD 1 "") hC.2.2.2.1 [⟨0, 10, 13, 18⟩, ⟨0, 10, 17, 27⟩] ⟨0, 10, 21, 13⟩ [] (by rw [htab]; rfl) (fun z hz => by
      rcases List.mem_cons.mp hz with rfl | hz
      · exact Or.inr ⟨by decide, "java/util/NoSuchElementException", hC.2.2.2.2.1 _ (gi5 80 rfl rfl), hC.2.2.2.2.2.1.2.1.2 1 0 (by decide) (by decide) (by decide)⟩
      rcases List.mem_cons.mp hz with rfl | hz
      · exact Or.inr ⟨by decide, "java/lang/IllegalStateException", hC.2.2.2.2.1 _ (gi5 120 rfl rfl), hC.2.2.2.2.2.1.2.1.2 1 2 (by decide) (by decide) (by decide)⟩
      cases hz) (by decide) (by decide) (hC.2.2.2.2.1 _ (gi4 96 rfl rfl)) (nest_use xcs1 (hC.2.2.2.2.2.1.2.1.1 _ xcs1)) hce hcv hcl ?_
      refine lv_astore (lv' := (4, .ref q) :: [(0, .ref (g.2.2 0)), (1, .int v1), (2, .int v2), (3, .ref (g.2.2 201))]) hx hb dL_judge_21 hl (by decide) rfl (fun ls hl => ?_)
      refine lv_iconst (v := 3) hx hb dL_judge_23 (by decide) ?_
      exact vx_ret (rI hC hw hr hlocks (by rw [← Option.some.inj h]) (by rw [← Option.some.inj h]) dL_judge_24)
    rw [if_neg hk0] at h
    rw [if_neg hk2] at h
    rw [if_neg hk1] at h
    cases h
set_option maxRecDepth 100000 in
set_option maxHeartbeats 4000000 in
theorem c_L_perform (l : Launch) (hst : l.stackTraces = false) (g : Gw) (n : Nat) (v1 : Int32) (μ : Mu) (r : Int32 × Mu) (h : L_perform n v1 μ = some r) : CtW l g yL_perform cL_perform 4 (some .int) [(0, 9, 12, 18), (0, 9, 15, 27)] 9 [.ref (g.2.2 0), .int v1, .ref (g.2.2 201)] μ (some (.int r.1)) r.2 := by
  rw [L_perform] at h
  refine CtW.of (by decide) (Nat.le_of_ble_eq_true rfl) ?_
  intro p e s m args below meth c ls hC hw hr hlocks htab hl
  have hx := hC.1
  have hb := hC.2.1
  have hl : lv_has ls 4 [(0, .ref (g.2.2 0)), (1, .int v1), (2, .ref (g.2.2 201))] := hl
  match hq : X11_perform n v1 μ, h with
  | some (.inl v, m1), h =>
    refine lv_aload_n hx hb dL_perform_0 rfl (lv_at hl 2 rfl) ?_
    refine lv_iconst (v := (0 : Int32)) hx hb dL_perform_1 (by decide) ?_
    refine lv_aload_n hx hb dL_perform_2 rfl (lv_at hl 0 rfl) ?_
    refine lv_iload_n hx hb dL_perform_3 rfl (lv_at hl 1 rfl) ?_
    refine cV (b := 0) (As := [.int v1]) (rest := [.int (0 : Int32), .ref (g.2.2 201)]) (st1 := [.int v, .int (0 : Int32), .ref (g.2.2 201)]) hC hw (c_X11_perform l g n v1 μ (v, m1) hq) ml_L_32 im_X11_perform se_X11_perform ok0 (CN := RX11) (T := TX11) (NF := 12) rfl rfl (by decide) rfl hl.1 ⟨Nat.le_of_ble_eq_true rfl, Nat.le_of_ble_eq_true rfl⟩ (Nat.le_of_ble_eq_true rfl) ⟨Nat.zero_le _, Nat.zero_le _⟩ rfl dL_perform_4 (fun H locs hw => ?_)
    refine lv_i2l hx hb dL_perform_7 rfl ?_
    refine sJ (j := 0) hC hw ok201 on201 (vin (by decide)) (by decide) dL_perform_8 (fun H locs hw => ?_)
    refine lv_goto (tgt := 18) hx hb dL_perform_9 (by decide) ?_
    refine lv_iconst (v := 0) hx hb dL_perform_18 (by decide) ?_
    exact vx_ret (W.widen (k := 1) (n := 6) (by decide) (by decide) (rI hC hw hr hlocks (by rw [← Option.some.inj h]) (by rw [← Option.some.inj h]) dL_perform_19))
  | some (.inr k, m1), h =>
    dsimp only at h
    by_cases hk0 : k = 0
    · subst hk0
      rw [if_pos rfl] at h
      refine lv_aload_n hx hb dL_perform_0 rfl (lv_at hl 2 rfl) ?_
      refine lv_iconst (v := (0 : Int32)) hx hb dL_perform_1 (by decide) ?_
      refine lv_aload_n hx hb dL_perform_2 rfl (lv_at hl 0 rfl) ?_
      refine lv_iload_n hx hb dL_perform_3 rfl (lv_at hl 1 rfl) ?_
      refine cVK (b := 0) (As := [.int v1]) (rest := [.int (0 : Int32), .ref (g.2.2 201)]) (k := 0) hC hw (x_X11_perform l hst g n v1 μ 0 m1 hq) ml_L_32 im_X11_perform se_X11_perform ok0 (CN := RX11) (T := TX11) (NF := 12) rfl rfl (by decide) rfl hl.1 ⟨Nat.le_of_ble_eq_true rfl, Nat.le_of_ble_eq_true rfl⟩ (Nat.le_of_ble_eq_true rfl) ⟨Nat.le_refl 1, Nat.le_refl 6⟩ dL_perform_4 (fun ce q H locs hw hce hcv hcl => ?_)
      refine vx_catch (own := RL) (name := "java/util/NoSuchElementException") (E := exN.getD 0 "") hC.2.2.2.1 [] ⟨0, 9, 12, 18⟩ [⟨0, 9, 15, 27⟩] (by rw [htab]; rfl) (fun z hz => nomatch hz) (by decide) (by decide) (hC.2.2.2.2.1 _ (gi5 80 rfl rfl)) (nest_use xcs0 (hC.2.2.2.2.2.1.2.1.1 _ xcs0)) hce hcv hcl ?_
      refine lv_astore_n (lv' := (3, .ref q) :: [(0, .ref (g.2.2 0)), (1, .int v1), (2, .ref (g.2.2 201))]) hx hb dL_perform_12 rfl hl (by decide) rfl (fun ls hl => ?_)
      refine lv_iconst (v := 1) hx hb dL_perform_13 (by decide) ?_
      exact vx_ret (rI hC hw hr hlocks (by rw [← Option.some.inj h]) (by rw [← Option.some.inj h]) dL_perform_14)
    by_cases hk2 : k = 2
    · subst hk2
      rw [if_neg (by decide)] at h
      rw [if_pos rfl] at h
      refine lv_aload_n hx hb dL_perform_0 rfl (lv_at hl 2 rfl) ?_
      refine lv_iconst (v := (0 : Int32)) hx hb dL_perform_1 (by decide) ?_
      refine lv_aload_n hx hb dL_perform_2 rfl (lv_at hl 0 rfl) ?_
      refine lv_iload_n hx hb dL_perform_3 rfl (lv_at hl 1 rfl) ?_
      refine cVK (b := 0) (As := [.int v1]) (rest := [.int (0 : Int32), .ref (g.2.2 201)]) (k := 2) hC hw (x_X11_perform l hst g n v1 μ 2 m1 hq) ml_L_32 im_X11_perform se_X11_perform ok0 (CN := RX11) (T := TX11) (NF := 12) rfl rfl (by decide) rfl hl.1 ⟨Nat.le_of_ble_eq_true rfl, Nat.le_of_ble_eq_true rfl⟩ (Nat.le_of_ble_eq_true rfl) ⟨Nat.le_refl 1, Nat.le_refl 6⟩ dL_perform_4 (fun ce q H locs hw hce hcv hcl => ?_)
      refine vx_catch (own := RL) (name := "java/lang/IllegalStateException") (E := exN.getD 2 "") hC.2.2.2.1 [⟨0, 9, 12, 18⟩] ⟨0, 9, 15, 27⟩ [] (by rw [htab]; rfl) (fun z hz => by
      rcases List.mem_cons.mp hz with rfl | hz
      · exact Or.inr ⟨by decide, "java/util/NoSuchElementException", hC.2.2.2.2.1 _ (gi5 80 rfl rfl), hC.2.2.2.2.2.1.2.1.2 2 0 (by decide) (by decide) (by decide)⟩
      cases hz) (by decide) (by decide) (hC.2.2.2.2.1 _ (gi5 120 rfl rfl)) (nest_use xcs2 (hC.2.2.2.2.2.1.2.1.1 _ xcs2)) hce hcv hcl ?_
      refine lv_astore_n (lv' := (3, .ref q) :: [(0, .ref (g.2.2 0)), (1, .int v1), (2, .ref (g.2.2 201))]) hx hb dL_perform_15 rfl hl (by decide) rfl (fun ls hl => ?_)
      refine lv_iconst (v := 2) hx hb dL_perform_16 (by decide) ?_
      exact vx_ret (rI hC hw hr hlocks (by rw [← Option.some.inj h]) (by rw [← Option.some.inj h]) dL_perform_17)
    rw [if_neg hk0] at h
    rw [if_neg hk2] at h
    cases h
set_option maxRecDepth 100000 in
set_option maxHeartbeats 4000000 in
theorem c_L_positions (l : Launch) (hst : l.stackTraces = false) (g : Gw) (n : Nat) (v1 : Int32) (v2 : Int32) (μ : Mu) (r : Int32 × Mu) (h : L_positions n v1 v2 μ = some r) : CtW l g yL_positions cL_positions 5 (some .int) [(0, 10, 13, 18), (0, 10, 17, 13)] 8 [.ref (g.2.2 0), .int v1, .int v2, .ref (g.2.2 201)] μ (some (.int r.1)) r.2 := by
  rw [L_positions] at h
  refine CtW.of (by decide) (Nat.le_of_ble_eq_true rfl) ?_
  intro p e s m args below meth c ls hC hw hr hlocks htab hl
  have hx := hC.1
  have hb := hC.2.1
  have hl : lv_has ls 5 [(0, .ref (g.2.2 0)), (1, .int v1), (2, .int v2), (3, .ref (g.2.2 201))] := hl
  match hq : X11_positions n v1 v2 μ, h with
  | some (.inl v, m1), h =>
    refine lv_aload_n hx hb dL_positions_0 rfl (lv_at hl 3 rfl) ?_
    refine lv_iconst (v := (0 : Int32)) hx hb dL_positions_1 (by decide) ?_
    refine lv_aload_n hx hb dL_positions_2 rfl (lv_at hl 0 rfl) ?_
    refine lv_iload_n hx hb dL_positions_3 rfl (lv_at hl 1 rfl) ?_
    refine lv_iload_n hx hb dL_positions_4 rfl (lv_at hl 2 rfl) ?_
    refine cV (b := 0) (As := [.int v1, .int v2]) (rest := [.int (0 : Int32), .ref (g.2.2 201)]) (st1 := [.int v, .int (0 : Int32), .ref (g.2.2 201)]) hC hw (c_X11_positions l g n v1 v2 μ (v, m1) hq) ml_L_35 im_X11_positions se_X11_positions ok0 (CN := RX11) (T := TX11) (NF := 12) rfl rfl (by decide) rfl hl.1 ⟨Nat.le_of_ble_eq_true rfl, Nat.le_of_ble_eq_true rfl⟩ (Nat.le_of_ble_eq_true rfl) ⟨Nat.zero_le _, Nat.zero_le _⟩ rfl dL_positions_5 (fun H locs hw => ?_)
    refine lv_i2l hx hb dL_positions_8 rfl ?_
    refine sJ (j := 0) hC hw ok201 on201 (vin (by decide)) (by decide) dL_positions_9 (fun H locs hw => ?_)
    refine lv_goto (tgt := 21) hx hb dL_positions_10 (by decide) ?_
    refine lv_iconst (v := 0) hx hb dL_positions_21 (by decide) ?_
    exact vx_ret (W.widen (k := 1) (n := 6) (by decide) (by decide) (rI hC hw hr hlocks (by rw [← Option.some.inj h]) (by rw [← Option.some.inj h]) dL_positions_22))
  | some (.inr k, m1), h =>
    dsimp only at h
    by_cases hk0 : k = 0
    · subst hk0
      rw [if_pos rfl] at h
      refine lv_aload_n hx hb dL_positions_0 rfl (lv_at hl 3 rfl) ?_
      refine lv_iconst (v := (0 : Int32)) hx hb dL_positions_1 (by decide) ?_
      refine lv_aload_n hx hb dL_positions_2 rfl (lv_at hl 0 rfl) ?_
      refine lv_iload_n hx hb dL_positions_3 rfl (lv_at hl 1 rfl) ?_
      refine lv_iload_n hx hb dL_positions_4 rfl (lv_at hl 2 rfl) ?_
      refine cVK (b := 0) (As := [.int v1, .int v2]) (rest := [.int (0 : Int32), .ref (g.2.2 201)]) (k := 0) hC hw (x_X11_positions l hst g n v1 v2 μ 0 m1 hq) ml_L_35 im_X11_positions se_X11_positions ok0 (CN := RX11) (T := TX11) (NF := 12) rfl rfl (by decide) rfl hl.1 ⟨Nat.le_of_ble_eq_true rfl, Nat.le_of_ble_eq_true rfl⟩ (Nat.le_of_ble_eq_true rfl) ⟨Nat.le_refl 1, Nat.le_refl 6⟩ dL_positions_5 (fun ce q H locs hw hce hcv hcl => ?_)
      refine vx_catch (own := RL) (name := "java/util/NoSuchElementException") (E := exN.getD 0 "") hC.2.2.2.1 [] ⟨0, 10, 13, 18⟩ [⟨0, 10, 17, 13⟩] (by rw [htab]; rfl) (fun z hz => nomatch hz) (by decide) (by decide) (hC.2.2.2.2.1 _ (gi5 80 rfl rfl)) (nest_use xcs0 (hC.2.2.2.2.2.1.2.1.1 _ xcs0)) hce hcv hcl ?_
      refine lv_astore (lv' := (4, .ref q) :: [(0, .ref (g.2.2 0)), (1, .int v1), (2, .int v2), (3, .ref (g.2.2 201))]) hx hb dL_positions_13 hl (by decide) rfl (fun ls hl => ?_)
      refine lv_iconst (v := 1) hx hb dL_positions_15 (by decide) ?_
      exact vx_ret (rI hC hw hr hlocks (by rw [← Option.some.inj h]) (by rw [← Option.some.inj h]) dL_positions_16)
    by_cases hk1 : k = 1
    · subst hk1
      rw [if_neg (by decide)] at h
      rw [if_pos rfl] at h
      refine lv_aload_n hx hb dL_positions_0 rfl (lv_at hl 3 rfl) ?_
      refine lv_iconst (v := (0 : Int32)) hx hb dL_positions_1 (by decide) ?_
      refine lv_aload_n hx hb dL_positions_2 rfl (lv_at hl 0 rfl) ?_
      refine lv_iload_n hx hb dL_positions_3 rfl (lv_at hl 1 rfl) ?_
      refine lv_iload_n hx hb dL_positions_4 rfl (lv_at hl 2 rfl) ?_
      refine cVK (b := 0) (As := [.int v1, .int v2]) (rest := [.int (0 : Int32), .ref (g.2.2 201)]) (k := 1) hC hw (x_X11_positions l hst g n v1 v2 μ 1 m1 hq) ml_L_35 im_X11_positions se_X11_positions ok0 (CN := RX11) (T := TX11) (NF := 12) rfl rfl (by decide) rfl hl.1 ⟨Nat.le_of_ble_eq_true rfl, Nat.le_of_ble_eq_true rfl⟩ (Nat.le_of_ble_eq_true rfl) ⟨Nat.le_refl 1, Nat.le_refl 6⟩ dL_positions_5 (fun ce q H locs hw hce hcv hcl => ?_)
      refine vx_catch (own := RL) (name := "java/lang/IllegalArgumentException") (E := exN.getD 1 "") hC.2.2.2.1 [⟨0, 10, 13, 18⟩] ⟨0, 10, 17, 13⟩ [] (by rw [htab]; rfl) (fun z hz => by
      rcases List.mem_cons.mp hz with rfl | hz
      · exact Or.inr ⟨by decide, "java/util/NoSuchElementException", hC.2.2.2.2.1 _ (gi5 80 rfl rfl), hC.2.2.2.2.2.1.2.1.2 1 0 (by decide) (by decide) (by decide)⟩
      cases hz) (by decide) (by decide) (hC.2.2.2.2.1 _ (gi4 96 rfl rfl)) (nest_use xcs1 (hC.2.2.2.2.2.1.2.1.1 _ xcs1)) hce hcv hcl ?_
      refine lv_astore (lv' := (4, .ref q) :: [(0, .ref (g.2.2 0)), (1, .int v1), (2, .int v2), (3, .ref (g.2.2 201))]) hx hb dL_positions_17 hl (by decide) rfl (fun ls hl => ?_)
      refine lv_iconst (v := 2) hx hb dL_positions_19 (by decide) ?_
      exact vx_ret (rI hC hw hr hlocks (by rw [← Option.some.inj h]) (by rw [← Option.some.inj h]) dL_positions_20)
    rw [if_neg hk0] at h
    rw [if_neg hk1] at h
    cases h
set_option maxRecDepth 100000 in
set_option maxHeartbeats 4000000 in
theorem c_L_ofPlace (l : Launch) (hst : l.stackTraces = false) (g : Gw) (n : Nat) (v1 : Int32) (v2 : Int32) (v3 : Int32) (v4 : Int32) (μ : Mu) (r : Int32 × Mu) (h : L_ofPlace n v1 v2 v3 v4 μ = some r) : CtW l g yL_ofPlace cL_ofPlace 7 (some .int) [(0, 14, 17, 18), (0, 14, 21, 13), (0, 14, 25, 27), (0, 14, 29, 42)] 8 [.ref (g.2.2 0), .int v1, .int v2, .int v3, .int v4, .ref (g.2.2 201)] μ (some (.int r.1)) r.2 := by
  rw [L_ofPlace] at h
  refine CtW.of (by decide) (Nat.le_of_ble_eq_true rfl) ?_
  intro p e s m args below meth c ls hC hw hr hlocks htab hl
  have hx := hC.1
  have hb := hC.2.1
  have hl : lv_has ls 7 [(0, .ref (g.2.2 0)), (1, .int v1), (2, .int v2), (3, .int v3), (4, .int v4), (5, .ref (g.2.2 201))] := hl
  match hq : X11_ofPlace n v1 v2 v3 v4 μ, h with
  | some (.inl v, m1), h =>
    refine lv_aload hx hb dL_ofPlace_0 (lv_at hl 5 rfl) ?_
    refine lv_iconst (v := (0 : Int32)) hx hb dL_ofPlace_2 (by decide) ?_
    refine lv_aload_n hx hb dL_ofPlace_3 rfl (lv_at hl 0 rfl) ?_
    refine lv_iload_n hx hb dL_ofPlace_4 rfl (lv_at hl 1 rfl) ?_
    refine lv_iload_n hx hb dL_ofPlace_5 rfl (lv_at hl 2 rfl) ?_
    refine lv_iload_n hx hb dL_ofPlace_6 rfl (lv_at hl 3 rfl) ?_
    refine lv_iload hx hb dL_ofPlace_7 (lv_at hl 4 rfl) ?_
    refine cV (b := 0) (As := [.int v1, .int v2, .int v3, .int v4]) (rest := [.int (0 : Int32), .ref (g.2.2 201)]) (st1 := [.int v, .int (0 : Int32), .ref (g.2.2 201)]) hC hw (c_X11_ofPlace l g n v1 v2 v3 v4 μ (v, m1) hq) ml_L_38 im_X11_ofPlace se_X11_ofPlace ok0 (CN := RX11) (T := TX11) (NF := 12) rfl rfl (by decide) rfl hl.1 ⟨Nat.le_of_ble_eq_true rfl, Nat.le_of_ble_eq_true rfl⟩ (Nat.le_of_ble_eq_true rfl) ⟨Nat.zero_le _, Nat.zero_le _⟩ rfl dL_ofPlace_9 (fun H locs hw => ?_)
    refine lv_i2l hx hb dL_ofPlace_12 rfl ?_
    refine sJ (j := 0) hC hw ok201 on201 (vin (by decide)) (by decide) dL_ofPlace_13 (fun H locs hw => ?_)
    refine lv_goto (tgt := 33) hx hb dL_ofPlace_14 (by decide) ?_
    refine lv_iconst (v := 0) hx hb dL_ofPlace_33 (by decide) ?_
    exact vx_ret (W.widen (k := 1) (n := 6) (by decide) (by decide) (rI hC hw hr hlocks (by rw [← Option.some.inj h]) (by rw [← Option.some.inj h]) dL_ofPlace_34))
  | some (.inr k, m1), h =>
    dsimp only at h
    by_cases hk0 : k = 0
    · subst hk0
      rw [if_pos rfl] at h
      refine lv_aload hx hb dL_ofPlace_0 (lv_at hl 5 rfl) ?_
      refine lv_iconst (v := (0 : Int32)) hx hb dL_ofPlace_2 (by decide) ?_
      refine lv_aload_n hx hb dL_ofPlace_3 rfl (lv_at hl 0 rfl) ?_
      refine lv_iload_n hx hb dL_ofPlace_4 rfl (lv_at hl 1 rfl) ?_
      refine lv_iload_n hx hb dL_ofPlace_5 rfl (lv_at hl 2 rfl) ?_
      refine lv_iload_n hx hb dL_ofPlace_6 rfl (lv_at hl 3 rfl) ?_
      refine lv_iload hx hb dL_ofPlace_7 (lv_at hl 4 rfl) ?_
      refine cVK (b := 0) (As := [.int v1, .int v2, .int v3, .int v4]) (rest := [.int (0 : Int32), .ref (g.2.2 201)]) (k := 0) hC hw (x_X11_ofPlace l hst g n v1 v2 v3 v4 μ 0 m1 hq) ml_L_38 im_X11_ofPlace se_X11_ofPlace ok0 (CN := RX11) (T := TX11) (NF := 12) rfl rfl (by decide) rfl hl.1 ⟨Nat.le_of_ble_eq_true rfl, Nat.le_of_ble_eq_true rfl⟩ (Nat.le_of_ble_eq_true rfl) ⟨Nat.le_refl 1, Nat.le_refl 6⟩ dL_ofPlace_9 (fun ce q H locs hw hce hcv hcl => ?_)
      refine vx_catch (own := RL) (name := "java/util/NoSuchElementException") (E := exN.getD 0 "") hC.2.2.2.1 [] ⟨0, 14, 17, 18⟩ [⟨0, 14, 21, 13⟩, ⟨0, 14, 25, 27⟩, ⟨0, 14, 29, 42⟩] (by rw [htab]; rfl) (fun z hz => nomatch hz) (by decide) (by decide) (hC.2.2.2.2.1 _ (gi5 80 rfl rfl)) (nest_use xcs0 (hC.2.2.2.2.2.1.2.1.1 _ xcs0)) hce hcv hcl ?_
      refine lv_astore (lv' := (6, .ref q) :: [(0, .ref (g.2.2 0)), (1, .int v1), (2, .int v2), (3, .int v3), (4, .int v4), (5, .ref (g.2.2 201))]) hx hb dL_ofPlace_17 hl (by decide) rfl (fun ls hl => ?_)
      refine lv_iconst (v := 1) hx hb dL_ofPlace_19 (by decide) ?_
      exact vx_ret (rI hC hw hr hlocks (by rw [← Option.some.inj h]) (by rw [← Option.some.inj h]) dL_ofPlace_20)
    by_cases hk1 : k = 1
    · subst hk1
      rw [if_neg (by decide)] at h
      rw [if_pos rfl] at h
      refine lv_aload hx hb dL_ofPlace_0 (lv_at hl 5 rfl) ?_
      refine lv_iconst (v := (0 : Int32)) hx hb dL_ofPlace_2 (by decide) ?_
      refine lv_aload_n hx hb dL_ofPlace_3 rfl (lv_at hl 0 rfl) ?_
      refine lv_iload_n hx hb dL_ofPlace_4 rfl (lv_at hl 1 rfl) ?_
      refine lv_iload_n hx hb dL_ofPlace_5 rfl (lv_at hl 2 rfl) ?_
      refine lv_iload_n hx hb dL_ofPlace_6 rfl (lv_at hl 3 rfl) ?_
      refine lv_iload hx hb dL_ofPlace_7 (lv_at hl 4 rfl) ?_
      refine cVK (b := 0) (As := [.int v1, .int v2, .int v3, .int v4]) (rest := [.int (0 : Int32), .ref (g.2.2 201)]) (k := 1) hC hw (x_X11_ofPlace l hst g n v1 v2 v3 v4 μ 1 m1 hq) ml_L_38 im_X11_ofPlace se_X11_ofPlace ok0 (CN := RX11) (T := TX11) (NF := 12) rfl rfl (by decide) rfl hl.1 ⟨Nat.le_of_ble_eq_true rfl, Nat.le_of_ble_eq_true rfl⟩ (Nat.le_of_ble_eq_true rfl) ⟨Nat.le_refl 1, Nat.le_refl 6⟩ dL_ofPlace_9 (fun ce q H locs hw hce hcv hcl => ?_)
      refine vx_catch (own := RL) (name := "java/lang/IllegalArgumentException") (E := exN.getD 1 "") hC.2.2.2.1 [⟨0, 14, 17, 18⟩] ⟨0, 14, 21, 13⟩ [⟨0, 14, 25, 27⟩, ⟨0, 14, 29, 42⟩] (by rw [htab]; rfl) (fun z hz => by
      rcases List.mem_cons.mp hz with rfl | hz
      · exact Or.inr ⟨by decide, "java/util/NoSuchElementException", hC.2.2.2.2.1 _ (gi5 80 rfl rfl), hC.2.2.2.2.2.1.2.1.2 1 0 (by decide) (by decide) (by decide)⟩
      cases hz) (by decide) (by decide) (hC.2.2.2.2.1 _ (gi4 96 rfl rfl)) (nest_use xcs1 (hC.2.2.2.2.2.1.2.1.1 _ xcs1)) hce hcv hcl ?_
      refine lv_astore (lv' := (6, .ref q) :: [(0, .ref (g.2.2 0)), (1, .int v1), (2, .int v2), (3, .int v3), (4, .int v4), (5, .ref (g.2.2 201))]) hx hb dL_ofPlace_21 hl (by decide) rfl (fun ls hl => ?_)
      refine lv_iconst (v := 2) hx hb dL_ofPlace_23 (by decide) ?_
      exact vx_ret (rI hC hw hr hlocks (by rw [← Option.some.inj h]) (by rw [← Option.some.inj h]) dL_ofPlace_24)
    by_cases hk2 : k = 2
    · subst hk2
      rw [if_neg (by decide)] at h
      rw [if_neg (by decide)] at h
      rw [if_pos rfl] at h
      refine lv_aload hx hb dL_ofPlace_0 (lv_at hl 5 rfl) ?_
      refine lv_iconst (v := (0 : Int32)) hx hb dL_ofPlace_2 (by decide) ?_
      refine lv_aload_n hx hb dL_ofPlace_3 rfl (lv_at hl 0 rfl) ?_
      refine lv_iload_n hx hb dL_ofPlace_4 rfl (lv_at hl 1 rfl) ?_
      refine lv_iload_n hx hb dL_ofPlace_5 rfl (lv_at hl 2 rfl) ?_
      refine lv_iload_n hx hb dL_ofPlace_6 rfl (lv_at hl 3 rfl) ?_
      refine lv_iload hx hb dL_ofPlace_7 (lv_at hl 4 rfl) ?_
      refine cVK (b := 0) (As := [.int v1, .int v2, .int v3, .int v4]) (rest := [.int (0 : Int32), .ref (g.2.2 201)]) (k := 2) hC hw (x_X11_ofPlace l hst g n v1 v2 v3 v4 μ 2 m1 hq) ml_L_38 im_X11_ofPlace se_X11_ofPlace ok0 (CN := RX11) (T := TX11) (NF := 12) rfl rfl (by decide) rfl hl.1 ⟨Nat.le_of_ble_eq_true rfl, Nat.le_of_ble_eq_true rfl⟩ (Nat.le_of_ble_eq_true rfl) ⟨Nat.le_refl 1, Nat.le_refl 6⟩ dL_ofPlace_9 (fun ce q H locs hw hce hcv hcl => ?_)
      refine vx_catch (own := RL) (name := "java/lang/IllegalStateException") (E := exN.getD 2 "") hC.2.2.2.1 [⟨0, 14, 17, 18⟩, ⟨0, 14, 21, 13⟩] ⟨0, 14, 25, 27⟩ [⟨0, 14, 29, 42⟩] (by rw [htab]; rfl) (fun z hz => by
      rcases List.mem_cons.mp hz with rfl | hz
      · exact Or.inr ⟨by decide, "java/util/NoSuchElementException", hC.2.2.2.2.1 _ (gi5 80 rfl rfl), hC.2.2.2.2.2.1.2.1.2 2 0 (by decide) (by decide) (by decide)⟩
      rcases List.mem_cons.mp hz with rfl | hz
      · exact Or.inr ⟨by decide, "java/lang/IllegalArgumentException", hC.2.2.2.2.1 _ (gi4 96 rfl rfl), hC.2.2.2.2.2.1.2.1.2 2 1 (by decide) (by decide) (by decide)⟩
      cases hz) (by decide) (by decide) (hC.2.2.2.2.1 _ (gi5 120 rfl rfl)) (nest_use xcs2 (hC.2.2.2.2.2.1.2.1.1 _ xcs2)) hce hcv hcl ?_
      refine lv_astore (lv' := (6, .ref q) :: [(0, .ref (g.2.2 0)), (1, .int v1), (2, .int v2), (3, .int v3), (4, .int v4), (5, .ref (g.2.2 201))]) hx hb dL_ofPlace_25 hl (by decide) rfl (fun ls hl => ?_)
      refine lv_iconst (v := 3) hx hb dL_ofPlace_27 (by decide) ?_
      exact vx_ret (rI hC hw hr hlocks (by rw [← Option.some.inj h]) (by rw [← Option.some.inj h]) dL_ofPlace_28)
    by_cases hk3 : k = 3
    · subst hk3
      rw [if_neg (by decide)] at h
      rw [if_neg (by decide)] at h
      rw [if_neg (by decide)] at h
      rw [if_pos rfl] at h
      refine lv_aload hx hb dL_ofPlace_0 (lv_at hl 5 rfl) ?_
      refine lv_iconst (v := (0 : Int32)) hx hb dL_ofPlace_2 (by decide) ?_
      refine lv_aload_n hx hb dL_ofPlace_3 rfl (lv_at hl 0 rfl) ?_
      refine lv_iload_n hx hb dL_ofPlace_4 rfl (lv_at hl 1 rfl) ?_
      refine lv_iload_n hx hb dL_ofPlace_5 rfl (lv_at hl 2 rfl) ?_
      refine lv_iload_n hx hb dL_ofPlace_6 rfl (lv_at hl 3 rfl) ?_
      refine lv_iload hx hb dL_ofPlace_7 (lv_at hl 4 rfl) ?_
      refine cVK (b := 0) (As := [.int v1, .int v2, .int v3, .int v4]) (rest := [.int (0 : Int32), .ref (g.2.2 201)]) (k := 3) hC hw (x_X11_ofPlace l hst g n v1 v2 v3 v4 μ 3 m1 hq) ml_L_38 im_X11_ofPlace se_X11_ofPlace ok0 (CN := RX11) (T := TX11) (NF := 12) rfl rfl (by decide) rfl hl.1 ⟨Nat.le_of_ble_eq_true rfl, Nat.le_of_ble_eq_true rfl⟩ (Nat.le_of_ble_eq_true rfl) ⟨Nat.le_refl 1, Nat.le_refl 6⟩ dL_ofPlace_9 (fun ce q H locs hw hce hcv hcl => ?_)
      refine vx_catch (own := RL) (name := "java/lang/IndexOutOfBoundsException") (E := exN.getD 3 "") hC.2.2.2.1 [⟨0, 14, 17, 18⟩, ⟨0, 14, 21, 13⟩, ⟨0, 14, 25, 27⟩] ⟨0, 14, 29, 42⟩ [] (by rw [htab]; rfl) (fun z hz => by
      rcases List.mem_cons.mp hz with rfl | hz
      · exact Or.inr ⟨by decide, "java/util/NoSuchElementException", hC.2.2.2.2.1 _ (gi5 80 rfl rfl), hC.2.2.2.2.2.1.2.1.2 3 0 (by decide) (by decide) (by decide)⟩
      rcases List.mem_cons.mp hz with rfl | hz
      · exact Or.inr ⟨by decide, "java/lang/IllegalArgumentException", hC.2.2.2.2.1 _ (gi4 96 rfl rfl), hC.2.2.2.2.2.1.2.1.2 3 1 (by decide) (by decide) (by decide)⟩
      rcases List.mem_cons.mp hz with rfl | hz
      · exact Or.inr ⟨by decide, "java/lang/IllegalStateException", hC.2.2.2.2.1 _ (gi5 120 rfl rfl), hC.2.2.2.2.2.1.2.1.2 3 2 (by decide) (by decide) (by decide)⟩
      cases hz) (by decide) (by decide) (hC.2.2.2.2.1 _ (gi5 181 rfl rfl)) (nest_use xcs3 (hC.2.2.2.2.2.1.2.1.1 _ xcs3)) hce hcv hcl ?_
      refine lv_astore (lv' := (6, .ref q) :: [(0, .ref (g.2.2 0)), (1, .int v1), (2, .int v2), (3, .int v3), (4, .int v4), (5, .ref (g.2.2 201))]) hx hb dL_ofPlace_29 hl (by decide) rfl (fun ls hl => ?_)
      refine lv_iconst (v := 4) hx hb dL_ofPlace_31 (by decide) ?_
      exact vx_ret (rI hC hw hr hlocks (by rw [← Option.some.inj h]) (by rw [← Option.some.inj h]) dL_ofPlace_32)
    rw [if_neg hk0] at h
    rw [if_neg hk1] at h
    rw [if_neg hk2] at h
    rw [if_neg hk3] at h
    cases h
set_option maxRecDepth 100000 in
set_option maxHeartbeats 4000000 in
theorem c_L_valueOf (l : Launch) (hst : l.stackTraces = false) (g : Gw) (n : Nat) (v1 : Int32) (v2 : Int32) (v3 : Int32) (μ : Mu) (r : Int32 × Mu) (h : L_valueOf n v1 v2 v3 μ = some r) : CtW l g yL_valueOf cL_valueOf 6 (some .int) [(0, 12, 15, 18), (0, 12, 19, 13), (0, 12, 23, 27)] 9 [.ref (g.2.2 0), .int v1, .int v2, .int v3, .ref (g.2.2 201)] μ (some (.int r.1)) r.2 := by
  rw [L_valueOf] at h
  refine CtW.of (by decide) (Nat.le_of_ble_eq_true rfl) ?_
  intro p e s m args below meth c ls hC hw hr hlocks htab hl
  have hx := hC.1
  have hb := hC.2.1
  have hl : lv_has ls 6 [(0, .ref (g.2.2 0)), (1, .int v1), (2, .int v2), (3, .int v3), (4, .ref (g.2.2 201))] := hl
  match hq : X11_valueOf n v1 v2 v3 μ, h with
  | some (.inl v, m1), h =>
    refine lv_aload hx hb dL_valueOf_0 (lv_at hl 4 rfl) ?_
    refine lv_iconst (v := (0 : Int32)) hx hb dL_valueOf_2 (by decide) ?_
    refine lv_aload_n hx hb dL_valueOf_3 rfl (lv_at hl 0 rfl) ?_
    refine lv_iload_n hx hb dL_valueOf_4 rfl (lv_at hl 1 rfl) ?_
    refine lv_iload_n hx hb dL_valueOf_5 rfl (lv_at hl 2 rfl) ?_
    refine lv_iload_n hx hb dL_valueOf_6 rfl (lv_at hl 3 rfl) ?_
    refine cV (b := 0) (As := [.int v1, .int v2, .int v3]) (rest := [.int (0 : Int32), .ref (g.2.2 201)]) (st1 := [.int v, .int (0 : Int32), .ref (g.2.2 201)]) hC hw (c_X11_valueOf l g n v1 v2 v3 μ (v, m1) hq) ml_L_44 im_X11_valueOf se_X11_valueOf ok0 (CN := RX11) (T := TX11) (NF := 12) rfl rfl (by decide) rfl hl.1 ⟨Nat.le_of_ble_eq_true rfl, Nat.le_of_ble_eq_true rfl⟩ (Nat.le_of_ble_eq_true rfl) ⟨Nat.zero_le _, Nat.zero_le _⟩ rfl dL_valueOf_7 (fun H locs hw => ?_)
    refine lv_i2l hx hb dL_valueOf_10 rfl ?_
    refine sJ (j := 0) hC hw ok201 on201 (vin (by decide)) (by decide) dL_valueOf_11 (fun H locs hw => ?_)
    refine lv_goto (tgt := 27) hx hb dL_valueOf_12 (by decide) ?_
    refine lv_iconst (v := 0) hx hb dL_valueOf_27 (by decide) ?_
    exact vx_ret (W.widen (k := 1) (n := 6) (by decide) (by decide) (rI hC hw hr hlocks (by rw [← Option.some.inj h]) (by rw [← Option.some.inj h]) dL_valueOf_28))
  | some (.inr k, m1), h =>
    dsimp only at h
    by_cases hk0 : k = 0
    · subst hk0
      rw [if_pos rfl] at h
      refine lv_aload hx hb dL_valueOf_0 (lv_at hl 4 rfl) ?_
      refine lv_iconst (v := (0 : Int32)) hx hb dL_valueOf_2 (by decide) ?_
      refine lv_aload_n hx hb dL_valueOf_3 rfl (lv_at hl 0 rfl) ?_
      refine lv_iload_n hx hb dL_valueOf_4 rfl (lv_at hl 1 rfl) ?_
      refine lv_iload_n hx hb dL_valueOf_5 rfl (lv_at hl 2 rfl) ?_
      refine lv_iload_n hx hb dL_valueOf_6 rfl (lv_at hl 3 rfl) ?_
      refine cVK (b := 0) (As := [.int v1, .int v2, .int v3]) (rest := [.int (0 : Int32), .ref (g.2.2 201)]) (k := 0) hC hw (x_X11_valueOf l hst g n v1 v2 v3 μ 0 m1 hq) ml_L_44 im_X11_valueOf se_X11_valueOf ok0 (CN := RX11) (T := TX11) (NF := 12) rfl rfl (by decide) rfl hl.1 ⟨Nat.le_of_ble_eq_true rfl, Nat.le_of_ble_eq_true rfl⟩ (Nat.le_of_ble_eq_true rfl) ⟨Nat.le_refl 1, Nat.le_refl 6⟩ dL_valueOf_7 (fun ce q H locs hw hce hcv hcl => ?_)
      refine vx_catch (own := RL) (name := "java/util/NoSuchElementException") (E := exN.getD 0 "") hC.2.2.2.1 [] ⟨0, 12, 15, 18⟩ [⟨0, 12, 19, 13⟩, ⟨0, 12, 23, 27⟩] (by rw [htab]; rfl) (fun z hz => nomatch hz) (by decide) (by decide) (hC.2.2.2.2.1 _ (gi5 80 rfl rfl)) (nest_use xcs0 (hC.2.2.2.2.2.1.2.1.1 _ xcs0)) hce hcv hcl ?_
      refine lv_astore (lv' := (5, .ref q) :: [(0, .ref (g.2.2 0)), (1, .int v1), (2, .int v2), (3, .int v3), (4, .ref (g.2.2 201))]) hx hb dL_valueOf_15 hl (by decide) rfl (fun ls hl => ?_)
      refine lv_iconst (v := 1) hx hb dL_valueOf_17 (by decide) ?_
      exact vx_ret (rI hC hw hr hlocks (by rw [← Option.some.inj h]) (by rw [← Option.some.inj h]) dL_valueOf_18)
    by_cases hk1 : k = 1
    · subst hk1
      rw [if_neg (by decide)] at h
      rw [if_pos rfl] at h
      refine lv_aload hx hb dL_valueOf_0 (lv_at hl 4 rfl) ?_
      refine lv_iconst (v := (0 : Int32)) hx hb dL_valueOf_2 (by decide) ?_
      refine lv_aload_n hx hb dL_valueOf_3 rfl (lv_at hl 0 rfl) ?_
      refine lv_iload_n hx hb dL_valueOf_4 rfl (lv_at hl 1 rfl) ?_
      refine lv_iload_n hx hb dL_valueOf_5 rfl (lv_at hl 2 rfl) ?_
      refine lv_iload_n hx hb dL_valueOf_6 rfl (lv_at hl 3 rfl) ?_
      refine cVK (b := 0) (As := [.int v1, .int v2, .int v3]) (rest := [.int (0 : Int32), .ref (g.2.2 201)]) (k := 1) hC hw (x_X11_valueOf l hst g n v1 v2 v3 μ 1 m1 hq) ml_L_44 im_X11_valueOf se_X11_valueOf ok0 (CN := RX11) (T := TX11) (NF := 12) rfl rfl (by decide) rfl hl.1 ⟨Nat.le_of_ble_eq_true rfl, Nat.le_of_ble_eq_true rfl⟩ (Nat.le_of_ble_eq_true rfl) ⟨Nat.le_refl 1, Nat.le_refl 6⟩ dL_valueOf_7 (fun ce q H locs hw hce hcv hcl => ?_)
      refine vx_catch (own := RL) (name := "java/lang/IllegalArgumentException") (E := exN.getD 1 "") hC.2.2.2.1 [⟨0, 12, 15, 18⟩] ⟨0, 12, 19, 13⟩ [⟨0, 12, 23, 27⟩] (by rw [htab]; rfl) (fun z hz => by
      rcases List.mem_cons.mp hz with rfl | hz
      · exact Or.inr ⟨by decide, "java/util/NoSuchElementException", hC.2.2.2.2.1 _ (gi5 80 rfl rfl), hC.2.2.2.2.2.1.2.1.2 1 0 (by decide) (by decide) (by decide)⟩
      cases hz) (by decide) (by decide) (hC.2.2.2.2.1 _ (gi4 96 rfl rfl)) (nest_use xcs1 (hC.2.2.2.2.2.1.2.1.1 _ xcs1)) hce hcv hcl ?_
      refine lv_astore (lv' := (5, .ref q) :: [(0, .ref (g.2.2 0)), (1, .int v1), (2, .int v2), (3, .int v3), (4, .ref (g.2.2 201))]) hx hb dL_valueOf_19 hl (by decide) rfl (fun ls hl => ?_)
      refine lv_iconst (v := 2) hx hb dL_valueOf_21 (by decide) ?_
      exact vx_ret (rI hC hw hr hlocks (by rw [← Option.some.inj h]) (by rw [← Option.some.inj h]) dL_valueOf_22)
    by_cases hk2 : k = 2
    · subst hk2
      rw [if_neg (by decide)] at h
      rw [if_neg (by decide)] at h
      rw [if_pos rfl] at h
      refine lv_aload hx hb dL_valueOf_0 (lv_at hl 4 rfl) ?_
      refine lv_iconst (v := (0 : Int32)) hx hb dL_valueOf_2 (by decide) ?_
      refine lv_aload_n hx hb dL_valueOf_3 rfl (lv_at hl 0 rfl) ?_
      refine lv_iload_n hx hb dL_valueOf_4 rfl (lv_at hl 1 rfl) ?_
      refine lv_iload_n hx hb dL_valueOf_5 rfl (lv_at hl 2 rfl) ?_
      refine lv_iload_n hx hb dL_valueOf_6 rfl (lv_at hl 3 rfl) ?_
      refine cVK (b := 0) (As := [.int v1, .int v2, .int v3]) (rest := [.int (0 : Int32), .ref (g.2.2 201)]) (k := 2) hC hw (x_X11_valueOf l hst g n v1 v2 v3 μ 2 m1 hq) ml_L_44 im_X11_valueOf se_X11_valueOf ok0 (CN := RX11) (T := TX11) (NF := 12) rfl rfl (by decide) rfl hl.1 ⟨Nat.le_of_ble_eq_true rfl, Nat.le_of_ble_eq_true rfl⟩ (Nat.le_of_ble_eq_true rfl) ⟨Nat.le_refl 1, Nat.le_refl 6⟩ dL_valueOf_7 (fun ce q H locs hw hce hcv hcl => ?_)
      refine vx_catch (own := RL) (name := "java/lang/IllegalStateException") (E := exN.getD 2 "") hC.2.2.2.1 [⟨0, 12, 15, 18⟩, ⟨0, 12, 19, 13⟩] ⟨0, 12, 23, 27⟩ [] (by rw [htab]; rfl) (fun z hz => by
      rcases List.mem_cons.mp hz with rfl | hz
      · exact Or.inr ⟨by decide, "java/util/NoSuchElementException", hC.2.2.2.2.1 _ (gi5 80 rfl rfl), hC.2.2.2.2.2.1.2.1.2 2 0 (by decide) (by decide) (by decide)⟩
      rcases List.mem_cons.mp hz with rfl | hz
      · exact Or.inr ⟨by decide, "java/lang/IllegalArgumentException", hC.2.2.2.2.1 _ (gi4 96 rfl rfl), hC.2.2.2.2.2.1.2.1.2 2 1 (by decide) (by decide) (by decide)⟩
      cases hz) (by decide) (by decide) (hC.2.2.2.2.1 _ (gi5 120 rfl rfl)) (nest_use xcs2 (hC.2.2.2.2.2.1.2.1.1 _ xcs2)) hce hcv hcl ?_
      refine lv_astore (lv' := (5, .ref q) :: [(0, .ref (g.2.2 0)), (1, .int v1), (2, .int v2), (3, .int v3), (4, .ref (g.2.2 201))]) hx hb dL_valueOf_23 hl (by decide) rfl (fun ls hl => ?_)
      refine lv_iconst (v := 3) hx hb dL_valueOf_25 (by decide) ?_
      exact vx_ret (rI hC hw hr hlocks (by rw [← Option.some.inj h]) (by rw [← Option.some.inj h]) dL_valueOf_26)
    rw [if_neg hk0] at h
    rw [if_neg hk1] at h
    rw [if_neg hk2] at h
    cases h
set_option maxRecDepth 100000 in
set_option maxHeartbeats 4000000 in
theorem c_L_tally (l : Launch) (hst : l.stackTraces = false) (g : Gw) (n : Nat) (v1 : Int32) (v2 : Int32) (v3 : Int32) (μ : Mu) (r : Int32 × Mu) (h : L_tally n v1 v2 v3 μ = some r) : CtW l g yL_tally cL_tally 6 (some .int) [(0, 12, 15, 18), (0, 12, 19, 13), (0, 12, 23, 27)] 8 [.ref (g.2.2 0), .int v1, .int v2, .int v3, .ref (g.2.2 201)] μ (some (.int r.1)) r.2 := by
  rw [L_tally] at h
  refine CtW.of (by decide) (Nat.le_of_ble_eq_true rfl) ?_
  intro p e s m args below meth c ls hC hw hr hlocks htab hl
  have hx := hC.1
  have hb := hC.2.1
  have hl : lv_has ls 6 [(0, .ref (g.2.2 0)), (1, .int v1), (2, .int v2), (3, .int v3), (4, .ref (g.2.2 201))] := hl
  match hq : X11_tally n v1 v2 v3 μ, h with
  | some (.inl v, m1), h =>
    refine lv_aload hx hb dL_tally_0 (lv_at hl 4 rfl) ?_
    refine lv_iconst (v := (0 : Int32)) hx hb dL_tally_2 (by decide) ?_
    refine lv_aload_n hx hb dL_tally_3 rfl (lv_at hl 0 rfl) ?_
    refine lv_iload_n hx hb dL_tally_4 rfl (lv_at hl 1 rfl) ?_
    refine lv_iload_n hx hb dL_tally_5 rfl (lv_at hl 2 rfl) ?_
    refine lv_iload_n hx hb dL_tally_6 rfl (lv_at hl 3 rfl) ?_
    refine cV (b := 0) (As := [.int v1, .int v2, .int v3]) (rest := [.int (0 : Int32), .ref (g.2.2 201)]) (st1 := [.int v, .int (0 : Int32), .ref (g.2.2 201)]) hC hw (c_X11_tally l g n v1 v2 v3 μ (v, m1) hq) ml_L_48 im_X11_tally se_X11_tally ok0 (CN := RX11) (T := TX11) (NF := 12) rfl rfl (by decide) rfl hl.1 ⟨Nat.le_of_ble_eq_true rfl, Nat.le_of_ble_eq_true rfl⟩ (Nat.le_of_ble_eq_true rfl) ⟨Nat.zero_le _, Nat.zero_le _⟩ rfl dL_tally_7 (fun H locs hw => ?_)
    refine lv_i2l hx hb dL_tally_10 rfl ?_
    refine sJ (j := 0) hC hw ok201 on201 (vin (by decide)) (by decide) dL_tally_11 (fun H locs hw => ?_)
    refine lv_goto (tgt := 27) hx hb dL_tally_12 (by decide) ?_
    refine lv_iconst (v := 0) hx hb dL_tally_27 (by decide) ?_
    exact vx_ret (W.widen (k := 1) (n := 6) (by decide) (by decide) (rI hC hw hr hlocks (by rw [← Option.some.inj h]) (by rw [← Option.some.inj h]) dL_tally_28))
  | some (.inr k, m1), h =>
    dsimp only at h
    by_cases hk0 : k = 0
    · subst hk0
      rw [if_pos rfl] at h
      refine lv_aload hx hb dL_tally_0 (lv_at hl 4 rfl) ?_
      refine lv_iconst (v := (0 : Int32)) hx hb dL_tally_2 (by decide) ?_
      refine lv_aload_n hx hb dL_tally_3 rfl (lv_at hl 0 rfl) ?_
      refine lv_iload_n hx hb dL_tally_4 rfl (lv_at hl 1 rfl) ?_
      refine lv_iload_n hx hb dL_tally_5 rfl (lv_at hl 2 rfl) ?_
      refine lv_iload_n hx hb dL_tally_6 rfl (lv_at hl 3 rfl) ?_
      refine cVK (b := 0) (As := [.int v1, .int v2, .int v3]) (rest := [.int (0 : Int32), .ref (g.2.2 201)]) (k := 0) hC hw (x_X11_tally l hst g n v1 v2 v3 μ 0 m1 hq) ml_L_48 im_X11_tally se_X11_tally ok0 (CN := RX11) (T := TX11) (NF := 12) rfl rfl (by decide) rfl hl.1 ⟨Nat.le_of_ble_eq_true rfl, Nat.le_of_ble_eq_true rfl⟩ (Nat.le_of_ble_eq_true rfl) ⟨Nat.le_refl 1, Nat.le_refl 6⟩ dL_tally_7 (fun ce q H locs hw hce hcv hcl => ?_)
      refine vx_catch (own := RL) (name := "java/util/NoSuchElementException") (E := exN.getD 0 "") hC.2.2.2.1 [] ⟨0, 12, 15, 18⟩ [⟨0, 12, 19, 13⟩, ⟨0, 12, 23, 27⟩] (by rw [htab]; rfl) (fun z hz => nomatch hz) (by decide) (by decide) (hC.2.2.2.2.1 _ (gi5 80 rfl rfl)) (nest_use xcs0 (hC.2.2.2.2.2.1.2.1.1 _ xcs0)) hce hcv hcl ?_
      refine lv_astore (lv' := (5, .ref q) :: [(0, .ref (g.2.2 0)), (1, .int v1), (2, .int v2), (3, .int v3), (4, .ref (g.2.2 201))]) hx hb dL_tally_15 hl (by decide) rfl (fun ls hl => ?_)
      refine lv_iconst (v := 1) hx hb dL_tally_17 (by decide) ?_
      exact vx_ret (rI hC hw hr hlocks (by rw [← Option.some.inj h]) (by rw [← Option.some.inj h]) dL_tally_18)
    by_cases hk1 : k = 1
    · subst hk1
      rw [if_neg (by decide)] at h
      rw [if_pos rfl] at h
      refine lv_aload hx hb dL_tally_0 (lv_at hl 4 rfl) ?_
      refine lv_iconst (v := (0 : Int32)) hx hb dL_tally_2 (by decide) ?_
      refine lv_aload_n hx hb dL_tally_3 rfl (lv_at hl 0 rfl) ?_
      refine lv_iload_n hx hb dL_tally_4 rfl (lv_at hl 1 rfl) ?_
      refine lv_iload_n hx hb dL_tally_5 rfl (lv_at hl 2 rfl) ?_
      refine lv_iload_n hx hb dL_tally_6 rfl (lv_at hl 3 rfl) ?_
      refine cVK (b := 0) (As := [.int v1, .int v2, .int v3]) (rest := [.int (0 : Int32), .ref (g.2.2 201)]) (k := 1) hC hw (x_X11_tally l hst g n v1 v2 v3 μ 1 m1 hq) ml_L_48 im_X11_tally se_X11_tally ok0 (CN := RX11) (T := TX11) (NF := 12) rfl rfl (by decide) rfl hl.1 ⟨Nat.le_of_ble_eq_true rfl, Nat.le_of_ble_eq_true rfl⟩ (Nat.le_of_ble_eq_true rfl) ⟨Nat.le_refl 1, Nat.le_refl 6⟩ dL_tally_7 (fun ce q H locs hw hce hcv hcl => ?_)
      refine vx_catch (own := RL) (name := "java/lang/IllegalArgumentException") (E := exN.getD 1 "") hC.2.2.2.1 [⟨0, 12, 15, 18⟩] ⟨0, 12, 19, 13⟩ [⟨0, 12, 23, 27⟩] (by rw [htab]; rfl) (fun z hz => by
      rcases List.mem_cons.mp hz with rfl | hz
      · exact Or.inr ⟨by decide, "java/util/NoSuchElementException", hC.2.2.2.2.1 _ (gi5 80 rfl rfl), hC.2.2.2.2.2.1.2.1.2 1 0 (by decide) (by decide) (by decide)⟩
      cases hz) (by decide) (by decide) (hC.2.2.2.2.1 _ (gi4 96 rfl rfl)) (nest_use xcs1 (hC.2.2.2.2.2.1.2.1.1 _ xcs1)) hce hcv hcl ?_
      refine lv_astore (lv' := (5, .ref q) :: [(0, .ref (g.2.2 0)), (1, .int v1), (2, .int v2), (3, .int v3), (4, .ref (g.2.2 201))]) hx hb dL_tally_19 hl (by decide) rfl (fun ls hl => ?_)
      refine lv_iconst (v := 2) hx hb dL_tally_21 (by decide) ?_
      exact vx_ret (rI hC hw hr hlocks (by rw [← Option.some.inj h]) (by rw [← Option.some.inj h]) dL_tally_22)
    by_cases hk2 : k = 2
    · subst hk2
      rw [if_neg (by decide)] at h
      rw [if_neg (by decide)] at h
      rw [if_pos rfl] at h
      refine lv_aload hx hb dL_tally_0 (lv_at hl 4 rfl) ?_
      refine lv_iconst (v := (0 : Int32)) hx hb dL_tally_2 (by decide) ?_
      refine lv_aload_n hx hb dL_tally_3 rfl (lv_at hl 0 rfl) ?_
      refine lv_iload_n hx hb dL_tally_4 rfl (lv_at hl 1 rfl) ?_
      refine lv_iload_n hx hb dL_tally_5 rfl (lv_at hl 2 rfl) ?_
      refine lv_iload_n hx hb dL_tally_6 rfl (lv_at hl 3 rfl) ?_
      refine cVK (b := 0) (As := [.int v1, .int v2, .int v3]) (rest := [.int (0 : Int32), .ref (g.2.2 201)]) (k := 2) hC hw (x_X11_tally l hst g n v1 v2 v3 μ 2 m1 hq) ml_L_48 im_X11_tally se_X11_tally ok0 (CN := RX11) (T := TX11) (NF := 12) rfl rfl (by decide) rfl hl.1 ⟨Nat.le_of_ble_eq_true rfl, Nat.le_of_ble_eq_true rfl⟩ (Nat.le_of_ble_eq_true rfl) ⟨Nat.le_refl 1, Nat.le_refl 6⟩ dL_tally_7 (fun ce q H locs hw hce hcv hcl => ?_)
      refine vx_catch (own := RL) (name := "java/lang/IllegalStateException") (E := exN.getD 2 "") hC.2.2.2.1 [⟨0, 12, 15, 18⟩, ⟨0, 12, 19, 13⟩] ⟨0, 12, 23, 27⟩ [] (by rw [htab]; rfl) (fun z hz => by
      rcases List.mem_cons.mp hz with rfl | hz
      · exact Or.inr ⟨by decide, "java/util/NoSuchElementException", hC.2.2.2.2.1 _ (gi5 80 rfl rfl), hC.2.2.2.2.2.1.2.1.2 2 0 (by decide) (by decide) (by decide)⟩
      rcases List.mem_cons.mp hz with rfl | hz
      · exact Or.inr ⟨by decide, "java/lang/IllegalArgumentException", hC.2.2.2.2.1 _ (gi4 96 rfl rfl), hC.2.2.2.2.2.1.2.1.2 2 1 (by decide) (by decide) (by decide)⟩
      cases hz) (by decide) (by decide) (hC.2.2.2.2.1 _ (gi5 120 rfl rfl)) (nest_use xcs2 (hC.2.2.2.2.2.1.2.1.1 _ xcs2)) hce hcv hcl ?_
      refine lv_astore (lv' := (5, .ref q) :: [(0, .ref (g.2.2 0)), (1, .int v1), (2, .int v2), (3, .int v3), (4, .ref (g.2.2 201))]) hx hb dL_tally_23 hl (by decide) rfl (fun ls hl => ?_)
      refine lv_iconst (v := 3) hx hb dL_tally_25 (by decide) ?_
      exact vx_ret (rI hC hw hr hlocks (by rw [← Option.some.inj h]) (by rw [← Option.some.inj h]) dL_tally_26)
    rw [if_neg hk0] at h
    rw [if_neg hk1] at h
    rw [if_neg hk2] at h
    cases h
set_option maxRecDepth 100000 in
set_option maxHeartbeats 4000000 in
theorem c_L_row (l : Launch) (hst : l.stackTraces = false) (g : Gw) (n : Nat) (v1 : Int32) (v2 : Int32) (v3 : Int32) (v4 : Int32) (μ : Mu) (r : Int32 × Mu) (h : L_row n v1 v2 v3 v4 μ = some r) : CtW l g yL_row cL_row 7 (some .int) [(0, 14, 17, 18), (0, 14, 21, 13), (0, 14, 25, 27)] 9 [.ref (g.2.2 0), .int v1, .int v2, .int v3, .int v4, .ref (g.2.2 201)] μ (some (.int r.1)) r.2 := by
  rw [L_row] at h
  refine CtW.of (by decide) (Nat.le_of_ble_eq_true rfl) ?_
  intro p e s m args below meth c ls hC hw hr hlocks htab hl
  have hx := hC.1
  have hb := hC.2.1
  have hl : lv_has ls 7 [(0, .ref (g.2.2 0)), (1, .int v1), (2, .int v2), (3, .int v3), (4, .int v4), (5, .ref (g.2.2 201))] := hl
  match hq : X11_row n v1 v2 v3 v4 μ, h with
  | some (.inl v, m1), h =>
    refine lv_aload hx hb dL_row_0 (lv_at hl 5 rfl) ?_
    refine lv_iconst (v := (0 : Int32)) hx hb dL_row_2 (by decide) ?_
    refine lv_aload_n hx hb dL_row_3 rfl (lv_at hl 0 rfl) ?_
    refine lv_iload_n hx hb dL_row_4 rfl (lv_at hl 1 rfl) ?_
    refine lv_iload_n hx hb dL_row_5 rfl (lv_at hl 2 rfl) ?_
    refine lv_iload_n hx hb dL_row_6 rfl (lv_at hl 3 rfl) ?_
    refine lv_iload hx hb dL_row_7 (lv_at hl 4 rfl) ?_
    refine cV (b := 0) (As := [.int v1, .int v2, .int v3, .int v4]) (rest := [.int (0 : Int32), .ref (g.2.2 201)]) (st1 := [.int v, .int (0 : Int32), .ref (g.2.2 201)]) hC hw (c_X11_row l g n v1 v2 v3 v4 μ (v, m1) hq) ml_L_51 im_X11_row se_X11_row ok0 (CN := RX11) (T := TX11) (NF := 12) rfl rfl (by decide) rfl hl.1 ⟨Nat.le_of_ble_eq_true rfl, Nat.le_of_ble_eq_true rfl⟩ (Nat.le_of_ble_eq_true rfl) ⟨Nat.zero_le _, Nat.zero_le _⟩ rfl dL_row_9 (fun H locs hw => ?_)
    refine lv_i2l hx hb dL_row_12 rfl ?_
    refine sJ (j := 0) hC hw ok201 on201 (vin (by decide)) (by decide) dL_row_13 (fun H locs hw => ?_)
    refine lv_goto (tgt := 29) hx hb dL_row_14 (by decide) ?_
    refine lv_iconst (v := 0) hx hb dL_row_29 (by decide) ?_
    exact vx_ret (W.widen (k := 1) (n := 6) (by decide) (by decide) (rI hC hw hr hlocks (by rw [← Option.some.inj h]) (by rw [← Option.some.inj h]) dL_row_30))
  | some (.inr k, m1), h =>
    dsimp only at h
    by_cases hk0 : k = 0
    · subst hk0
      rw [if_pos rfl] at h
      refine lv_aload hx hb dL_row_0 (lv_at hl 5 rfl) ?_
      refine lv_iconst (v := (0 : Int32)) hx hb dL_row_2 (by decide) ?_
      refine lv_aload_n hx hb dL_row_3 rfl (lv_at hl 0 rfl) ?_
      refine lv_iload_n hx hb dL_row_4 rfl (lv_at hl 1 rfl) ?_
      refine lv_iload_n hx hb dL_row_5 rfl (lv_at hl 2 rfl) ?_
      refine lv_iload_n hx hb dL_row_6 rfl (lv_at hl 3 rfl) ?_
      refine lv_iload hx hb dL_row_7 (lv_at hl 4 rfl) ?_
      refine cVK (b := 0) (As := [.int v1, .int v2, .int v3, .int v4]) (rest := [.int (0 : Int32), .ref (g.2.2 201)]) (k := 0) hC hw (x_X11_row l hst g n v1 v2 v3 v4 μ 0 m1 hq) ml_L_51 im_X11_row se_X11_row ok0 (CN := RX11) (T := TX11) (NF := 12) rfl rfl (by decide) rfl hl.1 ⟨Nat.le_of_ble_eq_true rfl, Nat.le_of_ble_eq_true rfl⟩ (Nat.le_of_ble_eq_true rfl) ⟨Nat.le_refl 1, Nat.le_refl 6⟩ dL_row_9 (fun ce q H locs hw hce hcv hcl => ?_)
      refine vx_catch (own := RL) (name := "java/util/NoSuchElementException") (E := exN.getD 0 "") hC.2.2.2.1 [] ⟨0, 14, 17, 18⟩ [⟨0, 14, 21, 13⟩, ⟨0, 14, 25, 27⟩] (by rw [htab]; rfl) (fun z hz => nomatch hz) (by decide) (by decide) (hC.2.2.2.2.1 _ (gi5 80 rfl rfl)) (nest_use xcs0 (hC.2.2.2.2.2.1.2.1.1 _ xcs0)) hce hcv hcl ?_
      refine lv_astore (lv' := (6, .ref q) :: [(0, .ref (g.2.2 0)), (1, .int v1), (2, .int v2), (3, .int v3), (4, .int v4), (5, .ref (g.2.2 201))]) hx hb dL_row_17 hl (by decide) rfl (fun ls hl => ?_)
      refine lv_iconst (v := 1) hx hb dL_row_19 (by decide) ?_
      exact vx_ret (rI hC hw hr hlocks (by rw [← Option.some.inj h]) (by rw [← Option.some.inj h]) dL_row_20)
    by_cases hk1 : k = 1
    · subst hk1
      rw [if_neg (by decide)] at h
      rw [if_pos rfl] at h
      refine lv_aload hx hb dL_row_0 (lv_at hl 5 rfl) ?_
      refine lv_iconst (v := (0 : Int32)) hx hb dL_row_2 (by decide) ?_
      refine lv_aload_n hx hb dL_row_3 rfl (lv_at hl 0 rfl) ?_
      refine lv_iload_n hx hb dL_row_4 rfl (lv_at hl 1 rfl) ?_
      refine lv_iload_n hx hb dL_row_5 rfl (lv_at hl 2 rfl) ?_
      refine lv_iload_n hx hb dL_row_6 rfl (lv_at hl 3 rfl) ?_
      refine lv_iload hx hb dL_row_7 (lv_at hl 4 rfl) ?_
      refine cVK (b := 0) (As := [.int v1, .int v2, .int v3, .int v4]) (rest := [.int (0 : Int32), .ref (g.2.2 201)]) (k := 1) hC hw (x_X11_row l hst g n v1 v2 v3 v4 μ 1 m1 hq) ml_L_51 im_X11_row se_X11_row ok0 (CN := RX11) (T := TX11) (NF := 12) rfl rfl (by decide) rfl hl.1 ⟨Nat.le_of_ble_eq_true rfl, Nat.le_of_ble_eq_true rfl⟩ (Nat.le_of_ble_eq_true rfl) ⟨Nat.le_refl 1, Nat.le_refl 6⟩ dL_row_9 (fun ce q H locs hw hce hcv hcl => ?_)
      refine vx_catch (own := RL) (name := "java/lang/IllegalArgumentException") (E := exN.getD 1 "") hC.2.2.2.1 [⟨0, 14, 17, 18⟩] ⟨0, 14, 21, 13⟩ [⟨0, 14, 25, 27⟩] (by rw [htab]; rfl) (fun z hz => by
      rcases List.mem_cons.mp hz with rfl | hz
      · exact Or.inr ⟨by decide, "java/util/NoSuchElementException", hC.2.2.2.2.1 _ (gi5 80 rfl rfl), hC.2.2.2.2.2.1.2.1.2 1 0 (by decide) (by decide) (by decide)⟩
      cases hz) (by decide) (by decide) (hC.2.2.2.2.1 _ (gi4 96 rfl rfl)) (nest_use xcs1 (hC.2.2.2.2.2.1.2.1.1 _ xcs1)) hce hcv hcl ?_
      refine lv_astore (lv' := (6, .ref q) :: [(0, .ref (g.2.2 0)), (1, .int v1), (2, .int v2), (3, .int v3), (4, .int v4), (5, .ref (g.2.2 201))]) hx hb dL_row_21 hl (by decide) rfl (fun ls hl => ?_)
      refine lv_iconst (v := 2) hx hb dL_row_23 (by decide) ?_
      exact vx_ret (rI hC hw hr hlocks (by rw [← Option.some.inj h]) (by rw [← Option.some.inj h]) dL_row_24)
    by_cases hk2 : k = 2
    · subst hk2
      rw [if_neg (by decide)] at h
      rw [if_neg (by decide)] at h
      rw [if_pos rfl] at h
      refine lv_aload hx hb dL_row_0 (lv_at hl 5 rfl) ?_
      refine lv_iconst (v := (0 : Int32)) hx hb dL_row_2 (by decide) ?_
      refine lv_aload_n hx hb dL_row_3 rfl (lv_at hl 0 rfl) ?_
      refine lv_iload_n hx hb dL_row_4 rfl (lv_at hl 1 rfl) ?_
      refine lv_iload_n hx hb dL_row_5 rfl (lv_at hl 2 rfl) ?_
      refine lv_iload_n hx hb dL_row_6 rfl (lv_at hl 3 rfl) ?_
      refine lv_iload hx hb dL_row_7 (lv_at hl 4 rfl) ?_
      refine cVK (b := 0) (As := [.int v1, .int v2, .int v3, .int v4]) (rest := [.int (0 : Int32), .ref (g.2.2 201)]) (k := 2) hC hw (x_X11_row l hst g n v1 v2 v3 v4 μ 2 m1 hq) ml_L_51 im_X11_row se_X11_row ok0 (CN := RX11) (T := TX11) (NF := 12) rfl rfl (by decide) rfl hl.1 ⟨Nat.le_of_ble_eq_true rfl, Nat.le_of_ble_eq_true rfl⟩ (Nat.le_of_ble_eq_true rfl) ⟨Nat.le_refl 1, Nat.le_refl 6⟩ dL_row_9 (fun ce q H locs hw hce hcv hcl => ?_)
      refine vx_catch (own := RL) (name := "java/lang/IllegalStateException") (E := exN.getD 2 "") hC.2.2.2.1 [⟨0, 14, 17, 18⟩, ⟨0, 14, 21, 13⟩] ⟨0, 14, 25, 27⟩ [] (by rw [htab]; rfl) (fun z hz => by
      rcases List.mem_cons.mp hz with rfl | hz
      · exact Or.inr ⟨by decide, "java/util/NoSuchElementException", hC.2.2.2.2.1 _ (gi5 80 rfl rfl), hC.2.2.2.2.2.1.2.1.2 2 0 (by decide) (by decide) (by decide)⟩
      rcases List.mem_cons.mp hz with rfl | hz
      · exact Or.inr ⟨by decide, "java/lang/IllegalArgumentException", hC.2.2.2.2.1 _ (gi4 96 rfl rfl), hC.2.2.2.2.2.1.2.1.2 2 1 (by decide) (by decide) (by decide)⟩
      cases hz) (by decide) (by decide) (hC.2.2.2.2.1 _ (gi5 120 rfl rfl)) (nest_use xcs2 (hC.2.2.2.2.2.1.2.1.1 _ xcs2)) hce hcv hcl ?_
      refine lv_astore (lv' := (6, .ref q) :: [(0, .ref (g.2.2 0)), (1, .int v1), (2, .int v2), (3, .int v3), (4, .int v4), (5, .ref (g.2.2 201))]) hx hb dL_row_25 hl (by decide) rfl (fun ls hl => ?_)
      refine lv_iconst (v := 3) hx hb dL_row_27 (by decide) ?_
      exact vx_ret (rI hC hw hr hlocks (by rw [← Option.some.inj h]) (by rw [← Option.some.inj h]) dL_row_28)
    rw [if_neg hk0] at h
    rw [if_neg hk1] at h
    rw [if_neg hk2] at h
    cases h
set_option maxRecDepth 100000 in
set_option maxHeartbeats 4000000 in
theorem c_L_find (l : Launch) (hst : l.stackTraces = false) (g : Gw) (n : Nat) (v1 : Int32) (v2 : Int32) (v3 : Int32) (v4 : Int32) (μ : Mu) (r : Int32 × Mu) (h : L_find n v1 v2 v3 v4 μ = some r) : CtW l g yL_find cL_find 7 (some .int) [(0, 14, 17, 18), (0, 14, 21, 13), (0, 14, 25, 27)] 8 [.ref (g.2.2 0), .int v1, .int v2, .int v3, .int v4, .ref (g.2.2 201)] μ (some (.int r.1)) r.2 := by
  rw [L_find] at h
  refine CtW.of (by decide) (Nat.le_of_ble_eq_true rfl) ?_
  intro p e s m args below meth c ls hC hw hr hlocks htab hl
  have hx := hC.1
  have hb := hC.2.1
  have hl : lv_has ls 7 [(0, .ref (g.2.2 0)), (1, .int v1), (2, .int v2), (3, .int v3), (4, .int v4), (5, .ref (g.2.2 201))] := hl
  match hq : X11_find n v1 v2 v3 v4 μ, h with
  | some (.inl v, m1), h =>
    refine lv_aload hx hb dL_find_0 (lv_at hl 5 rfl) ?_
    refine lv_iconst (v := (0 : Int32)) hx hb dL_find_2 (by decide) ?_
    refine lv_aload_n hx hb dL_find_3 rfl (lv_at hl 0 rfl) ?_
    refine lv_iload_n hx hb dL_find_4 rfl (lv_at hl 1 rfl) ?_
    refine lv_iload_n hx hb dL_find_5 rfl (lv_at hl 2 rfl) ?_
    refine lv_iload_n hx hb dL_find_6 rfl (lv_at hl 3 rfl) ?_
    refine lv_iload hx hb dL_find_7 (lv_at hl 4 rfl) ?_
    refine cV (b := 0) (As := [.int v1, .int v2, .int v3, .int v4]) (rest := [.int (0 : Int32), .ref (g.2.2 201)]) (st1 := [.int v, .int (0 : Int32), .ref (g.2.2 201)]) hC hw (c_X11_find l g n v1 v2 v3 v4 μ (v, m1) hq) ml_L_54 im_X11_find se_X11_find ok0 (CN := RX11) (T := TX11) (NF := 12) rfl rfl (by decide) rfl hl.1 ⟨Nat.le_of_ble_eq_true rfl, Nat.le_of_ble_eq_true rfl⟩ (Nat.le_of_ble_eq_true rfl) ⟨Nat.zero_le _, Nat.zero_le _⟩ rfl dL_find_9 (fun H locs hw => ?_)
    refine lv_i2l hx hb dL_find_12 rfl ?_
    refine sJ (j := 0) hC hw ok201 on201 (vin (by decide)) (by decide) dL_find_13 (fun H locs hw => ?_)
    refine lv_goto (tgt := 29) hx hb dL_find_14 (by decide) ?_
    refine lv_iconst (v := 0) hx hb dL_find_29 (by decide) ?_
    exact vx_ret (W.widen (k := 1) (n := 6) (by decide) (by decide) (rI hC hw hr hlocks (by rw [← Option.some.inj h]) (by rw [← Option.some.inj h]) dL_find_30))
  | some (.inr k, m1), h =>
    dsimp only at h
    by_cases hk0 : k = 0
    · subst hk0
      rw [if_pos rfl] at h
      refine lv_aload hx hb dL_find_0 (lv_at hl 5 rfl) ?_
      refine lv_iconst (v := (0 : Int32)) hx hb dL_find_2 (by decide) ?_
      refine lv_aload_n hx hb dL_find_3 rfl (lv_at hl 0 rfl) ?_
      refine lv_iload_n hx hb dL_find_4 rfl (lv_at hl 1 rfl) ?_
      refine lv_iload_n hx hb dL_find_5 rfl (lv_at hl 2 rfl) ?_
      refine lv_iload_n hx hb dL_find_6 rfl (lv_at hl 3 rfl) ?_
      refine lv_iload hx hb dL_find_7 (lv_at hl 4 rfl) ?_
      refine cVK (b := 0) (As := [.int v1, .int v2, .int v3, .int v4]) (rest := [.int (0 : Int32), .ref (g.2.2 201)]) (k := 0) hC hw (x_X11_find l hst g n v1 v2 v3 v4 μ 0 m1 hq) ml_L_54 im_X11_find se_X11_find ok0 (CN := RX11) (T := TX11) (NF := 12) rfl rfl (by decide) rfl hl.1 ⟨Nat.le_of_ble_eq_true rfl, Nat.le_of_ble_eq_true rfl⟩ (Nat.le_of_ble_eq_true rfl) ⟨Nat.le_refl 1, Nat.le_refl 6⟩ dL_find_9 (fun ce q H locs hw hce hcv hcl => ?_)
      refine vx_catch (own := RL) (name := "java/util/NoSuchElementException") (E := exN.getD 0 "") hC.2.2.2.1 [] ⟨0, 14, 17, 18⟩ [⟨0, 14, 21, 13⟩, ⟨0, 14, 25, 27⟩] (by rw [htab]; rfl) (fun z hz => nomatch hz) (by decide) (by decide) (hC.2.2.2.2.1 _ (gi5 80 rfl rfl)) (nest_use xcs0 (hC.2.2.2.2.2.1.2.1.1 _ xcs0)) hce hcv hcl ?_
      refine lv_astore (lv' := (6, .ref q) :: [(0, .ref (g.2.2 0)), (1, .int v1), (2, .int v2), (3, .int v3), (4, .int v4), (5, .ref (g.2.2 201))]) hx hb dL_find_17 hl (by decide) rfl (fun ls hl => ?_)
      refine lv_iconst (v := 1) hx hb dL_find_19 (by decide) ?_
      exact vx_ret (rI hC hw hr hlocks (by rw [← Option.some.inj h]) (by rw [← Option.some.inj h]) dL_find_20)
    by_cases hk1 : k = 1
    · subst hk1
      rw [if_neg (by decide)] at h
      rw [if_pos rfl] at h
      refine lv_aload hx hb dL_find_0 (lv_at hl 5 rfl) ?_
      refine lv_iconst (v := (0 : Int32)) hx hb dL_find_2 (by decide) ?_
      refine lv_aload_n hx hb dL_find_3 rfl (lv_at hl 0 rfl) ?_
      refine lv_iload_n hx hb dL_find_4 rfl (lv_at hl 1 rfl) ?_
      refine lv_iload_n hx hb dL_find_5 rfl (lv_at hl 2 rfl) ?_
      refine lv_iload_n hx hb dL_find_6 rfl (lv_at hl 3 rfl) ?_
      refine lv_iload hx hb dL_find_7 (lv_at hl 4 rfl) ?_
      refine cVK (b := 0) (As := [.int v1, .int v2, .int v3, .int v4]) (rest := [.int (0 : Int32), .ref (g.2.2 201)]) (k := 1) hC hw (x_X11_find l hst g n v1 v2 v3 v4 μ 1 m1 hq) ml_L_54 im_X11_find se_X11_find ok0 (CN := RX11) (T := TX11) (NF := 12) rfl rfl (by decide) rfl hl.1 ⟨Nat.le_of_ble_eq_true rfl, Nat.le_of_ble_eq_true rfl⟩ (Nat.le_of_ble_eq_true rfl) ⟨Nat.le_refl 1, Nat.le_refl 6⟩ dL_find_9 (fun ce q H locs hw hce hcv hcl => ?_)
      refine vx_catch (own := RL) (name := "java/lang/IllegalArgumentException") (E := exN.getD 1 "") hC.2.2.2.1 [⟨0, 14, 17, 18⟩] ⟨0, 14, 21, 13⟩ [⟨0, 14, 25, 27⟩] (by rw [htab]; rfl) (fun z hz => by
      rcases List.mem_cons.mp hz with rfl | hz
      · exact Or.inr ⟨by decide, "java/util/NoSuchElementException", hC.2.2.2.2.1 _ (gi5 80 rfl rfl), hC.2.2.2.2.2.1.2.1.2 1 0 (by decide) (by decide) (by decide)⟩
      cases hz) (by decide) (by decide) (hC.2.2.2.2.1 _ (gi4 96 rfl rfl)) (nest_use xcs1 (hC.2.2.2.2.2.1.2.1.1 _ xcs1)) hce hcv hcl ?_
      refine lv_astore (lv' := (6, .ref q) :: [(0, .ref (g.2.2 0)), (1, .int v1), (2, .int v2), (3, .int v3), (4, .int v4), (5, .ref (g.2.2 201))]) hx hb dL_find_21 hl (by decide) rfl (fun ls hl => ?_)
      refine lv_iconst (v := 2) hx hb dL_find_23 (by decide) ?_
      exact vx_ret (rI hC hw hr hlocks (by rw [← Option.some.inj h]) (by rw [← Option.some.inj h]) dL_find_24)
    by_cases hk2 : k = 2
    · subst hk2
      rw [if_neg (by decide)] at h
      rw [if_neg (by decide)] at h
      rw [if_pos rfl] at h
      refine lv_aload hx hb dL_find_0 (lv_at hl 5 rfl) ?_
      refine lv_iconst (v := (0 : Int32)) hx hb dL_find_2 (by decide) ?_
      refine lv_aload_n hx hb dL_find_3 rfl (lv_at hl 0 rfl) ?_
      refine lv_iload_n hx hb dL_find_4 rfl (lv_at hl 1 rfl) ?_
      refine lv_iload_n hx hb dL_find_5 rfl (lv_at hl 2 rfl) ?_
      refine lv_iload_n hx hb dL_find_6 rfl (lv_at hl 3 rfl) ?_
      refine lv_iload hx hb dL_find_7 (lv_at hl 4 rfl) ?_
      refine cVK (b := 0) (As := [.int v1, .int v2, .int v3, .int v4]) (rest := [.int (0 : Int32), .ref (g.2.2 201)]) (k := 2) hC hw (x_X11_find l hst g n v1 v2 v3 v4 μ 2 m1 hq) ml_L_54 im_X11_find se_X11_find ok0 (CN := RX11) (T := TX11) (NF := 12) rfl rfl (by decide) rfl hl.1 ⟨Nat.le_of_ble_eq_true rfl, Nat.le_of_ble_eq_true rfl⟩ (Nat.le_of_ble_eq_true rfl) ⟨Nat.le_refl 1, Nat.le_refl 6⟩ dL_find_9 (fun ce q H locs hw hce hcv hcl => ?_)
      refine vx_catch (own := RL) (name := "java/lang/IllegalStateException") (E := exN.getD 2 "") hC.2.2.2.1 [⟨0, 14, 17, 18⟩, ⟨0, 14, 21, 13⟩] ⟨0, 14, 25, 27⟩ [] (by rw [htab]; rfl) (fun z hz => by
      rcases List.mem_cons.mp hz with rfl | hz
      · exact Or.inr ⟨by decide, "java/util/NoSuchElementException", hC.2.2.2.2.1 _ (gi5 80 rfl rfl), hC.2.2.2.2.2.1.2.1.2 2 0 (by decide) (by decide) (by decide)⟩
      rcases List.mem_cons.mp hz with rfl | hz
      · exact Or.inr ⟨by decide, "java/lang/IllegalArgumentException", hC.2.2.2.2.1 _ (gi4 96 rfl rfl), hC.2.2.2.2.2.1.2.1.2 2 1 (by decide) (by decide) (by decide)⟩
      cases hz) (by decide) (by decide) (hC.2.2.2.2.1 _ (gi5 120 rfl rfl)) (nest_use xcs2 (hC.2.2.2.2.2.1.2.1.1 _ xcs2)) hce hcv hcl ?_
      refine lv_astore (lv' := (6, .ref q) :: [(0, .ref (g.2.2 0)), (1, .int v1), (2, .int v2), (3, .int v3), (4, .int v4), (5, .ref (g.2.2 201))]) hx hb dL_find_25 hl (by decide) rfl (fun ls hl => ?_)
      refine lv_iconst (v := 3) hx hb dL_find_27 (by decide) ?_
      exact vx_ret (rI hC hw hr hlocks (by rw [← Option.some.inj h]) (by rw [← Option.some.inj h]) dL_find_28)
    rw [if_neg hk0] at h
    rw [if_neg hk1] at h
    rw [if_neg hk2] at h
    cases h
set_option maxRecDepth 100000 in
set_option maxHeartbeats 4000000 in
theorem c_L_most (l : Launch) (hst : l.stackTraces = false) (g : Gw) (n : Nat) (v1 : Int32) (v2 : Int32) (v3 : Int32) (μ : Mu) (r : Int32 × Mu) (h : L_most n v1 v2 v3 μ = some r) : CtW l g yL_most cL_most 6 (some .int) [(0, 12, 15, 18), (0, 12, 19, 13), (0, 12, 23, 27)] 8 [.ref (g.2.2 0), .int v1, .int v2, .int v3, .ref (g.2.2 201)] μ (some (.int r.1)) r.2 := by
  rw [L_most] at h
  refine CtW.of (by decide) (Nat.le_of_ble_eq_true rfl) ?_
  intro p e s m args below meth c ls hC hw hr hlocks htab hl
  have hx := hC.1
  have hb := hC.2.1
  have hl : lv_has ls 6 [(0, .ref (g.2.2 0)), (1, .int v1), (2, .int v2), (3, .int v3), (4, .ref (g.2.2 201))] := hl
  match hq : X11_most n v1 v2 v3 μ, h with
  | some (.inl v, m1), h =>
    refine lv_aload hx hb dL_most_0 (lv_at hl 4 rfl) ?_
    refine lv_iconst (v := (0 : Int32)) hx hb dL_most_2 (by decide) ?_
    refine lv_aload_n hx hb dL_most_3 rfl (lv_at hl 0 rfl) ?_
    refine lv_iload_n hx hb dL_most_4 rfl (lv_at hl 1 rfl) ?_
    refine lv_iload_n hx hb dL_most_5 rfl (lv_at hl 2 rfl) ?_
    refine lv_iload_n hx hb dL_most_6 rfl (lv_at hl 3 rfl) ?_
    refine cV (b := 0) (As := [.int v1, .int v2, .int v3]) (rest := [.int (0 : Int32), .ref (g.2.2 201)]) (st1 := [.int v, .int (0 : Int32), .ref (g.2.2 201)]) hC hw (c_X11_most l g n v1 v2 v3 μ (v, m1) hq) ml_L_57 im_X11_most se_X11_most ok0 (CN := RX11) (T := TX11) (NF := 12) rfl rfl (by decide) rfl hl.1 ⟨Nat.le_of_ble_eq_true rfl, Nat.le_of_ble_eq_true rfl⟩ (Nat.le_of_ble_eq_true rfl) ⟨Nat.zero_le _, Nat.zero_le _⟩ rfl dL_most_7 (fun H locs hw => ?_)
    refine lv_i2l hx hb dL_most_10 rfl ?_
    refine sJ (j := 0) hC hw ok201 on201 (vin (by decide)) (by decide) dL_most_11 (fun H locs hw => ?_)
    refine lv_goto (tgt := 27) hx hb dL_most_12 (by decide) ?_
    refine lv_iconst (v := 0) hx hb dL_most_27 (by decide) ?_
    exact vx_ret (W.widen (k := 1) (n := 6) (by decide) (by decide) (rI hC hw hr hlocks (by rw [← Option.some.inj h]) (by rw [← Option.some.inj h]) dL_most_28))
  | some (.inr k, m1), h =>
    dsimp only at h
    by_cases hk0 : k = 0
    · subst hk0
      rw [if_pos rfl] at h
      refine lv_aload hx hb dL_most_0 (lv_at hl 4 rfl) ?_
      refine lv_iconst (v := (0 : Int32)) hx hb dL_most_2 (by decide) ?_
      refine lv_aload_n hx hb dL_most_3 rfl (lv_at hl 0 rfl) ?_
      refine lv_iload_n hx hb dL_most_4 rfl (lv_at hl 1 rfl) ?_
      refine lv_iload_n hx hb dL_most_5 rfl (lv_at hl 2 rfl) ?_
      refine lv_iload_n hx hb dL_most_6 rfl (lv_at hl 3 rfl) ?_
      refine cVK (b := 0) (As := [.int v1, .int v2, .int v3]) (rest := [.int (0 : Int32), .ref (g.2.2 201)]) (k := 0) hC hw (x_X11_most l hst g n v1 v2 v3 μ 0 m1 hq) ml_L_57 im_X11_most se_X11_most ok0 (CN := RX11) (T := TX11) (NF := 12) rfl rfl (by decide) rfl hl.1 ⟨Nat.le_of_ble_eq_true rfl, Nat.le_of_ble_eq_true rfl⟩ (Nat.le_of_ble_eq_true rfl) ⟨Nat.le_refl 1, Nat.le_refl 6⟩ dL_most_7 (fun ce q H locs hw hce hcv hcl => ?_)
      refine vx_catch (own := RL) (name := "java/util/NoSuchElementException") (E := exN.getD 0 "") hC.2.2.2.1 [] ⟨0, 12, 15, 18⟩ [⟨0, 12, 19, 13⟩, ⟨0, 12, 23, 27⟩] (by rw [htab]; rfl) (fun z hz => nomatch hz) (by decide) (by decide) (hC.2.2.2.2.1 _ (gi5 80 rfl rfl)) (nest_use xcs0 (hC.2.2.2.2.2.1.2.1.1 _ xcs0)) hce hcv hcl ?_
      refine lv_astore (lv' := (5, .ref q) :: [(0, .ref (g.2.2 0)), (1, .int v1), (2, .int v2), (3, .int v3), (4, .ref (g.2.2 201))]) hx hb dL_most_15 hl (by decide) rfl (fun ls hl => ?_)
      refine lv_iconst (v := 1) hx hb dL_most_17 (by decide) ?_
      exact vx_ret (rI hC hw hr hlocks (by rw [← Option.some.inj h]) (by rw [← Option.some.inj h]) dL_most_18)
    by_cases hk1 : k = 1
    · subst hk1
      rw [if_neg (by decide)] at h
      rw [if_pos rfl] at h
      refine lv_aload hx hb dL_most_0 (lv_at hl 4 rfl) ?_
      refine lv_iconst (v := (0 : Int32)) hx hb dL_most_2 (by decide) ?_
      refine lv_aload_n hx hb dL_most_3 rfl (lv_at hl 0 rfl) ?_
      refine lv_iload_n hx hb dL_most_4 rfl (lv_at hl 1 rfl) ?_
      refine lv_iload_n hx hb dL_most_5 rfl (lv_at hl 2 rfl) ?_
      refine lv_iload_n hx hb dL_most_6 rfl (lv_at hl 3 rfl) ?_
      refine cVK (b := 0) (As := [.int v1, .int v2, .int v3]) (rest := [.int (0 : Int32), .ref (g.2.2 201)]) (k := 1) hC hw (x_X11_most l hst g n v1 v2 v3 μ 1 m1 hq) ml_L_57 im_X11_most se_X11_most ok0 (CN := RX11) (T := TX11) (NF := 12) rfl rfl (by decide) rfl hl.1 ⟨Nat.le_of_ble_eq_true rfl, Nat.le_of_ble_eq_true rfl⟩ (Nat.le_of_ble_eq_true rfl) ⟨Nat.le_refl 1, Nat.le_refl 6⟩ dL_most_7 (fun ce q H locs hw hce hcv hcl => ?_)
      refine vx_catch (own := RL) (name := "java/lang/IllegalArgumentException") (E := exN.getD 1 "") hC.2.2.2.1 [⟨0, 12, 15, 18⟩] ⟨0, 12, 19, 13⟩ [⟨0, 12, 23, 27⟩] (by rw [htab]; rfl) (fun z hz => by
      rcases List.mem_cons.mp hz with rfl | hz
      · exact Or.inr ⟨by decide, "java/util/NoSuchElementException", hC.2.2.2.2.1 _ (gi5 80 rfl rfl), hC.2.2.2.2.2.1.2.1.2 1 0 (by decide) (by decide) (by decide)⟩
      cases hz) (by decide) (by decide) (hC.2.2.2.2.1 _ (gi4 96 rfl rfl)) (nest_use xcs1 (hC.2.2.2.2.2.1.2.1.1 _ xcs1)) hce hcv hcl ?_
      refine lv_astore (lv' := (5, .ref q) :: [(0, .ref (g.2.2 0)), (1, .int v1), (2, .int v2), (3, .int v3), (4, .ref (g.2.2 201))]) hx hb dL_most_19 hl (by decide) rfl (fun ls hl => ?_)
      refine lv_iconst (v := 2) hx hb dL_most_21 (by decide) ?_
      exact vx_ret (rI hC hw hr hlocks (by rw [← Option.some.inj h]) (by rw [← Option.some.inj h]) dL_most_22)
    by_cases hk2 : k = 2
    · subst hk2
      rw [if_neg (by decide)] at h
      rw [if_neg (by decide)] at h
      rw [if_pos rfl] at h
      refine lv_aload hx hb dL_most_0 (lv_at hl 4 rfl) ?_
      refine lv_iconst (v := (0 : Int32)) hx hb dL_most_2 (by decide) ?_
      refine lv_aload_n hx hb dL_most_3 rfl (lv_at hl 0 rfl) ?_
      refine lv_iload_n hx hb dL_most_4 rfl (lv_at hl 1 rfl) ?_
      refine lv_iload_n hx hb dL_most_5 rfl (lv_at hl 2 rfl) ?_
      refine lv_iload_n hx hb dL_most_6 rfl (lv_at hl 3 rfl) ?_
      refine cVK (b := 0) (As := [.int v1, .int v2, .int v3]) (rest := [.int (0 : Int32), .ref (g.2.2 201)]) (k := 2) hC hw (x_X11_most l hst g n v1 v2 v3 μ 2 m1 hq) ml_L_57 im_X11_most se_X11_most ok0 (CN := RX11) (T := TX11) (NF := 12) rfl rfl (by decide) rfl hl.1 ⟨Nat.le_of_ble_eq_true rfl, Nat.le_of_ble_eq_true rfl⟩ (Nat.le_of_ble_eq_true rfl) ⟨Nat.le_refl 1, Nat.le_refl 6⟩ dL_most_7 (fun ce q H locs hw hce hcv hcl => ?_)
      refine vx_catch (own := RL) (name := "java/lang/IllegalStateException") (E := exN.getD 2 "") hC.2.2.2.1 [⟨0, 12, 15, 18⟩, ⟨0, 12, 19, 13⟩] ⟨0, 12, 23, 27⟩ [] (by rw [htab]; rfl) (fun z hz => by
      rcases List.mem_cons.mp hz with rfl | hz
      · exact Or.inr ⟨by decide, "java/util/NoSuchElementException", hC.2.2.2.2.1 _ (gi5 80 rfl rfl), hC.2.2.2.2.2.1.2.1.2 2 0 (by decide) (by decide) (by decide)⟩
      rcases List.mem_cons.mp hz with rfl | hz
      · exact Or.inr ⟨by decide, "java/lang/IllegalArgumentException", hC.2.2.2.2.1 _ (gi4 96 rfl rfl), hC.2.2.2.2.2.1.2.1.2 2 1 (by decide) (by decide) (by decide)⟩
      cases hz) (by decide) (by decide) (hC.2.2.2.2.1 _ (gi5 120 rfl rfl)) (nest_use xcs2 (hC.2.2.2.2.2.1.2.1.1 _ xcs2)) hce hcv hcl ?_
      refine lv_astore (lv' := (5, .ref q) :: [(0, .ref (g.2.2 0)), (1, .int v1), (2, .int v2), (3, .int v3), (4, .ref (g.2.2 201))]) hx hb dL_most_23 hl (by decide) rfl (fun ls hl => ?_)
      refine lv_iconst (v := 3) hx hb dL_most_25 (by decide) ?_
      exact vx_ret (rI hC hw hr hlocks (by rw [← Option.some.inj h]) (by rw [← Option.some.inj h]) dL_most_26)
    rw [if_neg hk0] at h
    rw [if_neg hk1] at h
    rw [if_neg hk2] at h
    cases h
set_option maxRecDepth 100000 in
set_option maxHeartbeats 4000000 in
theorem c_L_line (l : Launch) (hst : l.stackTraces = false) (g : Gw) (n : Nat) (v1 : Int32) (μ : Mu) (r : Int32 × Mu) (h : L_line n v1 μ = some r) : CtW l g yL_line cL_line 4 (some .int) [(0, 9, 12, 13), (0, 9, 15, 27)] 8 [.ref (g.2.2 0), .int v1, .ref (g.2.2 201)] μ (some (.int r.1)) r.2 := by
  rw [L_line] at h
  refine CtW.of (by decide) (Nat.le_of_ble_eq_true rfl) ?_
  intro p e s m args below meth c ls hC hw hr hlocks htab hl
  have hx := hC.1
  have hb := hC.2.1
  have hl : lv_has ls 4 [(0, .ref (g.2.2 0)), (1, .int v1), (2, .ref (g.2.2 201))] := hl
  match hq : X11_line n v1 μ, h with
  | some (.inl v, m1), h =>
    refine lv_aload_n hx hb dL_line_0 rfl (lv_at hl 2 rfl) ?_
    refine lv_iconst (v := (0 : Int32)) hx hb dL_line_1 (by decide) ?_
    refine lv_aload_n hx hb dL_line_2 rfl (lv_at hl 0 rfl) ?_
    refine lv_iload_n hx hb dL_line_3 rfl (lv_at hl 1 rfl) ?_
    refine cV (b := 0) (As := [.int v1]) (rest := [.int (0 : Int32), .ref (g.2.2 201)]) (st1 := [.int v, .int (0 : Int32), .ref (g.2.2 201)]) hC hw (c_X11_line l g n v1 μ (v, m1) hq) ml_L_60 im_X11_line se_X11_line ok0 (CN := RX11) (T := TX11) (NF := 12) rfl rfl (by decide) rfl hl.1 ⟨Nat.le_of_ble_eq_true rfl, Nat.le_of_ble_eq_true rfl⟩ (Nat.le_of_ble_eq_true rfl) ⟨Nat.zero_le _, Nat.zero_le _⟩ rfl dL_line_4 (fun H locs hw => ?_)
    refine lv_i2l hx hb dL_line_7 rfl ?_
    refine sJ (j := 0) hC hw ok201 on201 (vin (by decide)) (by decide) dL_line_8 (fun H locs hw => ?_)
    refine lv_goto (tgt := 18) hx hb dL_line_9 (by decide) ?_
    refine lv_iconst (v := 0) hx hb dL_line_18 (by decide) ?_
    exact vx_ret (W.widen (k := 1) (n := 6) (by decide) (by decide) (rI hC hw hr hlocks (by rw [← Option.some.inj h]) (by rw [← Option.some.inj h]) dL_line_19))
  | some (.inr k, m1), h =>
    dsimp only at h
    by_cases hk1 : k = 1
    · subst hk1
      rw [if_pos rfl] at h
      refine lv_aload_n hx hb dL_line_0 rfl (lv_at hl 2 rfl) ?_
      refine lv_iconst (v := (0 : Int32)) hx hb dL_line_1 (by decide) ?_
      refine lv_aload_n hx hb dL_line_2 rfl (lv_at hl 0 rfl) ?_
      refine lv_iload_n hx hb dL_line_3 rfl (lv_at hl 1 rfl) ?_
      refine cVK (b := 0) (As := [.int v1]) (rest := [.int (0 : Int32), .ref (g.2.2 201)]) (k := 1) hC hw (x_X11_line l hst g n v1 μ 1 m1 hq) ml_L_60 im_X11_line se_X11_line ok0 (CN := RX11) (T := TX11) (NF := 12) rfl rfl (by decide) rfl hl.1 ⟨Nat.le_of_ble_eq_true rfl, Nat.le_of_ble_eq_true rfl⟩ (Nat.le_of_ble_eq_true rfl) ⟨Nat.le_refl 1, Nat.le_refl 6⟩ dL_line_4 (fun ce q H locs hw hce hcv hcl => ?_)
      refine vx_catch (own := RL) (name := "java/lang/IllegalArgumentException") (E := exN.getD 1 "") hC.2.2.2.1 [] ⟨0, 9, 12, 13⟩ [⟨0, 9, 15, 27⟩] (by rw [htab]; rfl) (fun z hz => nomatch hz) (by decide) (by decide) (hC.2.2.2.2.1 _ (gi4 96 rfl rfl)) (nest_use xcs1 (hC.2.2.2.2.2.1.2.1.1 _ xcs1)) hce hcv hcl ?_
      refine lv_astore_n (lv' := (3, .ref q) :: [(0, .ref (g.2.2 0)), (1, .int v1), (2, .ref (g.2.2 201))]) hx hb dL_line_12 rfl hl (by decide) rfl (fun ls hl => ?_)
      refine lv_iconst (v := 1) hx hb dL_line_13 (by decide) ?_
      exact vx_ret (rI hC hw hr hlocks (by rw [← Option.some.inj h]) (by rw [← Option.some.inj h]) dL_line_14)
    by_cases hk2 : k = 2
    · subst hk2
      rw [if_neg (by decide)] at h
      rw [if_pos rfl] at h
      refine lv_aload_n hx hb dL_line_0 rfl (lv_at hl 2 rfl) ?_
      refine lv_iconst (v := (0 : Int32)) hx hb dL_line_1 (by decide) ?_
      refine lv_aload_n hx hb dL_line_2 rfl (lv_at hl 0 rfl) ?_
      refine lv_iload_n hx hb dL_line_3 rfl (lv_at hl 1 rfl) ?_
      refine cVK (b := 0) (As := [.int v1]) (rest := [.int (0 : Int32), .ref (g.2.2 201)]) (k := 2) hC hw (x_X11_line l hst g n v1 μ 2 m1 hq) ml_L_60 im_X11_line se_X11_line ok0 (CN := RX11) (T := TX11) (NF := 12) rfl rfl (by decide) rfl hl.1 ⟨Nat.le_of_ble_eq_true rfl, Nat.le_of_ble_eq_true rfl⟩ (Nat.le_of_ble_eq_true rfl) ⟨Nat.le_refl 1, Nat.le_refl 6⟩ dL_line_4 (fun ce q H locs hw hce hcv hcl => ?_)
      refine vx_catch (own := RL) (name := "java/lang/IllegalStateException") (E := exN.getD 2 "") hC.2.2.2.1 [⟨0, 9, 12, 13⟩] ⟨0, 9, 15, 27⟩ [] (by rw [htab]; rfl) (fun z hz => by
      rcases List.mem_cons.mp hz with rfl | hz
      · exact Or.inr ⟨by decide, "java/lang/IllegalArgumentException", hC.2.2.2.2.1 _ (gi4 96 rfl rfl), hC.2.2.2.2.2.1.2.1.2 2 1 (by decide) (by decide) (by decide)⟩
      cases hz) (by decide) (by decide) (hC.2.2.2.2.1 _ (gi5 120 rfl rfl)) (nest_use xcs2 (hC.2.2.2.2.2.1.2.1.1 _ xcs2)) hce hcv hcl ?_
      refine lv_astore_n (lv' := (3, .ref q) :: [(0, .ref (g.2.2 0)), (1, .int v1), (2, .ref (g.2.2 201))]) hx hb dL_line_15 rfl hl (by decide) rfl (fun ls hl => ?_)
      refine lv_iconst (v := 2) hx hb dL_line_16 (by decide) ?_
      exact vx_ret (rI hC hw hr hlocks (by rw [← Option.some.inj h]) (by rw [← Option.some.inj h]) dL_line_17)
    rw [if_neg hk1] at h
    rw [if_neg hk2] at h
    cases h
set_option maxRecDepth 100000 in
set_option maxHeartbeats 4000000 in
theorem c_L_plays (l : Launch) (hst : l.stackTraces = false) (g : Gw) (n : Nat) (v1 : Int32) (μ : Mu) (r : Int32 × Mu) (h : L_plays n v1 μ = some r) : CtW l g yL_plays cL_plays 4 (some .int) [(0, 9, 12, 13)] 16 [.ref (g.2.2 0), .int v1, .ref (g.2.2 201)] μ (some (.int r.1)) r.2 := by
  rw [L_plays] at h
  refine CtW.of (by decide) (Nat.le_of_ble_eq_true rfl) ?_
  intro p e s m args below meth c ls hC hw hr hlocks htab hl
  have hx := hC.1
  have hb := hC.2.1
  have hl : lv_has ls 4 [(0, .ref (g.2.2 0)), (1, .int v1), (2, .ref (g.2.2 201))] := hl
  match hq : X11_plays n v1 μ, h with
  | some (.inl v, m1), h =>
    refine lv_aload_n hx hb dL_plays_0 rfl (lv_at hl 2 rfl) ?_
    refine lv_iconst (v := (0 : Int32)) hx hb dL_plays_1 (by decide) ?_
    refine lv_aload_n hx hb dL_plays_2 rfl (lv_at hl 0 rfl) ?_
    refine lv_iload_n hx hb dL_plays_3 rfl (lv_at hl 1 rfl) ?_
    refine cV (b := 0) (As := [.int v1]) (rest := [.int (0 : Int32), .ref (g.2.2 201)]) (st1 := [.int v, .int (0 : Int32), .ref (g.2.2 201)]) hC hw (c_X11_plays l g n v1 μ (v, m1) hq) ml_L_63 im_X11_plays se_X11_plays ok0 (CN := RX11) (T := TX11) (NF := 12) rfl rfl (by decide) rfl hl.1 ⟨Nat.le_of_ble_eq_true rfl, Nat.le_of_ble_eq_true rfl⟩ (Nat.le_of_ble_eq_true rfl) ⟨Nat.zero_le _, Nat.zero_le _⟩ rfl dL_plays_4 (fun H locs hw => ?_)
    refine lv_i2l hx hb dL_plays_7 rfl ?_
    refine sJ (j := 0) hC hw ok201 on201 (vin (by decide)) (by decide) dL_plays_8 (fun H locs hw => ?_)
    refine lv_goto (tgt := 15) hx hb dL_plays_9 (by decide) ?_
    refine lv_iconst (v := 0) hx hb dL_plays_15 (by decide) ?_
    exact vx_ret (W.widen (k := 1) (n := 6) (by decide) (by decide) (rI hC hw hr hlocks (by rw [← Option.some.inj h]) (by rw [← Option.some.inj h]) dL_plays_16))
  | some (.inr k, m1), h =>
    dsimp only at h
    by_cases hk1 : k = 1
    · subst hk1
      rw [if_pos rfl] at h
      refine lv_aload_n hx hb dL_plays_0 rfl (lv_at hl 2 rfl) ?_
      refine lv_iconst (v := (0 : Int32)) hx hb dL_plays_1 (by decide) ?_
      refine lv_aload_n hx hb dL_plays_2 rfl (lv_at hl 0 rfl) ?_
      refine lv_iload_n hx hb dL_plays_3 rfl (lv_at hl 1 rfl) ?_
      refine cVK (b := 0) (As := [.int v1]) (rest := [.int (0 : Int32), .ref (g.2.2 201)]) (k := 1) hC hw (x_X11_plays l hst g n v1 μ 1 m1 hq) ml_L_63 im_X11_plays se_X11_plays ok0 (CN := RX11) (T := TX11) (NF := 12) rfl rfl (by decide) rfl hl.1 ⟨Nat.le_of_ble_eq_true rfl, Nat.le_of_ble_eq_true rfl⟩ (Nat.le_of_ble_eq_true rfl) ⟨Nat.le_refl 1, Nat.le_refl 6⟩ dL_plays_4 (fun ce q H locs hw hce hcv hcl => ?_)
      refine vx_catch (own := RL) (name := "java/lang/IllegalArgumentException") (E := exN.getD 1 "") hC.2.2.2.1 [] ⟨0, 9, 12, 13⟩ [] (by rw [htab]; rfl) (fun z hz => nomatch hz) (by decide) (by decide) (hC.2.2.2.2.1 _ (gi4 96 rfl rfl)) (nest_use xcs1 (hC.2.2.2.2.2.1.2.1.1 _ xcs1)) hce hcv hcl ?_
      refine lv_astore_n (lv' := (3, .ref q) :: [(0, .ref (g.2.2 0)), (1, .int v1), (2, .ref (g.2.2 201))]) hx hb dL_plays_12 rfl hl (by decide) rfl (fun ls hl => ?_)
      refine lv_iconst (v := 1) hx hb dL_plays_13 (by decide) ?_
      exact vx_ret (rI hC hw hr hlocks (by rw [← Option.some.inj h]) (by rw [← Option.some.inj h]) dL_plays_14)
    rw [if_neg hk1] at h
    cases h
set_option maxRecDepth 100000 in
set_option maxHeartbeats 4000000 in
theorem c_L_reached (l : Launch) (hst : l.stackTraces = false) (g : Gw) (n : Nat) (v1 : Int32) (μ : Mu) (r : Int32 × Mu) (h : L_reached n v1 μ = some r) : CtW l g yL_reached cL_reached 4 (some .int) [(0, 9, 12, 13)] 16 [.ref (g.2.2 0), .int v1, .ref (g.2.2 201)] μ (some (.int r.1)) r.2 := by
  rw [L_reached] at h
  refine CtW.of (by decide) (Nat.le_of_ble_eq_true rfl) ?_
  intro p e s m args below meth c ls hC hw hr hlocks htab hl
  have hx := hC.1
  have hb := hC.2.1
  have hl : lv_has ls 4 [(0, .ref (g.2.2 0)), (1, .int v1), (2, .ref (g.2.2 201))] := hl
  match hq : X11_reached n v1 μ, h with
  | some (.inl v, m1), h =>
    refine lv_aload_n hx hb dL_reached_0 rfl (lv_at hl 2 rfl) ?_
    refine lv_iconst (v := (0 : Int32)) hx hb dL_reached_1 (by decide) ?_
    refine lv_aload_n hx hb dL_reached_2 rfl (lv_at hl 0 rfl) ?_
    refine lv_iload_n hx hb dL_reached_3 rfl (lv_at hl 1 rfl) ?_
    refine cV (b := 0) (As := [.int v1]) (rest := [.int (0 : Int32), .ref (g.2.2 201)]) (st1 := [.int v, .int (0 : Int32), .ref (g.2.2 201)]) hC hw (c_X11_reached l g n v1 μ (v, m1) hq) ml_L_66 im_X11_reached se_X11_reached ok0 (CN := RX11) (T := TX11) (NF := 12) rfl rfl (by decide) rfl hl.1 ⟨Nat.le_of_ble_eq_true rfl, Nat.le_of_ble_eq_true rfl⟩ (Nat.le_of_ble_eq_true rfl) ⟨Nat.zero_le _, Nat.zero_le _⟩ rfl dL_reached_4 (fun H locs hw => ?_)
    refine lv_i2l hx hb dL_reached_7 rfl ?_
    refine sJ (j := 0) hC hw ok201 on201 (vin (by decide)) (by decide) dL_reached_8 (fun H locs hw => ?_)
    refine lv_goto (tgt := 15) hx hb dL_reached_9 (by decide) ?_
    refine lv_iconst (v := 0) hx hb dL_reached_15 (by decide) ?_
    exact vx_ret (W.widen (k := 1) (n := 6) (by decide) (by decide) (rI hC hw hr hlocks (by rw [← Option.some.inj h]) (by rw [← Option.some.inj h]) dL_reached_16))
  | some (.inr k, m1), h =>
    dsimp only at h
    by_cases hk1 : k = 1
    · subst hk1
      rw [if_pos rfl] at h
      refine lv_aload_n hx hb dL_reached_0 rfl (lv_at hl 2 rfl) ?_
      refine lv_iconst (v := (0 : Int32)) hx hb dL_reached_1 (by decide) ?_
      refine lv_aload_n hx hb dL_reached_2 rfl (lv_at hl 0 rfl) ?_
      refine lv_iload_n hx hb dL_reached_3 rfl (lv_at hl 1 rfl) ?_
      refine cVK (b := 0) (As := [.int v1]) (rest := [.int (0 : Int32), .ref (g.2.2 201)]) (k := 1) hC hw (x_X11_reached l hst g n v1 μ 1 m1 hq) ml_L_66 im_X11_reached se_X11_reached ok0 (CN := RX11) (T := TX11) (NF := 12) rfl rfl (by decide) rfl hl.1 ⟨Nat.le_of_ble_eq_true rfl, Nat.le_of_ble_eq_true rfl⟩ (Nat.le_of_ble_eq_true rfl) ⟨Nat.le_refl 1, Nat.le_refl 6⟩ dL_reached_4 (fun ce q H locs hw hce hcv hcl => ?_)
      refine vx_catch (own := RL) (name := "java/lang/IllegalArgumentException") (E := exN.getD 1 "") hC.2.2.2.1 [] ⟨0, 9, 12, 13⟩ [] (by rw [htab]; rfl) (fun z hz => nomatch hz) (by decide) (by decide) (hC.2.2.2.2.1 _ (gi4 96 rfl rfl)) (nest_use xcs1 (hC.2.2.2.2.2.1.2.1.1 _ xcs1)) hce hcv hcl ?_
      refine lv_astore_n (lv' := (3, .ref q) :: [(0, .ref (g.2.2 0)), (1, .int v1), (2, .ref (g.2.2 201))]) hx hb dL_reached_12 rfl hl (by decide) rfl (fun ls hl => ?_)
      refine lv_iconst (v := 1) hx hb dL_reached_13 (by decide) ?_
      exact vx_ret (rI hC hw hr hlocks (by rw [← Option.some.inj h]) (by rw [← Option.some.inj h]) dL_reached_14)
    rw [if_neg hk1] at h
    cases h
set_option maxRecDepth 100000 in
set_option maxHeartbeats 4000000 in
theorem c_L_pits (l : Launch) (hst : l.stackTraces = false) (g : Gw) (n : Nat) (v1 : Int32) (μ : Mu) (r : Int32 × Mu) (h : L_pits n v1 μ = some r) : CtW l g yL_pits cL_pits 4 (some .int) [(0, 9, 12, 13)] 7 [.ref (g.2.2 0), .int v1, .ref (g.2.2 201)] μ (some (.int r.1)) r.2 := by
  rw [L_pits] at h
  refine CtW.of (by decide) (Nat.le_of_ble_eq_true rfl) ?_
  intro p e s m args below meth c ls hC hw hr hlocks htab hl
  have hx := hC.1
  have hb := hC.2.1
  have hl : lv_has ls 4 [(0, .ref (g.2.2 0)), (1, .int v1), (2, .ref (g.2.2 201))] := hl
  match hq : X11_pits n v1 μ, h with
  | some (.inl v, m1), h =>
    refine lv_aload_n hx hb dL_pits_0 rfl (lv_at hl 2 rfl) ?_
    refine lv_iconst (v := (0 : Int32)) hx hb dL_pits_1 (by decide) ?_
    refine lv_aload_n hx hb dL_pits_2 rfl (lv_at hl 0 rfl) ?_
    refine lv_iload_n hx hb dL_pits_3 rfl (lv_at hl 1 rfl) ?_
    refine cV (b := 0) (As := [.int v1]) (rest := [.int (0 : Int32), .ref (g.2.2 201)]) (st1 := [.int v, .int (0 : Int32), .ref (g.2.2 201)]) hC hw (c_X11_pits l g n v1 μ (v, m1) hq) ml_L_69 im_X11_pits se_X11_pits ok0 (CN := RX11) (T := TX11) (NF := 12) rfl rfl (by decide) rfl hl.1 ⟨Nat.le_of_ble_eq_true rfl, Nat.le_of_ble_eq_true rfl⟩ (Nat.le_of_ble_eq_true rfl) ⟨Nat.zero_le _, Nat.zero_le _⟩ rfl dL_pits_4 (fun H locs hw => ?_)
    refine lv_i2l hx hb dL_pits_7 rfl ?_
    refine sJ (j := 0) hC hw ok201 on201 (vin (by decide)) (by decide) dL_pits_8 (fun H locs hw => ?_)
    refine lv_goto (tgt := 15) hx hb dL_pits_9 (by decide) ?_
    refine lv_iconst (v := 0) hx hb dL_pits_15 (by decide) ?_
    exact vx_ret (W.widen (k := 1) (n := 6) (by decide) (by decide) (rI hC hw hr hlocks (by rw [← Option.some.inj h]) (by rw [← Option.some.inj h]) dL_pits_16))
  | some (.inr k, m1), h =>
    dsimp only at h
    by_cases hk1 : k = 1
    · subst hk1
      rw [if_pos rfl] at h
      refine lv_aload_n hx hb dL_pits_0 rfl (lv_at hl 2 rfl) ?_
      refine lv_iconst (v := (0 : Int32)) hx hb dL_pits_1 (by decide) ?_
      refine lv_aload_n hx hb dL_pits_2 rfl (lv_at hl 0 rfl) ?_
      refine lv_iload_n hx hb dL_pits_3 rfl (lv_at hl 1 rfl) ?_
      refine cVK (b := 0) (As := [.int v1]) (rest := [.int (0 : Int32), .ref (g.2.2 201)]) (k := 1) hC hw (x_X11_pits l hst g n v1 μ 1 m1 hq) ml_L_69 im_X11_pits se_X11_pits ok0 (CN := RX11) (T := TX11) (NF := 12) rfl rfl (by decide) rfl hl.1 ⟨Nat.le_of_ble_eq_true rfl, Nat.le_of_ble_eq_true rfl⟩ (Nat.le_of_ble_eq_true rfl) ⟨Nat.le_refl 1, Nat.le_refl 6⟩ dL_pits_4 (fun ce q H locs hw hce hcv hcl => ?_)
      refine vx_catch (own := RL) (name := "java/lang/IllegalArgumentException") (E := exN.getD 1 "") hC.2.2.2.1 [] ⟨0, 9, 12, 13⟩ [] (by rw [htab]; rfl) (fun z hz => nomatch hz) (by decide) (by decide) (hC.2.2.2.2.1 _ (gi4 96 rfl rfl)) (nest_use xcs1 (hC.2.2.2.2.2.1.2.1.1 _ xcs1)) hce hcv hcl ?_
      refine lv_astore_n (lv' := (3, .ref q) :: [(0, .ref (g.2.2 0)), (1, .int v1), (2, .ref (g.2.2 201))]) hx hb dL_pits_12 rfl hl (by decide) rfl (fun ls hl => ?_)
      refine lv_iconst (v := 1) hx hb dL_pits_13 (by decide) ?_
      exact vx_ret (rI hC hw hr hlocks (by rw [← Option.some.inj h]) (by rw [← Option.some.inj h]) dL_pits_14)
    rw [if_neg hk1] at h
    cases h
set_option maxRecDepth 100000 in
set_option maxHeartbeats 4000000 in
theorem c_L_play (l : Launch) (hst : l.stackTraces = false) (g : Gw) (n : Nat) (v1 : Int32) (v2 : Int32) (μ : Mu) (r : Int32 × Mu) (h : L_play n v1 v2 μ = some r) : CtW l g yL_play cL_play 5 (some .int) [(0, 10, 13, 13)] 8 [.ref (g.2.2 0), .int v1, .int v2, .ref (g.2.2 201)] μ (some (.int r.1)) r.2 := by
  rw [L_play] at h
  refine CtW.of (by decide) (Nat.le_of_ble_eq_true rfl) ?_
  intro p e s m args below meth c ls hC hw hr hlocks htab hl
  have hx := hC.1
  have hb := hC.2.1
  have hl : lv_has ls 5 [(0, .ref (g.2.2 0)), (1, .int v1), (2, .int v2), (3, .ref (g.2.2 201))] := hl
  match hq : X11_play n v1 v2 μ, h with
  | some (.inl v, m1), h =>
    refine lv_aload_n hx hb dL_play_0 rfl (lv_at hl 3 rfl) ?_
    refine lv_iconst (v := (0 : Int32)) hx hb dL_play_1 (by decide) ?_
    refine lv_aload_n hx hb dL_play_2 rfl (lv_at hl 0 rfl) ?_
    refine lv_iload_n hx hb dL_play_3 rfl (lv_at hl 1 rfl) ?_
    refine lv_iload_n hx hb dL_play_4 rfl (lv_at hl 2 rfl) ?_
    refine cV (b := 0) (As := [.int v1, .int v2]) (rest := [.int (0 : Int32), .ref (g.2.2 201)]) (st1 := [.int v, .int (0 : Int32), .ref (g.2.2 201)]) hC hw (c_X11_play l g n v1 v2 μ (v, m1) hq) ml_L_72 im_X11_play se_X11_play ok0 (CN := RX11) (T := TX11) (NF := 12) rfl rfl (by decide) rfl hl.1 ⟨Nat.le_of_ble_eq_true rfl, Nat.le_of_ble_eq_true rfl⟩ (Nat.le_of_ble_eq_true rfl) ⟨Nat.zero_le _, Nat.zero_le _⟩ rfl dL_play_5 (fun H locs hw => ?_)
    refine lv_i2l hx hb dL_play_8 rfl ?_
    refine sJ (j := 0) hC hw ok201 on201 (vin (by decide)) (by decide) dL_play_9 (fun H locs hw => ?_)
    refine lv_goto (tgt := 17) hx hb dL_play_10 (by decide) ?_
    refine lv_iconst (v := 0) hx hb dL_play_17 (by decide) ?_
    exact vx_ret (W.widen (k := 1) (n := 6) (by decide) (by decide) (rI hC hw hr hlocks (by rw [← Option.some.inj h]) (by rw [← Option.some.inj h]) dL_play_18))
  | some (.inr k, m1), h =>
    dsimp only at h
    by_cases hk1 : k = 1
    · subst hk1
      rw [if_pos rfl] at h
      refine lv_aload_n hx hb dL_play_0 rfl (lv_at hl 3 rfl) ?_
      refine lv_iconst (v := (0 : Int32)) hx hb dL_play_1 (by decide) ?_
      refine lv_aload_n hx hb dL_play_2 rfl (lv_at hl 0 rfl) ?_
      refine lv_iload_n hx hb dL_play_3 rfl (lv_at hl 1 rfl) ?_
      refine lv_iload_n hx hb dL_play_4 rfl (lv_at hl 2 rfl) ?_
      refine cVK (b := 0) (As := [.int v1, .int v2]) (rest := [.int (0 : Int32), .ref (g.2.2 201)]) (k := 1) hC hw (x_X11_play l hst g n v1 v2 μ 1 m1 hq) ml_L_72 im_X11_play se_X11_play ok0 (CN := RX11) (T := TX11) (NF := 12) rfl rfl (by decide) rfl hl.1 ⟨Nat.le_of_ble_eq_true rfl, Nat.le_of_ble_eq_true rfl⟩ (Nat.le_of_ble_eq_true rfl) ⟨Nat.le_refl 1, Nat.le_refl 6⟩ dL_play_5 (fun ce q H locs hw hce hcv hcl => ?_)
      refine vx_catch (own := RL) (name := "java/lang/IllegalArgumentException") (E := exN.getD 1 "") hC.2.2.2.1 [] ⟨0, 10, 13, 13⟩ [] (by rw [htab]; rfl) (fun z hz => nomatch hz) (by decide) (by decide) (hC.2.2.2.2.1 _ (gi4 96 rfl rfl)) (nest_use xcs1 (hC.2.2.2.2.2.1.2.1.1 _ xcs1)) hce hcv hcl ?_
      refine lv_astore (lv' := (4, .ref q) :: [(0, .ref (g.2.2 0)), (1, .int v1), (2, .int v2), (3, .ref (g.2.2 201))]) hx hb dL_play_13 hl (by decide) rfl (fun ls hl => ?_)
      refine lv_iconst (v := 1) hx hb dL_play_15 (by decide) ?_
      exact vx_ret (rI hC hw hr hlocks (by rw [← Option.some.inj h]) (by rw [← Option.some.inj h]) dL_play_16)
    rw [if_neg hk1] at h
    cases h
set_option maxRecDepth 100000 in
set_option maxHeartbeats 4000000 in
theorem c_L_against (l : Launch) (hst : l.stackTraces = false) (g : Gw) (n : Nat) (v1 : Int32) (v2 : Int32) (μ : Mu) (r : Int32 × Mu) (h : L_against n v1 v2 μ = some r) : CtW l g yL_against cL_against 5 (some .int) [(0, 10, 13, 27), (0, 10, 17, 13)] 8 [.ref (g.2.2 0), .int v1, .int v2, .ref (g.2.2 201)] μ (some (.int r.1)) r.2 := by
  rw [L_against] at h
  refine CtW.of (by decide) (Nat.le_of_ble_eq_true rfl) ?_
  intro p e s m args below meth c ls hC hw hr hlocks htab hl
  have hx := hC.1
  have hb := hC.2.1
  have hl : lv_has ls 5 [(0, .ref (g.2.2 0)), (1, .int v1), (2, .int v2), (3, .ref (g.2.2 201))] := hl
  match hq : X11_against n v1 v2 μ, h with
  | some (.inl v, m1), h =>
    refine lv_aload_n hx hb dL_against_0 rfl (lv_at hl 3 rfl) ?_
    refine lv_iconst (v := (0 : Int32)) hx hb dL_against_1 (by decide) ?_
    refine lv_aload_n hx hb dL_against_2 rfl (lv_at hl 0 rfl) ?_
    refine lv_iload_n hx hb dL_against_3 rfl (lv_at hl 1 rfl) ?_
    refine lv_iload_n hx hb dL_against_4 rfl (lv_at hl 2 rfl) ?_
    refine cV (b := 0) (As := [.int v1, .int v2]) (rest := [.int (0 : Int32), .ref (g.2.2 201)]) (st1 := [.int v, .int (0 : Int32), .ref (g.2.2 201)]) hC hw (c_X11_against l g n v1 v2 μ (v, m1) hq) ml_L_75 im_X11_against se_X11_against ok0 (CN := RX11) (T := TX11) (NF := 12) rfl rfl (by decide) rfl hl.1 ⟨Nat.le_of_ble_eq_true rfl, Nat.le_of_ble_eq_true rfl⟩ (Nat.le_of_ble_eq_true rfl) ⟨Nat.zero_le _, Nat.zero_le _⟩ rfl dL_against_5 (fun H locs hw => ?_)
    refine lv_i2l hx hb dL_against_8 rfl ?_
    refine sJ (j := 0) hC hw ok201 on201 (vin (by decide)) (by decide) dL_against_9 (fun H locs hw => ?_)
    refine lv_goto (tgt := 21) hx hb dL_against_10 (by decide) ?_
    refine lv_iconst (v := 0) hx hb dL_against_21 (by decide) ?_
    exact vx_ret (W.widen (k := 1) (n := 6) (by decide) (by decide) (rI hC hw hr hlocks (by rw [← Option.some.inj h]) (by rw [← Option.some.inj h]) dL_against_22))
  | some (.inr k, m1), h =>
    dsimp only at h
    by_cases hk2 : k = 2
    · subst hk2
      rw [if_pos rfl] at h
      refine lv_aload_n hx hb dL_against_0 rfl (lv_at hl 3 rfl) ?_
      refine lv_iconst (v := (0 : Int32)) hx hb dL_against_1 (by decide) ?_
      refine lv_aload_n hx hb dL_against_2 rfl (lv_at hl 0 rfl) ?_
      refine lv_iload_n hx hb dL_against_3 rfl (lv_at hl 1 rfl) ?_
      refine lv_iload_n hx hb dL_against_4 rfl (lv_at hl 2 rfl) ?_
      refine cVK (b := 0) (As := [.int v1, .int v2]) (rest := [.int (0 : Int32), .ref (g.2.2 201)]) (k := 2) hC hw (x_X11_against l hst g n v1 v2 μ 2 m1 hq) ml_L_75 im_X11_against se_X11_against ok0 (CN := RX11) (T := TX11) (NF := 12) rfl rfl (by decide) rfl hl.1 ⟨Nat.le_of_ble_eq_true rfl, Nat.le_of_ble_eq_true rfl⟩ (Nat.le_of_ble_eq_true rfl) ⟨Nat.le_refl 1, Nat.le_refl 6⟩ dL_against_5 (fun ce q H locs hw hce hcv hcl => ?_)
      refine vx_catch (own := RL) (name := "java/lang/IllegalStateException") (E := exN.getD 2 "") hC.2.2.2.1 [] ⟨0, 10, 13, 27⟩ [⟨0, 10, 17, 13⟩] (by rw [htab]; rfl) (fun z hz => nomatch hz) (by decide) (by decide) (hC.2.2.2.2.1 _ (gi5 120 rfl rfl)) (nest_use xcs2 (hC.2.2.2.2.2.1.2.1.1 _ xcs2)) hce hcv hcl ?_
      refine lv_astore (lv' := (4, .ref q) :: [(0, .ref (g.2.2 0)), (1, .int v1), (2, .int v2), (3, .ref (g.2.2 201))]) hx hb dL_against_13 hl (by decide) rfl (fun ls hl => ?_)
      refine lv_iconst (v := 1) hx hb dL_against_15 (by decide) ?_
      exact vx_ret (rI hC hw hr hlocks (by rw [← Option.some.inj h]) (by rw [← Option.some.inj h]) dL_against_16)
    by_cases hk1 : k = 1
    · subst hk1
      rw [if_neg (by decide)] at h
      rw [if_pos rfl] at h
      refine lv_aload_n hx hb dL_against_0 rfl (lv_at hl 3 rfl) ?_
      refine lv_iconst (v := (0 : Int32)) hx hb dL_against_1 (by decide) ?_
      refine lv_aload_n hx hb dL_against_2 rfl (lv_at hl 0 rfl) ?_
      refine lv_iload_n hx hb dL_against_3 rfl (lv_at hl 1 rfl) ?_
      refine lv_iload_n hx hb dL_against_4 rfl (lv_at hl 2 rfl) ?_
      refine cVK (b := 0) (As := [.int v1, .int v2]) (rest := [.int (0 : Int32), .ref (g.2.2 201)]) (k := 1) hC hw (x_X11_against l hst g n v1 v2 μ 1 m1 hq) ml_L_75 im_X11_against se_X11_against ok0 (CN := RX11) (T := TX11) (NF := 12) rfl rfl (by decide) rfl hl.1 ⟨Nat.le_of_ble_eq_true rfl, Nat.le_of_ble_eq_true rfl⟩ (Nat.le_of_ble_eq_true rfl) ⟨Nat.le_refl 1, Nat.le_refl 6⟩ dL_against_5 (fun ce q H locs hw hce hcv hcl => ?_)
      refine vx_catch (own := RL) (name := "java/lang/IllegalArgumentException") (E := exN.getD 1 "") hC.2.2.2.1 [⟨0, 10, 13, 27⟩] ⟨0, 10, 17, 13⟩ [] (by rw [htab]; rfl) (fun z hz => by
      rcases List.mem_cons.mp hz with rfl | hz
      · exact Or.inr ⟨by decide, "java/lang/IllegalStateException", hC.2.2.2.2.1 _ (gi5 120 rfl rfl), hC.2.2.2.2.2.1.2.1.2 1 2 (by decide) (by decide) (by decide)⟩
      cases hz) (by decide) (by decide) (hC.2.2.2.2.1 _ (gi4 96 rfl rfl)) (nest_use xcs1 (hC.2.2.2.2.2.1.2.1.1 _ xcs1)) hce hcv hcl ?_
      refine lv_astore (lv' := (4, .ref q) :: [(0, .ref (g.2.2 0)), (1, .int v1), (2, .int v2), (3, .ref (g.2.2 201))]) hx hb dL_against_17 hl (by decide) rfl (fun ls hl => ?_)
      refine lv_iconst (v := 2) hx hb dL_against_19 (by decide) ?_
      exact vx_ret (rI hC hw hr hlocks (by rw [← Option.some.inj h]) (by rw [← Option.some.inj h]) dL_against_20)
    rw [if_neg hk2] at h
    rw [if_neg hk1] at h
    cases h
set_option maxRecDepth 100000 in
set_option maxHeartbeats 4000000 in
theorem c_L_tray (l : Launch) (hst : l.stackTraces = false) (g : Gw) (n : Nat) (v1 : Int32) (v2 : Int32) (v3 : Int32) (μ : Mu) (r : Int32 × Mu) (h : L_tray n v1 v2 v3 μ = some r) : CtW l g yL_tray cL_tray 5 (some .int) [(0, 7, 10, 18), (0, 7, 14, 13)] 8 [.ref (g.2.2 0), .int v1, .int v2, .int v3] μ (some (.int r.1)) r.2 := by
  rw [L_tray] at h
  refine CtW.of (by decide) (Nat.le_of_ble_eq_true rfl) ?_
  intro p e s m args below meth c ls hC hw hr hlocks htab hl
  have hx := hC.1
  have hb := hC.2.1
  have hl : lv_has ls 5 [(0, .ref (g.2.2 0)), (1, .int v1), (2, .int v2), (3, .int v3)] := hl
  match hq : X11_tray n v1 v2 v3 μ, h with
  | some (.inl v, m1), h =>
    refine lv_aload_n hx hb dL_tray_0 rfl (lv_at hl 0 rfl) ?_
    refine lv_iload_n hx hb dL_tray_1 rfl (lv_at hl 1 rfl) ?_
    refine lv_iload_n hx hb dL_tray_2 rfl (lv_at hl 2 rfl) ?_
    refine lv_iload_n hx hb dL_tray_3 rfl (lv_at hl 3 rfl) ?_
    refine cV (b := 0) (As := [.int v1, .int v2, .int v3]) (rest := []) (st1 := []) hC hw (c_X11_tray l g n v1 v2 v3 μ (v, m1) hq) ml_L_78 im_X11_tray se_X11_tray ok0 (CN := RX11) (T := TX11) (NF := 12) rfl rfl (by decide) rfl hl.1 ⟨Nat.le_of_ble_eq_true rfl, Nat.le_of_ble_eq_true rfl⟩ (Nat.le_of_ble_eq_true rfl) ⟨Nat.zero_le _, Nat.zero_le _⟩ rfl dL_tray_4 (fun H locs hw => ?_)
    refine lv_goto (tgt := 18) hx hb dL_tray_7 (by decide) ?_
    refine lv_iconst (v := 0) hx hb dL_tray_18 (by decide) ?_
    exact vx_ret (W.widen (k := 1) (n := 6) (by decide) (by decide) (rI hC hw hr hlocks (by rw [← Option.some.inj h]) (by rw [← Option.some.inj h]) dL_tray_19))
  | some (.inr k, m1), h =>
    dsimp only at h
    by_cases hk0 : k = 0
    · subst hk0
      rw [if_pos rfl] at h
      refine lv_aload_n hx hb dL_tray_0 rfl (lv_at hl 0 rfl) ?_
      refine lv_iload_n hx hb dL_tray_1 rfl (lv_at hl 1 rfl) ?_
      refine lv_iload_n hx hb dL_tray_2 rfl (lv_at hl 2 rfl) ?_
      refine lv_iload_n hx hb dL_tray_3 rfl (lv_at hl 3 rfl) ?_
      refine cVK (b := 0) (As := [.int v1, .int v2, .int v3]) (rest := []) (k := 0) hC hw (x_X11_tray l hst g n v1 v2 v3 μ 0 m1 hq) ml_L_78 im_X11_tray se_X11_tray ok0 (CN := RX11) (T := TX11) (NF := 12) rfl rfl (by decide) rfl hl.1 ⟨Nat.le_of_ble_eq_true rfl, Nat.le_of_ble_eq_true rfl⟩ (Nat.le_of_ble_eq_true rfl) ⟨Nat.le_refl 1, Nat.le_refl 6⟩ dL_tray_4 (fun ce q H locs hw hce hcv hcl => ?_)
      refine vx_catch (own := RL) (name := "java/util/NoSuchElementException") (E := exN.getD 0 "") hC.2.2.2.1 [] ⟨0, 7, 10, 18⟩ [⟨0, 7, 14, 13⟩] (by rw [htab]; rfl) (fun z hz => nomatch hz) (by decide) (by decide) (hC.2.2.2.2.1 _ (gi5 80 rfl rfl)) (nest_use xcs0 (hC.2.2.2.2.2.1.2.1.1 _ xcs0)) hce hcv hcl ?_
      refine lv_astore (lv' := (4, .ref q) :: [(0, .ref (g.2.2 0)), (1, .int v1), (2, .int v2), (3, .int v3)]) hx hb dL_tray_10 hl (by decide) rfl (fun ls hl => ?_)
      refine lv_iconst (v := 1) hx hb dL_tray_12 (by decide) ?_
      exact vx_ret (rI hC hw hr hlocks (by rw [← Option.some.inj h]) (by rw [← Option.some.inj h]) dL_tray_13)
    by_cases hk1 : k = 1
    · subst hk1
      rw [if_neg (by decide)] at h
      rw [if_pos rfl] at h
      refine lv_aload_n hx hb dL_tray_0 rfl (lv_at hl 0 rfl) ?_
      refine lv_iload_n hx hb dL_tray_1 rfl (lv_at hl 1 rfl) ?_
      refine lv_iload_n hx hb dL_tray_2 rfl (lv_at hl 2 rfl) ?_
      refine lv_iload_n hx hb dL_tray_3 rfl (lv_at hl 3 rfl) ?_
      refine cVK (b := 0) (As := [.int v1, .int v2, .int v3]) (rest := []) (k := 1) hC hw (x_X11_tray l hst g n v1 v2 v3 μ 1 m1 hq) ml_L_78 im_X11_tray se_X11_tray ok0 (CN := RX11) (T := TX11) (NF := 12) rfl rfl (by decide) rfl hl.1 ⟨Nat.le_of_ble_eq_true rfl, Nat.le_of_ble_eq_true rfl⟩ (Nat.le_of_ble_eq_true rfl) ⟨Nat.le_refl 1, Nat.le_refl 6⟩ dL_tray_4 (fun ce q H locs hw hce hcv hcl => ?_)
      refine vx_catch (own := RL) (name := "java/lang/IllegalArgumentException") (E := exN.getD 1 "") hC.2.2.2.1 [⟨0, 7, 10, 18⟩] ⟨0, 7, 14, 13⟩ [] (by rw [htab]; rfl) (fun z hz => by
      rcases List.mem_cons.mp hz with rfl | hz
      · exact Or.inr ⟨by decide, "java/util/NoSuchElementException", hC.2.2.2.2.1 _ (gi5 80 rfl rfl), hC.2.2.2.2.2.1.2.1.2 1 0 (by decide) (by decide) (by decide)⟩
      cases hz) (by decide) (by decide) (hC.2.2.2.2.1 _ (gi4 96 rfl rfl)) (nest_use xcs1 (hC.2.2.2.2.2.1.2.1.1 _ xcs1)) hce hcv hcl ?_
      refine lv_astore (lv' := (4, .ref q) :: [(0, .ref (g.2.2 0)), (1, .int v1), (2, .int v2), (3, .int v3)]) hx hb dL_tray_14 hl (by decide) rfl (fun ls hl => ?_)
      refine lv_iconst (v := 2) hx hb dL_tray_16 (by decide) ?_
      exact vx_ret (rI hC hw hr hlocks (by rw [← Option.some.inj h]) (by rw [← Option.some.inj h]) dL_tray_17)
    rw [if_neg hk0] at h
    rw [if_neg hk1] at h
    cases h
set_option maxRecDepth 100000 in
set_option maxHeartbeats 4000000 in
theorem c_L_write (l : Launch) (hst : l.stackTraces = false) (g : Gw) (n : Nat) (v1 : Int32) (v2 : Int32) (v3 : Int64) (μ : Mu) (r : Int32 × Mu) (h : L_write n v1 v2 v3 μ = some r) : CtW l g yL_write cL_write 7 (some .int) [(0, 11, 14, 18), (0, 11, 18, 27), (0, 11, 22, 42)] 9 [.ref (g.2.2 0), .int v1, .int v2, .long v3, .ref (g.2.2 201)] μ (some (.int r.1)) r.2 := by
  rw [L_write] at h
  refine CtW.of (by decide) (Nat.le_of_ble_eq_true rfl) ?_
  intro p e s m args below meth c ls hC hw hr hlocks htab hl
  have hx := hC.1
  have hb := hC.2.1
  have hl : lv_has ls 7 [(0, .ref (g.2.2 0)), (1, .int v1), (2, .int v2), (3, .long v3), (5, .ref (g.2.2 201))] := hl
  match hq : X11_write n v1 v2 v3 μ, h with
  | some (.inl v, m1), h =>
    refine lv_aload hx hb dL_write_0 (lv_at hl 4 rfl) ?_
    refine lv_iconst (v := (0 : Int32)) hx hb dL_write_2 (by decide) ?_
    refine lv_aload_n hx hb dL_write_3 rfl (lv_at hl 0 rfl) ?_
    refine lv_iload_n hx hb dL_write_4 rfl (lv_at hl 1 rfl) ?_
    refine lv_iload_n hx hb dL_write_5 rfl (lv_at hl 2 rfl) ?_
    refine lv_lload_n hx hb dL_write_6 rfl (lv_at hl 3 rfl) ?_
    refine cV (b := 0) (As := [.int v1, .int v2, .long v3]) (rest := [.int (0 : Int32), .ref (g.2.2 201)]) (st1 := [.long v, .int (0 : Int32), .ref (g.2.2 201)]) hC hw (c_X11_write l g n v1 v2 v3 μ (v, m1) hq) ml_L_82 im_X11_write se_X11_write ok0 (CN := RX11) (T := TX11) (NF := 12) rfl rfl (by decide) rfl hl.1 ⟨Nat.le_of_ble_eq_true rfl, Nat.le_of_ble_eq_true rfl⟩ (Nat.le_of_ble_eq_true rfl) ⟨Nat.zero_le _, Nat.zero_le _⟩ rfl dL_write_7 (fun H locs hw => ?_)
    refine sJ (j := 0) hC hw ok201 on201 (vin (by decide)) (by decide) dL_write_10 (fun H locs hw => ?_)
    refine lv_goto (tgt := 26) hx hb dL_write_11 (by decide) ?_
    refine lv_iconst (v := 0) hx hb dL_write_26 (by decide) ?_
    exact vx_ret (W.widen (k := 1) (n := 6) (by decide) (by decide) (rI hC hw hr hlocks (by rw [← Option.some.inj h]) (by rw [← Option.some.inj h]) dL_write_27))
  | some (.inr k, m1), h =>
    dsimp only at h
    by_cases hk0 : k = 0
    · subst hk0
      rw [if_pos rfl] at h
      refine lv_aload hx hb dL_write_0 (lv_at hl 4 rfl) ?_
      refine lv_iconst (v := (0 : Int32)) hx hb dL_write_2 (by decide) ?_
      refine lv_aload_n hx hb dL_write_3 rfl (lv_at hl 0 rfl) ?_
      refine lv_iload_n hx hb dL_write_4 rfl (lv_at hl 1 rfl) ?_
      refine lv_iload_n hx hb dL_write_5 rfl (lv_at hl 2 rfl) ?_
      refine lv_lload_n hx hb dL_write_6 rfl (lv_at hl 3 rfl) ?_
      refine cVK (b := 0) (As := [.int v1, .int v2, .long v3]) (rest := [.int (0 : Int32), .ref (g.2.2 201)]) (k := 0) hC hw (x_X11_write l hst g n v1 v2 v3 μ 0 m1 hq) ml_L_82 im_X11_write se_X11_write ok0 (CN := RX11) (T := TX11) (NF := 12) rfl rfl (by decide) rfl hl.1 ⟨Nat.le_of_ble_eq_true rfl, Nat.le_of_ble_eq_true rfl⟩ (Nat.le_of_ble_eq_true rfl) ⟨Nat.le_refl 1, Nat.le_refl 6⟩ dL_write_7 (fun ce q H locs hw hce hcv hcl => ?_)
      refine vx_catch (own := RL) (name := "java/util/NoSuchElementException") (E := exN.getD 0 "") hC.2.2.2.1 [] ⟨0, 11, 14, 18⟩ [⟨0, 11, 18, 27⟩, ⟨0, 11, 22, 42⟩] (by rw [htab]; rfl) (fun z hz => nomatch hz) (by decide) (by decide) (hC.2.2.2.2.1 _ (gi5 80 rfl rfl)) (nest_use xcs0 (hC.2.2.2.2.2.1.2.1.1 _ xcs0)) hce hcv hcl ?_
      refine lv_astore (lv' := (6, .ref q) :: [(0, .ref (g.2.2 0)), (1, .int v1), (2, .int v2), (3, .long v3), (5, .ref (g.2.2 201))]) hx hb dL_write_14 hl (by decide) rfl (fun ls hl => ?_)
      refine lv_iconst (v := 1) hx hb dL_write_16 (by decide) ?_
      exact vx_ret (rI hC hw hr hlocks (by rw [← Option.some.inj h]) (by rw [← Option.some.inj h]) dL_write_17)
    by_cases hk2 : k = 2
    · subst hk2
      rw [if_neg (by decide)] at h
      rw [if_pos rfl] at h
      refine lv_aload hx hb dL_write_0 (lv_at hl 4 rfl) ?_
      refine lv_iconst (v := (0 : Int32)) hx hb dL_write_2 (by decide) ?_
      refine lv_aload_n hx hb dL_write_3 rfl (lv_at hl 0 rfl) ?_
      refine lv_iload_n hx hb dL_write_4 rfl (lv_at hl 1 rfl) ?_
      refine lv_iload_n hx hb dL_write_5 rfl (lv_at hl 2 rfl) ?_
      refine lv_lload_n hx hb dL_write_6 rfl (lv_at hl 3 rfl) ?_
      refine cVK (b := 0) (As := [.int v1, .int v2, .long v3]) (rest := [.int (0 : Int32), .ref (g.2.2 201)]) (k := 2) hC hw (x_X11_write l hst g n v1 v2 v3 μ 2 m1 hq) ml_L_82 im_X11_write se_X11_write ok0 (CN := RX11) (T := TX11) (NF := 12) rfl rfl (by decide) rfl hl.1 ⟨Nat.le_of_ble_eq_true rfl, Nat.le_of_ble_eq_true rfl⟩ (Nat.le_of_ble_eq_true rfl) ⟨Nat.le_refl 1, Nat.le_refl 6⟩ dL_write_7 (fun ce q H locs hw hce hcv hcl => ?_)
      refine vx_catch (own := RL) (name := "java/lang/IllegalStateException") (E := exN.getD 2 "") hC.2.2.2.1 [⟨0, 11, 14, 18⟩] ⟨0, 11, 18, 27⟩ [⟨0, 11, 22, 42⟩] (by rw [htab]; rfl) (fun z hz => by
      rcases List.mem_cons.mp hz with rfl | hz
      · exact Or.inr ⟨by decide, "java/util/NoSuchElementException", hC.2.2.2.2.1 _ (gi5 80 rfl rfl), hC.2.2.2.2.2.1.2.1.2 2 0 (by decide) (by decide) (by decide)⟩
      cases hz) (by decide) (by decide) (hC.2.2.2.2.1 _ (gi5 120 rfl rfl)) (nest_use xcs2 (hC.2.2.2.2.2.1.2.1.1 _ xcs2)) hce hcv hcl ?_
      refine lv_astore (lv' := (6, .ref q) :: [(0, .ref (g.2.2 0)), (1, .int v1), (2, .int v2), (3, .long v3), (5, .ref (g.2.2 201))]) hx hb dL_write_18 hl (by decide) rfl (fun ls hl => ?_)
      refine lv_iconst (v := 2) hx hb dL_write_20 (by decide) ?_
      exact vx_ret (rI hC hw hr hlocks (by rw [← Option.some.inj h]) (by rw [← Option.some.inj h]) dL_write_21)
    by_cases hk3 : k = 3
    · subst hk3
      rw [if_neg (by decide)] at h
      rw [if_neg (by decide)] at h
      rw [if_pos rfl] at h
      refine lv_aload hx hb dL_write_0 (lv_at hl 4 rfl) ?_
      refine lv_iconst (v := (0 : Int32)) hx hb dL_write_2 (by decide) ?_
      refine lv_aload_n hx hb dL_write_3 rfl (lv_at hl 0 rfl) ?_
      refine lv_iload_n hx hb dL_write_4 rfl (lv_at hl 1 rfl) ?_
      refine lv_iload_n hx hb dL_write_5 rfl (lv_at hl 2 rfl) ?_
      refine lv_lload_n hx hb dL_write_6 rfl (lv_at hl 3 rfl) ?_
      refine cVK (b := 0) (As := [.int v1, .int v2, .long v3]) (rest := [.int (0 : Int32), .ref (g.2.2 201)]) (k := 3) hC hw (x_X11_write l hst g n v1 v2 v3 μ 3 m1 hq) ml_L_82 im_X11_write se_X11_write ok0 (CN := RX11) (T := TX11) (NF := 12) rfl rfl (by decide) rfl hl.1 ⟨Nat.le_of_ble_eq_true rfl, Nat.le_of_ble_eq_true rfl⟩ (Nat.le_of_ble_eq_true rfl) ⟨Nat.le_refl 1, Nat.le_refl 6⟩ dL_write_7 (fun ce q H locs hw hce hcv hcl => ?_)
      refine vx_catch (own := RL) (name := "java/lang/IndexOutOfBoundsException") (E := exN.getD 3 "") hC.2.2.2.1 [⟨0, 11, 14, 18⟩, ⟨0, 11, 18, 27⟩] ⟨0, 11, 22, 42⟩ [] (by rw [htab]; rfl) (fun z hz => by
      rcases List.mem_cons.mp hz with rfl | hz
      · exact Or.inr ⟨by decide, "java/util/NoSuchElementException", hC.2.2.2.2.1 _ (gi5 80 rfl rfl), hC.2.2.2.2.2.1.2.1.2 3 0 (by decide) (by decide) (by decide)⟩
      rcases List.mem_cons.mp hz with rfl | hz
      · exact Or.inr ⟨by decide, "java/lang/IllegalStateException", hC.2.2.2.2.1 _ (gi5 120 rfl rfl), hC.2.2.2.2.2.1.2.1.2 3 2 (by decide) (by decide) (by decide)⟩
      cases hz) (by decide) (by decide) (hC.2.2.2.2.1 _ (gi5 181 rfl rfl)) (nest_use xcs3 (hC.2.2.2.2.2.1.2.1.1 _ xcs3)) hce hcv hcl ?_
      refine lv_astore (lv' := (6, .ref q) :: [(0, .ref (g.2.2 0)), (1, .int v1), (2, .int v2), (3, .long v3), (5, .ref (g.2.2 201))]) hx hb dL_write_22 hl (by decide) rfl (fun ls hl => ?_)
      refine lv_iconst (v := 3) hx hb dL_write_24 (by decide) ?_
      exact vx_ret (rI hC hw hr hlocks (by rw [← Option.some.inj h]) (by rw [← Option.some.inj h]) dL_write_25)
    rw [if_neg hk0] at h
    rw [if_neg hk2] at h
    rw [if_neg hk3] at h
    cases h
set_option maxRecDepth 100000 in
set_option maxHeartbeats 4000000 in
theorem c_L_pour (l : Launch) (hst : l.stackTraces = false) (g : Gw) (n : Nat) (v1 : Int32) (μ : Mu) (r : Int32 × Mu) (h : L_pour n v1 μ = some r) : CtW l g yL_pour cL_pour 4 (some .int) [(0, 9, 12, 18), (0, 9, 15, 27)] 9 [.ref (g.2.2 0), .int v1, .ref (g.2.2 201)] μ (some (.int r.1)) r.2 := by
  rw [L_pour] at h
  refine CtW.of (by decide) (Nat.le_of_ble_eq_true rfl) ?_
  intro p e s m args below meth c ls hC hw hr hlocks htab hl
  have hx := hC.1
  have hb := hC.2.1
  have hl : lv_has ls 4 [(0, .ref (g.2.2 0)), (1, .int v1), (2, .ref (g.2.2 201))] := hl
  match hq : X11_pour n v1 μ, h with
  | some (.inl v, m1), h =>
    refine lv_aload_n hx hb dL_pour_0 rfl (lv_at hl 2 rfl) ?_
    refine lv_iconst (v := (0 : Int32)) hx hb dL_pour_1 (by decide) ?_
    refine lv_aload_n hx hb dL_pour_2 rfl (lv_at hl 0 rfl) ?_
    refine lv_iload_n hx hb dL_pour_3 rfl (lv_at hl 1 rfl) ?_
    refine cV (b := 0) (As := [.int v1]) (rest := [.int (0 : Int32), .ref (g.2.2 201)]) (st1 := [.int v, .int (0 : Int32), .ref (g.2.2 201)]) hC hw (c_X11_pour l g n v1 μ (v, m1) hq) ml_L_86 im_X11_pour se_X11_pour ok0 (CN := RX11) (T := TX11) (NF := 12) rfl rfl (by decide) rfl hl.1 ⟨Nat.le_of_ble_eq_true rfl, Nat.le_of_ble_eq_true rfl⟩ (Nat.le_of_ble_eq_true rfl) ⟨Nat.zero_le _, Nat.zero_le _⟩ rfl dL_pour_4 (fun H locs hw => ?_)
    refine lv_i2l hx hb dL_pour_7 rfl ?_
    refine sJ (j := 0) hC hw ok201 on201 (vin (by decide)) (by decide) dL_pour_8 (fun H locs hw => ?_)
    refine lv_goto (tgt := 18) hx hb dL_pour_9 (by decide) ?_
    refine lv_iconst (v := 0) hx hb dL_pour_18 (by decide) ?_
    exact vx_ret (W.widen (k := 1) (n := 6) (by decide) (by decide) (rI hC hw hr hlocks (by rw [← Option.some.inj h]) (by rw [← Option.some.inj h]) dL_pour_19))
  | some (.inr k, m1), h =>
    dsimp only at h
    by_cases hk0 : k = 0
    · subst hk0
      rw [if_pos rfl] at h
      refine lv_aload_n hx hb dL_pour_0 rfl (lv_at hl 2 rfl) ?_
      refine lv_iconst (v := (0 : Int32)) hx hb dL_pour_1 (by decide) ?_
      refine lv_aload_n hx hb dL_pour_2 rfl (lv_at hl 0 rfl) ?_
      refine lv_iload_n hx hb dL_pour_3 rfl (lv_at hl 1 rfl) ?_
      refine cVK (b := 0) (As := [.int v1]) (rest := [.int (0 : Int32), .ref (g.2.2 201)]) (k := 0) hC hw (x_X11_pour l hst g n v1 μ 0 m1 hq) ml_L_86 im_X11_pour se_X11_pour ok0 (CN := RX11) (T := TX11) (NF := 12) rfl rfl (by decide) rfl hl.1 ⟨Nat.le_of_ble_eq_true rfl, Nat.le_of_ble_eq_true rfl⟩ (Nat.le_of_ble_eq_true rfl) ⟨Nat.le_refl 1, Nat.le_refl 6⟩ dL_pour_4 (fun ce q H locs hw hce hcv hcl => ?_)
      refine vx_catch (own := RL) (name := "java/util/NoSuchElementException") (E := exN.getD 0 "") hC.2.2.2.1 [] ⟨0, 9, 12, 18⟩ [⟨0, 9, 15, 27⟩] (by rw [htab]; rfl) (fun z hz => nomatch hz) (by decide) (by decide) (hC.2.2.2.2.1 _ (gi5 80 rfl rfl)) (nest_use xcs0 (hC.2.2.2.2.2.1.2.1.1 _ xcs0)) hce hcv hcl ?_
      refine lv_astore_n (lv' := (3, .ref q) :: [(0, .ref (g.2.2 0)), (1, .int v1), (2, .ref (g.2.2 201))]) hx hb dL_pour_12 rfl hl (by decide) rfl (fun ls hl => ?_)
      refine lv_iconst (v := 1) hx hb dL_pour_13 (by decide) ?_
      exact vx_ret (rI hC hw hr hlocks (by rw [← Option.some.inj h]) (by rw [← Option.some.inj h]) dL_pour_14)
    by_cases hk2 : k = 2
    · subst hk2
      rw [if_neg (by decide)] at h
      rw [if_pos rfl] at h
      refine lv_aload_n hx hb dL_pour_0 rfl (lv_at hl 2 rfl) ?_
      refine lv_iconst (v := (0 : Int32)) hx hb dL_pour_1 (by decide) ?_
      refine lv_aload_n hx hb dL_pour_2 rfl (lv_at hl 0 rfl) ?_
      refine lv_iload_n hx hb dL_pour_3 rfl (lv_at hl 1 rfl) ?_
      refine cVK (b := 0) (As := [.int v1]) (rest := [.int (0 : Int32), .ref (g.2.2 201)]) (k := 2) hC hw (x_X11_pour l hst g n v1 μ 2 m1 hq) ml_L_86 im_X11_pour se_X11_pour ok0 (CN := RX11) (T := TX11) (NF := 12) rfl rfl (by decide) rfl hl.1 ⟨Nat.le_of_ble_eq_true rfl, Nat.le_of_ble_eq_true rfl⟩ (Nat.le_of_ble_eq_true rfl) ⟨Nat.le_refl 1, Nat.le_refl 6⟩ dL_pour_4 (fun ce q H locs hw hce hcv hcl => ?_)
      refine vx_catch (own := RL) (name := "java/lang/IllegalStateException") (E := exN.getD 2 "") hC.2.2.2.1 [⟨0, 9, 12, 18⟩] ⟨0, 9, 15, 27⟩ [] (by rw [htab]; rfl) (fun z hz => by
      rcases List.mem_cons.mp hz with rfl | hz
      · exact Or.inr ⟨by decide, "java/util/NoSuchElementException", hC.2.2.2.2.1 _ (gi5 80 rfl rfl), hC.2.2.2.2.2.1.2.1.2 2 0 (by decide) (by decide) (by decide)⟩
      cases hz) (by decide) (by decide) (hC.2.2.2.2.1 _ (gi5 120 rfl rfl)) (nest_use xcs2 (hC.2.2.2.2.2.1.2.1.1 _ xcs2)) hce hcv hcl ?_
      refine lv_astore_n (lv' := (3, .ref q) :: [(0, .ref (g.2.2 0)), (1, .int v1), (2, .ref (g.2.2 201))]) hx hb dL_pour_15 rfl hl (by decide) rfl (fun ls hl => ?_)
      refine lv_iconst (v := 2) hx hb dL_pour_16 (by decide) ?_
      exact vx_ret (rI hC hw hr hlocks (by rw [← Option.some.inj h]) (by rw [← Option.some.inj h]) dL_pour_17)
    rw [if_neg hk0] at h
    rw [if_neg hk2] at h
    cases h
set_option maxRecDepth 100000 in
set_option maxHeartbeats 4000000 in
theorem c_L_image (l : Launch) (hst : l.stackTraces = false) (g : Gw) (n : Nat) (v1 : Int32) (μ : Mu) (r : Int32 × Mu) (h : L_image n v1 μ = some r) : CtW l g yL_image cL_image 3 (some .int) [(0, 5, 8, 18)] 8 [.ref (g.2.2 0), .int v1] μ (some (.int r.1)) r.2 := by
  rw [L_image] at h
  refine CtW.of (by decide) (Nat.le_of_ble_eq_true rfl) ?_
  intro p e s m args below meth c ls hC hw hr hlocks htab hl
  have hx := hC.1
  have hb := hC.2.1
  have hl : lv_has ls 3 [(0, .ref (g.2.2 0)), (1, .int v1)] := hl
  match hq : X11_image n v1 μ, h with
  | some (.inl v, m1), h =>
    refine lv_aload_n hx hb dL_image_0 rfl (lv_at hl 0 rfl) ?_
    refine lv_iload_n hx hb dL_image_1 rfl (lv_at hl 1 rfl) ?_
    refine cV (b := 0) (As := [.int v1]) (rest := []) (st1 := []) hC hw (c_X11_image l g n v1 μ (v, m1) hq) ml_L_89 im_X11_image se_X11_image ok0 (CN := RX11) (T := TX11) (NF := 12) rfl rfl (by decide) rfl hl.1 ⟨Nat.le_of_ble_eq_true rfl, Nat.le_of_ble_eq_true rfl⟩ (Nat.le_of_ble_eq_true rfl) ⟨Nat.zero_le _, Nat.zero_le _⟩ rfl dL_image_2 (fun H locs hw => ?_)
    refine lv_goto (tgt := 11) hx hb dL_image_5 (by decide) ?_
    refine lv_iconst (v := 0) hx hb dL_image_11 (by decide) ?_
    exact vx_ret (W.widen (k := 1) (n := 6) (by decide) (by decide) (rI hC hw hr hlocks (by rw [← Option.some.inj h]) (by rw [← Option.some.inj h]) dL_image_12))
  | some (.inr k, m1), h =>
    dsimp only at h
    by_cases hk0 : k = 0
    · subst hk0
      rw [if_pos rfl] at h
      refine lv_aload_n hx hb dL_image_0 rfl (lv_at hl 0 rfl) ?_
      refine lv_iload_n hx hb dL_image_1 rfl (lv_at hl 1 rfl) ?_
      refine cVK (b := 0) (As := [.int v1]) (rest := []) (k := 0) hC hw (x_X11_image l hst g n v1 μ 0 m1 hq) ml_L_89 im_X11_image se_X11_image ok0 (CN := RX11) (T := TX11) (NF := 12) rfl rfl (by decide) rfl hl.1 ⟨Nat.le_of_ble_eq_true rfl, Nat.le_of_ble_eq_true rfl⟩ (Nat.le_of_ble_eq_true rfl) ⟨Nat.le_refl 1, Nat.le_refl 6⟩ dL_image_2 (fun ce q H locs hw hce hcv hcl => ?_)
      refine vx_catch (own := RL) (name := "java/util/NoSuchElementException") (E := exN.getD 0 "") hC.2.2.2.1 [] ⟨0, 5, 8, 18⟩ [] (by rw [htab]; rfl) (fun z hz => nomatch hz) (by decide) (by decide) (hC.2.2.2.2.1 _ (gi5 80 rfl rfl)) (nest_use xcs0 (hC.2.2.2.2.2.1.2.1.1 _ xcs0)) hce hcv hcl ?_
      refine lv_astore_n (lv' := (2, .ref q) :: [(0, .ref (g.2.2 0)), (1, .int v1)]) hx hb dL_image_8 rfl hl (by decide) rfl (fun ls hl => ?_)
      refine lv_iconst (v := 1) hx hb dL_image_9 (by decide) ?_
      exact vx_ret (rI hC hw hr hlocks (by rw [← Option.some.inj h]) (by rw [← Option.some.inj h]) dL_image_10)
    rw [if_neg hk0] at h
    cases h
set_option maxRecDepth 100000 in
set_option maxHeartbeats 4000000 in
theorem c_L_restore (l : Launch) (hst : l.stackTraces = false) (g : Gw) (n : Nat) (v1 : Int32) (μ : Mu) (r : Int32 × Mu) (h : L_restore n v1 μ = some r) : CtW l g yL_restore cL_restore 3 (some .int) [(0, 5, 8, 18), (0, 5, 11, 27)] 8 [.ref (g.2.2 0), .int v1] μ (some (.int r.1)) r.2 := by
  rw [L_restore] at h
  refine CtW.of (by decide) (Nat.le_of_ble_eq_true rfl) ?_
  intro p e s m args below meth c ls hC hw hr hlocks htab hl
  have hx := hC.1
  have hb := hC.2.1
  have hl : lv_has ls 3 [(0, .ref (g.2.2 0)), (1, .int v1)] := hl
  match hq : X11_restore n v1 μ, h with
  | some (.inl v, m1), h =>
    refine lv_aload_n hx hb dL_restore_0 rfl (lv_at hl 0 rfl) ?_
    refine lv_iload_n hx hb dL_restore_1 rfl (lv_at hl 1 rfl) ?_
    refine cV (b := 0) (As := [.int v1]) (rest := []) (st1 := []) hC hw (c_X11_restore l g n v1 μ (v, m1) hq) ml_L_93 im_X11_restore se_X11_restore ok0 (CN := RX11) (T := TX11) (NF := 12) rfl rfl (by decide) rfl hl.1 ⟨Nat.le_of_ble_eq_true rfl, Nat.le_of_ble_eq_true rfl⟩ (Nat.le_of_ble_eq_true rfl) ⟨Nat.zero_le _, Nat.zero_le _⟩ rfl dL_restore_2 (fun H locs hw => ?_)
    refine lv_goto (tgt := 14) hx hb dL_restore_5 (by decide) ?_
    refine lv_iconst (v := 0) hx hb dL_restore_14 (by decide) ?_
    exact vx_ret (W.widen (k := 1) (n := 6) (by decide) (by decide) (rI hC hw hr hlocks (by rw [← Option.some.inj h]) (by rw [← Option.some.inj h]) dL_restore_15))
  | some (.inr k, m1), h =>
    dsimp only at h
    by_cases hk0 : k = 0
    · subst hk0
      rw [if_pos rfl] at h
      refine lv_aload_n hx hb dL_restore_0 rfl (lv_at hl 0 rfl) ?_
      refine lv_iload_n hx hb dL_restore_1 rfl (lv_at hl 1 rfl) ?_
      refine cVK (b := 0) (As := [.int v1]) (rest := []) (k := 0) hC hw (x_X11_restore l hst g n v1 μ 0 m1 hq) ml_L_93 im_X11_restore se_X11_restore ok0 (CN := RX11) (T := TX11) (NF := 12) rfl rfl (by decide) rfl hl.1 ⟨Nat.le_of_ble_eq_true rfl, Nat.le_of_ble_eq_true rfl⟩ (Nat.le_of_ble_eq_true rfl) ⟨Nat.le_refl 1, Nat.le_refl 6⟩ dL_restore_2 (fun ce q H locs hw hce hcv hcl => ?_)
      refine vx_catch (own := RL) (name := "java/util/NoSuchElementException") (E := exN.getD 0 "") hC.2.2.2.1 [] ⟨0, 5, 8, 18⟩ [⟨0, 5, 11, 27⟩] (by rw [htab]; rfl) (fun z hz => nomatch hz) (by decide) (by decide) (hC.2.2.2.2.1 _ (gi5 80 rfl rfl)) (nest_use xcs0 (hC.2.2.2.2.2.1.2.1.1 _ xcs0)) hce hcv hcl ?_
      refine lv_astore_n (lv' := (2, .ref q) :: [(0, .ref (g.2.2 0)), (1, .int v1)]) hx hb dL_restore_8 rfl hl (by decide) rfl (fun ls hl => ?_)
      refine lv_iconst (v := 1) hx hb dL_restore_9 (by decide) ?_
      exact vx_ret (rI hC hw hr hlocks (by rw [← Option.some.inj h]) (by rw [← Option.some.inj h]) dL_restore_10)
    by_cases hk2 : k = 2
    · subst hk2
      rw [if_neg (by decide)] at h
      rw [if_pos rfl] at h
      refine lv_aload_n hx hb dL_restore_0 rfl (lv_at hl 0 rfl) ?_
      refine lv_iload_n hx hb dL_restore_1 rfl (lv_at hl 1 rfl) ?_
      refine cVK (b := 0) (As := [.int v1]) (rest := []) (k := 2) hC hw (x_X11_restore l hst g n v1 μ 2 m1 hq) ml_L_93 im_X11_restore se_X11_restore ok0 (CN := RX11) (T := TX11) (NF := 12) rfl rfl (by decide) rfl hl.1 ⟨Nat.le_of_ble_eq_true rfl, Nat.le_of_ble_eq_true rfl⟩ (Nat.le_of_ble_eq_true rfl) ⟨Nat.le_refl 1, Nat.le_refl 6⟩ dL_restore_2 (fun ce q H locs hw hce hcv hcl => ?_)
      refine vx_catch (own := RL) (name := "java/lang/IllegalStateException") (E := exN.getD 2 "") hC.2.2.2.1 [⟨0, 5, 8, 18⟩] ⟨0, 5, 11, 27⟩ [] (by rw [htab]; rfl) (fun z hz => by
      rcases List.mem_cons.mp hz with rfl | hz
      · exact Or.inr ⟨by decide, "java/util/NoSuchElementException", hC.2.2.2.2.1 _ (gi5 80 rfl rfl), hC.2.2.2.2.2.1.2.1.2 2 0 (by decide) (by decide) (by decide)⟩
      cases hz) (by decide) (by decide) (hC.2.2.2.2.1 _ (gi5 120 rfl rfl)) (nest_use xcs2 (hC.2.2.2.2.2.1.2.1.1 _ xcs2)) hce hcv hcl ?_
      refine lv_astore_n (lv' := (2, .ref q) :: [(0, .ref (g.2.2 0)), (1, .int v1)]) hx hb dL_restore_11 rfl hl (by decide) rfl (fun ls hl => ?_)
      refine lv_iconst (v := 2) hx hb dL_restore_12 (by decide) ?_
      exact vx_ret (rI hC hw hr hlocks (by rw [← Option.some.inj h]) (by rw [← Option.some.inj h]) dL_restore_13)
    rw [if_neg hk0] at h
    rw [if_neg hk2] at h
    cases h
