/-! constructors at their cells -/
theorem lf_11 : ∀ i, i < 40 → 69 + 2 * i + 1 < NN ∧ pi (69 + 2 * i) = 28 + 2 * i ∧ oT 11 i = 69 + 2 * i ∧ pi (69 + 2 * i + 1) = 28 + 2 * i + 1 ∧ oK (69 + 2 * i) = 6 ∧ oT (69 + 2 * i) 0 = 69 + 2 * i + 1 ∧ oK (69 + 2 * i + 1) = 20 ∧ oN (69 + 2 * i + 1) = 14 := by decide +kernel
theorem lf_7 : ∀ i, i < 6 → 57 + 2 * i + 1 < NN ∧ pi (57 + 2 * i) = 9 + 2 * i ∧ oT 7 i = 57 + 2 * i ∧ pi (57 + 2 * i + 1) = 9 + 2 * i + 1 ∧ oK (57 + 2 * i) = 6 ∧ oT (57 + 2 * i) 0 = 57 + 2 * i + 1 ∧ oK (57 + 2 * i + 1) = 20 ∧ oN (57 + 2 * i + 1) = 14 := by decide +kernel
theorem lf_27 : ∀ i, i < 7 → 155 + 2 * i + 1 < NN ∧ pi (155 + 2 * i) = 135 + 2 * i ∧ oT 27 i = 155 + 2 * i ∧ pi (155 + 2 * i + 1) = 135 + 2 * i + 1 ∧ oK (155 + 2 * i) = 6 ∧ oT (155 + 2 * i) 0 = 155 + 2 * i + 1 ∧ oK (155 + 2 * i + 1) = 20 ∧ oN (155 + 2 * i + 1) = 14 := by decide +kernel
set_option maxRecDepth 100000 in
set_option maxHeartbeats 4000000 in
theorem t_X4 (l : Launch) (g : Gw) (B : Nat) (hG : GB g B) {E : Nat → va_E} (hE : ∀ i, 6 ≤ i → i < 171 → E i = ce g mI i) : KT l g B yX4_init cX4_init 1 2 4 525 [.ref (g.2.2 12)] 109 (eset E 12 (.inr (4, [.null, .null, .int 0, .int 0, .int 0, .null, .int 0, .int 0, .int 0, .int 0, .int 0]))) E := by
  refine KT.of hG (by decide) (Nat.le_of_ble_eq_true rfl) ?_
  intro p e s m args below meth c ls hC hw hr hlocks hnm hl
  have hx := hC.1
  have hb := hC.2.1
  have hl : lv_has ls 1 [(0, .ref (g.2.2 12))] := hl
  refine lv_aload_n hx hb dX4_init_0 rfl (lv_at hl 0 rfl) ?_
  refine W.objInit hx hb hC.2.2.2.1 (hC.2.2.2.2.1 _ oi_X4_3) (hC.2.2.2.2.1 _ oi_in) (hC.2.2.2.2.1 _ oi_co) rfl (by rw [hC.2.2.1]; exact hl.1) rfl dX4_init_1 (Nat.le_of_ble_eq_true rfl) (Nat.le_of_ble_eq_true rfl) ?_
  refine W.eq (g2 := F0 m 4 ls []) rfl ?_
  refine lv_aload_n hx hb dX4_init_4 rfl (lv_at hl 0 rfl) ?_
  refine k_new (i := 13) (ci := 5) (fs := [.int 0, .int 0, .int 0, .int 0, .int 0, .int 0, .int 0, .int 0, .int 0]) hC hw tyX5 (by decide) (by decide) rfl inG5 tyX5_ok ck_X4_9 is_X5 ii_X5 (fun j hj => by (have : j = 0 ∨ j = 1 ∨ j = 2 ∨ j = 3 ∨ j = 4 ∨ j = 5 ∨ j = 6 ∨ j = 7 ∨ j = 8 := by omega); rcases this with rfl | rfl | rfl | rfl | rfl | rfl | rfl | rfl | rfl <;> rfl) (Nat.le_of_ble_eq_true rfl) (Nat.le_of_ble_eq_true rfl) dX4_init_5 (fun H hw => ?_)
  have hw : pd g B 110 (eset (eset E 12 (.inr (4, [.null, .null, .int 0, .int 0, .int 0, .null, .int 0, .int 0, .int 0, .int 0, .int 0]))) 13 (.inr (5, [.int 0, .int 0, .int 0, .int 0, .int 0, .int 0, .int 0, .int 0, .int 0]))) s _ _ := hw
  refine lv_dup hx hb dX4_init_8 rfl ?_
  refine k_ctorN (b := 13) (As := []) (rest := [.ref (g.2.2 13), .ref (g.2.2 12)]) hC hw (t_X5 l g B hG (by decide) (by decide) ((eset_b (by decide)).trans ((hE 13 (by decide) (by decide)).trans rfl))) mn_X4_11 im_X5_init rfl rfl hl.1 ⟨(Nat.le_of_ble_eq_true rfl), (Nat.le_of_ble_eq_true rfl)⟩ (Nat.le_of_ble_eq_true rfl) (Nat.le_of_ble_eq_true rfl) (Nat.le_of_ble_eq_true rfl) dX4_init_9 (fun H locs hw => ?_)
  have hw : pd g B 110 (eset E 12 (.inr (4, [.null, .null, .int 0, .int 0, .int 0, .null, .int 0, .int 0, .int 0, .int 0, .int 0]))) s _ _ := hw
  refine k_fin (E := E) (o := 12) (fs := [.null, .null, .int 0, .int 0, .int 0, .null, .int 0, .int 0, .int 0, .int 0, .int 0]) (fs' := [.ref (g.2.2 13), .null, .int 0, .int 0, .int 0, .null, .int 0, .int 0, .int 0, .int 0, .int 0]) hC hw hnm fl_X4_12 ff_4_0 (by decide) (by decide) rfl rfl (Nat.le_of_ble_eq_true rfl) rfl dX4_init_12 (fun H locs hw => ?_)
  refine lv_aload_n hx hb dX4_init_15 rfl (lv_at hl 0 rfl) ?_
  refine k_new (i := 149) (ci := 6) (fs := [.null, .int 0]) hC hw tyX6 (by decide) (by decide) rfl inG6 tyX6_ok ck_X4_18 is_X6 ii_X6 (fun j hj => by (have : j = 0 ∨ j = 1 := by omega); rcases this with rfl | rfl <;> rfl) (Nat.le_of_ble_eq_true rfl) (Nat.le_of_ble_eq_true rfl) dX4_init_16 (fun H hw => ?_)
  have hw : pd g B 111 (eset (eset E 12 (.inr (4, [.ref (g.2.2 13), .null, .int 0, .int 0, .int 0, .null, .int 0, .int 0, .int 0, .int 0, .int 0]))) 149 (.inr (6, [.null, .int 0]))) s _ _ := hw
  refine lv_dup hx hb dX4_init_19 rfl ?_
  refine k_ctorN (b := 149) (As := []) (rest := [.ref (g.2.2 149), .ref (g.2.2 12)]) hC hw (t_X6 l g B hG (by decide) (by decide) (by decide) ((eset_b (by decide)).trans ((hE 149 (by decide) (by decide)).trans rfl)) ((eset_b (by decide)).trans ((hE 150 (by decide) (by decide)).trans rfl))) mn_X4_20 im_X6_init rfl rfl hl.1 ⟨(Nat.le_of_ble_eq_true rfl), (Nat.le_of_ble_eq_true rfl)⟩ (Nat.le_of_ble_eq_true rfl) (Nat.le_of_ble_eq_true rfl) (Nat.le_of_ble_eq_true rfl) dX4_init_20 (fun H locs hw => ?_)
  have hw : pd g B 112 (eset E 12 (.inr (4, [.ref (g.2.2 13), .null, .int 0, .int 0, .int 0, .null, .int 0, .int 0, .int 0, .int 0, .int 0]))) s _ _ := hw
  refine k_fin (E := E) (o := 12) (fs := [.ref (g.2.2 13), .null, .int 0, .int 0, .int 0, .null, .int 0, .int 0, .int 0, .int 0, .int 0]) (fs' := [.ref (g.2.2 13), .ref (g.2.2 149), .int 0, .int 0, .int 0, .null, .int 0, .int 0, .int 0, .int 0, .int 0]) hC hw hnm fl_X4_21 ff_4_1 (by decide) (by decide) rfl rfl (Nat.le_of_ble_eq_true rfl) rfl dX4_init_23 (fun H locs hw => ?_)
  refine lv_aload_n hx hb dX4_init_26 rfl (lv_at hl 0 rfl) ?_
  refine lv_iconst (v := ((-1) : Int32)) hx hb dX4_init_27 (by decide) ?_
  refine k_put (E := E) (o := 12) (fs := [.ref (g.2.2 13), .ref (g.2.2 149), .int 0, .int 0, .int 0, .null, .int 0, .int 0, .int 0, .int 0, .int 0]) (fs' := [.ref (g.2.2 13), .ref (g.2.2 149), .int 0, .int (-1), .int 0, .null, .int 0, .int 0, .int 0, .int 0, .int 0]) hC hw fl_X4_25 ff_4_3 (by decide) (by decide) rfl rfl (Nat.le_of_ble_eq_true rfl) rfl dX4_init_28 (fun H locs hw => ?_)
  refine lv_aload_n hx hb dX4_init_31 rfl (lv_at hl 0 rfl) ?_
  refine lv_sipush (v := (500 : Int32)) hx hb dX4_init_32 (by decide) ?_
  refine k_arr (i := 14) (k := 0) (N := (500 : Int32)) (N' := 500) (a0 := (500, .inl (fun _ => 0))) hC hw (by decide) (by decide) aw_int (hC.2.2.2.2.2.1.1.2 0 _ rfl).2 ((eset_b (by decide)).trans ((hE 14 (by decide) (by decide)).trans rfl)) (fun _ => rfl) (by decide) (by decide) (by decide) (Nat.le_of_ble_eq_true rfl) (Nat.le_of_ble_eq_true rfl) dX4_init_35 (fun H hw => ?_)
  have hw : pd g B 113 (eset E 12 (.inr (4, [.ref (g.2.2 13), .ref (g.2.2 149), .int 0, .int (-1), .int 0, .null, .int 0, .int 0, .int 0, .int 0, .int 0]))) s _ _ := hw
  refine k_fin (E := E) (o := 12) (fs := [.ref (g.2.2 13), .ref (g.2.2 149), .int 0, .int (-1), .int 0, .null, .int 0, .int 0, .int 0, .int 0, .int 0]) (fs' := [.ref (g.2.2 13), .ref (g.2.2 149), .int 0, .int (-1), .int 0, .ref (g.2.2 14), .int 0, .int 0, .int 0, .int 0, .int 0]) hC hw hnm fl_X4_29 ff_4_5 (by decide) (by decide) rfl rfl (Nat.le_of_ble_eq_true rfl) rfl dX4_init_37 (fun H locs hw => ?_)
  have hw : pd g B 113 E s _ _ := pd_drop hw ((hE 12 (by decide) (by decide)).trans rfl)
  exact k_ret hC hw hr hlocks rfl rfl (Nat.le_of_ble_eq_true rfl) (Nat.le_of_ble_eq_true rfl) dX4_init_40
set_option maxRecDepth 100000 in
set_option maxHeartbeats 4000000 in
theorem t_X7 (l : Launch) (g : Gw) (B : Nat) (hG : GB g B) {E : Nat → va_E} (hE : ∀ i, 6 ≤ i → i < 171 → E i = ce g mI i) : KT l g B yX7_init cX7_init 4 2 8 78070 [.ref (g.2.2 15), .ref (g.2.2 1), .ref (g.2.2 2), .ref (g.2.2 6)] 114 (eset E 15 (.inr (7, [.null, .null, .null, .null, .null, .null, .int 0, .int 0, .int 0, .null, .null, .null, .null]))) E := by
  refine KT.of hG (by decide) (Nat.le_of_ble_eq_true rfl) ?_
  intro p e s m args below meth c ls hC hw hr hlocks hnm hl
  have hx := hC.1
  have hb := hC.2.1
  have hl : lv_has ls 4 [(0, .ref (g.2.2 15)), (1, .ref (g.2.2 1)), (2, .ref (g.2.2 2)), (3, .ref (g.2.2 6))] := hl
  refine lv_aload_n hx hb dX7_init_0 rfl (lv_at hl 0 rfl) ?_
  refine W.objInit hx hb hC.2.2.2.1 (hC.2.2.2.2.1 _ oi_X7_3) (hC.2.2.2.2.1 _ oi_in) (hC.2.2.2.2.1 _ oi_co) rfl (by rw [hC.2.2.1]; exact hl.1) rfl dX7_init_1 (Nat.le_of_ble_eq_true rfl) (Nat.le_of_ble_eq_true rfl) ?_
  refine W.eq (g2 := F0 m 4 ls []) rfl ?_
  refine lv_aload_n hx hb dX7_init_4 rfl (lv_at hl 0 rfl) ?_
  refine lv_sipush (v := (12000 : Int32)) hx hb dX7_init_5 (by decide) ?_
  refine k_arr (i := 16) (k := 0) (N := (12000 : Int32)) (N' := 12000) (a0 := (12000, .inl (fun _ => 0))) hC hw (by decide) (by decide) aw_int (hC.2.2.2.2.2.1.1.2 0 _ rfl).2 ((eset_b (by decide)).trans ((hE 16 (by decide) (by decide)).trans rfl)) (fun _ => rfl) (by decide) (by decide) (by decide) (Nat.le_of_ble_eq_true rfl) (Nat.le_of_ble_eq_true rfl) dX7_init_8 (fun H hw => ?_)
  have hw : pd g B 115 (eset E 15 (.inr (7, [.null, .null, .null, .null, .null, .null, .int 0, .int 0, .int 0, .null, .null, .null, .null]))) s _ _ := hw
  refine k_fin (E := E) (o := 15) (fs := [.null, .null, .null, .null, .null, .null, .int 0, .int 0, .int 0, .null, .null, .null, .null]) (fs' := [.ref (g.2.2 16), .null, .null, .null, .null, .null, .int 0, .int 0, .int 0, .null, .null, .null, .null]) hC hw hnm fl_X7_9 ff_7_0 (by decide) (by decide) rfl rfl (Nat.le_of_ble_eq_true rfl) rfl dX7_init_10 (fun H locs hw => ?_)
  refine lv_aload_n hx hb dX7_init_13 rfl (lv_at hl 0 rfl) ?_
  refine lv_sipush (v := (12000 : Int32)) hx hb dX7_init_14 (by decide) ?_
  refine k_arr (i := 17) (k := 0) (N := (12000 : Int32)) (N' := 12000) (a0 := (12000, .inl (fun _ => 0))) hC hw (by decide) (by decide) aw_int (hC.2.2.2.2.2.1.1.2 0 _ rfl).2 ((eset_b (by decide)).trans ((hE 17 (by decide) (by decide)).trans rfl)) (fun _ => rfl) (by decide) (by decide) (by decide) (Nat.le_of_ble_eq_true rfl) (Nat.le_of_ble_eq_true rfl) dX7_init_17 (fun H hw => ?_)
  have hw : pd g B 116 (eset E 15 (.inr (7, [.ref (g.2.2 16), .null, .null, .null, .null, .null, .int 0, .int 0, .int 0, .null, .null, .null, .null]))) s _ _ := hw
  refine k_fin (E := E) (o := 15) (fs := [.ref (g.2.2 16), .null, .null, .null, .null, .null, .int 0, .int 0, .int 0, .null, .null, .null, .null]) (fs' := [.ref (g.2.2 16), .ref (g.2.2 17), .null, .null, .null, .null, .int 0, .int 0, .int 0, .null, .null, .null, .null]) hC hw hnm fl_X7_15 ff_7_1 (by decide) (by decide) rfl rfl (Nat.le_of_ble_eq_true rfl) rfl dX7_init_19 (fun H locs hw => ?_)
  refine lv_aload_n hx hb dX7_init_22 rfl (lv_at hl 0 rfl) ?_
  refine k_new (i := 151) (ci := 6) (fs := [.null, .int 0]) hC hw tyX6 (by decide) (by decide) rfl inG6 tyX6_ok ck_X7_18 is_X6 ii_X6 (fun j hj => by (have : j = 0 ∨ j = 1 := by omega); rcases this with rfl | rfl <;> rfl) (Nat.le_of_ble_eq_true rfl) (Nat.le_of_ble_eq_true rfl) dX7_init_23 (fun H hw => ?_)
  have hw : pd g B 117 (eset (eset E 15 (.inr (7, [.ref (g.2.2 16), .ref (g.2.2 17), .null, .null, .null, .null, .int 0, .int 0, .int 0, .null, .null, .null, .null]))) 151 (.inr (6, [.null, .int 0]))) s _ _ := hw
  refine lv_dup hx hb dX7_init_26 rfl ?_
  refine k_ctorN (b := 151) (As := []) (rest := [.ref (g.2.2 151), .ref (g.2.2 15)]) hC hw (t_X6 l g B hG (by decide) (by decide) (by decide) ((eset_b (by decide)).trans ((hE 151 (by decide) (by decide)).trans rfl)) ((eset_b (by decide)).trans ((hE 152 (by decide) (by decide)).trans rfl))) mn_X7_20 im_X6_init rfl rfl hl.1 ⟨(Nat.le_of_ble_eq_true rfl), (Nat.le_of_ble_eq_true rfl)⟩ (Nat.le_of_ble_eq_true rfl) (Nat.le_of_ble_eq_true rfl) (Nat.le_of_ble_eq_true rfl) dX7_init_27 (fun H locs hw => ?_)
  have hw : pd g B 118 (eset E 15 (.inr (7, [.ref (g.2.2 16), .ref (g.2.2 17), .null, .null, .null, .null, .int 0, .int 0, .int 0, .null, .null, .null, .null]))) s _ _ := hw
  refine k_fin (E := E) (o := 15) (fs := [.ref (g.2.2 16), .ref (g.2.2 17), .null, .null, .null, .null, .int 0, .int 0, .int 0, .null, .null, .null, .null]) (fs' := [.ref (g.2.2 16), .ref (g.2.2 17), .null, .null, .null, .ref (g.2.2 151), .int 0, .int 0, .int 0, .null, .null, .null, .null]) hC hw hnm fl_X7_21 ff_7_5 (by decide) (by decide) rfl rfl (Nat.le_of_ble_eq_true rfl) rfl dX7_init_30 (fun H locs hw => ?_)
  refine lv_aload_n hx hb dX7_init_33 rfl (lv_at hl 0 rfl) ?_
  refine lv_iconst (v := ((-1) : Int32)) hx hb dX7_init_34 (by decide) ?_
  refine k_put (E := E) (o := 15) (fs := [.ref (g.2.2 16), .ref (g.2.2 17), .null, .null, .null, .ref (g.2.2 151), .int 0, .int 0, .int 0, .null, .null, .null, .null]) (fs' := [.ref (g.2.2 16), .ref (g.2.2 17), .null, .null, .null, .ref (g.2.2 151), .int 0, .int (-1), .int 0, .null, .null, .null, .null]) hC hw fl_X7_25 ff_7_7 (by decide) (by decide) rfl rfl (Nat.le_of_ble_eq_true rfl) rfl dX7_init_35 (fun H locs hw => ?_)
  refine lv_aload_n hx hb dX7_init_38 rfl (lv_at hl 0 rfl) ?_
  refine lv_sipush (v := (6006 : Int32)) hx hb dX7_init_39 (by decide) ?_
  refine k_arr (i := 18) (k := 0) (N := (6006 : Int32)) (N' := 6006) (a0 := (6006, .inl (fun _ => 0))) hC hw (by decide) (by decide) aw_int (hC.2.2.2.2.2.1.1.2 0 _ rfl).2 ((eset_b (by decide)).trans ((hE 18 (by decide) (by decide)).trans rfl)) (fun _ => rfl) (by decide) (by decide) (by decide) (Nat.le_of_ble_eq_true rfl) (Nat.le_of_ble_eq_true rfl) dX7_init_42 (fun H hw => ?_)
  have hw : pd g B 119 (eset E 15 (.inr (7, [.ref (g.2.2 16), .ref (g.2.2 17), .null, .null, .null, .ref (g.2.2 151), .int 0, .int (-1), .int 0, .null, .null, .null, .null]))) s _ _ := hw
  refine k_fin (E := E) (o := 15) (fs := [.ref (g.2.2 16), .ref (g.2.2 17), .null, .null, .null, .ref (g.2.2 151), .int 0, .int (-1), .int 0, .null, .null, .null, .null]) (fs' := [.ref (g.2.2 16), .ref (g.2.2 17), .null, .null, .null, .ref (g.2.2 151), .int 0, .int (-1), .int 0, .ref (g.2.2 18), .null, .null, .null]) hC hw hnm fl_X7_29 ff_7_9 (by decide) (by decide) rfl rfl (Nat.le_of_ble_eq_true rfl) rfl dX7_init_44 (fun H locs hw => ?_)
  refine lv_aload_n hx hb dX7_init_47 rfl (lv_at hl 0 rfl) ?_
  refine lv_sipush (v := (6006 : Int32)) hx hb dX7_init_48 (by decide) ?_
  refine k_arr (i := 19) (k := 0) (N := (6006 : Int32)) (N' := 6006) (a0 := (6006, .inl (fun _ => 0))) hC hw (by decide) (by decide) aw_int (hC.2.2.2.2.2.1.1.2 0 _ rfl).2 ((eset_b (by decide)).trans ((hE 19 (by decide) (by decide)).trans rfl)) (fun _ => rfl) (by decide) (by decide) (by decide) (Nat.le_of_ble_eq_true rfl) (Nat.le_of_ble_eq_true rfl) dX7_init_51 (fun H hw => ?_)
  have hw : pd g B 120 (eset E 15 (.inr (7, [.ref (g.2.2 16), .ref (g.2.2 17), .null, .null, .null, .ref (g.2.2 151), .int 0, .int (-1), .int 0, .ref (g.2.2 18), .null, .null, .null]))) s _ _ := hw
  refine k_fin (E := E) (o := 15) (fs := [.ref (g.2.2 16), .ref (g.2.2 17), .null, .null, .null, .ref (g.2.2 151), .int 0, .int (-1), .int 0, .ref (g.2.2 18), .null, .null, .null]) (fs' := [.ref (g.2.2 16), .ref (g.2.2 17), .null, .null, .null, .ref (g.2.2 151), .int 0, .int (-1), .int 0, .ref (g.2.2 18), .ref (g.2.2 19), .null, .null]) hC hw hnm fl_X7_32 ff_7_10 (by decide) (by decide) rfl rfl (Nat.le_of_ble_eq_true rfl) rfl dX7_init_53 (fun H locs hw => ?_)
  refine lv_aload_n hx hb dX7_init_56 rfl (lv_at hl 0 rfl) ?_
  refine lv_sipush (v := (6006 : Int32)) hx hb dX7_init_57 (by decide) ?_
  refine k_arr (i := 20) (k := 0) (N := (6006 : Int32)) (N' := 6006) (a0 := (6006, .inl (fun _ => 0))) hC hw (by decide) (by decide) aw_int (hC.2.2.2.2.2.1.1.2 0 _ rfl).2 ((eset_b (by decide)).trans ((hE 20 (by decide) (by decide)).trans rfl)) (fun _ => rfl) (by decide) (by decide) (by decide) (Nat.le_of_ble_eq_true rfl) (Nat.le_of_ble_eq_true rfl) dX7_init_60 (fun H hw => ?_)
  have hw : pd g B 121 (eset E 15 (.inr (7, [.ref (g.2.2 16), .ref (g.2.2 17), .null, .null, .null, .ref (g.2.2 151), .int 0, .int (-1), .int 0, .ref (g.2.2 18), .ref (g.2.2 19), .null, .null]))) s _ _ := hw
  refine k_fin (E := E) (o := 15) (fs := [.ref (g.2.2 16), .ref (g.2.2 17), .null, .null, .null, .ref (g.2.2 151), .int 0, .int (-1), .int 0, .ref (g.2.2 18), .ref (g.2.2 19), .null, .null]) (fs' := [.ref (g.2.2 16), .ref (g.2.2 17), .null, .null, .null, .ref (g.2.2 151), .int 0, .int (-1), .int 0, .ref (g.2.2 18), .ref (g.2.2 19), .ref (g.2.2 20), .null]) hC hw hnm fl_X7_35 ff_7_11 (by decide) (by decide) rfl rfl (Nat.le_of_ble_eq_true rfl) rfl dX7_init_62 (fun H locs hw => ?_)
  refine lv_aload_n hx hb dX7_init_65 rfl (lv_at hl 0 rfl) ?_
  refine lv_ldc (v := (36036 : Int32)) hx hb hC.2.2.2.1 (hC.2.2.2.2.1 _ cn_X7_38) dX7_init_66 ?_
  refine k_arr (i := 21) (k := 0) (N := (36036 : Int32)) (N' := 36036) (a0 := (36036, .inl (fun _ => 0))) hC hw (by decide) (by decide) aw_int (hC.2.2.2.2.2.1.1.2 0 _ rfl).2 ((eset_b (by decide)).trans ((hE 21 (by decide) (by decide)).trans rfl)) (fun _ => rfl) (by decide) (by decide) (by decide) (Nat.le_of_ble_eq_true rfl) (Nat.le_of_ble_eq_true rfl) dX7_init_68 (fun H hw => ?_)
  have hw : pd g B 122 (eset E 15 (.inr (7, [.ref (g.2.2 16), .ref (g.2.2 17), .null, .null, .null, .ref (g.2.2 151), .int 0, .int (-1), .int 0, .ref (g.2.2 18), .ref (g.2.2 19), .ref (g.2.2 20), .null]))) s _ _ := hw
  refine k_fin (E := E) (o := 15) (fs := [.ref (g.2.2 16), .ref (g.2.2 17), .null, .null, .null, .ref (g.2.2 151), .int 0, .int (-1), .int 0, .ref (g.2.2 18), .ref (g.2.2 19), .ref (g.2.2 20), .null]) (fs' := [.ref (g.2.2 16), .ref (g.2.2 17), .null, .null, .null, .ref (g.2.2 151), .int 0, .int (-1), .int 0, .ref (g.2.2 18), .ref (g.2.2 19), .ref (g.2.2 20), .ref (g.2.2 21)]) hC hw hnm fl_X7_39 ff_7_12 (by decide) (by decide) rfl rfl (Nat.le_of_ble_eq_true rfl) rfl dX7_init_70 (fun H locs hw => ?_)
  refine lv_aload_n hx hb dX7_init_73 rfl (lv_at hl 0 rfl) ?_
  refine lv_aload_n hx hb dX7_init_74 rfl (lv_at hl 1 rfl) ?_
  refine k_fin (E := E) (o := 15) (fs := [.ref (g.2.2 16), .ref (g.2.2 17), .null, .null, .null, .ref (g.2.2 151), .int 0, .int (-1), .int 0, .ref (g.2.2 18), .ref (g.2.2 19), .ref (g.2.2 20), .ref (g.2.2 21)]) (fs' := [.ref (g.2.2 16), .ref (g.2.2 17), .ref (g.2.2 1), .null, .null, .ref (g.2.2 151), .int 0, .int (-1), .int 0, .ref (g.2.2 18), .ref (g.2.2 19), .ref (g.2.2 20), .ref (g.2.2 21)]) hC hw hnm fl_X7_42 ff_7_2 (by decide) (by decide) rfl rfl (Nat.le_of_ble_eq_true rfl) rfl dX7_init_75 (fun H locs hw => ?_)
  refine lv_aload_n hx hb dX7_init_78 rfl (lv_at hl 0 rfl) ?_
  refine lv_aload_n hx hb dX7_init_79 rfl (lv_at hl 2 rfl) ?_
  refine k_fin (E := E) (o := 15) (fs := [.ref (g.2.2 16), .ref (g.2.2 17), .ref (g.2.2 1), .null, .null, .ref (g.2.2 151), .int 0, .int (-1), .int 0, .ref (g.2.2 18), .ref (g.2.2 19), .ref (g.2.2 20), .ref (g.2.2 21)]) (fs' := [.ref (g.2.2 16), .ref (g.2.2 17), .ref (g.2.2 1), .ref (g.2.2 2), .null, .ref (g.2.2 151), .int 0, .int (-1), .int 0, .ref (g.2.2 18), .ref (g.2.2 19), .ref (g.2.2 20), .ref (g.2.2 21)]) hC hw hnm fl_X7_46 ff_7_3 (by decide) (by decide) rfl rfl (Nat.le_of_ble_eq_true rfl) rfl dX7_init_80 (fun H locs hw => ?_)
  refine lv_aload_n hx hb dX7_init_83 rfl (lv_at hl 0 rfl) ?_
  refine lv_aload_n hx hb dX7_init_84 rfl (lv_at hl 3 rfl) ?_
  refine k_fin (E := E) (o := 15) (fs := [.ref (g.2.2 16), .ref (g.2.2 17), .ref (g.2.2 1), .ref (g.2.2 2), .null, .ref (g.2.2 151), .int 0, .int (-1), .int 0, .ref (g.2.2 18), .ref (g.2.2 19), .ref (g.2.2 20), .ref (g.2.2 21)]) (fs' := [.ref (g.2.2 16), .ref (g.2.2 17), .ref (g.2.2 1), .ref (g.2.2 2), .ref (g.2.2 6), .ref (g.2.2 151), .int 0, .int (-1), .int 0, .ref (g.2.2 18), .ref (g.2.2 19), .ref (g.2.2 20), .ref (g.2.2 21)]) hC hw hnm fl_X7_50 ff_7_4 (by decide) (by decide) rfl rfl (Nat.le_of_ble_eq_true rfl) rfl dX7_init_85 (fun H locs hw => ?_)
  have hw : pd g B 122 E s _ _ := pd_drop hw ((hE 15 (by decide) (by decide)).trans rfl)
  exact k_ret hC hw hr hlocks rfl rfl (Nat.le_of_ble_eq_true rfl) (Nat.le_of_ble_eq_true rfl) dX7_init_88
set_option maxRecDepth 100000 in
set_option maxHeartbeats 4000000 in
theorem t_X10 (l : Launch) (g : Gw) (B : Nat) (hG : GB g B) {E : Nat → va_E} (hE : ∀ i, 6 ≤ i → i < 171 → E i = ce g mI i) : KT l g B yX10_init cX10_init 3 2 4 177 [.ref (g.2.2 22), .ref (g.2.2 6), .ref (g.2.2 15)] 123 (eset E 22 (.inr (10, [.null, .null, .int 0, .int 0, .null, .null, .null]))) E := by
  refine KT.of hG (by decide) (Nat.le_of_ble_eq_true rfl) ?_
  intro p e s m args below meth c ls hC hw hr hlocks hnm hl
  have hx := hC.1
  have hb := hC.2.1
  have hl : lv_has ls 3 [(0, .ref (g.2.2 22)), (1, .ref (g.2.2 6)), (2, .ref (g.2.2 15))] := hl
  refine lv_aload_n hx hb dX10_init_0 rfl (lv_at hl 0 rfl) ?_
  refine W.objInit hx hb hC.2.2.2.1 (hC.2.2.2.2.1 _ oi_X10_3) (hC.2.2.2.2.1 _ oi_in) (hC.2.2.2.2.1 _ oi_co) rfl (by rw [hC.2.2.1]; exact hl.1) rfl dX10_init_1 (Nat.le_of_ble_eq_true rfl) (Nat.le_of_ble_eq_true rfl) ?_
  refine W.eq (g2 := F0 m 4 ls []) rfl ?_
  refine lv_aload_n hx hb dX10_init_4 rfl (lv_at hl 0 rfl) ?_
  refine k_new (i := 153) (ci := 6) (fs := [.null, .int 0]) hC hw tyX6 (by decide) (by decide) rfl inG6 tyX6_ok ck_X10_9 is_X6 ii_X6 (fun j hj => by (have : j = 0 ∨ j = 1 := by omega); rcases this with rfl | rfl <;> rfl) (Nat.le_of_ble_eq_true rfl) (Nat.le_of_ble_eq_true rfl) dX10_init_5 (fun H hw => ?_)
  have hw : pd g B 124 (eset (eset E 22 (.inr (10, [.null, .null, .int 0, .int 0, .null, .null, .null]))) 153 (.inr (6, [.null, .int 0]))) s _ _ := hw
  refine lv_dup hx hb dX10_init_8 rfl ?_
  refine k_ctorN (b := 153) (As := []) (rest := [.ref (g.2.2 153), .ref (g.2.2 22)]) hC hw (t_X6 l g B hG (by decide) (by decide) (by decide) ((eset_b (by decide)).trans ((hE 153 (by decide) (by decide)).trans rfl)) ((eset_b (by decide)).trans ((hE 154 (by decide) (by decide)).trans rfl))) mn_X10_11 im_X6_init rfl rfl hl.1 ⟨(Nat.le_of_ble_eq_true rfl), (Nat.le_of_ble_eq_true rfl)⟩ (Nat.le_of_ble_eq_true rfl) (Nat.le_of_ble_eq_true rfl) (Nat.le_of_ble_eq_true rfl) dX10_init_9 (fun H locs hw => ?_)
  have hw : pd g B 125 (eset E 22 (.inr (10, [.null, .null, .int 0, .int 0, .null, .null, .null]))) s _ _ := hw
  refine k_fin (E := E) (o := 22) (fs := [.null, .null, .int 0, .int 0, .null, .null, .null]) (fs' := [.ref (g.2.2 153), .null, .int 0, .int 0, .null, .null, .null]) hC hw hnm fl_X10_12 ff_10_0 (by decide) (by decide) rfl rfl (Nat.le_of_ble_eq_true rfl) rfl dX10_init_12 (fun H locs hw => ?_)
  refine lv_aload_n hx hb dX10_init_15 rfl (lv_at hl 0 rfl) ?_
  refine lv_bipush (v := (100 : Int32)) hx hb dX10_init_16 (by decide) ?_
  refine k_arr (i := 23) (k := 0) (N := (100 : Int32)) (N' := 100) (a0 := (100, .inl (fun _ => 0))) hC hw (by decide) (by decide) aw_int (hC.2.2.2.2.2.1.1.2 0 _ rfl).2 ((eset_b (by decide)).trans ((hE 23 (by decide) (by decide)).trans rfl)) (fun _ => rfl) (by decide) (by decide) (by decide) (Nat.le_of_ble_eq_true rfl) (Nat.le_of_ble_eq_true rfl) dX10_init_18 (fun H hw => ?_)
  have hw : pd g B 126 (eset E 22 (.inr (10, [.ref (g.2.2 153), .null, .int 0, .int 0, .null, .null, .null]))) s _ _ := hw
  refine k_fin (E := E) (o := 22) (fs := [.ref (g.2.2 153), .null, .int 0, .int 0, .null, .null, .null]) (fs' := [.ref (g.2.2 153), .ref (g.2.2 23), .int 0, .int 0, .null, .null, .null]) hC hw hnm fl_X10_18 ff_10_1 (by decide) (by decide) rfl rfl (Nat.le_of_ble_eq_true rfl) rfl dX10_init_20 (fun H locs hw => ?_)
  refine lv_aload_n hx hb dX10_init_23 rfl (lv_at hl 0 rfl) ?_
  refine lv_bipush (v := (61 : Int32)) hx hb dX10_init_24 (by decide) ?_
  refine k_arr (i := 24) (k := 0) (N := (61 : Int32)) (N' := 61) (a0 := (61, .inl (fun _ => 0))) hC hw (by decide) (by decide) aw_int (hC.2.2.2.2.2.1.1.2 0 _ rfl).2 ((eset_b (by decide)).trans ((hE 24 (by decide) (by decide)).trans rfl)) (fun _ => rfl) (by decide) (by decide) (by decide) (Nat.le_of_ble_eq_true rfl) (Nat.le_of_ble_eq_true rfl) dX10_init_26 (fun H hw => ?_)
  have hw : pd g B 127 (eset E 22 (.inr (10, [.ref (g.2.2 153), .ref (g.2.2 23), .int 0, .int 0, .null, .null, .null]))) s _ _ := hw
  refine k_fin (E := E) (o := 22) (fs := [.ref (g.2.2 153), .ref (g.2.2 23), .int 0, .int 0, .null, .null, .null]) (fs' := [.ref (g.2.2 153), .ref (g.2.2 23), .int 0, .int 0, .null, .null, .ref (g.2.2 24)]) hC hw hnm fl_X10_22 ff_10_6 (by decide) (by decide) rfl rfl (Nat.le_of_ble_eq_true rfl) rfl dX10_init_28 (fun H locs hw => ?_)
  refine lv_aload_n hx hb dX10_init_31 rfl (lv_at hl 0 rfl) ?_
  refine lv_aload_n hx hb dX10_init_32 rfl (lv_at hl 1 rfl) ?_
  refine k_fin (E := E) (o := 22) (fs := [.ref (g.2.2 153), .ref (g.2.2 23), .int 0, .int 0, .null, .null, .ref (g.2.2 24)]) (fs' := [.ref (g.2.2 153), .ref (g.2.2 23), .int 0, .int 0, .ref (g.2.2 6), .null, .ref (g.2.2 24)]) hC hw hnm fl_X10_25 ff_10_4 (by decide) (by decide) rfl rfl (Nat.le_of_ble_eq_true rfl) rfl dX10_init_33 (fun H locs hw => ?_)
  refine lv_aload_n hx hb dX10_init_36 rfl (lv_at hl 0 rfl) ?_
  refine lv_aload_n hx hb dX10_init_37 rfl (lv_at hl 2 rfl) ?_
  refine k_fin (E := E) (o := 22) (fs := [.ref (g.2.2 153), .ref (g.2.2 23), .int 0, .int 0, .ref (g.2.2 6), .null, .ref (g.2.2 24)]) (fs' := [.ref (g.2.2 153), .ref (g.2.2 23), .int 0, .int 0, .ref (g.2.2 6), .ref (g.2.2 15), .ref (g.2.2 24)]) hC hw hnm fl_X10_29 ff_10_5 (by decide) (by decide) rfl rfl (Nat.le_of_ble_eq_true rfl) rfl dX10_init_38 (fun H locs hw => ?_)
  have hw : pd g B 127 E s _ _ := pd_drop hw ((hE 22 (by decide) (by decide)).trans rfl)
  exact k_ret hC hw hr hlocks rfl rfl (Nat.le_of_ble_eq_true rfl) (Nat.le_of_ble_eq_true rfl) dX10_init_41
set_option maxRecDepth 100000 in
set_option maxHeartbeats 4000000 in
theorem t_X3 (l : Launch) (g : Gw) (B : Nat) (hG : GB g B) {E : Nat → va_E} (hE : ∀ i, 6 ≤ i → i < 171 → E i = ce g mI i) : KT l g B yX3_init cX3_init 2 2 82 720 [.ref (g.2.2 9)] 26 (eset E 9 (.inr (3, [.int 0, .int 0, .int 0, .null, .null]))) E := by
  refine KT.of hG (by decide) (Nat.le_of_ble_eq_true rfl) ?_
  intro p e s m args below meth c ls hC hw hr hlocks hnm hl
  have hx := hC.1
  have hb := hC.2.1
  have hl : lv_has ls 2 [(0, .ref (g.2.2 9))] := hl
  refine lv_aload_n hx hb dX3_init_0 rfl (lv_at hl 0 rfl) ?_
  refine W.objInit hx hb hC.2.2.2.1 (hC.2.2.2.2.1 _ oi_X3_3) (hC.2.2.2.2.1 _ oi_in) (hC.2.2.2.2.1 _ oi_co) rfl (by rw [hC.2.2.1]; exact hl.1) rfl dX3_init_1 (Nat.le_of_ble_eq_true rfl) (Nat.le_of_ble_eq_true rfl) ?_
  refine W.eq (g2 := F0 m 4 ls []) rfl ?_
  refine lv_aload_n hx hb dX3_init_4 rfl (lv_at hl 0 rfl) ?_
  refine lv_bipush (v := (40 : Int32)) hx hb dX3_init_5 (by decide) ?_
  refine k_arr (i := 10) (k := 0) (N := (40 : Int32)) (N' := 40) (a0 := (40, .inl (fun _ => 0))) hC hw (by decide) (by decide) aw_int (hC.2.2.2.2.2.1.1.2 0 _ rfl).2 ((eset_b (by decide)).trans ((hE 10 (by decide) (by decide)).trans rfl)) (fun _ => rfl) (by decide) (by decide) (by decide) (Nat.le_of_ble_eq_true rfl) (Nat.le_of_ble_eq_true rfl) dX3_init_7 (fun H hw => ?_)
  have hw : pd g B 27 (eset E 9 (.inr (3, [.int 0, .int 0, .int 0, .null, .null]))) s _ _ := hw
  refine k_fin (E := E) (o := 9) (fs := [.int 0, .int 0, .int 0, .null, .null]) (fs' := [.int 0, .int 0, .int 0, .ref (g.2.2 10), .null]) hC hw hnm fl_X3_9 ff_3_3 (by decide) (by decide) rfl rfl (Nat.le_of_ble_eq_true rfl) rfl dX3_init_9 (fun H locs hw => ?_)
  refine lv_aload_n hx hb dX3_init_12 rfl (lv_at hl 0 rfl) ?_
  refine lv_bipush (v := (40 : Int32)) hx hb dX3_init_13 (by decide) ?_
  refine k_ref (i := 11) (k := 3) (N := (40 : Int32)) (N' := 40) hC hw (by decide) (by decide) ck_X3_15 hC.2.2.2.2.2.2.2.1.1 rfl (by decide) (by decide) (by decide) (Nat.le_of_ble_eq_true rfl) (Nat.le_of_ble_eq_true rfl) dX3_init_15 (fun H hw => ?_)
  have hw := pd_swap (by decide) hw
  rw [← fI_0 g 11] at hw
  have hw : pd g B 28 (eset (eset E 11 (.inl (g.2.1 3, 40, .inr (.inr (.inr (.inr (fI g 11 0))))))) 9 (.inr (3, [.int 0, .int 0, .int 0, .ref (g.2.2 10), .null]))) s _ _ := hw
  refine k_fin (E := (eset E 11 (.inl (g.2.1 3, 40, .inr (.inr (.inr (.inr (fI g 11 0)))))))) (o := 9) (fs := [.int 0, .int 0, .int 0, .ref (g.2.2 10), .null]) (fs' := [.int 0, .int 0, .int 0, .ref (g.2.2 10), .ref (g.2.2 11)]) hC hw hnm fl_X3_17 ff_3_4 (by decide) (by decide) rfl rfl (Nat.le_of_ble_eq_true rfl) rfl dX3_init_18 (fun H locs hw => ?_)
  have hw : pd g B 28 (eset E 11 (.inl (g.2.1 3, 40, .inr (.inr (.inr (.inr (fI g 11 0))))))) s _ _ := pd_drop hw ((eset_b (by decide)).trans ((hE 9 (by decide) (by decide)).trans rfl))
  refine lv_iconst (v := (0 : Int32)) hx hb dX3_init_21 (by decide) ?_
  refine lv_istore_n (lv' := [(1, .int (0 : Int32)), (0, .ref (g.2.2 9))]) hx hb dX3_init_22 rfl hl (by decide) rfl (fun ls hl => ?_)
  have LP23 : ∀ k i, k + i = 40 → ∀ (H : Heap) (locs : List Loc) (ls : Array Slot), pd g B (28 + 2 * i) (eset E 11 (.inl (g.2.1 3, 40, .inr (.inr (.inr (.inr (fI g 11 i))))))) s H locs → lv_has ls 2 [(1, .int (nI i)), (0, .ref (g.2.2 9))] → W p l e { frames := 2, cells := 82, slots := 720, locals := 40 * 2 } s m args below meth c H locs (2 + 2 * i) (80 + 16 * i) (MQ below (QKb g B (26 + 82) E) args s 82 720 (fun q => B ≤ q)) (F0 m 23 ls []) := by
    intro k
    induction k with
    | zero =>
      intro i hk H locs ls hw hl
      obtain rfl : i = 40 := by omega
      refine lv_iload_n hx hb dX3_init_23 rfl (lv_at hl 0 rfl) ?_
      refine lv_bipush (v := (40 : Int32)) hx hb dX3_init_24 (by decide) ?_
      refine lv_icmp_ge (tgt := 48) hx hb dX3_init_26 (by decide) (fun hc => ?_) (fun hc => absurd (by decide) hc)
      have hw := pd_fI (E := E) hw ((hE 11 (by decide) (by decide)).trans rfl)
      exact k_ret hC hw hr hlocks rfl rfl (by decide) (by decide) dX3_init_48
    | succ k ih =>
      intro i hk H locs ls hw hl
      have hi : i < 40 := by omega
      have hf := lf_11 i hi
      refine lv_iload_n hx hb dX3_init_23 rfl (lv_at hl 0 rfl) ?_
      refine lv_bipush (v := (40 : Int32)) hx hb dX3_init_24 (by decide) ?_
      refine lv_icmp_ge (tgt := 48) hx hb dX3_init_26 (by decide) (fun hc => absurd ((nI_leI (a := 40) (b := i) (by decide) (by omega)).mp hc) (by omega)) (fun hc => ?_)
      refine lv_aload_n hx hb dX3_init_29 rfl (lv_at hl 1 rfl) ?_
      refine k_get (o := 9) (fs := [.int 0, .int 0, .int 0, .ref (g.2.2 10), .ref (g.2.2 11)]) (v := .ref (g.2.2 11)) hC hw fl_X3_17 (by decide) (by show 25 < _; omega) ((eset_b (by decide)).trans ((hE 9 (by decide) (by decide)).trans rfl)) rfl dX3_init_30 ?_
      refine lv_iload_n hx hb dX3_init_33 rfl (lv_at hl 0 rfl) ?_
      refine k_new (i := (69 + 2 * i)) (ci := 6) (fs := [.null, .int 0]) hC hw tyX6 (Nat.lt_of_succ_lt hf.1) hf.2.1 rfl inG6 tyX6_ok ck_X3_15 is_X6 ii_X6 (fun j hj => by (have : j = 0 ∨ j = 1 := by omega); rcases this with rfl | rfl <;> rfl) (by show _ ≤ 82; omega) (by show _ ≤ 720; omega) dX3_init_34 (fun H hw => ?_)
      refine lv_dup hx hb dX3_init_37 rfl ?_
      refine k_ctorN (b := (69 + 2 * i)) (As := []) (rest := [.ref (g.2.2 ((69 + 2 * i))), .int (nI i), .ref (g.2.2 11)]) hC hw (t_X6 l g B hG hf.1 (by rw [hf.2.1]; omega) (by rw [hf.2.2.2.1]) ((eset_b (by omega)).trans ((hE _ (by omega) (by omega)).trans (ce_sc g (by omega) (by omega) hf.2.2.2.2.1 hf.2.2.2.2.2.1))) ((eset_b (by omega)).trans ((hE _ (by omega) (by omega)).trans (ce_sa g (by omega) (by omega) hf.2.2.2.2.2.2.1 hf.2.2.2.2.2.2.2)))) mn_X3_21 im_X6_init rfl rfl hl.1 ⟨(Nat.le_of_ble_eq_true rfl), (Nat.le_of_ble_eq_true rfl)⟩ (Nat.le_of_ble_eq_true rfl) (by show _ ≤ 82; omega) (by show _ ≤ 720; omega) dX3_init_38 (fun H locs hw => ?_)
      refine k_ast (E := E) (o2 := (69 + 2 * i)) (ci := 6) (r := (RX6, TX6, 2)) hC hw (by decide) (by show 27 < _; omega) rfl (Nat.lt_of_succ_lt hf.1) (by rw [hf.2.1]; omega) (by omega) ((hE _ (by omega) (by omega)).trans (ce_sc g (by omega) (by omega) hf.2.2.2.2.1 hf.2.2.2.2.2.1)) rfl (vin_n hi (by decide)) dX3_init_41 (fun H locs hw => ?_)
      rw [nI_clamp (by omega), fI_s hf.2.2.1] at hw
      refine lv_iinc (v := nI (i + 1)) (lv' := [(1, .int (nI (i + 1))), (0, .ref (g.2.2 9))]) hx hb dX3_init_42 hl (k := 0) rfl (by rw [← nI_add]; rfl) (by decide) rfl (fun ls hl => ?_)
      refine lv_goto (tgt := 23) hx hb dX3_init_45 (by decide) ?_
      refine W.widen (k := 2 + 2 * (i + 1)) (n := 80 + 16 * (i + 1)) (by omega) (by omega) ?_
      refine ih (i + 1) (by omega) H locs ls ?_ (lv_sub hl [0, 1] rfl)
      rw [show 28 + 2 * (i + 1) = 28 + 2 * i + 1 + 1 by omega]
      exact hw
  exact LP23 40 0 rfl _ _ ls hw (lv_sub hl [0, 1] rfl)
set_option maxRecDepth 100000 in
set_option maxHeartbeats 4000000 in
theorem t_X8 (l : Launch) (g : Gw) (B : Nat) (hG : GB g B) {E : Nat → va_E} (hE : ∀ i, 6 ≤ i → i < 171 → E i = ce g mI i) : KT l g B yX8_init cX8_init 4 2 14 108 [.ref (g.2.2 6), .ref (g.2.2 1), .ref (g.2.2 2)] 7 (eset E 6 (.inr (8, [.int 0, .int 0, .int 0, .int 0, .null, .null, .null, .null]))) E := by
  refine KT.of hG (by decide) (Nat.le_of_ble_eq_true rfl) ?_
  intro p e s m args below meth c ls hC hw hr hlocks hnm hl
  have hx := hC.1
  have hb := hC.2.1
  have hl : lv_has ls 4 [(0, .ref (g.2.2 6)), (1, .ref (g.2.2 1)), (2, .ref (g.2.2 2))] := hl
  refine lv_aload_n hx hb dX8_init_0 rfl (lv_at hl 0 rfl) ?_
  refine W.objInit hx hb hC.2.2.2.1 (hC.2.2.2.2.1 _ oi_X8_3) (hC.2.2.2.2.1 _ oi_in) (hC.2.2.2.2.1 _ oi_co) rfl (by rw [hC.2.2.1]; exact hl.1) rfl dX8_init_1 (Nat.le_of_ble_eq_true rfl) (Nat.le_of_ble_eq_true rfl) ?_
  refine W.eq (g2 := F0 m 4 ls []) rfl ?_
  refine lv_aload_n hx hb dX8_init_4 rfl (lv_at hl 0 rfl) ?_
  refine lv_bipush (v := (6 : Int32)) hx hb dX8_init_5 (by decide) ?_
  refine k_ref (i := 7) (k := 3) (N := (6 : Int32)) (N' := 6) hC hw (by decide) (by decide) ck_X8_9 hC.2.2.2.2.2.2.2.1.1 rfl (by decide) (by decide) (by decide) (Nat.le_of_ble_eq_true rfl) (Nat.le_of_ble_eq_true rfl) dX8_init_7 (fun H hw => ?_)
  have hw := pd_swap (by decide) hw
  rw [← fI_0 g 7] at hw
  have hw : pd g B 8 (eset (eset E 7 (.inl (g.2.1 3, 6, .inr (.inr (.inr (.inr (fI g 7 0))))))) 6 (.inr (8, [.int 0, .int 0, .int 0, .int 0, .null, .null, .null, .null]))) s _ _ := hw
  refine k_fin (E := (eset E 7 (.inl (g.2.1 3, 6, .inr (.inr (.inr (.inr (fI g 7 0)))))))) (o := 6) (fs := [.int 0, .int 0, .int 0, .int 0, .null, .null, .null, .null]) (fs' := [.int 0, .int 0, .int 0, .int 0, .ref (g.2.2 7), .null, .null, .null]) hC hw hnm fl_X8_11 ff_8_4 (by decide) (by decide) rfl rfl (Nat.le_of_ble_eq_true rfl) rfl dX8_init_10 (fun H locs hw => ?_)
  refine lv_aload_n hx hb dX8_init_13 rfl (lv_at hl 0 rfl) ?_
  refine lv_bipush (v := (6 : Int32)) hx hb dX8_init_14 (by decide) ?_
  refine k_arr (i := 8) (k := 0) (N := (6 : Int32)) (N' := 6) (a0 := (6, .inl (fun _ => 0))) hC hw (by decide) (by decide) aw_int (hC.2.2.2.2.2.1.1.2 0 _ rfl).2 ((eset_b (by decide)).trans ((eset_b (by decide)).trans ((hE 8 (by decide) (by decide)).trans rfl))) (fun _ => rfl) (by decide) (by decide) (by decide) (Nat.le_of_ble_eq_true rfl) (Nat.le_of_ble_eq_true rfl) dX8_init_16 (fun H hw => ?_)
  have hw : pd g B 9 (eset (eset E 7 (.inl (g.2.1 3, 6, .inr (.inr (.inr (.inr (fI g 7 0))))))) 6 (.inr (8, [.int 0, .int 0, .int 0, .int 0, .ref (g.2.2 7), .null, .null, .null]))) s _ _ := hw
  refine k_fin (E := (eset E 7 (.inl (g.2.1 3, 6, .inr (.inr (.inr (.inr (fI g 7 0)))))))) (o := 6) (fs := [.int 0, .int 0, .int 0, .int 0, .ref (g.2.2 7), .null, .null, .null]) (fs' := [.int 0, .int 0, .int 0, .int 0, .ref (g.2.2 7), .ref (g.2.2 8), .null, .null]) hC hw hnm fl_X8_17 ff_8_5 (by decide) (by decide) rfl rfl (Nat.le_of_ble_eq_true rfl) rfl dX8_init_18 (fun H locs hw => ?_)
  refine lv_aload_n hx hb dX8_init_21 rfl (lv_at hl 0 rfl) ?_
  refine lv_aload_n hx hb dX8_init_22 rfl (lv_at hl 1 rfl) ?_
  refine k_fin (E := (eset E 7 (.inl (g.2.1 3, 6, .inr (.inr (.inr (.inr (fI g 7 0)))))))) (o := 6) (fs := [.int 0, .int 0, .int 0, .int 0, .ref (g.2.2 7), .ref (g.2.2 8), .null, .null]) (fs' := [.int 0, .int 0, .int 0, .int 0, .ref (g.2.2 7), .ref (g.2.2 8), .ref (g.2.2 1), .null]) hC hw hnm fl_X8_21 ff_8_6 (by decide) (by decide) rfl rfl (Nat.le_of_ble_eq_true rfl) rfl dX8_init_23 (fun H locs hw => ?_)
  refine lv_aload_n hx hb dX8_init_26 rfl (lv_at hl 0 rfl) ?_
  refine lv_aload_n hx hb dX8_init_27 rfl (lv_at hl 2 rfl) ?_
  refine k_fin (E := (eset E 7 (.inl (g.2.1 3, 6, .inr (.inr (.inr (.inr (fI g 7 0)))))))) (o := 6) (fs := [.int 0, .int 0, .int 0, .int 0, .ref (g.2.2 7), .ref (g.2.2 8), .ref (g.2.2 1), .null]) (fs' := [.int 0, .int 0, .int 0, .int 0, .ref (g.2.2 7), .ref (g.2.2 8), .ref (g.2.2 1), .ref (g.2.2 2)]) hC hw hnm fl_X8_25 ff_8_7 (by decide) (by decide) rfl rfl (Nat.le_of_ble_eq_true rfl) rfl dX8_init_28 (fun H locs hw => ?_)
  have hw : pd g B 9 (eset E 7 (.inl (g.2.1 3, 6, .inr (.inr (.inr (.inr (fI g 7 0))))))) s _ _ := pd_drop hw ((eset_b (by decide)).trans ((hE 6 (by decide) (by decide)).trans rfl))
  refine lv_iconst (v := (0 : Int32)) hx hb dX8_init_31 (by decide) ?_
  refine lv_istore_n (lv' := [(3, .int (0 : Int32)), (0, .ref (g.2.2 6)), (1, .ref (g.2.2 1)), (2, .ref (g.2.2 2))]) hx hb dX8_init_32 rfl hl (by decide) rfl (fun ls hl => ?_)
  have LP33 : ∀ k i, k + i = 6 → ∀ (H : Heap) (locs : List Loc) (ls : Array Slot), pd g B (9 + 2 * i) (eset E 7 (.inl (g.2.1 3, 6, .inr (.inr (.inr (.inr (fI g 7 i))))))) s H locs → lv_has ls 4 [(3, .int (nI i)), (0, .ref (g.2.2 6))] → W p l e { frames := 2, cells := 14, slots := 108, locals := 40 * 2 } s m args below meth c H locs (2 + 2 * i) (12 + 16 * i) (MQ below (QKb g B (7 + 14) E) args s 14 108 (fun q => B ≤ q)) (F0 m 33 ls []) := by
    intro k
    induction k with
    | zero =>
      intro i hk H locs ls hw hl
      obtain rfl : i = 6 := by omega
      refine lv_iload_n hx hb dX8_init_33 rfl (lv_at hl 0 rfl) ?_
      refine lv_bipush (v := (6 : Int32)) hx hb dX8_init_34 (by decide) ?_
      refine lv_icmp_ge (tgt := 58) hx hb dX8_init_36 (by decide) (fun hc => ?_) (fun hc => absurd (by decide) hc)
      have hw := pd_fI (E := E) hw ((hE 7 (by decide) (by decide)).trans rfl)
      exact k_ret hC hw hr hlocks rfl rfl (by decide) (by decide) dX8_init_58
    | succ k ih =>
      intro i hk H locs ls hw hl
      have hi : i < 6 := by omega
      have hf := lf_7 i hi
      refine lv_iload_n hx hb dX8_init_33 rfl (lv_at hl 0 rfl) ?_
      refine lv_bipush (v := (6 : Int32)) hx hb dX8_init_34 (by decide) ?_
      refine lv_icmp_ge (tgt := 58) hx hb dX8_init_36 (by decide) (fun hc => absurd ((nI_leI (a := 6) (b := i) (by decide) (by omega)).mp hc) (by omega)) (fun hc => ?_)
      refine lv_aload_n hx hb dX8_init_39 rfl (lv_at hl 1 rfl) ?_
      refine k_get (o := 6) (fs := [.int 0, .int 0, .int 0, .int 0, .ref (g.2.2 7), .ref (g.2.2 8), .ref (g.2.2 1), .ref (g.2.2 2)]) (v := .ref (g.2.2 7)) hC hw fl_X8_11 (by decide) (by show 6 < _; omega) ((eset_b (by decide)).trans ((hE 6 (by decide) (by decide)).trans rfl)) rfl dX8_init_40 ?_
      refine lv_iload_n hx hb dX8_init_43 rfl (lv_at hl 0 rfl) ?_
      refine k_new (i := (57 + 2 * i)) (ci := 6) (fs := [.null, .int 0]) hC hw tyX6 (Nat.lt_of_succ_lt hf.1) hf.2.1 rfl inG6 tyX6_ok ck_X8_9 is_X6 ii_X6 (fun j hj => by (have : j = 0 ∨ j = 1 := by omega); rcases this with rfl | rfl <;> rfl) (by show _ ≤ 14; omega) (by show _ ≤ 108; omega) dX8_init_44 (fun H hw => ?_)
      refine lv_dup hx hb dX8_init_47 rfl ?_
      refine k_ctorN (b := (57 + 2 * i)) (As := []) (rest := [.ref (g.2.2 ((57 + 2 * i))), .int (nI i), .ref (g.2.2 7)]) hC hw (t_X6 l g B hG hf.1 (by rw [hf.2.1]; omega) (by rw [hf.2.2.2.1]) ((eset_b (by omega)).trans ((hE _ (by omega) (by omega)).trans (ce_sc g (by omega) (by omega) hf.2.2.2.2.1 hf.2.2.2.2.2.1))) ((eset_b (by omega)).trans ((hE _ (by omega) (by omega)).trans (ce_sa g (by omega) (by omega) hf.2.2.2.2.2.2.1 hf.2.2.2.2.2.2.2)))) mn_X8_29 im_X6_init rfl rfl hl.1 ⟨(Nat.le_of_ble_eq_true rfl), (Nat.le_of_ble_eq_true rfl)⟩ (Nat.le_of_ble_eq_true rfl) (by show _ ≤ 14; omega) (by show _ ≤ 108; omega) dX8_init_48 (fun H locs hw => ?_)
      refine k_ast (E := E) (o2 := (57 + 2 * i)) (ci := 6) (r := (RX6, TX6, 2)) hC hw (by decide) (by show 7 < _; omega) rfl (Nat.lt_of_succ_lt hf.1) (by rw [hf.2.1]; omega) (by omega) ((hE _ (by omega) (by omega)).trans (ce_sc g (by omega) (by omega) hf.2.2.2.2.1 hf.2.2.2.2.2.1)) rfl (vin_n hi (by decide)) dX8_init_51 (fun H locs hw => ?_)
      rw [nI_clamp (by omega), fI_s hf.2.2.1] at hw
      refine lv_iinc (v := nI (i + 1)) (lv' := [(3, .int (nI (i + 1))), (0, .ref (g.2.2 6))]) hx hb dX8_init_52 hl (k := 0) rfl (by rw [← nI_add]; rfl) (by decide) rfl (fun ls hl => ?_)
      refine lv_goto (tgt := 33) hx hb dX8_init_55 (by decide) ?_
      refine W.widen (k := 2 + 2 * (i + 1)) (n := 12 + 16 * (i + 1)) (by omega) (by omega) ?_
      refine ih (i + 1) (by omega) H locs ls ?_ (lv_sub hl [0, 1] rfl)
      rw [show 9 + 2 * (i + 1) = 9 + 2 * i + 1 + 1 by omega]
      exact hw
  exact LP33 6 0 rfl _ _ ls hw (lv_sub hl [0, 1] rfl)
set_option maxRecDepth 100000 in
set_option maxHeartbeats 4000000 in
theorem t_X0 (l : Launch) (g : Gw) (B : Nat) (hG : GB g B) {E : Nat → va_E} (hE : ∀ i, 6 ≤ i → i < 171 → E i = ce g mI i) : KT l g B yX0_init cX0_init 4 2 21 6829 [.ref (g.2.2 25), .ref (g.2.2 1), .ref (g.2.2 6)] 128 (eset E 25 (.inr (0, [.null, .null, .null, .null, .null, .int 0, .int 0, .int 0, .null, .null, .null, .int 0]))) E := by
  refine KT.of hG (by decide) (Nat.le_of_ble_eq_true rfl) ?_
  intro p e s m args below meth c ls hC hw hr hlocks hnm hl
  have hx := hC.1
  have hb := hC.2.1
  have hl : lv_has ls 4 [(0, .ref (g.2.2 25)), (1, .ref (g.2.2 1)), (2, .ref (g.2.2 6))] := hl
  refine lv_aload_n hx hb dX0_init_0 rfl (lv_at hl 0 rfl) ?_
  refine W.objInit hx hb hC.2.2.2.1 (hC.2.2.2.2.1 _ oi_X0_3) (hC.2.2.2.2.1 _ oi_in) (hC.2.2.2.2.1 _ oi_co) rfl (by rw [hC.2.2.1]; exact hl.1) rfl dX0_init_1 (Nat.le_of_ble_eq_true rfl) (Nat.le_of_ble_eq_true rfl) ?_
  refine W.eq (g2 := F0 m 4 ls []) rfl ?_
  refine lv_aload_n hx hb dX0_init_4 rfl (lv_at hl 0 rfl) ?_
  refine lv_bipush (v := (6 : Int32)) hx hb dX0_init_5 (by decide) ?_
  refine k_arr (i := 26) (k := 0) (N := (6 : Int32)) (N' := 6) (a0 := (6, .inl (fun _ => 0))) hC hw (by decide) (by decide) aw_int (hC.2.2.2.2.2.1.1.2 0 _ rfl).2 ((eset_b (by decide)).trans ((hE 26 (by decide) (by decide)).trans rfl)) (fun _ => rfl) (by decide) (by decide) (by decide) (Nat.le_of_ble_eq_true rfl) (Nat.le_of_ble_eq_true rfl) dX0_init_7 (fun H hw => ?_)
  have hw : pd g B 129 (eset E 25 (.inr (0, [.null, .null, .null, .null, .null, .int 0, .int 0, .int 0, .null, .null, .null, .int 0]))) s _ _ := hw
  refine k_fin (E := E) (o := 25) (fs := [.null, .null, .null, .null, .null, .int 0, .int 0, .int 0, .null, .null, .null, .int 0]) (fs' := [.ref (g.2.2 26), .null, .null, .null, .null, .int 0, .int 0, .int 0, .null, .null, .null, .int 0]) hC hw hnm fl_X0_9 ff_0_0 (by decide) (by decide) rfl rfl (Nat.le_of_ble_eq_true rfl) rfl dX0_init_9 (fun H locs hw => ?_)
  refine lv_aload_n hx hb dX0_init_12 rfl (lv_at hl 0 rfl) ?_
  refine lv_bipush (v := (7 : Int32)) hx hb dX0_init_13 (by decide) ?_
  refine k_ref (i := 27) (k := 3) (N := (7 : Int32)) (N' := 7) hC hw (by decide) (by decide) ck_X0_15 hC.2.2.2.2.2.2.2.1.1 rfl (by decide) (by decide) (by decide) (Nat.le_of_ble_eq_true rfl) (Nat.le_of_ble_eq_true rfl) dX0_init_15 (fun H hw => ?_)
  have hw := pd_swap (by decide) hw
  rw [← fI_0 g 27] at hw
  have hw : pd g B 130 (eset (eset E 27 (.inl (g.2.1 3, 7, .inr (.inr (.inr (.inr (fI g 27 0))))))) 25 (.inr (0, [.ref (g.2.2 26), .null, .null, .null, .null, .int 0, .int 0, .int 0, .null, .null, .null, .int 0]))) s _ _ := hw
  refine k_fin (E := (eset E 27 (.inl (g.2.1 3, 7, .inr (.inr (.inr (.inr (fI g 27 0)))))))) (o := 25) (fs := [.ref (g.2.2 26), .null, .null, .null, .null, .int 0, .int 0, .int 0, .null, .null, .null, .int 0]) (fs' := [.ref (g.2.2 26), .null, .null, .ref (g.2.2 27), .null, .int 0, .int 0, .int 0, .null, .null, .null, .int 0]) hC hw hnm fl_X0_17 ff_0_3 (by decide) (by decide) rfl rfl (Nat.le_of_ble_eq_true rfl) rfl dX0_init_18 (fun H locs hw => ?_)
  refine lv_aload_n hx hb dX0_init_21 rfl (lv_at hl 0 rfl) ?_
  refine k_new (i := 169) (ci := 6) (fs := [.null, .int 0]) hC hw tyX6 (by decide) (by decide) rfl inG6 tyX6_ok ck_X0_15 is_X6 ii_X6 (fun j hj => by (have : j = 0 ∨ j = 1 := by omega); rcases this with rfl | rfl <;> rfl) (Nat.le_of_ble_eq_true rfl) (Nat.le_of_ble_eq_true rfl) dX0_init_22 (fun H hw => ?_)
  have hw : pd g B 131 (eset (eset (eset E 27 (.inl (g.2.1 3, 7, .inr (.inr (.inr (.inr (fI g 27 0))))))) 25 (.inr (0, [.ref (g.2.2 26), .null, .null, .ref (g.2.2 27), .null, .int 0, .int 0, .int 0, .null, .null, .null, .int 0]))) 169 (.inr (6, [.null, .int 0]))) s _ _ := hw
  refine lv_dup hx hb dX0_init_25 rfl ?_
  refine k_ctorN (b := 169) (As := []) (rest := [.ref (g.2.2 169), .ref (g.2.2 25)]) hC hw (t_X6 l g B hG (by decide) (by decide) (by decide) ((eset_b (by decide)).trans ((eset_b (by decide)).trans ((hE 169 (by decide) (by decide)).trans rfl))) ((eset_b (by decide)).trans ((eset_b (by decide)).trans ((hE 170 (by decide) (by decide)).trans rfl)))) mn_X0_21 im_X6_init rfl rfl hl.1 ⟨(Nat.le_of_ble_eq_true rfl), (Nat.le_of_ble_eq_true rfl)⟩ (Nat.le_of_ble_eq_true rfl) (Nat.le_of_ble_eq_true rfl) (Nat.le_of_ble_eq_true rfl) dX0_init_26 (fun H locs hw => ?_)
  have hw : pd g B 132 (eset (eset E 27 (.inl (g.2.1 3, 7, .inr (.inr (.inr (.inr (fI g 27 0))))))) 25 (.inr (0, [.ref (g.2.2 26), .null, .null, .ref (g.2.2 27), .null, .int 0, .int 0, .int 0, .null, .null, .null, .int 0]))) s _ _ := hw
  refine k_fin (E := (eset E 27 (.inl (g.2.1 3, 7, .inr (.inr (.inr (.inr (fI g 27 0)))))))) (o := 25) (fs := [.ref (g.2.2 26), .null, .null, .ref (g.2.2 27), .null, .int 0, .int 0, .int 0, .null, .null, .null, .int 0]) (fs' := [.ref (g.2.2 26), .null, .null, .ref (g.2.2 27), .ref (g.2.2 169), .int 0, .int 0, .int 0, .null, .null, .null, .int 0]) hC hw hnm fl_X0_22 ff_0_4 (by decide) (by decide) rfl rfl (Nat.le_of_ble_eq_true rfl) rfl dX0_init_29 (fun H locs hw => ?_)
  refine lv_aload_n hx hb dX0_init_32 rfl (lv_at hl 0 rfl) ?_
  refine lv_sipush (v := (1296 : Int32)) hx hb dX0_init_33 (by decide) ?_
  refine k_arr (i := 28) (k := 1) (N := (1296 : Int32)) (N' := 1296) (a0 := (1296, .inr (.inl (fun _ => 0)))) hC hw (by decide) (by decide) aw_long (hC.2.2.2.2.2.1.1.2 1 _ rfl).2 ((eset_b (by decide)).trans ((eset_b (by decide)).trans ((hE 28 (by decide) (by decide)).trans rfl))) (fun _ => rfl) (by decide) (by decide) (by decide) (Nat.le_of_ble_eq_true rfl) (Nat.le_of_ble_eq_true rfl) dX0_init_36 (fun H hw => ?_)
  have hw : pd g B 133 (eset (eset E 27 (.inl (g.2.1 3, 7, .inr (.inr (.inr (.inr (fI g 27 0))))))) 25 (.inr (0, [.ref (g.2.2 26), .null, .null, .ref (g.2.2 27), .ref (g.2.2 169), .int 0, .int 0, .int 0, .null, .null, .null, .int 0]))) s _ _ := hw
  refine k_fin (E := (eset E 27 (.inl (g.2.1 3, 7, .inr (.inr (.inr (.inr (fI g 27 0)))))))) (o := 25) (fs := [.ref (g.2.2 26), .null, .null, .ref (g.2.2 27), .ref (g.2.2 169), .int 0, .int 0, .int 0, .null, .null, .null, .int 0]) (fs' := [.ref (g.2.2 26), .null, .null, .ref (g.2.2 27), .ref (g.2.2 169), .int 0, .int 0, .int 0, .ref (g.2.2 28), .null, .null, .int 0]) hC hw hnm fl_X0_26 ff_0_8 (by decide) (by decide) rfl rfl (Nat.le_of_ble_eq_true rfl) rfl dX0_init_38 (fun H locs hw => ?_)
  refine lv_aload_n hx hb dX0_init_41 rfl (lv_at hl 0 rfl) ?_
  refine lv_sipush (v := (1296 : Int32)) hx hb dX0_init_42 (by decide) ?_
  refine k_arr (i := 29) (k := 1) (N := (1296 : Int32)) (N' := 1296) (a0 := (1296, .inr (.inl (fun _ => 0)))) hC hw (by decide) (by decide) aw_long (hC.2.2.2.2.2.1.1.2 1 _ rfl).2 ((eset_b (by decide)).trans ((eset_b (by decide)).trans ((hE 29 (by decide) (by decide)).trans rfl))) (fun _ => rfl) (by decide) (by decide) (by decide) (Nat.le_of_ble_eq_true rfl) (Nat.le_of_ble_eq_true rfl) dX0_init_45 (fun H hw => ?_)
  have hw : pd g B 134 (eset (eset E 27 (.inl (g.2.1 3, 7, .inr (.inr (.inr (.inr (fI g 27 0))))))) 25 (.inr (0, [.ref (g.2.2 26), .null, .null, .ref (g.2.2 27), .ref (g.2.2 169), .int 0, .int 0, .int 0, .ref (g.2.2 28), .null, .null, .int 0]))) s _ _ := hw
  refine k_fin (E := (eset E 27 (.inl (g.2.1 3, 7, .inr (.inr (.inr (.inr (fI g 27 0)))))))) (o := 25) (fs := [.ref (g.2.2 26), .null, .null, .ref (g.2.2 27), .ref (g.2.2 169), .int 0, .int 0, .int 0, .ref (g.2.2 28), .null, .null, .int 0]) (fs' := [.ref (g.2.2 26), .null, .null, .ref (g.2.2 27), .ref (g.2.2 169), .int 0, .int 0, .int 0, .ref (g.2.2 28), .ref (g.2.2 29), .null, .int 0]) hC hw hnm fl_X0_30 ff_0_9 (by decide) (by decide) rfl rfl (Nat.le_of_ble_eq_true rfl) rfl dX0_init_47 (fun H locs hw => ?_)
  refine lv_aload_n hx hb dX0_init_50 rfl (lv_at hl 0 rfl) ?_
  refine lv_sipush (v := (4096 : Int32)) hx hb dX0_init_51 (by decide) ?_
  refine k_arr (i := 30) (k := 0) (N := (4096 : Int32)) (N' := 4096) (a0 := (4096, .inl (fun _ => 0))) hC hw (by decide) (by decide) aw_int (hC.2.2.2.2.2.1.1.2 0 _ rfl).2 ((eset_b (by decide)).trans ((eset_b (by decide)).trans ((hE 30 (by decide) (by decide)).trans rfl))) (fun _ => rfl) (by decide) (by decide) (by decide) (Nat.le_of_ble_eq_true rfl) (Nat.le_of_ble_eq_true rfl) dX0_init_54 (fun H hw => ?_)
  have hw : pd g B 135 (eset (eset E 27 (.inl (g.2.1 3, 7, .inr (.inr (.inr (.inr (fI g 27 0))))))) 25 (.inr (0, [.ref (g.2.2 26), .null, .null, .ref (g.2.2 27), .ref (g.2.2 169), .int 0, .int 0, .int 0, .ref (g.2.2 28), .ref (g.2.2 29), .null, .int 0]))) s _ _ := hw
  refine k_fin (E := (eset E 27 (.inl (g.2.1 3, 7, .inr (.inr (.inr (.inr (fI g 27 0)))))))) (o := 25) (fs := [.ref (g.2.2 26), .null, .null, .ref (g.2.2 27), .ref (g.2.2 169), .int 0, .int 0, .int 0, .ref (g.2.2 28), .ref (g.2.2 29), .null, .int 0]) (fs' := [.ref (g.2.2 26), .null, .null, .ref (g.2.2 27), .ref (g.2.2 169), .int 0, .int 0, .int 0, .ref (g.2.2 28), .ref (g.2.2 29), .ref (g.2.2 30), .int 0]) hC hw hnm fl_X0_33 ff_0_10 (by decide) (by decide) rfl rfl (Nat.le_of_ble_eq_true rfl) rfl dX0_init_56 (fun H locs hw => ?_)
  refine lv_aload_n hx hb dX0_init_59 rfl (lv_at hl 0 rfl) ?_
  refine lv_aload_n hx hb dX0_init_60 rfl (lv_at hl 1 rfl) ?_
  refine k_fin (E := (eset E 27 (.inl (g.2.1 3, 7, .inr (.inr (.inr (.inr (fI g 27 0)))))))) (o := 25) (fs := [.ref (g.2.2 26), .null, .null, .ref (g.2.2 27), .ref (g.2.2 169), .int 0, .int 0, .int 0, .ref (g.2.2 28), .ref (g.2.2 29), .ref (g.2.2 30), .int 0]) (fs' := [.ref (g.2.2 26), .ref (g.2.2 1), .null, .ref (g.2.2 27), .ref (g.2.2 169), .int 0, .int 0, .int 0, .ref (g.2.2 28), .ref (g.2.2 29), .ref (g.2.2 30), .int 0]) hC hw hnm fl_X0_36 ff_0_1 (by decide) (by decide) rfl rfl (Nat.le_of_ble_eq_true rfl) rfl dX0_init_61 (fun H locs hw => ?_)
  refine lv_aload_n hx hb dX0_init_64 rfl (lv_at hl 0 rfl) ?_
  refine lv_aload_n hx hb dX0_init_65 rfl (lv_at hl 2 rfl) ?_
  refine k_fin (E := (eset E 27 (.inl (g.2.1 3, 7, .inr (.inr (.inr (.inr (fI g 27 0)))))))) (o := 25) (fs := [.ref (g.2.2 26), .ref (g.2.2 1), .null, .ref (g.2.2 27), .ref (g.2.2 169), .int 0, .int 0, .int 0, .ref (g.2.2 28), .ref (g.2.2 29), .ref (g.2.2 30), .int 0]) (fs' := [.ref (g.2.2 26), .ref (g.2.2 1), .ref (g.2.2 6), .ref (g.2.2 27), .ref (g.2.2 169), .int 0, .int 0, .int 0, .ref (g.2.2 28), .ref (g.2.2 29), .ref (g.2.2 30), .int 0]) hC hw hnm fl_X0_40 ff_0_2 (by decide) (by decide) rfl rfl (Nat.le_of_ble_eq_true rfl) rfl dX0_init_66 (fun H locs hw => ?_)
  have hw : pd g B 135 (eset E 27 (.inl (g.2.1 3, 7, .inr (.inr (.inr (.inr (fI g 27 0))))))) s _ _ := pd_drop hw ((eset_b (by decide)).trans ((hE 25 (by decide) (by decide)).trans rfl))
  refine lv_iconst (v := (0 : Int32)) hx hb dX0_init_69 (by decide) ?_
  refine lv_istore_n (lv' := [(3, .int (0 : Int32)), (0, .ref (g.2.2 25)), (1, .ref (g.2.2 1)), (2, .ref (g.2.2 6))]) hx hb dX0_init_70 rfl hl (by decide) rfl (fun ls hl => ?_)
  have LP71 : ∀ k i, k + i = 7 → ∀ (H : Heap) (locs : List Loc) (ls : Array Slot), pd g B (135 + 2 * i) (eset E 27 (.inl (g.2.1 3, 7, .inr (.inr (.inr (.inr (fI g 27 i))))))) s H locs → lv_has ls 4 [(3, .int (nI i)), (0, .ref (g.2.2 25))] → W p l e { frames := 2, cells := 21, slots := 6829, locals := 40 * 2 } s m args below meth c H locs (7 + 2 * i) (6717 + 16 * i) (MQ below (QKb g B (128 + 21) E) args s 21 6829 (fun q => B ≤ q)) (F0 m 71 ls []) := by
    intro k
    induction k with
    | zero =>
      intro i hk H locs ls hw hl
      obtain rfl : i = 7 := by omega
      refine lv_iload_n hx hb dX0_init_71 rfl (lv_at hl 0 rfl) ?_
      refine lv_bipush (v := (6 : Int32)) hx hb dX0_init_72 (by decide) ?_
      refine lv_icmp_gt (tgt := 96) hx hb dX0_init_74 (by decide) (fun hc => ?_) (fun hc => absurd (by decide) hc)
      have hw := pd_fI (E := E) hw ((hE 27 (by decide) (by decide)).trans rfl)
      exact k_ret hC hw hr hlocks rfl rfl (by decide) (by decide) dX0_init_96
    | succ k ih =>
      intro i hk H locs ls hw hl
      have hi : i < 7 := by omega
      have hf := lf_27 i hi
      refine lv_iload_n hx hb dX0_init_71 rfl (lv_at hl 0 rfl) ?_
      refine lv_bipush (v := (6 : Int32)) hx hb dX0_init_72 (by decide) ?_
      refine lv_icmp_gt (tgt := 96) hx hb dX0_init_74 (by decide) (fun hc => absurd ((nI_ltI (a := 6) (b := i) (by decide) (by omega)).mp hc) (by omega)) (fun hc => ?_)
      refine lv_aload_n hx hb dX0_init_77 rfl (lv_at hl 1 rfl) ?_
      refine k_get (o := 25) (fs := [.ref (g.2.2 26), .ref (g.2.2 1), .ref (g.2.2 6), .ref (g.2.2 27), .ref (g.2.2 169), .int 0, .int 0, .int 0, .ref (g.2.2 28), .ref (g.2.2 29), .ref (g.2.2 30), .int 0]) (v := .ref (g.2.2 27)) hC hw fl_X0_17 (by decide) (by show 127 < _; omega) ((eset_b (by decide)).trans ((hE 25 (by decide) (by decide)).trans rfl)) rfl dX0_init_78 ?_
      refine lv_iload_n hx hb dX0_init_81 rfl (lv_at hl 0 rfl) ?_
      refine k_new (i := (155 + 2 * i)) (ci := 6) (fs := [.null, .int 0]) hC hw tyX6 (Nat.lt_of_succ_lt hf.1) hf.2.1 rfl inG6 tyX6_ok ck_X0_15 is_X6 ii_X6 (fun j hj => by (have : j = 0 ∨ j = 1 := by omega); rcases this with rfl | rfl <;> rfl) (by show _ ≤ 21; omega) (by show _ ≤ 6829; omega) dX0_init_82 (fun H hw => ?_)
      refine lv_dup hx hb dX0_init_85 rfl ?_
      refine k_ctorN (b := (155 + 2 * i)) (As := []) (rest := [.ref (g.2.2 ((155 + 2 * i))), .int (nI i), .ref (g.2.2 27)]) hC hw (t_X6 l g B hG hf.1 (by rw [hf.2.1]; omega) (by rw [hf.2.2.2.1]) ((eset_b (by omega)).trans ((hE _ (by omega) (by omega)).trans (ce_sc g (by omega) (by omega) hf.2.2.2.2.1 hf.2.2.2.2.2.1))) ((eset_b (by omega)).trans ((hE _ (by omega) (by omega)).trans (ce_sa g (by omega) (by omega) hf.2.2.2.2.2.2.1 hf.2.2.2.2.2.2.2)))) mn_X0_21 im_X6_init rfl rfl hl.1 ⟨(Nat.le_of_ble_eq_true rfl), (Nat.le_of_ble_eq_true rfl)⟩ (Nat.le_of_ble_eq_true rfl) (by show _ ≤ 21; omega) (by show _ ≤ 6829; omega) dX0_init_86 (fun H locs hw => ?_)
      refine k_ast (E := E) (o2 := (155 + 2 * i)) (ci := 6) (r := (RX6, TX6, 2)) hC hw (by decide) (by show 129 < _; omega) rfl (Nat.lt_of_succ_lt hf.1) (by rw [hf.2.1]; omega) (by omega) ((hE _ (by omega) (by omega)).trans (ce_sc g (by omega) (by omega) hf.2.2.2.2.1 hf.2.2.2.2.2.1)) rfl (vin_n hi (by decide)) dX0_init_89 (fun H locs hw => ?_)
      rw [nI_clamp (by omega), fI_s hf.2.2.1] at hw
      refine lv_iinc (v := nI (i + 1)) (lv' := [(3, .int (nI (i + 1))), (0, .ref (g.2.2 25))]) hx hb dX0_init_90 hl (k := 0) rfl (by rw [← nI_add]; rfl) (by decide) rfl (fun ls hl => ?_)
      refine lv_goto (tgt := 71) hx hb dX0_init_93 (by decide) ?_
      refine W.widen (k := 7 + 2 * (i + 1)) (n := 6717 + 16 * (i + 1)) (by omega) (by omega) ?_
      refine ih (i + 1) (by omega) H locs ls ?_ (lv_sub hl [0, 1] rfl)
      rw [show 135 + 2 * (i + 1) = 135 + 2 * i + 1 + 1 by omega]
      exact hw
  exact LP71 7 0 rfl _ _ ls hw (lv_sub hl [0, 1] rfl)
