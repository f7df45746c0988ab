/-! the constructor of the house -/
set_option maxRecDepth 100000 in
set_option maxHeartbeats 4000000 in
theorem t_X11 (l : Launch) (g : Gw) (B : Nat) (hG : GB g B) {N : Nat} {r1 r2 : Unit × Mu} (hc : X1_countWays N mI = some r1) (hb0 : X1_build N r1.2 = some r2) (hμ : ∀ i, ¬ sIn i → ce g r2.2 i = ce g mI i) : KT l g B yX11_init cX11_init 2 5 170 87422 [.ref (g.2.2 0)] 1 (eset (ce g mI) 0 (.inr (11, [.null, .null, .null, .null, .null, .null, .null, .null, .null, .null, .null, .null]))) (ce g r2.2) := by
  refine KT.of hG (by decide) (Nat.le_of_ble_eq_true rfl) ?_
  intro p e s m args below meth c ls hC hw hr hlocks hnm hl
  have hx := hC.1
  have hb := hC.2.1
  have hl : lv_has ls 2 [(0, .ref (g.2.2 0))] := hl
  refine lv_aload_n hx hb dX11_init_0 rfl (lv_at hl 0 rfl) ?_
  refine W.objInit hx hb hC.2.2.2.1 (hC.2.2.2.2.1 _ oi_X11_3) (hC.2.2.2.2.1 _ oi_in) (hC.2.2.2.2.1 _ oi_co) rfl (by rw [hC.2.2.1]; exact hl.1) rfl dX11_init_1 (Nat.le_of_ble_eq_true rfl) (Nat.le_of_ble_eq_true rfl) ?_
  refine W.eq (g2 := F0 m 4 ls []) rfl ?_
  refine lv_aload_n hx hb dX11_init_4 rfl (lv_at hl 0 rfl) ?_
  refine k_new (i := 1) (ci := 5) (fs := [.int 0, .int 0, .int 0, .int 0, .int 0, .int 0, .int 0, .int 0, .int 0]) hC hw tyX5 (by decide) (by decide) rfl inG5 tyX5_ok ck_X11_9 is_X5 ii_X5 (fun j hj => by (have : j = 0 ∨ j = 1 ∨ j = 2 ∨ j = 3 ∨ j = 4 ∨ j = 5 ∨ j = 6 ∨ j = 7 ∨ j = 8 := by omega); rcases this with rfl | rfl | rfl | rfl | rfl | rfl | rfl | rfl | rfl <;> rfl) (Nat.le_of_ble_eq_true rfl) (Nat.le_of_ble_eq_true rfl) dX11_init_5 (fun H hw => ?_)
  have hw : pd g B 2 (eset (eset (ce g mI) 0 (.inr (11, [.null, .null, .null, .null, .null, .null, .null, .null, .null, .null, .null, .null]))) 1 (.inr (5, [.int 0, .int 0, .int 0, .int 0, .int 0, .int 0, .int 0, .int 0, .int 0]))) s _ _ := hw
  refine lv_dup hx hb dX11_init_8 rfl ?_
  refine k_ctorN (b := 1) (As := []) (rest := [.ref (g.2.2 1), .ref (g.2.2 0)]) hC hw (t_X5 l g B hG (by decide) (by decide) ((eset_b (by decide)).trans (rfl))) mn_X11_11 im_X5_init rfl rfl hl.1 ⟨(Nat.le_of_ble_eq_true rfl), (Nat.le_of_ble_eq_true rfl)⟩ (Nat.le_of_ble_eq_true rfl) (Nat.le_of_ble_eq_true rfl) (Nat.le_of_ble_eq_true rfl) dX11_init_9 (fun H locs hw => ?_)
  have hw : pd g B 2 (eset (ce g mI) 0 (.inr (11, [.null, .null, .null, .null, .null, .null, .null, .null, .null, .null, .null, .null]))) s _ _ := hw
  refine k_fin (E := (ce g mI)) (o := 0) (fs := [.null, .null, .null, .null, .null, .null, .null, .null, .null, .null, .null, .null]) (fs' := [.ref (g.2.2 1), .null, .null, .null, .null, .null, .null, .null, .null, .null, .null, .null]) hC hw hnm fl_X11_12 ff_11_0 (by decide) (by decide) rfl rfl (Nat.le_of_ble_eq_true rfl) rfl dX11_init_12 (fun H locs hw => ?_)
  refine lv_aload_n hx hb dX11_init_15 rfl (lv_at hl 0 rfl) ?_
  refine k_new (i := 2) (ci := 1) (fs := [.null, .int 0, .int 0, .int 0, .null, .null, .null]) hC hw tyX1 (by decide) (by decide) rfl inG1 tyX1_ok ck_X11_16 is_X1 ii_X1 (fun j hj => by (have : j = 0 ∨ j = 1 ∨ j = 2 ∨ j = 3 ∨ j = 4 ∨ j = 5 ∨ j = 6 := by omega); rcases this with rfl | rfl | rfl | rfl | rfl | rfl | rfl <;> rfl) (Nat.le_of_ble_eq_true rfl) (Nat.le_of_ble_eq_true rfl) dX11_init_16 (fun H hw => ?_)
  have hw : pd g B 3 (eset (eset (ce g mI) 0 (.inr (11, [.ref (g.2.2 1), .null, .null, .null, .null, .null, .null, .null, .null, .null, .null, .null]))) 2 (.inr (1, [.null, .int 0, .int 0, .int 0, .null, .null, .null]))) s _ _ := hw
  refine lv_dup hx hb dX11_init_19 rfl ?_
  refine lv_aload_n hx hb dX11_init_20 rfl (lv_at hl 0 rfl) ?_
  refine k_get (o := 0) (fs := [.ref (g.2.2 1), .null, .null, .null, .null, .null, .null, .null, .null, .null, .null, .null]) (v := .ref (g.2.2 1)) hC hw fl_X11_12 (by decide) (by decide) ((eset_b (by decide)).trans (eset_a)) rfl dX11_init_21 ?_
  refine k_ctor (b := 2) (As := [.ref (g.2.2 1)]) (rest := [.ref (g.2.2 2), .ref (g.2.2 0)]) hC hw (t_X1 l g B hG (fun i h => eset_b (by have := h.1; omega)) hc hb0) ml_X11_18 im_X1_init rfl rfl hl.1 ⟨(Nat.le_of_ble_eq_true rfl), (Nat.le_of_ble_eq_true rfl)⟩ (Nat.le_of_ble_eq_true rfl) (Nat.le_of_ble_eq_true rfl) (Nat.le_of_ble_eq_true rfl) dX11_init_24 (fun H locs hw => ?_)
  have hw : pd g B 6 (eset (ce g r2.2) 0 (.inr (11, [.ref (g.2.2 1), .null, .null, .null, .null, .null, .null, .null, .null, .null, .null, .null]))) s _ _ := pd_cg hw (fun i _ _ => sE_m hμ i)
  have hw : pd g B 6 (eset (ce g r2.2) 0 (.inr (11, [.ref (g.2.2 1), .null, .null, .null, .null, .null, .null, .null, .null, .null, .null, .null]))) s _ _ := hw
  refine k_fin (E := (ce g r2.2)) (o := 0) (fs := [.ref (g.2.2 1), .null, .null, .null, .null, .null, .null, .null, .null, .null, .null, .null]) (fs' := [.ref (g.2.2 1), .ref (g.2.2 2), .null, .null, .null, .null, .null, .null, .null, .null, .null, .null]) hC hw hnm fl_X11_21 ff_11_1 (by decide) (by decide) rfl rfl (Nat.le_of_ble_eq_true rfl) rfl dX11_init_27 (fun H locs hw => ?_)
  refine lv_aload_n hx hb dX11_init_30 rfl (lv_at hl 0 rfl) ?_
  refine k_new (i := 6) (ci := 8) (fs := [.int 0, .int 0, .int 0, .int 0, .null, .null, .null, .null]) hC hw tyX8 (by decide) (by decide) rfl inG8 tyX8_ok ck_X11_25 is_X8 ii_X8 (fun j hj => by (have : j = 0 ∨ j = 1 ∨ j = 2 ∨ j = 3 ∨ j = 4 ∨ j = 5 ∨ j = 6 ∨ j = 7 := by omega); rcases this with rfl | rfl | rfl | rfl | rfl | rfl | rfl | rfl <;> rfl) (Nat.le_of_ble_eq_true rfl) (Nat.le_of_ble_eq_true rfl) dX11_init_31 (fun H hw => ?_)
  have hw : pd g B 7 (eset (eset (ce g r2.2) 0 (.inr (11, [.ref (g.2.2 1), .ref (g.2.2 2), .null, .null, .null, .null, .null, .null, .null, .null, .null, .null]))) 6 (.inr (8, [.int 0, .int 0, .int 0, .int 0, .null, .null, .null, .null]))) s _ _ := hw
  refine lv_dup hx hb dX11_init_34 rfl ?_
  refine lv_aload_n hx hb dX11_init_35 rfl (lv_at hl 0 rfl) ?_
  refine k_get (o := 0) (fs := [.ref (g.2.2 1), .ref (g.2.2 2), .null, .null, .null, .null, .null, .null, .null, .null, .null, .null]) (v := .ref (g.2.2 1)) hC hw fl_X11_12 (by decide) (by decide) ((eset_b (by decide)).trans (eset_a)) rfl dX11_init_36 ?_
  refine lv_aload_n hx hb dX11_init_39 rfl (lv_at hl 0 rfl) ?_
  refine k_get (o := 0) (fs := [.ref (g.2.2 1), .ref (g.2.2 2), .null, .null, .null, .null, .null, .null, .null, .null, .null, .null]) (v := .ref (g.2.2 2)) hC hw fl_X11_21 (by decide) (by decide) ((eset_b (by decide)).trans (eset_a)) rfl dX11_init_40 ?_
  refine k_ctor (b := 6) (As := [.ref (g.2.2 1), .ref (g.2.2 2)]) (rest := [.ref (g.2.2 6), .ref (g.2.2 0)]) hC hw (t_X8 l g B hG (fun i q1 q2 => (eset_b (by omega)).trans (hμ i (fun q => by have := q.2; omega)))) ml_X11_27 im_X8_init rfl rfl hl.1 ⟨(Nat.le_of_ble_eq_true rfl), (Nat.le_of_ble_eq_true rfl)⟩ (Nat.le_of_ble_eq_true rfl) (Nat.le_of_ble_eq_true rfl) (Nat.le_of_ble_eq_true rfl) dX11_init_43 (fun H locs hw => ?_)
  have hw : pd g B 21 (eset (ce g r2.2) 0 (.inr (11, [.ref (g.2.2 1), .ref (g.2.2 2), .null, .null, .null, .null, .null, .null, .null, .null, .null, .null]))) s _ _ := hw
  refine k_fin (E := (ce g r2.2)) (o := 0) (fs := [.ref (g.2.2 1), .ref (g.2.2 2), .null, .null, .null, .null, .null, .null, .null, .null, .null, .null]) (fs' := [.ref (g.2.2 1), .ref (g.2.2 2), .ref (g.2.2 6), .null, .null, .null, .null, .null, .null, .null, .null, .null]) hC hw hnm fl_X11_30 ff_11_2 (by decide) (by decide) rfl rfl (Nat.le_of_ble_eq_true rfl) rfl dX11_init_46 (fun H locs hw => ?_)
  refine lv_aload_n hx hb dX11_init_49 rfl (lv_at hl 0 rfl) ?_
  refine k_new (i := 53) (ci := 6) (fs := [.null, .int 0]) hC hw tyX6 (by decide) (by decide) rfl inG6 tyX6_ok ck_X11_34 is_X6 ii_X6 (fun j hj => by (have : j = 0 ∨ j = 1 := by omega); rcases this with rfl | rfl <;> rfl) (Nat.le_of_ble_eq_true rfl) (Nat.le_of_ble_eq_true rfl) dX11_init_50 (fun H hw => ?_)
  have hw : pd g B 22 (eset (eset (ce g r2.2) 0 (.inr (11, [.ref (g.2.2 1), .ref (g.2.2 2), .ref (g.2.2 6), .null, .null, .null, .null, .null, .null, .null, .null, .null]))) 53 (.inr (6, [.null, .int 0]))) s _ _ := hw
  refine lv_dup hx hb dX11_init_53 rfl ?_
  refine k_ctorN (b := 53) (As := []) (rest := [.ref (g.2.2 53), .ref (g.2.2 0)]) hC hw (t_X6 l g B hG (by decide) (by decide) (by decide) ((eset_b (by decide)).trans ((hμ 53 (by decide)).trans rfl)) ((eset_b (by decide)).trans ((hμ 54 (by decide)).trans rfl))) mn_X11_36 im_X6_init rfl rfl hl.1 ⟨(Nat.le_of_ble_eq_true rfl), (Nat.le_of_ble_eq_true rfl)⟩ (Nat.le_of_ble_eq_true rfl) (Nat.le_of_ble_eq_true rfl) (Nat.le_of_ble_eq_true rfl) dX11_init_54 (fun H locs hw => ?_)
  have hw : pd g B 23 (eset (ce g r2.2) 0 (.inr (11, [.ref (g.2.2 1), .ref (g.2.2 2), .ref (g.2.2 6), .null, .null, .null, .null, .null, .null, .null, .null, .null]))) s _ _ := hw
  refine k_fin (E := (ce g r2.2)) (o := 0) (fs := [.ref (g.2.2 1), .ref (g.2.2 2), .ref (g.2.2 6), .null, .null, .null, .null, .null, .null, .null, .null, .null]) (fs' := [.ref (g.2.2 1), .ref (g.2.2 2), .ref (g.2.2 6), .ref (g.2.2 53), .null, .null, .null, .null, .null, .null, .null, .null]) hC hw hnm fl_X11_37 ff_11_3 (by decide) (by decide) rfl rfl (Nat.le_of_ble_eq_true rfl) rfl dX11_init_57 (fun H locs hw => ?_)
  refine lv_aload_n hx hb dX11_init_60 rfl (lv_at hl 0 rfl) ?_
  refine k_new (i := 55) (ci := 6) (fs := [.null, .int 0]) hC hw tyX6 (by decide) (by decide) rfl inG6 tyX6_ok ck_X11_34 is_X6 ii_X6 (fun j hj => by (have : j = 0 ∨ j = 1 := by omega); rcases this with rfl | rfl <;> rfl) (Nat.le_of_ble_eq_true rfl) (Nat.le_of_ble_eq_true rfl) dX11_init_61 (fun H hw => ?_)
  have hw : pd g B 24 (eset (eset (ce g r2.2) 0 (.inr (11, [.ref (g.2.2 1), .ref (g.2.2 2), .ref (g.2.2 6), .ref (g.2.2 53), .null, .null, .null, .null, .null, .null, .null, .null]))) 55 (.inr (6, [.null, .int 0]))) s _ _ := hw
  refine lv_dup hx hb dX11_init_64 rfl ?_
  refine k_ctorN (b := 55) (As := []) (rest := [.ref (g.2.2 55), .ref (g.2.2 0)]) hC hw (t_X6 l g B hG (by decide) (by decide) (by decide) ((eset_b (by decide)).trans ((hμ 55 (by decide)).trans rfl)) ((eset_b (by decide)).trans ((hμ 56 (by decide)).trans rfl))) mn_X11_36 im_X6_init rfl rfl hl.1 ⟨(Nat.le_of_ble_eq_true rfl), (Nat.le_of_ble_eq_true rfl)⟩ (Nat.le_of_ble_eq_true rfl) (Nat.le_of_ble_eq_true rfl) (Nat.le_of_ble_eq_true rfl) dX11_init_65 (fun H locs hw => ?_)
  have hw : pd g B 25 (eset (ce g r2.2) 0 (.inr (11, [.ref (g.2.2 1), .ref (g.2.2 2), .ref (g.2.2 6), .ref (g.2.2 53), .null, .null, .null, .null, .null, .null, .null, .null]))) s _ _ := hw
  refine k_fin (E := (ce g r2.2)) (o := 0) (fs := [.ref (g.2.2 1), .ref (g.2.2 2), .ref (g.2.2 6), .ref (g.2.2 53), .null, .null, .null, .null, .null, .null, .null, .null]) (fs' := [.ref (g.2.2 1), .ref (g.2.2 2), .ref (g.2.2 6), .ref (g.2.2 53), .ref (g.2.2 55), .null, .null, .null, .null, .null, .null, .null]) hC hw hnm fl_X11_41 ff_11_4 (by decide) (by decide) rfl rfl (Nat.le_of_ble_eq_true rfl) rfl dX11_init_68 (fun H locs hw => ?_)
  refine lv_aload_n hx hb dX11_init_71 rfl (lv_at hl 0 rfl) ?_
  refine k_new (i := 9) (ci := 3) (fs := [.int 0, .int 0, .int 0, .null, .null]) hC hw tyX3 (by decide) (by decide) rfl inG3 tyX3_ok ck_X11_44 is_X3 ii_X3 (fun j hj => by (have : j = 0 ∨ j = 1 ∨ j = 2 ∨ j = 3 ∨ j = 4 := by omega); rcases this with rfl | rfl | rfl | rfl | rfl <;> rfl) (Nat.le_of_ble_eq_true rfl) (Nat.le_of_ble_eq_true rfl) dX11_init_72 (fun H hw => ?_)
  have hw : pd g B 26 (eset (eset (ce g r2.2) 0 (.inr (11, [.ref (g.2.2 1), .ref (g.2.2 2), .ref (g.2.2 6), .ref (g.2.2 53), .ref (g.2.2 55), .null, .null, .null, .null, .null, .null, .null]))) 9 (.inr (3, [.int 0, .int 0, .int 0, .null, .null]))) s _ _ := hw
  refine lv_dup hx hb dX11_init_75 rfl ?_
  refine k_ctor (b := 9) (As := []) (rest := [.ref (g.2.2 9), .ref (g.2.2 0)]) hC hw (t_X3 l g B hG (fun i q1 q2 => (eset_b (by omega)).trans (hμ i (fun q => by have := q.2; omega)))) ml_X11_46 im_X3_init rfl rfl hl.1 ⟨(Nat.le_of_ble_eq_true rfl), (Nat.le_of_ble_eq_true rfl)⟩ (Nat.le_of_ble_eq_true rfl) (Nat.le_of_ble_eq_true rfl) (Nat.le_of_ble_eq_true rfl) dX11_init_76 (fun H locs hw => ?_)
  have hw : pd g B 108 (eset (ce g r2.2) 0 (.inr (11, [.ref (g.2.2 1), .ref (g.2.2 2), .ref (g.2.2 6), .ref (g.2.2 53), .ref (g.2.2 55), .null, .null, .null, .null, .null, .null, .null]))) s _ _ := hw
  refine k_fin (E := (ce g r2.2)) (o := 0) (fs := [.ref (g.2.2 1), .ref (g.2.2 2), .ref (g.2.2 6), .ref (g.2.2 53), .ref (g.2.2 55), .null, .null, .null, .null, .null, .null, .null]) (fs' := [.ref (g.2.2 1), .ref (g.2.2 2), .ref (g.2.2 6), .ref (g.2.2 53), .ref (g.2.2 55), .ref (g.2.2 9), .null, .null, .null, .null, .null, .null]) hC hw hnm fl_X11_47 ff_11_5 (by decide) (by decide) rfl rfl (Nat.le_of_ble_eq_true rfl) rfl dX11_init_79 (fun H locs hw => ?_)
  refine lv_aload_n hx hb dX11_init_82 rfl (lv_at hl 0 rfl) ?_
  refine k_new (i := 12) (ci := 4) (fs := [.null, .null, .int 0, .int 0, .int 0, .null, .int 0, .int 0, .int 0, .int 0, .int 0]) hC hw tyX4 (by decide) (by decide) rfl inG4 tyX4_ok ck_X11_51 is_X4 ii_X4 (fun j hj => by (have : j = 0 ∨ j = 1 ∨ j = 2 ∨ j = 3 ∨ j = 4 ∨ j = 5 ∨ j = 6 ∨ j = 7 ∨ j = 8 ∨ j = 9 ∨ j = 10 := by omega); rcases this with rfl | rfl | rfl | rfl | rfl | rfl | rfl | rfl | rfl | rfl | rfl <;> rfl) (Nat.le_of_ble_eq_true rfl) (Nat.le_of_ble_eq_true rfl) dX11_init_83 (fun H hw => ?_)
  have hw : pd g B 109 (eset (eset (ce g r2.2) 0 (.inr (11, [.ref (g.2.2 1), .ref (g.2.2 2), .ref (g.2.2 6), .ref (g.2.2 53), .ref (g.2.2 55), .ref (g.2.2 9), .null, .null, .null, .null, .null, .null]))) 12 (.inr (4, [.null, .null, .int 0, .int 0, .int 0, .null, .int 0, .int 0, .int 0, .int 0, .int 0]))) s _ _ := hw
  refine lv_dup hx hb dX11_init_86 rfl ?_
  refine k_ctorN (b := 12) (As := []) (rest := [.ref (g.2.2 12), .ref (g.2.2 0)]) hC hw (t_X4 l g B hG (fun i q1 q2 => (eset_b (by omega)).trans (hμ i (fun q => by have := q.2; omega)))) mn_X11_53 im_X4_init rfl rfl hl.1 ⟨(Nat.le_of_ble_eq_true rfl), (Nat.le_of_ble_eq_true rfl)⟩ (Nat.le_of_ble_eq_true rfl) (Nat.le_of_ble_eq_true rfl) (Nat.le_of_ble_eq_true rfl) dX11_init_87 (fun H locs hw => ?_)
  have hw : pd g B 113 (eset (ce g r2.2) 0 (.inr (11, [.ref (g.2.2 1), .ref (g.2.2 2), .ref (g.2.2 6), .ref (g.2.2 53), .ref (g.2.2 55), .ref (g.2.2 9), .null, .null, .null, .null, .null, .null]))) s _ _ := hw
  refine k_fin (E := (ce g r2.2)) (o := 0) (fs := [.ref (g.2.2 1), .ref (g.2.2 2), .ref (g.2.2 6), .ref (g.2.2 53), .ref (g.2.2 55), .ref (g.2.2 9), .null, .null, .null, .null, .null, .null]) (fs' := [.ref (g.2.2 1), .ref (g.2.2 2), .ref (g.2.2 6), .ref (g.2.2 53), .ref (g.2.2 55), .ref (g.2.2 9), .ref (g.2.2 12), .null, .null, .null, .null, .null]) hC hw hnm fl_X11_54 ff_11_6 (by decide) (by decide) rfl rfl (Nat.le_of_ble_eq_true rfl) rfl dX11_init_90 (fun H locs hw => ?_)
  refine lv_aload_n hx hb dX11_init_93 rfl (lv_at hl 0 rfl) ?_
  refine k_new (i := 15) (ci := 7) (fs := [.null, .null, .null, .null, .null, .null, .int 0, .int 0, .int 0, .null, .null, .null, .null]) hC hw tyX7 (by decide) (by decide) rfl inG7 tyX7_ok ck_X11_58 is_X7 ii_X7 (fun j hj => by (have : j = 0 ∨ j = 1 ∨ j = 2 ∨ j = 3 ∨ j = 4 ∨ j = 5 ∨ j = 6 ∨ j = 7 ∨ j = 8 ∨ j = 9 ∨ j = 10 ∨ j = 11 ∨ j = 12 := by omega); rcases this with rfl | rfl | rfl | rfl | rfl | rfl | rfl | rfl | rfl | rfl | rfl | rfl | rfl <;> rfl) (Nat.le_of_ble_eq_true rfl) (Nat.le_of_ble_eq_true rfl) dX11_init_94 (fun H hw => ?_)
  have hw : pd g B 114 (eset (eset (ce g r2.2) 0 (.inr (11, [.ref (g.2.2 1), .ref (g.2.2 2), .ref (g.2.2 6), .ref (g.2.2 53), .ref (g.2.2 55), .ref (g.2.2 9), .ref (g.2.2 12), .null, .null, .null, .null, .null]))) 15 (.inr (7, [.null, .null, .null, .null, .null, .null, .int 0, .int 0, .int 0, .null, .null, .null, .null]))) s _ _ := hw
  refine lv_dup hx hb dX11_init_97 rfl ?_
  refine lv_aload_n hx hb dX11_init_98 rfl (lv_at hl 0 rfl) ?_
  refine k_get (o := 0) (fs := [.ref (g.2.2 1), .ref (g.2.2 2), .ref (g.2.2 6), .ref (g.2.2 53), .ref (g.2.2 55), .ref (g.2.2 9), .ref (g.2.2 12), .null, .null, .null, .null, .null]) (v := .ref (g.2.2 1)) hC hw fl_X11_12 (by decide) (by decide) ((eset_b (by decide)).trans (eset_a)) rfl dX11_init_99 ?_
  refine lv_aload_n hx hb dX11_init_102 rfl (lv_at hl 0 rfl) ?_
  refine k_get (o := 0) (fs := [.ref (g.2.2 1), .ref (g.2.2 2), .ref (g.2.2 6), .ref (g.2.2 53), .ref (g.2.2 55), .ref (g.2.2 9), .ref (g.2.2 12), .null, .null, .null, .null, .null]) (v := .ref (g.2.2 2)) hC hw fl_X11_21 (by decide) (by decide) ((eset_b (by decide)).trans (eset_a)) rfl dX11_init_103 ?_
  refine lv_aload_n hx hb dX11_init_106 rfl (lv_at hl 0 rfl) ?_
  refine k_get (o := 0) (fs := [.ref (g.2.2 1), .ref (g.2.2 2), .ref (g.2.2 6), .ref (g.2.2 53), .ref (g.2.2 55), .ref (g.2.2 9), .ref (g.2.2 12), .null, .null, .null, .null, .null]) (v := .ref (g.2.2 6)) hC hw fl_X11_30 (by decide) (by decide) ((eset_b (by decide)).trans (eset_a)) rfl dX11_init_107 ?_
  refine k_ctor (b := 15) (As := [.ref (g.2.2 1), .ref (g.2.2 2), .ref (g.2.2 6)]) (rest := [.ref (g.2.2 15), .ref (g.2.2 0)]) hC hw (t_X7 l g B hG (fun i q1 q2 => (eset_b (by omega)).trans (hμ i (fun q => by have := q.2; omega)))) ml_X11_60 im_X7_init rfl rfl hl.1 ⟨(Nat.le_of_ble_eq_true rfl), (Nat.le_of_ble_eq_true rfl)⟩ (Nat.le_of_ble_eq_true rfl) (Nat.le_of_ble_eq_true rfl) (Nat.le_of_ble_eq_true rfl) dX11_init_110 (fun H locs hw => ?_)
  have hw : pd g B 122 (eset (ce g r2.2) 0 (.inr (11, [.ref (g.2.2 1), .ref (g.2.2 2), .ref (g.2.2 6), .ref (g.2.2 53), .ref (g.2.2 55), .ref (g.2.2 9), .ref (g.2.2 12), .null, .null, .null, .null, .null]))) s _ _ := hw
  refine k_fin (E := (ce g r2.2)) (o := 0) (fs := [.ref (g.2.2 1), .ref (g.2.2 2), .ref (g.2.2 6), .ref (g.2.2 53), .ref (g.2.2 55), .ref (g.2.2 9), .ref (g.2.2 12), .null, .null, .null, .null, .null]) (fs' := [.ref (g.2.2 1), .ref (g.2.2 2), .ref (g.2.2 6), .ref (g.2.2 53), .ref (g.2.2 55), .ref (g.2.2 9), .ref (g.2.2 12), .ref (g.2.2 15), .null, .null, .null, .null]) hC hw hnm fl_X11_63 ff_11_7 (by decide) (by decide) rfl rfl (Nat.le_of_ble_eq_true rfl) rfl dX11_init_113 (fun H locs hw => ?_)
  refine lv_aload_n hx hb dX11_init_116 rfl (lv_at hl 0 rfl) ?_
  refine k_new (i := 22) (ci := 10) (fs := [.null, .null, .int 0, .int 0, .null, .null, .null]) hC hw tyX10 (by decide) (by decide) rfl inG10 tyX10_ok ck_X11_67 is_X10 ii_X10 (fun j hj => by (have : j = 0 ∨ j = 1 ∨ j = 2 ∨ j = 3 ∨ j = 4 ∨ j = 5 ∨ j = 6 := by omega); rcases this with rfl | rfl | rfl | rfl | rfl | rfl | rfl <;> rfl) (Nat.le_of_ble_eq_true rfl) (Nat.le_of_ble_eq_true rfl) dX11_init_117 (fun H hw => ?_)
  have hw : pd g B 123 (eset (eset (ce g r2.2) 0 (.inr (11, [.ref (g.2.2 1), .ref (g.2.2 2), .ref (g.2.2 6), .ref (g.2.2 53), .ref (g.2.2 55), .ref (g.2.2 9), .ref (g.2.2 12), .ref (g.2.2 15), .null, .null, .null, .null]))) 22 (.inr (10, [.null, .null, .int 0, .int 0, .null, .null, .null]))) s _ _ := hw
  refine lv_dup hx hb dX11_init_120 rfl ?_
  refine lv_aload_n hx hb dX11_init_121 rfl (lv_at hl 0 rfl) ?_
  refine k_get (o := 0) (fs := [.ref (g.2.2 1), .ref (g.2.2 2), .ref (g.2.2 6), .ref (g.2.2 53), .ref (g.2.2 55), .ref (g.2.2 9), .ref (g.2.2 12), .ref (g.2.2 15), .null, .null, .null, .null]) (v := .ref (g.2.2 6)) hC hw fl_X11_30 (by decide) (by decide) ((eset_b (by decide)).trans (eset_a)) rfl dX11_init_122 ?_
  refine lv_aload_n hx hb dX11_init_125 rfl (lv_at hl 0 rfl) ?_
  refine k_get (o := 0) (fs := [.ref (g.2.2 1), .ref (g.2.2 2), .ref (g.2.2 6), .ref (g.2.2 53), .ref (g.2.2 55), .ref (g.2.2 9), .ref (g.2.2 12), .ref (g.2.2 15), .null, .null, .null, .null]) (v := .ref (g.2.2 15)) hC hw fl_X11_63 (by decide) (by decide) ((eset_b (by decide)).trans (eset_a)) rfl dX11_init_126 ?_
  refine k_ctor (b := 22) (As := [.ref (g.2.2 6), .ref (g.2.2 15)]) (rest := [.ref (g.2.2 22), .ref (g.2.2 0)]) hC hw (t_X10 l g B hG (fun i q1 q2 => (eset_b (by omega)).trans (hμ i (fun q => by have := q.2; omega)))) ml_X11_69 im_X10_init rfl rfl hl.1 ⟨(Nat.le_of_ble_eq_true rfl), (Nat.le_of_ble_eq_true rfl)⟩ (Nat.le_of_ble_eq_true rfl) (Nat.le_of_ble_eq_true rfl) (Nat.le_of_ble_eq_true rfl) dX11_init_129 (fun H locs hw => ?_)
  have hw : pd g B 127 (eset (ce g r2.2) 0 (.inr (11, [.ref (g.2.2 1), .ref (g.2.2 2), .ref (g.2.2 6), .ref (g.2.2 53), .ref (g.2.2 55), .ref (g.2.2 9), .ref (g.2.2 12), .ref (g.2.2 15), .null, .null, .null, .null]))) s _ _ := hw
  refine k_fin (E := (ce g r2.2)) (o := 0) (fs := [.ref (g.2.2 1), .ref (g.2.2 2), .ref (g.2.2 6), .ref (g.2.2 53), .ref (g.2.2 55), .ref (g.2.2 9), .ref (g.2.2 12), .ref (g.2.2 15), .null, .null, .null, .null]) (fs' := [.ref (g.2.2 1), .ref (g.2.2 2), .ref (g.2.2 6), .ref (g.2.2 53), .ref (g.2.2 55), .ref (g.2.2 9), .ref (g.2.2 12), .ref (g.2.2 15), .ref (g.2.2 22), .null, .null, .null]) hC hw hnm fl_X11_72 ff_11_8 (by decide) (by decide) rfl rfl (Nat.le_of_ble_eq_true rfl) rfl dX11_init_132 (fun H locs hw => ?_)
  refine lv_aload_n hx hb dX11_init_135 rfl (lv_at hl 0 rfl) ?_
  refine k_new (i := 25) (ci := 0) (fs := [.null, .null, .null, .null, .null, .int 0, .int 0, .int 0, .null, .null, .null, .int 0]) hC hw tyX0 (by decide) (by decide) rfl inG0 tyX0_ok ck_X11_76 is_X0 ii_X0 (fun j hj => by (have : j = 0 ∨ j = 1 ∨ j = 2 ∨ j = 3 ∨ j = 4 ∨ j = 5 ∨ j = 6 ∨ j = 7 ∨ j = 8 ∨ j = 9 ∨ j = 10 ∨ j = 11 := by omega); rcases this with rfl | rfl | rfl | rfl | rfl | rfl | rfl | rfl | rfl | rfl | rfl | rfl <;> rfl) (Nat.le_of_ble_eq_true rfl) (Nat.le_of_ble_eq_true rfl) dX11_init_136 (fun H hw => ?_)
  have hw : pd g B 128 (eset (eset (ce g r2.2) 0 (.inr (11, [.ref (g.2.2 1), .ref (g.2.2 2), .ref (g.2.2 6), .ref (g.2.2 53), .ref (g.2.2 55), .ref (g.2.2 9), .ref (g.2.2 12), .ref (g.2.2 15), .ref (g.2.2 22), .null, .null, .null]))) 25 (.inr (0, [.null, .null, .null, .null, .null, .int 0, .int 0, .int 0, .null, .null, .null, .int 0]))) s _ _ := hw
  refine lv_dup hx hb dX11_init_139 rfl ?_
  refine lv_aload_n hx hb dX11_init_140 rfl (lv_at hl 0 rfl) ?_
  refine k_get (o := 0) (fs := [.ref (g.2.2 1), .ref (g.2.2 2), .ref (g.2.2 6), .ref (g.2.2 53), .ref (g.2.2 55), .ref (g.2.2 9), .ref (g.2.2 12), .ref (g.2.2 15), .ref (g.2.2 22), .null, .null, .null]) (v := .ref (g.2.2 1)) hC hw fl_X11_12 (by decide) (by decide) ((eset_b (by decide)).trans (eset_a)) rfl dX11_init_141 ?_
  refine lv_aload_n hx hb dX11_init_144 rfl (lv_at hl 0 rfl) ?_
  refine k_get (o := 0) (fs := [.ref (g.2.2 1), .ref (g.2.2 2), .ref (g.2.2 6), .ref (g.2.2 53), .ref (g.2.2 55), .ref (g.2.2 9), .ref (g.2.2 12), .ref (g.2.2 15), .ref (g.2.2 22), .null, .null, .null]) (v := .ref (g.2.2 6)) hC hw fl_X11_30 (by decide) (by decide) ((eset_b (by decide)).trans (eset_a)) rfl dX11_init_145 ?_
  refine k_ctor (b := 25) (As := [.ref (g.2.2 1), .ref (g.2.2 6)]) (rest := [.ref (g.2.2 25), .ref (g.2.2 0)]) hC hw (t_X0 l g B hG (fun i q1 q2 => (eset_b (by omega)).trans (hμ i (fun q => by have := q.2; omega)))) ml_X11_78 im_X0_init rfl rfl hl.1 ⟨(Nat.le_of_ble_eq_true rfl), (Nat.le_of_ble_eq_true rfl)⟩ (Nat.le_of_ble_eq_true rfl) (Nat.le_of_ble_eq_true rfl) (Nat.le_of_ble_eq_true rfl) dX11_init_148 (fun H locs hw => ?_)
  have hw : pd g B 149 (eset (ce g r2.2) 0 (.inr (11, [.ref (g.2.2 1), .ref (g.2.2 2), .ref (g.2.2 6), .ref (g.2.2 53), .ref (g.2.2 55), .ref (g.2.2 9), .ref (g.2.2 12), .ref (g.2.2 15), .ref (g.2.2 22), .null, .null, .null]))) s _ _ := hw
  refine k_fin (E := (ce g r2.2)) (o := 0) (fs := [.ref (g.2.2 1), .ref (g.2.2 2), .ref (g.2.2 6), .ref (g.2.2 53), .ref (g.2.2 55), .ref (g.2.2 9), .ref (g.2.2 12), .ref (g.2.2 15), .ref (g.2.2 22), .null, .null, .null]) (fs' := [.ref (g.2.2 1), .ref (g.2.2 2), .ref (g.2.2 6), .ref (g.2.2 53), .ref (g.2.2 55), .ref (g.2.2 9), .ref (g.2.2 12), .ref (g.2.2 15), .ref (g.2.2 22), .ref (g.2.2 25), .null, .null]) hC hw hnm fl_X11_81 ff_11_9 (by decide) (by decide) rfl rfl (Nat.le_of_ble_eq_true rfl) rfl dX11_init_151 (fun H locs hw => ?_)
  refine lv_aload_n hx hb dX11_init_154 rfl (lv_at hl 0 rfl) ?_
  refine lv_iconst (v := (4 : Int32)) hx hb dX11_init_155 (by decide) ?_
  refine k_ref (i := 31) (k := 4) (N := (4 : Int32)) (N' := 4) hC hw (by decide) (by decide) ck_X11_85 hC.2.2.2.2.2.2.2.1.2.1 rfl (by decide) (by decide) (by decide) (Nat.le_of_ble_eq_true rfl) (Nat.le_of_ble_eq_true rfl) dX11_init_156 (fun H hw => ?_)
  have hw := pd_swap (by decide) hw
  rw [← fI_0 g 31] at hw
  have hw : pd g B 150 (eset (eset (ce g r2.2) 31 (.inl (g.2.1 4, 4, .inr (.inr (.inr (.inr (fI g 31 0))))))) 0 (.inr (11, [.ref (g.2.2 1), .ref (g.2.2 2), .ref (g.2.2 6), .ref (g.2.2 53), .ref (g.2.2 55), .ref (g.2.2 9), .ref (g.2.2 12), .ref (g.2.2 15), .ref (g.2.2 22), .ref (g.2.2 25), .null, .null]))) s _ _ := hw
  refine k_fin (E := (eset (ce g r2.2) 31 (.inl (g.2.1 4, 4, .inr (.inr (.inr (.inr (fI g 31 0)))))))) (o := 0) (fs := [.ref (g.2.2 1), .ref (g.2.2 2), .ref (g.2.2 6), .ref (g.2.2 53), .ref (g.2.2 55), .ref (g.2.2 9), .ref (g.2.2 12), .ref (g.2.2 15), .ref (g.2.2 22), .ref (g.2.2 25), .null, .null]) (fs' := [.ref (g.2.2 1), .ref (g.2.2 2), .ref (g.2.2 6), .ref (g.2.2 53), .ref (g.2.2 55), .ref (g.2.2 9), .ref (g.2.2 12), .ref (g.2.2 15), .ref (g.2.2 22), .ref (g.2.2 25), .ref (g.2.2 31), .null]) hC hw hnm fl_X11_87 ff_11_10 (by decide) (by decide) rfl rfl (Nat.le_of_ble_eq_true rfl) rfl dX11_init_159 (fun H locs hw => ?_)
  refine lv_aload_n hx hb dX11_init_162 rfl (lv_at hl 0 rfl) ?_
  refine lv_iconst (v := (3 : Int32)) hx hb dX11_init_163 (by decide) ?_
  refine k_ref (i := 32) (k := 5) (N := (3 : Int32)) (N' := 3) hC hw (by decide) (by decide) ck_X11_91 hC.2.2.2.2.2.2.2.1.2.2 rfl (by decide) (by decide) (by decide) (Nat.le_of_ble_eq_true rfl) (Nat.le_of_ble_eq_true rfl) dX11_init_164 (fun H hw => ?_)
  have hw := pd_swap (by decide) hw
  rw [← fI_0 g 32] at hw
  have hw : pd g B 151 (eset (eset (eset (ce g r2.2) 31 (.inl (g.2.1 4, 4, .inr (.inr (.inr (.inr (fI g 31 0))))))) 32 (.inl (g.2.1 5, 3, .inr (.inr (.inr (.inr (fI g 32 0))))))) 0 (.inr (11, [.ref (g.2.2 1), .ref (g.2.2 2), .ref (g.2.2 6), .ref (g.2.2 53), .ref (g.2.2 55), .ref (g.2.2 9), .ref (g.2.2 12), .ref (g.2.2 15), .ref (g.2.2 22), .ref (g.2.2 25), .ref (g.2.2 31), .null]))) s _ _ := hw
  refine k_fin (E := (eset (eset (ce g r2.2) 31 (.inl (g.2.1 4, 4, .inr (.inr (.inr (.inr (fI g 31 0))))))) 32 (.inl (g.2.1 5, 3, .inr (.inr (.inr (.inr (fI g 32 0)))))))) (o := 0) (fs := [.ref (g.2.2 1), .ref (g.2.2 2), .ref (g.2.2 6), .ref (g.2.2 53), .ref (g.2.2 55), .ref (g.2.2 9), .ref (g.2.2 12), .ref (g.2.2 15), .ref (g.2.2 22), .ref (g.2.2 25), .ref (g.2.2 31), .null]) (fs' := [.ref (g.2.2 1), .ref (g.2.2 2), .ref (g.2.2 6), .ref (g.2.2 53), .ref (g.2.2 55), .ref (g.2.2 9), .ref (g.2.2 12), .ref (g.2.2 15), .ref (g.2.2 22), .ref (g.2.2 25), .ref (g.2.2 31), .ref (g.2.2 32)]) hC hw hnm fl_X11_93 ff_11_11 (by decide) (by decide) rfl rfl (Nat.le_of_ble_eq_true rfl) rfl dX11_init_167 (fun H locs hw => ?_)
  have hw : pd g B 151 (eset (eset (ce g r2.2) 31 (.inl (g.2.1 4, 4, .inr (.inr (.inr (.inr (fI g 31 0))))))) 32 (.inl (g.2.1 5, 3, .inr (.inr (.inr (.inr (fI g 32 0))))))) s _ _ := pd_drop hw ((eset_b (by decide)).trans ((eset_b (by decide)).trans ((hμ 0 (by decide)).trans rfl)))
  refine lv_iconst (v := (0 : Int32)) hx hb dX11_init_170 (by decide) ?_
  refine lv_istore_n (lv' := [(1, .int (0 : Int32)), (0, .ref (g.2.2 0))]) hx hb dX11_init_171 rfl hl (by decide) rfl (fun ls hl => ?_)
  have LP198 : ∀ k i, k + i = 3 → ∀ (H : Heap) (locs : List Loc) (ls : Array Slot), pd g B (159 + 4 * i) (eset (ce g r2.2) 32 (.inl (g.2.1 5, 3, .inr (.inr (.inr (.inr (fI g 32 i))))))) s H locs → lv_has ls 2 [(1, .int (nI i)), (0, .ref (g.2.2 0))] → W p l e { frames := 5, cells := 170, slots := 87422, locals := 40 * 5 } s m args below meth c H locs (158 + 4 * i) (87338 + 28 * i) (MQ below (QKb g B (1 + 170) (ce g r2.2)) args s 170 87422 (fun q => B ≤ q)) (F0 m 198 ls []) := by
    intro k
    induction k with
    | zero =>
      intro i hk H locs ls hw hl
      obtain rfl : i = 3 := by omega
      refine lv_iload_n hx hb dX11_init_198 rfl (lv_at hl 0 rfl) ?_
      refine lv_iconst (v := (3 : Int32)) hx hb dX11_init_199 (by decide) ?_
      refine lv_icmp_ge (tgt := 222) hx hb dX11_init_200 (by decide) (fun hc => ?_) (fun hc => absurd (by decide) hc)
      have hw := pd_fI (E := (ce g r2.2)) hw ((hμ 32 (by decide)).trans rfl)
      exact k_ret hC hw hr hlocks rfl rfl (by decide) (by decide) dX11_init_222
    | succ k ih =>
      intro i hk H locs ls hw hl
      have hi : i < 3 := by omega
      have hf := lf_32 i hi
      refine lv_iload_n hx hb dX11_init_198 rfl (lv_at hl 0 rfl) ?_
      refine lv_iconst (v := (3 : Int32)) hx hb dX11_init_199 (by decide) ?_
      refine lv_icmp_ge (tgt := 222) hx hb dX11_init_200 (by decide) (fun hc => absurd ((nI_leI (a := 3) (b := i) (by decide) (by omega)).mp hc) (by omega)) (fun hc => ?_)
      refine lv_aload_n hx hb dX11_init_203 rfl (lv_at hl 1 rfl) ?_
      refine k_get (o := 0) (fs := [.ref (g.2.2 1), .ref (g.2.2 2), .ref (g.2.2 6), .ref (g.2.2 53), .ref (g.2.2 55), .ref (g.2.2 9), .ref (g.2.2 12), .ref (g.2.2 15), .ref (g.2.2 22), .ref (g.2.2 25), .ref (g.2.2 31), .ref (g.2.2 32)]) (v := .ref (g.2.2 32)) hC hw fl_X11_93 (by decide) (by show 0 < _; omega) ((eset_b (by decide)).trans ((hμ 0 (by decide)).trans rfl)) rfl dX11_init_204 ?_
      refine lv_iload_n hx hb dX11_init_207 rfl (lv_at hl 0 rfl) ?_
      refine k_new (i := (41 + 4 * i)) (ci := 2) (fs := [.int 0, .null, .null]) hC hw tyX2 (by have := hf.1; omega) hf.2.1 rfl inG2 tyX2_ok ck_X11_91 is_X2 ii_X2 (fun j hj => by (have : j = 0 ∨ j = 1 ∨ j = 2 := by omega); rcases this with rfl | rfl | rfl <;> rfl) (by show _ ≤ 170; omega) (by show _ ≤ 87422; omega) dX11_init_208 (fun H hw => ?_)
      refine lv_dup hx hb dX11_init_211 rfl ?_
      refine k_ctorN (b := (41 + 4 * i)) (As := []) (rest := [.ref (g.2.2 ((41 + 4 * i))), .int (nI i), .ref (g.2.2 32)]) hC hw (t_X2 l g B hG hf.1 (by rw [hf.2.1]; omega) hf.2.2.2.1 hf.2.2.2.2.1 hf.2.2.2.2.2 ((eset_b (by omega)).trans ((hμ _ (fun q => by have := q.2; omega)).trans (ce_im g i hi).1)) ((eset_b (by omega)).trans ((hμ _ (fun q => by have := q.2; omega)).trans (ce_im g i hi).2.1)) ((eset_b (by omega)).trans ((hμ _ (fun q => by have := q.2; omega)).trans (ce_im g i hi).2.2.1)) ((eset_b (by omega)).trans ((hμ _ (fun q => by have := q.2; omega)).trans (ce_im g i hi).2.2.2))) mn_X11_98 im_X2_init rfl rfl hl.1 ⟨(Nat.le_of_ble_eq_true rfl), (Nat.le_of_ble_eq_true rfl)⟩ (Nat.le_of_ble_eq_true rfl) (by show _ ≤ 170; omega) (by show _ ≤ 87422; omega) dX11_init_212 (fun H locs hw => ?_)
      refine k_ast (E := (ce g r2.2)) (o2 := (41 + 4 * i)) (ci := 2) (r := (RX2, TX2, 3)) hC hw (by decide) (by show 150 < _; omega) rfl (by have := hf.1; omega) (by rw [hf.2.1]; omega) (by omega) ((hμ _ (fun q => by have := q.2; omega)).trans (ce_im g i hi).1) rfl (vin_n hi (by decide)) dX11_init_215 (fun H locs hw => ?_)
      rw [nI_clamp (by omega), fI_s hf.2.2.1] at hw
      refine lv_iinc (v := nI (i + 1)) (lv' := [(1, .int (nI (i + 1))), (0, .ref (g.2.2 0))]) hx hb dX11_init_216 hl (k := 0) rfl (by rw [← nI_add]; rfl) (by decide) rfl (fun ls hl => ?_)
      refine lv_goto (tgt := 198) hx hb dX11_init_219 (by decide) ?_
      refine W.widen (k := 158 + 4 * (i + 1)) (n := 87338 + 28 * (i + 1)) (by omega) (by omega) ?_
      refine ih (i + 1) (by omega) H locs ls ?_ (lv_sub hl [0, 1] rfl)
      rw [show 159 + 4 * (i + 1) = 159 + 4 * i + 1 + 3 by omega]
      exact hw
  have hw := pd_swap (by decide) hw
  have LP172 : ∀ k i, k + i = 4 → ∀ (H : Heap) (locs : List Loc) (ls : Array Slot), pd g B (151 + 2 * i) (eset (eset (ce g r2.2) 32 (.inl (g.2.1 5, 3, .inr (.inr (.inr (.inr (fI g 32 0))))))) 31 (.inl (g.2.1 4, 4, .inr (.inr (.inr (.inr (fI g 31 i))))))) s H locs → lv_has ls 2 [(1, .int (nI i)), (0, .ref (g.2.2 0))] → W p l e { frames := 5, cells := 170, slots := 87422, locals := 40 * 5 } s m args below meth c H locs (150 + 2 * i) (87166 + 43 * i) (MQ below (QKb g B (1 + 170) (ce g r2.2)) args s 170 87422 (fun q => B ≤ q)) (F0 m 172 ls []) := by
    intro k
    induction k with
    | zero =>
      intro i hk H locs ls hw hl
      obtain rfl : i = 4 := by omega
      refine lv_iload_n hx hb dX11_init_172 rfl (lv_at hl 0 rfl) ?_
      refine lv_iconst (v := (4 : Int32)) hx hb dX11_init_173 (by decide) ?_
      refine lv_icmp_ge (tgt := 196) hx hb dX11_init_174 (by decide) (fun hc => ?_) (fun hc => absurd (by decide) hc)
      have hw := pd_fI (E := (eset (ce g r2.2) 32 (.inl (g.2.1 5, 3, .inr (.inr (.inr (.inr (fI g 32 0)))))))) hw ((eset_b (by decide)).trans ((hμ 31 (by decide)).trans rfl))
      refine lv_iconst (v := (0 : Int32)) hx hb dX11_init_196 (by decide) ?_
      refine lv_istore_n (lv' := [(1, .int (0 : Int32)), (0, .ref (g.2.2 0))]) hx hb dX11_init_197 rfl hl (by decide) rfl (fun ls hl => ?_)
      exact LP198 3 0 rfl _ _ ls hw (lv_sub hl [0, 1] rfl)
    | succ k ih =>
      intro i hk H locs ls hw hl
      have hi : i < 4 := by omega
      have hf := lf_31 i hi
      refine lv_iload_n hx hb dX11_init_172 rfl (lv_at hl 0 rfl) ?_
      refine lv_iconst (v := (4 : Int32)) hx hb dX11_init_173 (by decide) ?_
      refine lv_icmp_ge (tgt := 196) hx hb dX11_init_174 (by decide) (fun hc => absurd ((nI_leI (a := 4) (b := i) (by decide) (by omega)).mp hc) (by omega)) (fun hc => ?_)
      refine lv_aload_n hx hb dX11_init_177 rfl (lv_at hl 1 rfl) ?_
      refine k_get (o := 0) (fs := [.ref (g.2.2 1), .ref (g.2.2 2), .ref (g.2.2 6), .ref (g.2.2 53), .ref (g.2.2 55), .ref (g.2.2 9), .ref (g.2.2 12), .ref (g.2.2 15), .ref (g.2.2 22), .ref (g.2.2 25), .ref (g.2.2 31), .ref (g.2.2 32)]) (v := .ref (g.2.2 31)) hC hw fl_X11_87 (by decide) (by show 0 < _; omega) ((eset_b (by decide)).trans ((eset_b (by decide)).trans ((hμ 0 (by decide)).trans rfl))) rfl dX11_init_178 ?_
      refine lv_iload_n hx hb dX11_init_181 rfl (lv_at hl 0 rfl) ?_
      refine k_new (i := (33 + 2 * i)) (ci := 9) (fs := [.null, .int 0, .int 0]) hC hw tyX9 (Nat.lt_of_succ_lt hf.1) hf.2.1 rfl inG9 tyX9_ok ck_X11_85 is_X9 ii_X9 (fun j hj => by (have : j = 0 ∨ j = 1 ∨ j = 2 := by omega); rcases this with rfl | rfl | rfl <;> rfl) (by show _ ≤ 170; omega) (by show _ ≤ 87422; omega) dX11_init_182 (fun H hw => ?_)
      refine lv_dup hx hb dX11_init_185 rfl ?_
      refine k_ctorN (b := (33 + 2 * i)) (As := []) (rest := [.ref (g.2.2 ((33 + 2 * i))), .int (nI i), .ref (g.2.2 31)]) hC hw (t_X9 l g B hG hf.1 (by rw [hf.2.1]; omega) hf.2.2.2 ((eset_b (by omega)).trans ((eset_b (by omega)).trans ((hμ _ (fun q => by have := q.2; omega)).trans (ce_tr g i hi).1))) ((eset_b (by omega)).trans ((eset_b (by omega)).trans ((hμ _ (fun q => by have := q.2; omega)).trans (ce_tr g i hi).2)))) mn_X11_97 im_X9_init rfl rfl hl.1 ⟨(Nat.le_of_ble_eq_true rfl), (Nat.le_of_ble_eq_true rfl)⟩ (Nat.le_of_ble_eq_true rfl) (by show _ ≤ 170; omega) (by show _ ≤ 87422; omega) dX11_init_186 (fun H locs hw => ?_)
      refine k_ast (E := (eset (ce g r2.2) 32 (.inl (g.2.1 5, 3, .inr (.inr (.inr (.inr (fI g 32 0)))))))) (o2 := (33 + 2 * i)) (ci := 9) (r := (RX9, TX9, 3)) hC hw (by decide) (by show 149 < _; omega) rfl (Nat.lt_of_succ_lt hf.1) (by rw [hf.2.1]; omega) (by omega) ((eset_b (by omega)).trans ((hμ _ (fun q => by have := q.2; omega)).trans (ce_tr g i hi).1)) rfl (vin_n hi (by decide)) dX11_init_189 (fun H locs hw => ?_)
      rw [nI_clamp (by omega), fI_s hf.2.2.1] at hw
      refine lv_iinc (v := nI (i + 1)) (lv' := [(1, .int (nI (i + 1))), (0, .ref (g.2.2 0))]) hx hb dX11_init_190 hl (k := 0) rfl (by rw [← nI_add]; rfl) (by decide) rfl (fun ls hl => ?_)
      refine lv_goto (tgt := 172) hx hb dX11_init_193 (by decide) ?_
      refine W.widen (k := 150 + 2 * (i + 1)) (n := 87166 + 43 * (i + 1)) (by omega) (by omega) ?_
      refine ih (i + 1) (by omega) H locs ls ?_ (lv_sub hl [0, 1] rfl)
      rw [show 151 + 2 * (i + 1) = 151 + 2 * i + 1 + 1 by omega]
      exact hw
  exact LP172 4 0 rfl _ _ ls hw (lv_sub hl [0, 1] rfl)
