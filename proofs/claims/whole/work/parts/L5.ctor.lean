/-! rows of references that are filled; the small constructors -/
def fI (g : Gw) (A i : Nat) : Nat → Option Nat := fun j => if j < i then some (g.2.2 (oT A j)) else none
theorem fI_0 (g : Gw) (A : Nat) : fI g A 0 = fun _ => none := by
  funext j
  unfold fI
  rw [if_neg (by omega)]
theorem fI_s {g : Gw} {A i v : Nat} (h : oT A i = v) : va_up (fI g A i) i (some (g.2.2 v)) = fI g A (i + 1) := by
  funext j
  unfold va_up fI
  by_cases c : j = i
  · rw [if_pos c, if_pos (by omega), c, h]
  · rw [if_neg c]
    by_cases c2 : j < i
    · rw [if_pos c2, if_pos (by omega)]
    · rw [if_neg c2, if_neg (by omega)]
theorem pd_fI {g : Gw} {B n A N : Nat} {cA : ClassId} {E : Nat → va_E} {s : State} {H : Heap} {locs : List Loc} (hw : pd g B n (eset E A (.inl (cA, N, .inr (.inr (.inr (.inr (fI g A N))))))) s H locs) (hE : E A = .inl (cA, N, .inr (.inr (.inr (.inr (fun j => some (g.2.2 (oT A j)))))))) : pd g B n E s H locs := by
  refine ⟨⟨hw.1.1, fun i h1 h2 => ?_⟩, hw.2⟩
  have h3 := hw.1.2 i h1 h2
  by_cases c : i = A
  · subst c
    rw [eset_a] at h3
    rw [hE]
    have h4 : H[g.2.2 i]? = some (vp_cell cA (N, .inr (.inr (.inr (.inr (fI g i N)))))) := h3
    show H[g.2.2 i]? = some (vp_cell cA (N, .inr (.inr (.inr (.inr (fun j => some (g.2.2 (oT i j))))))))
    rw [h4, vp_cell_q, vp_cell_q]
    unfold arrV
    have e : (fun j : Fin N => va_rf (fI g i N j.val)) = fun j : Fin N => va_rf (some (g.2.2 (oT i j.val))) := by
      funext j
      unfold fI
      rw [if_pos j.isLt]
    rw [e]
  · rw [eset_b c] at h3
    exact h3
theorem vin_n {i N : Nat} (h : i < N) (hN : N < 2 ^ 31) : vp_in (nI i) N := by
  intro q
  rcases q with q | q
  · exact nI_pos (by omega) q
  · rw [nI_clamp (by omega)] at q; omega
theorem mI_0 {o : Nat} (h1 : 53 ≤ o) (h2 : o < 171) : mI.1 o = fun _ => 0 := by
  funext k
  unfold mI
  dsimp only
  rw [if_neg (by omega), if_neg (by omega), if_neg (by omega), if_neg (by omega), if_neg (by omega), if_neg (by omega), if_neg (by omega), if_neg (by omega), if_neg (by omega), if_neg (by omega), if_neg (by omega), if_neg (by omega), if_neg (by omega), if_neg (by omega)]
theorem ce_sc (g : Gw) {o : Nat} (h1 : 53 ≤ o) (h2 : o < 171) (h6 : oK o = 6) (ht : oT o 0 = o + 1) : ce g mI o = .inr (6, [.ref (g.2.2 (o + 1)), .int 0]) := by
  rw [ce_obj h6 (by decide)]
  show (Sum.inr (6, [Value.ref (g.2.2 (oT o 0)), Value.int (mI.1 o 1)]) : va_E) = _
  rw [ht, mI_0 h1 h2]
theorem ce_sa (g : Gw) {o : Nat} (h1 : 53 ≤ o) (h2 : o < 171) (h6 : oK o = 20) (hn : oN o = 14) : ce g mI o = .inl (g.2.1 0, 14, .inl (fun _ => 0)) := by
  rw [ce_int h6, hn, mI_0 h1 h2]
set_option maxRecDepth 100000 in
set_option maxHeartbeats 4000000 in
theorem t_X5 (l : Launch) (g : Gw) (B : Nat) (hG : GB g B) {o n : Nat} {E : Nat → va_E} (ho : o < NN) (hp : pi o < n) (hE : E o = .inr (5, [.int 0, .int 3, .int 0, .int 0, .int 0, .int 0, .int 0, .int 0, .int 0])) : KT l g B yX5_init cX5_init 1 1 0 0 [.ref (g.2.2 o)] n (eset E o (.inr (5, [.int 0, .int 0, .int 0, .int 0, .int 0, .int 0, .int 0, .int 0, .int 0]))) E := by
  refine KT.of hG (by decide) (Nat.le_of_ble_eq_true rfl) ?_
  intro p e s m args below meth c ls hC hw hr hlocks hnm hl
  have hx := hC.1
  have hb := hC.2.1
  have hl : lv_has ls 1 [(0, .ref (g.2.2 o))] := hl
  refine lv_aload_n hx hb dX5_init_0 rfl (lv_at hl 0 rfl) ?_
  refine W.objInit hx hb hC.2.2.2.1 (hC.2.2.2.2.1 _ oi_X5_3) (hC.2.2.2.2.1 _ oi_in) (hC.2.2.2.2.1 _ oi_co) rfl (by rw [hC.2.2.1]; exact hl.1) rfl dX5_init_1 (Nat.le_of_ble_eq_true rfl) (Nat.le_of_ble_eq_true rfl) ?_
  refine W.eq (g2 := F0 m 4 ls []) rfl ?_
  refine lv_aload_n hx hb dX5_init_4 rfl (lv_at hl 0 rfl) ?_
  refine lv_iconst (v := (3 : Int32)) hx hb dX5_init_5 (by decide) ?_
  refine k_put (E := E) (o := o) (fs' := [.int 0, .int 3, .int 0, .int 0, .int 0, .int 0, .int 0, .int 0, .int 0]) hC hw fl_X5_9 ff_5_1 ho hp rfl rfl (Nat.le_of_ble_eq_true rfl) rfl dX5_init_6 (fun H locs hw => ?_)
  refine lv_aload_n hx hb dX5_init_9 rfl (lv_at hl 0 rfl) ?_
  refine lv_iconst (v := (0 : Int32)) hx hb dX5_init_10 (by decide) ?_
  refine k_put (E := E) (o := o) (fs' := [.int 0, .int 3, .int 0, .int 0, .int 0, .int 0, .int 0, .int 0, .int 0]) hC hw fl_X5_15 ff_5_4 ho hp rfl rfl (Nat.le_of_ble_eq_true rfl) rfl dX5_init_11 (fun H locs hw => ?_)
  exact k_ret hC hw hr hlocks (eset_e hE) rfl (Nat.le_of_ble_eq_true rfl) (Nat.le_of_ble_eq_true rfl) dX5_init_14
set_option maxRecDepth 100000 in
set_option maxHeartbeats 4000000 in
theorem t_X6 (l : Launch) (g : Gw) (B : Nat) (hG : GB g B) {o n : Nat} {E : Nat → va_E} (ho : o + 1 < NN) (hp : pi o < n) (hp1 : pi (o + 1) = n) (hE : E o = .inr (6, [.ref (g.2.2 (o + 1)), .int 0])) (h1 : E (o + 1) = .inl (g.2.1 0, 14, .inl (fun _ => 0))) : KT l g B yX6_init cX6_init 1 1 1 14 [.ref (g.2.2 o)] n (eset E o (.inr (6, [.null, .int 0]))) E := by
  refine KT.of hG (by decide) (Nat.le_of_ble_eq_true rfl) ?_
  intro p e s m args below meth c ls hC hw hr hlocks hnm hl
  have hx := hC.1
  have hb := hC.2.1
  have hl : lv_has ls 1 [(0, .ref (g.2.2 o))] := hl
  refine lv_aload_n hx hb dX6_init_0 rfl (lv_at hl 0 rfl) ?_
  refine W.objInit hx hb hC.2.2.2.1 (hC.2.2.2.2.1 _ oi_X6_3) (hC.2.2.2.2.1 _ oi_in) (hC.2.2.2.2.1 _ oi_co) rfl (by rw [hC.2.2.1]; exact hl.1) rfl dX6_init_1 (Nat.le_of_ble_eq_true rfl) (Nat.le_of_ble_eq_true rfl) ?_
  refine W.eq (g2 := F0 m 4 ls []) rfl ?_
  refine lv_aload_n hx hb dX6_init_4 rfl (lv_at hl 0 rfl) ?_
  refine lv_bipush (v := (14 : Int32)) hx hb dX6_init_5 (by decide) ?_
  refine k_arr (i := o + 1) (k := 0) (N := (14 : Int32)) (N' := 14) (a0 := (14, .inl (fun _ => 0))) hC hw ho hp1 aw_int (hC.2.2.2.2.2.1.1.2 0 _ rfl).2 ((eset_b (by omega)).trans h1) (fun _ => rfl) (by decide) (by decide) (by decide) (Nat.le_of_ble_eq_true rfl) (Nat.le_of_ble_eq_true rfl) dX6_init_7 (fun H hw => ?_)
  refine k_fin (E := E) (o := o) (fs' := [.ref (g.2.2 (o + 1)), .int 0]) hC hw hnm fl_X6_9 ff_6_0 (by omega) (by omega) rfl rfl (Nat.le_of_ble_eq_true rfl) rfl dX6_init_9 (fun H locs hw => ?_)
  exact k_ret hC hw hr hlocks (eset_e hE) rfl (Nat.le_of_ble_eq_true rfl) (Nat.le_of_ble_eq_true rfl) dX6_init_12
set_option maxRecDepth 100000 in
set_option maxHeartbeats 4000000 in
theorem t_X9 (l : Launch) (g : Gw) (B : Nat) (hG : GB g B) {o n : Nat} {E : Nat → va_E} (ho : o + 1 < NN) (hp : pi o < n) (hp1 : pi (o + 1) = n) (hE : E o = .inr (9, [.ref (g.2.2 (o + 1)), .int (-1), .int 0])) (h1 : E (o + 1) = .inl (g.2.1 1, 40, .inr (.inl (fun _ => 0)))) : KT l g B yX9_init cX9_init 1 1 1 40 [.ref (g.2.2 o)] n (eset E o (.inr (9, [.null, .int 0, .int 0]))) E := by
  refine KT.of hG (by decide) (Nat.le_of_ble_eq_true rfl) ?_
  intro p e s m args below meth c ls hC hw hr hlocks hnm hl
  have hx := hC.1
  have hb := hC.2.1
  have hl : lv_has ls 1 [(0, .ref (g.2.2 o))] := hl
  refine lv_aload_n hx hb dX9_init_0 rfl (lv_at hl 0 rfl) ?_
  refine W.objInit hx hb hC.2.2.2.1 (hC.2.2.2.2.1 _ oi_X9_3) (hC.2.2.2.2.1 _ oi_in) (hC.2.2.2.2.1 _ oi_co) rfl (by rw [hC.2.2.1]; exact hl.1) rfl dX9_init_1 (Nat.le_of_ble_eq_true rfl) (Nat.le_of_ble_eq_true rfl) ?_
  refine W.eq (g2 := F0 m 4 ls []) rfl ?_
  refine lv_aload_n hx hb dX9_init_4 rfl (lv_at hl 0 rfl) ?_
  refine lv_bipush (v := (40 : Int32)) hx hb dX9_init_5 (by decide) ?_
  refine k_arr (i := o + 1) (k := 1) (N := (40 : Int32)) (N' := 40) (a0 := (40, .inr (.inl (fun _ => 0)))) hC hw ho hp1 aw_long (hC.2.2.2.2.2.1.1.2 1 _ rfl).2 ((eset_b (by omega)).trans h1) (fun _ => rfl) (by decide) (by decide) (by decide) (Nat.le_of_ble_eq_true rfl) (Nat.le_of_ble_eq_true rfl) dX9_init_7 (fun H hw => ?_)
  refine k_fin (E := E) (o := o) (fs' := [.ref (g.2.2 (o + 1)), .int 0, .int 0]) hC hw hnm fl_X9_9 ff_9_0 (by omega) (by omega) rfl rfl (Nat.le_of_ble_eq_true rfl) rfl dX9_init_9 (fun H locs hw => ?_)
  refine lv_aload_n hx hb dX9_init_12 rfl (lv_at hl 0 rfl) ?_
  refine lv_iconst (v := (-1 : Int32)) hx hb dX9_init_13 (by decide) ?_
  refine k_put (E := E) (o := o) (fs' := [.ref (g.2.2 (o + 1)), .int (-1), .int 0]) hC hw fl_X9_15 ff_9_1 (by omega) (by omega) rfl rfl (Nat.le_of_ble_eq_true rfl) rfl dX9_init_14 (fun H locs hw => ?_)
  exact k_ret hC hw hr hlocks (eset_e hE) rfl (Nat.le_of_ble_eq_true rfl) (Nat.le_of_ble_eq_true rfl) dX9_init_17
set_option maxRecDepth 100000 in
set_option maxHeartbeats 4000000 in
theorem t_X2 (l : Launch) (g : Gw) (B : Nat) (hG : GB g B) {o n : Nat} {E : Nat → va_E} (ho : o + 3 < NN) (hp : pi o < n) (hp1 : pi (o + 1) = n) (hp2 : pi (o + 2) = n + 1) (hp3 : pi (o + 3) = n + 2) (hE : E o = .inr (2, [.int 0, .ref (g.2.2 (o + 1)), .ref (g.2.2 (o + 2))])) (h1 : E (o + 1) = .inr (5, [.int 0, .int 3, .int 0, .int 0, .int 0, .int 0, .int 0, .int 0, .int 0])) (h2 : E (o + 2) = .inr (6, [.ref (g.2.2 (o + 2 + 1)), .int 0])) (h3 : E (o + 2 + 1) = .inl (g.2.1 0, 14, .inl (fun _ => 0))) : KT l g B yX2_init cX2_init 1 2 3 25 [.ref (g.2.2 o)] n (eset E o (.inr (2, [.int 0, .null, .null]))) E := by
  refine KT.of hG (by decide) (Nat.le_of_ble_eq_true rfl) ?_
  intro p e s m args below meth c ls hC hw hr hlocks hnm hl
  have hx := hC.1
  have hb := hC.2.1
  have hl : lv_has ls 1 [(0, .ref (g.2.2 o))] := hl
  refine lv_aload_n hx hb dX2_init_0 rfl (lv_at hl 0 rfl) ?_
  refine W.objInit hx hb hC.2.2.2.1 (hC.2.2.2.2.1 _ oi_X2_1) (hC.2.2.2.2.1 _ oi_in) (hC.2.2.2.2.1 _ oi_co) rfl (by rw [hC.2.2.1]; exact hl.1) rfl dX2_init_1 (Nat.le_of_ble_eq_true rfl) (Nat.le_of_ble_eq_true rfl) ?_
  refine W.eq (g2 := F0 m 4 ls []) rfl ?_
  refine lv_aload_n hx hb dX2_init_4 rfl (lv_at hl 0 rfl) ?_
  refine k_new (i := o + 1) (ci := 5) (fs := [.int 0, .int 0, .int 0, .int 0, .int 0, .int 0, .int 0, .int 0, .int 0]) hC hw tyX5 (by omega) hp1 rfl inG5 tyX5_ok ck_X2_7 is_X5 ii_X5 (fun j hj => by (have : j = 0 ∨ j = 1 ∨ j = 2 ∨ j = 3 ∨ j = 4 ∨ j = 5 ∨ j = 6 ∨ j = 7 ∨ j = 8 := by omega); rcases this with rfl | rfl | rfl | rfl | rfl | rfl | rfl | rfl | rfl <;> rfl) (Nat.le_of_ble_eq_true rfl) (Nat.le_of_ble_eq_true rfl) dX2_init_5 (fun H hw => ?_)
  refine lv_dup hx hb dX2_init_8 rfl ?_
  refine k_ctorN (b := o + 1) (As := []) (rest := [.ref (g.2.2 (o + 1)), .ref (g.2.2 o)]) hC hw (t_X5 l g B hG (by omega) (by omega) ((eset_b (by omega)).trans h1)) mn_X2_9 im_X5_init rfl rfl hl.1 ⟨Nat.le_of_ble_eq_true rfl, Nat.le_of_ble_eq_true rfl⟩ (Nat.le_of_ble_eq_true rfl) (Nat.le_of_ble_eq_true rfl) (Nat.le_of_ble_eq_true rfl) dX2_init_9 (fun H locs hw => ?_)
  refine k_fin (E := E) (o := o) (fs' := [.int 0, .ref (g.2.2 (o + 1)), .null]) hC hw hnm fl_X2_10 ff_2_1 (by omega) (by omega) rfl rfl (Nat.le_of_ble_eq_true rfl) rfl dX2_init_12 (fun H locs hw => ?_)
  refine lv_aload_n hx hb dX2_init_15 rfl (lv_at hl 0 rfl) ?_
  refine k_new (i := o + 2) (ci := 6) (fs := [.null, .int 0]) hC hw tyX6 (by omega) (by omega) rfl inG6 tyX6_ok ck_X2_16 is_X6 ii_X6 (fun j hj => by (have : j = 0 ∨ j = 1 := by omega); rcases this with rfl | rfl <;> rfl) (Nat.le_of_ble_eq_true rfl) (Nat.le_of_ble_eq_true rfl) dX2_init_16 (fun H hw => ?_)
  refine lv_dup hx hb dX2_init_19 rfl ?_
  refine k_ctorN (b := o + 2) (As := []) (rest := [.ref (g.2.2 (o + 2)), .ref (g.2.2 o)]) hC hw (t_X6 l g B hG (by omega) (by omega) (by omega) ((eset_b (by omega)).trans h2) ((eset_b (by omega)).trans h3)) mn_X2_18 im_X6_init rfl rfl hl.1 ⟨Nat.le_of_ble_eq_true rfl, Nat.le_of_ble_eq_true rfl⟩ (Nat.le_of_ble_eq_true rfl) (Nat.le_of_ble_eq_true rfl) (Nat.le_of_ble_eq_true rfl) dX2_init_20 (fun H locs hw => ?_)
  refine k_fin (E := E) (o := o) (fs' := [.int 0, .ref (g.2.2 (o + 1)), .ref (g.2.2 (o + 2))]) hC hw hnm fl_X2_19 ff_2_2 (by omega) (by omega) rfl rfl (Nat.le_of_ble_eq_true rfl) rfl dX2_init_23 (fun H locs hw => ?_)
  exact k_ret hC hw hr hlocks (eset_e hE) rfl (Nat.le_of_ble_eq_true rfl) (Nat.le_of_ble_eq_true rfl) dX2_init_26
theorem pd_drop {g : Gw} {B n o : Nat} {E : Nat → va_E} {x : va_E} {s : State} {H : Heap} {locs : List Loc} (hw : pd g B n (eset E o x) s H locs) (h : E o = x) : pd g B n E s H locs := by
  rw [eset_e h] at hw
  exact hw
theorem pd_swap {g : Gw} {B n a b : Nat} {E : Nat → va_E} {x y : va_E} {s : State} {H : Heap} {locs : List Loc} (h : a ≠ b) (hw : pd g B n (eset (eset E a x) b y) s H locs) : pd g B n (eset (eset E b y) a x) s H locs := by
  rw [eset_c h] at hw
  exact hw
