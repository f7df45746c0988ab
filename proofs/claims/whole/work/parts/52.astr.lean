theorem rN {p : Program} {l : Launch} {e : Env} {R : Room} {s : State} {m : MethodId} {args : Array Value} {below : List Frame} {meth : Method} {c : Code} {H : Heap} {locs : List Loc} {cells slots : Nat} {cc : ByteArray} {pc nL : Nat} {ls : Array Slot} {own : String} {g : Gw} {μ μ' : Mu} {sz : Nat} {o : Option Value}
    (C : Cx p s m args c cc nL own g (Aw g sz)) (hw : wd g μ s (Aw g sz) H locs) {ty : FieldType} (hr : meth.sig.returnType = some ty) (hlocks : meth.locks = false) {v : Int32} (hn : narrow ty (.int v) = .int v) (ho : some (.int v) = o) (hμ : μ = μ') (dec : decode cc pc = .ok (.ireturn, 1)) : W p l e R s m args below meth c H locs cells slots (MQ below (Qf g sz o μ') args s cells slots (Aw g sz)) (F0 m pc ls [.int v]) := by
  subst hμ; subst ho
  exact W.zret (v := v) (ty := ty) C.1 C.2.1 hr hn (fun t ht hW => ⟨rfl, by rw [ht]; exact hw.1, hw.2.F ht⟩) hw.2.2.2 dec
theorem sh0 (x : Int32) : x >>> ((0 : Int32) &&& 31) = x := by
  apply Int32.toInt_inj.mp
  rw [pk_shr x _ 0 (by decide)]
  simp
theorem sB_chr : ∀ i, i < 47 → ∀ j, j < sL i → ((sB i j &&& 255).toUInt32 % 65536).toInt32 = sB i j ∧ narrow .char (.int (sB i j)) = .int (sB i j) := by decide +kernel
theorem sL_le : ∀ i, i < 47 → sL i < 40 := by decide +kernel
theorem ml_J0_335 : ML RJ0 335 yJ0_coder_7d493 cJ0_coder_7d493 1 (some .byte) 0 := ⟨gi4 216 rfl rfl, gi4 219 rfl rfl, gi1 19 rfl rfl, by decide +kernel⟩
theorem ml_J0_492 : ML RJ0 492 yJ0_isLatin1_aae02 cJ0_isLatin1_aae02 1 (some .boolean) 0 := ⟨gi4 226 rfl rfl, gi4 229 rfl rfl, gi1 19 rfl rfl, by decide +kernel⟩
theorem ml_J0_495 : ML RJ0 495 yJ1_charAt_3b067 cJ1_charAt_3b067 2 (some .char) 2 := ⟨gi4 230 rfl rfl, gi4 232 rfl rfl, gi1 20 rfl rfl, by decide +kernel⟩
theorem ml_J0_1059 : ML RJ0 1059 yJ3_checkIndex_8e157 cJ3_checkIndex_8e157 3 (some .int) 3 := ⟨gi4 238 rfl rfl, gi5 0 rfl rfl, gi1 21 rfl rfl, by decide +kernel⟩
theorem ml_J1_9 : ML RJ1 9 yJ0_checkIndex_df160 cJ0_checkIndex_df160 2 none 2 := ⟨gi4 233 rfl rfl, gi4 235 rfl rfl, gi1 19 rfl rfl, by decide +kernel⟩
theorem im_J0_coder_7d493 : Cond.instanceMethod yJ0_coder_7d493 ∈ gt := gi4 217 rfl rfl
theorem se_J0_coder_7d493 : Cond.selects yJ0_coder_7d493.cls yJ0_coder_7d493 yJ0_coder_7d493 ∈ gt := gi4 218 rfl rfl
theorem im_J0_isLatin1_aae02 : Cond.instanceMethod yJ0_isLatin1_aae02 ∈ gt := gi4 227 rfl rfl
theorem se_J0_isLatin1_aae02 : Cond.selects yJ0_isLatin1_aae02.cls yJ0_isLatin1_aae02 yJ0_isLatin1_aae02 ∈ gt := gi4 228 rfl rfl
theorem im_J0_length_8abf5 : Cond.instanceMethod yJ0_length_8abf5 ∈ gt := gi4 213 rfl rfl
theorem se_J0_length_8abf5 : Cond.selects yJ0_length_8abf5.cls yJ0_length_8abf5 yJ0_length_8abf5 ∈ gt := gi4 214 rfl rfl
theorem im_J0_charAt_5068e : Cond.instanceMethod yJ0_charAt_5068e ∈ gt := gi4 223 rfl rfl
theorem se_J0_charAt_5068e : Cond.selects yJ0_charAt_5068e.cls yJ0_charAt_5068e yJ0_charAt_5068e ∈ gt := gi4 224 rfl rfl
theorem st_J1_charAt_3b067 : Cond.static yJ1_charAt_3b067 ∈ gt := gi4 231 rfl rfl
theorem st_J3_checkIndex_8e157 : Cond.static yJ3_checkIndex_8e157 ∈ gt := gi4 239 rfl rfl
theorem st_J0_checkIndex_df160 : Cond.static yJ0_checkIndex_df160 ∈ gt := gi4 234 rfl rfl
theorem c_J0_coder_7d493 (l : Launch) (g : Gw) (i : Nat) (hi : i < 47) (μ : Mu) : Ct l g yJ0_coder_7d493 cJ0_coder_7d493 1 (some .byte) 0 [.ref (g.2.2 (1000 + i))] μ (some (.int 0)) μ := by
  refine Ct.of (by decide) (Nat.le_of_ble_eq_true rfl) ?_
  intro p e s m args below meth c ls hC hw hr hlocks hl
  have hx := hC.1
  have hb := hC.2.1
  have hl : lv_has ls 1 [(0, .ref (g.2.2 (1000 + i)))] := hl
  have hs := hC.2.2.2.2.2.2.2.2
  refine va_gets hx hb hs.2.1 hw.2 hC.2.2.2.1 (hC.2.2.2.2.1 _ (gi4 220 rfl rfl)) (fun _ h => h) dJ0_coder_7d493_0 ?_
  refine lv_if_eq (tgt := 13) hx hb dJ0_coder_7d493_3 (by decide) (fun hc => absurd hc (by decide)) (fun hc => ?_)
  refine lv_aload_n hx hb dJ0_coder_7d493_6 rfl (lv_at hl 0 rfl) ?_
  refine vk_getf hx hb (hs.1 i hi).2.1 hw.2 hC.2.2.2.1 (hC.2.2.2.2.1 _ (gi9 130 rfl rfl)) (fun _ h => h) dJ0_coder_7d493_7 ?_
  refine lv_goto (tgt := 14) hx hb dJ0_coder_7d493_10 (by decide) ?_
  exact rN hC hw hr hlocks rfl rfl rfl dJ0_coder_7d493_14
theorem c_J0_isLatin1_aae02 (l : Launch) (g : Gw) (i : Nat) (hi : i < 47) (μ : Mu) : Ct l g yJ0_isLatin1_aae02 cJ0_isLatin1_aae02 1 (some .boolean) 0 [.ref (g.2.2 (1000 + i))] μ (some (.int 1)) μ := by
  refine Ct.of (by decide) (Nat.le_of_ble_eq_true rfl) ?_
  intro p e s m args below meth c ls hC hw hr hlocks hl
  have hx := hC.1
  have hb := hC.2.1
  have hl : lv_has ls 1 [(0, .ref (g.2.2 (1000 + i)))] := hl
  have hs := hC.2.2.2.2.2.2.2.2
  refine va_gets hx hb hs.2.1 hw.2 hC.2.2.2.1 (hC.2.2.2.2.1 _ (gi4 220 rfl rfl)) (fun _ h => h) dJ0_isLatin1_aae02_0 ?_
  refine lv_if_eq (tgt := 17) hx hb dJ0_isLatin1_aae02_3 (by decide) (fun hc => absurd hc (by decide)) (fun hc => ?_)
  refine lv_aload_n hx hb dJ0_isLatin1_aae02_6 rfl (lv_at hl 0 rfl) ?_
  refine vk_getf hx hb (hs.1 i hi).2.1 hw.2 hC.2.2.2.1 (hC.2.2.2.2.1 _ (gi9 130 rfl rfl)) (fun _ h => h) dJ0_isLatin1_aae02_7 ?_
  refine lv_if_ne (tgt := 17) hx hb dJ0_isLatin1_aae02_10 (by decide) (fun hc => absurd rfl hc) (fun hc => ?_)
  refine lv_iconst (v := 1) hx hb dJ0_isLatin1_aae02_13 (by decide) ?_
  refine lv_goto (tgt := 18) hx hb dJ0_isLatin1_aae02_14 (by decide) ?_
  exact rN hC hw hr hlocks rfl rfl rfl dJ0_isLatin1_aae02_18
def J0_length_8abf5 (n : Nat) (v0 : Nat) (μ : Mu) : Option (Int32 × Mu) := kd v0 130 (some (nI (sL (v0 - 1000)), μ))
theorem c_J0_length_8abf5 (l : Launch) (g : Gw) (n : Nat) (v0 : Nat) (μ : Mu) (r : Int32 × Mu) (h : J0_length_8abf5 n v0 μ = some r) : Ct l g yJ0_length_8abf5 cJ0_length_8abf5 1 (some .int) 1 [.ref (g.2.2 v0)] μ (some (.int r.1)) r.2 := by
  rw [J0_length_8abf5] at h
  obtain ⟨hk, h⟩ := kd_some h
  obtain ⟨i, hi, rfl⟩ := sc1 hk
  obtain rfl := Option.some.inj h
  rw [Nat.add_sub_cancel_left]
  refine Ct.of (by decide) (Nat.le_of_ble_eq_true rfl) ?_
  intro p e s m args below meth c ls hC hw hr hlocks hl
  have hx := hC.1
  have hb := hC.2.1
  have hl : lv_has ls 1 [(0, .ref (g.2.2 (1000 + i)))] := hl
  have hs := hC.2.2.2.2.2.2.2.2
  refine lv_aload_n hx hb dJ0_length_8abf5_0 rfl (lv_at hl 0 rfl) ?_
  refine vk_getf hx hb (hs.1 i hi).2.2.1 hw.2 hC.2.2.2.1 (hC.2.2.2.2.1 _ (gi9 129 rfl rfl)) (fun _ h => h) dJ0_length_8abf5_1 ?_
  refine va_tlen (v := nI (sL i)) hx hb (hs.1 i hi).2.2.2.1 hw.2 rfl dJ0_length_8abf5_4 ?_
  refine lv_aload_n hx hb dJ0_length_8abf5_5 rfl (lv_at hl 0 rfl) ?_
  refine cVS (b := 1000 + i) (As := []) (rest := [.int (nI (sL i))]) (st1 := [.int 0, .int (nI (sL i))]) hC hw (c_J0_coder_7d493 l g i hi μ) ml_J0_335 im_J0_coder_7d493 se_J0_coder_7d493 hk rfl rfl hl.1 ⟨Nat.le_of_ble_eq_true rfl, Nat.le_of_ble_eq_true rfl⟩ (Nat.le_of_ble_eq_true rfl) ⟨Nat.zero_le _, Nat.zero_le _⟩ rfl dJ0_length_8abf5_6 (fun H locs hw => ?_)
  refine lv_ishr hx hb dJ0_length_8abf5_9 ?_
  exact rI hC hw hr hlocks (by rw [sh0]) rfl dJ0_length_8abf5_10
theorem c_J3_checkIndex_8e157_N (l : Launch) (g : Gw) (v0 v1 : Int32) (h0 : ¬ v0 < 0) (h1 : v0 < v1) (μ : Mu) : Ct l g yJ3_checkIndex_8e157 cJ3_checkIndex_8e157 3 (some .int) 0 [.int v0, .int v1, .null] μ (some (.int v0)) μ := by
  refine Ct.of (by decide) (Nat.le_of_ble_eq_true rfl) ?_
  intro p e s m args below meth c ls hC hw hr hlocks hl
  have hx := hC.1
  have hb := hC.2.1
  have hl : lv_has ls 3 [(0, .int v0), (1, .int v1), (2, .null)] := hl
  have hs := hC.2.2.2.2.2.2.2.2
  refine lv_iload_n hx hb dJ3_checkIndex_8e157_0 rfl (lv_at hl 0 rfl) ?_
  refine lv_if_lt (tgt := 9) hx hb dJ3_checkIndex_8e157_1 (by decide) (fun hc => absurd hc h0) (fun hc => ?_)
  refine lv_iload_n hx hb dJ3_checkIndex_8e157_4 rfl (lv_at hl 0 rfl) ?_
  refine lv_iload_n hx hb dJ3_checkIndex_8e157_5 rfl (lv_at hl 1 rfl) ?_
  refine lv_icmp_lt (tgt := 16) hx hb dJ3_checkIndex_8e157_6 (by decide) (fun hc => ?_) (fun hc => absurd h1 hc)
  refine lv_iload_n hx hb dJ3_checkIndex_8e157_16 rfl (lv_at hl 0 rfl) ?_
  exact rI hC hw hr hlocks rfl rfl dJ3_checkIndex_8e157_17
theorem c_J3_checkIndex_8e157_R (l : Launch) (g : Gw) (v0 v1 : Int32) (q : Nat) (h0 : ¬ v0 < 0) (h1 : v0 < v1) (μ : Mu) : Ct l g yJ3_checkIndex_8e157 cJ3_checkIndex_8e157 3 (some .int) 0 [.int v0, .int v1, .ref q] μ (some (.int v0)) μ := by
  refine Ct.of (by decide) (Nat.le_of_ble_eq_true rfl) ?_
  intro p e s m args below meth c ls hC hw hr hlocks hl
  have hx := hC.1
  have hb := hC.2.1
  have hl : lv_has ls 3 [(0, .int v0), (1, .int v1), (2, .ref q)] := hl
  have hs := hC.2.2.2.2.2.2.2.2
  refine lv_iload_n hx hb dJ3_checkIndex_8e157_0 rfl (lv_at hl 0 rfl) ?_
  refine lv_if_lt (tgt := 9) hx hb dJ3_checkIndex_8e157_1 (by decide) (fun hc => absurd hc h0) (fun hc => ?_)
  refine lv_iload_n hx hb dJ3_checkIndex_8e157_4 rfl (lv_at hl 0 rfl) ?_
  refine lv_iload_n hx hb dJ3_checkIndex_8e157_5 rfl (lv_at hl 1 rfl) ?_
  refine lv_icmp_lt (tgt := 16) hx hb dJ3_checkIndex_8e157_6 (by decide) (fun hc => ?_) (fun hc => absurd h1 hc)
  refine lv_iload_n hx hb dJ3_checkIndex_8e157_16 rfl (lv_at hl 0 rfl) ?_
  exact rI hC hw hr hlocks rfl rfl dJ3_checkIndex_8e157_17
theorem c_J0_checkIndex_df160 (l : Launch) (g : Gw) (v0 v1 : Int32) (h0 : ¬ v0 < 0) (h1 : v0 < v1) (μ : Mu) : Ct l g yJ0_checkIndex_df160 cJ0_checkIndex_df160 2 none 1 [.int v0, .int v1] μ none μ := by
  refine Ct.of (by decide) (Nat.le_of_ble_eq_true rfl) ?_
  intro p e s m args below meth c ls hC hw hr hlocks hl
  have hx := hC.1
  have hb := hC.2.1
  have hl : lv_has ls 2 [(0, .int v0), (1, .int v1)] := hl
  have hs := hC.2.2.2.2.2.2.2.2
  refine lv_iload_n hx hb dJ0_checkIndex_df160_0 rfl (lv_at hl 0 rfl) ?_
  refine lv_iload_n hx hb dJ0_checkIndex_df160_1 rfl (lv_at hl 1 rfl) ?_
  rcases hs.2.2.1 with hz | ⟨q, hz⟩
  · refine va_gets hx hb hz hw.2 hC.2.2.2.1 (hC.2.2.2.2.1 _ (gi4 236 rfl rfl)) (fun _ h => h) dJ0_checkIndex_df160_2 ?_
    refine cS (As := [.int v0, .int v1, .null]) (rest := []) (st1 := [.int v0]) hC hw (c_J3_checkIndex_8e157_N l g v0 v1 h0 h1 μ) ml_J0_1059 st_J3_checkIndex_8e157 rfl hl.1 ⟨Nat.le_of_ble_eq_true rfl, Nat.le_of_ble_eq_true rfl⟩ (Nat.le_of_ble_eq_true rfl) ⟨Nat.zero_le _, Nat.zero_le _⟩ rfl dJ0_checkIndex_df160_5 (fun H locs hw => ?_)
    refine lv_pop hx hb dJ0_checkIndex_df160_8 rfl ?_
    exact rV hC hw hr hlocks rfl rfl dJ0_checkIndex_df160_9
  · refine va_gets hx hb hz hw.2 hC.2.2.2.1 (hC.2.2.2.2.1 _ (gi4 236 rfl rfl)) (fun _ h => h) dJ0_checkIndex_df160_2 ?_
    refine cS (As := [.int v0, .int v1, .ref q]) (rest := []) (st1 := [.int v0]) hC hw (c_J3_checkIndex_8e157_R l g v0 v1 q h0 h1 μ) ml_J0_1059 st_J3_checkIndex_8e157 rfl hl.1 ⟨Nat.le_of_ble_eq_true rfl, Nat.le_of_ble_eq_true rfl⟩ (Nat.le_of_ble_eq_true rfl) ⟨Nat.zero_le _, Nat.zero_le _⟩ rfl dJ0_checkIndex_df160_5 (fun H locs hw => ?_)
    refine lv_pop hx hb dJ0_checkIndex_df160_8 rfl ?_
    exact rV hC hw hr hlocks rfl rfl dJ0_checkIndex_df160_9
theorem c_J1_charAt_3b067 (l : Launch) (g : Gw) (i : Nat) (hi : i < 47) (v1 : Int32) (h1 : vp_in v1 (sL i)) (μ : Mu) : Ct l g yJ1_charAt_3b067 cJ1_charAt_3b067 2 (some .char) 2 [.ref (g.2.2 (2000 + i)), .int v1] μ (some (.int (sB i v1.toNatClampNeg))) μ := by
  have hlt : v1.toNatClampNeg < sL i := Nat.not_le.mp fun q => h1 (Or.inr q)
  obtain ⟨j, hj, rfl⟩ := vp_in_of h1 (Nat.lt_trans (sL_le i hi) (by decide))
  have hj2 : j < 2 ^ 31 := Nat.lt_trans hj (Nat.lt_trans (sL_le i hi) (by decide))
  have hch := sB_chr i hi _ hlt
  refine Ct.of (by decide) (Nat.le_of_ble_eq_true rfl) ?_
  intro p e s m args below meth c ls hC hw hr hlocks hl
  have hx := hC.1
  have hb := hC.2.1
  have hl : lv_has ls 2 [(0, .ref (g.2.2 (2000 + i))), (1, .int (nI j))] := hl
  have hs := hC.2.2.2.2.2.2.2.2
  refine lv_iload_n hx hb dJ1_charAt_3b067_0 rfl (lv_at hl 1 rfl) ?_
  refine lv_aload_n hx hb dJ1_charAt_3b067_1 rfl (lv_at hl 0 rfl) ?_
  refine va_tlen (v := nI (sL i)) hx hb (hs.1 i hi).2.2.2.1 hw.2 rfl dJ1_charAt_3b067_2 ?_
  refine cS (As := [.int (nI j), .int (nI (sL i))]) (rest := []) (st1 := []) hC hw (c_J0_checkIndex_df160 l g (nI j) (nI (sL i)) (nI_pos hj2) (nI_lt hj (Nat.lt_trans (sL_le i hi) (by decide))) μ) ml_J1_9 st_J0_checkIndex_df160 rfl hl.1 ⟨Nat.le_of_ble_eq_true rfl, Nat.le_of_ble_eq_true rfl⟩ (Nat.le_of_ble_eq_true rfl) ⟨Nat.zero_le _, Nat.zero_le _⟩ rfl dJ1_charAt_3b067_3 (fun H locs hw => ?_)
  refine lv_aload_n hx hb dJ1_charAt_3b067_6 rfl (lv_at hl 0 rfl) ?_
  refine lv_iload_n hx hb dJ1_charAt_3b067_7 rfl (lv_at hl 1 rfl) ?_
  refine va_tb (v := .int (sB i (nI j).toNatClampNeg)) hx hb (hs.1 i hi).2.2.2.1 hw.2 h1 rfl dJ1_charAt_3b067_8 ?_
  refine lv_sipush (v := 255) hx hb dJ1_charAt_3b067_9 (by decide) ?_
  refine lv_iand hx hb dJ1_charAt_3b067_12 ?_
  refine lv_i2c (v := sB i (nI j).toNatClampNeg) hx hb dJ1_charAt_3b067_13 hch.1 ?_
  exact rN hC hw hr hlocks hch.2 rfl rfl dJ1_charAt_3b067_14
def J0_charAt_5068e (n : Nat) (v0 : Nat) (v1 : Int32) (μ : Mu) : Option (Int32 × Mu) := kd v0 130 (gd v1 (sL (v0 - 1000)) (some (sB (v0 - 1000) v1.toNatClampNeg, μ)))
theorem c_J0_charAt_5068e (l : Launch) (g : Gw) (n : Nat) (v0 : Nat) (v1 : Int32) (μ : Mu) (r : Int32 × Mu) (h : J0_charAt_5068e n v0 v1 μ = some r) : Ct l g yJ0_charAt_5068e cJ0_charAt_5068e 2 (some .char) 3 [.ref (g.2.2 v0), .int v1] μ (some (.int r.1)) r.2 := by
  rw [J0_charAt_5068e] at h
  obtain ⟨hk, h⟩ := kd_some h
  obtain ⟨i, hi, rfl⟩ := sc1 hk
  obtain ⟨h1, h⟩ := gd_some h
  obtain rfl := Option.some.inj h
  rw [Nat.add_sub_cancel_left] at h1 ⊢
  have hlt : v1.toNatClampNeg < sL i := Nat.not_le.mp fun q => h1 (Or.inr q)
  have hch := sB_chr i hi _ hlt
  refine Ct.of (by decide) (Nat.le_of_ble_eq_true rfl) ?_
  intro p e s m args below meth c ls hC hw hr hlocks hl
  have hx := hC.1
  have hb := hC.2.1
  have hl : lv_has ls 2 [(0, .ref (g.2.2 (1000 + i))), (1, .int v1)] := hl
  have hs := hC.2.2.2.2.2.2.2.2
  refine lv_aload_n hx hb dJ0_charAt_5068e_0 rfl (lv_at hl 0 rfl) ?_
  refine cVS (b := 1000 + i) (As := []) (rest := []) (st1 := [.int 1]) hC hw (c_J0_isLatin1_aae02 l g i hi μ) ml_J0_492 im_J0_isLatin1_aae02 se_J0_isLatin1_aae02 hk rfl rfl hl.1 ⟨Nat.le_of_ble_eq_true rfl, Nat.le_of_ble_eq_true rfl⟩ (Nat.le_of_ble_eq_true rfl) ⟨Nat.zero_le _, Nat.zero_le _⟩ rfl dJ0_charAt_5068e_1 (fun H locs hw => ?_)
  refine lv_if_eq (tgt := 16) hx hb dJ0_charAt_5068e_4 (by decide) (fun hc => absurd hc (by decide)) (fun hc => ?_)
  refine lv_aload_n hx hb dJ0_charAt_5068e_7 rfl (lv_at hl 0 rfl) ?_
  refine vk_getf hx hb (hs.1 i hi).2.2.1 hw.2 hC.2.2.2.1 (hC.2.2.2.2.1 _ (gi9 129 rfl rfl)) (fun _ h => h) dJ0_charAt_5068e_8 ?_
  refine lv_iload_n hx hb dJ0_charAt_5068e_11 rfl (lv_at hl 1 rfl) ?_
  refine cS (As := [.ref (g.2.2 (2000 + i)), .int v1]) (rest := []) (st1 := [.int (sB i v1.toNatClampNeg)]) hC hw (c_J1_charAt_3b067 l g i hi v1 h1 μ) ml_J0_495 st_J1_charAt_3b067 rfl hl.1 ⟨Nat.le_of_ble_eq_true rfl, Nat.le_of_ble_eq_true rfl⟩ (Nat.le_of_ble_eq_true rfl) ⟨Nat.zero_le _, Nat.zero_le _⟩ rfl dJ0_charAt_5068e_12 (fun H locs hw => ?_)
  exact rN hC hw hr hlocks hch.2 rfl rfl dJ0_charAt_5068e_15
