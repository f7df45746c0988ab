set_option maxRecDepth 100000 in
set_option maxHeartbeats 40000000 in
/-- the loop of the law, from its head: if the function that is read off it answers 1, the law comes to its end with true -/
theorem law_loop {p : Program} {e : Env} {s : State} {m : MethodId} {below : List Frame} {meth : Method} {c : Code} (l : Launch) (hst : l.stackTraces = false) {b L : Nat} {xs : Nat → Int32} (g : Gw) (n : Nat) (C0 : lw_At p s m meth c b L xs) (hC : Cx p s m #[Value.ref b] c cL_law 8 RL g (fun q => s.heap.size ≤ q)) (v4 : Int32) (μ μ9 : Mu) (h : lawF n L xs v4 μ = some (1, μ9)) (H : Heap) (locs : List Loc) (ls : Array Slot) (cells slots : Nat) (hc1 : cells + 513 ≤ 600000) (hc2 : slots + 6 * 513 ≤ 7000000) (hw : wd g μ s (fun q => s.heap.size ≤ q) H locs) (hl : lv_has ls 8 [(0, .ref b), (1, .ref (g.2.2 0)), (2, .ref (g.2.2 171)), (3, .ref (g.2.2 201)), (4, .int v4)]) : W p l e room_1 s m #[Value.ref b] below meth c H locs cells slots (lw_Z below #[Value.ref b] s) (F0 m 23 ls []) := by
  obtain ⟨hx, hb, hr, hml, hown, hts, hX, hbl, hlocks, hgv⟩ := id C0
  have hbA : ¬ (fun q : Nat => s.heap.size ≤ q) b := Nat.not_le.mpr hbl
  have B23 : ∀ (k : Nat), ∀ (v4 : Int32) (μ : Mu) (H : Heap) (locs : List Loc) (ls : Array Slot) (cells slots : Nat), cells + k ≤ 600000 → slots + 6 * k ≤ 7000000 → wd g μ s (fun q => s.heap.size ≤ q) H locs → lv_has ls 8 [(0, .ref b), (1, .ref (g.2.2 0)), (2, .ref (g.2.2 171)), (3, .ref (g.2.2 201)), (4, .int v4)] → lpF (fun _ _ => none) (law_23b n L xs) k v4 μ = some (1, μ9) → W p l e room_1 s m #[Value.ref b] below meth c H locs cells slots (lw_Z below #[Value.ref b] s) (F0 m 23 ls []) := by
    intro k
    induction k with
    | zero =>
      intro v4 μ H locs ls cells slots hc1 hc2 hw hl h
      cases h
    | succ k ih23 =>
      rw [lpF_s]
      generalize lpF (fun _ _ => none) (law_23b n L xs) k = k23 at ih23 ⊢
      intro v4 μ H locs ls cells slots hc1 hc2 hw hl h
      have B2193 : ∀ (v4 : Int32) (μ : Mu) (H : Heap) (locs : List Loc) (ls : Array Slot) (cells slots : Nat), cells + k ≤ 600000 → slots + 6 * k ≤ 7000000 → wd g μ s (fun q => s.heap.size ≤ q) H locs → lv_has ls 8 [(0, .ref b), (1, .ref (g.2.2 0)), (2, .ref (g.2.2 171)), (3, .ref (g.2.2 201)), (4, .int v4)] → law_2193 n L xs k23 v4 μ = some (1, μ9) → W p l e room_1 s m #[Value.ref b] below meth c H locs cells slots (lw_Z below #[Value.ref b] s) (F0 m 2193 ls []) := by
        intro v4 μ H locs ls cells slots hc1 hc2 hw hl h
        rw [law_2193] at h
        refine lv_iinc (v := (v4 + (6 : Int32))) (lv' := [(4, .int (v4 + (6 : Int32))), (0, .ref b), (1, .ref (g.2.2 0)), (2, .ref (g.2.2 171)), (3, .ref (g.2.2 201))]) hx hb dL_law_2193 hl (k := 4) rfl rfl (by decide) rfl (fun ls hl => ?_)
        refine lv_goto (tgt := 23) hx hb dL_law_2196 (by decide) ?_
        exact ih23 (v4 + (6 : Int32)) μ _ _ _ _ _ (by omega) (by omega) hw (lv_sub hl [1, 2, 3, 4, 0] rfl) h
      have B224 : ∀ (v4 : Int32) (μ : Mu) (H : Heap) (locs : List Loc) (ls : Array Slot) (cells slots : Nat), cells + (k + 1) ≤ 600000 → slots + 6 * (k + 1) ≤ 7000000 → wd g μ s (fun q => s.heap.size ≤ q) H locs → lv_has ls 8 [(0, .ref b), (1, .ref (g.2.2 0)), (2, .ref (g.2.2 171)), (3, .ref (g.2.2 201)), (4, .int v4)] → law_224 n L xs k23 v4 μ = some (1, μ9) → W p l e room_1 s m #[Value.ref b] below meth c H locs cells slots (lw_Z below #[Value.ref b] s) (F0 m 224 ls []) := by
        intro v4 μ H locs ls cells slots hc1 hc2 hw hl h
        rw [law_224] at h
        refine lv_aload_n hx hb dL_law_224 rfl (lv_at hl 1 rfl) ?_
        refine lv_aload_n hx hb dL_law_225 rfl (lv_at hl 0 rfl) ?_
        refine lv_iload hx hb dL_law_226 (lv_at hl 4 rfl) ?_
        refine lv_iconst (v := (1 : Int32)) hx hb dL_law_228 (by decide) ?_
        refine lv_iadd hx hb dL_law_229 ?_
        obtain ⟨hi230, h⟩ := gd_some h
        refine va_sld hx hb hX hbl hbA hw.2 hi230 dL_law_230 ?_
        refine lv_aload_n hx hb dL_law_231 rfl (lv_at hl 0 rfl) ?_
        refine lv_iload hx hb dL_law_232 (lv_at hl 4 rfl) ?_
        refine lv_iconst (v := (2 : Int32)) hx hb dL_law_234 (by decide) ?_
        refine lv_iadd hx hb dL_law_235 ?_
        obtain ⟨hi236, h⟩ := gd_some h
        refine va_sld hx hb hX hbl hbA hw.2 hi236 dL_law_236 ?_
        refine lv_aload_n hx hb dL_law_237 rfl (lv_at hl 0 rfl) ?_
        refine lv_iload hx hb dL_law_238 (lv_at hl 4 rfl) ?_
        refine lv_iconst (v := (3 : Int32)) hx hb dL_law_240 (by decide) ?_
        refine lv_iadd hx hb dL_law_241 ?_
        obtain ⟨hi242, h⟩ := gd_some h
        refine va_sld hx hb hX hbl hbA hw.2 hi242 dL_law_242 ?_
        refine lv_aload_n hx hb dL_law_243 rfl (lv_at hl 0 rfl) ?_
        refine lv_iload hx hb dL_law_244 (lv_at hl 4 rfl) ?_
        refine lv_iconst (v := (4 : Int32)) hx hb dL_law_246 (by decide) ?_
        refine lv_iadd hx hb dL_law_247 ?_
        obtain ⟨hi248, h⟩ := gd_some h
        refine va_sld hx hb hX hbl hbA hw.2 hi248 dL_law_248 ?_
        refine lv_aload_n hx hb dL_law_249 rfl (lv_at hl 0 rfl) ?_
        refine lv_iload hx hb dL_law_250 (lv_at hl 4 rfl) ?_
        refine lv_iconst (v := (5 : Int32)) hx hb dL_law_252 (by decide) ?_
        refine lv_iadd hx hb dL_law_253 ?_
        obtain ⟨hi254, h⟩ := gd_some h
        refine va_sld hx hb hX hbl hbA hw.2 hi254 dL_law_254 ?_
        obtain ⟨r255, hr255, h⟩ := bnd h
        refine cV (b := 0) (As := [.int (xs (v4 + (1 : Int32)).toNatClampNeg), .int (xs (v4 + (2 : Int32)).toNatClampNeg), .int (xs (v4 + (3 : Int32)).toNatClampNeg), .int (xs (v4 + (4 : Int32)).toNatClampNeg), .int (xs (v4 + (5 : Int32)).toNatClampNeg)]) (rest := []) (st1 := [.int r255.1]) hC hw (c_X11_feed l g n (xs (v4 + (1 : Int32)).toNatClampNeg) (xs (v4 + (2 : Int32)).toNatClampNeg) (xs (v4 + (3 : Int32)).toNatClampNeg) (xs (v4 + (4 : Int32)).toNatClampNeg) (xs (v4 + (5 : Int32)).toNatClampNeg) μ r255 hr255) ml_L_100 im_X11_feed se_X11_feed ok0 (CN := RX11) (T := TX11) (NF := 12) rfl rfl (by decide) rfl hl.1 ⟨Nat.le_of_ble_eq_true rfl, Nat.le_of_ble_eq_true rfl⟩ (Nat.le_of_ble_eq_true rfl) ⟨by show _ ≤ 601024; omega, by show _ ≤ 7293034; omega⟩ rfl dL_law_255 (fun H locs hw => ?_)
        refine lv_aload_n hx hb dL_law_258 rfl (lv_at hl 2 rfl) ?_
        refine lv_aload_n hx hb dL_law_259 rfl (lv_at hl 0 rfl) ?_
        refine lv_iload hx hb dL_law_260 (lv_at hl 4 rfl) ?_
        refine lv_iconst (v := (1 : Int32)) hx hb dL_law_262 (by decide) ?_
        refine lv_iadd hx hb dL_law_263 ?_
        refine va_sld hx hb hX hbl hbA hw.2 hi230 dL_law_264 ?_
        refine lv_aload_n hx hb dL_law_265 rfl (lv_at hl 0 rfl) ?_
        refine lv_iload hx hb dL_law_266 (lv_at hl 4 rfl) ?_
        refine lv_iconst (v := (2 : Int32)) hx hb dL_law_268 (by decide) ?_
        refine lv_iadd hx hb dL_law_269 ?_
        refine va_sld hx hb hX hbl hbA hw.2 hi236 dL_law_270 ?_
        refine lv_aload_n hx hb dL_law_271 rfl (lv_at hl 0 rfl) ?_
        refine lv_iload hx hb dL_law_272 (lv_at hl 4 rfl) ?_
        refine lv_iconst (v := (3 : Int32)) hx hb dL_law_274 (by decide) ?_
        refine lv_iadd hx hb dL_law_275 ?_
        refine va_sld hx hb hX hbl hbA hw.2 hi242 dL_law_276 ?_
        refine lv_aload_n hx hb dL_law_277 rfl (lv_at hl 0 rfl) ?_
        refine lv_iload hx hb dL_law_278 (lv_at hl 4 rfl) ?_
        refine lv_iconst (v := (4 : Int32)) hx hb dL_law_280 (by decide) ?_
        refine lv_iadd hx hb dL_law_281 ?_
        refine va_sld hx hb hX hbl hbA hw.2 hi248 dL_law_282 ?_
        refine lv_aload_n hx hb dL_law_283 rfl (lv_at hl 0 rfl) ?_
        refine lv_iload hx hb dL_law_284 (lv_at hl 4 rfl) ?_
        refine lv_iconst (v := (5 : Int32)) hx hb dL_law_286 (by decide) ?_
        refine lv_iadd hx hb dL_law_287 ?_
        refine va_sld hx hb hX hbl hbA hw.2 hi254 dL_law_288 ?_
        obtain ⟨r289, hr289, h⟩ := bnd h
        refine cV (b := 171) (As := [.int (xs (v4 + (1 : Int32)).toNatClampNeg), .int (xs (v4 + (2 : Int32)).toNatClampNeg), .int (xs (v4 + (3 : Int32)).toNatClampNeg), .int (xs (v4 + (4 : Int32)).toNatClampNeg), .int (xs (v4 + (5 : Int32)).toNatClampNeg)]) (rest := [.int r255.1]) (st1 := [.int r289.1, .int r255.1]) hC hw (c_X12_feed l g n (xs (v4 + (1 : Int32)).toNatClampNeg) (xs (v4 + (2 : Int32)).toNatClampNeg) (xs (v4 + (3 : Int32)).toNatClampNeg) (xs (v4 + (4 : Int32)).toNatClampNeg) (xs (v4 + (5 : Int32)).toNatClampNeg) r255.2 r289 hr289) ml_L_104 im_X12_feed se_X12_feed ok171 (CN := RX12) (T := TX12) (NF := 54) rfl rfl (by decide) rfl hl.1 ⟨Nat.le_of_ble_eq_true rfl, Nat.le_of_ble_eq_true rfl⟩ (Nat.le_of_ble_eq_true rfl) ⟨by show _ ≤ 601024; omega, by show _ ≤ 7293034; omega⟩ rfl dL_law_289 (fun H locs hw => ?_)
        refine lv_icmp_eq (tgt := 2193) hx hb dL_law_292 (by decide) (fun hc => ?_) (fun hc => ?_)
        · rw [if_pos hc] at h
          exact B2193 v4 r289.2 _ _ _ _ _ (by omega) (by omega) hw (lv_sub hl [0, 1, 2, 3, 4] rfl) h
        · rw [if_neg hc] at h
          refine lv_iconst (v := (0 : Int32)) hx hb dL_law_295 (by decide) ?_
          exact absurd (congrArg Prod.fst (Option.some.inj h)) (show ¬ (0 : Int32) = 1 by decide)
      have B350 : ∀ (v4 : Int32) (μ : Mu) (H : Heap) (locs : List Loc) (ls : Array Slot) (cells slots : Nat), cells + k ≤ 600000 → slots + 6 * k ≤ 7000000 → wd g μ s (fun q => s.heap.size ≤ q) H locs → lv_has ls 8 [(0, .ref b), (1, .ref (g.2.2 0)), (2, .ref (g.2.2 171)), (3, .ref (g.2.2 201)), (4, .int v4)] → law_350 n L xs k23 v4 μ = some (1, μ9) → W p l e room_1 s m #[Value.ref b] below meth c H locs cells slots (lw_Z below #[Value.ref b] s) (F0 m 350 ls []) := by
        intro v4 μ H locs ls cells slots hc1 hc2 hw hl h
        rw [law_350] at h
        refine lv_goto (tgt := 2193) hx hb dL_law_350 (by decide) ?_
        exact B2193 v4 μ _ _ _ _ _ (by omega) (by omega) hw (lv_sub hl [0, 1, 2, 3, 4] rfl) h
      have B297 : ∀ (v4 : Int32) (μ : Mu) (H : Heap) (locs : List Loc) (ls : Array Slot) (cells slots : Nat), cells + (k + 1) ≤ 600000 → slots + 6 * (k + 1) ≤ 7000000 → wd g μ s (fun q => s.heap.size ≤ q) H locs → lv_has ls 8 [(0, .ref b), (1, .ref (g.2.2 0)), (2, .ref (g.2.2 171)), (3, .ref (g.2.2 201)), (4, .int v4)] → law_297 n L xs k23 v4 μ = some (1, μ9) → W p l e room_1 s m #[Value.ref b] below meth c H locs cells slots (lw_Z below #[Value.ref b] s) (F0 m 297 ls []) := by
        intro v4 μ H locs ls cells slots hc1 hc2 hw hl h
        rw [law_297] at h
        refine lv_aload_n hx hb dL_law_297 rfl (lv_at hl 1 rfl) ?_
        refine lv_aload_n hx hb dL_law_298 rfl (lv_at hl 0 rfl) ?_
        refine lv_iload hx hb dL_law_299 (lv_at hl 4 rfl) ?_
        refine lv_iconst (v := (1 : Int32)) hx hb dL_law_301 (by decide) ?_
        refine lv_iadd hx hb dL_law_302 ?_
        obtain ⟨hi303, h⟩ := gd_some h
        refine va_sld hx hb hX hbl hbA hw.2 hi303 dL_law_303 ?_
        refine lv_aload_n hx hb dL_law_304 rfl (lv_at hl 3 rfl) ?_
        obtain ⟨r305, hr305, h⟩ := bnd h
        refine cSL (As := [.ref (g.2.2 0), .int (xs (v4 + (1 : Int32)).toNatClampNeg), .ref (g.2.2 201)]) (rest := []) (st1 := [.int r305.1]) hC hw (c_L_board l hst g n (xs (v4 + (1 : Int32)).toNatClampNeg) μ r305 hr305) mw_L_board rfl hl.1 ⟨Nat.le_of_ble_eq_true rfl, Nat.le_of_ble_eq_true rfl⟩ (Nat.le_of_ble_eq_true rfl) ⟨by show _ ≤ 601024; omega, by show _ ≤ 7293034; omega⟩ rfl dL_law_305 (fun H locs hw => ?_)
        refine lv_istore (lv' := [(5, .int r305.1), (0, .ref b), (1, .ref (g.2.2 0)), (2, .ref (g.2.2 171)), (3, .ref (g.2.2 201)), (4, .int v4)]) hx hb dL_law_308 hl (by decide) rfl (fun ls hl => ?_)
        refine lv_aload_n hx hb dL_law_310 rfl (lv_at hl 3 rfl) ?_
        refine lv_aload_n hx hb dL_law_311 rfl (lv_at hl 1 rfl) ?_
        refine lv_iload hx hb dL_law_312 (lv_at hl 5 rfl) ?_
        refine lv_iconst (v := (1 : Int32)) hx hb dL_law_314 (by decide) ?_
        refine lv_iadd hx hb dL_law_315 ?_
        refine va_sld hx hb hX hbl hbA hw.2 hi303 dL_law_316 ?_
        obtain ⟨r317, hr317, h⟩ := bnd h
        refine cV (b := 171) (As := [.int (xs (v4 + (1 : Int32)).toNatClampNeg)]) (rest := []) (st1 := [.int r317.1]) hC hw (c_X12_board l g n (xs (v4 + (1 : Int32)).toNatClampNeg) r305.2 r317 hr317) ml_L_110 im_X12_board se_X12_board ok171 (CN := RX12) (T := TX12) (NF := 54) rfl rfl (by decide) rfl hl.1 ⟨Nat.le_of_ble_eq_true rfl, Nat.le_of_ble_eq_true rfl⟩ (Nat.le_of_ble_eq_true rfl) ⟨by show _ ≤ 601024; omega, by show _ ≤ 7293034; omega⟩ rfl dL_law_317 (fun H locs hw => ?_)
        refine lv_istore (lv' := [(6, .int r317.1), (5, .int r305.1), (0, .ref b), (1, .ref (g.2.2 0)), (2, .ref (g.2.2 171)), (3, .ref (g.2.2 201)), (4, .int v4)]) hx hb dL_law_320 hl (by decide) rfl (fun ls hl => ?_)
        refine lv_aload_n hx hb dL_law_322 rfl (lv_at hl 4 rfl) ?_
        obtain ⟨r323, hr323, h⟩ := bnd h
        refine cV (b := 171) (As := []) (rest := []) (st1 := [.int r323.1]) hC hw (c_X12_thrown l g n r317.2 r323 hr323) ml_L_111 im_X12_thrown se_X12_thrown ok171 (CN := RX12) (T := TX12) (NF := 54) rfl rfl (by decide) rfl hl.1 ⟨Nat.le_of_ble_eq_true rfl, Nat.le_of_ble_eq_true rfl⟩ (Nat.le_of_ble_eq_true rfl) ⟨by show _ ≤ 601024; omega, by show _ ≤ 7293034; omega⟩ rfl dL_law_323 (fun H locs hw => ?_)
        refine lv_iload hx hb dL_law_326 (lv_at hl 1 rfl) ?_
        refine lv_icmp_eq (tgt := 333) hx hb dL_law_328 (by decide) (fun hc => ?_) (fun hc => ?_)
        · rw [if_pos hc] at h
          refine lv_iload hx hb dL_law_333 (lv_at hl 1 rfl) ?_
          refine lv_if_ne (tgt := 350) hx hb dL_law_335 (by decide) (fun hc => ?_) (fun hc => ?_)
          · rw [if_neg hc] at h
            exact B350 v4 r323.2 _ _ _ _ _ (by omega) (by omega) hw (lv_sub hl [2, 3, 4, 5, 6] rfl) h
          · rw [if_pos hc] at h
            refine lv_aload_n hx hb dL_law_338 rfl (lv_at hl 5 rfl) ?_
            refine lv_iconst (v := (0 : Int32)) hx hb dL_law_339 (by decide) ?_
            refine lJ (j := 0) hC hw ok201 on201 (vin (by decide)) (by decide) dL_law_340 ?_
            refine lv_iload hx hb dL_law_341 (lv_at hl 0 rfl) ?_
            refine lv_i2l hx hb dL_law_343 rfl ?_
            refine W.lcmp hx hb dL_law_344 ?_
            refine lv_if_eq (tgt := 350) hx hb dL_law_345 (by decide) (fun hc => ?_) (fun hc => ?_)
            · rw [if_pos hc] at h
              exact B350 v4 r323.2 _ _ _ _ _ (by omega) (by omega) hw (lv_sub hl [2, 3, 4, 5, 6] rfl) h
            · rw [if_neg hc] at h
              refine lv_iconst (v := (0 : Int32)) hx hb dL_law_348 (by decide) ?_
              exact absurd (congrArg Prod.fst (Option.some.inj h)) (show ¬ (0 : Int32) = 1 by decide)
        · rw [if_neg hc] at h
          refine lv_iconst (v := (0 : Int32)) hx hb dL_law_331 (by decide) ?_
          exact absurd (congrArg Prod.fst (Option.some.inj h)) (show ¬ (0 : Int32) = 1 by decide)
      have B353 : ∀ (v4 : Int32) (μ : Mu) (H : Heap) (locs : List Loc) (ls : Array Slot) (cells slots : Nat), cells + (k + 1) ≤ 600000 → slots + 6 * (k + 1) ≤ 7000000 → wd g μ s (fun q => s.heap.size ≤ q) H locs → lv_has ls 8 [(0, .ref b), (1, .ref (g.2.2 0)), (2, .ref (g.2.2 171)), (3, .ref (g.2.2 201)), (4, .int v4)] → law_353 n L xs k23 v4 μ = some (1, μ9) → W p l e room_1 s m #[Value.ref b] below meth c H locs cells slots (lw_Z below #[Value.ref b] s) (F0 m 353 ls []) := by
        intro v4 μ H locs ls cells slots hc1 hc2 hw hl h
        rw [law_353] at h
        refine lv_aload_n hx hb dL_law_353 rfl (lv_at hl 1 rfl) ?_
        refine lv_aload_n hx hb dL_law_354 rfl (lv_at hl 0 rfl) ?_
        refine lv_iload hx hb dL_law_355 (lv_at hl 4 rfl) ?_
        refine lv_iconst (v := (1 : Int32)) hx hb dL_law_357 (by decide) ?_
        refine lv_iadd hx hb dL_law_358 ?_
        obtain ⟨hi359, h⟩ := gd_some h
        refine va_sld hx hb hX hbl hbA hw.2 hi359 dL_law_359 ?_
        obtain ⟨r360, hr360, h⟩ := bnd h
        refine cV (b := 0) (As := [.int (xs (v4 + (1 : Int32)).toNatClampNeg)]) (rest := []) (st1 := [.int r360.1]) hC hw (c_X11_fault l g n (xs (v4 + (1 : Int32)).toNatClampNeg) μ r360 hr360) ml_L_115 im_X11_fault se_X11_fault ok0 (CN := RX11) (T := TX11) (NF := 12) rfl rfl (by decide) rfl hl.1 ⟨Nat.le_of_ble_eq_true rfl, Nat.le_of_ble_eq_true rfl⟩ (Nat.le_of_ble_eq_true rfl) ⟨by show _ ≤ 601024; omega, by show _ ≤ 7293034; omega⟩ rfl dL_law_360 (fun H locs hw => ?_)
        refine lv_aload_n hx hb dL_law_363 rfl (lv_at hl 2 rfl) ?_
        refine lv_aload_n hx hb dL_law_364 rfl (lv_at hl 0 rfl) ?_
        refine lv_iload hx hb dL_law_365 (lv_at hl 4 rfl) ?_
        refine lv_iconst (v := (1 : Int32)) hx hb dL_law_367 (by decide) ?_
        refine lv_iadd hx hb dL_law_368 ?_
        refine va_sld hx hb hX hbl hbA hw.2 hi359 dL_law_369 ?_
        obtain ⟨r370, hr370, h⟩ := bnd h
        refine cV (b := 171) (As := [.int (xs (v4 + (1 : Int32)).toNatClampNeg)]) (rest := [.int r360.1]) (st1 := [.int r370.1, .int r360.1]) hC hw (c_X12_fault l g n (xs (v4 + (1 : Int32)).toNatClampNeg) r360.2 r370 hr370) ml_L_118 im_X12_fault se_X12_fault ok171 (CN := RX12) (T := TX12) (NF := 54) rfl rfl (by decide) rfl hl.1 ⟨Nat.le_of_ble_eq_true rfl, Nat.le_of_ble_eq_true rfl⟩ (Nat.le_of_ble_eq_true rfl) ⟨by show _ ≤ 601024; omega, by show _ ≤ 7293034; omega⟩ rfl dL_law_370 (fun H locs hw => ?_)
        refine lv_icmp_eq (tgt := 2193) hx hb dL_law_373 (by decide) (fun hc => ?_) (fun hc => ?_)
        · rw [if_pos hc] at h
          exact B2193 v4 r370.2 _ _ _ _ _ (by omega) (by omega) hw (lv_sub hl [0, 1, 2, 3, 4] rfl) h
        · rw [if_neg hc] at h
          refine lv_iconst (v := (0 : Int32)) hx hb dL_law_376 (by decide) ?_
          exact absurd (congrArg Prod.fst (Option.some.inj h)) (show ¬ (0 : Int32) = 1 by decide)
      have B431 : ∀ (v4 : Int32) (μ : Mu) (H : Heap) (locs : List Loc) (ls : Array Slot) (cells slots : Nat), cells + k ≤ 600000 → slots + 6 * k ≤ 7000000 → wd g μ s (fun q => s.heap.size ≤ q) H locs → lv_has ls 8 [(0, .ref b), (1, .ref (g.2.2 0)), (2, .ref (g.2.2 171)), (3, .ref (g.2.2 201)), (4, .int v4)] → law_431 n L xs k23 v4 μ = some (1, μ9) → W p l e room_1 s m #[Value.ref b] below meth c H locs cells slots (lw_Z below #[Value.ref b] s) (F0 m 431 ls []) := by
        intro v4 μ H locs ls cells slots hc1 hc2 hw hl h
        rw [law_431] at h
        refine lv_goto (tgt := 2193) hx hb dL_law_431 (by decide) ?_
        exact B2193 v4 μ _ _ _ _ _ (by omega) (by omega) hw (lv_sub hl [0, 1, 2, 3, 4] rfl) h
      have B378 : ∀ (v4 : Int32) (μ : Mu) (H : Heap) (locs : List Loc) (ls : Array Slot) (cells slots : Nat), cells + (k + 1) ≤ 600000 → slots + 6 * (k + 1) ≤ 7000000 → wd g μ s (fun q => s.heap.size ≤ q) H locs → lv_has ls 8 [(0, .ref b), (1, .ref (g.2.2 0)), (2, .ref (g.2.2 171)), (3, .ref (g.2.2 201)), (4, .int v4)] → law_378 n L xs k23 v4 μ = some (1, μ9) → W p l e room_1 s m #[Value.ref b] below meth c H locs cells slots (lw_Z below #[Value.ref b] s) (F0 m 378 ls []) := by
        intro v4 μ H locs ls cells slots hc1 hc2 hw hl h
        rw [law_378] at h
        refine lv_aload_n hx hb dL_law_378 rfl (lv_at hl 1 rfl) ?_
        refine lv_aload_n hx hb dL_law_379 rfl (lv_at hl 0 rfl) ?_
        refine lv_iload hx hb dL_law_380 (lv_at hl 4 rfl) ?_
        refine lv_iconst (v := (1 : Int32)) hx hb dL_law_382 (by decide) ?_
        refine lv_iadd hx hb dL_law_383 ?_
        obtain ⟨hi384, h⟩ := gd_some h
        refine va_sld hx hb hX hbl hbA hw.2 hi384 dL_law_384 ?_
        refine lv_aload_n hx hb dL_law_385 rfl (lv_at hl 3 rfl) ?_
        obtain ⟨r386, hr386, h⟩ := bnd h
        refine cSL (As := [.ref (g.2.2 0), .int (xs (v4 + (1 : Int32)).toNatClampNeg), .ref (g.2.2 201)]) (rest := []) (st1 := [.int r386.1]) hC hw (c_L_pit l hst g n (xs (v4 + (1 : Int32)).toNatClampNeg) μ r386 hr386) mw_L_pit rfl hl.1 ⟨Nat.le_of_ble_eq_true rfl, Nat.le_of_ble_eq_true rfl⟩ (Nat.le_of_ble_eq_true rfl) ⟨by show _ ≤ 601024; omega, by show _ ≤ 7293034; omega⟩ rfl dL_law_386 (fun H locs hw => ?_)
        refine lv_istore (lv' := [(5, .int r386.1), (0, .ref b), (1, .ref (g.2.2 0)), (2, .ref (g.2.2 171)), (3, .ref (g.2.2 201)), (4, .int v4)]) hx hb dL_law_389 hl (by decide) rfl (fun ls hl => ?_)
        refine lv_aload_n hx hb dL_law_391 rfl (lv_at hl 3 rfl) ?_
        refine lv_aload_n hx hb dL_law_392 rfl (lv_at hl 1 rfl) ?_
        refine lv_iload hx hb dL_law_393 (lv_at hl 5 rfl) ?_
        refine lv_iconst (v := (1 : Int32)) hx hb dL_law_395 (by decide) ?_
        refine lv_iadd hx hb dL_law_396 ?_
        refine va_sld hx hb hX hbl hbA hw.2 hi384 dL_law_397 ?_
        obtain ⟨r398, hr398, h⟩ := bnd h
        refine cV (b := 171) (As := [.int (xs (v4 + (1 : Int32)).toNatClampNeg)]) (rest := []) (st1 := [.int r398.1]) hC hw (c_X12_pit l g n (xs (v4 + (1 : Int32)).toNatClampNeg) r386.2 r398 hr398) ml_L_121 im_X12_pit se_X12_pit ok171 (CN := RX12) (T := TX12) (NF := 54) rfl rfl (by decide) rfl hl.1 ⟨Nat.le_of_ble_eq_true rfl, Nat.le_of_ble_eq_true rfl⟩ (Nat.le_of_ble_eq_true rfl) ⟨by show _ ≤ 601024; omega, by show _ ≤ 7293034; omega⟩ rfl dL_law_398 (fun H locs hw => ?_)
        refine lv_istore (lv' := [(6, .int r398.1), (5, .int r386.1), (0, .ref b), (1, .ref (g.2.2 0)), (2, .ref (g.2.2 171)), (3, .ref (g.2.2 201)), (4, .int v4)]) hx hb dL_law_401 hl (by decide) rfl (fun ls hl => ?_)
        refine lv_aload_n hx hb dL_law_403 rfl (lv_at hl 4 rfl) ?_
        obtain ⟨r404, hr404, h⟩ := bnd h
        refine cV (b := 171) (As := []) (rest := []) (st1 := [.int r404.1]) hC hw (c_X12_thrown l g n r398.2 r404 hr404) ml_L_111 im_X12_thrown se_X12_thrown ok171 (CN := RX12) (T := TX12) (NF := 54) rfl rfl (by decide) rfl hl.1 ⟨Nat.le_of_ble_eq_true rfl, Nat.le_of_ble_eq_true rfl⟩ (Nat.le_of_ble_eq_true rfl) ⟨by show _ ≤ 601024; omega, by show _ ≤ 7293034; omega⟩ rfl dL_law_404 (fun H locs hw => ?_)
        refine lv_iload hx hb dL_law_407 (lv_at hl 1 rfl) ?_
        refine lv_icmp_eq (tgt := 414) hx hb dL_law_409 (by decide) (fun hc => ?_) (fun hc => ?_)
        · rw [if_pos hc] at h
          refine lv_iload hx hb dL_law_414 (lv_at hl 1 rfl) ?_
          refine lv_if_ne (tgt := 431) hx hb dL_law_416 (by decide) (fun hc => ?_) (fun hc => ?_)
          · rw [if_neg hc] at h
            exact B431 v4 r404.2 _ _ _ _ _ (by omega) (by omega) hw (lv_sub hl [2, 3, 4, 5, 6] rfl) h
          · rw [if_pos hc] at h
            refine lv_aload_n hx hb dL_law_419 rfl (lv_at hl 5 rfl) ?_
            refine lv_iconst (v := (0 : Int32)) hx hb dL_law_420 (by decide) ?_
            refine lJ (j := 0) hC hw ok201 on201 (vin (by decide)) (by decide) dL_law_421 ?_
            refine lv_iload hx hb dL_law_422 (lv_at hl 0 rfl) ?_
            refine lv_i2l hx hb dL_law_424 rfl ?_
            refine W.lcmp hx hb dL_law_425 ?_
            refine lv_if_eq (tgt := 431) hx hb dL_law_426 (by decide) (fun hc => ?_) (fun hc => ?_)
            · rw [if_pos hc] at h
              exact B431 v4 r404.2 _ _ _ _ _ (by omega) (by omega) hw (lv_sub hl [2, 3, 4, 5, 6] rfl) h
            · rw [if_neg hc] at h
              refine lv_iconst (v := (0 : Int32)) hx hb dL_law_429 (by decide) ?_
              exact absurd (congrArg Prod.fst (Option.some.inj h)) (show ¬ (0 : Int32) = 1 by decide)
        · rw [if_neg hc] at h
          refine lv_iconst (v := (0 : Int32)) hx hb dL_law_412 (by decide) ?_
          exact absurd (congrArg Prod.fst (Option.some.inj h)) (show ¬ (0 : Int32) = 1 by decide)
      have B487 : ∀ (v4 : Int32) (μ : Mu) (H : Heap) (locs : List Loc) (ls : Array Slot) (cells slots : Nat), cells + k ≤ 600000 → slots + 6 * k ≤ 7000000 → wd g μ s (fun q => s.heap.size ≤ q) H locs → lv_has ls 8 [(0, .ref b), (1, .ref (g.2.2 0)), (2, .ref (g.2.2 171)), (3, .ref (g.2.2 201)), (4, .int v4)] → law_487 n L xs k23 v4 μ = some (1, μ9) → W p l e room_1 s m #[Value.ref b] below meth c H locs cells slots (lw_Z below #[Value.ref b] s) (F0 m 487 ls []) := by
        intro v4 μ H locs ls cells slots hc1 hc2 hw hl h
        rw [law_487] at h
        refine lv_goto (tgt := 2193) hx hb dL_law_487 (by decide) ?_
        exact B2193 v4 μ _ _ _ _ _ (by omega) (by omega) hw (lv_sub hl [0, 1, 2, 3, 4] rfl) h
      have B434 : ∀ (v4 : Int32) (μ : Mu) (H : Heap) (locs : List Loc) (ls : Array Slot) (cells slots : Nat), cells + (k + 1) ≤ 600000 → slots + 6 * (k + 1) ≤ 7000000 → wd g μ s (fun q => s.heap.size ≤ q) H locs → lv_has ls 8 [(0, .ref b), (1, .ref (g.2.2 0)), (2, .ref (g.2.2 171)), (3, .ref (g.2.2 201)), (4, .int v4)] → law_434 n L xs k23 v4 μ = some (1, μ9) → W p l e room_1 s m #[Value.ref b] below meth c H locs cells slots (lw_Z below #[Value.ref b] s) (F0 m 434 ls []) := by
        intro v4 μ H locs ls cells slots hc1 hc2 hw hl h
        rw [law_434] at h
        refine lv_aload_n hx hb dL_law_434 rfl (lv_at hl 1 rfl) ?_
        refine lv_aload_n hx hb dL_law_435 rfl (lv_at hl 0 rfl) ?_
        refine lv_iload hx hb dL_law_436 (lv_at hl 4 rfl) ?_
        refine lv_iconst (v := (1 : Int32)) hx hb dL_law_438 (by decide) ?_
        refine lv_iadd hx hb dL_law_439 ?_
        obtain ⟨hi440, h⟩ := gd_some h
        refine va_sld hx hb hX hbl hbA hw.2 hi440 dL_law_440 ?_
        refine lv_aload_n hx hb dL_law_441 rfl (lv_at hl 3 rfl) ?_
        obtain ⟨r442, hr442, h⟩ := bnd h
        refine cSL (As := [.ref (g.2.2 0), .int (xs (v4 + (1 : Int32)).toNatClampNeg), .ref (g.2.2 201)]) (rest := []) (st1 := [.int r442.1]) hC hw (c_L_store l hst g n (xs (v4 + (1 : Int32)).toNatClampNeg) μ r442 hr442) mw_L_store rfl hl.1 ⟨Nat.le_of_ble_eq_true rfl, Nat.le_of_ble_eq_true rfl⟩ (Nat.le_of_ble_eq_true rfl) ⟨by show _ ≤ 601024; omega, by show _ ≤ 7293034; omega⟩ rfl dL_law_442 (fun H locs hw => ?_)
        refine lv_istore (lv' := [(5, .int r442.1), (0, .ref b), (1, .ref (g.2.2 0)), (2, .ref (g.2.2 171)), (3, .ref (g.2.2 201)), (4, .int v4)]) hx hb dL_law_445 hl (by decide) rfl (fun ls hl => ?_)
        refine lv_aload_n hx hb dL_law_447 rfl (lv_at hl 3 rfl) ?_
        refine lv_aload_n hx hb dL_law_448 rfl (lv_at hl 1 rfl) ?_
        refine lv_iload hx hb dL_law_449 (lv_at hl 5 rfl) ?_
        refine lv_iconst (v := (1 : Int32)) hx hb dL_law_451 (by decide) ?_
        refine lv_iadd hx hb dL_law_452 ?_
        refine va_sld hx hb hX hbl hbA hw.2 hi440 dL_law_453 ?_
        obtain ⟨r454, hr454, h⟩ := bnd h
        refine cV (b := 171) (As := [.int (xs (v4 + (1 : Int32)).toNatClampNeg)]) (rest := []) (st1 := [.int r454.1]) hC hw (c_X12_store l g n (xs (v4 + (1 : Int32)).toNatClampNeg) r442.2 r454 hr454) ml_L_124 im_X12_store se_X12_store ok171 (CN := RX12) (T := TX12) (NF := 54) rfl rfl (by decide) rfl hl.1 ⟨Nat.le_of_ble_eq_true rfl, Nat.le_of_ble_eq_true rfl⟩ (Nat.le_of_ble_eq_true rfl) ⟨by show _ ≤ 601024; omega, by show _ ≤ 7293034; omega⟩ rfl dL_law_454 (fun H locs hw => ?_)
        refine lv_istore (lv' := [(6, .int r454.1), (5, .int r442.1), (0, .ref b), (1, .ref (g.2.2 0)), (2, .ref (g.2.2 171)), (3, .ref (g.2.2 201)), (4, .int v4)]) hx hb dL_law_457 hl (by decide) rfl (fun ls hl => ?_)
        refine lv_aload_n hx hb dL_law_459 rfl (lv_at hl 4 rfl) ?_
        obtain ⟨r460, hr460, h⟩ := bnd h
        refine cV (b := 171) (As := []) (rest := []) (st1 := [.int r460.1]) hC hw (c_X12_thrown l g n r454.2 r460 hr460) ml_L_111 im_X12_thrown se_X12_thrown ok171 (CN := RX12) (T := TX12) (NF := 54) rfl rfl (by decide) rfl hl.1 ⟨Nat.le_of_ble_eq_true rfl, Nat.le_of_ble_eq_true rfl⟩ (Nat.le_of_ble_eq_true rfl) ⟨by show _ ≤ 601024; omega, by show _ ≤ 7293034; omega⟩ rfl dL_law_460 (fun H locs hw => ?_)
        refine lv_iload hx hb dL_law_463 (lv_at hl 1 rfl) ?_
        refine lv_icmp_eq (tgt := 470) hx hb dL_law_465 (by decide) (fun hc => ?_) (fun hc => ?_)
        · rw [if_pos hc] at h
          refine lv_iload hx hb dL_law_470 (lv_at hl 1 rfl) ?_
          refine lv_if_ne (tgt := 487) hx hb dL_law_472 (by decide) (fun hc => ?_) (fun hc => ?_)
          · rw [if_neg hc] at h
            exact B487 v4 r460.2 _ _ _ _ _ (by omega) (by omega) hw (lv_sub hl [2, 3, 4, 5, 6] rfl) h
          · rw [if_pos hc] at h
            refine lv_aload_n hx hb dL_law_475 rfl (lv_at hl 5 rfl) ?_
            refine lv_iconst (v := (0 : Int32)) hx hb dL_law_476 (by decide) ?_
            refine lJ (j := 0) hC hw ok201 on201 (vin (by decide)) (by decide) dL_law_477 ?_
            refine lv_iload hx hb dL_law_478 (lv_at hl 0 rfl) ?_
            refine lv_i2l hx hb dL_law_480 rfl ?_
            refine W.lcmp hx hb dL_law_481 ?_
            refine lv_if_eq (tgt := 487) hx hb dL_law_482 (by decide) (fun hc => ?_) (fun hc => ?_)
            · rw [if_pos hc] at h
              exact B487 v4 r460.2 _ _ _ _ _ (by omega) (by omega) hw (lv_sub hl [2, 3, 4, 5, 6] rfl) h
            · rw [if_neg hc] at h
              refine lv_iconst (v := (0 : Int32)) hx hb dL_law_485 (by decide) ?_
              exact absurd (congrArg Prod.fst (Option.some.inj h)) (show ¬ (0 : Int32) = 1 by decide)
        · rw [if_neg hc] at h
          refine lv_iconst (v := (0 : Int32)) hx hb dL_law_468 (by decide) ?_
          exact absurd (congrArg Prod.fst (Option.some.inj h)) (show ¬ (0 : Int32) = 1 by decide)
      have B490 : ∀ (v4 : Int32) (μ : Mu) (H : Heap) (locs : List Loc) (ls : Array Slot) (cells slots : Nat), cells + (k + 1) ≤ 600000 → slots + 6 * (k + 1) ≤ 7000000 → wd g μ s (fun q => s.heap.size ≤ q) H locs → lv_has ls 8 [(0, .ref b), (1, .ref (g.2.2 0)), (2, .ref (g.2.2 171)), (3, .ref (g.2.2 201)), (4, .int v4)] → law_490 n L xs k23 v4 μ = some (1, μ9) → W p l e room_1 s m #[Value.ref b] below meth c H locs cells slots (lw_Z below #[Value.ref b] s) (F0 m 490 ls []) := by
        intro v4 μ H locs ls cells slots hc1 hc2 hw hl h
        rw [law_490] at h
        refine lv_aload_n hx hb dL_law_490 rfl (lv_at hl 1 rfl) ?_
        obtain ⟨r491, hr491, h⟩ := bnd h
        refine cV (b := 0) (As := []) (rest := []) (st1 := [.int r491.1]) hC hw (c_X11_mover l g n μ r491 hr491) ml_L_125 im_X11_mover se_X11_mover ok0 (CN := RX11) (T := TX11) (NF := 12) rfl rfl (by decide) rfl hl.1 ⟨Nat.le_of_ble_eq_true rfl, Nat.le_of_ble_eq_true rfl⟩ (Nat.le_of_ble_eq_true rfl) ⟨by show _ ≤ 601024; omega, by show _ ≤ 7293034; omega⟩ rfl dL_law_491 (fun H locs hw => ?_)
        refine lv_aload_n hx hb dL_law_494 rfl (lv_at hl 2 rfl) ?_
        obtain ⟨r495, hr495, h⟩ := bnd h
        refine cV (b := 171) (As := []) (rest := [.int r491.1]) (st1 := [.int r495.1, .int r491.1]) hC hw (c_X12_mover l g n r491.2 r495 hr495) ml_L_128 im_X12_mover se_X12_mover ok171 (CN := RX12) (T := TX12) (NF := 54) rfl rfl (by decide) rfl hl.1 ⟨Nat.le_of_ble_eq_true rfl, Nat.le_of_ble_eq_true rfl⟩ (Nat.le_of_ble_eq_true rfl) ⟨by show _ ≤ 601024; omega, by show _ ≤ 7293034; omega⟩ rfl dL_law_495 (fun H locs hw => ?_)
        refine lv_icmp_eq (tgt := 2193) hx hb dL_law_498 (by decide) (fun hc => ?_) (fun hc => ?_)
        · rw [if_pos hc] at h
          exact B2193 v4 r495.2 _ _ _ _ _ (by omega) (by omega) hw (lv_sub hl [0, 1, 2, 3, 4] rfl) h
        · rw [if_neg hc] at h
          refine lv_iconst (v := (0 : Int32)) hx hb dL_law_501 (by decide) ?_
          exact absurd (congrArg Prod.fst (Option.some.inj h)) (show ¬ (0 : Int32) = 1 by decide)
      have B503 : ∀ (v4 : Int32) (μ : Mu) (H : Heap) (locs : List Loc) (ls : Array Slot) (cells slots : Nat), cells + (k + 1) ≤ 600000 → slots + 6 * (k + 1) ≤ 7000000 → wd g μ s (fun q => s.heap.size ≤ q) H locs → lv_has ls 8 [(0, .ref b), (1, .ref (g.2.2 0)), (2, .ref (g.2.2 171)), (3, .ref (g.2.2 201)), (4, .int v4)] → law_503 n L xs k23 v4 μ = some (1, μ9) → W p l e room_1 s m #[Value.ref b] below meth c H locs cells slots (lw_Z below #[Value.ref b] s) (F0 m 503 ls []) := by
        intro v4 μ H locs ls cells slots hc1 hc2 hw hl h
        rw [law_503] at h
        refine lv_aload_n hx hb dL_law_503 rfl (lv_at hl 1 rfl) ?_
        refine lv_aload_n hx hb dL_law_504 rfl (lv_at hl 0 rfl) ?_
        refine lv_iload hx hb dL_law_505 (lv_at hl 4 rfl) ?_
        refine lv_iconst (v := (1 : Int32)) hx hb dL_law_507 (by decide) ?_
        refine lv_iadd hx hb dL_law_508 ?_
        obtain ⟨hi509, h⟩ := gd_some h
        refine va_sld hx hb hX hbl hbA hw.2 hi509 dL_law_509 ?_
        obtain ⟨r510, hr510, h⟩ := bnd h
        refine cV (b := 0) (As := [.int (xs (v4 + (1 : Int32)).toNatClampNeg)]) (rest := []) (st1 := [.int r510.1]) hC hw (c_X11_may l g n (xs (v4 + (1 : Int32)).toNatClampNeg) μ r510 hr510) ml_L_129 im_X11_may se_X11_may ok0 (CN := RX11) (T := TX11) (NF := 12) rfl rfl (by decide) rfl hl.1 ⟨Nat.le_of_ble_eq_true rfl, Nat.le_of_ble_eq_true rfl⟩ (Nat.le_of_ble_eq_true rfl) ⟨by show _ ≤ 601024; omega, by show _ ≤ 7293034; omega⟩ rfl dL_law_510 (fun H locs hw => ?_)
        refine lv_aload_n hx hb dL_law_513 rfl (lv_at hl 2 rfl) ?_
        refine lv_aload_n hx hb dL_law_514 rfl (lv_at hl 0 rfl) ?_
        refine lv_iload hx hb dL_law_515 (lv_at hl 4 rfl) ?_
        refine lv_iconst (v := (1 : Int32)) hx hb dL_law_517 (by decide) ?_
        refine lv_iadd hx hb dL_law_518 ?_
        refine va_sld hx hb hX hbl hbA hw.2 hi509 dL_law_519 ?_
        obtain ⟨r520, hr520, h⟩ := bnd h
        refine cV (b := 171) (As := [.int (xs (v4 + (1 : Int32)).toNatClampNeg)]) (rest := [.int r510.1]) (st1 := [.int r520.1, .int r510.1]) hC hw (c_X12_may l g n (xs (v4 + (1 : Int32)).toNatClampNeg) r510.2 r520 hr520) ml_L_132 im_X12_may se_X12_may ok171 (CN := RX12) (T := TX12) (NF := 54) rfl rfl (by decide) rfl hl.1 ⟨Nat.le_of_ble_eq_true rfl, Nat.le_of_ble_eq_true rfl⟩ (Nat.le_of_ble_eq_true rfl) ⟨by show _ ≤ 601024; omega, by show _ ≤ 7293034; omega⟩ rfl dL_law_520 (fun H locs hw => ?_)
        refine lv_icmp_eq (tgt := 2193) hx hb dL_law_523 (by decide) (fun hc => ?_) (fun hc => ?_)
        · rw [if_pos hc] at h
          exact B2193 v4 r520.2 _ _ _ _ _ (by omega) (by omega) hw (lv_sub hl [0, 1, 2, 3, 4] rfl) h
        · rw [if_neg hc] at h
          refine lv_iconst (v := (0 : Int32)) hx hb dL_law_526 (by decide) ?_
          exact absurd (congrArg Prod.fst (Option.some.inj h)) (show ¬ (0 : Int32) = 1 by decide)
      have B528 : ∀ (v4 : Int32) (μ : Mu) (H : Heap) (locs : List Loc) (ls : Array Slot) (cells slots : Nat), cells + (k + 1) ≤ 600000 → slots + 6 * (k + 1) ≤ 7000000 → wd g μ s (fun q => s.heap.size ≤ q) H locs → lv_has ls 8 [(0, .ref b), (1, .ref (g.2.2 0)), (2, .ref (g.2.2 171)), (3, .ref (g.2.2 201)), (4, .int v4)] → law_528 n L xs k23 v4 μ = some (1, μ9) → W p l e room_1 s m #[Value.ref b] below meth c H locs cells slots (lw_Z below #[Value.ref b] s) (F0 m 528 ls []) := by
        intro v4 μ H locs ls cells slots hc1 hc2 hw hl h
        rw [law_528] at h
        refine lv_aload_n hx hb dL_law_528 rfl (lv_at hl 1 rfl) ?_
        refine lv_aload_n hx hb dL_law_529 rfl (lv_at hl 0 rfl) ?_
        refine lv_iload hx hb dL_law_530 (lv_at hl 4 rfl) ?_
        refine lv_iconst (v := (1 : Int32)) hx hb dL_law_532 (by decide) ?_
        refine lv_iadd hx hb dL_law_533 ?_
        obtain ⟨hi534, h⟩ := gd_some h
        refine va_sld hx hb hX hbl hbA hw.2 hi534 dL_law_534 ?_
        obtain ⟨r535, hr535, h⟩ := bnd h
        refine cV (b := 0) (As := [.int (xs (v4 + (1 : Int32)).toNatClampNeg)]) (rest := []) (st1 := [.int r535.1]) hC hw (c_X11_move l g n (xs (v4 + (1 : Int32)).toNatClampNeg) μ r535 hr535) ml_L_133 im_X11_move se_X11_move ok0 (CN := RX11) (T := TX11) (NF := 12) rfl rfl (by decide) rfl hl.1 ⟨Nat.le_of_ble_eq_true rfl, Nat.le_of_ble_eq_true rfl⟩ (Nat.le_of_ble_eq_true rfl) ⟨by show _ ≤ 601024; omega, by show _ ≤ 7293034; omega⟩ rfl dL_law_535 (fun H locs hw => ?_)
        refine lv_aload_n hx hb dL_law_538 rfl (lv_at hl 2 rfl) ?_
        refine lv_aload_n hx hb dL_law_539 rfl (lv_at hl 0 rfl) ?_
        refine lv_iload hx hb dL_law_540 (lv_at hl 4 rfl) ?_
        refine lv_iconst (v := (1 : Int32)) hx hb dL_law_542 (by decide) ?_
        refine lv_iadd hx hb dL_law_543 ?_
        refine va_sld hx hb hX hbl hbA hw.2 hi534 dL_law_544 ?_
        obtain ⟨r545, hr545, h⟩ := bnd h
        refine cV (b := 171) (As := [.int (xs (v4 + (1 : Int32)).toNatClampNeg)]) (rest := [.int r535.1]) (st1 := [.int r545.1, .int r535.1]) hC hw (c_X12_move l g n (xs (v4 + (1 : Int32)).toNatClampNeg) r535.2 r545 hr545) ml_L_136 im_X12_move se_X12_move ok171 (CN := RX12) (T := TX12) (NF := 54) rfl rfl (by decide) rfl hl.1 ⟨Nat.le_of_ble_eq_true rfl, Nat.le_of_ble_eq_true rfl⟩ (Nat.le_of_ble_eq_true rfl) ⟨by show _ ≤ 601024; omega, by show _ ≤ 7293034; omega⟩ rfl dL_law_545 (fun H locs hw => ?_)
        refine lv_icmp_eq (tgt := 2193) hx hb dL_law_548 (by decide) (fun hc => ?_) (fun hc => ?_)
        · rw [if_pos hc] at h
          exact B2193 v4 r545.2 _ _ _ _ _ (by omega) (by omega) hw (lv_sub hl [0, 1, 2, 3, 4] rfl) h
        · rw [if_neg hc] at h
          refine lv_iconst (v := (0 : Int32)) hx hb dL_law_551 (by decide) ?_
          exact absurd (congrArg Prod.fst (Option.some.inj h)) (show ¬ (0 : Int32) = 1 by decide)
      have B618 : ∀ (v4 : Int32) (μ : Mu) (H : Heap) (locs : List Loc) (ls : Array Slot) (cells slots : Nat), cells + k ≤ 600000 → slots + 6 * k ≤ 7000000 → wd g μ s (fun q => s.heap.size ≤ q) H locs → lv_has ls 8 [(0, .ref b), (1, .ref (g.2.2 0)), (2, .ref (g.2.2 171)), (3, .ref (g.2.2 201)), (4, .int v4)] → law_618 n L xs k23 v4 μ = some (1, μ9) → W p l e room_1 s m #[Value.ref b] below meth c H locs cells slots (lw_Z below #[Value.ref b] s) (F0 m 618 ls []) := by
        intro v4 μ H locs ls cells slots hc1 hc2 hw hl h
        rw [law_618] at h
        refine lv_goto (tgt := 2193) hx hb dL_law_618 (by decide) ?_
        exact B2193 v4 μ _ _ _ _ _ (by omega) (by omega) hw (lv_sub hl [0, 1, 2, 3, 4] rfl) h
      have B553 : ∀ (v4 : Int32) (μ : Mu) (H : Heap) (locs : List Loc) (ls : Array Slot) (cells slots : Nat), cells + (k + 1) ≤ 600000 → slots + 6 * (k + 1) ≤ 7000000 → wd g μ s (fun q => s.heap.size ≤ q) H locs → lv_has ls 8 [(0, .ref b), (1, .ref (g.2.2 0)), (2, .ref (g.2.2 171)), (3, .ref (g.2.2 201)), (4, .int v4)] → law_553 n L xs k23 v4 μ = some (1, μ9) → W p l e room_1 s m #[Value.ref b] below meth c H locs cells slots (lw_Z below #[Value.ref b] s) (F0 m 553 ls []) := by
        intro v4 μ H locs ls cells slots hc1 hc2 hw hl h
        rw [law_553] at h
        refine lv_aload_n hx hb dL_law_553 rfl (lv_at hl 1 rfl) ?_
        refine lv_aload_n hx hb dL_law_554 rfl (lv_at hl 0 rfl) ?_
        refine lv_iload hx hb dL_law_555 (lv_at hl 4 rfl) ?_
        refine lv_iconst (v := (1 : Int32)) hx hb dL_law_557 (by decide) ?_
        refine lv_iadd hx hb dL_law_558 ?_
        obtain ⟨hi559, h⟩ := gd_some h
        refine va_sld hx hb hX hbl hbA hw.2 hi559 dL_law_559 ?_
        refine lv_aload_n hx hb dL_law_560 rfl (lv_at hl 0 rfl) ?_
        refine lv_iload hx hb dL_law_561 (lv_at hl 4 rfl) ?_
        refine lv_iconst (v := (2 : Int32)) hx hb dL_law_563 (by decide) ?_
        refine lv_iadd hx hb dL_law_564 ?_
        obtain ⟨hi565, h⟩ := gd_some h
        refine va_sld hx hb hX hbl hbA hw.2 hi565 dL_law_565 ?_
        refine lv_aload_n hx hb dL_law_566 rfl (lv_at hl 3 rfl) ?_
        obtain ⟨r567, hr567, h⟩ := bnd h
        refine cSL (As := [.ref (g.2.2 0), .int (xs (v4 + (1 : Int32)).toNatClampNeg), .int (xs (v4 + (2 : Int32)).toNatClampNeg), .ref (g.2.2 201)]) (rest := []) (st1 := [.int r567.1]) hC hw (c_L_sown l hst g n (xs (v4 + (1 : Int32)).toNatClampNeg) (xs (v4 + (2 : Int32)).toNatClampNeg) μ r567 hr567) mw_L_sown rfl hl.1 ⟨Nat.le_of_ble_eq_true rfl, Nat.le_of_ble_eq_true rfl⟩ (Nat.le_of_ble_eq_true rfl) ⟨by show _ ≤ 601024; omega, by show _ ≤ 7293034; omega⟩ rfl dL_law_567 (fun H locs hw => ?_)
        refine lv_istore (lv' := [(5, .int r567.1), (0, .ref b), (1, .ref (g.2.2 0)), (2, .ref (g.2.2 171)), (3, .ref (g.2.2 201)), (4, .int v4)]) hx hb dL_law_570 hl (by decide) rfl (fun ls hl => ?_)
        refine lv_aload_n hx hb dL_law_572 rfl (lv_at hl 3 rfl) ?_
        refine lv_aload_n hx hb dL_law_573 rfl (lv_at hl 1 rfl) ?_
        refine lv_iload hx hb dL_law_574 (lv_at hl 5 rfl) ?_
        refine lv_iconst (v := (1 : Int32)) hx hb dL_law_576 (by decide) ?_
        refine lv_iadd hx hb dL_law_577 ?_
        refine va_sld hx hb hX hbl hbA hw.2 hi559 dL_law_578 ?_
        refine lv_aload_n hx hb dL_law_579 rfl (lv_at hl 1 rfl) ?_
        refine lv_iload hx hb dL_law_580 (lv_at hl 5 rfl) ?_
        refine lv_iconst (v := (2 : Int32)) hx hb dL_law_582 (by decide) ?_
        refine lv_iadd hx hb dL_law_583 ?_
        refine va_sld hx hb hX hbl hbA hw.2 hi565 dL_law_584 ?_
        obtain ⟨r585, hr585, h⟩ := bnd h
        refine cV (b := 171) (As := [.int (xs (v4 + (1 : Int32)).toNatClampNeg), .int (xs (v4 + (2 : Int32)).toNatClampNeg)]) (rest := []) (st1 := [.int r585.1]) hC hw (c_X12_sown l g n (xs (v4 + (1 : Int32)).toNatClampNeg) (xs (v4 + (2 : Int32)).toNatClampNeg) r567.2 r585 hr585) ml_L_140 im_X12_sown se_X12_sown ok171 (CN := RX12) (T := TX12) (NF := 54) rfl rfl (by decide) rfl hl.1 ⟨Nat.le_of_ble_eq_true rfl, Nat.le_of_ble_eq_true rfl⟩ (Nat.le_of_ble_eq_true rfl) ⟨by show _ ≤ 601024; omega, by show _ ≤ 7293034; omega⟩ rfl dL_law_585 (fun H locs hw => ?_)
        refine lv_istore (lv' := [(6, .int r585.1), (5, .int r567.1), (0, .ref b), (1, .ref (g.2.2 0)), (2, .ref (g.2.2 171)), (3, .ref (g.2.2 201)), (4, .int v4)]) hx hb dL_law_588 hl (by decide) rfl (fun ls hl => ?_)
        refine lv_aload_n hx hb dL_law_590 rfl (lv_at hl 4 rfl) ?_
        obtain ⟨r591, hr591, h⟩ := bnd h
        refine cV (b := 171) (As := []) (rest := []) (st1 := [.int r591.1]) hC hw (c_X12_thrown l g n r585.2 r591 hr591) ml_L_111 im_X12_thrown se_X12_thrown ok171 (CN := RX12) (T := TX12) (NF := 54) rfl rfl (by decide) rfl hl.1 ⟨Nat.le_of_ble_eq_true rfl, Nat.le_of_ble_eq_true rfl⟩ (Nat.le_of_ble_eq_true rfl) ⟨by show _ ≤ 601024; omega, by show _ ≤ 7293034; omega⟩ rfl dL_law_591 (fun H locs hw => ?_)
        refine lv_iload hx hb dL_law_594 (lv_at hl 1 rfl) ?_
        refine lv_icmp_eq (tgt := 601) hx hb dL_law_596 (by decide) (fun hc => ?_) (fun hc => ?_)
        · rw [if_pos hc] at h
          refine lv_iload hx hb dL_law_601 (lv_at hl 1 rfl) ?_
          refine lv_if_ne (tgt := 618) hx hb dL_law_603 (by decide) (fun hc => ?_) (fun hc => ?_)
          · rw [if_neg hc] at h
            exact B618 v4 r591.2 _ _ _ _ _ (by omega) (by omega) hw (lv_sub hl [2, 3, 4, 5, 6] rfl) h
          · rw [if_pos hc] at h
            refine lv_aload_n hx hb dL_law_606 rfl (lv_at hl 5 rfl) ?_
            refine lv_iconst (v := (0 : Int32)) hx hb dL_law_607 (by decide) ?_
            refine lJ (j := 0) hC hw ok201 on201 (vin (by decide)) (by decide) dL_law_608 ?_
            refine lv_iload hx hb dL_law_609 (lv_at hl 0 rfl) ?_
            refine lv_i2l hx hb dL_law_611 rfl ?_
            refine W.lcmp hx hb dL_law_612 ?_
            refine lv_if_eq (tgt := 618) hx hb dL_law_613 (by decide) (fun hc => ?_) (fun hc => ?_)
            · rw [if_pos hc] at h
              exact B618 v4 r591.2 _ _ _ _ _ (by omega) (by omega) hw (lv_sub hl [2, 3, 4, 5, 6] rfl) h
            · rw [if_neg hc] at h
              refine lv_iconst (v := (0 : Int32)) hx hb dL_law_616 (by decide) ?_
              exact absurd (congrArg Prod.fst (Option.some.inj h)) (show ¬ (0 : Int32) = 1 by decide)
        · rw [if_neg hc] at h
          refine lv_iconst (v := (0 : Int32)) hx hb dL_law_599 (by decide) ?_
          exact absurd (congrArg Prod.fst (Option.some.inj h)) (show ¬ (0 : Int32) = 1 by decide)
      have B621 : ∀ (v4 : Int32) (μ : Mu) (H : Heap) (locs : List Loc) (ls : Array Slot) (cells slots : Nat), cells + (k + 1) ≤ 600000 → slots + 6 * (k + 1) ≤ 7000000 → wd g μ s (fun q => s.heap.size ≤ q) H locs → lv_has ls 8 [(0, .ref b), (1, .ref (g.2.2 0)), (2, .ref (g.2.2 171)), (3, .ref (g.2.2 201)), (4, .int v4)] → law_621 n L xs k23 v4 μ = some (1, μ9) → W p l e room_1 s m #[Value.ref b] below meth c H locs cells slots (lw_Z below #[Value.ref b] s) (F0 m 621 ls []) := by
        intro v4 μ H locs ls cells slots hc1 hc2 hw hl h
        rw [law_621] at h
        refine lv_aload_n hx hb dL_law_621 rfl (lv_at hl 1 rfl) ?_
        obtain ⟨r622, hr622, h⟩ := bnd h
        refine cV (b := 0) (As := []) (rest := []) (st1 := [.int r622.1]) hC hw (c_X11_undo l g n μ r622 hr622) ml_L_141 im_X11_undo se_X11_undo ok0 (CN := RX11) (T := TX11) (NF := 12) rfl rfl (by decide) rfl hl.1 ⟨Nat.le_of_ble_eq_true rfl, Nat.le_of_ble_eq_true rfl⟩ (Nat.le_of_ble_eq_true rfl) ⟨by show _ ≤ 601024; omega, by show _ ≤ 7293034; omega⟩ rfl dL_law_622 (fun H locs hw => ?_)
        refine lv_aload_n hx hb dL_law_625 rfl (lv_at hl 2 rfl) ?_
        obtain ⟨r626, hr626, h⟩ := bnd h
        refine cV (b := 171) (As := []) (rest := [.int r622.1]) (st1 := [.int r626.1, .int r622.1]) hC hw (c_X12_undo l g n r622.2 r626 hr626) ml_L_145 im_X12_undo se_X12_undo ok171 (CN := RX12) (T := TX12) (NF := 54) rfl rfl (by decide) rfl hl.1 ⟨Nat.le_of_ble_eq_true rfl, Nat.le_of_ble_eq_true rfl⟩ (Nat.le_of_ble_eq_true rfl) ⟨by show _ ≤ 601024; omega, by show _ ≤ 7293034; omega⟩ rfl dL_law_626 (fun H locs hw => ?_)
        refine lv_icmp_eq (tgt := 2193) hx hb dL_law_629 (by decide) (fun hc => ?_) (fun hc => ?_)
        · rw [if_pos hc] at h
          exact B2193 v4 r626.2 _ _ _ _ _ (by omega) (by omega) hw (lv_sub hl [0, 1, 2, 3, 4] rfl) h
        · rw [if_neg hc] at h
          refine lv_iconst (v := (0 : Int32)) hx hb dL_law_632 (by decide) ?_
          exact absurd (congrArg Prod.fst (Option.some.inj h)) (show ¬ (0 : Int32) = 1 by decide)
      have B634 : ∀ (v4 : Int32) (μ : Mu) (H : Heap) (locs : List Loc) (ls : Array Slot) (cells slots : Nat), cells + (k + 1) ≤ 600000 → slots + 6 * (k + 1) ≤ 7000000 → wd g μ s (fun q => s.heap.size ≤ q) H locs → lv_has ls 8 [(0, .ref b), (1, .ref (g.2.2 0)), (2, .ref (g.2.2 171)), (3, .ref (g.2.2 201)), (4, .int v4)] → law_634 n L xs k23 v4 μ = some (1, μ9) → W p l e room_1 s m #[Value.ref b] below meth c H locs cells slots (lw_Z below #[Value.ref b] s) (F0 m 634 ls []) := by
        intro v4 μ H locs ls cells slots hc1 hc2 hw hl h
        rw [law_634] at h
        refine lv_aload_n hx hb dL_law_634 rfl (lv_at hl 1 rfl) ?_
        obtain ⟨r635, hr635, h⟩ := bnd h
        refine cV (b := 0) (As := []) (rest := []) (st1 := [.int r635.1]) hC hw (c_X11_redo l g n μ r635 hr635) ml_L_146 im_X11_redo se_X11_redo ok0 (CN := RX11) (T := TX11) (NF := 12) rfl rfl (by decide) rfl hl.1 ⟨Nat.le_of_ble_eq_true rfl, Nat.le_of_ble_eq_true rfl⟩ (Nat.le_of_ble_eq_true rfl) ⟨by show _ ≤ 601024; omega, by show _ ≤ 7293034; omega⟩ rfl dL_law_635 (fun H locs hw => ?_)
        refine lv_aload_n hx hb dL_law_638 rfl (lv_at hl 2 rfl) ?_
        obtain ⟨r639, hr639, h⟩ := bnd h
        refine cV (b := 171) (As := []) (rest := [.int r635.1]) (st1 := [.int r639.1, .int r635.1]) hC hw (c_X12_redo l g n r635.2 r639 hr639) ml_L_149 im_X12_redo se_X12_redo ok171 (CN := RX12) (T := TX12) (NF := 54) rfl rfl (by decide) rfl hl.1 ⟨Nat.le_of_ble_eq_true rfl, Nat.le_of_ble_eq_true rfl⟩ (Nat.le_of_ble_eq_true rfl) ⟨by show _ ≤ 601024; omega, by show _ ≤ 7293034; omega⟩ rfl dL_law_639 (fun H locs hw => ?_)
        refine lv_icmp_eq (tgt := 2193) hx hb dL_law_642 (by decide) (fun hc => ?_) (fun hc => ?_)
        · rw [if_pos hc] at h
          exact B2193 v4 r639.2 _ _ _ _ _ (by omega) (by omega) hw (lv_sub hl [0, 1, 2, 3, 4] rfl) h
        · rw [if_neg hc] at h
          refine lv_iconst (v := (0 : Int32)) hx hb dL_law_645 (by decide) ?_
          exact absurd (congrArg Prod.fst (Option.some.inj h)) (show ¬ (0 : Int32) = 1 by decide)
      have B647 : ∀ (v4 : Int32) (μ : Mu) (H : Heap) (locs : List Loc) (ls : Array Slot) (cells slots : Nat), cells + (k + 1) ≤ 600000 → slots + 6 * (k + 1) ≤ 7000000 → wd g μ s (fun q => s.heap.size ≤ q) H locs → lv_has ls 8 [(0, .ref b), (1, .ref (g.2.2 0)), (2, .ref (g.2.2 171)), (3, .ref (g.2.2 201)), (4, .int v4)] → law_647 n L xs k23 v4 μ = some (1, μ9) → W p l e room_1 s m #[Value.ref b] below meth c H locs cells slots (lw_Z below #[Value.ref b] s) (F0 m 647 ls []) := by
        intro v4 μ H locs ls cells slots hc1 hc2 hw hl h
        rw [law_647] at h
        refine lv_aload_n hx hb dL_law_647 rfl (lv_at hl 1 rfl) ?_
        obtain ⟨r648, hr648, h⟩ := bnd h
        refine cV (b := 0) (As := []) (rest := []) (st1 := [.int r648.1]) hC hw (c_X11_over l g n μ r648 hr648) ml_L_150 im_X11_over se_X11_over ok0 (CN := RX11) (T := TX11) (NF := 12) rfl rfl (by decide) rfl hl.1 ⟨Nat.le_of_ble_eq_true rfl, Nat.le_of_ble_eq_true rfl⟩ (Nat.le_of_ble_eq_true rfl) ⟨by show _ ≤ 601024; omega, by show _ ≤ 7293034; omega⟩ rfl dL_law_648 (fun H locs hw => ?_)
        refine lv_aload_n hx hb dL_law_651 rfl (lv_at hl 2 rfl) ?_
        obtain ⟨r652, hr652, h⟩ := bnd h
        refine cV (b := 171) (As := []) (rest := [.int r648.1]) (st1 := [.int r652.1, .int r648.1]) hC hw (c_X12_over l g n r648.2 r652 hr652) ml_L_153 im_X12_over se_X12_over ok171 (CN := RX12) (T := TX12) (NF := 54) rfl rfl (by decide) rfl hl.1 ⟨Nat.le_of_ble_eq_true rfl, Nat.le_of_ble_eq_true rfl⟩ (Nat.le_of_ble_eq_true rfl) ⟨by show _ ≤ 601024; omega, by show _ ≤ 7293034; omega⟩ rfl dL_law_652 (fun H locs hw => ?_)
        refine lv_icmp_eq (tgt := 2193) hx hb dL_law_655 (by decide) (fun hc => ?_) (fun hc => ?_)
        · rw [if_pos hc] at h
          exact B2193 v4 r652.2 _ _ _ _ _ (by omega) (by omega) hw (lv_sub hl [0, 1, 2, 3, 4] rfl) h
        · rw [if_neg hc] at h
          refine lv_iconst (v := (0 : Int32)) hx hb dL_law_658 (by decide) ?_
          exact absurd (congrArg Prod.fst (Option.some.inj h)) (show ¬ (0 : Int32) = 1 by decide)
      have B660 : ∀ (v4 : Int32) (μ : Mu) (H : Heap) (locs : List Loc) (ls : Array Slot) (cells slots : Nat), cells + (k + 1) ≤ 600000 → slots + 6 * (k + 1) ≤ 7000000 → wd g μ s (fun q => s.heap.size ≤ q) H locs → lv_has ls 8 [(0, .ref b), (1, .ref (g.2.2 0)), (2, .ref (g.2.2 171)), (3, .ref (g.2.2 201)), (4, .int v4)] → law_660 n L xs k23 v4 μ = some (1, μ9) → W p l e room_1 s m #[Value.ref b] below meth c H locs cells slots (lw_Z below #[Value.ref b] s) (F0 m 660 ls []) := by
        intro v4 μ H locs ls cells slots hc1 hc2 hw hl h
        rw [law_660] at h
        refine lv_aload_n hx hb dL_law_660 rfl (lv_at hl 1 rfl) ?_
        obtain ⟨r661, hr661, h⟩ := bnd h
        refine cV (b := 0) (As := []) (rest := []) (st1 := [.int r661.1]) hC hw (c_X11_score l g n μ r661 hr661) ml_L_154 im_X11_score se_X11_score ok0 (CN := RX11) (T := TX11) (NF := 12) rfl rfl (by decide) rfl hl.1 ⟨Nat.le_of_ble_eq_true rfl, Nat.le_of_ble_eq_true rfl⟩ (Nat.le_of_ble_eq_true rfl) ⟨by show _ ≤ 601024; omega, by show _ ≤ 7293034; omega⟩ rfl dL_law_661 (fun H locs hw => ?_)
        refine lv_aload_n hx hb dL_law_664 rfl (lv_at hl 2 rfl) ?_
        obtain ⟨r665, hr665, h⟩ := bnd h
        refine cV (b := 171) (As := []) (rest := [.int r661.1]) (st1 := [.int r665.1, .int r661.1]) hC hw (c_X12_score l g n r661.2 r665 hr665) ml_L_157 im_X12_score se_X12_score ok171 (CN := RX12) (T := TX12) (NF := 54) rfl rfl (by decide) rfl hl.1 ⟨Nat.le_of_ble_eq_true rfl, Nat.le_of_ble_eq_true rfl⟩ (Nat.le_of_ble_eq_true rfl) ⟨by show _ ≤ 601024; omega, by show _ ≤ 7293034; omega⟩ rfl dL_law_665 (fun H locs hw => ?_)
        refine lv_icmp_eq (tgt := 2193) hx hb dL_law_668 (by decide) (fun hc => ?_) (fun hc => ?_)
        · rw [if_pos hc] at h
          exact B2193 v4 r665.2 _ _ _ _ _ (by omega) (by omega) hw (lv_sub hl [0, 1, 2, 3, 4] rfl) h
        · rw [if_neg hc] at h
          refine lv_iconst (v := (0 : Int32)) hx hb dL_law_671 (by decide) ?_
          exact absurd (congrArg Prod.fst (Option.some.inj h)) (show ¬ (0 : Int32) = 1 by decide)
      have B738 : ∀ (v4 : Int32) (μ : Mu) (H : Heap) (locs : List Loc) (ls : Array Slot) (cells slots : Nat), cells + k ≤ 600000 → slots + 6 * k ≤ 7000000 → wd g μ s (fun q => s.heap.size ≤ q) H locs → lv_has ls 8 [(0, .ref b), (1, .ref (g.2.2 0)), (2, .ref (g.2.2 171)), (3, .ref (g.2.2 201)), (4, .int v4)] → law_738 n L xs k23 v4 μ = some (1, μ9) → W p l e room_1 s m #[Value.ref b] below meth c H locs cells slots (lw_Z below #[Value.ref b] s) (F0 m 738 ls []) := by
        intro v4 μ H locs ls cells slots hc1 hc2 hw hl h
        rw [law_738] at h
        refine lv_goto (tgt := 2193) hx hb dL_law_738 (by decide) ?_
        exact B2193 v4 μ _ _ _ _ _ (by omega) (by omega) hw (lv_sub hl [0, 1, 2, 3, 4] rfl) h
      have B673 : ∀ (v4 : Int32) (μ : Mu) (H : Heap) (locs : List Loc) (ls : Array Slot) (cells slots : Nat), cells + (k + 1) ≤ 600000 → slots + 6 * (k + 1) ≤ 7000000 → wd g μ s (fun q => s.heap.size ≤ q) H locs → lv_has ls 8 [(0, .ref b), (1, .ref (g.2.2 0)), (2, .ref (g.2.2 171)), (3, .ref (g.2.2 201)), (4, .int v4)] → law_673 n L xs k23 v4 μ = some (1, μ9) → W p l e room_1 s m #[Value.ref b] below meth c H locs cells slots (lw_Z below #[Value.ref b] s) (F0 m 673 ls []) := by
        intro v4 μ H locs ls cells slots hc1 hc2 hw hl h
        rw [law_673] at h
        refine lv_aload_n hx hb dL_law_673 rfl (lv_at hl 1 rfl) ?_
        refine lv_aload_n hx hb dL_law_674 rfl (lv_at hl 0 rfl) ?_
        refine lv_iload hx hb dL_law_675 (lv_at hl 4 rfl) ?_
        refine lv_iconst (v := (1 : Int32)) hx hb dL_law_677 (by decide) ?_
        refine lv_iadd hx hb dL_law_678 ?_
        obtain ⟨hi679, h⟩ := gd_some h
        refine va_sld hx hb hX hbl hbA hw.2 hi679 dL_law_679 ?_
        refine lv_aload_n hx hb dL_law_680 rfl (lv_at hl 0 rfl) ?_
        refine lv_iload hx hb dL_law_681 (lv_at hl 4 rfl) ?_
        refine lv_iconst (v := (2 : Int32)) hx hb dL_law_683 (by decide) ?_
        refine lv_iadd hx hb dL_law_684 ?_
        obtain ⟨hi685, h⟩ := gd_some h
        refine va_sld hx hb hX hbl hbA hw.2 hi685 dL_law_685 ?_
        refine lv_aload_n hx hb dL_law_686 rfl (lv_at hl 3 rfl) ?_
        obtain ⟨r687, hr687, h⟩ := bnd h
        refine cSL (As := [.ref (g.2.2 0), .int (xs (v4 + (1 : Int32)).toNatClampNeg), .int (xs (v4 + (2 : Int32)).toNatClampNeg), .ref (g.2.2 201)]) (rest := []) (st1 := [.int r687.1]) hC hw (c_L_judge l hst g n (xs (v4 + (1 : Int32)).toNatClampNeg) (xs (v4 + (2 : Int32)).toNatClampNeg) μ r687 hr687) mw_L_judge rfl hl.1 ⟨Nat.le_of_ble_eq_true rfl, Nat.le_of_ble_eq_true rfl⟩ (Nat.le_of_ble_eq_true rfl) ⟨by show _ ≤ 601024; omega, by show _ ≤ 7293034; omega⟩ rfl dL_law_687 (fun H locs hw => ?_)
        refine lv_istore (lv' := [(5, .int r687.1), (0, .ref b), (1, .ref (g.2.2 0)), (2, .ref (g.2.2 171)), (3, .ref (g.2.2 201)), (4, .int v4)]) hx hb dL_law_690 hl (by decide) rfl (fun ls hl => ?_)
        refine lv_aload_n hx hb dL_law_692 rfl (lv_at hl 3 rfl) ?_
        refine lv_aload_n hx hb dL_law_693 rfl (lv_at hl 1 rfl) ?_
        refine lv_iload hx hb dL_law_694 (lv_at hl 5 rfl) ?_
        refine lv_iconst (v := (1 : Int32)) hx hb dL_law_696 (by decide) ?_
        refine lv_iadd hx hb dL_law_697 ?_
        refine va_sld hx hb hX hbl hbA hw.2 hi679 dL_law_698 ?_
        refine lv_aload_n hx hb dL_law_699 rfl (lv_at hl 1 rfl) ?_
        refine lv_iload hx hb dL_law_700 (lv_at hl 5 rfl) ?_
        refine lv_iconst (v := (2 : Int32)) hx hb dL_law_702 (by decide) ?_
        refine lv_iadd hx hb dL_law_703 ?_
        refine va_sld hx hb hX hbl hbA hw.2 hi685 dL_law_704 ?_
        obtain ⟨r705, hr705, h⟩ := bnd h
        refine cV (b := 171) (As := [.int (xs (v4 + (1 : Int32)).toNatClampNeg), .int (xs (v4 + (2 : Int32)).toNatClampNeg)]) (rest := []) (st1 := [.int r705.1]) hC hw (c_X12_judge l g n (xs (v4 + (1 : Int32)).toNatClampNeg) (xs (v4 + (2 : Int32)).toNatClampNeg) r687.2 r705 hr705) ml_L_160 im_X12_judge se_X12_judge ok171 (CN := RX12) (T := TX12) (NF := 54) rfl rfl (by decide) rfl hl.1 ⟨Nat.le_of_ble_eq_true rfl, Nat.le_of_ble_eq_true rfl⟩ (Nat.le_of_ble_eq_true rfl) ⟨by show _ ≤ 601024; omega, by show _ ≤ 7293034; omega⟩ rfl dL_law_705 (fun H locs hw => ?_)
        refine lv_istore (lv' := [(6, .int r705.1), (5, .int r687.1), (0, .ref b), (1, .ref (g.2.2 0)), (2, .ref (g.2.2 171)), (3, .ref (g.2.2 201)), (4, .int v4)]) hx hb dL_law_708 hl (by decide) rfl (fun ls hl => ?_)
        refine lv_aload_n hx hb dL_law_710 rfl (lv_at hl 4 rfl) ?_
        obtain ⟨r711, hr711, h⟩ := bnd h
        refine cV (b := 171) (As := []) (rest := []) (st1 := [.int r711.1]) hC hw (c_X12_thrown l g n r705.2 r711 hr711) ml_L_111 im_X12_thrown se_X12_thrown ok171 (CN := RX12) (T := TX12) (NF := 54) rfl rfl (by decide) rfl hl.1 ⟨Nat.le_of_ble_eq_true rfl, Nat.le_of_ble_eq_true rfl⟩ (Nat.le_of_ble_eq_true rfl) ⟨by show _ ≤ 601024; omega, by show _ ≤ 7293034; omega⟩ rfl dL_law_711 (fun H locs hw => ?_)
        refine lv_iload hx hb dL_law_714 (lv_at hl 1 rfl) ?_
        refine lv_icmp_eq (tgt := 721) hx hb dL_law_716 (by decide) (fun hc => ?_) (fun hc => ?_)
        · rw [if_pos hc] at h
          refine lv_iload hx hb dL_law_721 (lv_at hl 1 rfl) ?_
          refine lv_if_ne (tgt := 738) hx hb dL_law_723 (by decide) (fun hc => ?_) (fun hc => ?_)
          · rw [if_neg hc] at h
            exact B738 v4 r711.2 _ _ _ _ _ (by omega) (by omega) hw (lv_sub hl [2, 3, 4, 5, 6] rfl) h
          · rw [if_pos hc] at h
            refine lv_aload_n hx hb dL_law_726 rfl (lv_at hl 5 rfl) ?_
            refine lv_iconst (v := (0 : Int32)) hx hb dL_law_727 (by decide) ?_
            refine lJ (j := 0) hC hw ok201 on201 (vin (by decide)) (by decide) dL_law_728 ?_
            refine lv_iload hx hb dL_law_729 (lv_at hl 0 rfl) ?_
            refine lv_i2l hx hb dL_law_731 rfl ?_
            refine W.lcmp hx hb dL_law_732 ?_
            refine lv_if_eq (tgt := 738) hx hb dL_law_733 (by decide) (fun hc => ?_) (fun hc => ?_)
            · rw [if_pos hc] at h
              exact B738 v4 r711.2 _ _ _ _ _ (by omega) (by omega) hw (lv_sub hl [2, 3, 4, 5, 6] rfl) h
            · rw [if_neg hc] at h
              refine lv_iconst (v := (0 : Int32)) hx hb dL_law_736 (by decide) ?_
              exact absurd (congrArg Prod.fst (Option.some.inj h)) (show ¬ (0 : Int32) = 1 by decide)
        · rw [if_neg hc] at h
          refine lv_iconst (v := (0 : Int32)) hx hb dL_law_719 (by decide) ?_
          exact absurd (congrArg Prod.fst (Option.some.inj h)) (show ¬ (0 : Int32) = 1 by decide)
      have B794 : ∀ (v4 : Int32) (μ : Mu) (H : Heap) (locs : List Loc) (ls : Array Slot) (cells slots : Nat), cells + k ≤ 600000 → slots + 6 * k ≤ 7000000 → wd g μ s (fun q => s.heap.size ≤ q) H locs → lv_has ls 8 [(0, .ref b), (1, .ref (g.2.2 0)), (2, .ref (g.2.2 171)), (3, .ref (g.2.2 201)), (4, .int v4)] → law_794 n L xs k23 v4 μ = some (1, μ9) → W p l e room_1 s m #[Value.ref b] below meth c H locs cells slots (lw_Z below #[Value.ref b] s) (F0 m 794 ls []) := by
        intro v4 μ H locs ls cells slots hc1 hc2 hw hl h
        rw [law_794] at h
        refine lv_goto (tgt := 2193) hx hb dL_law_794 (by decide) ?_
        exact B2193 v4 μ _ _ _ _ _ (by omega) (by omega) hw (lv_sub hl [0, 1, 2, 3, 4] rfl) h
      have B741 : ∀ (v4 : Int32) (μ : Mu) (H : Heap) (locs : List Loc) (ls : Array Slot) (cells slots : Nat), cells + (k + 1) ≤ 600000 → slots + 6 * (k + 1) ≤ 7000000 → wd g μ s (fun q => s.heap.size ≤ q) H locs → lv_has ls 8 [(0, .ref b), (1, .ref (g.2.2 0)), (2, .ref (g.2.2 171)), (3, .ref (g.2.2 201)), (4, .int v4)] → law_741 n L xs k23 v4 μ = some (1, μ9) → W p l e room_1 s m #[Value.ref b] below meth c H locs cells slots (lw_Z below #[Value.ref b] s) (F0 m 741 ls []) := by
        intro v4 μ H locs ls cells slots hc1 hc2 hw hl h
        rw [law_741] at h
        refine lv_aload_n hx hb dL_law_741 rfl (lv_at hl 1 rfl) ?_
        refine lv_aload_n hx hb dL_law_742 rfl (lv_at hl 0 rfl) ?_
        refine lv_iload hx hb dL_law_743 (lv_at hl 4 rfl) ?_
        refine lv_iconst (v := (1 : Int32)) hx hb dL_law_745 (by decide) ?_
        refine lv_iadd hx hb dL_law_746 ?_
        obtain ⟨hi747, h⟩ := gd_some h
        refine va_sld hx hb hX hbl hbA hw.2 hi747 dL_law_747 ?_
        refine lv_aload_n hx hb dL_law_748 rfl (lv_at hl 3 rfl) ?_
        obtain ⟨r749, hr749, h⟩ := bnd h
        refine cSL (As := [.ref (g.2.2 0), .int (xs (v4 + (1 : Int32)).toNatClampNeg), .ref (g.2.2 201)]) (rest := []) (st1 := [.int r749.1]) hC hw (c_L_perform l hst g n (xs (v4 + (1 : Int32)).toNatClampNeg) μ r749 hr749) mw_L_perform rfl hl.1 ⟨Nat.le_of_ble_eq_true rfl, Nat.le_of_ble_eq_true rfl⟩ (Nat.le_of_ble_eq_true rfl) ⟨by show _ ≤ 601024; omega, by show _ ≤ 7293034; omega⟩ rfl dL_law_749 (fun H locs hw => ?_)
        refine lv_istore (lv' := [(5, .int r749.1), (0, .ref b), (1, .ref (g.2.2 0)), (2, .ref (g.2.2 171)), (3, .ref (g.2.2 201)), (4, .int v4)]) hx hb dL_law_752 hl (by decide) rfl (fun ls hl => ?_)
        refine lv_aload_n hx hb dL_law_754 rfl (lv_at hl 3 rfl) ?_
        refine lv_aload_n hx hb dL_law_755 rfl (lv_at hl 1 rfl) ?_
        refine lv_iload hx hb dL_law_756 (lv_at hl 5 rfl) ?_
        refine lv_iconst (v := (1 : Int32)) hx hb dL_law_758 (by decide) ?_
        refine lv_iadd hx hb dL_law_759 ?_
        refine va_sld hx hb hX hbl hbA hw.2 hi747 dL_law_760 ?_
        obtain ⟨r761, hr761, h⟩ := bnd h
        refine cV (b := 171) (As := [.int (xs (v4 + (1 : Int32)).toNatClampNeg)]) (rest := []) (st1 := [.int r761.1]) hC hw (c_X12_perform l g n (xs (v4 + (1 : Int32)).toNatClampNeg) r749.2 r761 hr761) ml_L_163 im_X12_perform se_X12_perform ok171 (CN := RX12) (T := TX12) (NF := 54) rfl rfl (by decide) rfl hl.1 ⟨Nat.le_of_ble_eq_true rfl, Nat.le_of_ble_eq_true rfl⟩ (Nat.le_of_ble_eq_true rfl) ⟨by show _ ≤ 601024; omega, by show _ ≤ 7293034; omega⟩ rfl dL_law_761 (fun H locs hw => ?_)
        refine lv_istore (lv' := [(6, .int r761.1), (5, .int r749.1), (0, .ref b), (1, .ref (g.2.2 0)), (2, .ref (g.2.2 171)), (3, .ref (g.2.2 201)), (4, .int v4)]) hx hb dL_law_764 hl (by decide) rfl (fun ls hl => ?_)
        refine lv_aload_n hx hb dL_law_766 rfl (lv_at hl 4 rfl) ?_
        obtain ⟨r767, hr767, h⟩ := bnd h
        refine cV (b := 171) (As := []) (rest := []) (st1 := [.int r767.1]) hC hw (c_X12_thrown l g n r761.2 r767 hr767) ml_L_111 im_X12_thrown se_X12_thrown ok171 (CN := RX12) (T := TX12) (NF := 54) rfl rfl (by decide) rfl hl.1 ⟨Nat.le_of_ble_eq_true rfl, Nat.le_of_ble_eq_true rfl⟩ (Nat.le_of_ble_eq_true rfl) ⟨by show _ ≤ 601024; omega, by show _ ≤ 7293034; omega⟩ rfl dL_law_767 (fun H locs hw => ?_)
        refine lv_iload hx hb dL_law_770 (lv_at hl 1 rfl) ?_
        refine lv_icmp_eq (tgt := 777) hx hb dL_law_772 (by decide) (fun hc => ?_) (fun hc => ?_)
        · rw [if_pos hc] at h
          refine lv_iload hx hb dL_law_777 (lv_at hl 1 rfl) ?_
          refine lv_if_ne (tgt := 794) hx hb dL_law_779 (by decide) (fun hc => ?_) (fun hc => ?_)
          · rw [if_neg hc] at h
            exact B794 v4 r767.2 _ _ _ _ _ (by omega) (by omega) hw (lv_sub hl [2, 3, 4, 5, 6] rfl) h
          · rw [if_pos hc] at h
            refine lv_aload_n hx hb dL_law_782 rfl (lv_at hl 5 rfl) ?_
            refine lv_iconst (v := (0 : Int32)) hx hb dL_law_783 (by decide) ?_
            refine lJ (j := 0) hC hw ok201 on201 (vin (by decide)) (by decide) dL_law_784 ?_
            refine lv_iload hx hb dL_law_785 (lv_at hl 0 rfl) ?_
            refine lv_i2l hx hb dL_law_787 rfl ?_
            refine W.lcmp hx hb dL_law_788 ?_
            refine lv_if_eq (tgt := 794) hx hb dL_law_789 (by decide) (fun hc => ?_) (fun hc => ?_)
            · rw [if_pos hc] at h
              exact B794 v4 r767.2 _ _ _ _ _ (by omega) (by omega) hw (lv_sub hl [2, 3, 4, 5, 6] rfl) h
            · rw [if_neg hc] at h
              refine lv_iconst (v := (0 : Int32)) hx hb dL_law_792 (by decide) ?_
              exact absurd (congrArg Prod.fst (Option.some.inj h)) (show ¬ (0 : Int32) = 1 by decide)
        · rw [if_neg hc] at h
          refine lv_iconst (v := (0 : Int32)) hx hb dL_law_775 (by decide) ?_
          exact absurd (congrArg Prod.fst (Option.some.inj h)) (show ¬ (0 : Int32) = 1 by decide)
      have B862 : ∀ (v4 : Int32) (μ : Mu) (H : Heap) (locs : List Loc) (ls : Array Slot) (cells slots : Nat), cells + k ≤ 600000 → slots + 6 * k ≤ 7000000 → wd g μ s (fun q => s.heap.size ≤ q) H locs → lv_has ls 8 [(0, .ref b), (1, .ref (g.2.2 0)), (2, .ref (g.2.2 171)), (3, .ref (g.2.2 201)), (4, .int v4)] → law_862 n L xs k23 v4 μ = some (1, μ9) → W p l e room_1 s m #[Value.ref b] below meth c H locs cells slots (lw_Z below #[Value.ref b] s) (F0 m 862 ls []) := by
        intro v4 μ H locs ls cells slots hc1 hc2 hw hl h
        rw [law_862] at h
        refine lv_goto (tgt := 2193) hx hb dL_law_862 (by decide) ?_
        exact B2193 v4 μ _ _ _ _ _ (by omega) (by omega) hw (lv_sub hl [0, 1, 2, 3, 4] rfl) h
      have B797 : ∀ (v4 : Int32) (μ : Mu) (H : Heap) (locs : List Loc) (ls : Array Slot) (cells slots : Nat), cells + (k + 1) ≤ 600000 → slots + 6 * (k + 1) ≤ 7000000 → wd g μ s (fun q => s.heap.size ≤ q) H locs → lv_has ls 8 [(0, .ref b), (1, .ref (g.2.2 0)), (2, .ref (g.2.2 171)), (3, .ref (g.2.2 201)), (4, .int v4)] → law_797 n L xs k23 v4 μ = some (1, μ9) → W p l e room_1 s m #[Value.ref b] below meth c H locs cells slots (lw_Z below #[Value.ref b] s) (F0 m 797 ls []) := by
        intro v4 μ H locs ls cells slots hc1 hc2 hw hl h
        rw [law_797] at h
        refine lv_aload_n hx hb dL_law_797 rfl (lv_at hl 1 rfl) ?_
        refine lv_aload_n hx hb dL_law_798 rfl (lv_at hl 0 rfl) ?_
        refine lv_iload hx hb dL_law_799 (lv_at hl 4 rfl) ?_
        refine lv_iconst (v := (1 : Int32)) hx hb dL_law_801 (by decide) ?_
        refine lv_iadd hx hb dL_law_802 ?_
        obtain ⟨hi803, h⟩ := gd_some h
        refine va_sld hx hb hX hbl hbA hw.2 hi803 dL_law_803 ?_
        refine lv_aload_n hx hb dL_law_804 rfl (lv_at hl 0 rfl) ?_
        refine lv_iload hx hb dL_law_805 (lv_at hl 4 rfl) ?_
        refine lv_iconst (v := (2 : Int32)) hx hb dL_law_807 (by decide) ?_
        refine lv_iadd hx hb dL_law_808 ?_
        obtain ⟨hi809, h⟩ := gd_some h
        refine va_sld hx hb hX hbl hbA hw.2 hi809 dL_law_809 ?_
        refine lv_aload_n hx hb dL_law_810 rfl (lv_at hl 3 rfl) ?_
        obtain ⟨r811, hr811, h⟩ := bnd h
        refine cSL (As := [.ref (g.2.2 0), .int (xs (v4 + (1 : Int32)).toNatClampNeg), .int (xs (v4 + (2 : Int32)).toNatClampNeg), .ref (g.2.2 201)]) (rest := []) (st1 := [.int r811.1]) hC hw (c_L_positions l hst g n (xs (v4 + (1 : Int32)).toNatClampNeg) (xs (v4 + (2 : Int32)).toNatClampNeg) μ r811 hr811) mw_L_positions rfl hl.1 ⟨Nat.le_of_ble_eq_true rfl, Nat.le_of_ble_eq_true rfl⟩ (Nat.le_of_ble_eq_true rfl) ⟨by show _ ≤ 601024; omega, by show _ ≤ 7293034; omega⟩ rfl dL_law_811 (fun H locs hw => ?_)
        refine lv_istore (lv' := [(5, .int r811.1), (0, .ref b), (1, .ref (g.2.2 0)), (2, .ref (g.2.2 171)), (3, .ref (g.2.2 201)), (4, .int v4)]) hx hb dL_law_814 hl (by decide) rfl (fun ls hl => ?_)
        refine lv_aload_n hx hb dL_law_816 rfl (lv_at hl 3 rfl) ?_
        refine lv_aload_n hx hb dL_law_817 rfl (lv_at hl 1 rfl) ?_
        refine lv_iload hx hb dL_law_818 (lv_at hl 5 rfl) ?_
        refine lv_iconst (v := (1 : Int32)) hx hb dL_law_820 (by decide) ?_
        refine lv_iadd hx hb dL_law_821 ?_
        refine va_sld hx hb hX hbl hbA hw.2 hi803 dL_law_822 ?_
        refine lv_aload_n hx hb dL_law_823 rfl (lv_at hl 1 rfl) ?_
        refine lv_iload hx hb dL_law_824 (lv_at hl 5 rfl) ?_
        refine lv_iconst (v := (2 : Int32)) hx hb dL_law_826 (by decide) ?_
        refine lv_iadd hx hb dL_law_827 ?_
        refine va_sld hx hb hX hbl hbA hw.2 hi809 dL_law_828 ?_
        obtain ⟨r829, hr829, h⟩ := bnd h
        refine cV (b := 171) (As := [.int (xs (v4 + (1 : Int32)).toNatClampNeg), .int (xs (v4 + (2 : Int32)).toNatClampNeg)]) (rest := []) (st1 := [.int r829.1]) hC hw (c_X12_positions l g n (xs (v4 + (1 : Int32)).toNatClampNeg) (xs (v4 + (2 : Int32)).toNatClampNeg) r811.2 r829 hr829) ml_L_166 im_X12_positions se_X12_positions ok171 (CN := RX12) (T := TX12) (NF := 54) rfl rfl (by decide) rfl hl.1 ⟨Nat.le_of_ble_eq_true rfl, Nat.le_of_ble_eq_true rfl⟩ (Nat.le_of_ble_eq_true rfl) ⟨by show _ ≤ 601024; omega, by show _ ≤ 7293034; omega⟩ rfl dL_law_829 (fun H locs hw => ?_)
        refine lv_istore (lv' := [(6, .int r829.1), (5, .int r811.1), (0, .ref b), (1, .ref (g.2.2 0)), (2, .ref (g.2.2 171)), (3, .ref (g.2.2 201)), (4, .int v4)]) hx hb dL_law_832 hl (by decide) rfl (fun ls hl => ?_)
        refine lv_aload_n hx hb dL_law_834 rfl (lv_at hl 4 rfl) ?_
        obtain ⟨r835, hr835, h⟩ := bnd h
        refine cV (b := 171) (As := []) (rest := []) (st1 := [.int r835.1]) hC hw (c_X12_thrown l g n r829.2 r835 hr835) ml_L_111 im_X12_thrown se_X12_thrown ok171 (CN := RX12) (T := TX12) (NF := 54) rfl rfl (by decide) rfl hl.1 ⟨Nat.le_of_ble_eq_true rfl, Nat.le_of_ble_eq_true rfl⟩ (Nat.le_of_ble_eq_true rfl) ⟨by show _ ≤ 601024; omega, by show _ ≤ 7293034; omega⟩ rfl dL_law_835 (fun H locs hw => ?_)
        refine lv_iload hx hb dL_law_838 (lv_at hl 1 rfl) ?_
        refine lv_icmp_eq (tgt := 845) hx hb dL_law_840 (by decide) (fun hc => ?_) (fun hc => ?_)
        · rw [if_pos hc] at h
          refine lv_iload hx hb dL_law_845 (lv_at hl 1 rfl) ?_
          refine lv_if_ne (tgt := 862) hx hb dL_law_847 (by decide) (fun hc => ?_) (fun hc => ?_)
          · rw [if_neg hc] at h
            exact B862 v4 r835.2 _ _ _ _ _ (by omega) (by omega) hw (lv_sub hl [2, 3, 4, 5, 6] rfl) h
          · rw [if_pos hc] at h
            refine lv_aload_n hx hb dL_law_850 rfl (lv_at hl 5 rfl) ?_
            refine lv_iconst (v := (0 : Int32)) hx hb dL_law_851 (by decide) ?_
            refine lJ (j := 0) hC hw ok201 on201 (vin (by decide)) (by decide) dL_law_852 ?_
            refine lv_iload hx hb dL_law_853 (lv_at hl 0 rfl) ?_
            refine lv_i2l hx hb dL_law_855 rfl ?_
            refine W.lcmp hx hb dL_law_856 ?_
            refine lv_if_eq (tgt := 862) hx hb dL_law_857 (by decide) (fun hc => ?_) (fun hc => ?_)
            · rw [if_pos hc] at h
              exact B862 v4 r835.2 _ _ _ _ _ (by omega) (by omega) hw (lv_sub hl [2, 3, 4, 5, 6] rfl) h
            · rw [if_neg hc] at h
              refine lv_iconst (v := (0 : Int32)) hx hb dL_law_860 (by decide) ?_
              exact absurd (congrArg Prod.fst (Option.some.inj h)) (show ¬ (0 : Int32) = 1 by decide)
        · rw [if_neg hc] at h
          refine lv_iconst (v := (0 : Int32)) hx hb dL_law_843 (by decide) ?_
          exact absurd (congrArg Prod.fst (Option.some.inj h)) (show ¬ (0 : Int32) = 1 by decide)
      have B865 : ∀ (v4 : Int32) (μ : Mu) (H : Heap) (locs : List Loc) (ls : Array Slot) (cells slots : Nat), cells + (k + 1) ≤ 600000 → slots + 6 * (k + 1) ≤ 7000000 → wd g μ s (fun q => s.heap.size ≤ q) H locs → lv_has ls 8 [(0, .ref b), (1, .ref (g.2.2 0)), (2, .ref (g.2.2 171)), (3, .ref (g.2.2 201)), (4, .int v4)] → law_865 n L xs k23 v4 μ = some (1, μ9) → W p l e room_1 s m #[Value.ref b] below meth c H locs cells slots (lw_Z below #[Value.ref b] s) (F0 m 865 ls []) := by
        intro v4 μ H locs ls cells slots hc1 hc2 hw hl h
        rw [law_865] at h
        refine lv_aload_n hx hb dL_law_865 rfl (lv_at hl 1 rfl) ?_
        obtain ⟨r866, hr866, h⟩ := bnd h
        refine cV (b := 0) (As := []) (rest := []) (st1 := [.int r866.1]) hC hw (c_X11_place l g n μ r866 hr866) ml_L_167 im_X11_place se_X11_place ok0 (CN := RX11) (T := TX11) (NF := 12) rfl rfl (by decide) rfl hl.1 ⟨Nat.le_of_ble_eq_true rfl, Nat.le_of_ble_eq_true rfl⟩ (Nat.le_of_ble_eq_true rfl) ⟨by show _ ≤ 601024; omega, by show _ ≤ 7293034; omega⟩ rfl dL_law_866 (fun H locs hw => ?_)
        refine lv_aload_n hx hb dL_law_869 rfl (lv_at hl 2 rfl) ?_
        obtain ⟨r870, hr870, h⟩ := bnd h
        refine cV (b := 171) (As := []) (rest := [.int r866.1]) (st1 := [.int r870.1, .int r866.1]) hC hw (c_X12_place l g n r866.2 r870 hr870) ml_L_170 im_X12_place se_X12_place ok171 (CN := RX12) (T := TX12) (NF := 54) rfl rfl (by decide) rfl hl.1 ⟨Nat.le_of_ble_eq_true rfl, Nat.le_of_ble_eq_true rfl⟩ (Nat.le_of_ble_eq_true rfl) ⟨by show _ ≤ 601024; omega, by show _ ≤ 7293034; omega⟩ rfl dL_law_870 (fun H locs hw => ?_)
        refine lv_icmp_eq (tgt := 2193) hx hb dL_law_873 (by decide) (fun hc => ?_) (fun hc => ?_)
        · rw [if_pos hc] at h
          exact B2193 v4 r870.2 _ _ _ _ _ (by omega) (by omega) hw (lv_sub hl [0, 1, 2, 3, 4] rfl) h
        · rw [if_neg hc] at h
          refine lv_iconst (v := (0 : Int32)) hx hb dL_law_876 (by decide) ?_
          exact absurd (congrArg Prod.fst (Option.some.inj h)) (show ¬ (0 : Int32) = 1 by decide)
      have B967 : ∀ (v4 : Int32) (μ : Mu) (H : Heap) (locs : List Loc) (ls : Array Slot) (cells slots : Nat), cells + k ≤ 600000 → slots + 6 * k ≤ 7000000 → wd g μ s (fun q => s.heap.size ≤ q) H locs → lv_has ls 8 [(0, .ref b), (1, .ref (g.2.2 0)), (2, .ref (g.2.2 171)), (3, .ref (g.2.2 201)), (4, .int v4)] → law_967 n L xs k23 v4 μ = some (1, μ9) → W p l e room_1 s m #[Value.ref b] below meth c H locs cells slots (lw_Z below #[Value.ref b] s) (F0 m 967 ls []) := by
        intro v4 μ H locs ls cells slots hc1 hc2 hw hl h
        rw [law_967] at h
        refine lv_goto (tgt := 2193) hx hb dL_law_967 (by decide) ?_
        exact B2193 v4 μ _ _ _ _ _ (by omega) (by omega) hw (lv_sub hl [0, 1, 2, 3, 4] rfl) h
      have B878 : ∀ (v4 : Int32) (μ : Mu) (H : Heap) (locs : List Loc) (ls : Array Slot) (cells slots : Nat), cells + (k + 1) ≤ 600000 → slots + 6 * (k + 1) ≤ 7000000 → wd g μ s (fun q => s.heap.size ≤ q) H locs → lv_has ls 8 [(0, .ref b), (1, .ref (g.2.2 0)), (2, .ref (g.2.2 171)), (3, .ref (g.2.2 201)), (4, .int v4)] → law_878 n L xs k23 v4 μ = some (1, μ9) → W p l e room_1 s m #[Value.ref b] below meth c H locs cells slots (lw_Z below #[Value.ref b] s) (F0 m 878 ls []) := by
        intro v4 μ H locs ls cells slots hc1 hc2 hw hl h
        rw [law_878] at h
        refine lv_aload_n hx hb dL_law_878 rfl (lv_at hl 1 rfl) ?_
        refine lv_aload_n hx hb dL_law_879 rfl (lv_at hl 0 rfl) ?_
        refine lv_iload hx hb dL_law_880 (lv_at hl 4 rfl) ?_
        refine lv_iconst (v := (1 : Int32)) hx hb dL_law_882 (by decide) ?_
        refine lv_iadd hx hb dL_law_883 ?_
        obtain ⟨hi884, h⟩ := gd_some h
        refine va_sld hx hb hX hbl hbA hw.2 hi884 dL_law_884 ?_
        refine lv_aload_n hx hb dL_law_885 rfl (lv_at hl 0 rfl) ?_
        refine lv_iload hx hb dL_law_886 (lv_at hl 4 rfl) ?_
        refine lv_iconst (v := (2 : Int32)) hx hb dL_law_888 (by decide) ?_
        refine lv_iadd hx hb dL_law_889 ?_
        obtain ⟨hi890, h⟩ := gd_some h
        refine va_sld hx hb hX hbl hbA hw.2 hi890 dL_law_890 ?_
        refine lv_aload_n hx hb dL_law_891 rfl (lv_at hl 0 rfl) ?_
        refine lv_iload hx hb dL_law_892 (lv_at hl 4 rfl) ?_
        refine lv_iconst (v := (3 : Int32)) hx hb dL_law_894 (by decide) ?_
        refine lv_iadd hx hb dL_law_895 ?_
        obtain ⟨hi896, h⟩ := gd_some h
        refine va_sld hx hb hX hbl hbA hw.2 hi896 dL_law_896 ?_
        refine lv_aload_n hx hb dL_law_897 rfl (lv_at hl 0 rfl) ?_
        refine lv_iload hx hb dL_law_898 (lv_at hl 4 rfl) ?_
        refine lv_iconst (v := (4 : Int32)) hx hb dL_law_900 (by decide) ?_
        refine lv_iadd hx hb dL_law_901 ?_
        obtain ⟨hi902, h⟩ := gd_some h
        refine va_sld hx hb hX hbl hbA hw.2 hi902 dL_law_902 ?_
        refine lv_aload_n hx hb dL_law_903 rfl (lv_at hl 3 rfl) ?_
        obtain ⟨r904, hr904, h⟩ := bnd h
        refine cSL (As := [.ref (g.2.2 0), .int (xs (v4 + (1 : Int32)).toNatClampNeg), .int (xs (v4 + (2 : Int32)).toNatClampNeg), .int (xs (v4 + (3 : Int32)).toNatClampNeg), .int (xs (v4 + (4 : Int32)).toNatClampNeg), .ref (g.2.2 201)]) (rest := []) (st1 := [.int r904.1]) hC hw (c_L_ofPlace l hst g n (xs (v4 + (1 : Int32)).toNatClampNeg) (xs (v4 + (2 : Int32)).toNatClampNeg) (xs (v4 + (3 : Int32)).toNatClampNeg) (xs (v4 + (4 : Int32)).toNatClampNeg) μ r904 hr904) mw_L_ofPlace rfl hl.1 ⟨Nat.le_of_ble_eq_true rfl, Nat.le_of_ble_eq_true rfl⟩ (Nat.le_of_ble_eq_true rfl) ⟨by show _ ≤ 601024; omega, by show _ ≤ 7293034; omega⟩ rfl dL_law_904 (fun H locs hw => ?_)
        refine lv_istore (lv' := [(5, .int r904.1), (0, .ref b), (1, .ref (g.2.2 0)), (2, .ref (g.2.2 171)), (3, .ref (g.2.2 201)), (4, .int v4)]) hx hb dL_law_907 hl (by decide) rfl (fun ls hl => ?_)
        refine lv_aload_n hx hb dL_law_909 rfl (lv_at hl 3 rfl) ?_
        refine lv_aload_n hx hb dL_law_910 rfl (lv_at hl 1 rfl) ?_
        refine lv_iload hx hb dL_law_911 (lv_at hl 5 rfl) ?_
        refine lv_iconst (v := (1 : Int32)) hx hb dL_law_913 (by decide) ?_
        refine lv_iadd hx hb dL_law_914 ?_
        refine va_sld hx hb hX hbl hbA hw.2 hi884 dL_law_915 ?_
        refine lv_aload_n hx hb dL_law_916 rfl (lv_at hl 1 rfl) ?_
        refine lv_iload hx hb dL_law_917 (lv_at hl 5 rfl) ?_
        refine lv_iconst (v := (2 : Int32)) hx hb dL_law_919 (by decide) ?_
        refine lv_iadd hx hb dL_law_920 ?_
        refine va_sld hx hb hX hbl hbA hw.2 hi890 dL_law_921 ?_
        refine lv_aload_n hx hb dL_law_922 rfl (lv_at hl 1 rfl) ?_
        refine lv_iload hx hb dL_law_923 (lv_at hl 5 rfl) ?_
        refine lv_iconst (v := (3 : Int32)) hx hb dL_law_925 (by decide) ?_
        refine lv_iadd hx hb dL_law_926 ?_
        refine va_sld hx hb hX hbl hbA hw.2 hi896 dL_law_927 ?_
        refine lv_aload_n hx hb dL_law_928 rfl (lv_at hl 1 rfl) ?_
        refine lv_iload hx hb dL_law_929 (lv_at hl 5 rfl) ?_
        refine lv_iconst (v := (4 : Int32)) hx hb dL_law_931 (by decide) ?_
        refine lv_iadd hx hb dL_law_932 ?_
        refine va_sld hx hb hX hbl hbA hw.2 hi902 dL_law_933 ?_
        obtain ⟨r934, hr934, h⟩ := bnd h
        refine cV (b := 171) (As := [.int (xs (v4 + (1 : Int32)).toNatClampNeg), .int (xs (v4 + (2 : Int32)).toNatClampNeg), .int (xs (v4 + (3 : Int32)).toNatClampNeg), .int (xs (v4 + (4 : Int32)).toNatClampNeg)]) (rest := []) (st1 := [.int r934.1]) hC hw (c_X12_ofPlace l g n (xs (v4 + (1 : Int32)).toNatClampNeg) (xs (v4 + (2 : Int32)).toNatClampNeg) (xs (v4 + (3 : Int32)).toNatClampNeg) (xs (v4 + (4 : Int32)).toNatClampNeg) r904.2 r934 hr934) ml_L_174 im_X12_ofPlace se_X12_ofPlace ok171 (CN := RX12) (T := TX12) (NF := 54) rfl rfl (by decide) rfl hl.1 ⟨Nat.le_of_ble_eq_true rfl, Nat.le_of_ble_eq_true rfl⟩ (Nat.le_of_ble_eq_true rfl) ⟨by show _ ≤ 601024; omega, by show _ ≤ 7293034; omega⟩ rfl dL_law_934 (fun H locs hw => ?_)
        refine lv_istore (lv' := [(6, .int r934.1), (5, .int r904.1), (0, .ref b), (1, .ref (g.2.2 0)), (2, .ref (g.2.2 171)), (3, .ref (g.2.2 201)), (4, .int v4)]) hx hb dL_law_937 hl (by decide) rfl (fun ls hl => ?_)
        refine lv_aload_n hx hb dL_law_939 rfl (lv_at hl 4 rfl) ?_
        obtain ⟨r940, hr940, h⟩ := bnd h
        refine cV (b := 171) (As := []) (rest := []) (st1 := [.int r940.1]) hC hw (c_X12_thrown l g n r934.2 r940 hr940) ml_L_111 im_X12_thrown se_X12_thrown ok171 (CN := RX12) (T := TX12) (NF := 54) rfl rfl (by decide) rfl hl.1 ⟨Nat.le_of_ble_eq_true rfl, Nat.le_of_ble_eq_true rfl⟩ (Nat.le_of_ble_eq_true rfl) ⟨by show _ ≤ 601024; omega, by show _ ≤ 7293034; omega⟩ rfl dL_law_940 (fun H locs hw => ?_)
        refine lv_iload hx hb dL_law_943 (lv_at hl 1 rfl) ?_
        refine lv_icmp_eq (tgt := 950) hx hb dL_law_945 (by decide) (fun hc => ?_) (fun hc => ?_)
        · rw [if_pos hc] at h
          refine lv_iload hx hb dL_law_950 (lv_at hl 1 rfl) ?_
          refine lv_if_ne (tgt := 967) hx hb dL_law_952 (by decide) (fun hc => ?_) (fun hc => ?_)
          · rw [if_neg hc] at h
            exact B967 v4 r940.2 _ _ _ _ _ (by omega) (by omega) hw (lv_sub hl [2, 3, 4, 5, 6] rfl) h
          · rw [if_pos hc] at h
            refine lv_aload_n hx hb dL_law_955 rfl (lv_at hl 5 rfl) ?_
            refine lv_iconst (v := (0 : Int32)) hx hb dL_law_956 (by decide) ?_
            refine lJ (j := 0) hC hw ok201 on201 (vin (by decide)) (by decide) dL_law_957 ?_
            refine lv_iload hx hb dL_law_958 (lv_at hl 0 rfl) ?_
            refine lv_i2l hx hb dL_law_960 rfl ?_
            refine W.lcmp hx hb dL_law_961 ?_
            refine lv_if_eq (tgt := 967) hx hb dL_law_962 (by decide) (fun hc => ?_) (fun hc => ?_)
            · rw [if_pos hc] at h
              exact B967 v4 r940.2 _ _ _ _ _ (by omega) (by omega) hw (lv_sub hl [2, 3, 4, 5, 6] rfl) h
            · rw [if_neg hc] at h
              refine lv_iconst (v := (0 : Int32)) hx hb dL_law_965 (by decide) ?_
              exact absurd (congrArg Prod.fst (Option.some.inj h)) (show ¬ (0 : Int32) = 1 by decide)
        · rw [if_neg hc] at h
          refine lv_iconst (v := (0 : Int32)) hx hb dL_law_948 (by decide) ?_
          exact absurd (congrArg Prod.fst (Option.some.inj h)) (show ¬ (0 : Int32) = 1 by decide)
      have B970 : ∀ (v4 : Int32) (μ : Mu) (H : Heap) (locs : List Loc) (ls : Array Slot) (cells slots : Nat), cells + (k + 1) ≤ 600000 → slots + 6 * (k + 1) ≤ 7000000 → wd g μ s (fun q => s.heap.size ≤ q) H locs → lv_has ls 8 [(0, .ref b), (1, .ref (g.2.2 0)), (2, .ref (g.2.2 171)), (3, .ref (g.2.2 201)), (4, .int v4)] → law_970 n L xs k23 v4 μ = some (1, μ9) → W p l e room_1 s m #[Value.ref b] below meth c H locs cells slots (lw_Z below #[Value.ref b] s) (F0 m 970 ls []) := by
        intro v4 μ H locs ls cells slots hc1 hc2 hw hl h
        rw [law_970] at h
        refine lv_aload_n hx hb dL_law_970 rfl (lv_at hl 1 rfl) ?_
        obtain ⟨r971, hr971, h⟩ := bnd h
        refine cV (b := 0) (As := []) (rest := []) (st1 := [.int r971.1]) hC hw (c_X11_value l g n μ r971 hr971) ml_L_175 im_X11_value se_X11_value ok0 (CN := RX11) (T := TX11) (NF := 12) rfl rfl (by decide) rfl hl.1 ⟨Nat.le_of_ble_eq_true rfl, Nat.le_of_ble_eq_true rfl⟩ (Nat.le_of_ble_eq_true rfl) ⟨by show _ ≤ 601024; omega, by show _ ≤ 7293034; omega⟩ rfl dL_law_971 (fun H locs hw => ?_)
        refine lv_aload_n hx hb dL_law_974 rfl (lv_at hl 2 rfl) ?_
        obtain ⟨r975, hr975, h⟩ := bnd h
        refine cV (b := 171) (As := []) (rest := [.int r971.1]) (st1 := [.int r975.1, .int r971.1]) hC hw (c_X12_value l g n r971.2 r975 hr975) ml_L_178 im_X12_value se_X12_value ok171 (CN := RX12) (T := TX12) (NF := 54) rfl rfl (by decide) rfl hl.1 ⟨Nat.le_of_ble_eq_true rfl, Nat.le_of_ble_eq_true rfl⟩ (Nat.le_of_ble_eq_true rfl) ⟨by show _ ≤ 601024; omega, by show _ ≤ 7293034; omega⟩ rfl dL_law_975 (fun H locs hw => ?_)
        refine lv_icmp_eq (tgt := 2193) hx hb dL_law_978 (by decide) (fun hc => ?_) (fun hc => ?_)
        · rw [if_pos hc] at h
          exact B2193 v4 r975.2 _ _ _ _ _ (by omega) (by omega) hw (lv_sub hl [0, 1, 2, 3, 4] rfl) h
        · rw [if_neg hc] at h
          refine lv_iconst (v := (0 : Int32)) hx hb dL_law_981 (by decide) ?_
          exact absurd (congrArg Prod.fst (Option.some.inj h)) (show ¬ (0 : Int32) = 1 by decide)
      have B983 : ∀ (v4 : Int32) (μ : Mu) (H : Heap) (locs : List Loc) (ls : Array Slot) (cells slots : Nat), cells + (k + 1) ≤ 600000 → slots + 6 * (k + 1) ≤ 7000000 → wd g μ s (fun q => s.heap.size ≤ q) H locs → lv_has ls 8 [(0, .ref b), (1, .ref (g.2.2 0)), (2, .ref (g.2.2 171)), (3, .ref (g.2.2 201)), (4, .int v4)] → law_983 n L xs k23 v4 μ = some (1, μ9) → W p l e room_1 s m #[Value.ref b] below meth c H locs cells slots (lw_Z below #[Value.ref b] s) (F0 m 983 ls []) := by
        intro v4 μ H locs ls cells slots hc1 hc2 hw hl h
        rw [law_983] at h
        refine lv_aload_n hx hb dL_law_983 rfl (lv_at hl 1 rfl) ?_
        obtain ⟨r984, hr984, h⟩ := bnd h
        refine cV (b := 0) (As := []) (rest := []) (st1 := [.int r984.1]) hC hw (c_X11_rank l g n μ r984 hr984) ml_L_179 im_X11_rank se_X11_rank ok0 (CN := RX11) (T := TX11) (NF := 12) rfl rfl (by decide) rfl hl.1 ⟨Nat.le_of_ble_eq_true rfl, Nat.le_of_ble_eq_true rfl⟩ (Nat.le_of_ble_eq_true rfl) ⟨by show _ ≤ 601024; omega, by show _ ≤ 7293034; omega⟩ rfl dL_law_984 (fun H locs hw => ?_)
        refine lv_aload_n hx hb dL_law_987 rfl (lv_at hl 2 rfl) ?_
        obtain ⟨r988, hr988, h⟩ := bnd h
        refine cV (b := 171) (As := []) (rest := [.int r984.1]) (st1 := [.int r988.1, .int r984.1]) hC hw (c_X12_rank l g n r984.2 r988 hr988) ml_L_182 im_X12_rank se_X12_rank ok171 (CN := RX12) (T := TX12) (NF := 54) rfl rfl (by decide) rfl hl.1 ⟨Nat.le_of_ble_eq_true rfl, Nat.le_of_ble_eq_true rfl⟩ (Nat.le_of_ble_eq_true rfl) ⟨by show _ ≤ 601024; omega, by show _ ≤ 7293034; omega⟩ rfl dL_law_988 (fun H locs hw => ?_)
        refine lv_icmp_eq (tgt := 2193) hx hb dL_law_991 (by decide) (fun hc => ?_) (fun hc => ?_)
        · rw [if_pos hc] at h
          exact B2193 v4 r988.2 _ _ _ _ _ (by omega) (by omega) hw (lv_sub hl [0, 1, 2, 3, 4] rfl) h
        · rw [if_neg hc] at h
          refine lv_iconst (v := (0 : Int32)) hx hb dL_law_994 (by decide) ?_
          exact absurd (congrArg Prod.fst (Option.some.inj h)) (show ¬ (0 : Int32) = 1 by decide)
      have B996 : ∀ (v4 : Int32) (μ : Mu) (H : Heap) (locs : List Loc) (ls : Array Slot) (cells slots : Nat), cells + (k + 1) ≤ 600000 → slots + 6 * (k + 1) ≤ 7000000 → wd g μ s (fun q => s.heap.size ≤ q) H locs → lv_has ls 8 [(0, .ref b), (1, .ref (g.2.2 0)), (2, .ref (g.2.2 171)), (3, .ref (g.2.2 201)), (4, .int v4)] → law_996 n L xs k23 v4 μ = some (1, μ9) → W p l e room_1 s m #[Value.ref b] below meth c H locs cells slots (lw_Z below #[Value.ref b] s) (F0 m 996 ls []) := by
        intro v4 μ H locs ls cells slots hc1 hc2 hw hl h
        rw [law_996] at h
        refine lv_aload_n hx hb dL_law_996 rfl (lv_at hl 1 rfl) ?_
        obtain ⟨r997, hr997, h⟩ := bnd h
        refine cV (b := 0) (As := []) (rest := []) (st1 := [.int r997.1]) hC hw (c_X11_best l g n μ r997 hr997) ml_L_183 im_X11_best se_X11_best ok0 (CN := RX11) (T := TX11) (NF := 12) rfl rfl (by decide) rfl hl.1 ⟨Nat.le_of_ble_eq_true rfl, Nat.le_of_ble_eq_true rfl⟩ (Nat.le_of_ble_eq_true rfl) ⟨by show _ ≤ 601024; omega, by show _ ≤ 7293034; omega⟩ rfl dL_law_997 (fun H locs hw => ?_)
        refine lv_aload_n hx hb dL_law_1000 rfl (lv_at hl 2 rfl) ?_
        obtain ⟨r1001, hr1001, h⟩ := bnd h
        refine cV (b := 171) (As := []) (rest := [.int r997.1]) (st1 := [.int r1001.1, .int r997.1]) hC hw (c_X12_best l g n r997.2 r1001 hr1001) ml_L_186 im_X12_best se_X12_best ok171 (CN := RX12) (T := TX12) (NF := 54) rfl rfl (by decide) rfl hl.1 ⟨Nat.le_of_ble_eq_true rfl, Nat.le_of_ble_eq_true rfl⟩ (Nat.le_of_ble_eq_true rfl) ⟨by show _ ≤ 601024; omega, by show _ ≤ 7293034; omega⟩ rfl dL_law_1001 (fun H locs hw => ?_)
        refine lv_icmp_eq (tgt := 2193) hx hb dL_law_1004 (by decide) (fun hc => ?_) (fun hc => ?_)
        · rw [if_pos hc] at h
          exact B2193 v4 r1001.2 _ _ _ _ _ (by omega) (by omega) hw (lv_sub hl [0, 1, 2, 3, 4] rfl) h
        · rw [if_neg hc] at h
          refine lv_iconst (v := (0 : Int32)) hx hb dL_law_1007 (by decide) ?_
          exact absurd (congrArg Prod.fst (Option.some.inj h)) (show ¬ (0 : Int32) = 1 by decide)
      have B1009 : ∀ (v4 : Int32) (μ : Mu) (H : Heap) (locs : List Loc) (ls : Array Slot) (cells slots : Nat), cells + (k + 1) ≤ 600000 → slots + 6 * (k + 1) ≤ 7000000 → wd g μ s (fun q => s.heap.size ≤ q) H locs → lv_has ls 8 [(0, .ref b), (1, .ref (g.2.2 0)), (2, .ref (g.2.2 171)), (3, .ref (g.2.2 201)), (4, .int v4)] → law_1009 n L xs k23 v4 μ = some (1, μ9) → W p l e room_1 s m #[Value.ref b] below meth c H locs cells slots (lw_Z below #[Value.ref b] s) (F0 m 1009 ls []) := by
        intro v4 μ H locs ls cells slots hc1 hc2 hw hl h
        rw [law_1009] at h
        refine lv_aload_n hx hb dL_law_1009 rfl (lv_at hl 1 rfl) ?_
        refine lv_aload_n hx hb dL_law_1010 rfl (lv_at hl 0 rfl) ?_
        refine lv_iload hx hb dL_law_1011 (lv_at hl 4 rfl) ?_
        refine lv_iconst (v := (1 : Int32)) hx hb dL_law_1013 (by decide) ?_
        refine lv_iadd hx hb dL_law_1014 ?_
        obtain ⟨hi1015, h⟩ := gd_some h
        refine va_sld hx hb hX hbl hbA hw.2 hi1015 dL_law_1015 ?_
        obtain ⟨r1016, hr1016, h⟩ := bnd h
        refine cV (b := 0) (As := [.int (xs (v4 + (1 : Int32)).toNatClampNeg)]) (rest := []) (st1 := [.int r1016.1]) hC hw (c_X11_worth l g n (xs (v4 + (1 : Int32)).toNatClampNeg) μ r1016 hr1016) ml_L_187 im_X11_worth se_X11_worth ok0 (CN := RX11) (T := TX11) (NF := 12) rfl rfl (by decide) rfl hl.1 ⟨Nat.le_of_ble_eq_true rfl, Nat.le_of_ble_eq_true rfl⟩ (Nat.le_of_ble_eq_true rfl) ⟨by show _ ≤ 601024; omega, by show _ ≤ 7293034; omega⟩ rfl dL_law_1016 (fun H locs hw => ?_)
        refine lv_aload_n hx hb dL_law_1019 rfl (lv_at hl 2 rfl) ?_
        refine lv_aload_n hx hb dL_law_1020 rfl (lv_at hl 0 rfl) ?_
        refine lv_iload hx hb dL_law_1021 (lv_at hl 4 rfl) ?_
        refine lv_iconst (v := (1 : Int32)) hx hb dL_law_1023 (by decide) ?_
        refine lv_iadd hx hb dL_law_1024 ?_
        refine va_sld hx hb hX hbl hbA hw.2 hi1015 dL_law_1025 ?_
        obtain ⟨r1026, hr1026, h⟩ := bnd h
        refine cV (b := 171) (As := [.int (xs (v4 + (1 : Int32)).toNatClampNeg)]) (rest := [.int r1016.1]) (st1 := [.int r1026.1, .int r1016.1]) hC hw (c_X12_worth l g n (xs (v4 + (1 : Int32)).toNatClampNeg) r1016.2 r1026 hr1026) ml_L_190 im_X12_worth se_X12_worth ok171 (CN := RX12) (T := TX12) (NF := 54) rfl rfl (by decide) rfl hl.1 ⟨Nat.le_of_ble_eq_true rfl, Nat.le_of_ble_eq_true rfl⟩ (Nat.le_of_ble_eq_true rfl) ⟨by show _ ≤ 601024; omega, by show _ ≤ 7293034; omega⟩ rfl dL_law_1026 (fun H locs hw => ?_)
        refine lv_icmp_eq (tgt := 2193) hx hb dL_law_1029 (by decide) (fun hc => ?_) (fun hc => ?_)
        · rw [if_pos hc] at h
          exact B2193 v4 r1026.2 _ _ _ _ _ (by omega) (by omega) hw (lv_sub hl [0, 1, 2, 3, 4] rfl) h
        · rw [if_neg hc] at h
          refine lv_iconst (v := (0 : Int32)) hx hb dL_law_1032 (by decide) ?_
          exact absurd (congrArg Prod.fst (Option.some.inj h)) (show ¬ (0 : Int32) = 1 by decide)
      have B1111 : ∀ (v4 : Int32) (μ : Mu) (H : Heap) (locs : List Loc) (ls : Array Slot) (cells slots : Nat), cells + k ≤ 600000 → slots + 6 * k ≤ 7000000 → wd g μ s (fun q => s.heap.size ≤ q) H locs → lv_has ls 8 [(0, .ref b), (1, .ref (g.2.2 0)), (2, .ref (g.2.2 171)), (3, .ref (g.2.2 201)), (4, .int v4)] → law_1111 n L xs k23 v4 μ = some (1, μ9) → W p l e room_1 s m #[Value.ref b] below meth c H locs cells slots (lw_Z below #[Value.ref b] s) (F0 m 1111 ls []) := by
        intro v4 μ H locs ls cells slots hc1 hc2 hw hl h
        rw [law_1111] at h
        refine lv_goto (tgt := 2193) hx hb dL_law_1111 (by decide) ?_
        exact B2193 v4 μ _ _ _ _ _ (by omega) (by omega) hw (lv_sub hl [0, 1, 2, 3, 4] rfl) h
      have B1034 : ∀ (v4 : Int32) (μ : Mu) (H : Heap) (locs : List Loc) (ls : Array Slot) (cells slots : Nat), cells + (k + 1) ≤ 600000 → slots + 6 * (k + 1) ≤ 7000000 → wd g μ s (fun q => s.heap.size ≤ q) H locs → lv_has ls 8 [(0, .ref b), (1, .ref (g.2.2 0)), (2, .ref (g.2.2 171)), (3, .ref (g.2.2 201)), (4, .int v4)] → law_1034 n L xs k23 v4 μ = some (1, μ9) → W p l e room_1 s m #[Value.ref b] below meth c H locs cells slots (lw_Z below #[Value.ref b] s) (F0 m 1034 ls []) := by
        intro v4 μ H locs ls cells slots hc1 hc2 hw hl h
        rw [law_1034] at h
        refine lv_aload_n hx hb dL_law_1034 rfl (lv_at hl 1 rfl) ?_
        refine lv_aload_n hx hb dL_law_1035 rfl (lv_at hl 0 rfl) ?_
        refine lv_iload hx hb dL_law_1036 (lv_at hl 4 rfl) ?_
        refine lv_iconst (v := (1 : Int32)) hx hb dL_law_1038 (by decide) ?_
        refine lv_iadd hx hb dL_law_1039 ?_
        obtain ⟨hi1040, h⟩ := gd_some h
        refine va_sld hx hb hX hbl hbA hw.2 hi1040 dL_law_1040 ?_
        refine lv_aload_n hx hb dL_law_1041 rfl (lv_at hl 0 rfl) ?_
        refine lv_iload hx hb dL_law_1042 (lv_at hl 4 rfl) ?_
        refine lv_iconst (v := (2 : Int32)) hx hb dL_law_1044 (by decide) ?_
        refine lv_iadd hx hb dL_law_1045 ?_
        obtain ⟨hi1046, h⟩ := gd_some h
        refine va_sld hx hb hX hbl hbA hw.2 hi1046 dL_law_1046 ?_
        refine lv_aload_n hx hb dL_law_1047 rfl (lv_at hl 0 rfl) ?_
        refine lv_iload hx hb dL_law_1048 (lv_at hl 4 rfl) ?_
        refine lv_iconst (v := (3 : Int32)) hx hb dL_law_1050 (by decide) ?_
        refine lv_iadd hx hb dL_law_1051 ?_
        obtain ⟨hi1052, h⟩ := gd_some h
        refine va_sld hx hb hX hbl hbA hw.2 hi1052 dL_law_1052 ?_
        refine lv_aload_n hx hb dL_law_1053 rfl (lv_at hl 3 rfl) ?_
        obtain ⟨r1054, hr1054, h⟩ := bnd h
        refine cSL (As := [.ref (g.2.2 0), .int (xs (v4 + (1 : Int32)).toNatClampNeg), .int (xs (v4 + (2 : Int32)).toNatClampNeg), .int (xs (v4 + (3 : Int32)).toNatClampNeg), .ref (g.2.2 201)]) (rest := []) (st1 := [.int r1054.1]) hC hw (c_L_valueOf l hst g n (xs (v4 + (1 : Int32)).toNatClampNeg) (xs (v4 + (2 : Int32)).toNatClampNeg) (xs (v4 + (3 : Int32)).toNatClampNeg) μ r1054 hr1054) mw_L_valueOf rfl hl.1 ⟨Nat.le_of_ble_eq_true rfl, Nat.le_of_ble_eq_true rfl⟩ (Nat.le_of_ble_eq_true rfl) ⟨by show _ ≤ 601024; omega, by show _ ≤ 7293034; omega⟩ rfl dL_law_1054 (fun H locs hw => ?_)
        refine lv_istore (lv' := [(5, .int r1054.1), (0, .ref b), (1, .ref (g.2.2 0)), (2, .ref (g.2.2 171)), (3, .ref (g.2.2 201)), (4, .int v4)]) hx hb dL_law_1057 hl (by decide) rfl (fun ls hl => ?_)
        refine lv_aload_n hx hb dL_law_1059 rfl (lv_at hl 3 rfl) ?_
        refine lv_aload_n hx hb dL_law_1060 rfl (lv_at hl 1 rfl) ?_
        refine lv_iload hx hb dL_law_1061 (lv_at hl 5 rfl) ?_
        refine lv_iconst (v := (1 : Int32)) hx hb dL_law_1063 (by decide) ?_
        refine lv_iadd hx hb dL_law_1064 ?_
        refine va_sld hx hb hX hbl hbA hw.2 hi1040 dL_law_1065 ?_
        refine lv_aload_n hx hb dL_law_1066 rfl (lv_at hl 1 rfl) ?_
        refine lv_iload hx hb dL_law_1067 (lv_at hl 5 rfl) ?_
        refine lv_iconst (v := (2 : Int32)) hx hb dL_law_1069 (by decide) ?_
        refine lv_iadd hx hb dL_law_1070 ?_
        refine va_sld hx hb hX hbl hbA hw.2 hi1046 dL_law_1071 ?_
        refine lv_aload_n hx hb dL_law_1072 rfl (lv_at hl 1 rfl) ?_
        refine lv_iload hx hb dL_law_1073 (lv_at hl 5 rfl) ?_
        refine lv_iconst (v := (3 : Int32)) hx hb dL_law_1075 (by decide) ?_
        refine lv_iadd hx hb dL_law_1076 ?_
        refine va_sld hx hb hX hbl hbA hw.2 hi1052 dL_law_1077 ?_
        obtain ⟨r1078, hr1078, h⟩ := bnd h
        refine cV (b := 171) (As := [.int (xs (v4 + (1 : Int32)).toNatClampNeg), .int (xs (v4 + (2 : Int32)).toNatClampNeg), .int (xs (v4 + (3 : Int32)).toNatClampNeg)]) (rest := []) (st1 := [.int r1078.1]) hC hw (c_X12_valueOf l g n (xs (v4 + (1 : Int32)).toNatClampNeg) (xs (v4 + (2 : Int32)).toNatClampNeg) (xs (v4 + (3 : Int32)).toNatClampNeg) r1054.2 r1078 hr1078) ml_L_194 im_X12_valueOf se_X12_valueOf ok171 (CN := RX12) (T := TX12) (NF := 54) rfl rfl (by decide) rfl hl.1 ⟨Nat.le_of_ble_eq_true rfl, Nat.le_of_ble_eq_true rfl⟩ (Nat.le_of_ble_eq_true rfl) ⟨by show _ ≤ 601024; omega, by show _ ≤ 7293034; omega⟩ rfl dL_law_1078 (fun H locs hw => ?_)
        refine lv_istore (lv' := [(6, .int r1078.1), (5, .int r1054.1), (0, .ref b), (1, .ref (g.2.2 0)), (2, .ref (g.2.2 171)), (3, .ref (g.2.2 201)), (4, .int v4)]) hx hb dL_law_1081 hl (by decide) rfl (fun ls hl => ?_)
        refine lv_aload_n hx hb dL_law_1083 rfl (lv_at hl 4 rfl) ?_
        obtain ⟨r1084, hr1084, h⟩ := bnd h
        refine cV (b := 171) (As := []) (rest := []) (st1 := [.int r1084.1]) hC hw (c_X12_thrown l g n r1078.2 r1084 hr1084) ml_L_111 im_X12_thrown se_X12_thrown ok171 (CN := RX12) (T := TX12) (NF := 54) rfl rfl (by decide) rfl hl.1 ⟨Nat.le_of_ble_eq_true rfl, Nat.le_of_ble_eq_true rfl⟩ (Nat.le_of_ble_eq_true rfl) ⟨by show _ ≤ 601024; omega, by show _ ≤ 7293034; omega⟩ rfl dL_law_1084 (fun H locs hw => ?_)
        refine lv_iload hx hb dL_law_1087 (lv_at hl 1 rfl) ?_
        refine lv_icmp_eq (tgt := 1094) hx hb dL_law_1089 (by decide) (fun hc => ?_) (fun hc => ?_)
        · rw [if_pos hc] at h
          refine lv_iload hx hb dL_law_1094 (lv_at hl 1 rfl) ?_
          refine lv_if_ne (tgt := 1111) hx hb dL_law_1096 (by decide) (fun hc => ?_) (fun hc => ?_)
          · rw [if_neg hc] at h
            exact B1111 v4 r1084.2 _ _ _ _ _ (by omega) (by omega) hw (lv_sub hl [2, 3, 4, 5, 6] rfl) h
          · rw [if_pos hc] at h
            refine lv_aload_n hx hb dL_law_1099 rfl (lv_at hl 5 rfl) ?_
            refine lv_iconst (v := (0 : Int32)) hx hb dL_law_1100 (by decide) ?_
            refine lJ (j := 0) hC hw ok201 on201 (vin (by decide)) (by decide) dL_law_1101 ?_
            refine lv_iload hx hb dL_law_1102 (lv_at hl 0 rfl) ?_
            refine lv_i2l hx hb dL_law_1104 rfl ?_
            refine W.lcmp hx hb dL_law_1105 ?_
            refine lv_if_eq (tgt := 1111) hx hb dL_law_1106 (by decide) (fun hc => ?_) (fun hc => ?_)
            · rw [if_pos hc] at h
              exact B1111 v4 r1084.2 _ _ _ _ _ (by omega) (by omega) hw (lv_sub hl [2, 3, 4, 5, 6] rfl) h
            · rw [if_neg hc] at h
              refine lv_iconst (v := (0 : Int32)) hx hb dL_law_1109 (by decide) ?_
              exact absurd (congrArg Prod.fst (Option.some.inj h)) (show ¬ (0 : Int32) = 1 by decide)
        · rw [if_neg hc] at h
          refine lv_iconst (v := (0 : Int32)) hx hb dL_law_1092 (by decide) ?_
          exact absurd (congrArg Prod.fst (Option.some.inj h)) (show ¬ (0 : Int32) = 1 by decide)
      have B1191 : ∀ (v4 : Int32) (μ : Mu) (H : Heap) (locs : List Loc) (ls : Array Slot) (cells slots : Nat), cells + k ≤ 600000 → slots + 6 * k ≤ 7000000 → wd g μ s (fun q => s.heap.size ≤ q) H locs → lv_has ls 8 [(0, .ref b), (1, .ref (g.2.2 0)), (2, .ref (g.2.2 171)), (3, .ref (g.2.2 201)), (4, .int v4)] → law_1191 n L xs k23 v4 μ = some (1, μ9) → W p l e room_1 s m #[Value.ref b] below meth c H locs cells slots (lw_Z below #[Value.ref b] s) (F0 m 1191 ls []) := by
        intro v4 μ H locs ls cells slots hc1 hc2 hw hl h
        rw [law_1191] at h
        refine lv_goto (tgt := 2193) hx hb dL_law_1191 (by decide) ?_
        exact B2193 v4 μ _ _ _ _ _ (by omega) (by omega) hw (lv_sub hl [0, 1, 2, 3, 4] rfl) h
      have B1114 : ∀ (v4 : Int32) (μ : Mu) (H : Heap) (locs : List Loc) (ls : Array Slot) (cells slots : Nat), cells + (k + 1) ≤ 600000 → slots + 6 * (k + 1) ≤ 7000000 → wd g μ s (fun q => s.heap.size ≤ q) H locs → lv_has ls 8 [(0, .ref b), (1, .ref (g.2.2 0)), (2, .ref (g.2.2 171)), (3, .ref (g.2.2 201)), (4, .int v4)] → law_1114 n L xs k23 v4 μ = some (1, μ9) → W p l e room_1 s m #[Value.ref b] below meth c H locs cells slots (lw_Z below #[Value.ref b] s) (F0 m 1114 ls []) := by
        intro v4 μ H locs ls cells slots hc1 hc2 hw hl h
        rw [law_1114] at h
        refine lv_aload_n hx hb dL_law_1114 rfl (lv_at hl 1 rfl) ?_
        refine lv_aload_n hx hb dL_law_1115 rfl (lv_at hl 0 rfl) ?_
        refine lv_iload hx hb dL_law_1116 (lv_at hl 4 rfl) ?_
        refine lv_iconst (v := (1 : Int32)) hx hb dL_law_1118 (by decide) ?_
        refine lv_iadd hx hb dL_law_1119 ?_
        obtain ⟨hi1120, h⟩ := gd_some h
        refine va_sld hx hb hX hbl hbA hw.2 hi1120 dL_law_1120 ?_
        refine lv_aload_n hx hb dL_law_1121 rfl (lv_at hl 0 rfl) ?_
        refine lv_iload hx hb dL_law_1122 (lv_at hl 4 rfl) ?_
        refine lv_iconst (v := (2 : Int32)) hx hb dL_law_1124 (by decide) ?_
        refine lv_iadd hx hb dL_law_1125 ?_
        obtain ⟨hi1126, h⟩ := gd_some h
        refine va_sld hx hb hX hbl hbA hw.2 hi1126 dL_law_1126 ?_
        refine lv_aload_n hx hb dL_law_1127 rfl (lv_at hl 0 rfl) ?_
        refine lv_iload hx hb dL_law_1128 (lv_at hl 4 rfl) ?_
        refine lv_iconst (v := (3 : Int32)) hx hb dL_law_1130 (by decide) ?_
        refine lv_iadd hx hb dL_law_1131 ?_
        obtain ⟨hi1132, h⟩ := gd_some h
        refine va_sld hx hb hX hbl hbA hw.2 hi1132 dL_law_1132 ?_
        refine lv_aload_n hx hb dL_law_1133 rfl (lv_at hl 3 rfl) ?_
        obtain ⟨r1134, hr1134, h⟩ := bnd h
        refine cSL (As := [.ref (g.2.2 0), .int (xs (v4 + (1 : Int32)).toNatClampNeg), .int (xs (v4 + (2 : Int32)).toNatClampNeg), .int (xs (v4 + (3 : Int32)).toNatClampNeg), .ref (g.2.2 201)]) (rest := []) (st1 := [.int r1134.1]) hC hw (c_L_tally l hst g n (xs (v4 + (1 : Int32)).toNatClampNeg) (xs (v4 + (2 : Int32)).toNatClampNeg) (xs (v4 + (3 : Int32)).toNatClampNeg) μ r1134 hr1134) mw_L_tally rfl hl.1 ⟨Nat.le_of_ble_eq_true rfl, Nat.le_of_ble_eq_true rfl⟩ (Nat.le_of_ble_eq_true rfl) ⟨by show _ ≤ 601024; omega, by show _ ≤ 7293034; omega⟩ rfl dL_law_1134 (fun H locs hw => ?_)
        refine lv_istore (lv' := [(5, .int r1134.1), (0, .ref b), (1, .ref (g.2.2 0)), (2, .ref (g.2.2 171)), (3, .ref (g.2.2 201)), (4, .int v4)]) hx hb dL_law_1137 hl (by decide) rfl (fun ls hl => ?_)
        refine lv_aload_n hx hb dL_law_1139 rfl (lv_at hl 3 rfl) ?_
        refine lv_aload_n hx hb dL_law_1140 rfl (lv_at hl 1 rfl) ?_
        refine lv_iload hx hb dL_law_1141 (lv_at hl 5 rfl) ?_
        refine lv_iconst (v := (1 : Int32)) hx hb dL_law_1143 (by decide) ?_
        refine lv_iadd hx hb dL_law_1144 ?_
        refine va_sld hx hb hX hbl hbA hw.2 hi1120 dL_law_1145 ?_
        refine lv_aload_n hx hb dL_law_1146 rfl (lv_at hl 1 rfl) ?_
        refine lv_iload hx hb dL_law_1147 (lv_at hl 5 rfl) ?_
        refine lv_iconst (v := (2 : Int32)) hx hb dL_law_1149 (by decide) ?_
        refine lv_iadd hx hb dL_law_1150 ?_
        refine va_sld hx hb hX hbl hbA hw.2 hi1126 dL_law_1151 ?_
        refine lv_aload_n hx hb dL_law_1152 rfl (lv_at hl 1 rfl) ?_
        refine lv_iload hx hb dL_law_1153 (lv_at hl 5 rfl) ?_
        refine lv_iconst (v := (3 : Int32)) hx hb dL_law_1155 (by decide) ?_
        refine lv_iadd hx hb dL_law_1156 ?_
        refine va_sld hx hb hX hbl hbA hw.2 hi1132 dL_law_1157 ?_
        obtain ⟨r1158, hr1158, h⟩ := bnd h
        refine cV (b := 171) (As := [.int (xs (v4 + (1 : Int32)).toNatClampNeg), .int (xs (v4 + (2 : Int32)).toNatClampNeg), .int (xs (v4 + (3 : Int32)).toNatClampNeg)]) (rest := []) (st1 := [.int r1158.1]) hC hw (c_X12_tally l g n (xs (v4 + (1 : Int32)).toNatClampNeg) (xs (v4 + (2 : Int32)).toNatClampNeg) (xs (v4 + (3 : Int32)).toNatClampNeg) r1134.2 r1158 hr1158) ml_L_197 im_X12_tally se_X12_tally ok171 (CN := RX12) (T := TX12) (NF := 54) rfl rfl (by decide) rfl hl.1 ⟨Nat.le_of_ble_eq_true rfl, Nat.le_of_ble_eq_true rfl⟩ (Nat.le_of_ble_eq_true rfl) ⟨by show _ ≤ 601024; omega, by show _ ≤ 7293034; omega⟩ rfl dL_law_1158 (fun H locs hw => ?_)
        refine lv_istore (lv' := [(6, .int r1158.1), (5, .int r1134.1), (0, .ref b), (1, .ref (g.2.2 0)), (2, .ref (g.2.2 171)), (3, .ref (g.2.2 201)), (4, .int v4)]) hx hb dL_law_1161 hl (by decide) rfl (fun ls hl => ?_)
        refine lv_aload_n hx hb dL_law_1163 rfl (lv_at hl 4 rfl) ?_
        obtain ⟨r1164, hr1164, h⟩ := bnd h
        refine cV (b := 171) (As := []) (rest := []) (st1 := [.int r1164.1]) hC hw (c_X12_thrown l g n r1158.2 r1164 hr1164) ml_L_111 im_X12_thrown se_X12_thrown ok171 (CN := RX12) (T := TX12) (NF := 54) rfl rfl (by decide) rfl hl.1 ⟨Nat.le_of_ble_eq_true rfl, Nat.le_of_ble_eq_true rfl⟩ (Nat.le_of_ble_eq_true rfl) ⟨by show _ ≤ 601024; omega, by show _ ≤ 7293034; omega⟩ rfl dL_law_1164 (fun H locs hw => ?_)
        refine lv_iload hx hb dL_law_1167 (lv_at hl 1 rfl) ?_
        refine lv_icmp_eq (tgt := 1174) hx hb dL_law_1169 (by decide) (fun hc => ?_) (fun hc => ?_)
        · rw [if_pos hc] at h
          refine lv_iload hx hb dL_law_1174 (lv_at hl 1 rfl) ?_
          refine lv_if_ne (tgt := 1191) hx hb dL_law_1176 (by decide) (fun hc => ?_) (fun hc => ?_)
          · rw [if_neg hc] at h
            exact B1191 v4 r1164.2 _ _ _ _ _ (by omega) (by omega) hw (lv_sub hl [2, 3, 4, 5, 6] rfl) h
          · rw [if_pos hc] at h
            refine lv_aload_n hx hb dL_law_1179 rfl (lv_at hl 5 rfl) ?_
            refine lv_iconst (v := (0 : Int32)) hx hb dL_law_1180 (by decide) ?_
            refine lJ (j := 0) hC hw ok201 on201 (vin (by decide)) (by decide) dL_law_1181 ?_
            refine lv_iload hx hb dL_law_1182 (lv_at hl 0 rfl) ?_
            refine lv_i2l hx hb dL_law_1184 rfl ?_
            refine W.lcmp hx hb dL_law_1185 ?_
            refine lv_if_eq (tgt := 1191) hx hb dL_law_1186 (by decide) (fun hc => ?_) (fun hc => ?_)
            · rw [if_pos hc] at h
              exact B1191 v4 r1164.2 _ _ _ _ _ (by omega) (by omega) hw (lv_sub hl [2, 3, 4, 5, 6] rfl) h
            · rw [if_neg hc] at h
              refine lv_iconst (v := (0 : Int32)) hx hb dL_law_1189 (by decide) ?_
              exact absurd (congrArg Prod.fst (Option.some.inj h)) (show ¬ (0 : Int32) = 1 by decide)
        · rw [if_neg hc] at h
          refine lv_iconst (v := (0 : Int32)) hx hb dL_law_1172 (by decide) ?_
          exact absurd (congrArg Prod.fst (Option.some.inj h)) (show ¬ (0 : Int32) = 1 by decide)
      have B1283 : ∀ (v4 : Int32) (μ : Mu) (H : Heap) (locs : List Loc) (ls : Array Slot) (cells slots : Nat), cells + k ≤ 600000 → slots + 6 * k ≤ 7000000 → wd g μ s (fun q => s.heap.size ≤ q) H locs → lv_has ls 8 [(0, .ref b), (1, .ref (g.2.2 0)), (2, .ref (g.2.2 171)), (3, .ref (g.2.2 201)), (4, .int v4)] → law_1283 n L xs k23 v4 μ = some (1, μ9) → W p l e room_1 s m #[Value.ref b] below meth c H locs cells slots (lw_Z below #[Value.ref b] s) (F0 m 1283 ls []) := by
        intro v4 μ H locs ls cells slots hc1 hc2 hw hl h
        rw [law_1283] at h
        refine lv_goto (tgt := 2193) hx hb dL_law_1283 (by decide) ?_
        exact B2193 v4 μ _ _ _ _ _ (by omega) (by omega) hw (lv_sub hl [0, 1, 2, 3, 4] rfl) h
      have B1194 : ∀ (v4 : Int32) (μ : Mu) (H : Heap) (locs : List Loc) (ls : Array Slot) (cells slots : Nat), cells + (k + 1) ≤ 600000 → slots + 6 * (k + 1) ≤ 7000000 → wd g μ s (fun q => s.heap.size ≤ q) H locs → lv_has ls 8 [(0, .ref b), (1, .ref (g.2.2 0)), (2, .ref (g.2.2 171)), (3, .ref (g.2.2 201)), (4, .int v4)] → law_1194 n L xs k23 v4 μ = some (1, μ9) → W p l e room_1 s m #[Value.ref b] below meth c H locs cells slots (lw_Z below #[Value.ref b] s) (F0 m 1194 ls []) := by
        intro v4 μ H locs ls cells slots hc1 hc2 hw hl h
        rw [law_1194] at h
        refine lv_aload_n hx hb dL_law_1194 rfl (lv_at hl 1 rfl) ?_
        refine lv_aload_n hx hb dL_law_1195 rfl (lv_at hl 0 rfl) ?_
        refine lv_iload hx hb dL_law_1196 (lv_at hl 4 rfl) ?_
        refine lv_iconst (v := (1 : Int32)) hx hb dL_law_1198 (by decide) ?_
        refine lv_iadd hx hb dL_law_1199 ?_
        obtain ⟨hi1200, h⟩ := gd_some h
        refine va_sld hx hb hX hbl hbA hw.2 hi1200 dL_law_1200 ?_
        refine lv_aload_n hx hb dL_law_1201 rfl (lv_at hl 0 rfl) ?_
        refine lv_iload hx hb dL_law_1202 (lv_at hl 4 rfl) ?_
        refine lv_iconst (v := (2 : Int32)) hx hb dL_law_1204 (by decide) ?_
        refine lv_iadd hx hb dL_law_1205 ?_
        obtain ⟨hi1206, h⟩ := gd_some h
        refine va_sld hx hb hX hbl hbA hw.2 hi1206 dL_law_1206 ?_
        refine lv_aload_n hx hb dL_law_1207 rfl (lv_at hl 0 rfl) ?_
        refine lv_iload hx hb dL_law_1208 (lv_at hl 4 rfl) ?_
        refine lv_iconst (v := (3 : Int32)) hx hb dL_law_1210 (by decide) ?_
        refine lv_iadd hx hb dL_law_1211 ?_
        obtain ⟨hi1212, h⟩ := gd_some h
        refine va_sld hx hb hX hbl hbA hw.2 hi1212 dL_law_1212 ?_
        refine lv_aload_n hx hb dL_law_1213 rfl (lv_at hl 0 rfl) ?_
        refine lv_iload hx hb dL_law_1214 (lv_at hl 4 rfl) ?_
        refine lv_iconst (v := (4 : Int32)) hx hb dL_law_1216 (by decide) ?_
        refine lv_iadd hx hb dL_law_1217 ?_
        obtain ⟨hi1218, h⟩ := gd_some h
        refine va_sld hx hb hX hbl hbA hw.2 hi1218 dL_law_1218 ?_
        refine lv_aload_n hx hb dL_law_1219 rfl (lv_at hl 3 rfl) ?_
        obtain ⟨r1220, hr1220, h⟩ := bnd h
        refine cSL (As := [.ref (g.2.2 0), .int (xs (v4 + (1 : Int32)).toNatClampNeg), .int (xs (v4 + (2 : Int32)).toNatClampNeg), .int (xs (v4 + (3 : Int32)).toNatClampNeg), .int (xs (v4 + (4 : Int32)).toNatClampNeg), .ref (g.2.2 201)]) (rest := []) (st1 := [.int r1220.1]) hC hw (c_L_row l hst g n (xs (v4 + (1 : Int32)).toNatClampNeg) (xs (v4 + (2 : Int32)).toNatClampNeg) (xs (v4 + (3 : Int32)).toNatClampNeg) (xs (v4 + (4 : Int32)).toNatClampNeg) μ r1220 hr1220) mw_L_row rfl hl.1 ⟨Nat.le_of_ble_eq_true rfl, Nat.le_of_ble_eq_true rfl⟩ (Nat.le_of_ble_eq_true rfl) ⟨by show _ ≤ 601024; omega, by show _ ≤ 7293034; omega⟩ rfl dL_law_1220 (fun H locs hw => ?_)
        refine lv_istore (lv' := [(5, .int r1220.1), (0, .ref b), (1, .ref (g.2.2 0)), (2, .ref (g.2.2 171)), (3, .ref (g.2.2 201)), (4, .int v4)]) hx hb dL_law_1223 hl (by decide) rfl (fun ls hl => ?_)
        refine lv_aload_n hx hb dL_law_1225 rfl (lv_at hl 3 rfl) ?_
        refine lv_aload_n hx hb dL_law_1226 rfl (lv_at hl 1 rfl) ?_
        refine lv_iload hx hb dL_law_1227 (lv_at hl 5 rfl) ?_
        refine lv_iconst (v := (1 : Int32)) hx hb dL_law_1229 (by decide) ?_
        refine lv_iadd hx hb dL_law_1230 ?_
        refine va_sld hx hb hX hbl hbA hw.2 hi1200 dL_law_1231 ?_
        refine lv_aload_n hx hb dL_law_1232 rfl (lv_at hl 1 rfl) ?_
        refine lv_iload hx hb dL_law_1233 (lv_at hl 5 rfl) ?_
        refine lv_iconst (v := (2 : Int32)) hx hb dL_law_1235 (by decide) ?_
        refine lv_iadd hx hb dL_law_1236 ?_
        refine va_sld hx hb hX hbl hbA hw.2 hi1206 dL_law_1237 ?_
        refine lv_aload_n hx hb dL_law_1238 rfl (lv_at hl 1 rfl) ?_
        refine lv_iload hx hb dL_law_1239 (lv_at hl 5 rfl) ?_
        refine lv_iconst (v := (3 : Int32)) hx hb dL_law_1241 (by decide) ?_
        refine lv_iadd hx hb dL_law_1242 ?_
        refine va_sld hx hb hX hbl hbA hw.2 hi1212 dL_law_1243 ?_
        refine lv_aload_n hx hb dL_law_1244 rfl (lv_at hl 1 rfl) ?_
        refine lv_iload hx hb dL_law_1245 (lv_at hl 5 rfl) ?_
        refine lv_iconst (v := (4 : Int32)) hx hb dL_law_1247 (by decide) ?_
        refine lv_iadd hx hb dL_law_1248 ?_
        refine va_sld hx hb hX hbl hbA hw.2 hi1218 dL_law_1249 ?_
        obtain ⟨r1250, hr1250, h⟩ := bnd h
        refine cV (b := 171) (As := [.int (xs (v4 + (1 : Int32)).toNatClampNeg), .int (xs (v4 + (2 : Int32)).toNatClampNeg), .int (xs (v4 + (3 : Int32)).toNatClampNeg), .int (xs (v4 + (4 : Int32)).toNatClampNeg)]) (rest := []) (st1 := [.int r1250.1]) hC hw (c_X12_row l g n (xs (v4 + (1 : Int32)).toNatClampNeg) (xs (v4 + (2 : Int32)).toNatClampNeg) (xs (v4 + (3 : Int32)).toNatClampNeg) (xs (v4 + (4 : Int32)).toNatClampNeg) r1220.2 r1250 hr1250) ml_L_200 im_X12_row se_X12_row ok171 (CN := RX12) (T := TX12) (NF := 54) rfl rfl (by decide) rfl hl.1 ⟨Nat.le_of_ble_eq_true rfl, Nat.le_of_ble_eq_true rfl⟩ (Nat.le_of_ble_eq_true rfl) ⟨by show _ ≤ 601024; omega, by show _ ≤ 7293034; omega⟩ rfl dL_law_1250 (fun H locs hw => ?_)
        refine lv_istore (lv' := [(6, .int r1250.1), (5, .int r1220.1), (0, .ref b), (1, .ref (g.2.2 0)), (2, .ref (g.2.2 171)), (3, .ref (g.2.2 201)), (4, .int v4)]) hx hb dL_law_1253 hl (by decide) rfl (fun ls hl => ?_)
        refine lv_aload_n hx hb dL_law_1255 rfl (lv_at hl 4 rfl) ?_
        obtain ⟨r1256, hr1256, h⟩ := bnd h
        refine cV (b := 171) (As := []) (rest := []) (st1 := [.int r1256.1]) hC hw (c_X12_thrown l g n r1250.2 r1256 hr1256) ml_L_111 im_X12_thrown se_X12_thrown ok171 (CN := RX12) (T := TX12) (NF := 54) rfl rfl (by decide) rfl hl.1 ⟨Nat.le_of_ble_eq_true rfl, Nat.le_of_ble_eq_true rfl⟩ (Nat.le_of_ble_eq_true rfl) ⟨by show _ ≤ 601024; omega, by show _ ≤ 7293034; omega⟩ rfl dL_law_1256 (fun H locs hw => ?_)
        refine lv_iload hx hb dL_law_1259 (lv_at hl 1 rfl) ?_
        refine lv_icmp_eq (tgt := 1266) hx hb dL_law_1261 (by decide) (fun hc => ?_) (fun hc => ?_)
        · rw [if_pos hc] at h
          refine lv_iload hx hb dL_law_1266 (lv_at hl 1 rfl) ?_
          refine lv_if_ne (tgt := 1283) hx hb dL_law_1268 (by decide) (fun hc => ?_) (fun hc => ?_)
          · rw [if_neg hc] at h
            exact B1283 v4 r1256.2 _ _ _ _ _ (by omega) (by omega) hw (lv_sub hl [2, 3, 4, 5, 6] rfl) h
          · rw [if_pos hc] at h
            refine lv_aload_n hx hb dL_law_1271 rfl (lv_at hl 5 rfl) ?_
            refine lv_iconst (v := (0 : Int32)) hx hb dL_law_1272 (by decide) ?_
            refine lJ (j := 0) hC hw ok201 on201 (vin (by decide)) (by decide) dL_law_1273 ?_
            refine lv_iload hx hb dL_law_1274 (lv_at hl 0 rfl) ?_
            refine lv_i2l hx hb dL_law_1276 rfl ?_
            refine W.lcmp hx hb dL_law_1277 ?_
            refine lv_if_eq (tgt := 1283) hx hb dL_law_1278 (by decide) (fun hc => ?_) (fun hc => ?_)
            · rw [if_pos hc] at h
              exact B1283 v4 r1256.2 _ _ _ _ _ (by omega) (by omega) hw (lv_sub hl [2, 3, 4, 5, 6] rfl) h
            · rw [if_neg hc] at h
              refine lv_iconst (v := (0 : Int32)) hx hb dL_law_1281 (by decide) ?_
              exact absurd (congrArg Prod.fst (Option.some.inj h)) (show ¬ (0 : Int32) = 1 by decide)
        · rw [if_neg hc] at h
          refine lv_iconst (v := (0 : Int32)) hx hb dL_law_1264 (by decide) ?_
          exact absurd (congrArg Prod.fst (Option.some.inj h)) (show ¬ (0 : Int32) = 1 by decide)
      have B1375 : ∀ (v4 : Int32) (μ : Mu) (H : Heap) (locs : List Loc) (ls : Array Slot) (cells slots : Nat), cells + k ≤ 600000 → slots + 6 * k ≤ 7000000 → wd g μ s (fun q => s.heap.size ≤ q) H locs → lv_has ls 8 [(0, .ref b), (1, .ref (g.2.2 0)), (2, .ref (g.2.2 171)), (3, .ref (g.2.2 201)), (4, .int v4)] → law_1375 n L xs k23 v4 μ = some (1, μ9) → W p l e room_1 s m #[Value.ref b] below meth c H locs cells slots (lw_Z below #[Value.ref b] s) (F0 m 1375 ls []) := by
        intro v4 μ H locs ls cells slots hc1 hc2 hw hl h
        rw [law_1375] at h
        refine lv_goto (tgt := 2193) hx hb dL_law_1375 (by decide) ?_
        exact B2193 v4 μ _ _ _ _ _ (by omega) (by omega) hw (lv_sub hl [0, 1, 2, 3, 4] rfl) h
      have B1286 : ∀ (v4 : Int32) (μ : Mu) (H : Heap) (locs : List Loc) (ls : Array Slot) (cells slots : Nat), cells + (k + 1) ≤ 600000 → slots + 6 * (k + 1) ≤ 7000000 → wd g μ s (fun q => s.heap.size ≤ q) H locs → lv_has ls 8 [(0, .ref b), (1, .ref (g.2.2 0)), (2, .ref (g.2.2 171)), (3, .ref (g.2.2 201)), (4, .int v4)] → law_1286 n L xs k23 v4 μ = some (1, μ9) → W p l e room_1 s m #[Value.ref b] below meth c H locs cells slots (lw_Z below #[Value.ref b] s) (F0 m 1286 ls []) := by
        intro v4 μ H locs ls cells slots hc1 hc2 hw hl h
        rw [law_1286] at h
        refine lv_aload_n hx hb dL_law_1286 rfl (lv_at hl 1 rfl) ?_
        refine lv_aload_n hx hb dL_law_1287 rfl (lv_at hl 0 rfl) ?_
        refine lv_iload hx hb dL_law_1288 (lv_at hl 4 rfl) ?_
        refine lv_iconst (v := (1 : Int32)) hx hb dL_law_1290 (by decide) ?_
        refine lv_iadd hx hb dL_law_1291 ?_
        obtain ⟨hi1292, h⟩ := gd_some h
        refine va_sld hx hb hX hbl hbA hw.2 hi1292 dL_law_1292 ?_
        refine lv_aload_n hx hb dL_law_1293 rfl (lv_at hl 0 rfl) ?_
        refine lv_iload hx hb dL_law_1294 (lv_at hl 4 rfl) ?_
        refine lv_iconst (v := (2 : Int32)) hx hb dL_law_1296 (by decide) ?_
        refine lv_iadd hx hb dL_law_1297 ?_
        obtain ⟨hi1298, h⟩ := gd_some h
        refine va_sld hx hb hX hbl hbA hw.2 hi1298 dL_law_1298 ?_
        refine lv_aload_n hx hb dL_law_1299 rfl (lv_at hl 0 rfl) ?_
        refine lv_iload hx hb dL_law_1300 (lv_at hl 4 rfl) ?_
        refine lv_iconst (v := (3 : Int32)) hx hb dL_law_1302 (by decide) ?_
        refine lv_iadd hx hb dL_law_1303 ?_
        obtain ⟨hi1304, h⟩ := gd_some h
        refine va_sld hx hb hX hbl hbA hw.2 hi1304 dL_law_1304 ?_
        refine lv_aload_n hx hb dL_law_1305 rfl (lv_at hl 0 rfl) ?_
        refine lv_iload hx hb dL_law_1306 (lv_at hl 4 rfl) ?_
        refine lv_iconst (v := (4 : Int32)) hx hb dL_law_1308 (by decide) ?_
        refine lv_iadd hx hb dL_law_1309 ?_
        obtain ⟨hi1310, h⟩ := gd_some h
        refine va_sld hx hb hX hbl hbA hw.2 hi1310 dL_law_1310 ?_
        refine lv_aload_n hx hb dL_law_1311 rfl (lv_at hl 3 rfl) ?_
        obtain ⟨r1312, hr1312, h⟩ := bnd h
        refine cSL (As := [.ref (g.2.2 0), .int (xs (v4 + (1 : Int32)).toNatClampNeg), .int (xs (v4 + (2 : Int32)).toNatClampNeg), .int (xs (v4 + (3 : Int32)).toNatClampNeg), .int (xs (v4 + (4 : Int32)).toNatClampNeg), .ref (g.2.2 201)]) (rest := []) (st1 := [.int r1312.1]) hC hw (c_L_find l hst g n (xs (v4 + (1 : Int32)).toNatClampNeg) (xs (v4 + (2 : Int32)).toNatClampNeg) (xs (v4 + (3 : Int32)).toNatClampNeg) (xs (v4 + (4 : Int32)).toNatClampNeg) μ r1312 hr1312) mw_L_find rfl hl.1 ⟨Nat.le_of_ble_eq_true rfl, Nat.le_of_ble_eq_true rfl⟩ (Nat.le_of_ble_eq_true rfl) ⟨by show _ ≤ 601024; omega, by show _ ≤ 7293034; omega⟩ rfl dL_law_1312 (fun H locs hw => ?_)
        refine lv_istore (lv' := [(5, .int r1312.1), (0, .ref b), (1, .ref (g.2.2 0)), (2, .ref (g.2.2 171)), (3, .ref (g.2.2 201)), (4, .int v4)]) hx hb dL_law_1315 hl (by decide) rfl (fun ls hl => ?_)
        refine lv_aload_n hx hb dL_law_1317 rfl (lv_at hl 3 rfl) ?_
        refine lv_aload_n hx hb dL_law_1318 rfl (lv_at hl 1 rfl) ?_
        refine lv_iload hx hb dL_law_1319 (lv_at hl 5 rfl) ?_
        refine lv_iconst (v := (1 : Int32)) hx hb dL_law_1321 (by decide) ?_
        refine lv_iadd hx hb dL_law_1322 ?_
        refine va_sld hx hb hX hbl hbA hw.2 hi1292 dL_law_1323 ?_
        refine lv_aload_n hx hb dL_law_1324 rfl (lv_at hl 1 rfl) ?_
        refine lv_iload hx hb dL_law_1325 (lv_at hl 5 rfl) ?_
        refine lv_iconst (v := (2 : Int32)) hx hb dL_law_1327 (by decide) ?_
        refine lv_iadd hx hb dL_law_1328 ?_
        refine va_sld hx hb hX hbl hbA hw.2 hi1298 dL_law_1329 ?_
        refine lv_aload_n hx hb dL_law_1330 rfl (lv_at hl 1 rfl) ?_
        refine lv_iload hx hb dL_law_1331 (lv_at hl 5 rfl) ?_
        refine lv_iconst (v := (3 : Int32)) hx hb dL_law_1333 (by decide) ?_
        refine lv_iadd hx hb dL_law_1334 ?_
        refine va_sld hx hb hX hbl hbA hw.2 hi1304 dL_law_1335 ?_
        refine lv_aload_n hx hb dL_law_1336 rfl (lv_at hl 1 rfl) ?_
        refine lv_iload hx hb dL_law_1337 (lv_at hl 5 rfl) ?_
        refine lv_iconst (v := (4 : Int32)) hx hb dL_law_1339 (by decide) ?_
        refine lv_iadd hx hb dL_law_1340 ?_
        refine va_sld hx hb hX hbl hbA hw.2 hi1310 dL_law_1341 ?_
        obtain ⟨r1342, hr1342, h⟩ := bnd h
        refine cV (b := 171) (As := [.int (xs (v4 + (1 : Int32)).toNatClampNeg), .int (xs (v4 + (2 : Int32)).toNatClampNeg), .int (xs (v4 + (3 : Int32)).toNatClampNeg), .int (xs (v4 + (4 : Int32)).toNatClampNeg)]) (rest := []) (st1 := [.int r1342.1]) hC hw (c_X12_find l g n (xs (v4 + (1 : Int32)).toNatClampNeg) (xs (v4 + (2 : Int32)).toNatClampNeg) (xs (v4 + (3 : Int32)).toNatClampNeg) (xs (v4 + (4 : Int32)).toNatClampNeg) r1312.2 r1342 hr1342) ml_L_203 im_X12_find se_X12_find ok171 (CN := RX12) (T := TX12) (NF := 54) rfl rfl (by decide) rfl hl.1 ⟨Nat.le_of_ble_eq_true rfl, Nat.le_of_ble_eq_true rfl⟩ (Nat.le_of_ble_eq_true rfl) ⟨by show _ ≤ 601024; omega, by show _ ≤ 7293034; omega⟩ rfl dL_law_1342 (fun H locs hw => ?_)
        refine lv_istore (lv' := [(6, .int r1342.1), (5, .int r1312.1), (0, .ref b), (1, .ref (g.2.2 0)), (2, .ref (g.2.2 171)), (3, .ref (g.2.2 201)), (4, .int v4)]) hx hb dL_law_1345 hl (by decide) rfl (fun ls hl => ?_)
        refine lv_aload_n hx hb dL_law_1347 rfl (lv_at hl 4 rfl) ?_
        obtain ⟨r1348, hr1348, h⟩ := bnd h
        refine cV (b := 171) (As := []) (rest := []) (st1 := [.int r1348.1]) hC hw (c_X12_thrown l g n r1342.2 r1348 hr1348) ml_L_111 im_X12_thrown se_X12_thrown ok171 (CN := RX12) (T := TX12) (NF := 54) rfl rfl (by decide) rfl hl.1 ⟨Nat.le_of_ble_eq_true rfl, Nat.le_of_ble_eq_true rfl⟩ (Nat.le_of_ble_eq_true rfl) ⟨by show _ ≤ 601024; omega, by show _ ≤ 7293034; omega⟩ rfl dL_law_1348 (fun H locs hw => ?_)
        refine lv_iload hx hb dL_law_1351 (lv_at hl 1 rfl) ?_
        refine lv_icmp_eq (tgt := 1358) hx hb dL_law_1353 (by decide) (fun hc => ?_) (fun hc => ?_)
        · rw [if_pos hc] at h
          refine lv_iload hx hb dL_law_1358 (lv_at hl 1 rfl) ?_
          refine lv_if_ne (tgt := 1375) hx hb dL_law_1360 (by decide) (fun hc => ?_) (fun hc => ?_)
          · rw [if_neg hc] at h
            exact B1375 v4 r1348.2 _ _ _ _ _ (by omega) (by omega) hw (lv_sub hl [2, 3, 4, 5, 6] rfl) h
          · rw [if_pos hc] at h
            refine lv_aload_n hx hb dL_law_1363 rfl (lv_at hl 5 rfl) ?_
            refine lv_iconst (v := (0 : Int32)) hx hb dL_law_1364 (by decide) ?_
            refine lJ (j := 0) hC hw ok201 on201 (vin (by decide)) (by decide) dL_law_1365 ?_
            refine lv_iload hx hb dL_law_1366 (lv_at hl 0 rfl) ?_
            refine lv_i2l hx hb dL_law_1368 rfl ?_
            refine W.lcmp hx hb dL_law_1369 ?_
            refine lv_if_eq (tgt := 1375) hx hb dL_law_1370 (by decide) (fun hc => ?_) (fun hc => ?_)
            · rw [if_pos hc] at h
              exact B1375 v4 r1348.2 _ _ _ _ _ (by omega) (by omega) hw (lv_sub hl [2, 3, 4, 5, 6] rfl) h
            · rw [if_neg hc] at h
              refine lv_iconst (v := (0 : Int32)) hx hb dL_law_1373 (by decide) ?_
              exact absurd (congrArg Prod.fst (Option.some.inj h)) (show ¬ (0 : Int32) = 1 by decide)
        · rw [if_neg hc] at h
          refine lv_iconst (v := (0 : Int32)) hx hb dL_law_1356 (by decide) ?_
          exact absurd (congrArg Prod.fst (Option.some.inj h)) (show ¬ (0 : Int32) = 1 by decide)
      have B1455 : ∀ (v4 : Int32) (μ : Mu) (H : Heap) (locs : List Loc) (ls : Array Slot) (cells slots : Nat), cells + k ≤ 600000 → slots + 6 * k ≤ 7000000 → wd g μ s (fun q => s.heap.size ≤ q) H locs → lv_has ls 8 [(0, .ref b), (1, .ref (g.2.2 0)), (2, .ref (g.2.2 171)), (3, .ref (g.2.2 201)), (4, .int v4)] → law_1455 n L xs k23 v4 μ = some (1, μ9) → W p l e room_1 s m #[Value.ref b] below meth c H locs cells slots (lw_Z below #[Value.ref b] s) (F0 m 1455 ls []) := by
        intro v4 μ H locs ls cells slots hc1 hc2 hw hl h
        rw [law_1455] at h
        refine lv_goto (tgt := 2193) hx hb dL_law_1455 (by decide) ?_
        exact B2193 v4 μ _ _ _ _ _ (by omega) (by omega) hw (lv_sub hl [0, 1, 2, 3, 4] rfl) h
      have B1378 : ∀ (v4 : Int32) (μ : Mu) (H : Heap) (locs : List Loc) (ls : Array Slot) (cells slots : Nat), cells + (k + 1) ≤ 600000 → slots + 6 * (k + 1) ≤ 7000000 → wd g μ s (fun q => s.heap.size ≤ q) H locs → lv_has ls 8 [(0, .ref b), (1, .ref (g.2.2 0)), (2, .ref (g.2.2 171)), (3, .ref (g.2.2 201)), (4, .int v4)] → law_1378 n L xs k23 v4 μ = some (1, μ9) → W p l e room_1 s m #[Value.ref b] below meth c H locs cells slots (lw_Z below #[Value.ref b] s) (F0 m 1378 ls []) := by
        intro v4 μ H locs ls cells slots hc1 hc2 hw hl h
        rw [law_1378] at h
        refine lv_aload_n hx hb dL_law_1378 rfl (lv_at hl 1 rfl) ?_
        refine lv_aload_n hx hb dL_law_1379 rfl (lv_at hl 0 rfl) ?_
        refine lv_iload hx hb dL_law_1380 (lv_at hl 4 rfl) ?_
        refine lv_iconst (v := (1 : Int32)) hx hb dL_law_1382 (by decide) ?_
        refine lv_iadd hx hb dL_law_1383 ?_
        obtain ⟨hi1384, h⟩ := gd_some h
        refine va_sld hx hb hX hbl hbA hw.2 hi1384 dL_law_1384 ?_
        refine lv_aload_n hx hb dL_law_1385 rfl (lv_at hl 0 rfl) ?_
        refine lv_iload hx hb dL_law_1386 (lv_at hl 4 rfl) ?_
        refine lv_iconst (v := (2 : Int32)) hx hb dL_law_1388 (by decide) ?_
        refine lv_iadd hx hb dL_law_1389 ?_
        obtain ⟨hi1390, h⟩ := gd_some h
        refine va_sld hx hb hX hbl hbA hw.2 hi1390 dL_law_1390 ?_
        refine lv_aload_n hx hb dL_law_1391 rfl (lv_at hl 0 rfl) ?_
        refine lv_iload hx hb dL_law_1392 (lv_at hl 4 rfl) ?_
        refine lv_iconst (v := (3 : Int32)) hx hb dL_law_1394 (by decide) ?_
        refine lv_iadd hx hb dL_law_1395 ?_
        obtain ⟨hi1396, h⟩ := gd_some h
        refine va_sld hx hb hX hbl hbA hw.2 hi1396 dL_law_1396 ?_
        refine lv_aload_n hx hb dL_law_1397 rfl (lv_at hl 3 rfl) ?_
        obtain ⟨r1398, hr1398, h⟩ := bnd h
        refine cSL (As := [.ref (g.2.2 0), .int (xs (v4 + (1 : Int32)).toNatClampNeg), .int (xs (v4 + (2 : Int32)).toNatClampNeg), .int (xs (v4 + (3 : Int32)).toNatClampNeg), .ref (g.2.2 201)]) (rest := []) (st1 := [.int r1398.1]) hC hw (c_L_most l hst g n (xs (v4 + (1 : Int32)).toNatClampNeg) (xs (v4 + (2 : Int32)).toNatClampNeg) (xs (v4 + (3 : Int32)).toNatClampNeg) μ r1398 hr1398) mw_L_most rfl hl.1 ⟨Nat.le_of_ble_eq_true rfl, Nat.le_of_ble_eq_true rfl⟩ (Nat.le_of_ble_eq_true rfl) ⟨by show _ ≤ 601024; omega, by show _ ≤ 7293034; omega⟩ rfl dL_law_1398 (fun H locs hw => ?_)
        refine lv_istore (lv' := [(5, .int r1398.1), (0, .ref b), (1, .ref (g.2.2 0)), (2, .ref (g.2.2 171)), (3, .ref (g.2.2 201)), (4, .int v4)]) hx hb dL_law_1401 hl (by decide) rfl (fun ls hl => ?_)
        refine lv_aload_n hx hb dL_law_1403 rfl (lv_at hl 3 rfl) ?_
        refine lv_aload_n hx hb dL_law_1404 rfl (lv_at hl 1 rfl) ?_
        refine lv_iload hx hb dL_law_1405 (lv_at hl 5 rfl) ?_
        refine lv_iconst (v := (1 : Int32)) hx hb dL_law_1407 (by decide) ?_
        refine lv_iadd hx hb dL_law_1408 ?_
        refine va_sld hx hb hX hbl hbA hw.2 hi1384 dL_law_1409 ?_
        refine lv_aload_n hx hb dL_law_1410 rfl (lv_at hl 1 rfl) ?_
        refine lv_iload hx hb dL_law_1411 (lv_at hl 5 rfl) ?_
        refine lv_iconst (v := (2 : Int32)) hx hb dL_law_1413 (by decide) ?_
        refine lv_iadd hx hb dL_law_1414 ?_
        refine va_sld hx hb hX hbl hbA hw.2 hi1390 dL_law_1415 ?_
        refine lv_aload_n hx hb dL_law_1416 rfl (lv_at hl 1 rfl) ?_
        refine lv_iload hx hb dL_law_1417 (lv_at hl 5 rfl) ?_
        refine lv_iconst (v := (3 : Int32)) hx hb dL_law_1419 (by decide) ?_
        refine lv_iadd hx hb dL_law_1420 ?_
        refine va_sld hx hb hX hbl hbA hw.2 hi1396 dL_law_1421 ?_
        obtain ⟨r1422, hr1422, h⟩ := bnd h
        refine cV (b := 171) (As := [.int (xs (v4 + (1 : Int32)).toNatClampNeg), .int (xs (v4 + (2 : Int32)).toNatClampNeg), .int (xs (v4 + (3 : Int32)).toNatClampNeg)]) (rest := []) (st1 := [.int r1422.1]) hC hw (c_X12_most l g n (xs (v4 + (1 : Int32)).toNatClampNeg) (xs (v4 + (2 : Int32)).toNatClampNeg) (xs (v4 + (3 : Int32)).toNatClampNeg) r1398.2 r1422 hr1422) ml_L_206 im_X12_most se_X12_most ok171 (CN := RX12) (T := TX12) (NF := 54) rfl rfl (by decide) rfl hl.1 ⟨Nat.le_of_ble_eq_true rfl, Nat.le_of_ble_eq_true rfl⟩ (Nat.le_of_ble_eq_true rfl) ⟨by show _ ≤ 601024; omega, by show _ ≤ 7293034; omega⟩ rfl dL_law_1422 (fun H locs hw => ?_)
        refine lv_istore (lv' := [(6, .int r1422.1), (5, .int r1398.1), (0, .ref b), (1, .ref (g.2.2 0)), (2, .ref (g.2.2 171)), (3, .ref (g.2.2 201)), (4, .int v4)]) hx hb dL_law_1425 hl (by decide) rfl (fun ls hl => ?_)
        refine lv_aload_n hx hb dL_law_1427 rfl (lv_at hl 4 rfl) ?_
        obtain ⟨r1428, hr1428, h⟩ := bnd h
        refine cV (b := 171) (As := []) (rest := []) (st1 := [.int r1428.1]) hC hw (c_X12_thrown l g n r1422.2 r1428 hr1428) ml_L_111 im_X12_thrown se_X12_thrown ok171 (CN := RX12) (T := TX12) (NF := 54) rfl rfl (by decide) rfl hl.1 ⟨Nat.le_of_ble_eq_true rfl, Nat.le_of_ble_eq_true rfl⟩ (Nat.le_of_ble_eq_true rfl) ⟨by show _ ≤ 601024; omega, by show _ ≤ 7293034; omega⟩ rfl dL_law_1428 (fun H locs hw => ?_)
        refine lv_iload hx hb dL_law_1431 (lv_at hl 1 rfl) ?_
        refine lv_icmp_eq (tgt := 1438) hx hb dL_law_1433 (by decide) (fun hc => ?_) (fun hc => ?_)
        · rw [if_pos hc] at h
          refine lv_iload hx hb dL_law_1438 (lv_at hl 1 rfl) ?_
          refine lv_if_ne (tgt := 1455) hx hb dL_law_1440 (by decide) (fun hc => ?_) (fun hc => ?_)
          · rw [if_neg hc] at h
            exact B1455 v4 r1428.2 _ _ _ _ _ (by omega) (by omega) hw (lv_sub hl [2, 3, 4, 5, 6] rfl) h
          · rw [if_pos hc] at h
            refine lv_aload_n hx hb dL_law_1443 rfl (lv_at hl 5 rfl) ?_
            refine lv_iconst (v := (0 : Int32)) hx hb dL_law_1444 (by decide) ?_
            refine lJ (j := 0) hC hw ok201 on201 (vin (by decide)) (by decide) dL_law_1445 ?_
            refine lv_iload hx hb dL_law_1446 (lv_at hl 0 rfl) ?_
            refine lv_i2l hx hb dL_law_1448 rfl ?_
            refine W.lcmp hx hb dL_law_1449 ?_
            refine lv_if_eq (tgt := 1455) hx hb dL_law_1450 (by decide) (fun hc => ?_) (fun hc => ?_)
            · rw [if_pos hc] at h
              exact B1455 v4 r1428.2 _ _ _ _ _ (by omega) (by omega) hw (lv_sub hl [2, 3, 4, 5, 6] rfl) h
            · rw [if_neg hc] at h
              refine lv_iconst (v := (0 : Int32)) hx hb dL_law_1453 (by decide) ?_
              exact absurd (congrArg Prod.fst (Option.some.inj h)) (show ¬ (0 : Int32) = 1 by decide)
        · rw [if_neg hc] at h
          refine lv_iconst (v := (0 : Int32)) hx hb dL_law_1436 (by decide) ?_
          exact absurd (congrArg Prod.fst (Option.some.inj h)) (show ¬ (0 : Int32) = 1 by decide)
      have B1458 : ∀ (v4 : Int32) (μ : Mu) (H : Heap) (locs : List Loc) (ls : Array Slot) (cells slots : Nat), cells + (k + 1) ≤ 600000 → slots + 6 * (k + 1) ≤ 7000000 → wd g μ s (fun q => s.heap.size ≤ q) H locs → lv_has ls 8 [(0, .ref b), (1, .ref (g.2.2 0)), (2, .ref (g.2.2 171)), (3, .ref (g.2.2 201)), (4, .int v4)] → law_1458 n L xs k23 v4 μ = some (1, μ9) → W p l e room_1 s m #[Value.ref b] below meth c H locs cells slots (lw_Z below #[Value.ref b] s) (F0 m 1458 ls []) := by
        intro v4 μ H locs ls cells slots hc1 hc2 hw hl h
        rw [law_1458] at h
        refine lv_aload_n hx hb dL_law_1458 rfl (lv_at hl 1 rfl) ?_
        obtain ⟨r1459, hr1459, h⟩ := bnd h
        refine cV (b := 0) (As := []) (rest := []) (st1 := [.int r1459.1]) hC hw (c_X11_swapped l g n μ r1459 hr1459) ml_L_207 im_X11_swapped se_X11_swapped ok0 (CN := RX11) (T := TX11) (NF := 12) rfl rfl (by decide) rfl hl.1 ⟨Nat.le_of_ble_eq_true rfl, Nat.le_of_ble_eq_true rfl⟩ (Nat.le_of_ble_eq_true rfl) ⟨by show _ ≤ 601024; omega, by show _ ≤ 7293034; omega⟩ rfl dL_law_1459 (fun H locs hw => ?_)
        refine lv_aload_n hx hb dL_law_1462 rfl (lv_at hl 2 rfl) ?_
        obtain ⟨r1463, hr1463, h⟩ := bnd h
        refine cV (b := 171) (As := []) (rest := [.int r1459.1]) (st1 := [.int r1463.1, .int r1459.1]) hC hw (c_X12_swapped l g n r1459.2 r1463 hr1463) ml_L_210 im_X12_swapped se_X12_swapped ok171 (CN := RX12) (T := TX12) (NF := 54) rfl rfl (by decide) rfl hl.1 ⟨Nat.le_of_ble_eq_true rfl, Nat.le_of_ble_eq_true rfl⟩ (Nat.le_of_ble_eq_true rfl) ⟨by show _ ≤ 601024; omega, by show _ ≤ 7293034; omega⟩ rfl dL_law_1463 (fun H locs hw => ?_)
        refine lv_icmp_eq (tgt := 2193) hx hb dL_law_1466 (by decide) (fun hc => ?_) (fun hc => ?_)
        · rw [if_pos hc] at h
          exact B2193 v4 r1463.2 _ _ _ _ _ (by omega) (by omega) hw (lv_sub hl [0, 1, 2, 3, 4] rfl) h
        · rw [if_neg hc] at h
          refine lv_iconst (v := (0 : Int32)) hx hb dL_law_1469 (by decide) ?_
          exact absurd (congrArg Prod.fst (Option.some.inj h)) (show ¬ (0 : Int32) = 1 by decide)
      have B1524 : ∀ (v4 : Int32) (μ : Mu) (H : Heap) (locs : List Loc) (ls : Array Slot) (cells slots : Nat), cells + k ≤ 600000 → slots + 6 * k ≤ 7000000 → wd g μ s (fun q => s.heap.size ≤ q) H locs → lv_has ls 8 [(0, .ref b), (1, .ref (g.2.2 0)), (2, .ref (g.2.2 171)), (3, .ref (g.2.2 201)), (4, .int v4)] → law_1524 n L xs k23 v4 μ = some (1, μ9) → W p l e room_1 s m #[Value.ref b] below meth c H locs cells slots (lw_Z below #[Value.ref b] s) (F0 m 1524 ls []) := by
        intro v4 μ H locs ls cells slots hc1 hc2 hw hl h
        rw [law_1524] at h
        refine lv_goto (tgt := 2193) hx hb dL_law_1524 (by decide) ?_
        exact B2193 v4 μ _ _ _ _ _ (by omega) (by omega) hw (lv_sub hl [0, 1, 2, 3, 4] rfl) h
      have B1471 : ∀ (v4 : Int32) (μ : Mu) (H : Heap) (locs : List Loc) (ls : Array Slot) (cells slots : Nat), cells + (k + 1) ≤ 600000 → slots + 6 * (k + 1) ≤ 7000000 → wd g μ s (fun q => s.heap.size ≤ q) H locs → lv_has ls 8 [(0, .ref b), (1, .ref (g.2.2 0)), (2, .ref (g.2.2 171)), (3, .ref (g.2.2 201)), (4, .int v4)] → law_1471 n L xs k23 v4 μ = some (1, μ9) → W p l e room_1 s m #[Value.ref b] below meth c H locs cells slots (lw_Z below #[Value.ref b] s) (F0 m 1471 ls []) := by
        intro v4 μ H locs ls cells slots hc1 hc2 hw hl h
        rw [law_1471] at h
        refine lv_aload_n hx hb dL_law_1471 rfl (lv_at hl 1 rfl) ?_
        refine lv_aload_n hx hb dL_law_1472 rfl (lv_at hl 0 rfl) ?_
        refine lv_iload hx hb dL_law_1473 (lv_at hl 4 rfl) ?_
        refine lv_iconst (v := (1 : Int32)) hx hb dL_law_1475 (by decide) ?_
        refine lv_iadd hx hb dL_law_1476 ?_
        obtain ⟨hi1477, h⟩ := gd_some h
        refine va_sld hx hb hX hbl hbA hw.2 hi1477 dL_law_1477 ?_
        refine lv_aload_n hx hb dL_law_1478 rfl (lv_at hl 3 rfl) ?_
        obtain ⟨r1479, hr1479, h⟩ := bnd h
        refine cSL (As := [.ref (g.2.2 0), .int (xs (v4 + (1 : Int32)).toNatClampNeg), .ref (g.2.2 201)]) (rest := []) (st1 := [.int r1479.1]) hC hw (c_L_line l hst g n (xs (v4 + (1 : Int32)).toNatClampNeg) μ r1479 hr1479) mw_L_line rfl hl.1 ⟨Nat.le_of_ble_eq_true rfl, Nat.le_of_ble_eq_true rfl⟩ (Nat.le_of_ble_eq_true rfl) ⟨by show _ ≤ 601024; omega, by show _ ≤ 7293034; omega⟩ rfl dL_law_1479 (fun H locs hw => ?_)
        refine lv_istore (lv' := [(5, .int r1479.1), (0, .ref b), (1, .ref (g.2.2 0)), (2, .ref (g.2.2 171)), (3, .ref (g.2.2 201)), (4, .int v4)]) hx hb dL_law_1482 hl (by decide) rfl (fun ls hl => ?_)
        refine lv_aload_n hx hb dL_law_1484 rfl (lv_at hl 3 rfl) ?_
        refine lv_aload_n hx hb dL_law_1485 rfl (lv_at hl 1 rfl) ?_
        refine lv_iload hx hb dL_law_1486 (lv_at hl 5 rfl) ?_
        refine lv_iconst (v := (1 : Int32)) hx hb dL_law_1488 (by decide) ?_
        refine lv_iadd hx hb dL_law_1489 ?_
        refine va_sld hx hb hX hbl hbA hw.2 hi1477 dL_law_1490 ?_
        obtain ⟨r1491, hr1491, h⟩ := bnd h
        refine cV (b := 171) (As := [.int (xs (v4 + (1 : Int32)).toNatClampNeg)]) (rest := []) (st1 := [.int r1491.1]) hC hw (c_X12_line l g n (xs (v4 + (1 : Int32)).toNatClampNeg) r1479.2 r1491 hr1491) ml_L_213 im_X12_line se_X12_line ok171 (CN := RX12) (T := TX12) (NF := 54) rfl rfl (by decide) rfl hl.1 ⟨Nat.le_of_ble_eq_true rfl, Nat.le_of_ble_eq_true rfl⟩ (Nat.le_of_ble_eq_true rfl) ⟨by show _ ≤ 601024; omega, by show _ ≤ 7293034; omega⟩ rfl dL_law_1491 (fun H locs hw => ?_)
        refine lv_istore (lv' := [(6, .int r1491.1), (5, .int r1479.1), (0, .ref b), (1, .ref (g.2.2 0)), (2, .ref (g.2.2 171)), (3, .ref (g.2.2 201)), (4, .int v4)]) hx hb dL_law_1494 hl (by decide) rfl (fun ls hl => ?_)
        refine lv_aload_n hx hb dL_law_1496 rfl (lv_at hl 4 rfl) ?_
        obtain ⟨r1497, hr1497, h⟩ := bnd h
        refine cV (b := 171) (As := []) (rest := []) (st1 := [.int r1497.1]) hC hw (c_X12_thrown l g n r1491.2 r1497 hr1497) ml_L_111 im_X12_thrown se_X12_thrown ok171 (CN := RX12) (T := TX12) (NF := 54) rfl rfl (by decide) rfl hl.1 ⟨Nat.le_of_ble_eq_true rfl, Nat.le_of_ble_eq_true rfl⟩ (Nat.le_of_ble_eq_true rfl) ⟨by show _ ≤ 601024; omega, by show _ ≤ 7293034; omega⟩ rfl dL_law_1497 (fun H locs hw => ?_)
        refine lv_iload hx hb dL_law_1500 (lv_at hl 1 rfl) ?_
        refine lv_icmp_eq (tgt := 1507) hx hb dL_law_1502 (by decide) (fun hc => ?_) (fun hc => ?_)
        · rw [if_pos hc] at h
          refine lv_iload hx hb dL_law_1507 (lv_at hl 1 rfl) ?_
          refine lv_if_ne (tgt := 1524) hx hb dL_law_1509 (by decide) (fun hc => ?_) (fun hc => ?_)
          · rw [if_neg hc] at h
            exact B1524 v4 r1497.2 _ _ _ _ _ (by omega) (by omega) hw (lv_sub hl [2, 3, 4, 5, 6] rfl) h
          · rw [if_pos hc] at h
            refine lv_aload_n hx hb dL_law_1512 rfl (lv_at hl 5 rfl) ?_
            refine lv_iconst (v := (0 : Int32)) hx hb dL_law_1513 (by decide) ?_
            refine lJ (j := 0) hC hw ok201 on201 (vin (by decide)) (by decide) dL_law_1514 ?_
            refine lv_iload hx hb dL_law_1515 (lv_at hl 0 rfl) ?_
            refine lv_i2l hx hb dL_law_1517 rfl ?_
            refine W.lcmp hx hb dL_law_1518 ?_
            refine lv_if_eq (tgt := 1524) hx hb dL_law_1519 (by decide) (fun hc => ?_) (fun hc => ?_)
            · rw [if_pos hc] at h
              exact B1524 v4 r1497.2 _ _ _ _ _ (by omega) (by omega) hw (lv_sub hl [2, 3, 4, 5, 6] rfl) h
            · rw [if_neg hc] at h
              refine lv_iconst (v := (0 : Int32)) hx hb dL_law_1522 (by decide) ?_
              exact absurd (congrArg Prod.fst (Option.some.inj h)) (show ¬ (0 : Int32) = 1 by decide)
        · rw [if_neg hc] at h
          refine lv_iconst (v := (0 : Int32)) hx hb dL_law_1505 (by decide) ?_
          exact absurd (congrArg Prod.fst (Option.some.inj h)) (show ¬ (0 : Int32) = 1 by decide)
      have B1580 : ∀ (v4 : Int32) (μ : Mu) (H : Heap) (locs : List Loc) (ls : Array Slot) (cells slots : Nat), cells + k ≤ 600000 → slots + 6 * k ≤ 7000000 → wd g μ s (fun q => s.heap.size ≤ q) H locs → lv_has ls 8 [(0, .ref b), (1, .ref (g.2.2 0)), (2, .ref (g.2.2 171)), (3, .ref (g.2.2 201)), (4, .int v4)] → law_1580 n L xs k23 v4 μ = some (1, μ9) → W p l e room_1 s m #[Value.ref b] below meth c H locs cells slots (lw_Z below #[Value.ref b] s) (F0 m 1580 ls []) := by
        intro v4 μ H locs ls cells slots hc1 hc2 hw hl h
        rw [law_1580] at h
        refine lv_goto (tgt := 2193) hx hb dL_law_1580 (by decide) ?_
        exact B2193 v4 μ _ _ _ _ _ (by omega) (by omega) hw (lv_sub hl [0, 1, 2, 3, 4] rfl) h
      have B1527 : ∀ (v4 : Int32) (μ : Mu) (H : Heap) (locs : List Loc) (ls : Array Slot) (cells slots : Nat), cells + (k + 1) ≤ 600000 → slots + 6 * (k + 1) ≤ 7000000 → wd g μ s (fun q => s.heap.size ≤ q) H locs → lv_has ls 8 [(0, .ref b), (1, .ref (g.2.2 0)), (2, .ref (g.2.2 171)), (3, .ref (g.2.2 201)), (4, .int v4)] → law_1527 n L xs k23 v4 μ = some (1, μ9) → W p l e room_1 s m #[Value.ref b] below meth c H locs cells slots (lw_Z below #[Value.ref b] s) (F0 m 1527 ls []) := by
        intro v4 μ H locs ls cells slots hc1 hc2 hw hl h
        rw [law_1527] at h
        refine lv_aload_n hx hb dL_law_1527 rfl (lv_at hl 1 rfl) ?_
        refine lv_aload_n hx hb dL_law_1528 rfl (lv_at hl 0 rfl) ?_
        refine lv_iload hx hb dL_law_1529 (lv_at hl 4 rfl) ?_
        refine lv_iconst (v := (1 : Int32)) hx hb dL_law_1531 (by decide) ?_
        refine lv_iadd hx hb dL_law_1532 ?_
        obtain ⟨hi1533, h⟩ := gd_some h
        refine va_sld hx hb hX hbl hbA hw.2 hi1533 dL_law_1533 ?_
        refine lv_aload_n hx hb dL_law_1534 rfl (lv_at hl 3 rfl) ?_
        obtain ⟨r1535, hr1535, h⟩ := bnd h
        refine cSL (As := [.ref (g.2.2 0), .int (xs (v4 + (1 : Int32)).toNatClampNeg), .ref (g.2.2 201)]) (rest := []) (st1 := [.int r1535.1]) hC hw (c_L_plays l hst g n (xs (v4 + (1 : Int32)).toNatClampNeg) μ r1535 hr1535) mw_L_plays rfl hl.1 ⟨Nat.le_of_ble_eq_true rfl, Nat.le_of_ble_eq_true rfl⟩ (Nat.le_of_ble_eq_true rfl) ⟨by show _ ≤ 601024; omega, by show _ ≤ 7293034; omega⟩ rfl dL_law_1535 (fun H locs hw => ?_)
        refine lv_istore (lv' := [(5, .int r1535.1), (0, .ref b), (1, .ref (g.2.2 0)), (2, .ref (g.2.2 171)), (3, .ref (g.2.2 201)), (4, .int v4)]) hx hb dL_law_1538 hl (by decide) rfl (fun ls hl => ?_)
        refine lv_aload_n hx hb dL_law_1540 rfl (lv_at hl 3 rfl) ?_
        refine lv_aload_n hx hb dL_law_1541 rfl (lv_at hl 1 rfl) ?_
        refine lv_iload hx hb dL_law_1542 (lv_at hl 5 rfl) ?_
        refine lv_iconst (v := (1 : Int32)) hx hb dL_law_1544 (by decide) ?_
        refine lv_iadd hx hb dL_law_1545 ?_
        refine va_sld hx hb hX hbl hbA hw.2 hi1533 dL_law_1546 ?_
        obtain ⟨r1547, hr1547, h⟩ := bnd h
        refine cV (b := 171) (As := [.int (xs (v4 + (1 : Int32)).toNatClampNeg)]) (rest := []) (st1 := [.int r1547.1]) hC hw (c_X12_plays l g n (xs (v4 + (1 : Int32)).toNatClampNeg) r1535.2 r1547 hr1547) ml_L_216 im_X12_plays se_X12_plays ok171 (CN := RX12) (T := TX12) (NF := 54) rfl rfl (by decide) rfl hl.1 ⟨Nat.le_of_ble_eq_true rfl, Nat.le_of_ble_eq_true rfl⟩ (Nat.le_of_ble_eq_true rfl) ⟨by show _ ≤ 601024; omega, by show _ ≤ 7293034; omega⟩ rfl dL_law_1547 (fun H locs hw => ?_)
        refine lv_istore (lv' := [(6, .int r1547.1), (5, .int r1535.1), (0, .ref b), (1, .ref (g.2.2 0)), (2, .ref (g.2.2 171)), (3, .ref (g.2.2 201)), (4, .int v4)]) hx hb dL_law_1550 hl (by decide) rfl (fun ls hl => ?_)
        refine lv_aload_n hx hb dL_law_1552 rfl (lv_at hl 4 rfl) ?_
        obtain ⟨r1553, hr1553, h⟩ := bnd h
        refine cV (b := 171) (As := []) (rest := []) (st1 := [.int r1553.1]) hC hw (c_X12_thrown l g n r1547.2 r1553 hr1553) ml_L_111 im_X12_thrown se_X12_thrown ok171 (CN := RX12) (T := TX12) (NF := 54) rfl rfl (by decide) rfl hl.1 ⟨Nat.le_of_ble_eq_true rfl, Nat.le_of_ble_eq_true rfl⟩ (Nat.le_of_ble_eq_true rfl) ⟨by show _ ≤ 601024; omega, by show _ ≤ 7293034; omega⟩ rfl dL_law_1553 (fun H locs hw => ?_)
        refine lv_iload hx hb dL_law_1556 (lv_at hl 1 rfl) ?_
        refine lv_icmp_eq (tgt := 1563) hx hb dL_law_1558 (by decide) (fun hc => ?_) (fun hc => ?_)
        · rw [if_pos hc] at h
          refine lv_iload hx hb dL_law_1563 (lv_at hl 1 rfl) ?_
          refine lv_if_ne (tgt := 1580) hx hb dL_law_1565 (by decide) (fun hc => ?_) (fun hc => ?_)
          · rw [if_neg hc] at h
            exact B1580 v4 r1553.2 _ _ _ _ _ (by omega) (by omega) hw (lv_sub hl [2, 3, 4, 5, 6] rfl) h
          · rw [if_pos hc] at h
            refine lv_aload_n hx hb dL_law_1568 rfl (lv_at hl 5 rfl) ?_
            refine lv_iconst (v := (0 : Int32)) hx hb dL_law_1569 (by decide) ?_
            refine lJ (j := 0) hC hw ok201 on201 (vin (by decide)) (by decide) dL_law_1570 ?_
            refine lv_iload hx hb dL_law_1571 (lv_at hl 0 rfl) ?_
            refine lv_i2l hx hb dL_law_1573 rfl ?_
            refine W.lcmp hx hb dL_law_1574 ?_
            refine lv_if_eq (tgt := 1580) hx hb dL_law_1575 (by decide) (fun hc => ?_) (fun hc => ?_)
            · rw [if_pos hc] at h
              exact B1580 v4 r1553.2 _ _ _ _ _ (by omega) (by omega) hw (lv_sub hl [2, 3, 4, 5, 6] rfl) h
            · rw [if_neg hc] at h
              refine lv_iconst (v := (0 : Int32)) hx hb dL_law_1578 (by decide) ?_
              exact absurd (congrArg Prod.fst (Option.some.inj h)) (show ¬ (0 : Int32) = 1 by decide)
        · rw [if_neg hc] at h
          refine lv_iconst (v := (0 : Int32)) hx hb dL_law_1561 (by decide) ?_
          exact absurd (congrArg Prod.fst (Option.some.inj h)) (show ¬ (0 : Int32) = 1 by decide)
      have B1636 : ∀ (v4 : Int32) (μ : Mu) (H : Heap) (locs : List Loc) (ls : Array Slot) (cells slots : Nat), cells + k ≤ 600000 → slots + 6 * k ≤ 7000000 → wd g μ s (fun q => s.heap.size ≤ q) H locs → lv_has ls 8 [(0, .ref b), (1, .ref (g.2.2 0)), (2, .ref (g.2.2 171)), (3, .ref (g.2.2 201)), (4, .int v4)] → law_1636 n L xs k23 v4 μ = some (1, μ9) → W p l e room_1 s m #[Value.ref b] below meth c H locs cells slots (lw_Z below #[Value.ref b] s) (F0 m 1636 ls []) := by
        intro v4 μ H locs ls cells slots hc1 hc2 hw hl h
        rw [law_1636] at h
        refine lv_goto (tgt := 2193) hx hb dL_law_1636 (by decide) ?_
        exact B2193 v4 μ _ _ _ _ _ (by omega) (by omega) hw (lv_sub hl [0, 1, 2, 3, 4] rfl) h
      have B1583 : ∀ (v4 : Int32) (μ : Mu) (H : Heap) (locs : List Loc) (ls : Array Slot) (cells slots : Nat), cells + (k + 1) ≤ 600000 → slots + 6 * (k + 1) ≤ 7000000 → wd g μ s (fun q => s.heap.size ≤ q) H locs → lv_has ls 8 [(0, .ref b), (1, .ref (g.2.2 0)), (2, .ref (g.2.2 171)), (3, .ref (g.2.2 201)), (4, .int v4)] → law_1583 n L xs k23 v4 μ = some (1, μ9) → W p l e room_1 s m #[Value.ref b] below meth c H locs cells slots (lw_Z below #[Value.ref b] s) (F0 m 1583 ls []) := by
        intro v4 μ H locs ls cells slots hc1 hc2 hw hl h
        rw [law_1583] at h
        refine lv_aload_n hx hb dL_law_1583 rfl (lv_at hl 1 rfl) ?_
        refine lv_aload_n hx hb dL_law_1584 rfl (lv_at hl 0 rfl) ?_
        refine lv_iload hx hb dL_law_1585 (lv_at hl 4 rfl) ?_
        refine lv_iconst (v := (1 : Int32)) hx hb dL_law_1587 (by decide) ?_
        refine lv_iadd hx hb dL_law_1588 ?_
        obtain ⟨hi1589, h⟩ := gd_some h
        refine va_sld hx hb hX hbl hbA hw.2 hi1589 dL_law_1589 ?_
        refine lv_aload_n hx hb dL_law_1590 rfl (lv_at hl 3 rfl) ?_
        obtain ⟨r1591, hr1591, h⟩ := bnd h
        refine cSL (As := [.ref (g.2.2 0), .int (xs (v4 + (1 : Int32)).toNatClampNeg), .ref (g.2.2 201)]) (rest := []) (st1 := [.int r1591.1]) hC hw (c_L_reached l hst g n (xs (v4 + (1 : Int32)).toNatClampNeg) μ r1591 hr1591) mw_L_reached rfl hl.1 ⟨Nat.le_of_ble_eq_true rfl, Nat.le_of_ble_eq_true rfl⟩ (Nat.le_of_ble_eq_true rfl) ⟨by show _ ≤ 601024; omega, by show _ ≤ 7293034; omega⟩ rfl dL_law_1591 (fun H locs hw => ?_)
        refine lv_istore (lv' := [(5, .int r1591.1), (0, .ref b), (1, .ref (g.2.2 0)), (2, .ref (g.2.2 171)), (3, .ref (g.2.2 201)), (4, .int v4)]) hx hb dL_law_1594 hl (by decide) rfl (fun ls hl => ?_)
        refine lv_aload_n hx hb dL_law_1596 rfl (lv_at hl 3 rfl) ?_
        refine lv_aload_n hx hb dL_law_1597 rfl (lv_at hl 1 rfl) ?_
        refine lv_iload hx hb dL_law_1598 (lv_at hl 5 rfl) ?_
        refine lv_iconst (v := (1 : Int32)) hx hb dL_law_1600 (by decide) ?_
        refine lv_iadd hx hb dL_law_1601 ?_
        refine va_sld hx hb hX hbl hbA hw.2 hi1589 dL_law_1602 ?_
        obtain ⟨r1603, hr1603, h⟩ := bnd h
        refine cV (b := 171) (As := [.int (xs (v4 + (1 : Int32)).toNatClampNeg)]) (rest := []) (st1 := [.int r1603.1]) hC hw (c_X12_reached l g n (xs (v4 + (1 : Int32)).toNatClampNeg) r1591.2 r1603 hr1603) ml_L_219 im_X12_reached se_X12_reached ok171 (CN := RX12) (T := TX12) (NF := 54) rfl rfl (by decide) rfl hl.1 ⟨Nat.le_of_ble_eq_true rfl, Nat.le_of_ble_eq_true rfl⟩ (Nat.le_of_ble_eq_true rfl) ⟨by show _ ≤ 601024; omega, by show _ ≤ 7293034; omega⟩ rfl dL_law_1603 (fun H locs hw => ?_)
        refine lv_istore (lv' := [(6, .int r1603.1), (5, .int r1591.1), (0, .ref b), (1, .ref (g.2.2 0)), (2, .ref (g.2.2 171)), (3, .ref (g.2.2 201)), (4, .int v4)]) hx hb dL_law_1606 hl (by decide) rfl (fun ls hl => ?_)
        refine lv_aload_n hx hb dL_law_1608 rfl (lv_at hl 4 rfl) ?_
        obtain ⟨r1609, hr1609, h⟩ := bnd h
        refine cV (b := 171) (As := []) (rest := []) (st1 := [.int r1609.1]) hC hw (c_X12_thrown l g n r1603.2 r1609 hr1609) ml_L_111 im_X12_thrown se_X12_thrown ok171 (CN := RX12) (T := TX12) (NF := 54) rfl rfl (by decide) rfl hl.1 ⟨Nat.le_of_ble_eq_true rfl, Nat.le_of_ble_eq_true rfl⟩ (Nat.le_of_ble_eq_true rfl) ⟨by show _ ≤ 601024; omega, by show _ ≤ 7293034; omega⟩ rfl dL_law_1609 (fun H locs hw => ?_)
        refine lv_iload hx hb dL_law_1612 (lv_at hl 1 rfl) ?_
        refine lv_icmp_eq (tgt := 1619) hx hb dL_law_1614 (by decide) (fun hc => ?_) (fun hc => ?_)
        · rw [if_pos hc] at h
          refine lv_iload hx hb dL_law_1619 (lv_at hl 1 rfl) ?_
          refine lv_if_ne (tgt := 1636) hx hb dL_law_1621 (by decide) (fun hc => ?_) (fun hc => ?_)
          · rw [if_neg hc] at h
            exact B1636 v4 r1609.2 _ _ _ _ _ (by omega) (by omega) hw (lv_sub hl [2, 3, 4, 5, 6] rfl) h
          · rw [if_pos hc] at h
            refine lv_aload_n hx hb dL_law_1624 rfl (lv_at hl 5 rfl) ?_
            refine lv_iconst (v := (0 : Int32)) hx hb dL_law_1625 (by decide) ?_
            refine lJ (j := 0) hC hw ok201 on201 (vin (by decide)) (by decide) dL_law_1626 ?_
            refine lv_iload hx hb dL_law_1627 (lv_at hl 0 rfl) ?_
            refine lv_i2l hx hb dL_law_1629 rfl ?_
            refine W.lcmp hx hb dL_law_1630 ?_
            refine lv_if_eq (tgt := 1636) hx hb dL_law_1631 (by decide) (fun hc => ?_) (fun hc => ?_)
            · rw [if_pos hc] at h
              exact B1636 v4 r1609.2 _ _ _ _ _ (by omega) (by omega) hw (lv_sub hl [2, 3, 4, 5, 6] rfl) h
            · rw [if_neg hc] at h
              refine lv_iconst (v := (0 : Int32)) hx hb dL_law_1634 (by decide) ?_
              exact absurd (congrArg Prod.fst (Option.some.inj h)) (show ¬ (0 : Int32) = 1 by decide)
        · rw [if_neg hc] at h
          refine lv_iconst (v := (0 : Int32)) hx hb dL_law_1617 (by decide) ?_
          exact absurd (congrArg Prod.fst (Option.some.inj h)) (show ¬ (0 : Int32) = 1 by decide)
      have B1639 : ∀ (v4 : Int32) (μ : Mu) (H : Heap) (locs : List Loc) (ls : Array Slot) (cells slots : Nat), cells + (k + 1) ≤ 600000 → slots + 6 * (k + 1) ≤ 7000000 → wd g μ s (fun q => s.heap.size ≤ q) H locs → lv_has ls 8 [(0, .ref b), (1, .ref (g.2.2 0)), (2, .ref (g.2.2 171)), (3, .ref (g.2.2 201)), (4, .int v4)] → law_1639 n L xs k23 v4 μ = some (1, μ9) → W p l e room_1 s m #[Value.ref b] below meth c H locs cells slots (lw_Z below #[Value.ref b] s) (F0 m 1639 ls []) := by
        intro v4 μ H locs ls cells slots hc1 hc2 hw hl h
        rw [law_1639] at h
        refine lv_aload_n hx hb dL_law_1639 rfl (lv_at hl 1 rfl) ?_
        refine lv_aload_n hx hb dL_law_1640 rfl (lv_at hl 0 rfl) ?_
        refine lv_iload hx hb dL_law_1641 (lv_at hl 4 rfl) ?_
        refine lv_iconst (v := (1 : Int32)) hx hb dL_law_1643 (by decide) ?_
        refine lv_iadd hx hb dL_law_1644 ?_
        obtain ⟨hi1645, h⟩ := gd_some h
        refine va_sld hx hb hX hbl hbA hw.2 hi1645 dL_law_1645 ?_
        obtain ⟨r1646, hr1646, h⟩ := bnd h
        refine cV (b := 0) (As := [.int (xs (v4 + (1 : Int32)).toNatClampNeg)]) (rest := []) (st1 := [.int r1646.1]) hC hw (c_X11_soonest l g n (xs (v4 + (1 : Int32)).toNatClampNeg) μ r1646 hr1646) ml_L_220 im_X11_soonest se_X11_soonest ok0 (CN := RX11) (T := TX11) (NF := 12) rfl rfl (by decide) rfl hl.1 ⟨Nat.le_of_ble_eq_true rfl, Nat.le_of_ble_eq_true rfl⟩ (Nat.le_of_ble_eq_true rfl) ⟨by show _ ≤ 601024; omega, by show _ ≤ 7293034; omega⟩ rfl dL_law_1646 (fun H locs hw => ?_)
        refine lv_aload_n hx hb dL_law_1649 rfl (lv_at hl 2 rfl) ?_
        refine lv_aload_n hx hb dL_law_1650 rfl (lv_at hl 0 rfl) ?_
        refine lv_iload hx hb dL_law_1651 (lv_at hl 4 rfl) ?_
        refine lv_iconst (v := (1 : Int32)) hx hb dL_law_1653 (by decide) ?_
        refine lv_iadd hx hb dL_law_1654 ?_
        refine va_sld hx hb hX hbl hbA hw.2 hi1645 dL_law_1655 ?_
        obtain ⟨r1656, hr1656, h⟩ := bnd h
        refine cV (b := 171) (As := [.int (xs (v4 + (1 : Int32)).toNatClampNeg)]) (rest := [.int r1646.1]) (st1 := [.int r1656.1, .int r1646.1]) hC hw (c_X12_soonest l g n (xs (v4 + (1 : Int32)).toNatClampNeg) r1646.2 r1656 hr1656) ml_L_223 im_X12_soonest se_X12_soonest ok171 (CN := RX12) (T := TX12) (NF := 54) rfl rfl (by decide) rfl hl.1 ⟨Nat.le_of_ble_eq_true rfl, Nat.le_of_ble_eq_true rfl⟩ (Nat.le_of_ble_eq_true rfl) ⟨by show _ ≤ 601024; omega, by show _ ≤ 7293034; omega⟩ rfl dL_law_1656 (fun H locs hw => ?_)
        refine lv_icmp_eq (tgt := 2193) hx hb dL_law_1659 (by decide) (fun hc => ?_) (fun hc => ?_)
        · rw [if_pos hc] at h
          exact B2193 v4 r1656.2 _ _ _ _ _ (by omega) (by omega) hw (lv_sub hl [0, 1, 2, 3, 4] rfl) h
        · rw [if_neg hc] at h
          refine lv_iconst (v := (0 : Int32)) hx hb dL_law_1662 (by decide) ?_
          exact absurd (congrArg Prod.fst (Option.some.inj h)) (show ¬ (0 : Int32) = 1 by decide)
      have B1717 : ∀ (v4 : Int32) (μ : Mu) (H : Heap) (locs : List Loc) (ls : Array Slot) (cells slots : Nat), cells + k ≤ 600000 → slots + 6 * k ≤ 7000000 → wd g μ s (fun q => s.heap.size ≤ q) H locs → lv_has ls 8 [(0, .ref b), (1, .ref (g.2.2 0)), (2, .ref (g.2.2 171)), (3, .ref (g.2.2 201)), (4, .int v4)] → law_1717 n L xs k23 v4 μ = some (1, μ9) → W p l e room_1 s m #[Value.ref b] below meth c H locs cells slots (lw_Z below #[Value.ref b] s) (F0 m 1717 ls []) := by
        intro v4 μ H locs ls cells slots hc1 hc2 hw hl h
        rw [law_1717] at h
        refine lv_goto (tgt := 2193) hx hb dL_law_1717 (by decide) ?_
        exact B2193 v4 μ _ _ _ _ _ (by omega) (by omega) hw (lv_sub hl [0, 1, 2, 3, 4] rfl) h
      have B1664 : ∀ (v4 : Int32) (μ : Mu) (H : Heap) (locs : List Loc) (ls : Array Slot) (cells slots : Nat), cells + (k + 1) ≤ 600000 → slots + 6 * (k + 1) ≤ 7000000 → wd g μ s (fun q => s.heap.size ≤ q) H locs → lv_has ls 8 [(0, .ref b), (1, .ref (g.2.2 0)), (2, .ref (g.2.2 171)), (3, .ref (g.2.2 201)), (4, .int v4)] → law_1664 n L xs k23 v4 μ = some (1, μ9) → W p l e room_1 s m #[Value.ref b] below meth c H locs cells slots (lw_Z below #[Value.ref b] s) (F0 m 1664 ls []) := by
        intro v4 μ H locs ls cells slots hc1 hc2 hw hl h
        rw [law_1664] at h
        refine lv_aload_n hx hb dL_law_1664 rfl (lv_at hl 1 rfl) ?_
        refine lv_aload_n hx hb dL_law_1665 rfl (lv_at hl 0 rfl) ?_
        refine lv_iload hx hb dL_law_1666 (lv_at hl 4 rfl) ?_
        refine lv_iconst (v := (1 : Int32)) hx hb dL_law_1668 (by decide) ?_
        refine lv_iadd hx hb dL_law_1669 ?_
        obtain ⟨hi1670, h⟩ := gd_some h
        refine va_sld hx hb hX hbl hbA hw.2 hi1670 dL_law_1670 ?_
        refine lv_aload_n hx hb dL_law_1671 rfl (lv_at hl 3 rfl) ?_
        obtain ⟨r1672, hr1672, h⟩ := bnd h
        refine cSL (As := [.ref (g.2.2 0), .int (xs (v4 + (1 : Int32)).toNatClampNeg), .ref (g.2.2 201)]) (rest := []) (st1 := [.int r1672.1]) hC hw (c_L_pits l hst g n (xs (v4 + (1 : Int32)).toNatClampNeg) μ r1672 hr1672) mw_L_pits rfl hl.1 ⟨Nat.le_of_ble_eq_true rfl, Nat.le_of_ble_eq_true rfl⟩ (Nat.le_of_ble_eq_true rfl) ⟨by show _ ≤ 601024; omega, by show _ ≤ 7293034; omega⟩ rfl dL_law_1672 (fun H locs hw => ?_)
        refine lv_istore (lv' := [(5, .int r1672.1), (0, .ref b), (1, .ref (g.2.2 0)), (2, .ref (g.2.2 171)), (3, .ref (g.2.2 201)), (4, .int v4)]) hx hb dL_law_1675 hl (by decide) rfl (fun ls hl => ?_)
        refine lv_aload_n hx hb dL_law_1677 rfl (lv_at hl 3 rfl) ?_
        refine lv_aload_n hx hb dL_law_1678 rfl (lv_at hl 1 rfl) ?_
        refine lv_iload hx hb dL_law_1679 (lv_at hl 5 rfl) ?_
        refine lv_iconst (v := (1 : Int32)) hx hb dL_law_1681 (by decide) ?_
        refine lv_iadd hx hb dL_law_1682 ?_
        refine va_sld hx hb hX hbl hbA hw.2 hi1670 dL_law_1683 ?_
        obtain ⟨r1684, hr1684, h⟩ := bnd h
        refine cV (b := 171) (As := [.int (xs (v4 + (1 : Int32)).toNatClampNeg)]) (rest := []) (st1 := [.int r1684.1]) hC hw (c_X12_pits l g n (xs (v4 + (1 : Int32)).toNatClampNeg) r1672.2 r1684 hr1684) ml_L_226 im_X12_pits se_X12_pits ok171 (CN := RX12) (T := TX12) (NF := 54) rfl rfl (by decide) rfl hl.1 ⟨Nat.le_of_ble_eq_true rfl, Nat.le_of_ble_eq_true rfl⟩ (Nat.le_of_ble_eq_true rfl) ⟨by show _ ≤ 601024; omega, by show _ ≤ 7293034; omega⟩ rfl dL_law_1684 (fun H locs hw => ?_)
        refine lv_istore (lv' := [(6, .int r1684.1), (5, .int r1672.1), (0, .ref b), (1, .ref (g.2.2 0)), (2, .ref (g.2.2 171)), (3, .ref (g.2.2 201)), (4, .int v4)]) hx hb dL_law_1687 hl (by decide) rfl (fun ls hl => ?_)
        refine lv_aload_n hx hb dL_law_1689 rfl (lv_at hl 4 rfl) ?_
        obtain ⟨r1690, hr1690, h⟩ := bnd h
        refine cV (b := 171) (As := []) (rest := []) (st1 := [.int r1690.1]) hC hw (c_X12_thrown l g n r1684.2 r1690 hr1690) ml_L_111 im_X12_thrown se_X12_thrown ok171 (CN := RX12) (T := TX12) (NF := 54) rfl rfl (by decide) rfl hl.1 ⟨Nat.le_of_ble_eq_true rfl, Nat.le_of_ble_eq_true rfl⟩ (Nat.le_of_ble_eq_true rfl) ⟨by show _ ≤ 601024; omega, by show _ ≤ 7293034; omega⟩ rfl dL_law_1690 (fun H locs hw => ?_)
        refine lv_iload hx hb dL_law_1693 (lv_at hl 1 rfl) ?_
        refine lv_icmp_eq (tgt := 1700) hx hb dL_law_1695 (by decide) (fun hc => ?_) (fun hc => ?_)
        · rw [if_pos hc] at h
          refine lv_iload hx hb dL_law_1700 (lv_at hl 1 rfl) ?_
          refine lv_if_ne (tgt := 1717) hx hb dL_law_1702 (by decide) (fun hc => ?_) (fun hc => ?_)
          · rw [if_neg hc] at h
            exact B1717 v4 r1690.2 _ _ _ _ _ (by omega) (by omega) hw (lv_sub hl [2, 3, 4, 5, 6] rfl) h
          · rw [if_pos hc] at h
            refine lv_aload_n hx hb dL_law_1705 rfl (lv_at hl 5 rfl) ?_
            refine lv_iconst (v := (0 : Int32)) hx hb dL_law_1706 (by decide) ?_
            refine lJ (j := 0) hC hw ok201 on201 (vin (by decide)) (by decide) dL_law_1707 ?_
            refine lv_iload hx hb dL_law_1708 (lv_at hl 0 rfl) ?_
            refine lv_i2l hx hb dL_law_1710 rfl ?_
            refine W.lcmp hx hb dL_law_1711 ?_
            refine lv_if_eq (tgt := 1717) hx hb dL_law_1712 (by decide) (fun hc => ?_) (fun hc => ?_)
            · rw [if_pos hc] at h
              exact B1717 v4 r1690.2 _ _ _ _ _ (by omega) (by omega) hw (lv_sub hl [2, 3, 4, 5, 6] rfl) h
            · rw [if_neg hc] at h
              refine lv_iconst (v := (0 : Int32)) hx hb dL_law_1715 (by decide) ?_
              exact absurd (congrArg Prod.fst (Option.some.inj h)) (show ¬ (0 : Int32) = 1 by decide)
        · rw [if_neg hc] at h
          refine lv_iconst (v := (0 : Int32)) hx hb dL_law_1698 (by decide) ?_
          exact absurd (congrArg Prod.fst (Option.some.inj h)) (show ¬ (0 : Int32) = 1 by decide)
      have B1720 : ∀ (v4 : Int32) (μ : Mu) (H : Heap) (locs : List Loc) (ls : Array Slot) (cells slots : Nat), cells + (k + 1) ≤ 600000 → slots + 6 * (k + 1) ≤ 7000000 → wd g μ s (fun q => s.heap.size ≤ q) H locs → lv_has ls 8 [(0, .ref b), (1, .ref (g.2.2 0)), (2, .ref (g.2.2 171)), (3, .ref (g.2.2 201)), (4, .int v4)] → law_1720 n L xs k23 v4 μ = some (1, μ9) → W p l e room_1 s m #[Value.ref b] below meth c H locs cells slots (lw_Z below #[Value.ref b] s) (F0 m 1720 ls []) := by
        intro v4 μ H locs ls cells slots hc1 hc2 hw hl h
        rw [law_1720] at h
        refine lv_aload_n hx hb dL_law_1720 rfl (lv_at hl 1 rfl) ?_
        obtain ⟨r1721, hr1721, h⟩ := bnd h
        refine cV (b := 0) (As := []) (rest := []) (st1 := [.int r1721.1]) hC hw (c_X11_forced l g n μ r1721 hr1721) ml_L_227 im_X11_forced se_X11_forced ok0 (CN := RX11) (T := TX11) (NF := 12) rfl rfl (by decide) rfl hl.1 ⟨Nat.le_of_ble_eq_true rfl, Nat.le_of_ble_eq_true rfl⟩ (Nat.le_of_ble_eq_true rfl) ⟨by show _ ≤ 601024; omega, by show _ ≤ 7293034; omega⟩ rfl dL_law_1721 (fun H locs hw => ?_)
        refine lv_aload_n hx hb dL_law_1724 rfl (lv_at hl 2 rfl) ?_
        obtain ⟨r1725, hr1725, h⟩ := bnd h
        refine cV (b := 171) (As := []) (rest := [.int r1721.1]) (st1 := [.int r1725.1, .int r1721.1]) hC hw (c_X12_forced l g n r1721.2 r1725 hr1725) ml_L_230 im_X12_forced se_X12_forced ok171 (CN := RX12) (T := TX12) (NF := 54) rfl rfl (by decide) rfl hl.1 ⟨Nat.le_of_ble_eq_true rfl, Nat.le_of_ble_eq_true rfl⟩ (Nat.le_of_ble_eq_true rfl) ⟨by show _ ≤ 601024; omega, by show _ ≤ 7293034; omega⟩ rfl dL_law_1725 (fun H locs hw => ?_)
        refine lv_icmp_eq (tgt := 2193) hx hb dL_law_1728 (by decide) (fun hc => ?_) (fun hc => ?_)
        · rw [if_pos hc] at h
          exact B2193 v4 r1725.2 _ _ _ _ _ (by omega) (by omega) hw (lv_sub hl [0, 1, 2, 3, 4] rfl) h
        · rw [if_neg hc] at h
          refine lv_iconst (v := (0 : Int32)) hx hb dL_law_1731 (by decide) ?_
          exact absurd (congrArg Prod.fst (Option.some.inj h)) (show ¬ (0 : Int32) = 1 by decide)
      have B1798 : ∀ (v4 : Int32) (μ : Mu) (H : Heap) (locs : List Loc) (ls : Array Slot) (cells slots : Nat), cells + k ≤ 600000 → slots + 6 * k ≤ 7000000 → wd g μ s (fun q => s.heap.size ≤ q) H locs → lv_has ls 8 [(0, .ref b), (1, .ref (g.2.2 0)), (2, .ref (g.2.2 171)), (3, .ref (g.2.2 201)), (4, .int v4)] → law_1798 n L xs k23 v4 μ = some (1, μ9) → W p l e room_1 s m #[Value.ref b] below meth c H locs cells slots (lw_Z below #[Value.ref b] s) (F0 m 1798 ls []) := by
        intro v4 μ H locs ls cells slots hc1 hc2 hw hl h
        rw [law_1798] at h
        refine lv_goto (tgt := 2193) hx hb dL_law_1798 (by decide) ?_
        exact B2193 v4 μ _ _ _ _ _ (by omega) (by omega) hw (lv_sub hl [0, 1, 2, 3, 4] rfl) h
      have B1733 : ∀ (v4 : Int32) (μ : Mu) (H : Heap) (locs : List Loc) (ls : Array Slot) (cells slots : Nat), cells + (k + 1) ≤ 600000 → slots + 6 * (k + 1) ≤ 7000000 → wd g μ s (fun q => s.heap.size ≤ q) H locs → lv_has ls 8 [(0, .ref b), (1, .ref (g.2.2 0)), (2, .ref (g.2.2 171)), (3, .ref (g.2.2 201)), (4, .int v4)] → law_1733 n L xs k23 v4 μ = some (1, μ9) → W p l e room_1 s m #[Value.ref b] below meth c H locs cells slots (lw_Z below #[Value.ref b] s) (F0 m 1733 ls []) := by
        intro v4 μ H locs ls cells slots hc1 hc2 hw hl h
        rw [law_1733] at h
        refine lv_aload_n hx hb dL_law_1733 rfl (lv_at hl 1 rfl) ?_
        refine lv_aload_n hx hb dL_law_1734 rfl (lv_at hl 0 rfl) ?_
        refine lv_iload hx hb dL_law_1735 (lv_at hl 4 rfl) ?_
        refine lv_iconst (v := (1 : Int32)) hx hb dL_law_1737 (by decide) ?_
        refine lv_iadd hx hb dL_law_1738 ?_
        obtain ⟨hi1739, h⟩ := gd_some h
        refine va_sld hx hb hX hbl hbA hw.2 hi1739 dL_law_1739 ?_
        refine lv_aload_n hx hb dL_law_1740 rfl (lv_at hl 0 rfl) ?_
        refine lv_iload hx hb dL_law_1741 (lv_at hl 4 rfl) ?_
        refine lv_iconst (v := (2 : Int32)) hx hb dL_law_1743 (by decide) ?_
        refine lv_iadd hx hb dL_law_1744 ?_
        obtain ⟨hi1745, h⟩ := gd_some h
        refine va_sld hx hb hX hbl hbA hw.2 hi1745 dL_law_1745 ?_
        refine lv_aload_n hx hb dL_law_1746 rfl (lv_at hl 3 rfl) ?_
        obtain ⟨r1747, hr1747, h⟩ := bnd h
        refine cSL (As := [.ref (g.2.2 0), .int (xs (v4 + (1 : Int32)).toNatClampNeg), .int (xs (v4 + (2 : Int32)).toNatClampNeg), .ref (g.2.2 201)]) (rest := []) (st1 := [.int r1747.1]) hC hw (c_L_play l hst g n (xs (v4 + (1 : Int32)).toNatClampNeg) (xs (v4 + (2 : Int32)).toNatClampNeg) μ r1747 hr1747) mw_L_play rfl hl.1 ⟨Nat.le_of_ble_eq_true rfl, Nat.le_of_ble_eq_true rfl⟩ (Nat.le_of_ble_eq_true rfl) ⟨by show _ ≤ 601024; omega, by show _ ≤ 7293034; omega⟩ rfl dL_law_1747 (fun H locs hw => ?_)
        refine lv_istore (lv' := [(5, .int r1747.1), (0, .ref b), (1, .ref (g.2.2 0)), (2, .ref (g.2.2 171)), (3, .ref (g.2.2 201)), (4, .int v4)]) hx hb dL_law_1750 hl (by decide) rfl (fun ls hl => ?_)
        refine lv_aload_n hx hb dL_law_1752 rfl (lv_at hl 3 rfl) ?_
        refine lv_aload_n hx hb dL_law_1753 rfl (lv_at hl 1 rfl) ?_
        refine lv_iload hx hb dL_law_1754 (lv_at hl 5 rfl) ?_
        refine lv_iconst (v := (1 : Int32)) hx hb dL_law_1756 (by decide) ?_
        refine lv_iadd hx hb dL_law_1757 ?_
        refine va_sld hx hb hX hbl hbA hw.2 hi1739 dL_law_1758 ?_
        refine lv_aload_n hx hb dL_law_1759 rfl (lv_at hl 1 rfl) ?_
        refine lv_iload hx hb dL_law_1760 (lv_at hl 5 rfl) ?_
        refine lv_iconst (v := (2 : Int32)) hx hb dL_law_1762 (by decide) ?_
        refine lv_iadd hx hb dL_law_1763 ?_
        refine va_sld hx hb hX hbl hbA hw.2 hi1745 dL_law_1764 ?_
        obtain ⟨r1765, hr1765, h⟩ := bnd h
        refine cV (b := 171) (As := [.int (xs (v4 + (1 : Int32)).toNatClampNeg), .int (xs (v4 + (2 : Int32)).toNatClampNeg)]) (rest := []) (st1 := [.int r1765.1]) hC hw (c_X12_play l g n (xs (v4 + (1 : Int32)).toNatClampNeg) (xs (v4 + (2 : Int32)).toNatClampNeg) r1747.2 r1765 hr1765) ml_L_233 im_X12_play se_X12_play ok171 (CN := RX12) (T := TX12) (NF := 54) rfl rfl (by decide) rfl hl.1 ⟨Nat.le_of_ble_eq_true rfl, Nat.le_of_ble_eq_true rfl⟩ (Nat.le_of_ble_eq_true rfl) ⟨by show _ ≤ 601024; omega, by show _ ≤ 7293034; omega⟩ rfl dL_law_1765 (fun H locs hw => ?_)
        refine lv_istore (lv' := [(6, .int r1765.1), (5, .int r1747.1), (0, .ref b), (1, .ref (g.2.2 0)), (2, .ref (g.2.2 171)), (3, .ref (g.2.2 201)), (4, .int v4)]) hx hb dL_law_1768 hl (by decide) rfl (fun ls hl => ?_)
        refine lv_aload_n hx hb dL_law_1770 rfl (lv_at hl 4 rfl) ?_
        obtain ⟨r1771, hr1771, h⟩ := bnd h
        refine cV (b := 171) (As := []) (rest := []) (st1 := [.int r1771.1]) hC hw (c_X12_thrown l g n r1765.2 r1771 hr1771) ml_L_111 im_X12_thrown se_X12_thrown ok171 (CN := RX12) (T := TX12) (NF := 54) rfl rfl (by decide) rfl hl.1 ⟨Nat.le_of_ble_eq_true rfl, Nat.le_of_ble_eq_true rfl⟩ (Nat.le_of_ble_eq_true rfl) ⟨by show _ ≤ 601024; omega, by show _ ≤ 7293034; omega⟩ rfl dL_law_1771 (fun H locs hw => ?_)
        refine lv_iload hx hb dL_law_1774 (lv_at hl 1 rfl) ?_
        refine lv_icmp_eq (tgt := 1781) hx hb dL_law_1776 (by decide) (fun hc => ?_) (fun hc => ?_)
        · rw [if_pos hc] at h
          refine lv_iload hx hb dL_law_1781 (lv_at hl 1 rfl) ?_
          refine lv_if_ne (tgt := 1798) hx hb dL_law_1783 (by decide) (fun hc => ?_) (fun hc => ?_)
          · rw [if_neg hc] at h
            exact B1798 v4 r1771.2 _ _ _ _ _ (by omega) (by omega) hw (lv_sub hl [2, 3, 4, 5, 6] rfl) h
          · rw [if_pos hc] at h
            refine lv_aload_n hx hb dL_law_1786 rfl (lv_at hl 5 rfl) ?_
            refine lv_iconst (v := (0 : Int32)) hx hb dL_law_1787 (by decide) ?_
            refine lJ (j := 0) hC hw ok201 on201 (vin (by decide)) (by decide) dL_law_1788 ?_
            refine lv_iload hx hb dL_law_1789 (lv_at hl 0 rfl) ?_
            refine lv_i2l hx hb dL_law_1791 rfl ?_
            refine W.lcmp hx hb dL_law_1792 ?_
            refine lv_if_eq (tgt := 1798) hx hb dL_law_1793 (by decide) (fun hc => ?_) (fun hc => ?_)
            · rw [if_pos hc] at h
              exact B1798 v4 r1771.2 _ _ _ _ _ (by omega) (by omega) hw (lv_sub hl [2, 3, 4, 5, 6] rfl) h
            · rw [if_neg hc] at h
              refine lv_iconst (v := (0 : Int32)) hx hb dL_law_1796 (by decide) ?_
              exact absurd (congrArg Prod.fst (Option.some.inj h)) (show ¬ (0 : Int32) = 1 by decide)
        · rw [if_neg hc] at h
          refine lv_iconst (v := (0 : Int32)) hx hb dL_law_1779 (by decide) ?_
          exact absurd (congrArg Prod.fst (Option.some.inj h)) (show ¬ (0 : Int32) = 1 by decide)
      have B1866 : ∀ (v4 : Int32) (μ : Mu) (H : Heap) (locs : List Loc) (ls : Array Slot) (cells slots : Nat), cells + k ≤ 600000 → slots + 6 * k ≤ 7000000 → wd g μ s (fun q => s.heap.size ≤ q) H locs → lv_has ls 8 [(0, .ref b), (1, .ref (g.2.2 0)), (2, .ref (g.2.2 171)), (3, .ref (g.2.2 201)), (4, .int v4)] → law_1866 n L xs k23 v4 μ = some (1, μ9) → W p l e room_1 s m #[Value.ref b] below meth c H locs cells slots (lw_Z below #[Value.ref b] s) (F0 m 1866 ls []) := by
        intro v4 μ H locs ls cells slots hc1 hc2 hw hl h
        rw [law_1866] at h
        refine lv_goto (tgt := 2193) hx hb dL_law_1866 (by decide) ?_
        exact B2193 v4 μ _ _ _ _ _ (by omega) (by omega) hw (lv_sub hl [0, 1, 2, 3, 4] rfl) h
      have B1801 : ∀ (v4 : Int32) (μ : Mu) (H : Heap) (locs : List Loc) (ls : Array Slot) (cells slots : Nat), cells + (k + 1) ≤ 600000 → slots + 6 * (k + 1) ≤ 7000000 → wd g μ s (fun q => s.heap.size ≤ q) H locs → lv_has ls 8 [(0, .ref b), (1, .ref (g.2.2 0)), (2, .ref (g.2.2 171)), (3, .ref (g.2.2 201)), (4, .int v4)] → law_1801 n L xs k23 v4 μ = some (1, μ9) → W p l e room_1 s m #[Value.ref b] below meth c H locs cells slots (lw_Z below #[Value.ref b] s) (F0 m 1801 ls []) := by
        intro v4 μ H locs ls cells slots hc1 hc2 hw hl h
        rw [law_1801] at h
        refine lv_aload_n hx hb dL_law_1801 rfl (lv_at hl 1 rfl) ?_
        refine lv_aload_n hx hb dL_law_1802 rfl (lv_at hl 0 rfl) ?_
        refine lv_iload hx hb dL_law_1803 (lv_at hl 4 rfl) ?_
        refine lv_iconst (v := (1 : Int32)) hx hb dL_law_1805 (by decide) ?_
        refine lv_iadd hx hb dL_law_1806 ?_
        obtain ⟨hi1807, h⟩ := gd_some h
        refine va_sld hx hb hX hbl hbA hw.2 hi1807 dL_law_1807 ?_
        refine lv_aload_n hx hb dL_law_1808 rfl (lv_at hl 0 rfl) ?_
        refine lv_iload hx hb dL_law_1809 (lv_at hl 4 rfl) ?_
        refine lv_iconst (v := (2 : Int32)) hx hb dL_law_1811 (by decide) ?_
        refine lv_iadd hx hb dL_law_1812 ?_
        obtain ⟨hi1813, h⟩ := gd_some h
        refine va_sld hx hb hX hbl hbA hw.2 hi1813 dL_law_1813 ?_
        refine lv_aload_n hx hb dL_law_1814 rfl (lv_at hl 3 rfl) ?_
        obtain ⟨r1815, hr1815, h⟩ := bnd h
        refine cSL (As := [.ref (g.2.2 0), .int (xs (v4 + (1 : Int32)).toNatClampNeg), .int (xs (v4 + (2 : Int32)).toNatClampNeg), .ref (g.2.2 201)]) (rest := []) (st1 := [.int r1815.1]) hC hw (c_L_against l hst g n (xs (v4 + (1 : Int32)).toNatClampNeg) (xs (v4 + (2 : Int32)).toNatClampNeg) μ r1815 hr1815) mw_L_against rfl hl.1 ⟨Nat.le_of_ble_eq_true rfl, Nat.le_of_ble_eq_true rfl⟩ (Nat.le_of_ble_eq_true rfl) ⟨by show _ ≤ 601024; omega, by show _ ≤ 7293034; omega⟩ rfl dL_law_1815 (fun H locs hw => ?_)
        refine lv_istore (lv' := [(5, .int r1815.1), (0, .ref b), (1, .ref (g.2.2 0)), (2, .ref (g.2.2 171)), (3, .ref (g.2.2 201)), (4, .int v4)]) hx hb dL_law_1818 hl (by decide) rfl (fun ls hl => ?_)
        refine lv_aload_n hx hb dL_law_1820 rfl (lv_at hl 3 rfl) ?_
        refine lv_aload_n hx hb dL_law_1821 rfl (lv_at hl 1 rfl) ?_
        refine lv_iload hx hb dL_law_1822 (lv_at hl 5 rfl) ?_
        refine lv_iconst (v := (1 : Int32)) hx hb dL_law_1824 (by decide) ?_
        refine lv_iadd hx hb dL_law_1825 ?_
        refine va_sld hx hb hX hbl hbA hw.2 hi1807 dL_law_1826 ?_
        refine lv_aload_n hx hb dL_law_1827 rfl (lv_at hl 1 rfl) ?_
        refine lv_iload hx hb dL_law_1828 (lv_at hl 5 rfl) ?_
        refine lv_iconst (v := (2 : Int32)) hx hb dL_law_1830 (by decide) ?_
        refine lv_iadd hx hb dL_law_1831 ?_
        refine va_sld hx hb hX hbl hbA hw.2 hi1813 dL_law_1832 ?_
        obtain ⟨r1833, hr1833, h⟩ := bnd h
        refine cV (b := 171) (As := [.int (xs (v4 + (1 : Int32)).toNatClampNeg), .int (xs (v4 + (2 : Int32)).toNatClampNeg)]) (rest := []) (st1 := [.int r1833.1]) hC hw (c_X12_against l g n (xs (v4 + (1 : Int32)).toNatClampNeg) (xs (v4 + (2 : Int32)).toNatClampNeg) r1815.2 r1833 hr1833) ml_L_236 im_X12_against se_X12_against ok171 (CN := RX12) (T := TX12) (NF := 54) rfl rfl (by decide) rfl hl.1 ⟨Nat.le_of_ble_eq_true rfl, Nat.le_of_ble_eq_true rfl⟩ (Nat.le_of_ble_eq_true rfl) ⟨by show _ ≤ 601024; omega, by show _ ≤ 7293034; omega⟩ rfl dL_law_1833 (fun H locs hw => ?_)
        refine lv_istore (lv' := [(6, .int r1833.1), (5, .int r1815.1), (0, .ref b), (1, .ref (g.2.2 0)), (2, .ref (g.2.2 171)), (3, .ref (g.2.2 201)), (4, .int v4)]) hx hb dL_law_1836 hl (by decide) rfl (fun ls hl => ?_)
        refine lv_aload_n hx hb dL_law_1838 rfl (lv_at hl 4 rfl) ?_
        obtain ⟨r1839, hr1839, h⟩ := bnd h
        refine cV (b := 171) (As := []) (rest := []) (st1 := [.int r1839.1]) hC hw (c_X12_thrown l g n r1833.2 r1839 hr1839) ml_L_111 im_X12_thrown se_X12_thrown ok171 (CN := RX12) (T := TX12) (NF := 54) rfl rfl (by decide) rfl hl.1 ⟨Nat.le_of_ble_eq_true rfl, Nat.le_of_ble_eq_true rfl⟩ (Nat.le_of_ble_eq_true rfl) ⟨by show _ ≤ 601024; omega, by show _ ≤ 7293034; omega⟩ rfl dL_law_1839 (fun H locs hw => ?_)
        refine lv_iload hx hb dL_law_1842 (lv_at hl 1 rfl) ?_
        refine lv_icmp_eq (tgt := 1849) hx hb dL_law_1844 (by decide) (fun hc => ?_) (fun hc => ?_)
        · rw [if_pos hc] at h
          refine lv_iload hx hb dL_law_1849 (lv_at hl 1 rfl) ?_
          refine lv_if_ne (tgt := 1866) hx hb dL_law_1851 (by decide) (fun hc => ?_) (fun hc => ?_)
          · rw [if_neg hc] at h
            exact B1866 v4 r1839.2 _ _ _ _ _ (by omega) (by omega) hw (lv_sub hl [2, 3, 4, 5, 6] rfl) h
          · rw [if_pos hc] at h
            refine lv_aload_n hx hb dL_law_1854 rfl (lv_at hl 5 rfl) ?_
            refine lv_iconst (v := (0 : Int32)) hx hb dL_law_1855 (by decide) ?_
            refine lJ (j := 0) hC hw ok201 on201 (vin (by decide)) (by decide) dL_law_1856 ?_
            refine lv_iload hx hb dL_law_1857 (lv_at hl 0 rfl) ?_
            refine lv_i2l hx hb dL_law_1859 rfl ?_
            refine W.lcmp hx hb dL_law_1860 ?_
            refine lv_if_eq (tgt := 1866) hx hb dL_law_1861 (by decide) (fun hc => ?_) (fun hc => ?_)
            · rw [if_pos hc] at h
              exact B1866 v4 r1839.2 _ _ _ _ _ (by omega) (by omega) hw (lv_sub hl [2, 3, 4, 5, 6] rfl) h
            · rw [if_neg hc] at h
              refine lv_iconst (v := (0 : Int32)) hx hb dL_law_1864 (by decide) ?_
              exact absurd (congrArg Prod.fst (Option.some.inj h)) (show ¬ (0 : Int32) = 1 by decide)
        · rw [if_neg hc] at h
          refine lv_iconst (v := (0 : Int32)) hx hb dL_law_1847 (by decide) ?_
          exact absurd (congrArg Prod.fst (Option.some.inj h)) (show ¬ (0 : Int32) = 1 by decide)
      have B1869 : ∀ (v4 : Int32) (μ : Mu) (H : Heap) (locs : List Loc) (ls : Array Slot) (cells slots : Nat), cells + (k + 1) ≤ 600000 → slots + 6 * (k + 1) ≤ 7000000 → wd g μ s (fun q => s.heap.size ≤ q) H locs → lv_has ls 8 [(0, .ref b), (1, .ref (g.2.2 0)), (2, .ref (g.2.2 171)), (3, .ref (g.2.2 201)), (4, .int v4)] → law_1869 n L xs k23 v4 μ = some (1, μ9) → W p l e room_1 s m #[Value.ref b] below meth c H locs cells slots (lw_Z below #[Value.ref b] s) (F0 m 1869 ls []) := by
        intro v4 μ H locs ls cells slots hc1 hc2 hw hl h
        rw [law_1869] at h
        refine lv_aload_n hx hb dL_law_1869 rfl (lv_at hl 1 rfl) ?_
        refine lv_aload_n hx hb dL_law_1870 rfl (lv_at hl 0 rfl) ?_
        refine lv_iload hx hb dL_law_1871 (lv_at hl 4 rfl) ?_
        refine lv_iconst (v := (1 : Int32)) hx hb dL_law_1873 (by decide) ?_
        refine lv_iadd hx hb dL_law_1874 ?_
        obtain ⟨hi1875, h⟩ := gd_some h
        refine va_sld hx hb hX hbl hbA hw.2 hi1875 dL_law_1875 ?_
        refine lv_aload_n hx hb dL_law_1876 rfl (lv_at hl 0 rfl) ?_
        refine lv_iload hx hb dL_law_1877 (lv_at hl 4 rfl) ?_
        refine lv_iconst (v := (2 : Int32)) hx hb dL_law_1879 (by decide) ?_
        refine lv_iadd hx hb dL_law_1880 ?_
        obtain ⟨hi1881, h⟩ := gd_some h
        refine va_sld hx hb hX hbl hbA hw.2 hi1881 dL_law_1881 ?_
        refine lv_aload_n hx hb dL_law_1882 rfl (lv_at hl 0 rfl) ?_
        refine lv_iload hx hb dL_law_1883 (lv_at hl 4 rfl) ?_
        refine lv_iconst (v := (3 : Int32)) hx hb dL_law_1885 (by decide) ?_
        refine lv_iadd hx hb dL_law_1886 ?_
        obtain ⟨hi1887, h⟩ := gd_some h
        refine va_sld hx hb hX hbl hbA hw.2 hi1887 dL_law_1887 ?_
        obtain ⟨r1888, hr1888, h⟩ := bnd h
        refine cSL (As := [.ref (g.2.2 0), .int (xs (v4 + (1 : Int32)).toNatClampNeg), .int (xs (v4 + (2 : Int32)).toNatClampNeg), .int (xs (v4 + (3 : Int32)).toNatClampNeg)]) (rest := []) (st1 := [.int r1888.1]) hC hw (c_L_tray l hst g n (xs (v4 + (1 : Int32)).toNatClampNeg) (xs (v4 + (2 : Int32)).toNatClampNeg) (xs (v4 + (3 : Int32)).toNatClampNeg) μ r1888 hr1888) mw_L_tray rfl hl.1 ⟨Nat.le_of_ble_eq_true rfl, Nat.le_of_ble_eq_true rfl⟩ (Nat.le_of_ble_eq_true rfl) ⟨by show _ ≤ 601024; omega, by show _ ≤ 7293034; omega⟩ rfl dL_law_1888 (fun H locs hw => ?_)
        refine lv_istore (lv' := [(5, .int r1888.1), (0, .ref b), (1, .ref (g.2.2 0)), (2, .ref (g.2.2 171)), (3, .ref (g.2.2 201)), (4, .int v4)]) hx hb dL_law_1891 hl (by decide) rfl (fun ls hl => ?_)
        refine lv_aload_n hx hb dL_law_1893 rfl (lv_at hl 3 rfl) ?_
        refine lv_aload_n hx hb dL_law_1894 rfl (lv_at hl 1 rfl) ?_
        refine lv_iload hx hb dL_law_1895 (lv_at hl 5 rfl) ?_
        refine lv_iconst (v := (1 : Int32)) hx hb dL_law_1897 (by decide) ?_
        refine lv_iadd hx hb dL_law_1898 ?_
        refine va_sld hx hb hX hbl hbA hw.2 hi1875 dL_law_1899 ?_
        refine lv_aload_n hx hb dL_law_1900 rfl (lv_at hl 1 rfl) ?_
        refine lv_iload hx hb dL_law_1901 (lv_at hl 5 rfl) ?_
        refine lv_iconst (v := (2 : Int32)) hx hb dL_law_1903 (by decide) ?_
        refine lv_iadd hx hb dL_law_1904 ?_
        refine va_sld hx hb hX hbl hbA hw.2 hi1881 dL_law_1905 ?_
        refine lv_aload_n hx hb dL_law_1906 rfl (lv_at hl 1 rfl) ?_
        refine lv_iload hx hb dL_law_1907 (lv_at hl 5 rfl) ?_
        refine lv_iconst (v := (3 : Int32)) hx hb dL_law_1909 (by decide) ?_
        refine lv_iadd hx hb dL_law_1910 ?_
        refine va_sld hx hb hX hbl hbA hw.2 hi1887 dL_law_1911 ?_
        obtain ⟨r1912, hr1912, h⟩ := bnd h
        refine cV (b := 171) (As := [.int (xs (v4 + (1 : Int32)).toNatClampNeg), .int (xs (v4 + (2 : Int32)).toNatClampNeg), .int (xs (v4 + (3 : Int32)).toNatClampNeg)]) (rest := []) (st1 := []) hC hw (c_X12_tray l g n (xs (v4 + (1 : Int32)).toNatClampNeg) (xs (v4 + (2 : Int32)).toNatClampNeg) (xs (v4 + (3 : Int32)).toNatClampNeg) r1888.2 r1912 hr1912) ml_L_240 im_X12_tray se_X12_tray ok171 (CN := RX12) (T := TX12) (NF := 54) rfl rfl (by decide) rfl hl.1 ⟨Nat.le_of_ble_eq_true rfl, Nat.le_of_ble_eq_true rfl⟩ (Nat.le_of_ble_eq_true rfl) ⟨by show _ ≤ 601024; omega, by show _ ≤ 7293034; omega⟩ rfl dL_law_1912 (fun H locs hw => ?_)
        refine lv_aload_n hx hb dL_law_1915 rfl (lv_at hl 3 rfl) ?_
        obtain ⟨r1916, hr1916, h⟩ := bnd h
        refine cV (b := 171) (As := []) (rest := []) (st1 := [.int r1916.1]) hC hw (c_X12_thrown l g n r1912.2 r1916 hr1916) ml_L_111 im_X12_thrown se_X12_thrown ok171 (CN := RX12) (T := TX12) (NF := 54) rfl rfl (by decide) rfl hl.1 ⟨Nat.le_of_ble_eq_true rfl, Nat.le_of_ble_eq_true rfl⟩ (Nat.le_of_ble_eq_true rfl) ⟨by show _ ≤ 601024; omega, by show _ ≤ 7293034; omega⟩ rfl dL_law_1916 (fun H locs hw => ?_)
        refine lv_iload hx hb dL_law_1919 (lv_at hl 0 rfl) ?_
        refine lv_icmp_eq (tgt := 1926) hx hb dL_law_1921 (by decide) (fun hc => ?_) (fun hc => ?_)
        · rw [if_pos hc] at h
          refine lv_goto (tgt := 2193) hx hb dL_law_1926 (by decide) ?_
          exact B2193 v4 r1916.2 _ _ _ _ _ (by omega) (by omega) hw (lv_sub hl [1, 2, 3, 4, 5] rfl) h
        · rw [if_neg hc] at h
          refine lv_iconst (v := (0 : Int32)) hx hb dL_law_1924 (by decide) ?_
          exact absurd (congrArg Prod.fst (Option.some.inj h)) (show ¬ (0 : Int32) = 1 by decide)
      have B2037 : ∀ (v4 : Int32) (μ : Mu) (H : Heap) (locs : List Loc) (ls : Array Slot) (cells slots : Nat), cells + k ≤ 600000 → slots + 6 * k ≤ 7000000 → wd g μ s (fun q => s.heap.size ≤ q) H locs → lv_has ls 8 [(0, .ref b), (1, .ref (g.2.2 0)), (2, .ref (g.2.2 171)), (3, .ref (g.2.2 201)), (4, .int v4)] → law_2037 n L xs k23 v4 μ = some (1, μ9) → W p l e room_1 s m #[Value.ref b] below meth c H locs cells slots (lw_Z below #[Value.ref b] s) (F0 m 2037 ls []) := by
        intro v4 μ H locs ls cells slots hc1 hc2 hw hl h
        rw [law_2037] at h
        refine lv_goto (tgt := 2193) hx hb dL_law_2037 (by decide) ?_
        exact B2193 v4 μ _ _ _ _ _ (by omega) (by omega) hw (lv_sub hl [0, 1, 2, 3, 4] rfl) h
      have B1929 : ∀ (v4 : Int32) (μ : Mu) (H : Heap) (locs : List Loc) (ls : Array Slot) (cells slots : Nat), cells + (k + 1) ≤ 600000 → slots + 6 * (k + 1) ≤ 7000000 → wd g μ s (fun q => s.heap.size ≤ q) H locs → lv_has ls 8 [(0, .ref b), (1, .ref (g.2.2 0)), (2, .ref (g.2.2 171)), (3, .ref (g.2.2 201)), (4, .int v4)] → law_1929 n L xs k23 v4 μ = some (1, μ9) → W p l e room_1 s m #[Value.ref b] below meth c H locs cells slots (lw_Z below #[Value.ref b] s) (F0 m 1929 ls []) := by
        intro v4 μ H locs ls cells slots hc1 hc2 hw hl h
        rw [law_1929] at h
        refine lv_aload_n hx hb dL_law_1929 rfl (lv_at hl 1 rfl) ?_
        refine lv_aload_n hx hb dL_law_1930 rfl (lv_at hl 0 rfl) ?_
        refine lv_iload hx hb dL_law_1931 (lv_at hl 4 rfl) ?_
        refine lv_iconst (v := (1 : Int32)) hx hb dL_law_1933 (by decide) ?_
        refine lv_iadd hx hb dL_law_1934 ?_
        obtain ⟨hi1935, h⟩ := gd_some h
        refine va_sld hx hb hX hbl hbA hw.2 hi1935 dL_law_1935 ?_
        refine lv_aload_n hx hb dL_law_1936 rfl (lv_at hl 0 rfl) ?_
        refine lv_iload hx hb dL_law_1937 (lv_at hl 4 rfl) ?_
        refine lv_iconst (v := (2 : Int32)) hx hb dL_law_1939 (by decide) ?_
        refine lv_iadd hx hb dL_law_1940 ?_
        obtain ⟨hi1941, h⟩ := gd_some h
        refine va_sld hx hb hX hbl hbA hw.2 hi1941 dL_law_1941 ?_
        refine lv_aload_n hx hb dL_law_1942 rfl (lv_at hl 0 rfl) ?_
        refine lv_iload hx hb dL_law_1943 (lv_at hl 4 rfl) ?_
        refine lv_iconst (v := (3 : Int32)) hx hb dL_law_1945 (by decide) ?_
        refine lv_iadd hx hb dL_law_1946 ?_
        obtain ⟨hi1947, h⟩ := gd_some h
        refine va_sld hx hb hX hbl hbA hw.2 hi1947 dL_law_1947 ?_
        refine lv_i2l hx hb dL_law_1948 rfl ?_
        refine lv_bipush (v := (32 : Int32)) hx hb dL_law_1949 (by decide) ?_
        refine lv_lshl hx hb dL_law_1951 rfl ?_
        refine lv_aload_n hx hb dL_law_1952 rfl (lv_at hl 0 rfl) ?_
        refine lv_iload hx hb dL_law_1953 (lv_at hl 4 rfl) ?_
        refine lv_iconst (v := (4 : Int32)) hx hb dL_law_1955 (by decide) ?_
        refine lv_iadd hx hb dL_law_1956 ?_
        obtain ⟨hi1957, h⟩ := gd_some h
        refine va_sld hx hb hX hbl hbA hw.2 hi1957 dL_law_1957 ?_
        refine lv_i2l hx hb dL_law_1958 rfl ?_
        refine lv_ldc2 (v := (4294967295 : Int64)) hx hb hC.2.2.2.1 (hC.2.2.2.2.1 _ cl_L_241) dL_law_1959 ?_
        refine lv_land hx hb dL_law_1962 ?_
        refine lv_lor hx hb dL_law_1963 ?_
        refine lv_aload_n hx hb dL_law_1964 rfl (lv_at hl 3 rfl) ?_
        obtain ⟨r1965, hr1965, h⟩ := bnd h
        refine cSL (As := [.ref (g.2.2 0), .int (xs (v4 + (1 : Int32)).toNatClampNeg), .int (xs (v4 + (2 : Int32)).toNatClampNeg), .long ((((xs (v4 + (3 : Int32)).toNatClampNeg).toInt64) <<< ((32 : Int32).toInt64 &&& 63)) ||| (((xs (v4 + (4 : Int32)).toNatClampNeg).toInt64) &&& (4294967295 : Int64))), .ref (g.2.2 201)]) (rest := []) (st1 := [.int r1965.1]) hC hw (c_L_write l hst g n (xs (v4 + (1 : Int32)).toNatClampNeg) (xs (v4 + (2 : Int32)).toNatClampNeg) ((((xs (v4 + (3 : Int32)).toNatClampNeg).toInt64) <<< ((32 : Int32).toInt64 &&& 63)) ||| (((xs (v4 + (4 : Int32)).toNatClampNeg).toInt64) &&& (4294967295 : Int64))) μ r1965 hr1965) mw_L_write rfl hl.1 ⟨Nat.le_of_ble_eq_true rfl, Nat.le_of_ble_eq_true rfl⟩ (Nat.le_of_ble_eq_true rfl) ⟨by show _ ≤ 601024; omega, by show _ ≤ 7293034; omega⟩ rfl dL_law_1965 (fun H locs hw => ?_)
        refine lv_istore (lv' := [(5, .int r1965.1), (0, .ref b), (1, .ref (g.2.2 0)), (2, .ref (g.2.2 171)), (3, .ref (g.2.2 201)), (4, .int v4)]) hx hb dL_law_1968 hl (by decide) rfl (fun ls hl => ?_)
        refine lv_aload_n hx hb dL_law_1970 rfl (lv_at hl 3 rfl) ?_
        refine lv_aload_n hx hb dL_law_1971 rfl (lv_at hl 1 rfl) ?_
        refine lv_iload hx hb dL_law_1972 (lv_at hl 5 rfl) ?_
        refine lv_iconst (v := (1 : Int32)) hx hb dL_law_1974 (by decide) ?_
        refine lv_iadd hx hb dL_law_1975 ?_
        refine va_sld hx hb hX hbl hbA hw.2 hi1935 dL_law_1976 ?_
        refine lv_aload_n hx hb dL_law_1977 rfl (lv_at hl 1 rfl) ?_
        refine lv_iload hx hb dL_law_1978 (lv_at hl 5 rfl) ?_
        refine lv_iconst (v := (2 : Int32)) hx hb dL_law_1980 (by decide) ?_
        refine lv_iadd hx hb dL_law_1981 ?_
        refine va_sld hx hb hX hbl hbA hw.2 hi1941 dL_law_1982 ?_
        refine lv_aload_n hx hb dL_law_1983 rfl (lv_at hl 1 rfl) ?_
        refine lv_iload hx hb dL_law_1984 (lv_at hl 5 rfl) ?_
        refine lv_iconst (v := (3 : Int32)) hx hb dL_law_1986 (by decide) ?_
        refine lv_iadd hx hb dL_law_1987 ?_
        refine va_sld hx hb hX hbl hbA hw.2 hi1947 dL_law_1988 ?_
        refine lv_i2l hx hb dL_law_1989 rfl ?_
        refine lv_bipush (v := (32 : Int32)) hx hb dL_law_1990 (by decide) ?_
        refine lv_lshl hx hb dL_law_1992 rfl ?_
        refine lv_aload_n hx hb dL_law_1993 rfl (lv_at hl 1 rfl) ?_
        refine lv_iload hx hb dL_law_1994 (lv_at hl 5 rfl) ?_
        refine lv_iconst (v := (4 : Int32)) hx hb dL_law_1996 (by decide) ?_
        refine lv_iadd hx hb dL_law_1997 ?_
        refine va_sld hx hb hX hbl hbA hw.2 hi1957 dL_law_1998 ?_
        refine lv_i2l hx hb dL_law_1999 rfl ?_
        refine lv_ldc2 (v := (4294967295 : Int64)) hx hb hC.2.2.2.1 (hC.2.2.2.2.1 _ cl_L_241) dL_law_2000 ?_
        refine lv_land hx hb dL_law_2003 ?_
        refine lv_lor hx hb dL_law_2004 ?_
        obtain ⟨r2005, hr2005, h⟩ := bnd h
        refine cV (b := 171) (As := [.int (xs (v4 + (1 : Int32)).toNatClampNeg), .int (xs (v4 + (2 : Int32)).toNatClampNeg), .long ((((xs (v4 + (3 : Int32)).toNatClampNeg).toInt64) <<< ((32 : Int32).toInt64 &&& 63)) ||| (((xs (v4 + (4 : Int32)).toNatClampNeg).toInt64) &&& (4294967295 : Int64)))]) (rest := []) (st1 := [.long r2005.1]) hC hw (c_X12_write l g n (xs (v4 + (1 : Int32)).toNatClampNeg) (xs (v4 + (2 : Int32)).toNatClampNeg) ((((xs (v4 + (3 : Int32)).toNatClampNeg).toInt64) <<< ((32 : Int32).toInt64 &&& 63)) ||| (((xs (v4 + (4 : Int32)).toNatClampNeg).toInt64) &&& (4294967295 : Int64))) r1965.2 r2005 hr2005) ml_L_246 im_X12_write se_X12_write ok171 (CN := RX12) (T := TX12) (NF := 54) rfl rfl (by decide) rfl hl.1 ⟨Nat.le_of_ble_eq_true rfl, Nat.le_of_ble_eq_true rfl⟩ (Nat.le_of_ble_eq_true rfl) ⟨by show _ ≤ 601024; omega, by show _ ≤ 7293034; omega⟩ rfl dL_law_2005 (fun H locs hw => ?_)
        refine lv_lstore (lv' := [(6, .long r2005.1), (5, .int r1965.1), (0, .ref b), (1, .ref (g.2.2 0)), (2, .ref (g.2.2 171)), (3, .ref (g.2.2 201)), (4, .int v4)]) hx hb dL_law_2008 hl (by decide) rfl (fun ls hl => ?_)
        refine lv_aload_n hx hb dL_law_2010 rfl (lv_at hl 4 rfl) ?_
        obtain ⟨r2011, hr2011, h⟩ := bnd h
        refine cV (b := 171) (As := []) (rest := []) (st1 := [.int r2011.1]) hC hw (c_X12_thrown l g n r2005.2 r2011 hr2011) ml_L_111 im_X12_thrown se_X12_thrown ok171 (CN := RX12) (T := TX12) (NF := 54) rfl rfl (by decide) rfl hl.1 ⟨Nat.le_of_ble_eq_true rfl, Nat.le_of_ble_eq_true rfl⟩ (Nat.le_of_ble_eq_true rfl) ⟨by show _ ≤ 601024; omega, by show _ ≤ 7293034; omega⟩ rfl dL_law_2011 (fun H locs hw => ?_)
        refine lv_iload hx hb dL_law_2014 (lv_at hl 1 rfl) ?_
        refine lv_icmp_eq (tgt := 2021) hx hb dL_law_2016 (by decide) (fun hc => ?_) (fun hc => ?_)
        · rw [if_pos hc] at h
          refine lv_iload hx hb dL_law_2021 (lv_at hl 1 rfl) ?_
          refine lv_if_ne (tgt := 2037) hx hb dL_law_2023 (by decide) (fun hc => ?_) (fun hc => ?_)
          · rw [if_neg hc] at h
            exact B2037 v4 r2011.2 _ _ _ _ _ (by omega) (by omega) hw (lv_sub hl [2, 3, 4, 5, 6] rfl) h
          · rw [if_pos hc] at h
            refine lv_aload_n hx hb dL_law_2026 rfl (lv_at hl 5 rfl) ?_
            refine lv_iconst (v := (0 : Int32)) hx hb dL_law_2027 (by decide) ?_
            refine lJ (j := 0) hC hw ok201 on201 (vin (by decide)) (by decide) dL_law_2028 ?_
            refine lv_lload hx hb dL_law_2029 (lv_at hl 0 rfl) ?_
            refine W.lcmp hx hb dL_law_2031 ?_
            refine lv_if_eq (tgt := 2037) hx hb dL_law_2032 (by decide) (fun hc => ?_) (fun hc => ?_)
            · rw [if_pos hc] at h
              exact B2037 v4 r2011.2 _ _ _ _ _ (by omega) (by omega) hw (lv_sub hl [2, 3, 4, 5, 6] rfl) h
            · rw [if_neg hc] at h
              refine lv_iconst (v := (0 : Int32)) hx hb dL_law_2035 (by decide) ?_
              exact absurd (congrArg Prod.fst (Option.some.inj h)) (show ¬ (0 : Int32) = 1 by decide)
        · rw [if_neg hc] at h
          refine lv_iconst (v := (0 : Int32)) hx hb dL_law_2019 (by decide) ?_
          exact absurd (congrArg Prod.fst (Option.some.inj h)) (show ¬ (0 : Int32) = 1 by decide)
      have B2093 : ∀ (v4 : Int32) (μ : Mu) (H : Heap) (locs : List Loc) (ls : Array Slot) (cells slots : Nat), cells + k ≤ 600000 → slots + 6 * k ≤ 7000000 → wd g μ s (fun q => s.heap.size ≤ q) H locs → lv_has ls 8 [(0, .ref b), (1, .ref (g.2.2 0)), (2, .ref (g.2.2 171)), (3, .ref (g.2.2 201)), (4, .int v4)] → law_2093 n L xs k23 v4 μ = some (1, μ9) → W p l e room_1 s m #[Value.ref b] below meth c H locs cells slots (lw_Z below #[Value.ref b] s) (F0 m 2093 ls []) := by
        intro v4 μ H locs ls cells slots hc1 hc2 hw hl h
        rw [law_2093] at h
        refine lv_goto (tgt := 2193) hx hb dL_law_2093 (by decide) ?_
        exact B2193 v4 μ _ _ _ _ _ (by omega) (by omega) hw (lv_sub hl [0, 1, 2, 3, 4] rfl) h
      have B2040 : ∀ (v4 : Int32) (μ : Mu) (H : Heap) (locs : List Loc) (ls : Array Slot) (cells slots : Nat), cells + (k + 1) ≤ 600000 → slots + 6 * (k + 1) ≤ 7000000 → wd g μ s (fun q => s.heap.size ≤ q) H locs → lv_has ls 8 [(0, .ref b), (1, .ref (g.2.2 0)), (2, .ref (g.2.2 171)), (3, .ref (g.2.2 201)), (4, .int v4)] → law_2040 n L xs k23 v4 μ = some (1, μ9) → W p l e room_1 s m #[Value.ref b] below meth c H locs cells slots (lw_Z below #[Value.ref b] s) (F0 m 2040 ls []) := by
        intro v4 μ H locs ls cells slots hc1 hc2 hw hl h
        rw [law_2040] at h
        refine lv_aload_n hx hb dL_law_2040 rfl (lv_at hl 1 rfl) ?_
        refine lv_aload_n hx hb dL_law_2041 rfl (lv_at hl 0 rfl) ?_
        refine lv_iload hx hb dL_law_2042 (lv_at hl 4 rfl) ?_
        refine lv_iconst (v := (1 : Int32)) hx hb dL_law_2044 (by decide) ?_
        refine lv_iadd hx hb dL_law_2045 ?_
        obtain ⟨hi2046, h⟩ := gd_some h
        refine va_sld hx hb hX hbl hbA hw.2 hi2046 dL_law_2046 ?_
        refine lv_aload_n hx hb dL_law_2047 rfl (lv_at hl 3 rfl) ?_
        obtain ⟨r2048, hr2048, h⟩ := bnd h
        refine cSL (As := [.ref (g.2.2 0), .int (xs (v4 + (1 : Int32)).toNatClampNeg), .ref (g.2.2 201)]) (rest := []) (st1 := [.int r2048.1]) hC hw (c_L_pour l hst g n (xs (v4 + (1 : Int32)).toNatClampNeg) μ r2048 hr2048) mw_L_pour rfl hl.1 ⟨Nat.le_of_ble_eq_true rfl, Nat.le_of_ble_eq_true rfl⟩ (Nat.le_of_ble_eq_true rfl) ⟨by show _ ≤ 601024; omega, by show _ ≤ 7293034; omega⟩ rfl dL_law_2048 (fun H locs hw => ?_)
        refine lv_istore (lv' := [(5, .int r2048.1), (0, .ref b), (1, .ref (g.2.2 0)), (2, .ref (g.2.2 171)), (3, .ref (g.2.2 201)), (4, .int v4)]) hx hb dL_law_2051 hl (by decide) rfl (fun ls hl => ?_)
        refine lv_aload_n hx hb dL_law_2053 rfl (lv_at hl 3 rfl) ?_
        refine lv_aload_n hx hb dL_law_2054 rfl (lv_at hl 1 rfl) ?_
        refine lv_iload hx hb dL_law_2055 (lv_at hl 5 rfl) ?_
        refine lv_iconst (v := (1 : Int32)) hx hb dL_law_2057 (by decide) ?_
        refine lv_iadd hx hb dL_law_2058 ?_
        refine va_sld hx hb hX hbl hbA hw.2 hi2046 dL_law_2059 ?_
        obtain ⟨r2060, hr2060, h⟩ := bnd h
        refine cV (b := 171) (As := [.int (xs (v4 + (1 : Int32)).toNatClampNeg)]) (rest := []) (st1 := [.int r2060.1]) hC hw (c_X12_pour l g n (xs (v4 + (1 : Int32)).toNatClampNeg) r2048.2 r2060 hr2060) ml_L_249 im_X12_pour se_X12_pour ok171 (CN := RX12) (T := TX12) (NF := 54) rfl rfl (by decide) rfl hl.1 ⟨Nat.le_of_ble_eq_true rfl, Nat.le_of_ble_eq_true rfl⟩ (Nat.le_of_ble_eq_true rfl) ⟨by show _ ≤ 601024; omega, by show _ ≤ 7293034; omega⟩ rfl dL_law_2060 (fun H locs hw => ?_)
        refine lv_istore (lv' := [(6, .int r2060.1), (5, .int r2048.1), (0, .ref b), (1, .ref (g.2.2 0)), (2, .ref (g.2.2 171)), (3, .ref (g.2.2 201)), (4, .int v4)]) hx hb dL_law_2063 hl (by decide) rfl (fun ls hl => ?_)
        refine lv_aload_n hx hb dL_law_2065 rfl (lv_at hl 4 rfl) ?_
        obtain ⟨r2066, hr2066, h⟩ := bnd h
        refine cV (b := 171) (As := []) (rest := []) (st1 := [.int r2066.1]) hC hw (c_X12_thrown l g n r2060.2 r2066 hr2066) ml_L_111 im_X12_thrown se_X12_thrown ok171 (CN := RX12) (T := TX12) (NF := 54) rfl rfl (by decide) rfl hl.1 ⟨Nat.le_of_ble_eq_true rfl, Nat.le_of_ble_eq_true rfl⟩ (Nat.le_of_ble_eq_true rfl) ⟨by show _ ≤ 601024; omega, by show _ ≤ 7293034; omega⟩ rfl dL_law_2066 (fun H locs hw => ?_)
        refine lv_iload hx hb dL_law_2069 (lv_at hl 1 rfl) ?_
        refine lv_icmp_eq (tgt := 2076) hx hb dL_law_2071 (by decide) (fun hc => ?_) (fun hc => ?_)
        · rw [if_pos hc] at h
          refine lv_iload hx hb dL_law_2076 (lv_at hl 1 rfl) ?_
          refine lv_if_ne (tgt := 2093) hx hb dL_law_2078 (by decide) (fun hc => ?_) (fun hc => ?_)
          · rw [if_neg hc] at h
            exact B2093 v4 r2066.2 _ _ _ _ _ (by omega) (by omega) hw (lv_sub hl [2, 3, 4, 5, 6] rfl) h
          · rw [if_pos hc] at h
            refine lv_aload_n hx hb dL_law_2081 rfl (lv_at hl 5 rfl) ?_
            refine lv_iconst (v := (0 : Int32)) hx hb dL_law_2082 (by decide) ?_
            refine lJ (j := 0) hC hw ok201 on201 (vin (by decide)) (by decide) dL_law_2083 ?_
            refine lv_iload hx hb dL_law_2084 (lv_at hl 0 rfl) ?_
            refine lv_i2l hx hb dL_law_2086 rfl ?_
            refine W.lcmp hx hb dL_law_2087 ?_
            refine lv_if_eq (tgt := 2093) hx hb dL_law_2088 (by decide) (fun hc => ?_) (fun hc => ?_)
            · rw [if_pos hc] at h
              exact B2093 v4 r2066.2 _ _ _ _ _ (by omega) (by omega) hw (lv_sub hl [2, 3, 4, 5, 6] rfl) h
            · rw [if_neg hc] at h
              refine lv_iconst (v := (0 : Int32)) hx hb dL_law_2091 (by decide) ?_
              exact absurd (congrArg Prod.fst (Option.some.inj h)) (show ¬ (0 : Int32) = 1 by decide)
        · rw [if_neg hc] at h
          refine lv_iconst (v := (0 : Int32)) hx hb dL_law_2074 (by decide) ?_
          exact absurd (congrArg Prod.fst (Option.some.inj h)) (show ¬ (0 : Int32) = 1 by decide)
      have B2096 : ∀ (v4 : Int32) (μ : Mu) (H : Heap) (locs : List Loc) (ls : Array Slot) (cells slots : Nat), cells + (k + 1) ≤ 600000 → slots + 6 * (k + 1) ≤ 7000000 → wd g μ s (fun q => s.heap.size ≤ q) H locs → lv_has ls 8 [(0, .ref b), (1, .ref (g.2.2 0)), (2, .ref (g.2.2 171)), (3, .ref (g.2.2 201)), (4, .int v4)] → law_2096 n L xs k23 v4 μ = some (1, μ9) → W p l e room_1 s m #[Value.ref b] below meth c H locs cells slots (lw_Z below #[Value.ref b] s) (F0 m 2096 ls []) := by
        intro v4 μ H locs ls cells slots hc1 hc2 hw hl h
        rw [law_2096] at h
        refine lv_aload_n hx hb dL_law_2096 rfl (lv_at hl 1 rfl) ?_
        refine lv_aload_n hx hb dL_law_2097 rfl (lv_at hl 0 rfl) ?_
        refine lv_iload hx hb dL_law_2098 (lv_at hl 4 rfl) ?_
        refine lv_iconst (v := (1 : Int32)) hx hb dL_law_2100 (by decide) ?_
        refine lv_iadd hx hb dL_law_2101 ?_
        obtain ⟨hi2102, h⟩ := gd_some h
        refine va_sld hx hb hX hbl hbA hw.2 hi2102 dL_law_2102 ?_
        obtain ⟨r2103, hr2103, h⟩ := bnd h
        refine cSL (As := [.ref (g.2.2 0), .int (xs (v4 + (1 : Int32)).toNatClampNeg)]) (rest := []) (st1 := [.int r2103.1]) hC hw (c_L_image l hst g n (xs (v4 + (1 : Int32)).toNatClampNeg) μ r2103 hr2103) mw_L_image rfl hl.1 ⟨Nat.le_of_ble_eq_true rfl, Nat.le_of_ble_eq_true rfl⟩ (Nat.le_of_ble_eq_true rfl) ⟨by show _ ≤ 601024; omega, by show _ ≤ 7293034; omega⟩ rfl dL_law_2103 (fun H locs hw => ?_)
        refine lv_istore (lv' := [(5, .int r2103.1), (0, .ref b), (1, .ref (g.2.2 0)), (2, .ref (g.2.2 171)), (3, .ref (g.2.2 201)), (4, .int v4)]) hx hb dL_law_2106 hl (by decide) rfl (fun ls hl => ?_)
        refine lv_aload_n hx hb dL_law_2108 rfl (lv_at hl 3 rfl) ?_
        refine lv_aload_n hx hb dL_law_2109 rfl (lv_at hl 1 rfl) ?_
        refine lv_iload hx hb dL_law_2110 (lv_at hl 5 rfl) ?_
        refine lv_iconst (v := (1 : Int32)) hx hb dL_law_2112 (by decide) ?_
        refine lv_iadd hx hb dL_law_2113 ?_
        refine va_sld hx hb hX hbl hbA hw.2 hi2102 dL_law_2114 ?_
        obtain ⟨r2115, hr2115, h⟩ := bnd h
        refine cV (b := 171) (As := [.int (xs (v4 + (1 : Int32)).toNatClampNeg)]) (rest := []) (st1 := []) hC hw (c_X12_image l g n (xs (v4 + (1 : Int32)).toNatClampNeg) r2103.2 r2115 hr2115) ml_L_253 im_X12_image se_X12_image ok171 (CN := RX12) (T := TX12) (NF := 54) rfl rfl (by decide) rfl hl.1 ⟨Nat.le_of_ble_eq_true rfl, Nat.le_of_ble_eq_true rfl⟩ (Nat.le_of_ble_eq_true rfl) ⟨by show _ ≤ 601024; omega, by show _ ≤ 7293034; omega⟩ rfl dL_law_2115 (fun H locs hw => ?_)
        refine lv_aload_n hx hb dL_law_2118 rfl (lv_at hl 3 rfl) ?_
        obtain ⟨r2119, hr2119, h⟩ := bnd h
        refine cV (b := 171) (As := []) (rest := []) (st1 := [.int r2119.1]) hC hw (c_X12_thrown l g n r2115.2 r2119 hr2119) ml_L_111 im_X12_thrown se_X12_thrown ok171 (CN := RX12) (T := TX12) (NF := 54) rfl rfl (by decide) rfl hl.1 ⟨Nat.le_of_ble_eq_true rfl, Nat.le_of_ble_eq_true rfl⟩ (Nat.le_of_ble_eq_true rfl) ⟨by show _ ≤ 601024; omega, by show _ ≤ 7293034; omega⟩ rfl dL_law_2119 (fun H locs hw => ?_)
        refine lv_iload hx hb dL_law_2122 (lv_at hl 0 rfl) ?_
        refine lv_icmp_eq (tgt := 2129) hx hb dL_law_2124 (by decide) (fun hc => ?_) (fun hc => ?_)
        · rw [if_pos hc] at h
          refine lv_goto (tgt := 2193) hx hb dL_law_2129 (by decide) ?_
          exact B2193 v4 r2119.2 _ _ _ _ _ (by omega) (by omega) hw (lv_sub hl [1, 2, 3, 4, 5] rfl) h
        · rw [if_neg hc] at h
          refine lv_iconst (v := (0 : Int32)) hx hb dL_law_2127 (by decide) ?_
          exact absurd (congrArg Prod.fst (Option.some.inj h)) (show ¬ (0 : Int32) = 1 by decide)
      have B2132 : ∀ (v4 : Int32) (μ : Mu) (H : Heap) (locs : List Loc) (ls : Array Slot) (cells slots : Nat), cells + (k + 1) ≤ 600000 → slots + 6 * (k + 1) ≤ 7000000 → wd g μ s (fun q => s.heap.size ≤ q) H locs → lv_has ls 8 [(0, .ref b), (1, .ref (g.2.2 0)), (2, .ref (g.2.2 171)), (3, .ref (g.2.2 201)), (4, .int v4)] → law_2132 n L xs k23 v4 μ = some (1, μ9) → W p l e room_1 s m #[Value.ref b] below meth c H locs cells slots (lw_Z below #[Value.ref b] s) (F0 m 2132 ls []) := by
        intro v4 μ H locs ls cells slots hc1 hc2 hw hl h
        rw [law_2132] at h
        refine lv_aload_n hx hb dL_law_2132 rfl (lv_at hl 1 rfl) ?_
        refine lv_aload_n hx hb dL_law_2133 rfl (lv_at hl 0 rfl) ?_
        refine lv_iload hx hb dL_law_2134 (lv_at hl 4 rfl) ?_
        refine lv_iconst (v := (1 : Int32)) hx hb dL_law_2136 (by decide) ?_
        refine lv_iadd hx hb dL_law_2137 ?_
        obtain ⟨hi2138, h⟩ := gd_some h
        refine va_sld hx hb hX hbl hbA hw.2 hi2138 dL_law_2138 ?_
        obtain ⟨r2139, hr2139, h⟩ := bnd h
        refine cSL (As := [.ref (g.2.2 0), .int (xs (v4 + (1 : Int32)).toNatClampNeg)]) (rest := []) (st1 := [.int r2139.1]) hC hw (c_L_restore l hst g n (xs (v4 + (1 : Int32)).toNatClampNeg) μ r2139 hr2139) mw_L_restore rfl hl.1 ⟨Nat.le_of_ble_eq_true rfl, Nat.le_of_ble_eq_true rfl⟩ (Nat.le_of_ble_eq_true rfl) ⟨by show _ ≤ 601024; omega, by show _ ≤ 7293034; omega⟩ rfl dL_law_2139 (fun H locs hw => ?_)
        refine lv_istore (lv' := [(5, .int r2139.1), (0, .ref b), (1, .ref (g.2.2 0)), (2, .ref (g.2.2 171)), (3, .ref (g.2.2 201)), (4, .int v4)]) hx hb dL_law_2142 hl (by decide) rfl (fun ls hl => ?_)
        refine lv_aload_n hx hb dL_law_2144 rfl (lv_at hl 3 rfl) ?_
        refine lv_aload_n hx hb dL_law_2145 rfl (lv_at hl 1 rfl) ?_
        refine lv_iload hx hb dL_law_2146 (lv_at hl 5 rfl) ?_
        refine lv_iconst (v := (1 : Int32)) hx hb dL_law_2148 (by decide) ?_
        refine lv_iadd hx hb dL_law_2149 ?_
        refine va_sld hx hb hX hbl hbA hw.2 hi2138 dL_law_2150 ?_
        obtain ⟨r2151, hr2151, h⟩ := bnd h
        refine cV (b := 171) (As := [.int (xs (v4 + (1 : Int32)).toNatClampNeg)]) (rest := []) (st1 := []) hC hw (c_X12_restore l g n (xs (v4 + (1 : Int32)).toNatClampNeg) r2139.2 r2151 hr2151) ml_L_256 im_X12_restore se_X12_restore ok171 (CN := RX12) (T := TX12) (NF := 54) rfl rfl (by decide) rfl hl.1 ⟨Nat.le_of_ble_eq_true rfl, Nat.le_of_ble_eq_true rfl⟩ (Nat.le_of_ble_eq_true rfl) ⟨by show _ ≤ 601024; omega, by show _ ≤ 7293034; omega⟩ rfl dL_law_2151 (fun H locs hw => ?_)
        refine lv_aload_n hx hb dL_law_2154 rfl (lv_at hl 3 rfl) ?_
        obtain ⟨r2155, hr2155, h⟩ := bnd h
        refine cV (b := 171) (As := []) (rest := []) (st1 := [.int r2155.1]) hC hw (c_X12_thrown l g n r2151.2 r2155 hr2155) ml_L_111 im_X12_thrown se_X12_thrown ok171 (CN := RX12) (T := TX12) (NF := 54) rfl rfl (by decide) rfl hl.1 ⟨Nat.le_of_ble_eq_true rfl, Nat.le_of_ble_eq_true rfl⟩ (Nat.le_of_ble_eq_true rfl) ⟨by show _ ≤ 601024; omega, by show _ ≤ 7293034; omega⟩ rfl dL_law_2155 (fun H locs hw => ?_)
        refine lv_iload hx hb dL_law_2158 (lv_at hl 0 rfl) ?_
        refine lv_icmp_eq (tgt := 2165) hx hb dL_law_2160 (by decide) (fun hc => ?_) (fun hc => ?_)
        · rw [if_pos hc] at h
          refine lv_goto (tgt := 2193) hx hb dL_law_2165 (by decide) ?_
          exact B2193 v4 r2155.2 _ _ _ _ _ (by omega) (by omega) hw (lv_sub hl [1, 2, 3, 4, 5] rfl) h
        · rw [if_neg hc] at h
          refine lv_iconst (v := (0 : Int32)) hx hb dL_law_2163 (by decide) ?_
          exact absurd (congrArg Prod.fst (Option.some.inj h)) (show ¬ (0 : Int32) = 1 by decide)
      have B2168 : ∀ (v4 : Int32) (μ : Mu) (H : Heap) (locs : List Loc) (ls : Array Slot) (cells slots : Nat), cells + (k + 1) ≤ 600000 → slots + 6 * (k + 1) ≤ 7000000 → wd g μ s (fun q => s.heap.size ≤ q) H locs → lv_has ls 8 [(0, .ref b), (1, .ref (g.2.2 0)), (2, .ref (g.2.2 171)), (3, .ref (g.2.2 201)), (4, .int v4)] → law_2168 n L xs k23 v4 μ = some (1, μ9) → W p l e room_1 s m #[Value.ref b] below meth c H locs cells slots (lw_Z below #[Value.ref b] s) (F0 m 2168 ls []) := by
        intro v4 μ H locs ls cells slots hc1 hc2 hw hl h
        rw [law_2168] at h
        refine lv_aload_n hx hb dL_law_2168 rfl (lv_at hl 1 rfl) ?_
        refine lv_aload_n hx hb dL_law_2169 rfl (lv_at hl 0 rfl) ?_
        refine lv_iload hx hb dL_law_2170 (lv_at hl 4 rfl) ?_
        refine lv_iconst (v := (1 : Int32)) hx hb dL_law_2172 (by decide) ?_
        refine lv_iadd hx hb dL_law_2173 ?_
        obtain ⟨hi2174, h⟩ := gd_some h
        refine va_sld hx hb hX hbl hbA hw.2 hi2174 dL_law_2174 ?_
        obtain ⟨r2175, hr2175, h⟩ := bnd h
        refine cV (b := 0) (As := [.int (xs (v4 + (1 : Int32)).toNatClampNeg)]) (rest := []) (st1 := [.int r2175.1]) hC hw (c_X11_count l g n (xs (v4 + (1 : Int32)).toNatClampNeg) μ r2175 hr2175) ml_L_257 im_X11_count se_X11_count ok0 (CN := RX11) (T := TX11) (NF := 12) rfl rfl (by decide) rfl hl.1 ⟨Nat.le_of_ble_eq_true rfl, Nat.le_of_ble_eq_true rfl⟩ (Nat.le_of_ble_eq_true rfl) ⟨by show _ ≤ 601024; omega, by show _ ≤ 7293034; omega⟩ rfl dL_law_2175 (fun H locs hw => ?_)
        refine lv_aload_n hx hb dL_law_2178 rfl (lv_at hl 2 rfl) ?_
        refine lv_aload_n hx hb dL_law_2179 rfl (lv_at hl 0 rfl) ?_
        refine lv_iload hx hb dL_law_2180 (lv_at hl 4 rfl) ?_
        refine lv_iconst (v := (1 : Int32)) hx hb dL_law_2182 (by decide) ?_
        refine lv_iadd hx hb dL_law_2183 ?_
        refine va_sld hx hb hX hbl hbA hw.2 hi2174 dL_law_2184 ?_
        obtain ⟨r2185, hr2185, h⟩ := bnd h
        refine cV (b := 171) (As := [.int (xs (v4 + (1 : Int32)).toNatClampNeg)]) (rest := [.int r2175.1]) (st1 := [.int r2185.1, .int r2175.1]) hC hw (c_X12_count l g n (xs (v4 + (1 : Int32)).toNatClampNeg) r2175.2 r2185 hr2185) ml_L_260 im_X12_count se_X12_count ok171 (CN := RX12) (T := TX12) (NF := 54) rfl rfl (by decide) rfl hl.1 ⟨Nat.le_of_ble_eq_true rfl, Nat.le_of_ble_eq_true rfl⟩ (Nat.le_of_ble_eq_true rfl) ⟨by show _ ≤ 601024; omega, by show _ ≤ 7293034; omega⟩ rfl dL_law_2185 (fun H locs hw => ?_)
        refine lv_icmp_eq (tgt := 2193) hx hb dL_law_2188 (by decide) (fun hc => ?_) (fun hc => ?_)
        · rw [if_pos hc] at h
          exact B2193 v4 r2185.2 _ _ _ _ _ (by omega) (by omega) hw (lv_sub hl [0, 1, 2, 3, 4] rfl) h
        · rw [if_neg hc] at h
          refine lv_iconst (v := (0 : Int32)) hx hb dL_law_2191 (by decide) ?_
          exact absurd (congrArg Prod.fst (Option.some.inj h)) (show ¬ (0 : Int32) = 1 by decide)
      rw [law_23b] at h
      refine lv_iload hx hb dL_law_23 (lv_at hl 4 rfl) ?_
      refine lv_aload_n hx hb dL_law_25 rfl (lv_at hl 0 rfl) ?_
      refine va_slen hx hb hX hbl hbA hw.2 dL_law_26 ?_
      refine lv_bipush (v := (6 : Int32)) hx hb dL_law_27 (by decide) ?_
      refine lv_isub hx hb dL_law_29 ?_
      refine lv_icmp_gt (tgt := 2199) hx hb dL_law_30 (by decide) (fun hc => ?_) (fun hc => ?_)
      · rw [if_pos hc] at h
        refine lv_iconst (v := (1 : Int32)) hx hb dL_law_2199 (by decide) ?_
        exact va_forget (fun q hq => hw.2.2.2 q hq) (W.widen (k := 601024) (n := 7293034) (by omega) (by omega) (lw_ret hx hb hr hlocks dL_law_2200))
      · rw [if_neg hc] at h
        refine lv_aload_n hx hb dL_law_33 rfl (lv_at hl 0 rfl) ?_
        refine lv_iload hx hb dL_law_34 (lv_at hl 4 rfl) ?_
        obtain ⟨hi36, h⟩ := gd_some h
        refine va_sld hx hb hX hbl hbA hw.2 hi36 dL_law_36 ?_
        refine lv_bipush (v := (63 : Int32)) hx hb dL_law_37 (by decide) ?_
        refine lv_iand hx hb dL_law_39 ?_
        by_cases hs40_0 : ((xs v4.toNatClampNeg) &&& (63 : Int32)) = (0 : Int32)
        · rw [if_pos hs40_0] at h
          refine lv_tableIn (off := 184) (tgt := 224) hx hb dL_law_40 (by rw [hs40_0]; decide) (by rw [hs40_0]; decide) (by rw [hs40_0]; decide) (by decide) ?_
          exact B224 v4 μ _ _ _ _ _ (by omega) (by omega) hw (lv_sub hl [0, 1, 2, 3, 4] rfl) h
        rw [if_neg hs40_0] at h
        by_cases hs40_1 : ((xs v4.toNatClampNeg) &&& (63 : Int32)) = (1 : Int32)
        · rw [if_pos hs40_1] at h
          refine lv_tableIn (off := 257) (tgt := 297) hx hb dL_law_40 (by rw [hs40_1]; decide) (by rw [hs40_1]; decide) (by rw [hs40_1]; decide) (by decide) ?_
          exact B297 v4 μ _ _ _ _ _ (by omega) (by omega) hw (lv_sub hl [0, 1, 2, 3, 4] rfl) h
        rw [if_neg hs40_1] at h
        by_cases hs40_2 : ((xs v4.toNatClampNeg) &&& (63 : Int32)) = (2 : Int32)
        · rw [if_pos hs40_2] at h
          refine lv_tableIn (off := 313) (tgt := 353) hx hb dL_law_40 (by rw [hs40_2]; decide) (by rw [hs40_2]; decide) (by rw [hs40_2]; decide) (by decide) ?_
          exact B353 v4 μ _ _ _ _ _ (by omega) (by omega) hw (lv_sub hl [0, 1, 2, 3, 4] rfl) h
        rw [if_neg hs40_2] at h
        by_cases hs40_3 : ((xs v4.toNatClampNeg) &&& (63 : Int32)) = (3 : Int32)
        · rw [if_pos hs40_3] at h
          refine lv_tableIn (off := 338) (tgt := 378) hx hb dL_law_40 (by rw [hs40_3]; decide) (by rw [hs40_3]; decide) (by rw [hs40_3]; decide) (by decide) ?_
          exact B378 v4 μ _ _ _ _ _ (by omega) (by omega) hw (lv_sub hl [0, 1, 2, 3, 4] rfl) h
        rw [if_neg hs40_3] at h
        by_cases hs40_4 : ((xs v4.toNatClampNeg) &&& (63 : Int32)) = (4 : Int32)
        · rw [if_pos hs40_4] at h
          refine lv_tableIn (off := 394) (tgt := 434) hx hb dL_law_40 (by rw [hs40_4]; decide) (by rw [hs40_4]; decide) (by rw [hs40_4]; decide) (by decide) ?_
          exact B434 v4 μ _ _ _ _ _ (by omega) (by omega) hw (lv_sub hl [0, 1, 2, 3, 4] rfl) h
        rw [if_neg hs40_4] at h
        by_cases hs40_5 : ((xs v4.toNatClampNeg) &&& (63 : Int32)) = (5 : Int32)
        · rw [if_pos hs40_5] at h
          refine lv_tableIn (off := 450) (tgt := 490) hx hb dL_law_40 (by rw [hs40_5]; decide) (by rw [hs40_5]; decide) (by rw [hs40_5]; decide) (by decide) ?_
          exact B490 v4 μ _ _ _ _ _ (by omega) (by omega) hw (lv_sub hl [0, 1, 2, 3, 4] rfl) h
        rw [if_neg hs40_5] at h
        by_cases hs40_6 : ((xs v4.toNatClampNeg) &&& (63 : Int32)) = (6 : Int32)
        · rw [if_pos hs40_6] at h
          refine lv_tableIn (off := 463) (tgt := 503) hx hb dL_law_40 (by rw [hs40_6]; decide) (by rw [hs40_6]; decide) (by rw [hs40_6]; decide) (by decide) ?_
          exact B503 v4 μ _ _ _ _ _ (by omega) (by omega) hw (lv_sub hl [0, 1, 2, 3, 4] rfl) h
        rw [if_neg hs40_6] at h
        by_cases hs40_7 : ((xs v4.toNatClampNeg) &&& (63 : Int32)) = (7 : Int32)
        · rw [if_pos hs40_7] at h
          refine lv_tableIn (off := 488) (tgt := 528) hx hb dL_law_40 (by rw [hs40_7]; decide) (by rw [hs40_7]; decide) (by rw [hs40_7]; decide) (by decide) ?_
          exact B528 v4 μ _ _ _ _ _ (by omega) (by omega) hw (lv_sub hl [0, 1, 2, 3, 4] rfl) h
        rw [if_neg hs40_7] at h
        by_cases hs40_8 : ((xs v4.toNatClampNeg) &&& (63 : Int32)) = (8 : Int32)
        · rw [if_pos hs40_8] at h
          refine lv_tableIn (off := 513) (tgt := 553) hx hb dL_law_40 (by rw [hs40_8]; decide) (by rw [hs40_8]; decide) (by rw [hs40_8]; decide) (by decide) ?_
          exact B553 v4 μ _ _ _ _ _ (by omega) (by omega) hw (lv_sub hl [0, 1, 2, 3, 4] rfl) h
        rw [if_neg hs40_8] at h
        by_cases hs40_9 : ((xs v4.toNatClampNeg) &&& (63 : Int32)) = (9 : Int32)
        · rw [if_pos hs40_9] at h
          refine lv_tableIn (off := 581) (tgt := 621) hx hb dL_law_40 (by rw [hs40_9]; decide) (by rw [hs40_9]; decide) (by rw [hs40_9]; decide) (by decide) ?_
          exact B621 v4 μ _ _ _ _ _ (by omega) (by omega) hw (lv_sub hl [0, 1, 2, 3, 4] rfl) h
        rw [if_neg hs40_9] at h
        by_cases hs40_10 : ((xs v4.toNatClampNeg) &&& (63 : Int32)) = (10 : Int32)
        · rw [if_pos hs40_10] at h
          refine lv_tableIn (off := 594) (tgt := 634) hx hb dL_law_40 (by rw [hs40_10]; decide) (by rw [hs40_10]; decide) (by rw [hs40_10]; decide) (by decide) ?_
          exact B634 v4 μ _ _ _ _ _ (by omega) (by omega) hw (lv_sub hl [0, 1, 2, 3, 4] rfl) h
        rw [if_neg hs40_10] at h
        by_cases hs40_11 : ((xs v4.toNatClampNeg) &&& (63 : Int32)) = (11 : Int32)
        · rw [if_pos hs40_11] at h
          refine lv_tableIn (off := 607) (tgt := 647) hx hb dL_law_40 (by rw [hs40_11]; decide) (by rw [hs40_11]; decide) (by rw [hs40_11]; decide) (by decide) ?_
          exact B647 v4 μ _ _ _ _ _ (by omega) (by omega) hw (lv_sub hl [0, 1, 2, 3, 4] rfl) h
        rw [if_neg hs40_11] at h
        by_cases hs40_12 : ((xs v4.toNatClampNeg) &&& (63 : Int32)) = (12 : Int32)
        · rw [if_pos hs40_12] at h
          refine lv_tableIn (off := 620) (tgt := 660) hx hb dL_law_40 (by rw [hs40_12]; decide) (by rw [hs40_12]; decide) (by rw [hs40_12]; decide) (by decide) ?_
          exact B660 v4 μ _ _ _ _ _ (by omega) (by omega) hw (lv_sub hl [0, 1, 2, 3, 4] rfl) h
        rw [if_neg hs40_12] at h
        by_cases hs40_13 : ((xs v4.toNatClampNeg) &&& (63 : Int32)) = (13 : Int32)
        · rw [if_pos hs40_13] at h
          refine lv_tableIn (off := 633) (tgt := 673) hx hb dL_law_40 (by rw [hs40_13]; decide) (by rw [hs40_13]; decide) (by rw [hs40_13]; decide) (by decide) ?_
          exact B673 v4 μ _ _ _ _ _ (by omega) (by omega) hw (lv_sub hl [0, 1, 2, 3, 4] rfl) h
        rw [if_neg hs40_13] at h
        by_cases hs40_14 : ((xs v4.toNatClampNeg) &&& (63 : Int32)) = (14 : Int32)
        · rw [if_pos hs40_14] at h
          refine lv_tableIn (off := 701) (tgt := 741) hx hb dL_law_40 (by rw [hs40_14]; decide) (by rw [hs40_14]; decide) (by rw [hs40_14]; decide) (by decide) ?_
          exact B741 v4 μ _ _ _ _ _ (by omega) (by omega) hw (lv_sub hl [0, 1, 2, 3, 4] rfl) h
        rw [if_neg hs40_14] at h
        by_cases hs40_15 : ((xs v4.toNatClampNeg) &&& (63 : Int32)) = (15 : Int32)
        · rw [if_pos hs40_15] at h
          refine lv_tableIn (off := 757) (tgt := 797) hx hb dL_law_40 (by rw [hs40_15]; decide) (by rw [hs40_15]; decide) (by rw [hs40_15]; decide) (by decide) ?_
          exact B797 v4 μ _ _ _ _ _ (by omega) (by omega) hw (lv_sub hl [0, 1, 2, 3, 4] rfl) h
        rw [if_neg hs40_15] at h
        by_cases hs40_16 : ((xs v4.toNatClampNeg) &&& (63 : Int32)) = (16 : Int32)
        · rw [if_pos hs40_16] at h
          refine lv_tableIn (off := 825) (tgt := 865) hx hb dL_law_40 (by rw [hs40_16]; decide) (by rw [hs40_16]; decide) (by rw [hs40_16]; decide) (by decide) ?_
          exact B865 v4 μ _ _ _ _ _ (by omega) (by omega) hw (lv_sub hl [0, 1, 2, 3, 4] rfl) h
        rw [if_neg hs40_16] at h
        by_cases hs40_17 : ((xs v4.toNatClampNeg) &&& (63 : Int32)) = (17 : Int32)
        · rw [if_pos hs40_17] at h
          refine lv_tableIn (off := 838) (tgt := 878) hx hb dL_law_40 (by rw [hs40_17]; decide) (by rw [hs40_17]; decide) (by rw [hs40_17]; decide) (by decide) ?_
          exact B878 v4 μ _ _ _ _ _ (by omega) (by omega) hw (lv_sub hl [0, 1, 2, 3, 4] rfl) h
        rw [if_neg hs40_17] at h
        by_cases hs40_18 : ((xs v4.toNatClampNeg) &&& (63 : Int32)) = (18 : Int32)
        · rw [if_pos hs40_18] at h
          refine lv_tableIn (off := 930) (tgt := 970) hx hb dL_law_40 (by rw [hs40_18]; decide) (by rw [hs40_18]; decide) (by rw [hs40_18]; decide) (by decide) ?_
          exact B970 v4 μ _ _ _ _ _ (by omega) (by omega) hw (lv_sub hl [0, 1, 2, 3, 4] rfl) h
        rw [if_neg hs40_18] at h
        by_cases hs40_19 : ((xs v4.toNatClampNeg) &&& (63 : Int32)) = (19 : Int32)
        · rw [if_pos hs40_19] at h
          refine lv_tableIn (off := 943) (tgt := 983) hx hb dL_law_40 (by rw [hs40_19]; decide) (by rw [hs40_19]; decide) (by rw [hs40_19]; decide) (by decide) ?_
          exact B983 v4 μ _ _ _ _ _ (by omega) (by omega) hw (lv_sub hl [0, 1, 2, 3, 4] rfl) h
        rw [if_neg hs40_19] at h
        by_cases hs40_20 : ((xs v4.toNatClampNeg) &&& (63 : Int32)) = (20 : Int32)
        · rw [if_pos hs40_20] at h
          refine lv_tableIn (off := 956) (tgt := 996) hx hb dL_law_40 (by rw [hs40_20]; decide) (by rw [hs40_20]; decide) (by rw [hs40_20]; decide) (by decide) ?_
          exact B996 v4 μ _ _ _ _ _ (by omega) (by omega) hw (lv_sub hl [0, 1, 2, 3, 4] rfl) h
        rw [if_neg hs40_20] at h
        by_cases hs40_21 : ((xs v4.toNatClampNeg) &&& (63 : Int32)) = (21 : Int32)
        · rw [if_pos hs40_21] at h
          refine lv_tableIn (off := 969) (tgt := 1009) hx hb dL_law_40 (by rw [hs40_21]; decide) (by rw [hs40_21]; decide) (by rw [hs40_21]; decide) (by decide) ?_
          exact B1009 v4 μ _ _ _ _ _ (by omega) (by omega) hw (lv_sub hl [0, 1, 2, 3, 4] rfl) h
        rw [if_neg hs40_21] at h
        by_cases hs40_22 : ((xs v4.toNatClampNeg) &&& (63 : Int32)) = (22 : Int32)
        · rw [if_pos hs40_22] at h
          refine lv_tableIn (off := 994) (tgt := 1034) hx hb dL_law_40 (by rw [hs40_22]; decide) (by rw [hs40_22]; decide) (by rw [hs40_22]; decide) (by decide) ?_
          exact B1034 v4 μ _ _ _ _ _ (by omega) (by omega) hw (lv_sub hl [0, 1, 2, 3, 4] rfl) h
        rw [if_neg hs40_22] at h
        by_cases hs40_23 : ((xs v4.toNatClampNeg) &&& (63 : Int32)) = (23 : Int32)
        · rw [if_pos hs40_23] at h
          refine lv_tableIn (off := 1074) (tgt := 1114) hx hb dL_law_40 (by rw [hs40_23]; decide) (by rw [hs40_23]; decide) (by rw [hs40_23]; decide) (by decide) ?_
          exact B1114 v4 μ _ _ _ _ _ (by omega) (by omega) hw (lv_sub hl [0, 1, 2, 3, 4] rfl) h
        rw [if_neg hs40_23] at h
        by_cases hs40_24 : ((xs v4.toNatClampNeg) &&& (63 : Int32)) = (24 : Int32)
        · rw [if_pos hs40_24] at h
          refine lv_tableIn (off := 1154) (tgt := 1194) hx hb dL_law_40 (by rw [hs40_24]; decide) (by rw [hs40_24]; decide) (by rw [hs40_24]; decide) (by decide) ?_
          exact B1194 v4 μ _ _ _ _ _ (by omega) (by omega) hw (lv_sub hl [0, 1, 2, 3, 4] rfl) h
        rw [if_neg hs40_24] at h
        by_cases hs40_25 : ((xs v4.toNatClampNeg) &&& (63 : Int32)) = (25 : Int32)
        · rw [if_pos hs40_25] at h
          refine lv_tableIn (off := 1246) (tgt := 1286) hx hb dL_law_40 (by rw [hs40_25]; decide) (by rw [hs40_25]; decide) (by rw [hs40_25]; decide) (by decide) ?_
          exact B1286 v4 μ _ _ _ _ _ (by omega) (by omega) hw (lv_sub hl [0, 1, 2, 3, 4] rfl) h
        rw [if_neg hs40_25] at h
        by_cases hs40_26 : ((xs v4.toNatClampNeg) &&& (63 : Int32)) = (26 : Int32)
        · rw [if_pos hs40_26] at h
          refine lv_tableIn (off := 1338) (tgt := 1378) hx hb dL_law_40 (by rw [hs40_26]; decide) (by rw [hs40_26]; decide) (by rw [hs40_26]; decide) (by decide) ?_
          exact B1378 v4 μ _ _ _ _ _ (by omega) (by omega) hw (lv_sub hl [0, 1, 2, 3, 4] rfl) h
        rw [if_neg hs40_26] at h
        by_cases hs40_27 : ((xs v4.toNatClampNeg) &&& (63 : Int32)) = (27 : Int32)
        · rw [if_pos hs40_27] at h
          refine lv_tableIn (off := 1418) (tgt := 1458) hx hb dL_law_40 (by rw [hs40_27]; decide) (by rw [hs40_27]; decide) (by rw [hs40_27]; decide) (by decide) ?_
          exact B1458 v4 μ _ _ _ _ _ (by omega) (by omega) hw (lv_sub hl [0, 1, 2, 3, 4] rfl) h
        rw [if_neg hs40_27] at h
        by_cases hs40_28 : ((xs v4.toNatClampNeg) &&& (63 : Int32)) = (28 : Int32)
        · rw [if_pos hs40_28] at h
          refine lv_tableIn (off := 1431) (tgt := 1471) hx hb dL_law_40 (by rw [hs40_28]; decide) (by rw [hs40_28]; decide) (by rw [hs40_28]; decide) (by decide) ?_
          exact B1471 v4 μ _ _ _ _ _ (by omega) (by omega) hw (lv_sub hl [0, 1, 2, 3, 4] rfl) h
        rw [if_neg hs40_28] at h
        by_cases hs40_29 : ((xs v4.toNatClampNeg) &&& (63 : Int32)) = (29 : Int32)
        · rw [if_pos hs40_29] at h
          refine lv_tableIn (off := 1487) (tgt := 1527) hx hb dL_law_40 (by rw [hs40_29]; decide) (by rw [hs40_29]; decide) (by rw [hs40_29]; decide) (by decide) ?_
          exact B1527 v4 μ _ _ _ _ _ (by omega) (by omega) hw (lv_sub hl [0, 1, 2, 3, 4] rfl) h
        rw [if_neg hs40_29] at h
        by_cases hs40_30 : ((xs v4.toNatClampNeg) &&& (63 : Int32)) = (30 : Int32)
        · rw [if_pos hs40_30] at h
          refine lv_tableIn (off := 1543) (tgt := 1583) hx hb dL_law_40 (by rw [hs40_30]; decide) (by rw [hs40_30]; decide) (by rw [hs40_30]; decide) (by decide) ?_
          exact B1583 v4 μ _ _ _ _ _ (by omega) (by omega) hw (lv_sub hl [0, 1, 2, 3, 4] rfl) h
        rw [if_neg hs40_30] at h
        by_cases hs40_31 : ((xs v4.toNatClampNeg) &&& (63 : Int32)) = (31 : Int32)
        · rw [if_pos hs40_31] at h
          refine lv_tableIn (off := 1599) (tgt := 1639) hx hb dL_law_40 (by rw [hs40_31]; decide) (by rw [hs40_31]; decide) (by rw [hs40_31]; decide) (by decide) ?_
          exact B1639 v4 μ _ _ _ _ _ (by omega) (by omega) hw (lv_sub hl [0, 1, 2, 3, 4] rfl) h
        rw [if_neg hs40_31] at h
        by_cases hs40_32 : ((xs v4.toNatClampNeg) &&& (63 : Int32)) = (32 : Int32)
        · rw [if_pos hs40_32] at h
          refine lv_tableIn (off := 1624) (tgt := 1664) hx hb dL_law_40 (by rw [hs40_32]; decide) (by rw [hs40_32]; decide) (by rw [hs40_32]; decide) (by decide) ?_
          exact B1664 v4 μ _ _ _ _ _ (by omega) (by omega) hw (lv_sub hl [0, 1, 2, 3, 4] rfl) h
        rw [if_neg hs40_32] at h
        by_cases hs40_33 : ((xs v4.toNatClampNeg) &&& (63 : Int32)) = (33 : Int32)
        · rw [if_pos hs40_33] at h
          refine lv_tableIn (off := 1680) (tgt := 1720) hx hb dL_law_40 (by rw [hs40_33]; decide) (by rw [hs40_33]; decide) (by rw [hs40_33]; decide) (by decide) ?_
          exact B1720 v4 μ _ _ _ _ _ (by omega) (by omega) hw (lv_sub hl [0, 1, 2, 3, 4] rfl) h
        rw [if_neg hs40_33] at h
        by_cases hs40_34 : ((xs v4.toNatClampNeg) &&& (63 : Int32)) = (34 : Int32)
        · rw [if_pos hs40_34] at h
          refine lv_tableIn (off := 1693) (tgt := 1733) hx hb dL_law_40 (by rw [hs40_34]; decide) (by rw [hs40_34]; decide) (by rw [hs40_34]; decide) (by decide) ?_
          exact B1733 v4 μ _ _ _ _ _ (by omega) (by omega) hw (lv_sub hl [0, 1, 2, 3, 4] rfl) h
        rw [if_neg hs40_34] at h
        by_cases hs40_35 : ((xs v4.toNatClampNeg) &&& (63 : Int32)) = (35 : Int32)
        · rw [if_pos hs40_35] at h
          refine lv_tableIn (off := 1761) (tgt := 1801) hx hb dL_law_40 (by rw [hs40_35]; decide) (by rw [hs40_35]; decide) (by rw [hs40_35]; decide) (by decide) ?_
          exact B1801 v4 μ _ _ _ _ _ (by omega) (by omega) hw (lv_sub hl [0, 1, 2, 3, 4] rfl) h
        rw [if_neg hs40_35] at h
        by_cases hs40_36 : ((xs v4.toNatClampNeg) &&& (63 : Int32)) = (36 : Int32)
        · rw [if_pos hs40_36] at h
          refine lv_tableIn (off := 1829) (tgt := 1869) hx hb dL_law_40 (by rw [hs40_36]; decide) (by rw [hs40_36]; decide) (by rw [hs40_36]; decide) (by decide) ?_
          exact B1869 v4 μ _ _ _ _ _ (by omega) (by omega) hw (lv_sub hl [0, 1, 2, 3, 4] rfl) h
        rw [if_neg hs40_36] at h
        by_cases hs40_37 : ((xs v4.toNatClampNeg) &&& (63 : Int32)) = (37 : Int32)
        · rw [if_pos hs40_37] at h
          refine lv_tableIn (off := 1889) (tgt := 1929) hx hb dL_law_40 (by rw [hs40_37]; decide) (by rw [hs40_37]; decide) (by rw [hs40_37]; decide) (by decide) ?_
          exact B1929 v4 μ _ _ _ _ _ (by omega) (by omega) hw (lv_sub hl [0, 1, 2, 3, 4] rfl) h
        rw [if_neg hs40_37] at h
        by_cases hs40_38 : ((xs v4.toNatClampNeg) &&& (63 : Int32)) = (38 : Int32)
        · rw [if_pos hs40_38] at h
          refine lv_tableIn (off := 2000) (tgt := 2040) hx hb dL_law_40 (by rw [hs40_38]; decide) (by rw [hs40_38]; decide) (by rw [hs40_38]; decide) (by decide) ?_
          exact B2040 v4 μ _ _ _ _ _ (by omega) (by omega) hw (lv_sub hl [0, 1, 2, 3, 4] rfl) h
        rw [if_neg hs40_38] at h
        by_cases hs40_39 : ((xs v4.toNatClampNeg) &&& (63 : Int32)) = (39 : Int32)
        · rw [if_pos hs40_39] at h
          refine lv_tableIn (off := 2056) (tgt := 2096) hx hb dL_law_40 (by rw [hs40_39]; decide) (by rw [hs40_39]; decide) (by rw [hs40_39]; decide) (by decide) ?_
          exact B2096 v4 μ _ _ _ _ _ (by omega) (by omega) hw (lv_sub hl [0, 1, 2, 3, 4] rfl) h
        rw [if_neg hs40_39] at h
        by_cases hs40_40 : ((xs v4.toNatClampNeg) &&& (63 : Int32)) = (40 : Int32)
        · rw [if_pos hs40_40] at h
          refine lv_tableIn (off := 2092) (tgt := 2132) hx hb dL_law_40 (by rw [hs40_40]; decide) (by rw [hs40_40]; decide) (by rw [hs40_40]; decide) (by decide) ?_
          exact B2132 v4 μ _ _ _ _ _ (by omega) (by omega) hw (lv_sub hl [0, 1, 2, 3, 4] rfl) h
        rw [if_neg hs40_40] at h
        by_cases hs40_41 : ((xs v4.toNatClampNeg) &&& (63 : Int32)) = (41 : Int32)
        · rw [if_pos hs40_41] at h
          refine lv_tableIn (off := 2128) (tgt := 2168) hx hb dL_law_40 (by rw [hs40_41]; decide) (by rw [hs40_41]; decide) (by rw [hs40_41]; decide) (by decide) ?_
          exact B2168 v4 μ _ _ _ _ _ (by omega) (by omega) hw (lv_sub hl [0, 1, 2, 3, 4] rfl) h
        rw [if_neg hs40_41] at h
        have ht0 := lv_neT (a := 0) hs40_0 (by decide)
        have ht1 := lv_neT (a := 1) hs40_1 (by decide)
        have ht2 := lv_neT (a := 2) hs40_2 (by decide)
        have ht3 := lv_neT (a := 3) hs40_3 (by decide)
        have ht4 := lv_neT (a := 4) hs40_4 (by decide)
        have ht5 := lv_neT (a := 5) hs40_5 (by decide)
        have ht6 := lv_neT (a := 6) hs40_6 (by decide)
        have ht7 := lv_neT (a := 7) hs40_7 (by decide)
        have ht8 := lv_neT (a := 8) hs40_8 (by decide)
        have ht9 := lv_neT (a := 9) hs40_9 (by decide)
        have ht10 := lv_neT (a := 10) hs40_10 (by decide)
        have ht11 := lv_neT (a := 11) hs40_11 (by decide)
        have ht12 := lv_neT (a := 12) hs40_12 (by decide)
        have ht13 := lv_neT (a := 13) hs40_13 (by decide)
        have ht14 := lv_neT (a := 14) hs40_14 (by decide)
        have ht15 := lv_neT (a := 15) hs40_15 (by decide)
        have ht16 := lv_neT (a := 16) hs40_16 (by decide)
        have ht17 := lv_neT (a := 17) hs40_17 (by decide)
        have ht18 := lv_neT (a := 18) hs40_18 (by decide)
        have ht19 := lv_neT (a := 19) hs40_19 (by decide)
        have ht20 := lv_neT (a := 20) hs40_20 (by decide)
        have ht21 := lv_neT (a := 21) hs40_21 (by decide)
        have ht22 := lv_neT (a := 22) hs40_22 (by decide)
        have ht23 := lv_neT (a := 23) hs40_23 (by decide)
        have ht24 := lv_neT (a := 24) hs40_24 (by decide)
        have ht25 := lv_neT (a := 25) hs40_25 (by decide)
        have ht26 := lv_neT (a := 26) hs40_26 (by decide)
        have ht27 := lv_neT (a := 27) hs40_27 (by decide)
        have ht28 := lv_neT (a := 28) hs40_28 (by decide)
        have ht29 := lv_neT (a := 29) hs40_29 (by decide)
        have ht30 := lv_neT (a := 30) hs40_30 (by decide)
        have ht31 := lv_neT (a := 31) hs40_31 (by decide)
        have ht32 := lv_neT (a := 32) hs40_32 (by decide)
        have ht33 := lv_neT (a := 33) hs40_33 (by decide)
        have ht34 := lv_neT (a := 34) hs40_34 (by decide)
        have ht35 := lv_neT (a := 35) hs40_35 (by decide)
        have ht36 := lv_neT (a := 36) hs40_36 (by decide)
        have ht37 := lv_neT (a := 37) hs40_37 (by decide)
        have ht38 := lv_neT (a := 38) hs40_38 (by decide)
        have ht39 := lv_neT (a := 39) hs40_39 (by decide)
        have ht40 := lv_neT (a := 40) hs40_40 (by decide)
        have ht41 := lv_neT (a := 41) hs40_41 (by decide)
        refine lv_tableOut (tgt := 2193) hx hb dL_law_40 (by omega) (by decide) ?_
        exact B2193 v4 μ _ _ _ _ _ (by omega) (by omega) hw (lv_sub hl [0, 1, 2, 3, 4] rfl) h
  exact B23 513 v4 μ H locs ls cells slots hc1 hc2 hw hl h
