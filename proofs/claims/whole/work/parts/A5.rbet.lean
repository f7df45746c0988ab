/-! the reference betters one value -/
theorem xS_lt {T : Nat → Nat} {sd s k : Nat} (hs : sd < 2) (h6 : bhS T (s + 1) ≤ 6000) (hk : k < Wn (opnN T) s) : xS T sd s k < 12000 ∧ xS T sd s k / 6000 = sd := by
  rw [bh_s] at h6
  unfold xS
  omega
theorem worthOf_s (n : Nat) (μ : Mu) {T : Nat → Nat} {sd s k w sd' s' k' g by' : Nat} {v : Int} (hby : oK by' = 20) (hbn : oN by' = 12000) (hs : sd < 2) (hs' : sd' < 2) (h6 : bhS T (s + 1) ≤ 6000) (h6' : bhS T (s' + 1) ≤ 6000) (hk : k < Wn (opnN T) s) (hk' : k' < Wn (opnN T) s') (hw : w < 6) (h187 : μ.1 187 (6 * xS T sd s k + w) = nI (xS T sd' s' k')) (h188 : μ.1 188 (6 * xS T sd s k + w) = nI g) (hv : μ.1 by' (xS T sd' s' k') = iv v) :
    X12_worthOf n (nI (xS T sd s k)) (nI w) by' μ = some (iv ((g : Int) + (if sd' = sd then v else -v)), μ) := by
  obtain ⟨x1, x2⟩ := xS_lt hs h6 hk
  obtain ⟨y1, y2⟩ := xS_lt hs' h6' hk'
  unfold X12_worthOf X12_worthOf_50
  rw [kd_of hby, i_6, pk_mul, nI_add, gd_n (by omega) (by decide), nI_clamp (by omega), h187, h188, i_6000, pk_div (by omega) (by decide) (by decide), pk_div (by omega) (by decide) (by decide), x2, y2, nI_clamp (by omega), hv, hbn, ifEq (by omega) (by omega), gd_n y1 (by decide), iv_n g, iv_neg, iv_add, iv_add]
  by_cases c : sd' = sd
  · rw [if_pos c, if_pos c]
  · rw [if_neg c, if_neg c, gd_n y1 (by decide)]
theorem betters_s (n : Nat) (μ : Mu) {T : Nat → Nat} {sd s k r : Nat} {lo : Nat → Nat → Nat → Int} {v : Nat → Nat → Int} {cur : Int} (hW : WF T) (h40 : s ≤ 40) (hs : sd < 2) (hk : k < Wn (opnN T) s) (h6 : bhS T (s + 1) ≤ 6000) (hT : TX μ T) (hP : PD μ T sd s k) (hlo : loB T s lo) (hv : ∀ sd k, sd < 2 → k < Wn (opnN T) s → -(s : Int) ≤ v sd k ∧ v sd k ≤ s) (hL : ∀ sd' s' k', sd' < 2 → s' < s → k' < Wn (opnN T) s' → μ.1 184 (xS T sd' s' k') = iv (lo sd' s' k')) (hO : ∀ sd' k', sd' < 2 → k' < Wn (opnN T) s → μ.1 186 (xS T sd' s k') = iv (v sd' k')) (hc : μ.1 184 (xS T sd s k) = iv cur) (hcb : -(s : Int) ≤ cur ∧ cur ≤ s) (hen : enD T sd s k = true → cur = edV T sd s k) (hn : 1000 < n) :
    Ok (X12_betters n (nI (xS T sd s k)) (nI s) (nI r) μ) (fun a μ' => (stV T s lo v sd k = cur → a = nI 0 ∧ μ' = μ) ∧ (stV T s lo v sd k ≠ cur → a = nI 1 ∧ μ' = si (si μ 184 (xS T sd s k) (iv (stV T s lo v sd k))) 185 (xS T sd s k) (nI r))) := by
  obtain ⟨b1, b6, b3, bb⟩ := id hW.1
  obtain ⟨x1, x2⟩ := xS_lt hs h6 hk
  obtain ⟨Tx, tx1, tx2, -⟩ := hT
  have t1 : μ.1 172 1 = nI (T 1) := by rw [tx1 1 (by decide), tx2 1 (by decide) (by decide)]
  obtain ⟨he, hM⟩ := hP
  unfold X12_betters
  rw [gd_n x1 (by decide), nI_clamp (by omega), he]
  cases hE : enD T sd s k with
  | true =>
    rw [if_neg (show ¬ b2i true = 0 by decide)]
    have e : stV T s lo v sd k = cur := by unfold stV; rw [hE, if_pos rfl, hen hE]
    exact Ok_r ⟨fun _ => ⟨rfl, rfl⟩, fun z => absurd e z⟩
  | false =>
    rw [if_pos (show b2i false = 0 from rfl)]
    have est : stV T s lo v sd k = mxV (fmV T s lo v sd k) (T 1) := by unfold stV; rw [hE, if_neg (by decide)]
    have hsb := st_b hW h40 hlo hv sd k hs hk
    have key : ∀ w, w < T 1 → ∀ g st k', mvD T sd s k w = some (g, st, k') → -(100 : Int) ≤ woV s lo v sd (g, st, k') ∧ woV s lo v sd (g, st, k') ≤ 100 := by
      intro w hw g st k' hm
      obtain ⟨p1, p2, p3, -⟩ := mvD_p hW hs h40 hk hw hm
      unfold woV
      dsimp only
      by_cases c : 0 < g
      · rw [if_pos c]
        have a1 := hlo sd (s - g) k' hs (by omega) p2
        have a2 := hlo (1 - sd) (s - g) k' (by omega) (by omega) p2
        cases st with
        | true => rw [if_pos rfl]; omega
        | false => rw [if_neg (by decide)]; omega
      · rw [if_neg c]
        rw [show s - g = s by omega] at p2
        have := hv (1 - sd) k' (by omega) p2
        omega
    have mxb : ∀ w, w ≤ T 1 → -(1000 : Int) ≤ mxV (fmV T s lo v sd k) w ∧ mxV (fmV T s lo v sd k) w ≤ 1000 := by
      intro w
      induction w with
      | zero => intro _; rw [mxV]; omega
      | succ w ih =>
        intro hw
        have i := ih (by omega)
        rw [mxV]
        cases hf : fmV T s lo v sd k w with
        | none => exact i
        | some y =>
          obtain ⟨g, st, k', hm, rfl⟩ := fm_e hf
          have := key w (by omega) g st k' hm
          dsimp only
          split <;> omega
    unfold X12_betters_19
    rw [iv_m1000, i_0]
    refine Ok_lp2 (fun f x4 x5 μ' => ∃ w, w ≤ T 1 ∧ f = T 1 - w ∧ x4 = iv (mxV (fmV T s lo v sd k) w) ∧ x5 = nI w ∧ μ' = μ) ?_ (T 1) (by omega) ⟨0, by omega, rfl, rfl, rfl, rfl⟩
    rintro K f x4 x5 μ' ⟨w, hw, rfl, rfl, rfl, rfl⟩ hK
    unfold X12_betters_19b X12_betters_93 X12_betters_85 X12_betters_93
    rw [t1, ifLe (by omega) (by omega)]
    by_cases q : T 1 ≤ w
    · obtain rfl : w = T 1 := by omega
      have mb := mxb (T 1) (Nat.le_refl _)
      rw [if_pos q, gd_n x1 (by decide), nI_clamp (by omega), hc, ← est, ifIff (iv_eq (by omega) (by omega) (by omega) (by omega))]
      by_cases z : stV T s lo v sd k = cur
      · rw [if_pos z]
        exact Ok_r ⟨fun _ => ⟨rfl, rfl⟩, fun z2 => absurd z z2⟩
      · rw [if_neg z]
        exact Ok_r ⟨fun z2 => absurd z2 z, fun _ => ⟨rfl, rfl⟩⟩
    · rw [if_neg q, i_6, pk_mul, nI_add, gd_n (by omega) (by decide), nI_clamp (by omega), i_1, nI_add]
      obtain ⟨m1, m2⟩ := hM w (by omega)
      have mb := mxb w (by omega)
      have go : ∀ y, fmV T s lo v sd k w = some y → -(100 : Int) ≤ y → y ≤ 100 → Ok (K (if iv (mxV (fmV T s lo v sd k) w) < iv y then iv y else iv (mxV (fmV T s lo v sd k) w)) (nI (w + 1)) μ') (fun a μ'' => (stV T s lo v sd k = cur → a = nI 0 ∧ μ'' = μ') ∧ (stV T s lo v sd k ≠ cur → a = nI 1 ∧ μ'' = si (si μ' 184 (xS T sd s k) (iv (stV T s lo v sd k))) 185 (xS T sd s k) (nI r))) := by
        intro y hy y1 y2
        refine hK (T 1 - (w + 1)) _ _ _ (by omega) ⟨w + 1, by omega, rfl, ?_, rfl, rfl⟩
        rw [ifIff (iv_lt (by omega) (by omega) (by omega) (by omega)), mxV, hy]
        dsimp only
        by_cases z : mxV (fmV T s lo v sd k) w < y
        · rw [if_pos z, if_pos z]
        · rw [if_neg z, if_neg z]
      cases hm : mvD T sd s k w with
      | none =>
        rw [m1 hm, if_pos rfl]
        refine hK (T 1 - (w + 1)) _ _ _ (by omega) ⟨w + 1, by omega, rfl, ?_, rfl, rfl⟩
        rw [mxV]
        unfold fmV
        rw [hm]
        rfl
      | some x =>
        obtain ⟨g, st, k'⟩ := x
        obtain ⟨p1, p2, p3, -⟩ := mvD_p hW hs h40 hk (by omega) hm
        obtain ⟨n1, n2⟩ := m2 g st k' hm
        have kb := key w (by omega) g st k' hm
        have h6s : bhS T (s - g + 1) ≤ 6000 := Nat.le_trans (bh_mo (by omega)) h6
        have hsd' : (if st = true then sd else 1 - sd) < 2 := by split <;> omega
        obtain ⟨z1, z2⟩ := xS_lt hsd' h6s p2
        rw [n1, if_neg (fun z => (eq_m1 (by omega)).mp z), n2, i_0, ifLe (by omega) (by decide), kd_of (show oK 186 = 20 by decide), kd_of (show oK 184 = 20 by decide)]
        by_cases c : g ≤ 0
        · obtain rfl : g = 0 := by omega
          have hst : st = false := p3 rfl
          subst hst
          rw [if_neg (by decide)] at n1
          rw [if_pos c, bS (worthOf_s n μ' (v := v (1 - sd) k') (by decide) (by decide) hs (show 1 - sd < 2 by omega) h6 h6s hk p2 (by omega) n1 n2 (hO (1 - sd) k' (by omega) p2))]
          dsimp only
          have e : ((0 : Nat) : Int) + (if 1 - sd = sd then v (1 - sd) k' else - v (1 - sd) k') = woV s lo v sd (0, false, k') := by rw [if_neg (by omega), wo_0]; omega
          rw [e]
          exact go _ (fm_i hm) kb.1 kb.2
        · rw [if_neg c, bS (worthOf_s n μ' (v := lo (if st = true then sd else 1 - sd) (s - g) k') (by decide) (by decide) hs hsd' h6 h6s hk p2 (by omega) n1 n2 (hL _ _ k' hsd' (by omega) p2))]
          dsimp only
          have e : (g : Int) + (if (if st = true then sd else 1 - sd) = sd then lo (if st = true then sd else 1 - sd) (s - g) k' else - lo (if st = true then sd else 1 - sd) (s - g) k') = woV s lo v sd (g, st, k') := by
            unfold woV
            dsimp only
            rw [if_pos (show 0 < g by omega)]
            cases st with
            | true => rw [if_pos rfl, if_pos rfl, if_pos rfl]
            | false => rw [if_neg (show ¬ false = true by decide), if_neg (by omega), if_neg (by decide)]
          rw [e]
          exact go _ (fm_i hm) kb.1 kb.2
theorem ownLess_s (n : Nat) (μ : Mu) {T : Nat → Nat} {sd s k : Nat} (hW : WF T) (hT : TX μ T) (hs : sd < 2) (h40 : s ≤ 40) (hk : k < Wn (opnN T) s) (h6 : k ≤ 6000) (hn : 1000 < n) : Ok (X12_ownLess n (nI sd) (nI s) (nI k) μ) (fun a μ' => a = iv (edV T sd s k) ∧ KL μ μ') := by
  obtain ⟨b1, b6, b3, bb⟩ := id hW.1
  obtain ⟨Tx, tx1, tx2, -⟩ := hT
  have hBx : BD Tx := by
    unfold BD
    rw [tx2 1 (by decide) (by decide), tx2 3 (by decide) (by decide), tx2 4 (by decide) (by decide), tx2 5 (by decide) (by decide), tx2 6 (by decide) (by decide), tx2 7 (by decide) (by decide), tx2 8 (by decide) (by decide), tx2 9 (by decide) (by decide), tx2 10 (by decide) (by decide)]
    exact hW.1
  unfold X12_ownLess
  refine Ok_b (lays_s n μ (k := k) hBx tx1 hs h40 (by rw [opn_re tx2]; exact hk) h6 hn) ?_
  rintro _ μ2 ⟨ha, kl⟩
  dsimp only
  rw [laC_re tx2] at ha
  have t1 : μ2.1 172 1 = nI (T 1) := by rw [kl.1 172 (by decide) (by decide) (by decide), tx1 1 (by decide), tx2 1 (by decide) (by decide)]
  have hh : HD (T 1) μ2 (laC T sd s k) := fun p hp => ha p (by omega)
  rw [bS (sum_row n μ2 t1 b6 hs hh (by omega)), i_1, pk_sub (by omega)]
  dsimp only
  rw [bS (sum_row n μ2 t1 b6 (show 1 - sd < 2 by omega) hh (by omega))]
  dsimp only
  rw [iv_n, iv_n, iv_sub]
  exact Ok_r ⟨rfl, kl⟩
