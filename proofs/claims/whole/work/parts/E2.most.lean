/-! call: most; cutting -/
theorem call_most (n : Nat) (μ : Mu) (sd s v : Int32) (h : INV μ) (hn : 20000 < n) : CBx (L_most n sd s v μ) (X12_most n sd s v) := by
  obtain ⟨T, hI⟩ := h
  have hW := hI.1.1
  have t0 := td_th (v := (1 : Int32)) hI.2.1
  rcases side_d sd with ⟨a, ha, rfl⟩ | ⟨hs1, hs2⟩
  · by_cases hr : inR s 0 40
    · obtain ⟨b, _, hb, rfl⟩ := inR_d (by decide) (by decide) hr
      by_cases hv : inR v 0 5
      · obtain ⟨w, _, hw, rfl⟩ := inR_d (by decide) (by decide) hv
        have ref : ∀ μ1, INT μ1 T → ∀ {Q : Int32 → Mu → Prop}, (∀ μ2, TD μ2 T → RI μ2 → (bhS T (b + 1) ≤ 6000 → ∀ S, b < S → RV μ2 T S → Ok (X12_most_53 n (nI a) (nI b) (nI w) 0 μ2) Q) ∧ (¬ bhS T (b + 1) ≤ 6000 → Ok (X12_most_53 n (nI a) (nI b) (nI w) 3 μ2) Q)) → Ok (X12_most n (nI a) (nI b) (nI w) μ1) Q := by
          intro μ1 h1 Q hq
          unfold X12_most
          rw [bS (isSide_l n μ1 ha)]
          dsimp only
          rw [if_neg (show ¬ b2i true = 0 by decide), bS (within_l n μ1 (b := 40) (y := 40) (by decide) rfl hr)]
          dsimp only
          rw [if_neg (show ¬ b2i true = 0 by decide), bS (within_l n μ1 (b := 5) (y := 5) (by decide) rfl hv)]
          dsimp only
          rw [if_neg (show ¬ b2i true = 0 by decide)]
          refine Ok_b (sol_s n _ h1.1 hb h1.2.1 h1.2.2.2.2.1 hn) ?_
          rintro _ μ2 ⟨rfl, t2, r2, z5, q⟩
          dsimp only
          obtain ⟨q1, q2⟩ := hq μ2 t2 r2
          by_cases z : bhS T (b + 1) ≤ 6000
          · obtain ⟨S, hs, hv⟩ := q z
            rw [decide_eq_true z, if_neg (show ¬ b2i true = 0 by decide)]
            exact q1 z S hs hv
          · rw [decide_eq_false z, if_pos (show b2i false = 0 from rfl)]
            exact q2 z
        by_cases z : bhS T (b + 1) ≤ 6000
        · refine CBs_mk (x := .inl (mtI w (mtF (msV T a b w) (Wn (opnN T) b)))) (k := 0) hI ?_ (fun r e => fr_X11_most n _ _ _ μ r e) (by decide +kernel) (fun μ1 e => ⟨_, by unfold L_most; rw [e], fun v q => by rw [Sum.inl.inj q], fun e q => nomatch q⟩) (Or.inl ⟨_, rfl⟩) (fun μ1 h1 => ?_) (fun μ1 r e => fr_X12_most n _ _ _ μ1 r e) (by decide +kernel)
          · unfold X11_most
            rw [thr_l (needSide_l n μ ha), thr_l (needSeeds_l n μ hb), i_5, wh_yes (by decide) hw]
            refine thr_ok (needSolved_s n μ hI hb hn) (fun x μ1 q => ?_) (fun e μ1 q => ?_)
            · obtain ⟨c1, n1, ⟨_, _, S, hs, hv⟩ | ⟨q, _⟩⟩ := q
              · refine Ok_m (mostC_s n μ1 hW n1.1 hv hs ha hw hn) ?_
                rintro y μ2 ⟨rfl, rfl⟩
                exact ⟨rfl, c1⟩
              · exact absurd z q
            · obtain ⟨_, _, ⟨_, q, _⟩ | ⟨q, _⟩⟩ := q
              · exact nomatch q
              · exact absurd z q
          · refine ref μ1 h1 (fun μ2 t2 r2 => ⟨fun _ S hs hv => ?_, fun q => absurd z q⟩)
            unfold X12_most_53
            rw [si_a, if_pos (show (0 : Int32) ≤ 0 by decide)]
            refine Ok_m (mostR_s n _ hW (RV_ag hv (Fr_ag th_fr (by decide +kernel))) hs ha hw hn) ?_
            rintro y μ3 ⟨rfl, rfl⟩
            exact ⟨si_a, fun v q => Sum.inl.inj q, td_th t2, RI_th r2⟩
        · refine CBs_mk (x := .inr 2) (k := 3) hI ?_ (fun r e => fr_X11_most n _ _ _ μ r e) (by decide +kernel) (fun μ1 e => ⟨μ1, by unfold L_most; rw [e]; rfl, fun v q => (nomatch q), fun e q => rfl⟩) (Or.inr (by decide)) (fun μ1 h1 => ?_) (fun μ1 r e => fr_X12_most n _ _ _ μ1 r e) (by decide +kernel)
          · unfold X11_most
            rw [thr_l (needSide_l n μ ha), thr_l (needSeeds_l n μ hb), i_5, wh_yes (by decide) hw]
            refine thr_ok (needSolved_s n μ hI hb hn) (fun x μ1 q => ?_) (fun e μ1 q => ?_)
            · obtain ⟨_, _, ⟨q, _⟩ | ⟨_, q⟩⟩ := q
              · exact absurd q z
              · exact nomatch q
            · obtain ⟨c1, _, ⟨q, _⟩ | ⟨_, q⟩⟩ := q
              · exact absurd q z
              · exact ⟨by rw [Sum.inr.inj q], c1⟩
          · refine ref μ1 h1 (fun μ2 t2 r2 => ⟨fun q => absurd q z, fun _ => ?_⟩)
            unfold X12_most_53
            rw [si_a, if_neg (by decide)]
            exact Ok_r ⟨si_a, fun v q => (nomatch q), td_th t2, RI_th r2⟩
      · refine CBs_mk (x := .inr 1) (k := 2) hI ?_ (fun r e => fr_X11_most n _ _ _ μ r e) (by decide +kernel) (fun μ1 e => ⟨μ1, by unfold L_most; rw [e]; rfl, fun v q => (nomatch q), fun e q => rfl⟩) (Or.inr (by decide)) (fun μ1 h1 => ?_) (fun μ1 r e => fr_X12_most n _ _ _ μ1 r e) (by decide +kernel)
        · unfold X11_most X11_most_17
          rw [thr_l (needSide_l n μ ha), thr_l (needSeeds_l n μ hb), i_5, wh_no (by decide) hv]
          exact Ok_r ⟨rfl, hI.2.2.2.1⟩
        · unfold X12_most X12_most_36 X12_most_53
          rw [bS (isSide_l n μ1 ha)]
          dsimp only
          rw [if_neg (show ¬ b2i true = 0 by decide), bS (within_l n μ1 (b := 40) (y := 40) (by decide) rfl hr)]
          dsimp only
          rw [if_neg (show ¬ b2i true = 0 by decide), bS (within_r n μ1 (b := 5) (y := 5) (by decide) rfl hv)]
          dsimp only
          rw [if_pos (show b2i false = 0 from rfl), si_a, if_neg (by decide)]
          exact Ok_r ⟨si_a, fun v q => (nomatch q), td_th h1.2.1, RI_th h1.2.2.2.2.1⟩
    · refine CBs_mk (x := .inr 1) (k := 2) hI ?_ (fun r e => fr_X11_most n _ _ _ μ r e) (by decide +kernel) (fun μ1 e => ⟨μ1, by unfold L_most; rw [e]; rfl, fun v q => (nomatch q), fun e q => rfl⟩) (Or.inr (by decide)) (fun μ1 h1 => ?_) (fun μ1 r e => fr_X12_most n _ _ _ μ1 r e) (by decide +kernel)
      · unfold X11_most
        rw [thr_l (needSide_l n μ ha), thr_r (needSeeds_r n μ hr)]
        exact Ok_r ⟨rfl, hI.2.2.2.1⟩
      · unfold X12_most X12_most_36 X12_most_53
        rw [bS (isSide_l n μ1 ha)]
        dsimp only
        rw [if_neg (show ¬ b2i true = 0 by decide), bS (within_r n μ1 (b := 40) (y := 40) (by decide) rfl hr)]
        dsimp only
        rw [if_pos (show b2i false = 0 from rfl), si_a, if_neg (by decide)]
        exact Ok_r ⟨si_a, fun v q => (nomatch q), td_th h1.2.1, RI_th h1.2.2.2.2.1⟩
  · refine CBs_mk (x := .inr 0) (k := 1) hI ?_ (fun r e => fr_X11_most n _ _ _ μ r e) (by decide +kernel) (fun μ1 e => ⟨μ1, by unfold L_most; rw [e]; rfl, fun v q => (nomatch q), fun e q => rfl⟩) (Or.inr (by decide)) (fun μ1 h1 => ?_) (fun μ1 r e => fr_X12_most n _ _ _ μ1 r e) (by decide +kernel)
    · unfold X11_most
      rw [thr_r (needSide_r n μ hs2)]
      exact Ok_r ⟨rfl, hI.2.2.2.1⟩
    · unfold X12_most X12_most_53
      rw [bS (isSide_r n μ1 hs1)]
      dsimp only
      rw [if_pos (show b2i false = 0 from rfl), si_a, if_neg (by decide)]
      exact Ok_r ⟨si_a, fun v q => (nomatch q), td_th h1.2.1, RI_th h1.2.2.2.2.1⟩

theorem l_shl (a s : Int64) (k : Nat) (hs : (s.toBitVec.smod 64).toNat = k) : (a <<< s).toBitVec.toNat = a.toBitVec.toNat * 2 ^ k % 2 ^ 64 := by
  show (a.toBitVec <<< (s.toBitVec.smod 64).toNat).toNat = _
  rw [hs, BitVec.toNat_shiftLeft, Nat.shiftLeft_eq]
theorem l_shr (a s : Int64) (k : Nat) (hs : (s.toBitVec.smod 64).toNat = k) : (a >>> s).toInt = a.toInt / ((2 ^ k : Nat) : Int) := by
  show (a.toBitVec.sshiftRight (s.toBitVec.smod 64).toNat).toInt = _
  rw [hs, BitVec.toInt_sshiftRight, Int.shiftRight_eq_div_pow]
  rfl
theorem l_bm (a : Int64) : a.toInt = Int.bmod a.toBitVec.toNat (2 ^ 64) := BitVec.toInt_eq_toNat_bmod _
theorem sh_8 : ∀ r, r < 256 → Int.bmod ((r * 2 ^ 56 : Nat) : Int) (2 ^ 64) / ((2 ^ 56 : Nat) : Int) = if r < 128 then (r : Int) else (r : Int) - 256 := by decide +kernel
theorem sh_16 (r : Nat) (h : r < 65536) : Int.bmod ((r * 2 ^ 48 : Nat) : Int) (2 ^ 64) / ((2 ^ 48 : Nat) : Int) = if r < 32768 then (r : Int) else (r : Int) - 65536 := by
  rw [Int.bmod_def]
  split <;> split <;> omega
theorem bm_8 (N : Nat) : Int.bmod (N : Int) (2 ^ 8) = if N % 256 < 128 then ((N % 256 : Nat) : Int) else ((N % 256 : Nat) : Int) - 256 := by
  simp only [Int.bmod_def]
  split <;> split <;> omega
theorem bm_16 (N : Nat) : Int.bmod (N : Int) (2 ^ 16) = if N % 65536 < 32768 then ((N % 65536 : Nat) : Int) else ((N % 65536 : Nat) : Int) - 65536 := by
  simp only [Int.bmod_def]
  split <;> split <;> omega
theorem cut_8 (v s : Int64) (hs : (s.toBitVec.smod 64).toNat = 56) : (v <<< s) >>> s = v.toInt32.toInt8.toInt32.toInt64 := by
  apply Int64.toInt_inj.mp
  rw [l_shr _ _ 56 hs, l_bm (v <<< s), l_shl _ _ 56 hs, Int32.toInt_toInt64, Int8.toInt_toInt32, Int32.toInt_toInt8, Int64.toInt_toInt32, l_bm v, Int.bmod_bmod_of_dvd (by decide), Int.bmod_bmod_of_dvd (by decide), bm_8, show (2 : Nat) ^ 64 = 256 * 2 ^ 56 from rfl, Nat.mul_mod_mul_right]
  exact sh_8 _ (Nat.mod_lt _ (by decide))
theorem cut_16 (v s : Int64) (hs : (s.toBitVec.smod 64).toNat = 48) : (v <<< s) >>> s = v.toInt32.toInt16.toInt32.toInt64 := by
  apply Int64.toInt_inj.mp
  rw [l_shr _ _ 48 hs, l_bm (v <<< s), l_shl _ _ 48 hs, Int32.toInt_toInt64, Int16.toInt_toInt32, Int32.toInt_toInt16, Int64.toInt_toInt32, l_bm v, Int.bmod_bmod_of_dvd (by decide), Int.bmod_bmod_of_dvd (by decide), bm_16, show (2 : Nat) ^ 64 = 65536 * 2 ^ 48 from rfl, Nat.mul_mod_mul_right]
  exact sh_16 _ (Nat.mod_lt _ (by decide))
theorem cut_32 (v s : Int64) (hs : (s.toBitVec.smod 64).toNat = 32) : (v <<< s) >>> s = v.toInt32.toInt64 := by
  apply Int64.toInt_inj.mp
  rw [l_shr _ _ 32 hs, l_bm (v <<< s), l_shl _ _ 32 hs, Int32.toInt_toInt64, Int64.toInt_toInt32, l_bm v]
  have := v.toBitVec.isLt
  generalize v.toBitVec.toNat = N at *
  simp only [Int.bmod_def]
  omega
theorem cut_64 (v s : Int64) (hs : (s.toBitVec.smod 64).toNat = 0) : (v <<< s) >>> s = v := by
  apply Int64.toInt_inj.mp
  rw [l_shr _ _ 0 hs, l_bm (v <<< s), l_shl _ _ 0 hs, l_bm v]
  have := v.toBitVec.isLt
  generalize v.toBitVec.toNat = N at *
  simp only [Int.bmod_def]
  omega
def ctL (s : Nat) (v : Int64) : Int64 := if s = 0 then v.toInt32.toInt8.toInt32.toInt64 else if s = 1 then v.toInt32.toInt16.toInt32.toInt64 else if s = 2 then v.toInt32.toInt64 else v
theorem cutC_s (n : Nat) (μ : Mu) {t s : Nat} (v : Int64) (ht : t < 4) (hs : s < 4) (h : μ.1 (33 + 2 * t) 1 = nI s) : X9_cut n (33 + 2 * t) v μ = some (ctL s v, μ) := by
  unfold X9_cut ctL
  rw [kd_of (tr_k t ht), h, i_0, i_1, i_2, ifEq (by omega) (by decide), ifEq (by omega) (by decide), ifEq (by omega) (by decide)]
  by_cases z0 : s = 0
  · rw [if_pos z0, if_pos z0]
  · rw [if_neg z0, if_neg z0]
    by_cases z1 : s = 1
    · rw [if_pos z1, if_pos z1]
    · rw [if_neg z1, if_neg z1]
      by_cases z2 : s = 2
      · rw [if_pos z2, if_pos z2]
      · rw [if_neg z2, if_neg z2]
theorem cut_e {s : Nat} (hs : s < 4) (v : Int64) : (v <<< (((64 : Int32) - ((8 : Int32) <<< ((nI s) &&& 31))).toInt64 &&& 63)) >>> (((64 : Int32) - ((8 : Int32) <<< ((nI s) &&& 31))).toInt64 &&& 63) = ctL s v := by
  obtain rfl | rfl | rfl | rfl : s = 0 ∨ s = 1 ∨ s = 2 ∨ s = 3 := by omega
  · exact cut_8 v _ (by decide)
  · exact cut_16 v _ (by decide)
  · exact cut_32 v _ (by decide)
  · exact cut_64 v _ (by decide)
theorem cutR_s (n : Nat) (μ : Mu) {t s i : Nat} (v : Int64) (ht : t < 4) (hi : i < 40) (hs : s < 4) (h : μ.1 198 t = nI s) : X12_cut n (nI t) (nI i) v μ = some (ctL s v, sj μ 200 (40 * t + i) (ctL s v)) := by
  unfold X12_cut
  rw [gd_n ht (by decide), i_40, pk_mul, nI_add, gd_n (by omega) (by decide), nI_clamp (by omega), nI_clamp (by omega), h, cut_e hs, sj_a]
theorem ct_sm {s p : Nat} (hp : p < 12) : ctL s (nI p).toInt64 = (nI p).toInt64 := by
  have h0 : ∀ p, p < 12 → (nI p).toInt64.toInt32.toInt8.toInt32.toInt64 = (nI p).toInt64 := by decide
  have h1 : ∀ p, p < 12 → (nI p).toInt64.toInt32.toInt16.toInt32.toInt64 = (nI p).toInt64 := by decide
  have h2 : ∀ p, p < 12 → (nI p).toInt64.toInt32.toInt64 = (nI p).toInt64 := by decide
  unfold ctL
  repeat' split
  · exact h0 p hp
  · exact h1 p hp
  · exact h2 p hp
  · rfl
