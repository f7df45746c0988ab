/-! perform -/
def doP (s : Nat × Nat × Nat × (Nat → Nat → Nat) × (Nat → Nat)) (p : Nat) (T' : Nat → Nat) : Nat × Nat × Nat × (Nat → Nat → Nat) × (Nat → Nat) := (doD s.1, 0, doS s.2.2.1 s.1, doB s.1 s.2.2.2.1 T', doM s.1 s.2.2.2.2 p)
def pfF (xs : Nat → Int64) : Nat → Nat → (Nat × Nat × Nat × (Nat → Nat → Nat) × (Nat → Nat)) → (Nat → Nat) → Nat × (Nat × Nat × Nat × (Nat → Nat → Nat) × (Nat → Nat)) × (Nat → Nat)
  | 0, i, s, T => (i, s, T)
  | c + 1, i, s, T => if whyL T (xs i) = 0 then pfF xs c (i + 1) (doP s (xs i).toInt.toNat ((mvR T (wX T (xs i))).getD T)) ((mvR T (wX T (xs i))).getD T) else (i, s, T)
theorem pf_s {xs : Nat → Int64} {c i : Nat} {s : Nat × Nat × Nat × (Nat → Nat → Nat) × (Nat → Nat)} {T : Nat → Nat} (h : whyL T (xs i) = 0) : pfF xs (c + 1) i s T = pfF xs c (i + 1) (doP s (xs i).toInt.toNat ((mvR T (wX T (xs i))).getD T)) ((mvR T (wX T (xs i))).getD T) := if_pos h
theorem pf_f {xs : Nat → Int64} {c i : Nat} {s : Nat × Nat × Nat × (Nat → Nat → Nat) × (Nat → Nat)} {T : Nat → Nat} (h : ¬ whyL T (xs i) = 0) : pfF xs (c + 1) i s T = (i, s, T) := if_neg h
/-- the pure part of the past -/
def PPS (s : Nat × Nat × Nat × (Nat → Nat → Nat) × (Nat → Nat)) (T : Nat → Nat) : Prop := W1 T ∧ s.2.2.1 < 40 ∧ CHN T s.1 s.2.1 s.2.2.2.1 s.2.2.2.2
theorem PPS_do {s : Nat × Nat × Nat × (Nat → Nat → Nat) × (Nat → Nat)} {T T' : Nat → Nat} {w : Nat} (h : PPS s T) (hw : w < T 1) (e : mvR T w = some T') : PPS (doP s (offN (T 1) (T 2) + w) T') T' := ⟨(W1_mv h.1 hw e).1, doS_lt h.2.1, CHN_do h.2.2 h.1 hw e⟩
def CPs (μ : Mu) (s : Nat × Nat × Nat × (Nat → Nat → Nat) × (Nat → Nat)) : Prop := CPS μ s.1 s.2.1 s.2.2.1 s.2.2.2.1 s.2.2.2.2
def RPs (μ : Mu) (s : Nat × Nat × Nat × (Nat → Nat → Nat) × (Nat → Nat)) : Prop := RPS μ s.1 s.2.1 s.2.2.2.1 s.2.2.2.2
theorem pf_p {xs : Nat → Int64} : ∀ c i s T, PPS s T → PPS (pfF xs c i s T).2.1 (pfF xs c i s T).2.2 ∧ (pfF xs c i s T).1 ≤ i + c := by
  intro c
  induction c with
  | zero => intro i s T h; exact ⟨h, by show i ≤ i + 0; omega⟩
  | succ c ih =>
    intro i s T h
    by_cases z : whyL T (xs i) = 0
    · obtain ⟨w, l, k, tt, cc, hw, ex, hc, hf, hmv, eg, hW1⟩ := tray_mv h.1 z
      have hol := off_le (T 1) (T 2)
      have b6 := h.1.1.1.2.1
      rw [pf_s z, eg, ex, lN_tn (by omega)]
      obtain ⟨a, b⟩ := ih (i + 1) _ _ (PPS_do h hw (mvR_i hc hmv))
      exact ⟨a, by omega⟩
    · rw [pf_f z]; exact ⟨h, by show i ≤ i + (c + 1); omega⟩
theorem performC_s (n : Nat) (μ : Mu) {T : Nat → Nat} {t M : Nat} {xs : Nat → Int64} {s : Nat × Nat × Nat × (Nat → Nat → Nat) × (Nat → Nat)} (v1 : Int32) (ht : t < 4) (hM : M ≤ 40) (hp : PPS s T) (hc : CPs μ s) (hN : NOW μ T) (hm : μ.1 (33 + 2 * t) 2 = nI M) (hx : ∀ k, k < 40 → μ.2 (34 + 2 * t) k = xs k) (hn : 1000 < n) :
    Ok (X11_perform_8 n v1 (33 + 2 * t) 0 μ) (fun a μ' => a = .inl (nI (pfF xs M 0 s T).1) ∧ NOW μ' (pfF xs M 0 s T).2.2 ∧ CPs μ' (pfF xs M 0 s T).2.1) := by
  unfold X11_perform_8
  rw [i_0]
  refine Ok_lp2 (fun f x2 x3 μ' => x2 = 33 + 2 * t ∧ (∀ o, 33 ≤ o → o ≤ 40 → μ'.1 o = μ.1 o) ∧ μ'.2 = μ.2 ∧ ∃ i sc Tc, i ≤ M ∧ f = M - i ∧ x3 = nI i ∧ PPS sc Tc ∧ CPs μ' sc ∧ NOW μ' Tc ∧ pfF xs (M - i) i sc Tc = pfF xs M 0 s T) ?_ M (by omega) ⟨rfl, fun _ _ _ => rfl, rfl, 0, s, T, by omega, rfl, rfl, hp, hc, hN, rfl⟩
  rintro K f x2 x3 μ1 ⟨rfl, k1, k2, i, sc, Tc, hi, rfl, rfl, hpc, hcc, hNc, hpf⟩ hK
  have b6 := hpc.1.1.1.2.1
  have hol := off_le (Tc 1) (Tc 2)
  unfold X11_perform_8b X11_perform_78
  rw [kd_of (tr_k t ht), k1 (33 + 2 * t) (by omega) (by omega), hm, ifLe (by omega) (by omega)]
  by_cases c : M ≤ i
  · obtain rfl : i = M := by omega
    rw [Nat.sub_self] at hpf
    have e : pfF xs i 0 s T = (i, sc, Tc) := by rw [← hpf]; rfl
    rw [if_pos c, e]
    exact Ok_r ⟨rfl, hNc, hcc⟩
  · obtain ⟨c', hc'⟩ : ∃ c', M - i = c' + 1 := ⟨M - i - 1, by omega⟩
    rw [if_neg c, gd_n (by omega) (by decide), nI_clamp (by omega), show 33 + 2 * t + 1 = 34 + 2 * t by omega, show μ1.2 (34 + 2 * t) i = xs i by rw [k2]; exact hx i (by omega)]
    refine Ok_b (reasonL n μ1 (xs i) os53 hpc.1.1 hNc.1.1.1 hNc.2.2 hn) ?_
    rintro _ μ2 ⟨k3, rfl⟩
    dsimp only
    have n2 : NOW μ2 Tc := NOW_ag hNc (Fr_ag (RS_fr k3) (by decide +kernel))
    have c2 : CPs μ2 sc := CPS_ag hpc.2.1 hpc.2.2.1 hcc (Fr_ag (RS_fr k3) (by decide +kernel))
    have o2 : ∀ o, 33 ≤ o → o ≤ 40 → μ2.1 o = μ.1 o := fun o a b => by rw [k3.1 o (by unfold RS; omega)]; exact k1 o a b
    by_cases z : whyL Tc (xs i) = 0
    · obtain ⟨w, l, k, tt, cc, hw, ex, hcw, hf, hmv, eg, hW1⟩ := tray_mv hpc.1 z
      rw [z, if_pos (show nI 0 = 0 from rfl), show μ2.2 (34 + 2 * t) i = xs i by rw [k3.2, k2]; exact hx i (by omega), ex, lN_i]
      refine cmv_s n μ2 hpc.1 hpc.2.1 hpc.2.2 c2 n2 hw hcw hmv hn (fun a μ3 q1 q2 q3 _ => ?_)
      dsimp only
      rw [i_1, nI_add]
      refine hK (M - (i + 1)) _ _ _ (by omega) ⟨rfl, fun o a b => by rw [q3.1 o (by omega)]; exact o2 o a b, by rw [q3.2, k3.2, k2], i + 1, _, _, by omega, rfl, rfl, PPS_do hpc hw (mvR_i hcw hmv), q2, q1, ?_⟩
      rw [← hpf, hc', pf_s z, eg, ex, lN_tn (by omega), show M - (i + 1) = c' by omega]
    · have hlt := whyL_lt (T := Tc) (x := xs i)
      have e : pfF xs M 0 s T = (i, sc, Tc) := by rw [← hpf, hc', pf_f z]
      rw [if_neg (iv_nz z (by omega)), e]
      exact Ok_r ⟨rfl, n2, c2⟩
theorem performR_s (n : Nat) (μ : Mu) {T : Nat → Nat} {t M : Nat} {xs : Nat → Int64} {s : Nat × Nat × Nat × (Nat → Nat → Nat) × (Nat → Nat)} (ht : t < 4) (hM : M ≤ 40) (hp : PPS s T) (hr : RPs μ s) (hD : TD μ T) (hm : μ.1 199 t = nI M) (hx : ∀ k, k < 40 → μ.2 200 (40 * t + k) = xs k) (hn : 2000 < n) :
    Ok (X12_perform_20 n (nI t) 0 μ) (fun a μ' => a = nI (pfF xs M 0 s T).1 ∧ TD μ' (pfF xs M 0 s T).2.2 ∧ RPs μ' (pfF xs M 0 s T).2.1 ∧ μ'.1 171 5 = μ.1 171 5) := by
  unfold X12_perform_20
  rw [i_0]
  refine Ok_lp1 (fun f x2 μ' => μ'.1 199 = μ.1 199 ∧ (∀ k, k < 40 → μ'.2 200 (40 * t + k) = xs k) ∧ μ'.1 171 5 = μ.1 171 5 ∧ ∃ i sc Tc, i ≤ M ∧ f = M - i ∧ x2 = nI i ∧ PPS sc Tc ∧ RPs μ' sc ∧ TD μ' Tc ∧ pfF xs (M - i) i sc Tc = pfF xs M 0 s T) ?_ M (by omega) ⟨rfl, hx, rfl, 0, s, T, by omega, rfl, rfl, hp, hr, hD, rfl⟩
  rintro K f x2 μ1 ⟨k1, k2, k5, i, sc, Tc, hi, rfl, rfl, hpc, hrc, hDc, hpf⟩ hK
  have b6 := hpc.1.1.1.2.1
  have hol := off_le (Tc 1) (Tc 2)
  unfold X12_perform_20b X12_perform_71
  rw [gd_n ht (by decide), nI_clamp (by omega), k1, hm, ifLe (by omega) (by omega)]
  by_cases c : M ≤ i
  · obtain rfl : i = M := by omega
    rw [Nat.sub_self] at hpf
    have e : pfF xs i 0 s T = (i, sc, Tc) := by rw [← hpf]; rfl
    rw [if_pos c, e]
    exact Ok_r ⟨rfl, hDc, hrc, k5⟩
  · obtain ⟨c', hc'⟩ : ∃ c', M - i = c' + 1 := ⟨M - i - 1, by omega⟩
    rw [if_neg c, i_40, pk_mul, nI_add, gd_n (by omega) (by decide), nI_clamp (by omega), k2 i (by omega)]
    refine Ok_b (whyToldL n μ1 (xs i) hpc.1.1 hDc (by omega)) ?_
    rintro _ μ2 ⟨kr, rfl⟩
    dsimp only
    have t2 := KR_TD kr hDc
    have r2 : RPs μ2 sc := RPS_ag hrc (Fr_ag (KR_fr kr) (by decide +kernel))
    have z5 : μ2.1 171 5 = μ.1 171 5 := by rw [kr.2.2 5 (by omega)]; exact k5
    by_cases z : whyL Tc (xs i) = 0
    · obtain ⟨w, l, k, tt, cc, hw, ex, hcw, hf, hmv, eg, hW1⟩ := tray_mv hpc.1 z
      rw [z, if_pos (show nI 0 = 0 from rfl), show μ2.2 200 (40 * t + i) = xs i by rw [kr.2.1]; exact k2 i (by omega), ex, lN_i]
      obtain ⟨a, μ3, e3, q1, q2, q3, q4⟩ := does_s n μ2 hpc.1 hpc.2.2 r2 t2 hw hcw hmv hn
      have ag3 : AG [(199, 200, 9999)] μ2 μ3 := Fr_ag (fr_X12_does n _ μ2 _ e3) (by decide +kernel)
      rw [bS e3]
      dsimp only
      rw [i_1, nI_add]
      refine hK (M - (i + 1)) _ _ (by omega) ⟨by rw [(ag3.o 199 199 200 (by decide) (by decide) (by decide)).1, kr.1 199 (by decide) (by decide)]; exact k1, fun k hk => by rw [(ag3.o 200 199 200 (by decide) (by decide) (by decide)).2, kr.2.1]; exact k2 k hk, by rw [q4 5 (by omega)]; exact z5, i + 1, _, _, by omega, rfl, rfl, PPS_do hpc hw (mvR_i hcw hmv), q3, q2, ?_⟩
      rw [← hpf, hc', pf_s z, eg, ex, lN_tn (by omega), show M - (i + 1) = c' by omega]
    · have hlt := whyL_lt (T := Tc) (x := xs i)
      have e : pfF xs M 0 s T = (i, sc, Tc) := by rw [← hpf, hc', pf_f z]
      rw [if_neg (iv_nz z (by omega)), e]
      exact Ok_r ⟨rfl, t2, r2, z5⟩
theorem call_perform (n : Nat) (μ : Mu) (v : Int32) (h : INV μ) (hn : 2000 < n) : CBx (L_perform n v μ) (X12_perform n v) := by
  obtain ⟨T, hI⟩ := h
  have hT := hI.1
  have hN := hI.2.2.1
  have fail : ∀ k e, (k : Int32) ≠ 0 → ¬ k ≤ 0 → X11_perform n v μ = some (.inr e, μ) → L_perform n v μ = some (k, μ) → (∀ μ1, μ1.1 198 = μ.1 198 → X12_trayFault n v μ1 = some (k, μ1)) → CBx (L_perform n v μ) (X12_perform n v) := by
    intro k e k0 k1 e1 e2 e3
    refine ⟨k, μ, 0, si μ 171 5 k, e2, ?_, si_a, fun q => absurd q k0, T, INT_td hI (Fr_ag th_fr (by decide +kernel))⟩
    unfold X12_perform
    rw [bS (e3 μ rfl)]
    dsimp only
    rw [si_a, if_neg k1]
  by_cases hv : inR v 0 3
  · obtain ⟨t, _, ht3, rfl⟩ := inR_d (by decide) (by decide) hv
    have ht : t < 4 := by omega
    obtain ⟨o1, o2, ⟨M, hM, o3, o4⟩, o5⟩ := id (hI.2.2.2.2.2.2.2.2.1 t ht)
    by_cases hl : μ.1 198 t = -1
    · have e1 : X11_perform n (nI t) μ = some (.inr 2, μ) := by
        unfold X11_perform
        rw [thr_r (laid_m n μ ht (by rw [o1]; exact hl))]
      exact fail 2 2 (by decide) (by decide) e1 (by unfold L_perform; rw [e1]; rfl) (fun μ1 q => by rw [trF_t n μ1 ht, q, if_pos hl])
    · obtain ⟨d, u, st, B, m, hp⟩ := hI.2.2.2.2.2.1
      obtain ⟨hst, hC, hP, hR⟩ := PST_i.mp hp
      have hpp : PPS (d, u, st, B, m) T := ⟨hT, hst, hC⟩
      obtain ⟨fp, fi⟩ := pf_p (xs := fun k => μ.2 200 (40 * t + k)) M 0 (d, u, st, B, m) T hpp
      have cl : Ok (X11_perform n (nI t) μ) (fun a μ' => a = .inl (nI (pfF (fun k => μ.2 200 (40 * t + k)) M 0 (d, u, st, B, m) T).1) ∧ NOW μ' (pfF (fun k => μ.2 200 (40 * t + k)) M 0 (d, u, st, B, m) T).2.2 ∧ CPs μ' (pfF (fun k => μ.2 200 (40 * t + k)) M 0 (d, u, st, B, m) T).2.1) := by
        unfold X11_perform
        rw [thr_l (laid_l n μ ht (by rw [o1]; exact hl)), kd_of (tr_k t ht)]
        exact performC_s n μ (nI t) ht hM hpp hP hN o3 o5 (by omega)
      obtain ⟨_, μ2, e2, rfl, n2, c2⟩ := cl
      have ag2 := fr_X11_perform n _ μ _ e2
      have hL : L_perform n (nI t) μ = some (0, sj μ2 201 0 (nI (pfF (fun k => μ.2 200 (40 * t + k)) M 0 (d, u, st, B, m) T).1).toInt64) := by unfold L_perform; rw [e2]
      generalize hμ3 : sj μ2 201 0 (nI (pfF (fun k => μ.2 200 (40 * t + k)) M 0 (d, u, st, B, m) T).1).toInt64 = μ3 at hL
      have e13 : μ3.1 = μ2.1 := by rw [← hμ3]; rfl
      have ag3 : ∀ {D : List (Nat × Nat × Nat)}, djB [(201, 201, 9999)] D = true → AG D μ2 μ3 := fun hd => by rw [← hμ3]; exact AG.sj hd
      have t3 : TD μ3 T := TD_ag hI.2.1 ((Fr_ag ag2 (by decide +kernel)).tr (ag3 (by decide +kernel)))
      have r3 : RPS μ3 d u B m := RPS_ag hR ((Fr_ag ag2 (by decide +kernel)).tr (ag3 (by decide +kernel)))
      have a98 : AG [(198, 200, 9999)] μ μ3 := (Fr_ag ag2 (by decide +kernel)).tr (ag3 (by decide +kernel))
      have rf : Ok (X12_perform n (nI t) μ3) (fun a μ' => a = nI (pfF (fun k => μ.2 200 (40 * t + k)) M 0 (d, u, st, B, m) T).1 ∧ TD μ' (pfF (fun k => μ.2 200 (40 * t + k)) M 0 (d, u, st, B, m) T).2.2 ∧ RPs μ' (pfF (fun k => μ.2 200 (40 * t + k)) M 0 (d, u, st, B, m) T).2.1 ∧ μ'.1 171 5 = 0) := by
        unfold X12_perform
        rw [bS (trF_t n μ3 ht), (a98.o 198 198 200 (by decide) (by decide) (by decide)).1, if_neg hl]
        dsimp only
        rw [si_a, if_pos (show (0 : Int32) ≤ 0 by decide)]
        refine Ok_m (performR_s n (si μ3 171 5 0) (xs := fun k => μ.2 200 (40 * t + k)) ht hM hpp (RPS_ag r3 (Fr_ag th_fr (by decide +kernel))) (td_th t3) (by rw [si_b (by decide), (a98.o 199 198 200 (by decide) (by decide) (by decide)).1]; exact o4) (fun k hk => ?_) hn) ?_
        · show μ3.2 200 (40 * t + k) = _
          rw [(a98.o 200 198 200 (by decide) (by decide) (by decide)).2]
        · rintro a μ4 ⟨q1, q2, q3, q4⟩
          exact ⟨q1, q2, q3, by rw [q4, si_a]⟩
      obtain ⟨_, μ4, e4, rfl, t4, r4, z5⟩ := rf
      have ag4 := fr_X12_perform n _ μ3 _ e4
      have n3 : NOW μ3 (pfF (fun k => μ.2 200 (40 * t + k)) M 0 (d, u, st, B, m) T).2.2 := NOW_ag n2 (ag3 (by decide +kernel))
      have c3 : CPs μ3 (pfF (fun k => μ.2 200 (40 * t + k)) M 0 (d, u, st, B, m) T).2.1 := CPS_ag fp.2.1 fp.2.2.1 c2 (ag3 (by decide +kernel))
      refine ⟨0, μ3, _, μ4, hL, e4, z5, fun _ => ?_, _, INT_mk hI fp.1 t4 (NOW_ag n3 (Fr_ag ag4 (by decide +kernel))) ⟨_, _, _, _, _, PST_i.mpr ⟨fp.2.1, fp.2.2, CPS_ag fp.2.1 fp.2.2.1 c3 (Fr_ag ag4 (by decide +kernel)), r4⟩⟩ (((Fr_ag ag2 (by decide +kernel)).tr (ag3 (by decide +kernel))).tr (Fr_ag ag4 (by decide +kernel)))⟩
      have a201 : AG [(201, 201, 9999)] μ3 μ4 := Fr_ag ag4 (by decide +kernel)
      rw [(a201.o 201 201 201 (by decide) (by decide) (by decide)).2, ← hμ3, sj_a]
  · have e1 : X11_perform n v μ = some (.inr 0, μ) := by
      unfold X11_perform
      rw [thr_r (laid_r n μ hv)]
    exact fail 1 0 (by decide) (by decide) e1 (by unfold L_perform; rw [e1]; rfl) (fun μ1 q => trF_r n μ1 hv)
