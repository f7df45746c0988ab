/-! the class: values, ranks, worths, best moves of a scene -/
theorem cv_at {μ : Mu} {T : Nat → Nat} {S sd s k : Nat} (h : CV μ T S) (hs : s < S) (hsd : sd < 2) (hk : k < Wn (opnN T) s) : bhS T (s + 1) ≤ 6000 ∧ ixC T sd s k < 12000 ∧ μ.1 16 (ixC T sd s k) = iv (VL T 41 sd s k) ∧ μ.1 17 (ixC T sd s k) = rkC T sd s k := by
  have h6 : bhS T (s + 1) ≤ 6000 := Nat.le_trans (bh_mo (by omega)) h.2.1
  exact ⟨h6, ix_lt hsd h6 hk, h.2.2.2 sd s k hsd hs hk⟩
theorem inP_s (n : Nat) (μ : Mu) {T : Nat → Nat} {o : Nat} (ho : oK o = 6) (hS : SC μ o T) (hn : 1000 < n) : X6_inPits n o μ = some (nI (sT T), μ) := inPits_s n μ ho hS.2 (by omega)
theorem idx_s (n : Nat) (μ : Mu) {T : Nat → Nat} {o : Nat} (ho : oK o = 6) (hW : WF T) (hG : GA μ T) (hS : SC μ o T) (h6 : bhS T (sT T + 1) ≤ 6000) (hn : 1000 < n) : X7_indexAt n o (nI (sT T)) μ = some (nI (ixC T (T 2) (sT T) (kT T)), μ) :=
  indexAt_s n μ ho hW.1 hG hW.2.1 hS.1 hS.2 (fun p a b => cT_z hW p (by have := hW.1.2.1; omega) (Or.inl b)) (sT_2 hW) (sT_40 hW) h6 hn
theorem valueAt_s (n : Nat) (μ : Mu) {T : Nat → Nat} {o S : Nat} (ho : oK o = 6) (hW : WF T) (hG : GA μ T) (hS : SC μ o T) (hV : CV μ T S) (hs : sT T < S) (hn : 1000 < n) : X7_valueAt n o μ = some (iv (VL T 41 (T 2) (sT T) (kT T)), μ) := by
  obtain ⟨h6, hx, h1, _⟩ := cv_at hV hs hW.2.1 (kT_lt hW)
  unfold X7_valueAt
  rw [kd_of ho, bS (inP_s n μ ho hS hn)]
  dsimp only
  rw [bS (idx_s n μ ho hW hG hS h6 hn)]
  dsimp only
  rw [gd_n hx (by decide), nI_clamp (by omega), h1]
theorem rankOf_s (n : Nat) (μ : Mu) {T : Nat → Nat} {S sd s k : Nat} (hV : CV μ T S) (hs : s < S) (hsd : sd < 2) (hk : k < Wn (opnN T) s) : X7_rankOf n (nI (ixC T sd s k)) μ = some (nI (RK T 41 sd s k), μ) := by
  obtain ⟨h6, hx, _, h2⟩ := cv_at hV hs hsd hk
  have hS := hV.1
  have hr := RK_lt (T := T) (sd := sd) (s := s) (k := k) (by omega)
  unfold X7_rankOf
  rw [gd_n hx (by decide), nI_clamp (by omega), h2]
  unfold rkC
  by_cases e : enD T sd s k = true
  · rw [if_pos e, if_neg (show ¬ (0 : Int32) < -nI 1 by decide), RK_en (by omega) e]
    rfl
  · rw [if_neg e, i_0, ifLt (by decide) (by omega)]
    by_cases z : 0 < RK T 41 sd s k
    · rw [if_pos z]
    · rw [if_neg z, show RK T 41 sd s k = 0 by omega]
theorem rankAt_s (n : Nat) (μ : Mu) {T : Nat → Nat} {o S : Nat} (ho : oK o = 6) (hW : WF T) (hG : GA μ T) (hS : SC μ o T) (hV : CV μ T S) (hs : sT T < S) (hn : 1000 < n) : X7_rankAt n o μ = some (nI (RK T 41 (T 2) (sT T) (kT T)), μ) := by
  obtain ⟨h6, hx, h1, _⟩ := cv_at hV hs hW.2.1 (kT_lt hW)
  unfold X7_rankAt
  rw [kd_of ho, bS (inP_s n μ ho hS hn)]
  dsimp only
  rw [bS (idx_s n μ ho hW hG hS h6 hn)]
  dsimp only
  rw [bS (rankOf_s n μ hV hs hW.2.1 (kT_lt hW))]
theorem markOf_s (n : Nat) (μ : Mu) {T : Nat → Nat} {o : Nat} (ho : oK o = 6) (hW : WF T) (hG : GA μ T) (hS : SC μ o T) (h6 : bhS T (sT T + 1) ≤ 6000) (hn : 1000 < n) : X7_markOf n o μ = some (nI (2 * (bhS T (sT T) + kT T) + T 2), μ) := by
  have h6' := h6
  rw [bh_s] at h6'
  have h40 := sT_40 hW
  unfold X7_markOf
  rw [kd_of ho, bS (inP_s n μ ho hS hn)]
  dsimp only
  rw [i_1, bS (upTo_1 n μ hW.1 hG (by omega))]
  dsimp only
  have hnb := numberOf_s n μ (T := T) ho hW.1.2.1 hW.2.1 hS.1 hS.2 (GA_sn hG hW.2.1) hG.1.2.2.2.1 hG.2 (fun p a b => cT_z hW p (by have := hW.1.2.1; omega) (Or.inl b)) (by rw [sT_2 hW]; omega) (by rw [sT_2 hW]; omega) hn
  rw [sT_2 hW] at hnb
  rw [bS hnb]
  dsimp only
  rw [hS.1, i_2, Nat.min_eq_right (by omega), nI_add, pk_mul, nI_add]
  rfl
theorem worthOfTried_s (n : Nat) (μ : Mu) {T : Nat → Nat} {o S w g k' : Nat} {st : Bool} (ho : oK o = 6) (ho57 : o < 57 ∨ 68 < o) (hW : WF T) (hG : GA μ T) (hS : SC μ o T) (hV : CV μ T S) (hs : sT T < S) (hA : AF μ T (T 1)) (hw : w < T 1) (hm : mvD T (T 2) (sT T) (kT T) w = some (g, st, k')) (hn : 1000 < n) :
    X7_worthOfTried n o (nI w) μ = some (iv (woX T (sT T) (T 2) (g, st, k')), si μ 15 8 (nI (rkX T (sT T) (T 2) (g, st, k')))) := by
  have hsd := hW.2.1
  have h40 := sT_40 hW
  have b6 := hW.1.2.1
  have hkk := kT_lt hW
  obtain ⟨p1, p2, p3, p4, _⟩ := mvD_p hW hsd h40 hkk hw hm
  rw [can_now hW hw] at p4
  obtain ⟨hf, l, r, t, c', hmv⟩ := can_fs p4
  have hd := mvD_now hW hw p4 hmv
  rw [hm] at hd
  obtain ⟨eg, hd⟩ := Prod.mk.inj (Option.some.inj hd)
  obtain ⟨est, ek⟩ := Prod.mk.inj hd
  have hWm := WF_mv hW hw hf hmv
  have hth : thN T (T 2) l < 2 := thN_lt hsd
  obtain ⟨sc, gn⟩ := hA w hw hf l r t c' hmv
  rw [← eg] at gn
  -- the scene behind the move, as a board of its own
  have r2 : RE T (upT T c' (thN T (T 2) l)) := RE_up
  have esT : sT (upT T c' (thN T (T 2) l)) = sT T - g := by
    obtain ⟨_, _, _, _, l2, r3, t2, c2, q1, q2, q3, q4, q5, q6, q7, q8⟩ := mvD_p hW hsd h40 hkk hw hm
    rcases SB_w (WF_lan hW) (la_SB hW) (show w < laT T (T 2) (sT T) (kT T) 1 from hw) (can_fs (by rw [can_now hW hw]; exact p4)).1 with ⟨_, h2⟩ | ⟨l', k3, t', c1, c3, h1, h2, h3, h4⟩
    · rw [hmv] at h2; exact nomatch h2
    · rw [hmv] at h2
      rw [q1] at h1
      have e3 : c3 = c' := by
        have := Option.some.inj h2
        rw [Prod.mk.injEq, Prod.mk.injEq, Prod.mk.injEq] at this
        exact this.2.2.2.symm
      have e1 : c1 = c2 := by
        have := Option.some.inj h1
        rw [Prod.mk.injEq, Prod.mk.injEq, Prod.mk.injEq] at this
        exact this.2.2.2.symm
      rw [← sT_2 hWm, show upT T c' (thN T (T 2) l) 1 = T 1 from rfl, ← q5]
      exact sum_cg _ (fun x hx => by rw [cT_up (by omega), ← e3, h3 x (by omega), e1])
  have ekT : kT (upT T c' (thN T (T 2) l)) = k' := by
    unfold kT
    rw [nb_re r2, upT_2, nbT_cg hth (fun x hx => cT_up (c := c') (T := T) (th := thN T (T 2) l) (show x < 14 by omega)), ek]
  have hlt : sT T - g < S := by omega
  obtain ⟨h6, hx, v1, v2⟩ := cv_at hV hlt hth p2
  have hi := idx_s n μ (o := 57 + 2 * w) (aft_k w (by omega)) hWm (GA_re r2 hG) sc (by rw [esT, bhS_re r2]; exact h6) hn
  rw [upT_2, esT, ekT, ixC_re r2] at hi
  have hinp := inP_s n μ (o := 57 + 2 * w) (aft_k w (by omega)) sc hn
  rw [esT] at hinp
  have hsc1 : μ.1 (57 + 2 * w) 1 = nI (thN T (T 2) l) := by have := sc.1; rw [upT_2] at this; exact this
  unfold X7_worthOfTried
  rw [kd_of ho, gd_n (by omega) (by decide), nI_clamp (by omega), bS hinp]
  dsimp only
  rw [bS hi]
  dsimp only
  rw [gn]
  have fin : ∀ rk, rk = rkX T (sT T) (T 2) (g, st, k') → X7_worthOfTried_44 n o (nI w) (57 + 2 * w) (nI (ixC T (thN T (T 2) l) (sT T - g) k')) (nI rk) μ = some (iv (woX T (sT T) (T 2) (g, st, k')), si μ 15 8 (nI (rkX T (sT T) (T 2) (g, st, k')))) := by
    intro rk erk
    rw [← erk]
    unfold X7_worthOfTried_44 X7_worthOfTried_85
    rw [kd_of (aft_k w (by omega)), gd_n (by omega) (by decide), si_b (show 57 + 2 * w ≠ 15 by omega), si_b (show o ≠ 15 from fun e => by rw [e] at ho; exact absurd ho (by decide)), hsc1, hS.1, ifEq (by omega) (by omega), gd_n hx (by decide), nI_clamp (by omega), nI_clamp (by omega), si_b (show 8 ≠ 15 by decide), si_b (show 16 ≠ 15 by decide), gn, v1, iv_n, iv_neg, iv_add, iv_add]
    unfold woX woV
    by_cases z : thN T (T 2) l = T 2
    · have hst : st = true := by rw [est, decide_eq_true z]
      have hg : 0 < g := by
        rcases Nat.eq_zero_or_pos g with e | e
        · have := p3 e; rw [hst] at this; exact Bool.noConfusion this
        · exact e
      rw [if_pos z, hst]
      dsimp only
      rw [if_pos hg, if_pos rfl, z]
    · have hst : st = false := by rw [est, decide_eq_false z]
      rw [if_neg z, gd_n hx (by decide), hst]
      dsimp only
      rw [show thN T (T 2) l = 1 - T 2 by omega]
      by_cases hg : 0 < g
      · rw [if_pos hg, if_neg (by decide)]
      · rw [if_neg hg]
        have g0 : (g : Int) = 0 := by omega
        rw [g0, Int.zero_add, show g = 0 by omega, Nat.sub_zero]
  by_cases hg : 0 < g
  · rw [if_neg (nI_nle hg (by omega))]
    rw [i_0]
    exact fin 0 (by unfold rkX; rw [if_pos hg])
  · obtain rfl : g = 0 := by omega
    have hst := p3 rfl
    have eth : thN T (T 2) l = 1 - T 2 := by
      rw [hst] at est
      have := of_decide_eq_false est.symm
      omega
    rw [if_pos (show nI 0 ≤ 0 by decide), bS (rankOf_s n μ hV hlt hth p2)]
    dsimp only
    refine fin _ ?_
    unfold rkX
    dsimp only
    rw [if_neg (by decide), eth, Nat.sub_zero]
theorem AF_15 {μ : Mu} {T : Nat → Nat} {i k : Nat} {v : Int32} (h : AF μ T i) (hi : i ≤ 6) : AF (si μ 15 k v) T i := AF_o h hi (fun o a b => by rw [si_o (by omega)]) (by rw [si_o (by decide)])
/-- what the walk over tried moves keeps -/
def QK (T : Nat → Nat) (o S : Nat) (μ : Mu) : Prop := GA μ T ∧ SC μ o T ∧ CV μ T S ∧ AF μ T (T 1)
theorem QK_15 {μ : Mu} {T : Nat → Nat} {o S : Nat} {v : Int32} (hW : WF T) (ho : 40 < o) (h : QK T o S μ) : QK T o S (si μ 15 8 v) := by
  obtain ⟨a, b, c, d⟩ := h
  have b6 := hW.1.2.1
  exact ⟨GA_o a (fun o a b => by rw [si_o (by omega)]), SC_o b (by rw [si_o (by omega)]) (by rw [si_o (by omega)]), CV_o c (by rw [si_c (by decide)]) (by rw [si_o (by decide)]) (by rw [si_o (by decide)]), AF_15 d (by omega)⟩
theorem bits_s {T : Nat → Nat} {B w : Nat} (cb : CB T B) (hw : w < T 1) : (B / 2 ^ offN (T 1) (T 2)).testBit w = canW T w := by
  rw [← Nat.shiftRight_eq_div_pow, Nat.testBit_shiftRight]
  exact CB_w cb hw
theorem QK_try {μ μ' : Mu} {T : Nat → Nat} {o S : Nat} (ho : OS o) (hG : GA μ T) (hS : SC μ o T) (hV : CV μ T S) (kp : KP RS μ μ') (af : AF μ' T (T 1)) : QK T o S μ' := by
  have n1 : ∀ x, ¬ RS x → μ'.1 x = μ.1 x := kp.1
  obtain ⟨_, o2, o3, o4⟩ := ho
  exact ⟨GA_o hG (fun x a b => n1 x (by unfold RS; omega)), SC_o hS (n1 _ (by unfold RS; omega)) (n1 _ (by unfold RS; omega)), CV_o hV (by rw [n1 15 (by unfold RS; omega)]) (n1 16 (by unfold RS; omega)) (n1 17 (by unfold RS; omega)), af⟩
theorem worthBy_s (n : Nat) (μ : Mu) {T : Nat → Nat} {o S w : Nat} (ho : OS o) (hW : WF T) (hG : GA μ T) (hS : SC μ o T) (hV : CV μ T S) (hs : sT T < S) (hw : w < T 1) (hn : 1000 < n) :
    Ok (X7_worthBy n o (nI (offN (T 1) (T 2) + w)) μ) (fun a _ => (mvD T (T 2) (sT T) (kT T) w = none → a = iv (-1000)) ∧ ∀ x, mvD T (T 2) (sT T) (kT T) w = some x → a = iv (woX T (sT T) (T 2) x)) := by
  have b6 := hW.1.2.1
  have hol := off_le (T 1) (T 2)
  unfold X7_worthBy
  rw [kd_of ho.1]
  refine Ok_b (tryAll_s n μ ho hW hG.1.1 hS hn) ?_
  rintro _ μ1 ⟨kp, af, B, rfl, cb⟩
  dsimp only
  obtain ⟨g1, s1, v1, a1⟩ := QK_try ho hG hS hV kp af
  rw [bS (has_s n μ1 (Nat.lt_trans cb.1 (by decide)) (by omega)), CB_w cb hw]
  dsimp only
  unfold X7_worthBy_40
  cases hc : canW T w with
  | false =>
    rw [if_pos (show b2i false = 0 from rfl), iv_m1000]
    exact Ok_r ⟨fun _ => rfl, fun x e => by rw [mvD_nno hW hw hc] at e; exact nomatch e⟩
  | true =>
    obtain ⟨g, st, k', hm⟩ := mvD_yes (T := T) (sd := T 2) (s := sT T) (k := kT T) (w := w) (by rw [can_now hW hw]; exact hc)
    rw [if_neg (show ¬ b2i true = 0 by decide), s1.1, g1.1.1.1.1, pk_mul, mul_off hW.2.1, pk_sub (by omega), Nat.add_sub_cancel_left, bS (worthOfTried_s n μ1 ho.1 ho.2.2.2 hW g1 s1 v1 hs a1 hw hm hn)]
    refine Ok_r ⟨fun e => ?_, fun x e => ?_⟩
    · rw [hm] at e; exact nomatch e
    · rw [hm] at e; rw [← Option.some.inj e]
theorem bestAt_s (n : Nat) (μ : Mu) {T : Nat → Nat} {o S : Nat} (ho : OS o) (hW : WF T) (hG : GA μ T) (hS : SC μ o T) (hV : CV μ T S) (hs : sT T < S) (hn : 1000 < n) :
    Ok (X7_bestAt n o μ) (fun a _ => a = bsI T (T 2) (sT T) (kT T) (offN (T 1) (T 2))) := by
  have b6 := hW.1.2.1
  have hS41 := hV.1
  have hol := off_le (T 1) (T 2)
  have vb := VL_b hW 41 (by omega) (T 2) (sT T) (kT T) hW.2.1 (by have := sT_40 hW; omega) (kT_lt hW)
  have h40 := sT_40 hW
  unfold X7_bestAt
  rw [kd_of ho.1, bS (valueAt_s n μ ho.1 hW hG hS hV hs hn)]
  dsimp only
  refine Ok_b (tryAll_s n μ ho hW hG.1.1 hS hn) ?_
  rintro _ μ1 ⟨kp, af, B, rfl, cb⟩
  dsimp only
  have qk := QK_try ho hG hS hV kp af
  have hBl : B / 2 ^ offN (T 1) (T 2) < 2 ^ 31 := Nat.lt_of_le_of_lt (Nat.div_le_self _ _) (Nat.lt_trans cb.1 (by decide))
  rw [hS.1, hG.1.1.1.1, pk_mul, mul_off hW.2.1, pk_ushrN (Nat.lt_trans cb.1 (by decide)) _ (offN (T 1) (T 2)) (ush_l _ (by omega))]
  unfold X7_bestAt_40
  rw [i_0, i_1]
  refine Ok_lp6 (fun f x2 x3 x4 x5 x6 x7 μ' => ∃ i, i ≤ T 1 ∧ f = T 1 - i ∧ x2 = iv (VL T 41 (T 2) (sT T) (kT T)) ∧ x3 = nI (offN (T 1) (T 2)) ∧ x4 = nI (B / 2 ^ offN (T 1) (T 2)) ∧ x7 = nI i ∧ QK T o S μ' ∧ ((bsF T (T 2) (sT T) (kT T) i = none ∧ x5 = -nI 1) ∨ ∃ y, bsF T (T 2) (sT T) (kT T) i = some y ∧ x5 = nI (offN (T 1) (T 2) + y.1) ∧ x6 = nI y.2)) ?_ (T 1) (by omega) ⟨0, by omega, rfl, rfl, rfl, rfl, rfl, qk, Or.inl ⟨rfl, rfl⟩⟩
  rintro K f x2 x3 x4 x5 x6 x7 μ2 ⟨i, hi, rfl, rfl, rfl, rfl, rfl, qk2, hor⟩ hK
  obtain ⟨g2, s2, v2, a2⟩ := id qk2
  unfold X7_bestAt_40b X7_bestAt_88 X7_bestAt_100
  rw [g2.1.1.1.1, ifLe (by omega) (by omega)]
  by_cases c : T 1 ≤ i
  · obtain rfl : i = T 1 := by omega
    rw [if_pos c]
    refine Ok_r ?_
    unfold bsI
    rcases hor with ⟨e, rfl⟩ | ⟨y, e, rfl, _⟩
    · rw [e]
    · rw [e]
  · have hi2 : i < T 1 := by omega
    rw [if_neg c, bS (has_s n μ2 hBl (by omega)), bits_s cb hi2]
    dsimp only
    rw [i_1, nI_add]
    cases hc : canW T i with
    | false =>
      rw [if_pos (show b2i false = 0 from rfl)]
      refine hK (T 1 - (i + 1)) _ _ _ _ _ _ _ (by omega) ⟨i + 1, by omega, rfl, rfl, rfl, rfl, rfl, qk2, ?_⟩
      rw [(bs_no (mvD_nno hW hi2 hc)).1]
      exact hor
    | true =>
      obtain ⟨g, st, k', hm⟩ := mvD_yes (T := T) (sd := T 2) (s := sT T) (k := kT T) (w := i) (by rw [can_now hW hi2]; exact hc)
      have wb : -80 ≤ woX T (sT T) (T 2) (g, st, k') ∧ woX T (sT T) (T 2) (g, st, k') ≤ 80 := by
        obtain ⟨p1, p2, p3, _⟩ := mvD_p hW hW.2.1 h40 (kT_lt hW) hi2 hm
        have q1 := VL_b hW 41 (by omega) (T 2) (sT T - g) k' hW.2.1 (by omega) p2
        have q2 := VL_b hW 41 (by omega) (1 - T 2) (sT T - g) k' (by omega) (by omega) p2
        unfold woX woV
        dsimp only
        by_cases hg : 0 < g
        · rw [if_pos hg]; split <;> omega
        · rw [if_neg hg]
          rw [show sT T - g = sT T by omega] at q2
          omega
      have hr := rkX_lt (T := T) (s := sT T) (sd := T 2) (x := (g, st, k')) (by omega)
      rw [if_neg (show ¬ b2i true = 0 by decide), bS (worthOfTried_s n μ2 ho.1 ho.2.2.2 hW g2 s2 v2 hs a2 hi2 hm hn)]
      dsimp only
      rw [ifIff (iv_eq (by omega) (by omega) (by omega) (by omega)), si_a, nI_add]
      have qk3 := QK_15 (v := nI (rkX T (sT T) (T 2) (g, st, k'))) hW ho.2.1 qk2
      by_cases z : woX T (sT T) (T 2) (g, st, k') = VL T 41 (T 2) (sT T) (kT T)
      · rw [if_pos z]
        rcases hor with ⟨e, rfl⟩ | ⟨y, e, rfl, rfl⟩
        · rw [if_pos rfl]
          exact hK (T 1 - (i + 1)) _ _ _ _ _ _ _ (by omega) ⟨i + 1, by omega, rfl, rfl, rfl, rfl, rfl, qk3, Or.inr ⟨_, bs_e0 hm z e, rfl, rfl⟩⟩
        · obtain ⟨b1, x', _, b3⟩ := bs_lt i y e
          have hr2 := rkX_lt (T := T) (s := sT T) (sd := T 2) (x := x') (by omega)
          rw [if_neg (fun q => (eq_m1 (by omega)).mp q), ifLe (by omega) (by omega)]
          by_cases z2 : y.2 ≤ rkX T (sT T) (T 2) (g, st, k')
          · rw [if_pos z2]
            exact hK (T 1 - (i + 1)) _ _ _ _ _ _ _ (by omega) ⟨i + 1, by omega, rfl, rfl, rfl, rfl, rfl, qk3, Or.inr ⟨y, by rw [bs_e1 hm z e, if_neg (by omega)], rfl, rfl⟩⟩
          · rw [if_neg z2]
            exact hK (T 1 - (i + 1)) _ _ _ _ _ _ _ (by omega) ⟨i + 1, by omega, rfl, rfl, rfl, rfl, rfl, qk3, Or.inr ⟨_, by rw [bs_e1 hm z e, if_pos (by omega)], rfl, rfl⟩⟩
      · rw [if_neg z]
        refine hK (T 1 - (i + 1)) _ _ _ _ _ _ _ (by omega) ⟨i + 1, by omega, rfl, rfl, rfl, rfl, rfl, qk3, ?_⟩
        rw [(bs_ne hm z).1]
        exact hor
theorem wo_b {T : Nat → Nat} (hW : WF T) {sd s k i : Nat} {x : Nat × Bool × Nat} (hsd : sd < 2) (h40 : s ≤ 40) (hk : k < Wn (opnN T) s) (hi : i < T 1) (hm : mvD T sd s k i = some x) : -80 ≤ woX T s sd x ∧ woX T s sd x ≤ 80 := by
  obtain ⟨g, st, k'⟩ := x
  obtain ⟨p1, p2, p3, _⟩ := mvD_p hW hsd h40 hk hi hm
  have q1 := VL_b hW 41 (by omega) sd (s - g) k' hsd (by omega) p2
  have q2 := VL_b hW 41 (by omega) (1 - sd) (s - g) k' (by omega) (by omega) p2
  unfold woX woV
  dsimp only
  by_cases hg : 0 < g
  · rw [if_pos hg]; split <;> omega
  · rw [if_neg hg]
    rw [show s - g = s by omega] at q2
    omega
theorem manyBest_s (n : Nat) (μ : Mu) {T : Nat → Nat} {o S : Nat} (ho : OS o) (hW : WF T) (hG : GA μ T) (hS : SC μ o T) (hV : CV μ T S) (hs : sT T < S) (hn : 1000 < n) :
    Ok (X7_manyBest n o μ) (fun a _ => a = nI (mbF T (T 2) (sT T) (kT T) (T 1))) := by
  have b6 := hW.1.2.1
  have hS41 := hV.1
  have hol := off_le (T 1) (T 2)
  have h40 := sT_40 hW
  have vb := VL_b hW 41 (by omega) (T 2) (sT T) (kT T) hW.2.1 (by omega) (kT_lt hW)
  unfold X7_manyBest
  rw [kd_of ho.1, bS (valueAt_s n μ ho.1 hW hG hS hV hs hn)]
  dsimp only
  refine Ok_b (tryAll_s n μ ho hW hG.1.1 hS hn) ?_
  rintro _ μ1 ⟨kp, af, B, rfl, cb⟩
  dsimp only
  have qk := QK_try ho hG hS hV kp af
  have hBl : B / 2 ^ offN (T 1) (T 2) < 2 ^ 31 := Nat.lt_of_le_of_lt (Nat.div_le_self _ _) (Nat.lt_trans cb.1 (by decide))
  rw [qk.2.1.1, qk.1.1.1.1.1, pk_mul, mul_off hW.2.1, pk_ushrN (Nat.lt_trans cb.1 (by decide)) _ (offN (T 1) (T 2)) (ush_l _ (by omega))]
  unfold X7_manyBest_34
  rw [i_0]
  refine Ok_lp4 (fun f x2 x3 x4 x5 μ' => ∃ i, i ≤ T 1 ∧ f = T 1 - i ∧ x2 = iv (VL T 41 (T 2) (sT T) (kT T)) ∧ x3 = nI (B / 2 ^ offN (T 1) (T 2)) ∧ x4 = nI (mbF T (T 2) (sT T) (kT T) i) ∧ x5 = nI i ∧ QK T o S μ') ?_ (T 1) (by omega) ⟨0, by omega, rfl, rfl, rfl, rfl, rfl, qk⟩
  rintro K f x2 x3 x4 x5 μ2 ⟨i, hi, rfl, rfl, rfl, rfl, rfl, qk2⟩ hK
  obtain ⟨g2, s2, v2, a2⟩ := id qk2
  unfold X7_manyBest_34b X7_manyBest_69
  rw [g2.1.1.1.1, ifLe (by omega) (by omega)]
  by_cases c : T 1 ≤ i
  · obtain rfl : i = T 1 := by omega
    rw [if_pos c]
    exact Ok_r rfl
  · have hi2 : i < T 1 := by omega
    rw [if_neg c, bS (has_s n μ2 hBl (by omega)), bits_s cb hi2]
    dsimp only
    rw [i_1, nI_add]
    cases hc : canW T i with
    | false =>
      rw [if_pos (show b2i false = 0 from rfl)]
      exact hK (T 1 - (i + 1)) _ _ _ _ _ (by omega) ⟨i + 1, by omega, rfl, rfl, rfl, by rw [(bs_no (mvD_nno hW hi2 hc)).2.1], rfl, qk2⟩
    | true =>
      obtain ⟨g, st, k', hm⟩ := mvD_yes (T := T) (sd := T 2) (s := sT T) (k := kT T) (w := i) (by rw [can_now hW hi2]; exact hc)
      have wb := wo_b hW hW.2.1 h40 (kT_lt hW) hi2 hm
      rw [if_neg (show ¬ b2i true = 0 by decide), bS (worthOfTried_s n μ2 ho.1 ho.2.2.2 hW g2 s2 v2 hs a2 hi2 hm hn)]
      dsimp only
      rw [ifIff (iv_eq (by omega) (by omega) (by omega) (by omega)), nI_add]
      have qk3 := QK_15 (v := nI (rkX T (sT T) (T 2) (g, st, k'))) hW ho.2.1 qk2
      by_cases z : woX T (sT T) (T 2) (g, st, k') = VL T 41 (T 2) (sT T) (kT T)
      · rw [if_pos z]
        exact hK (T 1 - (i + 1)) _ _ _ _ _ (by omega) ⟨i + 1, by omega, rfl, rfl, rfl, by rw [mb_e hm z], rfl, qk3⟩
      · rw [if_neg z]
        exact hK (T 1 - (i + 1)) _ _ _ _ _ (by omega) ⟨i + 1, by omega, rfl, rfl, rfl, by rw [(bs_ne hm z).2], rfl, qk3⟩
