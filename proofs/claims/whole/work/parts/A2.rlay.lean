/-! the reference lays the moves of all positions of one number of seeds -/
def bhS (T : Nat → Nat) (s : Nat) : Nat := sumF (Wn (opnN T)) s
def xS (T : Nat → Nat) (sd s k : Nat) : Nat := 6000 * sd + bhS T s + k
theorem bh_mo {T : Nat → Nat} {s s' : Nat} (h : s ≤ s') : bhS T s ≤ bhS T s' := sum_mo _ h
theorem bh_s {T : Nat → Nat} {s : Nat} : bhS T (s + 1) = bhS T s + Wn (opnN T) s := rfl
/-- stores as they are, pits as they are laid -/
def trT (T : Nat → Nat) (sd s k : Nat) : Nat → Nat := fun x => if x = 2 then sd else if 13 ≤ x ∧ x < 25 then laC T sd s k (x - 13) else T x
theorem tr_SB {T : Nat → Nat} {sd s k : Nat} : SB (laT T sd s k) (trT T sd s k) := by
  refine ⟨fun x a b => ?_, rfl, fun p hp => ?_⟩
  · rw [la_re x a b]
    unfold trT
    rw [if_neg b, if_neg (by omega)]
  · rw [la_ct (by omega)]
    unfold cT trT
    rw [if_pos hp, if_neg (by omega), if_pos (by omega), Nat.add_sub_cancel_left]
theorem tr_re {T : Nat → Nat} {sd s k : Nat} : RE T (trT T sd s k) := by
  intro x a b
  unfold trT
  rw [if_neg b, if_neg (by omega)]
theorem WF_tr {T : Nat → Nat} {sd s k : Nat} (hW : WF T) (h11 : T 11 ≤ 139) (h12 : T 12 ≤ 139) (hs : sd < 2) (h40 : s ≤ 40) (hk : k < Wn (opnN T) s) : WF (trT T sd s k) := by
  have b6 := hW.1.2.1
  obtain ⟨l1, l2⟩ := laC_p hs hk
  have e0 : ∀ x, (1 ≤ x ∧ x < 11) → x ≠ 2 → trT T sd s k x = T x := tr_re
  have ec : sumF (cT (trT T sd s k)) 12 = s := by
    rw [sum_cg 12 (fun x hx => (tr_SB (T := T) (sd := sd) (s := s) (k := k)).2.2 x hx), sum_cg 12 (fun x hx => la_ct (by omega)), sum_12 b6 (fun x hx _ => l2 x (Or.inl hx)), l1]
  have e11 : trT T sd s k 11 = T 11 := rfl
  have e12 : trT T sd s k 12 = T 12 := rfl
  refine ⟨?_, hs, ?_, by omega, by omega, by omega, fun p hp hq => ?_⟩
  · unfold BD
    rw [e0 1 (by decide) (by decide), e0 3 (by decide) (by decide), e0 4 (by decide) (by decide), e0 5 (by decide) (by decide), e0 6 (by decide) (by decide), e0 7 (by decide) (by decide), e0 8 (by decide) (by decide), e0 9 (by decide) (by decide), e0 10 (by decide) (by decide)]
    exact hW.1
  · rw [e0 1 (by decide) (by decide), e0 3 (by decide) (by decide)]; exact hW.2.2.1
  · rw [e0 1 (by decide) (by decide), e0 3 (by decide) (by decide)] at hq
    unfold trT
    rw [if_neg (by omega), if_pos (by omega), Nat.add_sub_cancel_left]
    exact l2 p (hq.elim Or.inr Or.inl)
theorem seat_s (n : Nat) (μ : Mu) {T : Nat → Nat} {sd s k : Nat} (hb : μ.1 189 s = nI (bhS T s)) (hs : s < 42) : X12_seat n (nI sd) (nI s) (nI k) μ = some (nI (xS T sd s k), μ) := by
  unfold X12_seat
  rw [gd_n hs (by decide), nI_clamp (by omega), hb, i_6000, pk_mul, nI_add, nI_add]
  rfl
/-- what the reference keeps of one move -/
def MD (μ : Mu) (T : Nat → Nat) (sd s k w : Nat) : Prop := (mvD T sd s k w = none → μ.1 187 (6 * xS T sd s k + w) = -nI 1) ∧ (∀ g st k', mvD T sd s k w = some (g, st, k') → μ.1 187 (6 * xS T sd s k + w) = nI (xS T (if st = true then sd else 1 - sd) (s - g) k') ∧ μ.1 188 (6 * xS T sd s k + w) = nI g)
def KLM (y : Nat) (μ μ' : Mu) : Prop := (∀ o, o ≠ 171 → o ≠ 178 → o ≠ 183 → o ≠ 187 → o ≠ 188 → μ'.1 o = μ.1 o) ∧ μ'.2 = μ.2 ∧ (∀ k, (k < 18 ∨ 23 < k) → k ≠ 31 → μ'.1 171 k = μ.1 171 k) ∧ (∀ x, x ≠ y → μ'.1 187 x = μ.1 187 x ∧ μ'.1 188 x = μ.1 188 x)
theorem laysMove_s (n : Nat) (μ : Mu) {T : Nat → Nat} {sd s k w : Nat} (hW : WF T) (h11 : T 11 ≤ 139) (h12 : T 12 ≤ 139) (hs : sd < 2) (h40 : s ≤ 40) (hk : k < Wn (opnN T) s) (hT : TD μ (trT T sd s k)) (hb : ∀ t, t ≤ s → μ.1 189 t = nI (bhS T t)) (hx : xS T sd s k < 12000) (hw : w < T 1) (hn : 1000 < n) :
    Ok (X12_laysMove n (nI (xS T sd s k)) (nI sd) (nI s) (nI w) μ) (fun _ μ' => MD μ' T sd s k w ∧ KLM (6 * xS T sd s k + w) μ μ') := by
  have hWr := WF_tr hW h11 h12 hs h40 hk
  have hWl := WF_la hW hs h40 hk
  have b6 := hW.1.2.1
  have e1 : trT T sd s k 1 = T 1 := tr_re 1 (by decide) (by decide)
  have e1l : laT T sd s k 1 = T 1 := la_re 1 (by decide) (by decide)
  have e2 : trT T sd s k 2 = sd := rfl
  have hoff := off_le (T 1) sd
  have L16 : Ok (X12_laysMove_16 n (nI (xS T sd s k)) (nI sd) (nI s) (nI w) (nI w) (nI (offN (T 1) sd)) μ) (fun _ μ' => MD μ' T sd s k w ∧ KLM (6 * xS T sd s k + w) μ μ') := by
    unfold X12_laysMove_16
    rw [i_6, pk_mul, nI_add, gd_n (by omega) (by decide), nI_clamp (by omega), nI_add, Nat.add_comm w, i_1]
    have hT1 : TD (si μ 187 (6 * xS T sd s k + w) (-nI 1)) (trT T sd s k) := TD_o hT (si_o (by decide))
    have hwhy := whyNot_w n (si μ 187 (6 * xS T sd s k + w) (-nI 1)) (w := w) hWr hT1 hn (by rw [e1]; exact hw)
    rw [e1, e2] at hwhy
    refine Ok_b hwhy ?_
    rintro a μ2 ⟨k2, rfl⟩
    dsimp only
    have hT2 := KR_TD k2 hT1
    have hcan : canW (trT T sd s k) w = canW (laT T sd s k) w := SB_c hWl tr_SB (by rw [e1l]; exact hw)
    have hlt : whyW (trT T sd s k) w < 6 := by unfold whyW; split <;> (try split) <;> (try split) <;> (try split) <;> (try split) <;> omega
    rw [i_0, ifEq (by omega) (by decide)]
    have hkl : KLM (6 * xS T sd s k + w) μ μ2 := ⟨fun o o1 o2 o3 o4 o5 => by rw [k2.1 o o1 o2, si_o o4], k2.2.1, fun k h1 h2 => by rw [k2.2.2 k h1, si_b (by decide)], fun x hx => ⟨by rw [k2.1 187 (by decide) (by decide), si_c hx], by rw [k2.1 188 (by decide) (by decide), si_b (by decide)]⟩⟩
    by_cases q : whyW (trT T sd s k) w = 0
    · rw [if_pos q]
      have hc := (why_0 (T := trT T sd s k) (by rw [e1]; exact hw)).mp q
      rw [hcan] at hc
      obtain ⟨hf, -⟩ := can_fs hc
      have hfr : fulW (trT T sd s k) w = true := by rw [SB_f hWl tr_SB (by rw [e1l]; exact hw)]; exact hf
      rcases SB_w hWl tr_SB (by rw [e1l]; exact hw) hf with ⟨h1, -⟩ | ⟨l, r, t, c1, c3, h1, h2, h3, h4⟩
      · obtain ⟨-, l, r, t, c', hm⟩ := can_fs hc
        rw [h1] at hm
        exact nomatch hm
      · have hmd : mvD T sd s k w = some (c1 (12 + sd), decide (thN T sd l = sd), nbT T c1 (thN T sd l)) := by
          unfold mvD
          rw [hc, if_pos rfl, h1]
          rfl
        obtain ⟨p1, p2, p3, -, l', r', t', c1', hm', pg, pst, pk, psum, pz, pb, pl⟩ := mvD_p hW hs h40 hk hw hmd
        rw [h1] at hm'
        injection hm' with hm'
        injection hm' with i1 hm'
        injection hm' with i2 hm'
        injection hm' with i3 i4
        subst i1 i2 i3 i4
        have hth : thN T sd l < 2 := thN_lt hs
        have e2l : laT T sd s k 2 = sd := rfl
        have z0 : cT (laT T sd s k) (12 + sd) = 0 := by rw [la_ct (by omega)]; exact (laC_p hs hk).2 _ (Or.inl (by omega))
        rw [e2l, z0, Nat.sub_zero] at h4
        have htr := tries_s n μ2 (w := w) hWr hT2 (by rw [e1]; exact hw) hfr hn
        rw [e1, e2, cI_own2 hw] at htr
        refine Ok_b htr ?_
        rintro _ μ3 ⟨k3, -, -, s3⟩
        dsimp only
        obtain ⟨g1, g2, g3, g4, g5, g6, g7⟩ := s3 l r t c3 h2
        rw [h4] at g5
        rw [thN_re tr_re] at g6
        have hT3 := KR_TD k3 hT2
        have es : sumF c3 (2 * T 1) = s - c1 (12 + sd) := by rw [sum_cg (2 * T 1) (fun p hp => h3 p (by omega)), psum]
        rw [g6, g5]
        have hnum := numberOfR_s n μ3 (T := trT T sd s k) (c := c3) hWr.1 hT3 hth g7 (fun p hp hl => by
          rw [e1] at hp
          rw [h3 p (by omega)]
          rw [tr_re 3 (by decide) (by decide)] at hl
          exact pz p hp hl) (by rw [e1, es]; omega) hn
        refine Ok_b hnum ?_
        rintro a μ4 ⟨rfl, k4⟩
        dsimp only
        have enb : nbT (trT T sd s k) c3 (thN T sd l) = nbT T c1 (thN T sd l) := by
          rw [nb_re tr_re]
          unfold nbT
          rw [sum_cg (2 * T 1) (fun p hp => h3 p (by omega))]
          exact nb_cg _ _ (Nat.le_refl _) (fun j hj => h3 _ (by have := (sq_lt (T := T) hth hj).1; omega))
        have hb4 : μ4.1 189 (s - c1 (12 + sd)) = nI (bhS T (s - c1 (12 + sd))) := by
          rw [k4.1 189 (by decide) (by decide), k3.1 189 (by decide) (by decide), k2.1 189 (by decide) (by decide), si_b (by decide)]
          exact hb _ (by omega)
        rw [pk_sub p1, bS (seat_s n μ4 hb4 (by omega)), enb]
        dsimp only
        have e21 : μ4.1 171 21 = nI (c1 (12 + sd)) := by rw [k4.2.2 21 (by decide), g5]
        rw [si_b (by decide), e21]
        have est : (if decide (thN T sd l = sd) = true then sd else 1 - sd) = thN T sd l := by
          by_cases z : thN T sd l = sd
          · rw [decide_eq_true z, if_pos rfl, z]
          · rw [decide_eq_false z, if_neg (by decide)]; omega
        refine Ok_r ⟨⟨fun z => absurd (hmd.symm.trans z) (by simp), fun g st k' z => ?_⟩, ?_⟩
        · rw [hmd] at z
          injection z with z
          injection z with z1 z
          injection z with z2 z3
          subst z1 z2 z3
          rw [est]
          exact ⟨by rw [si_b (by decide), si_a], si_a⟩
        · refine ⟨fun o o1 o2 o3 o4 o5 => ?_, ?_, fun k h1 h2 => ?_, fun x hx => ⟨?_, ?_⟩⟩
          · rw [si_o o5, si_o o4, k4.1 o o1 o3, k3.1 o o1 o2, hkl.1 o o1 o2 o3 o4 o5]
          · rw [si_d, si_d, k4.2.1, k3.2.1, hkl.2.1]
          · rw [si_b (by decide), si_b (by decide), k4.2.2 k h2, k3.2.2 k h1, hkl.2.2.1 k h1 h2]
          · rw [si_b (by decide), si_c hx, k4.1 187 (by decide) (by decide), k3.1 187 (by decide) (by decide), (hkl.2.2.2 x hx).1]
          · rw [si_c hx, si_b (by decide), k4.1 188 (by decide) (by decide), k3.1 188 (by decide) (by decide), (hkl.2.2.2 x hx).2]
    · rw [if_neg q]
      have hno : mvD T sd s k w = none := by
        unfold mvD
        cases hc : canW (laT T sd s k) w with
        | false => rfl
        | true =>
          rw [hc] at hcan
          exact absurd ((why_0 (T := trT T sd s k) (by rw [e1]; exact hw)).mpr hcan) q
      refine Ok_r ⟨⟨fun _ => by rw [k2.1 187 (by decide) (by decide), si_a], fun g st k' z => ?_⟩, hkl⟩
      rw [hno] at z
      exact nomatch z
  unfold X12_laysMove
  have t1 : μ.1 172 1 = nI (T 1) := by rw [hT 1 (by decide), e1]
  rw [i_0, ifEq (by omega) (by decide), t1]
  by_cases c : sd = 0
  · rw [if_pos c]
    rw [show nI 0 = nI (offN (T 1) sd) by rw [c]; rfl]
    exact L16
  · rw [if_neg c]
    have : offN (T 1) sd = T 1 := by unfold offN; rw [if_neg c]
    rw [this] at L16
    exact L16
