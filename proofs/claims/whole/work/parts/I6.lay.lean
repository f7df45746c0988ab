/-! a line that lays seeds -/
def BC (μ : Mu) (T : Nat → Nat) : Prop := RUL μ 13 T ∧ SC μ 149 T
def BR (μ : Mu) (T : Nat → Nat) : Prop := ∀ k, k < 25 → μ.1 173 k = nI (T k)
theorem RUL_cg {μ : Mu} {o : Nat} {T T' : Nat → Nat} (h : RUL μ o T) (e : ∀ k, k < 11 → k ≠ 2 → T' k = T k) : RUL μ o T' := by
  unfold RUL tkC
  rw [e 0 (by decide) (by decide), e 1 (by decide) (by decide), e 3 (by decide) (by decide), e 4 (by decide) (by decide), e 5 (by decide) (by decide), e 6 (by decide) (by decide), e 7 (by decide) (by decide), e 8 (by decide) (by decide), e 9 (by decide) (by decide), e 10 (by decide) (by decide)]
  exact h
theorem BC_o {μ μ' : Mu} {T : Nat → Nat} (h : BC μ T) (e1 : μ'.1 13 = μ.1 13) (e2 : μ'.1 149 = μ.1 149) (e3 : μ'.1 150 = μ.1 150) : BC μ' T := ⟨RUL_o h.1 e1, SC_o h.2 e2 e3⟩
theorem BC_kc {μ μ' : Mu} {T : Nat → Nat} (h : BC μ T) (k : KC μ μ') : BC μ' T := BC_o h (k.1 13 (by decide)) (k.1 149 (by decide)) (k.1 150 (by decide))
theorem BR_ky {μ μ' : Mu} {T : Nat → Nat} (h : BR μ T) (k : KY2 μ μ') : BR μ' T := fun j hj => by rw [k.1 173 (by decide)]; exact h j hj
theorem BC_lay {μ : Mu} {T : Nat → Nat} {i v : Nat} (hi : i < 12) (h : BC μ T) : BC (si μ 150 i (nI v)) (ups T (13 + i) v) := by
  refine ⟨RUL_cg (RUL_o h.1 (by rw [si_o (by decide)])) (fun k hk _ => ups_b (by omega)), ?_, fun k hk => ?_⟩
  · rw [si_b (by decide), ups_b (by omega)]; exact h.2.1
  · have h2 := h.2.2 k hk
    have h2' : μ.1 150 k = nI (cT T k) := h2
    show (si μ 150 i (nI v)).1 150 k = nI (cT (ups T (13 + i) v) k)
    unfold cT
    unfold cT at h2'
    by_cases z : k < 12
    · rw [if_pos z]
      rw [if_pos z] at h2'
      by_cases e : k = i
      · rw [e, si_a, ups_a]
      · rw [si_c e, ups_b (by omega)]; exact h2'
    · rw [if_neg z]
      rw [if_neg z] at h2'
      rw [si_c (by omega), ups_b (by omega)]; exact h2'
theorem BR_set {μ : Mu} {T : Nat → Nat} {i v : Nat} (h : BR μ T) : BR (si μ 173 i (nI v)) (ups T i v) := fun k hk => by
  by_cases e : k = i
  · rw [e, si_a, ups_a]
  · rw [si_c e, ups_b e]; exact h k hk
theorem OKC_o {μ μ' : Mu} {b : Nat → Nat} {m p : Nat} (h : OKC μ b m p) (e1 : μ'.1 12 = μ.1 12) (e2 : μ'.1 14 = μ.1 14) : OKC μ' b m p := by
  unfold OKC TXC TKC
  rw [e1, e2]
  exact h
theorem OKR_o {μ μ' : Mu} {b : Nat → Nat} {m p : Nat} (h : OKR μ b m p) (e1 : μ'.1 171 = μ.1 171) (e2 : μ'.1 177 = μ.1 177) : OKR μ' b m p := by
  unfold OKR TXR TKR
  rw [e1, e2]
  exact h
def lyF (b : Nat → Nat) (m : Nat) : Nat → Nat → (Nat → Nat) → Nat → (Nat × Nat) ⊕ ((Nat → Nat) × Nat)
  | 0, _, _, p => .inl (2, p)
  | c + 1, i, T, p => match nuF b m p 0 20 with
    | .inl f => .inl f
    | .inr r => if i < 2 * T 1 then (if tK b m r.2 = 2 then lyF b m c (i + 1) (ups T (13 + i) r.1) r.2 else .inr (ups T (13 + i) r.1, r.2)) else .inl (4, tS b m p)
theorem ly_l {b : Nat → Nat} {m c i p : Nat} {T : Nat → Nat} {f : Nat × Nat} (h : nuF b m p 0 20 = .inl f) : lyF b m (c + 1) i T p = .inl f := by rw [lyF, h]
theorem ly_r {b : Nat → Nat} {m c i p : Nat} {T : Nat → Nat} {r : Nat × Nat} (h : nuF b m p 0 20 = .inr r) : lyF b m (c + 1) i T p = if i < 2 * T 1 then (if tK b m r.2 = 2 then lyF b m c (i + 1) (ups T (13 + i) r.1) r.2 else .inr (ups T (13 + i) r.1, r.2)) else .inl (4, tS b m p) := by rw [lyF, h]
/-- what a piece of the class's reading comes to -/
def PSC (b : Nat → Nat) (m : Nat) (x : (Nat × Nat) ⊕ ((Nat → Nat) × Nat)) (μ : Mu) : Prop := (∀ f, x = .inl f → FTC μ f.1 f.2) ∧ ∀ r, x = .inr r → OKC μ b m r.2 ∧ BC μ r.1
def PSR (b : Nat → Nat) (m : Nat) (x : (Nat × Nat) ⊕ ((Nat → Nat) × Nat)) (μ : Mu) : Prop := (∀ f, x = .inl f → FTR μ f.1 f.2) ∧ ∀ r, x = .inr r → OKR μ b m r.2 ∧ BR μ r.1
theorem psc_l {b : Nat → Nat} {m : Nat} {f : Nat × Nat} {μ : Mu} (h : FTC μ f.1 f.2) : PSC b m (.inl f) μ := ⟨fun f' e => by rw [← Sum.inl.inj e]; exact h, fun r e => (nomatch e)⟩
theorem psc_r {b : Nat → Nat} {m p : Nat} {T : Nat → Nat} {μ : Mu} (h : OKC μ b m p) (g : BC μ T) : PSC b m (.inr (T, p)) μ := ⟨fun f e => (nomatch e), fun r e => by rw [← Sum.inr.inj e]; exact ⟨h, g⟩⟩
theorem psr_l {b : Nat → Nat} {m : Nat} {f : Nat × Nat} {μ : Mu} (h : FTR μ f.1 f.2) : PSR b m (.inl f) μ := ⟨fun f' e => by rw [← Sum.inl.inj e]; exact h, fun r e => (nomatch e)⟩
theorem psr_r {b : Nat → Nat} {m p : Nat} {T : Nat → Nat} {μ : Mu} (h : OKR μ b m p) (g : BR μ T) : PSR b m (.inr (T, p)) μ := ⟨fun f e => (nomatch e), fun r e => by rw [← Sum.inr.inj e]; exact ⟨h, g⟩⟩
theorem layC_s (n : Nat) (μ : Mu) {b : Nat → Nat} {m p : Nat} {T : Nat → Nat} (h : OKC μ b m p) (hT : BC μ T) (h1 : T 1 ≤ 6) (hn : 1000 < n) : Ok (X4_readSeeds_6 n 0 μ) (fun _ μ' => PSC b m (lyF b m 13 0 T p) μ') := by
  unfold X4_readSeeds_6
  rw [i_0]
  refine Ok_lp1 (fun f x1 μ' => ∃ i T' p', i ≤ 12 ∧ f = 12 - i ∧ x1 = nI i ∧ T' 1 = T 1 ∧ OKC μ' b m p' ∧ BC μ' T' ∧ lyF b m (13 - i) i T' p' = lyF b m 13 0 T p) ?_ 12 (by omega) ⟨0, T, p, by omega, rfl, rfl, rfl, h, hT, rfl⟩
  rintro K f x1 μ1 ⟨i, T', p', hi, rfl, rfl, e1, o1, t1, hl⟩ hK
  obtain ⟨c', hc'⟩ : ∃ c', 13 - i = c' + 1 := ⟨13 - i - 1, by omega⟩
  rw [hc'] at hl
  unfold X4_readSeeds_6b
  rw [i_20, show (0 : Int32) = nI 0 from rfl]
  refine Ok_b (chkC_s n μ1 o1 (a := 0) (c := 20) (by decide) (by decide)) ?_
  rintro v μ2 ⟨k2, f2, g2⟩
  dsimp only
  have flt : ∀ μ3 f, FTC μ3 f.1 f.2 → lyF b m 13 0 T p = .inl f → Ok (X4_readSeeds_39 n K (nI i) v μ3) (fun _ μ' => PSC b m (lyF b m 13 0 T p) μ') := by
    intro μ3 f f3 e
    unfold X4_readSeeds_39
    rw [if_neg (FTC_nz f3), e]
    exact Ok_r (psc_l f3)
  cases e : nuF b m p' 0 20 with
  | inl f =>
    have f3 := f2 f e
    rw [ly_l e] at hl
    rw [if_neg (show ¬ μ2.1 12 2 = nI 0 from FTC_nz f3)]
    exact flt μ2 f f3 hl.symm
  | inr r =>
    obtain ⟨rfl, rfl, t2, er, b1, b2⟩ := g2 r e
    rw [ly_r e] at hl
    have z0 := (o1.2.2.2.1 (by omega)).1
    rw [if_pos (show μ2.1 12 2 = nI 0 from z0), t1.1.2.1, i_2, pk_mul, ifLt (by omega) (by omega)]
    by_cases c : i < 2 * T' 1
    · rw [if_pos c] at hl
      rw [if_pos c]
      unfold X4_readSeeds_39 X4_readSeeds_78
      rw [if_pos z0, gd_n (by omega) (by decide), nI_clamp (by omega)]
      have o3 : OKC (si μ2 150 i (nI r.1)) b m p' := OKC_o o1 (by rw [si_o (by decide)]) (by rw [si_o (by decide)])
      have t3 := BC_lay (v := r.1) (show i < 12 by omega) t1
      refine Ok_b (overC_s n _ o3 (by omega) hn) ?_
      rintro _ μ4 ⟨k4, o4⟩
      dsimp only
      have er2 : r.2 = tE b m p' := by rw [er]
      rw [← er2] at o4
      have t4 := BC_kc t3 k4
      have hk := tK_le (b := b) (m := m) (p := r.2)
      rw [o4.2.2.1.1, i_2, ifEq (by omega) (by decide), i_1, nI_add, i_12, ifLe (by omega) (by decide)]
      by_cases c2 : tK b m r.2 = 2
      · rw [if_pos c2] at hl
        rw [if_pos c2, if_pos (by omega)]
        exact hK (12 - (i + 1)) _ _ (by omega) ⟨i + 1, ups T' (13 + i) r.1, r.2, by omega, rfl, rfl, by rw [ups_b (by omega)]; exact e1, o4, t4, by rw [← hl, show 13 - (i + 1) = c' by omega]⟩
      · rw [if_neg c2] at hl
        rw [if_neg c2, ← hl]
        exact Ok_r (psc_r o4 t4)
    · rw [if_neg c] at hl
      rw [if_neg c]
      refine Ok_b (refuse_s n μ2 o1 (c := 4) (by decide) (by decide)) ?_
      rintro _ μ3 ⟨k3, f3⟩
      dsimp only
      rw [show blF b m p' 4 = 4 from if_neg (by omega)] at f3
      exact flt μ3 (4, tS b m p') f3 hl.symm
theorem layR_s (n : Nat) (μ : Mu) {b : Nat → Nat} {m p : Nat} {T : Nat → Nat} (h : OKR μ b m p) (hT : BR μ T) (h1 : T 1 ≤ 6) (hn : 1000 < n) : Ok (X12_readLay n μ) (fun _ μ' => PSR b m (lyF b m 13 0 T p) μ') := by
  unfold X12_readLay X12_readLay_2
  rw [i_0]
  refine Ok_lp1 (fun f x1 μ' => ∃ i T' p', i ≤ 12 ∧ i ≤ 2 * T' 1 ∧ f = 12 - i ∧ x1 = nI i ∧ T' 1 = T 1 ∧ OKR μ' b m p' ∧ BR μ' T' ∧ lyF b m (13 - i) i T' p' = lyF b m 13 0 T p) ?_ 12 (by omega) ⟨0, T, p, by omega, by omega, rfl, rfl, rfl, h, hT, rfl⟩
  rintro K f x1 μ1 ⟨i, T', p', hi, hi2, rfl, rfl, e1, o1, t1, hl⟩ hK
  obtain ⟨c', hc'⟩ : ∃ c', 13 - i = c' + 1 := ⟨13 - i - 1, by omega⟩
  rw [hc'] at hl
  have hk1 := tK_le (b := b) (m := m) (p := p')
  -- reading on, where the pit is on the board
  have on : (i < 2 * T' 1 ∨ ∃ f, nuF b m p' 0 20 = .inl f) → Ok (X12_readLay_42 n K (nI i) μ1) (fun _ μ' => PSR b m (lyF b m 13 0 T p) μ') := by
    intro hor
    unfold X12_readLay_42
    rw [i_20, show (0 : Int32) = nI 0 from rfl]
    refine Ok_b (numbR_s n μ1 o1 (a := 0) (c := 20) (by decide) (by decide) hn) ?_
    rintro v μ2 ⟨k2, f2, g2⟩
    dsimp only
    cases e : nuF b m p' 0 20 with
    | inl f =>
      have f3 := f2 f e
      rw [ly_l e] at hl
      rw [if_neg (show ¬ μ2.1 171 13 = nI 0 from FTR_nz f3), ← hl]
      exact Ok_r (psr_l f3)
    | inr r =>
      have c : i < 2 * T' 1 := by
        rcases hor with c | ⟨f, q⟩
        · exact c
        · rw [e] at q; exact nomatch q
      obtain ⟨rfl, o2, b1, b2⟩ := g2 r e
      rw [ly_r e, if_pos c] at hl
      have hk := tK_le (b := b) (m := m) (p := r.2)
      rw [if_pos (show μ2.1 171 13 = nI 0 from o2.2.2.2), i_13, nI_add, gd_n (by omega) (by decide), nI_clamp (by omega), si_b (by decide), o2.2.2.1.1, i_2, ifEq (by omega) (by decide), i_1, nI_add]
      have o3 : OKR (si μ2 173 (13 + i) (nI r.1)) b m r.2 := OKR_o o2 (by rw [si_o (by decide)]) (by rw [si_o (by decide)])
      have t3 : BR (si μ2 173 (13 + i) (nI r.1)) (ups T' (13 + i) r.1) := BR_set (BR_ky t1 k2)
      by_cases c2 : tK b m r.2 = 2
      · rw [if_pos c2] at hl
        rw [if_pos c2]
        exact hK (12 - (i + 1)) _ _ (by omega) ⟨i + 1, ups T' (13 + i) r.1, r.2, by omega, by rw [ups_b (by omega)]; omega, rfl, rfl, by rw [ups_b (by omega)]; exact e1, o3, t3, by rw [← hl, show 13 - (i + 1) = c' by omega]⟩
      · rw [if_neg c2] at hl
        rw [if_neg c2, ← hl]
        exact Ok_r (psr_r o3 t3)
  unfold X12_readLay_2b
  rw [t1 1 (by decide), i_2, pk_mul, ifEq (by omega) (by omega)]
  by_cases c : i = 2 * T' 1
  · rw [if_pos c, o1.2.2.1.1, ifEq (by omega) (by decide)]
    by_cases c2 : tK b m p' = 2
    · have tl := tV_lt o1.1 c2
      rw [if_pos c2, o1.2.2.1.2.2.2 c2, nI_lN (by omega), bS (within_s n _ _ _ μ1)]
      dsimp only
      by_cases zb : tV b m p' ≤ 20
      · have e : nuF b m p' 0 20 = .inr (tV b m p', tE b m p') := by unfold nuF; rw [if_pos c2, if_pos ⟨Nat.zero_le _, zb⟩]
        rw [ly_r e, if_neg (by omega)] at hl
        rw [decide_eq_true (show (0 : Int64) ≤ lN (tV b m p') ∧ lN (tV b m p') ≤ 20 from ⟨(pk_lLE (a := 0) (by decide) (by omega)).mpr (Nat.zero_le _), (pk_lLE (b := 20) (by omega) (by decide)).mpr zb⟩), if_neg (show ¬ b2i true = 0 by decide)]
        rw [i_4]
        refine Ok_b (blames_s n μ1 o1 (c := 4) (by decide) (by decide)) ?_
        rintro _ μ2 ⟨k2, f2⟩
        dsimp only
        rw [show blF b m p' 4 = 4 from if_neg (by omega)] at f2
        unfold X12_readLay_42
        rw [bS (numbR_f f2)]
        dsimp only
        rw [if_neg (FTR_nz f2), ← hl]
        exact Ok_r (psr_l f2)
      · rw [decide_eq_false (show ¬ ((0 : Int64) ≤ lN (tV b m p') ∧ lN (tV b m p') ≤ 20) from fun q => zb ((pk_lLE (b := 20) (by omega) (by decide)).mp q.2)), if_pos (show b2i false = 0 from rfl)]
        exact on (Or.inr ⟨(3, tS b m p'), by unfold nuF; rw [if_pos c2, if_neg (by omega)]⟩)
    · rw [if_neg c2]
      exact on (Or.inr ⟨(blF b m p' 2, tS b m p'), by unfold nuF; rw [if_neg c2]⟩)
  · rw [if_neg c]
    exact on (Or.inl (by omega))
