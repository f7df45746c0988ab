/-! the reference's sowing -/
theorem NX_cg {P P' : Nat → Bool} {m i j : Nat} (hm : 0 < m) (h : NX P m i j) (e : ∀ x, x < m → P x = P' x) : NX P' m i j := by
  have hj := NX_lt h hm
  obtain ⟨d, h1, h2, h3, h4, h5⟩ := h
  exact ⟨d, h1, h2, h3, by rw [← e j hj]; exact h4, fun t t1 t2 => by rw [← e _ (Nat.mod_lt _ hm)]; exact h5 t t1 t2⟩
def woN (T : Nat → Nat) (s w : Nat) : Int32 := if T 5 = 1 then nI (cI (T 1) s w) else -1
theorem Pw_rP {T : Nat → Nat} {s w : Nat} (b6 : T 1 < 7) (b1 : 1 ≤ T 1) (hs : s < 2) (hw : w < 2 * T 1 + 1) (hw2 : w ≠ T 1) : ∀ j, j < 2 * T 1 + 1 → Pw T s w j = rP T s (woN T s w) j := by
  intro j hj
  have clt : ∀ i, i < 2 * T 1 + 1 → cI (T 1) s i < 14 := fun i hi => (cI_lt (T 1) b6 b1 s hs i hi).2.1
  have inj := cI_in (T 1) b6 b1 s hs
  unfold rP woN
  by_cases c : T 5 = 1
  · rw [Pw_1 c, if_pos c]
    unfold pw onI
    by_cases q : j = T 1
    · rw [if_pos q, if_pos q, decide_eq_false (show ¬ j = w by omega)]
      cases decide (T 4 = 1) <;> rfl
    · rw [if_neg q, if_neg q]
      congr 2
      refine decide_eq_decide.mpr ⟨fun z => by rw [z], fun z => ?_⟩
      exact inj j hj w hw ((nI_eq (by have := clt j hj; omega) (by have := clt w hw; omega)).mp z)
  · rw [Pw_0 c, if_neg c]
    unfold onI
    by_cases q : j = T 1
    · rw [if_pos q, if_pos q]
    · rw [if_neg q, if_neg q, decide_eq_false (show ¬ nI (cI (T 1) s j) = -1 from fun z => (eq_m1 (by have := clt j hj; omega)).mp z)]
      cases (T 3).testBit (cI (T 1) s j) <;> rfl
theorem tkR_s2 {T : Nat → Nat} {s : Nat} {c : Nat → Nat} {l : Nat} : (tkR T s c l).2 (12 + s) = c (12 + s) + (tkR T s c l).1 := by
  unfold tkR tkO tkG
  split
  · rfl
  · split
    · split
      · dsimp only; rw [ups_a]
      · rfl
    · split
      · split
        · rfl
        · dsimp only; rw [ups_a]
      · rfl
theorem sdN_cI {sz s l : Nat} (b1 : 1 ≤ sz) (hs : s < 2) (hl : l < 2 * sz + 1) (hne : l ≠ sz) : sdN sz (cI sz s l) = s ↔ l < sz := by
  unfold sdN cI offN
  by_cases c : l < sz
  · rw [if_pos c]
    split <;> split <;> omega
  · rw [if_neg c, if_neg hne]
    split <;> split <;> omega
def KR (μ μ' : Mu) : Prop := (∀ o, o ≠ 171 → o ≠ 178 → μ'.1 o = μ.1 o) ∧ μ'.2 = μ.2 ∧ (∀ k, k < 18 ∨ 23 < k → μ'.1 171 k = μ.1 171 k)
theorem KR.rf {μ : Mu} : KR μ μ := ⟨fun _ _ _ => rfl, rfl, fun _ _ => rfl⟩
theorem KR.h {μ μ' : Mu} (h : KR μ μ') {k : Nat} {v : Int32} : KR μ (si μ' 178 k v) := ⟨fun o o1 o2 => by rw [si_o o2, h.1 o o1 o2], h.2.1, fun k hk => by rw [si_b (by decide), h.2.2 k hk]⟩
theorem KR.m {μ μ' : Mu} (h : KR μ μ') {k : Nat} {v : Int32} (hk : 18 ≤ k ∧ k ≤ 23) : KR μ (si μ' 171 k v) := ⟨fun o o1 o2 => by rw [si_o o1, h.1 o o1 o2], h.2.1, fun k' hk' => by rw [si_c (by omega), h.2.2 k' hk']⟩
theorem KR.tr {μ μ1 μ2 : Mu} (h : KR μ μ1) (h2 : KR μ1 μ2) : KR μ μ2 := ⟨fun o o1 o2 => by rw [h2.1 o o1 o2, h.1 o o1 o2], by rw [h2.2.1, h.2.1], fun k hk => by rw [h2.2.2 k hk, h.2.2 k hk]⟩
theorem TD_o {μ μ' : Mu} {T : Nat → Nat} (h : TD μ T) (e : μ'.1 172 = μ.1 172) : TD μ' T := by
  intro k hk
  rw [e]
  exact h k hk
def SRQ (T : Nat → Nat) (s : Nat) (c : Nat → Nat) (w : Nat) (μ : Mu) (μ' : Mu) : Prop :=
  KR μ μ' ∧ (mvC T s c w = none → μ'.1 171 23 = nI 1) ∧ (∀ l k t c', mvC T s c w = some (l, k, t, c') → μ'.1 171 23 = nI 0 ∧ μ'.1 171 18 = nI (cR (T 1) s l) ∧ μ'.1 171 19 = nI k ∧ μ'.1 171 20 = nI t ∧ μ'.1 171 21 = nI (c' (12 + s) - c (12 + s)) ∧ μ'.1 171 22 = nI (thN T s l) ∧ HD (T 1) μ' c')
theorem sows_s (n : Nat) (μ : Mu) {T c : Nat → Nat} {s w : Nat} (hB : BD T) (hT : TD μ T) (hs : s < 2) (hc : HD (T 1) μ c) (hw : w < T 1) (on : onI T s w = true) (hne : 1 ≤ c (cI (T 1) s w)) (hb : sumF c 14 < 1000) (hz : ∀ p, p < 12 → (T 3).testBit p = true → c p = 0) (hn : 1000 < n) :
    Ok (X12_sows n (nI s) (nI (cI (T 1) s w)) μ) (fun _ μ' => SRQ T s c w μ μ') := by
  have hB' := hB
  obtain ⟨b1, b6, b3, b4, b5, bR, b7, b8, b9, b10, b87⟩ := hB'
  have inj := cI_in (T 1) b6 b1 s hs
  have clt : ∀ i, i < 2 * T 1 + 1 → cI (T 1) s i < 14 := fun i hi => (cI_lt (T 1) b6 b1 s hs i hi).2.1
  have hoff : ∀ p, p < 12 → (T 3).testBit p = true → ∀ j, j < 2 * T 1 + 1 → onI T s j = true → p ≠ cI (T 1) s j := by
    intro p hp hlk j hj onj e
    unfold onI at onj
    by_cases q : j = T 1
    · rw [q, (cI_lt (T 1) b6 b1 s hs (T 1) (by omega)).2.2] at e
      omega
    · rw [if_neg q, ← e, hlk] at onj
      exact absurd onj (by decide)
  have isl : ∀ μ' : Mu, KR μ μ' → sowC T s (T 6 + 1) 0 w c = none → Ok (some ((), si μ' 171 23 (1 : Int32))) (fun _ μ' => SRQ T s c w μ μ') := by
    intro μ' hk hno
    have hm : mvC T s c w = none := by unfold mvC; rw [hno]; rfl
    refine Ok_r ⟨hk.m (by decide), fun _ => si_a, fun l k t c' q => ?_⟩
    rw [hm] at q
    exact nomatch q
  unfold X12_sows X12_sows_25
  rw [i_1, i_0]
  refine Ok_lp2 (fun k x3 x4 μ' => KR μ μ' ∧ μ'.1 171 23 = nI 0 ∧ ((∃ r w' c', x4 = nI 1 ∧ x3 = nI (cI (T 1) s w') ∧ k = T 6 + 2 - r ∧ r ≤ T 6 ∧ w' < 2 * T 1 + 1 ∧ w' ≠ T 1 ∧ onI T s w' = true ∧ HD (T 1) μ' c' ∧ sumF c' 14 = sumF c 14 ∧ 1 ≤ c' (cI (T 1) s w') ∧ (∀ p, p < 12 → (T 3).testBit p = true → c' p = 0) ∧ c (12 + s) ≤ c' (12 + s) ∧ μ'.1 171 21 = nI (c' (12 + s) - c (12 + s)) ∧ μ'.1 171 20 = nI 0 ∧ μ'.1 171 19 = nI r ∧ sowC T s (T 6 + 1 - r) r w' c' = sowC T s (T 6 + 1) 0 w c) ∨ (∃ l r c1, x4 = nI 0 ∧ k = 0 ∧ l < 2 * T 1 + 1 ∧ sowC T s (T 6 + 1) 0 w c = some (l, r, c1) ∧ c (12 + s) ≤ c1 (12 + s) ∧ HD (T 1) μ' (tkR T s c1 l).2 ∧ μ'.1 171 18 = nI (cR (T 1) s l) ∧ μ'.1 171 19 = nI r ∧ μ'.1 171 20 = nI (tkR T s c1 l).1 ∧ μ'.1 171 21 = nI (c1 (12 + s) - c (12 + s))))) ?_ (T 6 + 2) (by omega) ⟨((((KR.rf.m (by decide)).m (by decide)).m (by decide)).m (by decide)), si_a, Or.inl ⟨0, w, c, rfl, rfl, by omega, by omega, by omega, by omega, on, HD_so (HD_so (HD_so (HD_so hc (by decide)) (by decide)) (by decide)) (by decide), rfl, hne, hz, Nat.le_refl _, by rw [si_c (by decide), si_c (by decide), si_a, Nat.sub_self], by rw [si_c (by decide), si_a], by rw [si_c (by decide), si_c (by decide), si_c (by decide), si_a], rfl⟩⟩
  rintro K k x3 x4 μ' ⟨hk, h23, h⟩ hK
  have hT' : TD μ' T := TD_o hT (hk.1 172 (by decide) (by decide))
  unfold X12_sows_25b
  rcases h with ⟨r, w', c', rfl, rfl, rfl, hr, hw', hw2, onw, hc', hsum, hne', hz', hst, h21, h20, h19, hsw⟩ | ⟨l, r, c1, rfl, rfl, hl, hsw, hst, hc', h18, h19, h20, h21⟩
  · have hcw := clt w' hw'
    have hcw2 := (cI_12 b6 b1 hs hw').mpr hw2
    have hbw := sum_le (c := c') 14 _ hcw
    have hss := sum_ups (c := c') (j := cI (T 1) s w') (v := 0) 14 hcw
    rw [if_neg (by decide), gd_n (by omega) (by decide), nI_clamp (by omega), hc' _ ((cI_lt (T 1) b6 b1 s hs w' hw').1 hw2), i_0]
    obtain ⟨f, hf⟩ : ∃ f, T 6 + 1 - r = f + 1 := ⟨T 6 - r, by omega⟩
    rw [hf, sowC] at hsw
    unfold X12_sows_51
    refine Ok_lp4 (fun k x3 x5 x6 x7 μ2 => ∃ i c2 b, x3 = nI (cI (T 1) s w') ∧ x5 = nI k ∧ k < 1000 ∧ x6 = nI (cR (T 1) s i) ∧ x7 = nI b ∧ b < 1000 ∧ i < 2 * T 1 + 1 ∧ onI T s i = true ∧ KR μ μ2 ∧ μ2.1 171 23 = nI 0 ∧ μ2.1 171 20 = nI 0 ∧ μ2.1 171 19 = nI r ∧ HD (T 1) μ2 c2 ∧ sumF c2 14 + k = sumF c 14 ∧ (∀ p, p < 12 → (T 3).testBit p = true → c2 p = 0) ∧ c (12 + s) ≤ c2 (12 + s) ∧ μ2.1 171 21 = nI (c2 (12 + s) - c (12 + s)) ∧ scC T s w' k i c2 = scW T s w' c' ∧ (k = c' (cI (T 1) s w') ∨ (stk T s w' = false ∧ (i = T 1 ∨ c2 (cI (T 1) s i) = b + 1)))) ?_ (c' (cI (T 1) s w')) (by omega) ⟨w', ups c' (cI (T 1) s w') 0, 0, rfl, rfl, by omega, by unfold cR; rw [if_neg hw2], rfl, by omega, hw', onw, hk.h, by rw [si_b (by decide), h23], by rw [si_b (by decide), h20], by rw [si_b (by decide), h19], HD_si hc', by omega, fun p hp hlk => by rw [ups_b (hoff p hp hlk w' hw' onw), hz' p hp hlk], by rw [ups_b (by omega)]; exact hst, by rw [si_b (by decide), h21, ups_b (by omega)], rfl, Or.inl rfl⟩
    rintro K2 k x3 x5 x6 x7 μ2 ⟨i, c2, b, rfl, rfl, hk1000, rfl, rfl, hb1000, hi, oni, kk, k23, k20, k19, hc2, hs2, hz2, hst2, k21, hsc, hor⟩ hK2
    have hT2 : TD μ2 T := TD_o hT (kk.1 172 (by decide) (by decide))
    have hci := clt i hi
    have hcR : cR (T 1) s i = 100 ↔ i = T 1 := by
      unfold cR
      by_cases q : i = T 1
      · rw [if_pos q]; exact ⟨fun _ => q, fun _ => rfl⟩
      · rw [if_neg q]; exact ⟨fun z => by omega, fun z => absurd z q⟩
    have hcRl : cR (T 1) s i < 2 ^ 31 := by
      rcases cR_lt (T 1) b6 b1 s hs i hi with z | z <;> omega
    unfold X12_sows_51b
    rw [i_0, ifLe (by omega) (by decide)]
    cases k with
    | zero =>
      rw [if_pos (Nat.le_refl _)]
      rw [scC] at hsc
      rcases hor with z | ⟨hstk, hor⟩
      · omega
      rw [if_neg (by rw [hstk]; decide), ← hsc] at hsw
      dsimp only at hsw
      have e6 : (si μ2 171 18 (nI (cR (T 1) s i))).1 172 6 = nI (T 6) := by rw [si_b (by decide), hT2 6 (by decide)]
      rw [e6, ifLe (by omega) (by decide), i_100, ifEq hcRl (by decide), ifIff hcR, ifLe (by omega) (by decide), i_1]
      have k3 : KR μ (si μ2 171 18 (nI (cR (T 1) s i))) := kk.m (by decide)
      have hc3 : HD (T 1) (si μ2 171 18 (nI (cR (T 1) s i))) c2 := HD_so hc2 (by decide)
      have hT3 : TD (si μ2 171 18 (nI (cR (T 1) s i))) T := TD_o hT (k3.1 172 (by decide) (by decide))
      -- the move ends
      have L170 : (T 6 = 0 ∨ i = T 1 ∨ c2 (cI (T 1) s i) = 1) → Ok (X12_sows_170 n (nI s) (nI (cI (T 1) s w)) K (nI (cI (T 1) s w')) (nI (cR (T 1) s i)) (nI b) (si μ2 171 18 (nI (cR (T 1) s i)))) (fun _ μ' => SRQ T s c w μ μ') := by
        intro hend
        rw [if_pos hend] at hsw
        unfold X12_sows_170 X12_sows_171 X12_sows_198 X12_sows_233
        rw [if_pos rfl, if_pos rfl, i_100, ifEq hcRl (by decide), ifIff hcR]
        by_cases q : i = T 1
        · rw [if_pos q]
          have ek : tkR T s c2 i = (0, c2) := by unfold tkR; rw [if_pos q]
          exact hK 0 _ _ _ (by omega) ⟨k3, by rw [si_c (by decide), k23], Or.inr ⟨i, r, c2, rfl, rfl, hi, hsw.symm, hst2, by rw [ek]; exact hc3, si_a, by rw [si_c (by decide), k19], by rw [ek, si_c (by decide), k20], by rw [si_c (by decide), k21]⟩⟩
        · rw [if_neg q]
          have hb' : c2 (cI (T 1) s i) = b + 1 := hor.resolve_left q
          have hl2 := (cI_lt (T 1) b6 b1 s hs i hi).1 q
          have eR : cR (T 1) s i = cI (T 1) s i := by unfold cR; rw [if_neg q]
          have hlk : (T 3).testBit (cI (T 1) s i) = false := by
            unfold onI at oni
            rw [if_neg q] at oni
            simpa using oni
          have etk : (if sdN (T 1) (cI (T 1) s i) = s then tkO T s c2 (cI (T 1) s i) else tkG T s c2 (cI (T 1) s i)) = tkR T s c2 i := by
            unfold tkR
            rw [if_neg q]
            by_cases z : i < T 1
            · rw [if_pos z, if_pos ((sdN_cI b1 hs hi q).mpr z)]
            · rw [if_neg z, if_neg (fun z2 => z ((sdN_cI b1 hs hi q).mp z2))]
          refine Ok_b (takes_s n _ hB hT3 hs hl2 hlk (by rw [si_a, eR]) (by rw [si_c (by decide), k20]) hc3 hb' (by omega) hz2 hn) ?_
          rintro a μ4 ⟨m1, m2, m3, m4, m5⟩
          dsimp only
          rw [etk] at m4 m5
          exact hK 0 _ _ _ (by omega) ⟨k3.tr ⟨m1, m2, fun k hk => m3 k (by omega)⟩, by rw [m3 23 (by decide), si_c (by decide), k23], Or.inr ⟨i, r, c2, rfl, rfl, hi, hsw.symm, hst2, m5, by rw [m3 18 (by decide), si_a], by rw [m3 19 (by decide), si_c (by decide), k19], m4, by rw [m3 21 (by decide), si_c (by decide), k21]⟩⟩
      by_cases z6 : T 6 = 0
      · rw [if_pos (by omega)]
        exact L170 (Or.inl z6)
      · rw [if_neg (by omega)]
        by_cases zi : i = T 1
        · rw [if_pos zi]
          exact L170 (Or.inr (Or.inl zi))
        · rw [if_neg zi]
          have hb' : c2 (cI (T 1) s i) = b + 1 := hor.resolve_left zi
          by_cases zb : b ≤ 0
          · rw [if_pos zb]
            exact L170 (Or.inr (Or.inr (by omega)))
          · rw [if_neg zb]
            rw [if_neg (by omega)] at hsw
            have eR : cR (T 1) s i = cI (T 1) s i := by unfold cR; rw [if_neg zi]
            unfold X12_sows_171 X12_sows_198 X12_sows_233
            rw [if_neg (by decide), si_c (by decide), k19, e6, ifEq (by omega) (by omega), if_neg (show ¬ nI 1 = 0 by decide), i_1, nI_add]
            by_cases zr : r = T 6
            · rw [if_pos zr]
              rw [show f = 0 by omega, sowC] at hsw
              exact isl _ k3 hsw.symm
            · rw [if_neg zr]
              exact hK (T 6 + 2 - (r + 1)) _ _ _ (by omega) ⟨k3.m (by decide), by rw [si_c (by decide), si_c (by decide), k23], Or.inl ⟨r + 1, i, c2, rfl, by rw [eR], rfl, by omega, hi, zi, oni, HD_so hc3 (by decide), by omega, by omega, hz2, hst2, by rw [si_c (by decide), si_c (by decide), k21], by rw [si_c (by decide), si_c (by decide), k20], si_a, by rw [show T 6 + 1 - (r + 1) = f by omega]; exact hsw⟩⟩
    | succ k =>
      rw [if_neg (by omega), hT2 5 (by decide), i_1, ifEq (by omega) (by decide)]
      have ewo : (if T 5 = 1 then X12_sows_75 n (nI s) (nI (cI (T 1) s w)) K K2 (nI (cI (T 1) s w')) (nI (k + 1)) (nI b) (nI s) (nI (cR (T 1) s i)) (nI (cI (T 1) s w')) μ2 else X12_sows_75 n (nI s) (nI (cI (T 1) s w)) K K2 (nI (cI (T 1) s w')) (nI (k + 1)) (nI b) (nI s) (nI (cR (T 1) s i)) (-nI 1) μ2) = X12_sows_75 n (nI s) (nI (cI (T 1) s w)) K K2 (nI (cI (T 1) s w')) (nI (k + 1)) (nI b) (nI s) (nI (cR (T 1) s i)) (woN T s w') μ2 := by
        unfold woN
        by_cases q : T 5 = 1
        · rw [if_pos q, if_pos q]
        · rw [if_neg q, if_neg q]; rfl
      rw [ewo]
      unfold X12_sows_75 X12_sows_132
      rw [bS (next_s n μ2 (hT2 1 (by decide)) b1 (by omega) (hT2 3 (by decide)) (by omega) (hT2 4 (by decide)) b4 hs (cR_lt (T 1) b6 b1 s hs i hi) (by omega))]
      dsimp only
      cases hstk : stk T s w' with
      | true =>
        rw [hstk, if_pos rfl] at hsw
        have hall : ∀ j, j < 2 * T 1 + 1 → rP T s (woN T s w') j = false := by
          intro j hj
          rw [← Pw_rP b6 b1 hs hw' hw2 j hj]
          unfold stk at hstk
          rw [decide_eq_true_iff] at hstk
          obtain ⟨u, u1, u2, u3⟩ := ring_r hw' hj
          have := fd_none _ _ hstk.2 u u1 (by omega)
          rw [u3] at this
          exact this
        rw [nxN_none b6 b1 hs b4 hall 36 i hi, if_pos (show oI none = -1 from rfl)]
        exact isl μ2 kk hsw.symm
      | false =>
        obtain ⟨j, hN, e, hj, onj, -, -⟩ := nx_step hw' onw hi hstk
        rw [nxN_some b6 b1 hs b4 hi (NX_cg (by omega) hN (Pw_rP b6 b1 hs hw' hw2))]
        rw [scC, e] at hsc
        have hcj := clt j hj
        have hcRj : cR (T 1) s j < 2 ^ 31 := by
          rcases cR_lt (T 1) b6 b1 s hs j hj with z | z <;> omega
        have hs3 := sum_ups (c := c2) (j := cI (T 1) s j) (v := c2 (cI (T 1) s j) + 1) 14 hcj
        have hlej := sum_le (c := c2) 14 _ hcj
        have hzj : ∀ p, p < 12 → (T 3).testBit p = true → ups c2 (cI (T 1) s j) (c2 (cI (T 1) s j) + 1) p = 0 := fun p hp hlk => by rw [ups_b (hoff p hp hlk j hj onj), hz2 p hp hlk]
        rw [show oI (some (cR (T 1) s j)) = nI (cR (T 1) s j) from rfl, i_1, if_neg (fun z => (eq_m1 hcRj).mp z), i_100, ifEq hcRj (by decide), m1_add (by omega), Nat.add_sub_cancel]
        by_cases q : j = T 1
        · have eR : cR (T 1) s j = 100 := by unfold cR; rw [if_pos q]
          have eI : cI (T 1) s j = 12 + s := by rw [q]; exact (cI_lt (T 1) b6 b1 s hs (T 1) (by omega)).2.2
          rw [if_pos eR, k21, nI_add]
          rw [eI] at hs3 hlej hzj hsc
          exact hK2 k _ _ _ _ _ (by omega) ⟨j, ups c2 (12 + s) (c2 (12 + s) + 1), b, rfl, rfl, by omega, rfl, rfl, hb1000, hj, onj, kk.m (by decide), by rw [si_c (by decide), k23], by rw [si_c (by decide), k20], by rw [si_c (by decide), k19], HD_cg (HD_so hc2 (by decide)) (fun p hp => by rw [ups_b (by omega)]), by omega, hzj, by rw [ups_a]; omega, by rw [si_a, ups_a, show c2 (12 + s) + 1 - c (12 + s) = c2 (12 + s) - c (12 + s) + 1 by omega], hsc, Or.inr ⟨hstk, Or.inl q⟩⟩
        · have eR : cR (T 1) s j = cI (T 1) s j := by unfold cR; rw [if_neg q]
          have hj12 := (cI_12 b6 b1 hs hj).mpr q
          rw [if_neg (by rw [eR]; omega), eR, gd_n hj12 (by decide), nI_clamp (by omega), hc2 _ ((cI_lt (T 1) b6 b1 s hs j hj).1 q), nI_add]
          exact hK2 k _ _ _ _ _ (by omega) ⟨j, ups c2 (cI (T 1) s j) (c2 (cI (T 1) s j) + 1), c2 (cI (T 1) s j), rfl, rfl, by omega, by rw [eR], rfl, by omega, hj, onj, kk.h, by rw [si_b (by decide), k23], by rw [si_b (by decide), k20], by rw [si_b (by decide), k19], HD_si hc2, by omega, hzj, by rw [ups_b (by omega)]; exact hst2, by rw [si_b (by decide), k21, ups_b (by omega)], hsc, Or.inr ⟨hstk, Or.inr ups_a⟩⟩
  · have hmv : mvC T s c w = some (l, r, (tkR T s c1 l).1, (tkR T s c1 l).2) := by unfold mvC; rw [hsw]; rfl
    have hst3 := tkR_s2 (T := T) (s := s) (c := c1) (l := l)
    have hcRl : cR (T 1) s l < 2 ^ 31 := by
      rcases cR_lt (T 1) b6 b1 s hs l hl with z | z <;> omega
    have hcR : cR (T 1) s l = 100 ↔ l = T 1 := by
      have hcl := clt l hl
      unfold cR
      by_cases q : l = T 1
      · rw [if_pos q]; exact ⟨fun _ => q, fun _ => rfl⟩
      · rw [if_neg q]; exact ⟨fun z => by omega, fun z => absurd z q⟩
    have fin : ∀ th, th = thN T s l → Ok (some ((), si (si μ' 171 21 (nI (c1 (12 + s) - c (12 + s) + (tkR T s c1 l).1))) 171 22 (nI th))) (fun _ μ' => SRQ T s c w μ μ') := by
      intro th eth
      refine Ok_r ⟨(hk.m (by decide)).m (by decide), fun q => absurd (hmv.symm.trans q) (by simp), fun l' k' t' c'' q => ?_⟩
      rw [hmv] at q
      injection q with q
      injection q with q1 q
      injection q with q2 q
      injection q with q3 q4
      subst q1 q2 q3 q4
      refine ⟨by rw [si_c (by decide), si_c (by decide), h23], by rw [si_c (by decide), si_c (by decide), h18], by rw [si_c (by decide), si_c (by decide), h19], by rw [si_c (by decide), si_c (by decide), h20], ?_, by rw [si_a, eth], HD_so (HD_so hc' (by decide)) (by decide)⟩
      rw [si_c (by decide), si_a, hst3]
      congr 1
      omega
    unfold X12_sows_274 X12_sows_277
    have e9 : ∀ v, (si μ' 171 21 v).1 172 9 = nI (T 9) := fun v => by rw [si_b (by decide), hT' 9 (by decide)]
    have e18 : ∀ v, (si μ' 171 21 v).1 171 18 = nI (cR (T 1) s l) := fun v => by rw [si_c (by decide), h18]
    rw [if_pos (show nI 0 = 0 from rfl), h21, h20, nI_add, e9, e18, i_1, i_100, ifEq (by omega) (by decide), ifEq hcRl (by decide), ifIff hcR, pk_sub (by omega)]
    by_cases q9 : T 9 = 1
    · rw [if_pos q9]
      by_cases ql : l = T 1
      · rw [if_pos ql]
        exact fin s (by unfold thN; rw [if_pos ⟨q9, ql⟩])
      · rw [if_neg ql]
        exact fin (1 - s) (by unfold thN; rw [if_neg (fun z => ql z.2)])
    · rw [if_neg q9]
      exact fin (1 - s) (by unfold thN; rw [if_neg (fun z => q9 z.1)])
