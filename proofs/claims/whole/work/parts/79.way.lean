/-! the class's table of the way -/
theorem ifIff {α : Type} {p q : Prop} [Decidable p] [Decidable q] {x y : α} (h : p ↔ q) : (if p then x else y) = if q then x else y := by
  by_cases c : q
  · rw [if_pos c, if_pos (h.mpr c)]
  · rw [if_neg c, if_neg (fun z => c (h.mp z))]
theorem ifLt {α : Type} {a b : Nat} {x y : α} (ha : a < 2 ^ 31) (hb : b < 2 ^ 31) : (if nI a < nI b then x else y) = if a < b then x else y := ifIff (nI_ltI ha hb)
theorem ifLe {α : Type} {a b : Nat} {x y : α} (ha : a < 2 ^ 31) (hb : b < 2 ^ 31) : (if nI a ≤ nI b then x else y) = if a ≤ b then x else y := ifIff (nI_leI ha hb)
theorem ifEq {α : Type} {a b : Nat} {x y : α} (ha : a < 2 ^ 31) (hb : b < 2 ^ 31) : (if nI a = nI b then x else y) = if a = b then x else y := ifIff (nI_eq ha hb)
theorem si_o {μ : Mu} {o k o' : Nat} {v : Int32} (h : o' ≠ o) : (si μ o k v).1 o' = μ.1 o' := by
  funext k'
  exact si_b h
/-- all is kept but the rows that R names -/
def KP (R : Nat → Prop) (μ μ' : Mu) : Prop := (∀ o, ¬ R o → μ'.1 o = μ.1 o) ∧ μ'.2 = μ.2
theorem KP.rf {R : Nat → Prop} {μ : Mu} : KP R μ μ := ⟨fun _ _ => rfl, rfl⟩
theorem KP.tr {R R' : Nat → Prop} {μ μ1 μ2 : Mu} (h : KP R μ μ1) (h2 : KP R' μ1 μ2) (hs : ∀ o, R' o → R o) : KP R μ μ2 := ⟨fun o ho => by rw [h2.1 o (fun q => ho (hs o q)), h.1 o ho], by rw [h2.2, h.2]⟩
theorem KP.si {R : Nat → Prop} {μ μ1 : Mu} (h : KP R μ μ1) {o k : Nat} {v : Int32} (ho : R o) : KP R μ (si μ1 o k v) := ⟨fun o' ho' => by
    have q : o' ≠ o := fun q => ho' (by rw [q]; exact ho)
    rw [si_o q, h.1 o' ho'], h.2⟩
theorem KP.up {R R' : Nat → Prop} {μ μ' : Mu} (h : KP R μ μ') (hs : ∀ o, R o → R' o) : KP R' μ μ' := ⟨fun o ho => h.1 o (fun q => ho (hs o q)), h.2⟩
def WY (μ : Mu) (T : Nat → Nat) (s : Nat) : Prop := ∀ i j, i < 2 * T 1 + 1 → onI T s i = true → NX (onI T s) (2 * T 1 + 1) i j → μ.1 3 (s * 14 + cI (T 1) s i) = nI (cI (T 1) s j)
/-- the way as far as it is linked: its first and its latest place -/
def lkI (T : Nat → Nat) (s : Nat) (μ : Mu) (i : Nat) (x3 x4 : Int32) : Prop :=
  (x3 = -nI 1 ∧ x4 = -nI 1 ∧ ∀ t, t < i → onI T s t = false) ∨
  ∃ f l, f ≤ l ∧ l < i ∧ x3 = nI (cI (T 1) s f) ∧ x4 = nI (cI (T 1) s l) ∧ onI T s f = true ∧ onI T s l = true ∧ (∀ t, t < f → onI T s t = false) ∧ (∀ t, l < t → t < i → onI T s t = false) ∧
    ∀ a b, f ≤ a → a < b → b ≤ l → onI T s a = true → onI T s b = true → (∀ t, a < t → t < b → onI T s t = false) → μ.1 3 (s * 14 + cI (T 1) s a) = nI (cI (T 1) s b)
theorem linkWay_s (n : Nat) (μ : Mu) {T : Nat → Nat} {s : Nat} (h1 : μ.1 1 1 = nI (T 1)) (h2 : μ.1 1 2 = nI (T 3)) (h5 : μ.1 1 5 = nI (T 4)) (b6 : T 1 < 7) (b1 : 1 ≤ T 1) (bl : T 3 < 4096) (b4 : T 4 < 2) (hs : s < 2) (hn : 13 < n) :
    Ok (X1_linkWay n (nI s) μ) (fun _ μ' => WY μ' T s ∧ (∀ k, ¬ (s * 14 ≤ k ∧ k < s * 14 + 14) → μ'.1 3 k = μ.1 3 k) ∧ KP (fun x => x = 3) μ μ') := by
  have inj := cI_in (T 1) b6 b1 s hs
  have clt : ∀ i, i < 2 * T 1 + 1 → cI (T 1) s i < 14 := fun i hi => (cI_lt (T 1) b6 b1 s hs i hi).2.1
  unfold X1_linkWay X1_linkWay_13
  simp only [i_14, i_1, i_0, pk_mul]
  refine Ok_lp4 (fun k x2 x3 x4 x5 μ' => ∃ i, i ≤ 2 * T 1 + 1 ∧ k = 2 * T 1 + 1 - i ∧ x2 = nI (s * 14) ∧ x5 = nI i ∧ KP (fun x => x = 3) μ μ' ∧ (∀ k, ¬ (s * 14 ≤ k ∧ k < s * 14 + 14) → μ'.1 3 k = μ.1 3 k) ∧ lkI T s μ' i x3 x4) ?_ (2 * T 1 + 1) (by omega) ⟨0, by omega, by omega, rfl, rfl, KP.rf, fun _ _ => rfl, Or.inl ⟨rfl, rfl, fun t ht => by omega⟩⟩
  rintro K k x2 x3 x4 x5 μ' ⟨i, hi, rfl, rfl, rfl, hkp, eo, hI⟩ hK
  have e1 : μ'.1 1 = μ.1 1 := hkp.1 1 (by decide)
  have g1 : μ'.1 1 1 = nI (T 1) := by rw [e1, h1]
  have g2 : μ'.1 1 2 = nI (T 3) := by rw [e1, h2]
  have g5 : μ'.1 1 5 = nI (T 4) := by rw [e1, h5]
  unfold X1_linkWay_13b
  rw [g1, i_2, pk_mul, ifLt (by omega) (by omega), i_1]
  by_cases c : 2 * T 1 < i
  · obtain rfl : i = 2 * T 1 + 1 := by omega
    rw [if_pos c]
    unfold X1_linkWay_93
    rcases hI with ⟨rfl, rfl, hoff⟩ | ⟨f, l, hfl, hl, rfl, rfl, onf, onl, offf, offl, tab⟩
    · rw [if_pos rfl]
      refine Ok_r ⟨fun a j ha on _ => ?_, eo, hkp⟩
      rw [hoff a ha] at on
      exact absurd on (by decide)
    · have hc := clt l (by omega)
      rw [if_neg (fun q => (eq_m1 (by omega)).mp q), nI_add, gd_n (by omega) (by decide), nI_clamp (by omega)]
      refine Ok_r ⟨fun a j ha on hN => ?_, fun k hk => ?_, hkp.si rfl⟩
      · have hN2 := hN
        obtain ⟨d, d1, d2, d3, d4, d5⟩ := hN2
        by_cases ca : a = l
        · subst ca
          rw [si_a]
          have hj : j < 2 * T 1 + 1 := NX_lt hN (by omega)
          by_cases q : a + d < 2 * T 1 + 1
          · rw [Nat.mod_eq_of_lt q] at d3
            rw [offl j (by omega) hj] at d4
            exact absurd d4 (by decide)
          · have q2 : j = a + d - (2 * T 1 + 1) := by
              by_cases q3 : a + d - (2 * T 1 + 1) < 2 * T 1 + 1
              · rw [d3, Nat.mod_eq_sub_mod (by omega), Nat.mod_eq_of_lt q3]
              · omega
            have q4 : ¬ j < f := fun q5 => by rw [offf j q5] at d4; exact absurd d4 (by decide)
            have q5 : ¬ f < j := fun q6 => by
              have := d5 (f + (2 * T 1 + 1) - a) (by omega) (by omega)
              rw [show a + (f + (2 * T 1 + 1) - a) = f + (2 * T 1 + 1) by omega, Nat.add_mod_right, Nat.mod_eq_of_lt (by omega), onf] at this
              exact absurd this (by decide)
            rw [show j = f by omega]
        · have hal : a < l := by
            refine Decidable.byContradiction (fun q => ?_)
            rw [offl a (by omega) ha] at on
            exact absurd on (by decide)
          have q : a + d < 2 * T 1 + 1 := by
            refine Decidable.byContradiction (fun q => ?_)
            have := d5 (l - a) (by omega) (by omega)
            rw [show a + (l - a) = l by omega, Nat.mod_eq_of_lt (by omega), onl] at this
            exact absurd this (by decide)
          rw [Nat.mod_eq_of_lt q] at d3
          have hjl : j ≤ l := by
            refine Decidable.byContradiction (fun q => ?_)
            rw [offl j (by omega) (by omega)] at d4
            exact absurd d4 (by decide)
          have hfa : f ≤ a := by
            refine Decidable.byContradiction (fun q => ?_)
            rw [offf a (by omega)] at on
            exact absurd on (by decide)
          rw [si_c (fun q => ca (inj a ha l (by omega) (by omega)))]
          refine tab a j hfa (by omega) hjl on d4 (fun t t1 t2 => ?_)
          have := d5 (t - a) (by omega) (by omega)
          rw [show a + (t - a) = t by omega, Nat.mod_eq_of_lt (by omega)] at this
          exact this
      · rw [si_c (by omega)]
        exact eo k hk
  · rw [if_neg c, bS (onWay_s n μ' g1 g2 g5 b6 b1 bl b4 hs (by omega))]
    dsimp only
    have hci := clt i (by omega)
    unfold X1_linkWay_71 X1_linkWay_67 X1_linkWay_71
    rw [i_1, nI_add]
    cases on : onI T s i with
    | false =>
      rw [show oC false (cI (T 1) s i) = -nI 1 from rfl, if_pos rfl]
      refine hK (2 * T 1 + 1 - (i + 1)) _ _ _ _ _ (by omega) ⟨i + 1, by omega, rfl, rfl, rfl, hkp, eo, ?_⟩
      rcases hI with ⟨e3, e4, hoff⟩ | ⟨f, l, hfl, hl, e3, e4, onf, onl, offf, offl, tab⟩
      · refine Or.inl ⟨e3, e4, fun t ht => ?_⟩
        by_cases q : t = i
        · rw [q, on]
        · exact hoff t (by omega)
      · refine Or.inr ⟨f, l, hfl, by omega, e3, e4, onf, onl, offf, fun t t1 t2 => ?_, tab⟩
        by_cases q : t = i
        · rw [q, on]
        · exact offl t t1 (by omega)
    | true =>
      rw [show oC true (cI (T 1) s i) = nI (cI (T 1) s i) from rfl, if_neg (fun q => (eq_m1 (by omega)).mp q)]
      rcases hI with ⟨rfl, rfl, hoff⟩ | ⟨f, l, hfl, hl, rfl, rfl, onf, onl, offf, offl, tab⟩
      · rw [if_pos rfl]
        exact hK (2 * T 1 + 1 - (i + 1)) _ _ _ _ _ (by omega) ⟨i + 1, by omega, rfl, rfl, rfl, hkp, eo, Or.inr ⟨i, i, Nat.le_refl _, by omega, rfl, rfl, on, on, hoff, fun t t1 t2 => by omega, fun a b q1 q2 q3 => by omega⟩⟩
      · have hcf := clt f (by omega)
        have hcl := clt l (by omega)
        rw [if_neg (fun q => (eq_m1 (by omega)).mp q), nI_add, gd_n (by omega) (by decide), nI_clamp (by omega)]
        refine hK (2 * T 1 + 1 - (i + 1)) _ _ _ _ _ (by omega) ⟨i + 1, by omega, rfl, rfl, rfl, hkp.si rfl, fun k hk => by rw [si_c (by omega)]; exact eo k hk, Or.inr ⟨f, i, by omega, by omega, rfl, rfl, onf, on, offf, fun t t1 t2 => by omega, fun a b fa ab bl ona onb off => ?_⟩⟩
        by_cases q : b ≤ l
        · rw [si_c (fun q2 => absurd (inj a (by omega) l (by omega) (by omega)) (by omega))]
          exact tab a b fa ab q ona onb off
        · have qb : b = i := by
            refine Decidable.byContradiction (fun q2 => ?_)
            rw [offl b (by omega) (by omega)] at onb
            exact absurd onb (by decide)
          subst qb
          have qa : a = l := by
            refine Decidable.byContradiction (fun q2 => ?_)
            by_cases q3 : a < l
            · rw [off l q3 (by omega)] at onl
              exact absurd onl (by decide)
            · rw [offl a (by omega) ab] at ona
              exact absurd ona (by decide)
          subst qa
          exact si_a
