/-! the class steps to the next token -/
theorem sc_ge {g : Nat → Bool} {m p q : Nat} (h1 : p ≤ q) (h2 : q ≤ m) (h3 : ∀ x, p ≤ x → x < q → g x = true) : q ≤ scE g m p := by
  obtain ⟨a1, a2, a3, a4⟩ := sc_e (g := g) (m := m) (p := p) (by omega)
  by_cases z : q ≤ scE g m p
  · exact z
  · rw [h3 _ a1 (by omega)] at a4
    exact Bool.noConfusion (a4 (by omega))
theorem numC_s (n : Nat) (μ : Mu) {b : Nat → Nat} {m s : Nat} (h : TXC μ b m) (hs : s ≤ m) (h8 : μ.1 12 8 = nI s) (h9 : μ.1 12 9 = nI s) (h2 : μ.1 12 2 = 0) (hn : 1000 < n) : Ok (X4_stepNumber n μ) (fun _ μ' => KC μ μ' ∧ μ'.1 12 8 = nI s ∧ (scE (fun x => isD (b x)) m s - s ≤ 3 → μ'.1 12 7 = nI 2 ∧ μ'.1 12 2 = 0 ∧ μ'.1 12 3 = μ.1 12 3 ∧ μ'.1 12 9 = nI (scE (fun x => isD (b x)) m s) ∧ μ'.1 12 10 = nI (vlN b s (scE (fun x => isD (b x)) m s - s))) ∧ (¬ scE (fun x => isD (b x)) m s - s ≤ 3 → μ'.1 12 7 = nI 4 ∧ μ'.1 12 2 = nI 1 ∧ μ'.1 12 3 = nI s)) := by
  have h500 := h.1
  unfold X4_stepNumber X4_stepNumber_10
  refine Ok_lp0 (fun f μ' => ∃ q, s ≤ q ∧ q ≤ m ∧ f = m - q ∧ q - s ≤ 4 ∧ KC μ μ' ∧ μ'.1 12 2 = 0 ∧ μ'.1 12 3 = μ.1 12 3 ∧ μ'.1 12 7 = nI 2 ∧ μ'.1 12 8 = nI s ∧ μ'.1 12 9 = nI q ∧ μ'.1 12 10 = nI (vlN b s (q - s)) ∧ ∀ x, s ≤ x → x < q → isD (b x) = true) ?_ (m - s) (by omega) ⟨s, Nat.le_refl _, hs, rfl, by omega, (KC.rf.s (by decide) (by decide)).s (by decide) (by decide), by rw [si_c (by decide), si_c (by decide)]; exact h2, by rw [si_c (by decide), si_c (by decide)], by rw [si_c (by decide), si_a]; rfl, by rw [si_c (by decide), si_c (by decide)]; exact h8, by rw [si_c (by decide), si_c (by decide)]; exact h9, by rw [si_a, Nat.sub_self]; rfl, fun x a c => by omega⟩
  rintro K f μ1 ⟨q, q1, q2, rfl, q4, k1, a2, a3, a7, a8, a9, a10, hall⟩ hK
  have t1 := TXC_k h k1
  have ge := sc_ge q1 q2 hall
  have fin : (q < m → 4 ≤ q - s ∨ isD (b q) = false) → Ok (X4_stepNumber_82 n μ1) (fun _ μ' => KC μ μ' ∧ μ'.1 12 8 = nI s ∧ (scE (fun x => isD (b x)) m s - s ≤ 3 → μ'.1 12 7 = nI 2 ∧ μ'.1 12 2 = 0 ∧ μ'.1 12 3 = μ.1 12 3 ∧ μ'.1 12 9 = nI (scE (fun x => isD (b x)) m s) ∧ μ'.1 12 10 = nI (vlN b s (scE (fun x => isD (b x)) m s - s))) ∧ (¬ scE (fun x => isD (b x)) m s - s ≤ 3 → μ'.1 12 7 = nI 4 ∧ μ'.1 12 2 = nI 1 ∧ μ'.1 12 3 = nI s)) := by
    intro hq
    unfold X4_stepNumber_82 X4_stepNumber_105 X4_refuse X4_refuse_20
    rw [a8, a9, pk_sub q1, i_3, ifLe (by omega) (by decide)]
    by_cases c : q - s ≤ 3
    · have e : scE (fun x => isD (b x)) m s = q := sc_u q1 q2 hall (fun z => by
        rcases hq z with w | w
        · omega
        · exact w)
      rw [if_pos c, e]
      exact Ok_r ⟨k1, a8, fun _ => ⟨a7, a2, a3, a9, a10⟩, fun z => absurd c z⟩
    · rw [if_neg c, si_c (by decide), a2, if_pos rfl]
      refine Ok_r ⟨((k1.s (by decide) (by decide)).s (by decide) (by decide)).s (by decide) (by decide), ?_, fun z => by omega, fun _ => ⟨?_, ?_, ?_⟩⟩
      · rw [si_c (by decide), si_c (by decide), si_c (by decide)]; exact a8
      · rw [si_c (by decide), si_c (by decide), si_a]; rfl
      · rw [si_c (by decide), si_a]; rfl
      · rw [si_a, si_c (by decide), si_c (by decide)]; exact a8
  unfold X4_stepNumber_10b
  rw [t1.2.1, a9, ifLe (by omega) (by omega)]
  by_cases c : m ≤ q
  · rw [if_pos c]; exact fin (fun z => by omega)
  · rw [if_neg c, a8, pk_sub q1, i_4, ifLe (by decide) (by omega)]
    by_cases c4 : 4 ≤ q - s
    · rw [if_pos c4]; exact fin (fun _ => Or.inl c4)
    · rw [if_neg c4, bS (digC_s n μ1 t1 (by omega))]
      dsimp only
      cases e : isD (b q) with
      | false => rw [if_pos (show b2i false = 0 from rfl)]; exact fin (fun _ => Or.inr e)
      | true =>
        have e2 := isD_t.mp e
        rw [if_neg (show ¬ b2i true = 0 by decide), a9, gd_n (by omega) (by decide), nI_clamp (by omega), a10, (t1.2.2 q (by omega)).2, i_10, pk_mul, nI_add, i_48, pk_sub (by omega), si_c (by decide), a9, i_1, nI_add]
        refine hK (m - (q + 1)) _ (by omega) ⟨q + 1, by omega, by omega, rfl, by omega, (k1.s (by decide) (by decide)).s (by decide) (by decide), by rw [si_c (by decide), si_c (by decide)]; exact a2, by rw [si_c (by decide), si_c (by decide)]; exact a3, by rw [si_c (by decide), si_c (by decide)]; exact a7, by rw [si_c (by decide), si_c (by decide)]; exact a8, si_a, ?_, fun x x1 x2 => ?_⟩
        · rw [si_c (by decide), si_a, show q + 1 - s = q - s + 1 by omega, vlN, show s + (q - s) = q by omega]
          congr 1
          omega
        · by_cases zz : x = q
          · rw [zz]; exact e
          · exact hall x x1 (by omega)
/-- the token at p is loaded in the class -/
def TKC (μ : Mu) (b : Nat → Nat) (m p : Nat) : Prop := μ.1 12 7 = nI (tK b m p) ∧ μ.1 12 8 = nI (tS b m p) ∧ (tK b m p ≠ 4 → μ.1 12 9 = nI (tE b m p)) ∧ (tK b m p = 2 → μ.1 12 10 = nI (tV b m p))
theorem isDL {x : Nat} (h : isD x = true) : isL x = false := by
  have := isD_t.mp h
  exact decide_eq_false (by omega)
theorem stepC_s (n : Nat) (μ : Mu) {b : Nat → Nat} {m p : Nat} (h : TXC μ b m) (hp : p ≤ m) (h9 : μ.1 12 9 = nI p) (h2 : μ.1 12 2 = 0) (hn : 1000 < n) : Ok (X4_step n μ) (fun _ μ' => KC μ μ' ∧ TKC μ' b m p ∧ (tK b m p ≠ 4 → μ'.1 12 2 = 0 ∧ μ'.1 12 3 = μ.1 12 3) ∧ (tK b m p = 4 → μ'.1 12 2 = nI 1 ∧ μ'.1 12 3 = nI (tS b m p))) := by
  have h500 := h.1
  unfold X4_step X4_step_8
  rw [h9]
  refine Ok_lp0 (fun f μ' => ∃ q, p ≤ q ∧ q ≤ m ∧ f = m - q ∧ KC μ μ' ∧ μ'.1 12 2 = 0 ∧ μ'.1 12 3 = μ.1 12 3 ∧ μ'.1 12 8 = nI q ∧ ∀ x, p ≤ x → x < q → isS (b x) = true) ?_ (m - p) (by omega) ⟨p, Nat.le_refl _, hp, rfl, KC.rf.s (by decide) (by decide), by rw [si_c (by decide)]; exact h2, by rw [si_c (by decide)], si_a, fun x a c => by omega⟩
  rintro K f μ1 ⟨q, q1, q2, rfl, k1, a2, a3, a8, hall⟩ hK
  have t1 := TXC_k h k1
  have fin : (q < m → isS (b q) = false) → Ok (X4_step_60 n μ1) (fun _ μ' => KC μ μ' ∧ TKC μ' b m p ∧ (tK b m p ≠ 4 → μ'.1 12 2 = 0 ∧ μ'.1 12 3 = μ.1 12 3) ∧ (tK b m p = 4 → μ'.1 12 2 = nI 1 ∧ μ'.1 12 3 = nI (tS b m p))) := by
    intro hq
    have eS : tS b m p = q := sc_u q1 q2 hall hq
    have k2 : KC μ (si μ1 12 9 (nI q)) := k1.s (by decide) (by decide)
    have t2 := TXC_k h k2
    have b2 : (si μ1 12 9 (nI q)).1 12 2 = 0 := by rw [si_c (by decide)]; exact a2
    have b3 : (si μ1 12 9 (nI q)).1 12 3 = μ.1 12 3 := by rw [si_c (by decide)]; exact a3
    have b8 : (si μ1 12 9 (nI q)).1 12 8 = nI q := by rw [si_c (by decide)]; exact a8
    have b9 : (si μ1 12 9 (nI q)).1 12 9 = nI q := si_a
    unfold X4_step_60 X4_step_165
    rw [a8]
    generalize si μ1 12 9 (nI q) = μ2 at *
    rw [b8, t2.2.1, ifLt (by omega) (by omega)]
    by_cases c : q < m
    · rw [if_pos c, bS (digC_s n μ2 t2 c)]
      dsimp only
      cases eD : isD (b q) with
      | true =>
        rw [if_neg (show ¬ b2i true = 0 by decide)]
        refine Ok_b (numC_s n μ2 t2 (by omega) b8 b9 b2 hn) ?_
        rintro _ μ3 ⟨k3, c8, c1, c2⟩
        have ek : tK b m p = if tD b m p - tS b m p ≤ 3 then 2 else 4 := by unfold tK; rw [eS, if_neg (by omega), eD, if_pos rfl]
        have ed : tD b m p = scE (fun x => isD (b x)) m q := by unfold tD; rw [eS]
        have ee : tE b m p = tD b m p := by unfold tE; rw [eS, if_neg (by omega), eD, if_pos rfl]
        rw [ed, eS] at ek
        by_cases z : scE (fun x => isD (b x)) m q - q ≤ 3
        · obtain ⟨d1, d2, d3, d4, d5⟩ := c1 z
          rw [if_pos z] at ek
          exact Ok_r ⟨k2.tr k3, ⟨by rw [ek]; exact d1, by rw [eS]; exact c8, fun _ => by rw [ee, ed]; exact d4, fun _ => by unfold tV; rw [ed, eS]; exact d5⟩, fun _ => ⟨d2, by rw [d3]; exact b3⟩, fun z4 => by rw [ek] at z4; omega⟩
        · obtain ⟨d1, d2, d3⟩ := c2 z
          rw [if_neg z] at ek
          exact Ok_r ⟨k2.tr k3, ⟨by rw [ek]; exact d1, by rw [eS]; exact c8, fun z4 => absurd ek z4, fun z4 => by rw [ek] at z4; omega⟩, fun z4 => absurd ek z4, fun _ => ⟨d2, by rw [eS]; exact d3⟩⟩
      | false =>
        rw [if_pos (show b2i false = 0 from rfl), b8, bS (letC_s n μ2 t2 c)]
        dsimp only
        cases eL : isL (b q) with
        | true =>
          rw [if_neg (show ¬ b2i true = 0 by decide)]
          refine Ok_b (wordC_s n μ2 t2 (by omega) b9 hn) ?_
          rintro _ μ3 ⟨k3, c2, c3, c7, c8, c9⟩
          have ek : tK b m p = 1 := by unfold tK; rw [eS, if_neg (by omega), eD, if_neg (by decide), eL, if_pos rfl]
          have ee : tE b m p = scE (fun x => isL (b x)) m q := by unfold tE tW; rw [eS, if_neg (by omega), eD, if_neg (by decide), eL, if_pos rfl]
          exact Ok_r ⟨k2.tr k3, ⟨by rw [ek]; exact c7, by rw [eS, c8]; exact b8, fun _ => by rw [ee]; exact c9, fun z4 => by rw [ek] at z4; omega⟩, fun _ => ⟨by rw [c2]; exact b2, by rw [c3]; exact b3⟩, fun z4 => by rw [ek] at z4; omega⟩
        | false =>
          rw [if_pos (show b2i false = 0 from rfl), b8, gd_n (by omega) (by decide), nI_clamp (by omega), (t2.2.2 q c).2, i_59, ifEq (by have := (t2.2.2 q c).1; omega) (by decide)]
          have ee : tE b m p = q + 1 := by unfold tE; rw [eS, if_neg (by omega), eD, if_neg (by decide), eL, if_neg (by decide)]
          by_cases z : b q = 59
          · have ek : tK b m p = 3 := by unfold tK; rw [eS, if_neg (by omega), eD, if_neg (by decide), eL, if_neg (by decide), if_pos z]
            rw [if_pos z, si_c (by decide), b9, i_1, nI_add]
            exact Ok_r ⟨(k2.s (by decide) (by decide)).s (by decide) (by decide), ⟨by rw [ek, si_c (by decide), si_a]; rfl, by rw [eS, si_c (by decide), si_c (by decide)]; exact b8, fun _ => by rw [ee, si_a], fun z4 => by rw [ek] at z4; omega⟩, fun _ => ⟨by rw [si_c (by decide), si_c (by decide)]; exact b2, by rw [si_c (by decide), si_c (by decide)]; exact b3⟩, fun z4 => by rw [ek] at z4; omega⟩
          · have ek : tK b m p = 4 := by unfold tK; rw [eS, if_neg (by omega), eD, if_neg (by decide), eL, if_neg (by decide), if_neg z]
            rw [if_neg z]
            unfold X4_refuse X4_refuse_20
            rw [si_c (by decide), b2, if_pos rfl]
            exact Ok_r ⟨((k2.s (by decide) (by decide)).s (by decide) (by decide)).s (by decide) (by decide), ⟨by rw [ek, si_c (by decide), si_c (by decide), si_a]; rfl, by rw [eS, si_c (by decide), si_c (by decide), si_c (by decide)]; exact b8, fun z4 => absurd ek z4, fun z4 => by rw [ek] at z4; omega⟩, fun z4 => absurd ek z4, fun _ => ⟨by rw [si_c (by decide), si_a]; rfl, by rw [eS, si_a, si_c (by decide), si_c (by decide)]; exact b8⟩⟩
    · have ek : tK b m p = 0 := by unfold tK; rw [eS, if_pos (by omega)]
      have ee : tE b m p = q := by unfold tE; rw [eS, if_pos (by omega)]
      rw [if_neg c]
      exact Ok_r ⟨k2.s (by decide) (by decide), ⟨by rw [ek, si_a]; rfl, by rw [eS, si_c (by decide)]; exact b8, fun _ => by rw [ee, si_c (by decide)]; exact b9, fun z4 => by rw [ek] at z4; omega⟩, fun _ => ⟨by rw [si_c (by decide)]; exact b2, by rw [si_c (by decide)]; exact b3⟩, fun z4 => by rw [ek] at z4; omega⟩
  unfold X4_step_8b X4_step_47
  rw [t1.2.1, a8, ifLe (by omega) (by omega)]
  by_cases c : m ≤ q
  · rw [if_pos c]; exact fin (fun z => by omega)
  · obtain ⟨d1, d2⟩ := t1.2.2 q (by omega)
    rw [if_neg c, gd_n (by omega) (by decide), nI_clamp (by omega), d2, i_10, i_32, ifEq (by omega) (by decide), ifEq (by omega) (by decide)]
    have nxt : isS (b q) = true → Ok (K (si μ1 12 8 (nI q + (1 : Int32)))) (fun _ μ' => KC μ μ' ∧ TKC μ' b m p ∧ (tK b m p ≠ 4 → μ'.1 12 2 = 0 ∧ μ'.1 12 3 = μ.1 12 3) ∧ (tK b m p = 4 → μ'.1 12 2 = nI 1 ∧ μ'.1 12 3 = nI (tS b m p))) := by
      intro e
      rw [i_1, nI_add]
      refine hK (m - (q + 1)) _ (by omega) ⟨q + 1, by omega, by omega, rfl, k1.s (by decide) (by decide), by rw [si_c (by decide)]; exact a2, by rw [si_c (by decide)]; exact a3, si_a, fun x x1 x2 => ?_⟩
      by_cases zz : x = q
      · rw [zz]; exact e
      · exact hall x x1 (by omega)
    by_cases z1 : b q = 10
    · rw [if_pos z1]; exact nxt (isS_t.mpr (Or.inl z1))
    · rw [if_neg z1]
      by_cases z2 : b q = 32
      · rw [if_pos z2]; exact nxt (isS_t.mpr (Or.inr z2))
      · rw [if_neg z2]
        exact fin (fun _ => by
          cases e : isS (b q) with
          | false => rfl
          | true => rcases isS_t.mp e with w | w
                    · exact absurd w z1
                    · exact absurd w z2)
