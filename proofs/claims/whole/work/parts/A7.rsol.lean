/-! the reference solves up to a number of seeds -/
theorem VL_e {T : Nat → Nat} {S sd k : Nat} : VL T (S + 1) sd S k = itV T S (VL T S) 6007 sd k := if_pos rfl
theorem RK_e {T : Nat → Nat} {S sd k : Nat} : RK T (S + 1) sd S k = itR T S (VL T S) 6007 sd k := if_pos rfl
theorem lg_leI {x y : Int64} : lg_cmp x y ≤ 0 ↔ x ≤ y := by
  rw [← Int32.not_lt, lg_gt, Int64.not_lt]
theorem Wn_lt {m s : Nat} (hm : m ≤ 12) (hs : s ≤ 40) : Wn m s < 2 ^ 62 := by
  cases m with
  | zero =>
    rw [Wn]
    by_cases h : s = 0
    · rw [if_pos h]; decide
    · rw [if_neg h]; decide
  | succ p =>
    have h1 := Wn_b p s
    have h2 : (s + 1) ^ p ≤ 41 ^ p := Nat.pow_le_pow_left (by omega) p
    have h3 : 41 ^ p ≤ 41 ^ 11 := Nat.pow_le_pow_right (by decide) (by omega)
    have h4 : (41 : Nat) ^ 11 < 2 ^ 62 := by decide
    omega
theorem BD_re {T T0 : Nat → Nat} (r : RE T T0) (h : BD T) : BD T0 := by
  unfold BD at *
  rw [r 1 (by decide) (by decide), r 3 (by decide) (by decide), r 4 (by decide) (by decide), r 5 (by decide) (by decide), r 6 (by decide) (by decide), r 7 (by decide) (by decide), r 8 (by decide) (by decide), r 9 (by decide) (by decide), r 10 (by decide) (by decide)]
  exact h
theorem positionsOf_s (n : Nat) (μ : Mu) {T : Nat → Nat} {s : Nat} (hB : BD T) (hT : TD μ T) (hs : s ≤ 40) (hn : 1000 < n) : Ok (X12_positionsOf n (nI s) μ) (fun a μ' => a = lN (Wn (opnN T) s) ∧ KO μ μ') := by
  have h1 := opn_le (T := T)
  have h2 := hB.2.1
  unfold X12_positionsOf
  rw [i_0]
  refine Ok_b (sees_s n μ hB hT (by decide) hn) ?_
  rintro _ μ1 ⟨od, ko⟩
  dsimp only
  rw [od.1, bS (ways_s n μ1 hs (by omega) hn)]
  exact Ok_r ⟨rfl, ko⟩
theorem areRules_s (n : Nat) (μ : Mu) (hn : 1000 < n) : Ok (X12_areRules n μ) (fun a μ' => μ' = μ ∧ ∃ b, a = b2i b ∧ (b = true ↔ ∀ k, 1 ≤ k → k < 11 → k ≠ 2 → μ.1 191 k = μ.1 172 k)) := by
  unfold X12_areRules X12_areRules_4
  rw [i_1]
  refine Ok_lp2 (fun f x1 x2 μ' => ∃ j b, 1 ≤ j ∧ j ≤ 11 ∧ f = 11 - j ∧ x2 = nI j ∧ x1 = b2i b ∧ μ' = μ ∧ (b = true ↔ ∀ k, 1 ≤ k → k < j → k ≠ 2 → μ.1 191 k = μ.1 172 k)) ?_ 10 (by omega) ⟨1, true, by omega, by omega, rfl, rfl, rfl, rfl, ⟨fun _ k a b => by omega, fun _ => rfl⟩⟩
  rintro K f x1 x2 μ1 ⟨j, b, hj1, hj2, rfl, rfl, rfl, rfl, hb⟩ hK
  unfold X12_areRules_4b X12_areRules_34 X12_areRules_38 X12_areRules_39
  rw [i_10, ifLt (by decide) (by omega)]
  by_cases c : 10 < j
  · obtain rfl : j = 11 := by omega
    rw [if_pos c, bz_b]
    exact Ok_r ⟨rfl, b, rfl, hb⟩
  · rw [if_neg c]
    cases b with
    | false =>
      rw [if_pos (show b2i false = 0 from rfl), i_0, i_1, nI_add]
      exact hK (11 - (j + 1)) _ _ _ (by omega) ⟨j + 1, false, by omega, by omega, rfl, rfl, rfl, rfl, ⟨fun z => Bool.noConfusion z, fun z => hb.mpr (fun k a b c => z k a (by omega) c)⟩⟩
    | true =>
      have hb' := hb.mp rfl
      rw [if_neg (show ¬ b2i true = 0 by decide), i_2, ifEq (by omega) (by decide)]
      by_cases c2 : j = 2
      · rw [if_pos c2, i_1, nI_add]
        exact hK (11 - (j + 1)) _ _ _ (by omega) ⟨j + 1, true, by omega, by omega, rfl, rfl, rfl, rfl, ⟨fun _ k a b c => hb' k a (by omega) c, fun _ => rfl⟩⟩
      · rw [if_neg c2, gd_n (by omega) (by decide), gd_n (by omega) (by decide), nI_clamp (by omega)]
        by_cases c3 : μ1.1 191 j = μ1.1 172 j
        · rw [if_pos c3, i_1, nI_add]
          refine hK (11 - (j + 1)) _ _ _ (by omega) ⟨j + 1, true, by omega, by omega, rfl, rfl, rfl, rfl, ⟨fun _ k a b c => ?_, fun _ => rfl⟩⟩
          by_cases z : k = j
          · rw [z]; exact c3
          · exact hb' k a (by omega) c
        · rw [if_neg c3, i_0, i_1, nI_add]
          exact hK (11 - (j + 1)) _ _ _ (by omega) ⟨j + 1, false, by omega, by omega, rfl, rfl, rfl, rfl, ⟨fun z => Bool.noConfusion z, fun z => absurd (z j hj1 (by omega) c2) c3⟩⟩
/-- what the reference has solved: rules, all numbers of seeds below S -/
def RU (μ : Mu) (T : Nat → Nat) : Prop := ∀ k, 1 ≤ k → k < 11 → k ≠ 2 → μ.1 191 k = nI (T k)
def RV (μ : Mu) (T : Nat → Nat) (S : Nat) : Prop := S ≤ 41 ∧ bhS T S ≤ 6000 ∧ μ.1 171 40 = iv ((S : Int) - 1) ∧ (∀ t, t ≤ S → μ.1 189 t = nI (bhS T t)) ∧ ∀ sd s k, sd < 2 → s < S → k < Wn (opnN T) s → μ.1 184 (xS T sd s k) = iv (VL T 41 sd s k) ∧ μ.1 185 (xS T sd s k) = nI (RK T 41 sd s k) ∧ PD μ T sd s k
def RI (μ : Mu) : Prop := μ.1 191 1 = nI 0 ∨ ∃ T0 S, WF T0 ∧ RU μ T0 ∧ RV μ T0 S
theorem bhS_re {T T0 : Nat → Nat} (r : RE T T0) (s : Nat) : bhS T0 s = bhS T s := by unfold bhS; rw [opn_re r]
theorem xS_re {T T0 : Nat → Nat} (r : RE T T0) (sd s k : Nat) : xS T0 sd s k = xS T sd s k := by unfold xS; rw [bhS_re r]
theorem PD_re {μ : Mu} {T T0 : Nat → Nat} {sd s k : Nat} (r : RE T T0) (hW : WF T) (hs : sd < 2) (h40 : s ≤ 40) (hk : k < Wn (opnN T) s) (h : PD μ T0 sd s k) : PD μ T sd s k := by
  obtain ⟨h1, h2⟩ := h
  rw [xS_re r, enD_re r hW hs h40 hk] at h1
  refine ⟨h1, fun w hw => ?_⟩
  obtain ⟨m1, m2⟩ := h2 w (by rw [r 1 (by decide) (by decide)]; exact hw)
  rw [mvD_re r hW hs h40 hk hw, xS_re r] at m1
  refine ⟨m1, fun g st k' e => ?_⟩
  have m3 := m2 g st k' (by rw [mvD_re r hW hs h40 hk hw]; exact e)
  rw [xS_re r, xS_re r] at m3
  exact m3
theorem RV_re {μ : Mu} {T T0 : Nat → Nat} {S : Nat} (r : RE T T0) (hW : WF T) (h : RV μ T0 S) : RV μ T S := by
  obtain ⟨h1, h2, h3, h4, h5⟩ := h
  rw [bhS_re r] at h2
  refine ⟨h1, h2, h3, fun t ht => by rw [← bhS_re r]; exact h4 t ht, fun sd s k a b c => ?_⟩
  obtain ⟨v1, v2, v3⟩ := h5 sd s k a b (by rw [opn_re r]; exact c)
  obtain ⟨e1, e2⟩ := VL_re r hW 41 (by omega) sd s k a (by omega) c
  rw [xS_re r, e1] at v1
  rw [xS_re r, e2] at v2
  exact ⟨v1, v2, PD_re r hW a (by omega) c v3⟩
theorem iv_p1 (S : Nat) : iv ((S : Int) - 1) + 1 = nI S := by
  show iv _ + iv 1 = _
  rw [iv_add, iv_n]
  congr 1
  omega
def AI (μ : Mu) (T : Nat → Nat) : Prop := ∀ k, k < 25 → μ.1 192 k = nI (T k)
theorem TX_td {μ : Mu} {T : Nat → Nat} (h : TD μ T) (hW : WF T) : TX μ T := ⟨T, h, RE.rf, rfl, rfl, rfl, fun p h1 h2 => hW.2.2.2.2.2.2 p h2 (Or.inr h1)⟩
theorem solves_lv (n : Nat) (μ : Mu) {T : Nat → Nat} {s S0 : Nat} (hW : WF T) (h11 : T 11 ≤ 139) (h12 : T 12 ≤ 139) (h40 : s ≤ 40) (h6 : bhS T (s + 1) ≤ 6000) (hS0 : S0 ≤ s + 1) (hT : TX μ T) (hA : AI μ T) (hU : RU μ T) (hV : RV μ T S0) (hn : 20000 < n) :
    Ok (X12_solves_106 n (nI s) μ) (fun a μ' => a = 1 ∧ TD μ' T ∧ RU μ' T ∧ RV μ' T (s + 1)) := by
  have hB := hW.1
  have hop := opn_le (T := T)
  have b6 := hB.2.1
  unfold X12_solves_106
  refine Ok_lp0 (fun f μ' => ∃ S, S ≤ s + 1 ∧ f = s + 1 - S ∧ TX μ' T ∧ AI μ' T ∧ RU μ' T ∧ RV μ' T S) ?_ (s + 1 - S0) (by omega) ⟨S0, hS0, rfl, hT, hA, hU, hV⟩
  rintro K f μ1 ⟨S, hS, rfl, hT1, hA1, hU1, hV1⟩ hK
  unfold X12_solves_106b
  obtain ⟨v1, v2, v3, v4, v5⟩ := id hV1
  rw [v3, iv_p1]
  by_cases c : S = s + 1
  · subst c
    rw [if_pos (by rw [iv_n, iv_le (by omega) (by omega) (by omega) (by omega)]; omega), bS (copies_s n μ1 (by decide) (by decide) (by decide) (by decide) (by decide) (by decide) (by decide) (by omega))]
    dsimp only
    refine Ok_r ⟨rfl, fun k hk => ?_, fun k a b e => ?_, v1, v2, ?_, fun t ht => ?_, fun sd s' k a b e => ?_⟩
    · rw [mvF_d, if_pos ⟨Nat.zero_le _, by omega⟩, Nat.sub_zero, Nat.zero_add]; exact hA1 k hk
    · rw [mvF_o μ1 (by decide)]; exact hU1 k a b e
    · rw [mvF_o μ1 (by decide)]; exact v3
    · rw [mvF_o μ1 (by decide)]; exact v4 t ht
    · obtain ⟨w1, w2, w3⟩ := v5 sd s' k a b e
      exact ⟨by rw [mvF_o μ1 (by decide)]; exact w1, by rw [mvF_o μ1 (by decide)]; exact w2, PD_o w3 (by rw [mvF_o μ1 (by decide)]) (fun w _ => ⟨by rw [mvF_o μ1 (by decide)], by rw [mvF_o μ1 (by decide)]⟩)⟩
  · have hSs : S ≤ s := by omega
    have h6S : bhS T (S + 1) ≤ 6000 := Nat.le_trans (bh_mo (by omega)) h6
    rw [if_neg (by rw [iv_n, iv_le (by omega) (by omega) (by omega) (by omega)]; omega), gd_n (by omega) (by decide)]
    obtain ⟨Tx, tx1, tx2, tx3⟩ := id hT1
    refine Ok_b (positionsOf_s n μ1 (BD_re tx2 hB) tx1 (by omega) (by omega)) ?_
    rintro _ μ2 ⟨rfl, ko⟩
    dsimp only
    rw [i_1, nI_add, gd_n (by omega) (by decide), nI_clamp (by omega), nI_clamp (by omega), v4 S (by omega), lN_i, opn_re tx2, nI_add, ← bh_s]
    have hb2 : ∀ t, t ≤ S + 1 → (si μ2 189 (S + 1) (nI (bhS T (S + 1)))).1 189 t = nI (bhS T t) := by
      intro t ht
      by_cases z : t = S + 1
      · rw [z, si_a]
      · rw [si_c z, ko.1 189 (by decide) (by decide)]; exact v4 t (by omega)
    refine Ok_b (laysMoves_s n _ hW h11 h12 (by omega) (TX_o hT1 (by rw [si_o (by decide), ko.1 172 (by decide) (by decide)])) hb2 h6S (by omega)) ?_
    rintro _ μ3 ⟨hP3, hT3, hq⟩
    dsimp only
    have kq : ∀ o, o ≠ 171 → o ≠ 172 → o ≠ 178 → o ≠ 183 → o ≠ 187 → o ≠ 188 → o ≠ 190 → o ≠ 189 → μ3.1 o = μ1.1 o := fun o a b c d e f g h => by rw [hq.1 o a b c d e f g, si_o h, ko.1 o a d]
    have h189 : ∀ t, t ≤ S + 1 → μ3.1 189 t = nI (bhS T t) := fun t ht => by rw [hq.1 189 (by decide) (by decide) (by decide) (by decide) (by decide) (by decide) (by decide)]; exact hb2 t ht
    have low : ∀ sd' s' k', sd' < 2 → s' < S → k' < Wn (opnN T) s' → ∀ sd k, sd < 2 → k < Wn (opnN T) S → xS T sd' s' k' ≠ xS T sd S k := by
      intro sd' s' k' q1 q2 q4 sd k q5 q7 e
      have := bh_mo (T := T) (show s' + 1 ≤ S by omega)
      rw [bh_s] at this
      rw [bh_s] at h6S
      unfold xS at e
      omega
    have h3003 : Wn (opnN T) S ≤ 3003 := W_3003 (by omega) h6S
    refine Ok_b (settles_s n μ3 (lo := VL T S) hW (by omega) hT3 h189 h6S h3003 (VL_b hW S (by omega)) (fun sd' s' k' a b e => ?_) hP3 (by omega)) ?_
    · rw [kq 184 (by decide) (by decide) (by decide) (by decide) (by decide) (by decide) (by decide) (by decide), (v5 sd' s' k' a b e).1, (VL_lo S 41 b (by omega)).1]
    · rintro _ μ4 ⟨hvs, hks⟩
      dsimp only
      have k4 : ∀ o, o ≠ 171 → o ≠ 172 → o ≠ 178 → o ≠ 183 → o ≠ 187 → o ≠ 188 → o ≠ 190 → o ≠ 189 → o ≠ 184 → o ≠ 185 → o ≠ 186 → μ4.1 o = μ1.1 o := fun o a b c d e f g h i j k => by rw [hks.1 o a c d i j k, kq o a b c d e f g h]
      refine hK (s + 1 - (S + 1)) _ (by omega) ⟨S + 1, by omega, rfl, ?_, ?_, ?_, by omega, h6S, ?_, ?_, ?_⟩
      · exact TX_o hT3 (by rw [si_o (by decide), hks.1 172 (by decide) (by decide) (by decide) (by decide) (by decide) (by decide)])
      · intro k hk
        rw [si_b (by decide), k4 192 (by decide) (by decide) (by decide) (by decide) (by decide) (by decide) (by decide) (by decide) (by decide) (by decide) (by decide)]
        exact hA1 k hk
      · intro k a b e
        rw [si_b (by decide), k4 191 (by decide) (by decide) (by decide) (by decide) (by decide) (by decide) (by decide) (by decide) (by decide) (by decide) (by decide)]
        exact hU1 k a b e
      · rw [si_a, iv_n]; congr 1; omega
      · intro t ht
        rw [si_b (by decide), hks.1 189 (by decide) (by decide) (by decide) (by decide) (by decide) (by decide)]
        exact h189 t ht
      · intro sd s' k a b e
        by_cases z : s' = S
        · subst z
          obtain ⟨w1, w2⟩ := hvs sd k a e
          obtain ⟨l1, l2⟩ := VL_lo (T := T) (sd := sd) (k := k) (s' + 1) 41 (Nat.lt_succ_self s') (by omega)
          refine ⟨?_, ?_, ?_⟩
          · rw [si_b (by decide), w1, l1, VL_e]
          · rw [si_b (by decide), w2, l2, RK_e]
          · exact PD_o (hP3 sd k a e) (by rw [si_b (by decide), hks.1 190 (by decide) (by decide) (by decide) (by decide) (by decide) (by decide)]) (fun w _ => ⟨by rw [si_b (by decide), hks.1 187 (by decide) (by decide) (by decide) (by decide) (by decide) (by decide)], by rw [si_b (by decide), hks.1 188 (by decide) (by decide) (by decide) (by decide) (by decide) (by decide)]⟩)
        · have hlt : s' < S := by omega
          obtain ⟨w1, w2, w3⟩ := v5 sd s' k a hlt e
          have nel := low sd s' k a hlt e
          obtain ⟨p1, p2⟩ := hks.2.2.2 _ nel
          refine ⟨?_, ?_, ?_⟩
          · rw [si_b (by decide), p1, kq 184 (by decide) (by decide) (by decide) (by decide) (by decide) (by decide) (by decide) (by decide)]; exact w1
          · rw [si_b (by decide), p2, kq 185 (by decide) (by decide) (by decide) (by decide) (by decide) (by decide) (by decide) (by decide)]; exact w2
          · refine PD_o w3 ?_ (fun w hw => ?_)
            · rw [si_b (by decide), hks.1 190 (by decide) (by decide) (by decide) (by decide) (by decide) (by decide), hq.2.2.2.1 _ nel, si_b (by decide), ko.1 190 (by decide) (by decide)]
            · obtain ⟨p3, p4⟩ := hq.2.2.2.2 (6 * xS T sd s' k + w) (fun sd2 k2 w2 q1 q2 q3 e2 => nel sd2 k2 q1 q2 (by omega))
              exact ⟨by rw [si_b (by decide), hks.1 187 (by decide) (by decide) (by decide) (by decide) (by decide) (by decide), p3, si_b (by decide), ko.1 187 (by decide) (by decide)], by rw [si_b (by decide), hks.1 188 (by decide) (by decide) (by decide) (by decide) (by decide) (by decide), p4, si_b (by decide), ko.1 188 (by decide) (by decide)]⟩
theorem RU_o {μ μ' : Mu} {T : Nat → Nat} (h : RU μ T) (e : μ'.1 191 = μ.1 191) : RU μ' T := fun k a b c => by rw [e]; exact h k a b c
theorem RV_o {μ μ' : Mu} {T : Nat → Nat} {S : Nat} (h : RV μ T S) (e0 : μ'.1 171 40 = μ.1 171 40) (e : ∀ o, 184 ≤ o → o ≤ 190 → o ≠ 186 → μ'.1 o = μ.1 o) : RV μ' T S := by
  obtain ⟨h1, h2, h3, h4, h5⟩ := h
  refine ⟨h1, h2, by rw [e0]; exact h3, fun t ht => by rw [e 189 (by omega) (by omega) (by omega)]; exact h4 t ht, fun sd s k a b c => ?_⟩
  obtain ⟨v1, v2, v3⟩ := h5 sd s k a b c
  exact ⟨by rw [e 184 (by omega) (by omega) (by omega)]; exact v1, by rw [e 185 (by omega) (by omega) (by omega)]; exact v2, PD_o v3 (by rw [e 190 (by omega) (by omega) (by omega)]) (fun w _ => ⟨by rw [e 187 (by omega) (by omega) (by omega)], by rw [e 188 (by omega) (by omega) (by omega)]⟩)⟩
theorem RI_o {μ μ' : Mu} (h : RI μ) (e0 : μ'.1 171 40 = μ.1 171 40) (e : ∀ o, 184 ≤ o → o ≤ 191 → o ≠ 186 → μ'.1 o = μ.1 o) : RI μ' := by
  rcases h with h | ⟨T0, S, w, u, v⟩
  · exact Or.inl (by rw [e 191 (by omega) (by omega) (by omega)]; exact h)
  · exact Or.inr ⟨T0, S, w, RU_o u (e 191 (by omega) (by omega) (by omega)), RV_o v e0 (fun o a b c => e o a (by omega) c)⟩
theorem BD_lt {T : Nat → Nat} (h : BD T) {k : Nat} (h1 : 1 ≤ k) (h2 : k < 11) (h3 : k ≠ 2) : T k < 2 ^ 31 := by
  obtain ⟨a1, a2, a3, a4, a5, a6, a7, a8, a9, a10, _⟩ := h
  obtain rfl | rfl | rfl | rfl | rfl | rfl | rfl | rfl | rfl : k = 1 ∨ k = 3 ∨ k = 4 ∨ k = 5 ∨ k = 6 ∨ k = 7 ∨ k = 8 ∨ k = 9 ∨ k = 10 := by omega
  all_goals omega
theorem solves_85 (n : Nat) (μ : Mu) {T : Nat → Nat} {s S : Nat} (hW : WF T) (h11 : T 11 ≤ 139) (h12 : T 12 ≤ 139) (h40 : s ≤ 40) (h6 : bhS T (s + 1) ≤ 6000) (hT : TD μ T) (hU : RU μ T) (hV : RV μ T S) (hn : 20000 < n) :
    Ok (X12_solves_85 n (nI s) μ) (fun a μ' => a = 1 ∧ TD μ' T ∧ RU μ' T ∧ ∃ S', s < S' ∧ RV μ' T S') := by
  unfold X12_solves_85
  have v1 := hV.1
  rw [hV.2.2.1]
  by_cases c : S ≤ s
  · rw [if_pos (by rw [iv_n, iv_lt (by omega) (by omega) (by omega) (by omega)]; omega), bS (copies_s n μ (by decide) (by decide) (by decide) (by decide) (by decide) (by decide) (by decide) (by omega))]
    dsimp only
    refine Ok_m (solves_lv n _ (S0 := S) hW h11 h12 h40 h6 (by omega) ?_ ?_ ?_ ?_ hn) ?_
    · exact TX_o (TX_td hT hW) (funext (fun k => mvF_o μ (by decide) 25))
    · intro k hk
      rw [mvF_d, if_pos ⟨Nat.zero_le _, by omega⟩, Nat.sub_zero, Nat.zero_add]
      exact hT k hk
    · exact RU_o hU (funext (fun k => mvF_o μ (by decide) 25))
    · exact RV_o hV (mvF_o μ (by decide) 25) (fun o a b c => funext (fun k => mvF_o μ (by omega) 25))
    · rintro a μ' ⟨q1, q2, q3, q4⟩
      exact ⟨q1, q2, q3, s + 1, by omega, q4⟩
  · rw [if_neg (by rw [iv_n, iv_lt (by omega) (by omega) (by omega) (by omega)]; omega)]
    exact Ok_r ⟨rfl, hT, hU, S, by omega, hV⟩
theorem solves_46 (n : Nat) (μ : Mu) {T : Nat → Nat} {s : Nat} (hW : WF T) (h11 : T 11 ≤ 139) (h12 : T 12 ≤ 139) (h40 : s ≤ 40) (h6 : bhS T (s + 1) ≤ 6000) (hT : TD μ T) (hn : 20000 < n) :
    Ok (X12_solves_46 n (nI s) 1 μ) (fun a μ' => a = 1 ∧ TD μ' T ∧ RU μ' T ∧ ∃ S', s < S' ∧ RV μ' T S') := by
  unfold X12_solves_46
  rw [i_1]
  refine Ok_lp1 (fun f x4 μ' => ∃ j, 1 ≤ j ∧ j ≤ 11 ∧ f = 11 - j ∧ x4 = nI j ∧ TD μ' T ∧ ∀ k, 1 ≤ k → k < j → μ'.1 191 k = nI (T k)) ?_ 10 (by omega) ⟨1, by omega, by omega, rfl, rfl, hT, fun k a b => by omega⟩
  rintro K f x4 μ1 ⟨j, hj1, hj2, rfl, rfl, hT1, hc⟩ hK
  unfold X12_solves_46b
  rw [i_10, ifLt (by decide) (by omega)]
  by_cases c : 10 < j
  · rw [if_pos c]
    refine solves_85 n _ (S := 0) hW h11 h12 h40 h6 ?_ ?_ ?_ hn
    · exact TD_o hT1 (by rw [si_o (by decide), si_o (by decide)])
    · intro k a b e
      rw [si_b (by decide), si_b (by decide)]
      exact hc k a (by omega)
    · refine ⟨by omega, Nat.zero_le _, ?_, fun t ht => ?_, fun sd s' k a b => by omega⟩
      · rw [si_b (by decide), si_a]; exact iv_m1
      · rw [show t = 0 by omega, si_a]; rfl
  · rw [if_neg c, gd_n (by omega) (by decide), gd_n (by omega) (by decide), nI_clamp (by omega), i_1, nI_add, hT1 j (by omega)]
    refine hK (11 - (j + 1)) _ _ (by omega) ⟨j + 1, by omega, by omega, rfl, rfl, TD_o hT1 (by rw [si_o (by decide)]), fun k a b => ?_⟩
    by_cases z : k = j
    · rw [z, si_a]
    · rw [si_c z]; exact hc k a (by omega)
theorem solves_s (n : Nat) (μ : Mu) {T : Nat → Nat} {s : Nat} (hW : WF T) (h11 : T 11 ≤ 139) (h12 : T 12 ≤ 139) (h40 : s ≤ 40) (hT : TD μ T) (hI : RI μ) (hn : 20000 < n) :
    Ok (X12_solves n (nI s) μ) (fun a μ' => TD μ' T ∧ RI μ' ∧ a = b2i (decide (bhS T (s + 1) ≤ 6000)) ∧ (bhS T (s + 1) ≤ 6000 → ∃ S, s < S ∧ RV μ' T S)) := by
  have hB := hW.1
  have b1 := hB.1
  have hop := opn_le (T := T)
  have b6 := hB.2.1
  unfold X12_solves X12_solves_5
  refine Ok_lp2 (fun f x2 x4 μ' => ∃ j, j ≤ s + 1 ∧ f = s + 1 - j ∧ x2 = lN (bhS T j) ∧ bhS T j ≤ 6000 ∧ x4 = nI j ∧ TD μ' T ∧ RI μ') ?_ (s + 1) (by omega) ⟨0, by omega, rfl, rfl, Nat.zero_le _, rfl, hT, hI⟩
  rintro K f x2 x4 μ1 ⟨j, hj, rfl, rfl, hj6, rfl, hT1, hI1⟩ hK
  unfold X12_solves_5b
  rw [ifLt (by omega) (by omega)]
  by_cases c : s < j
  · obtain rfl : j = s + 1 := by omega
    rw [if_pos c]
    refine Ok_b (areRules_s n μ1 (by omega)) ?_
    rintro _ μ2 ⟨rfl, b, rfl, hb⟩
    dsimp only
    have fin : ∀ a μ', (a = (1 : Int32) ∧ TD μ' T ∧ RU μ' T ∧ ∃ S', s < S' ∧ RV μ' T S') → (TD μ' T ∧ RI μ' ∧ a = b2i (decide (bhS T (s + 1) ≤ 6000)) ∧ (bhS T (s + 1) ≤ 6000 → ∃ S, s < S ∧ RV μ' T S)) := by
      rintro a μ' ⟨rfl, q1, q2, S', q3, q4⟩
      exact ⟨q1, Or.inr ⟨T, S', hW, q2, q4⟩, by rw [decide_eq_true hj6]; rfl, fun _ => ⟨S', q3, q4⟩⟩
    cases b with
    | false =>
      rw [if_pos (show b2i false = 0 from rfl)]
      exact Ok_m (solves_46 n μ2 hW h11 h12 h40 hj6 hT1 hn) fin
    | true =>
      rw [if_neg (show ¬ b2i true = 0 by decide)]
      have hb' := hb.mp rfl
      rcases hI1 with h0 | ⟨T0, S, w0, u0, v0⟩
      · have := hb' 1 (by omega) (by omega) (by omega)
        rw [h0, hT1 1 (by omega), nI_eq (by omega) (by omega)] at this
        omega
      · have r : RE T T0 := by
          intro k a b
          have := hb' k a.1 a.2 b
          rw [u0 k a.1 a.2 b, hT1 k (by omega), nI_eq (BD_lt w0.1 a.1 a.2 b) (BD_lt hB a.1 a.2 b)] at this
          exact this
        refine Ok_m (solves_85 n μ2 hW h11 h12 h40 hj6 hT1 (fun k a b e => ?_) (RV_re r hW v0) hn) fin
        rw [hb' k a b e, hT1 k (by omega)]
  · rw [if_neg c]
    refine Ok_b (positionsOf_s n μ1 hB hT1 (by omega) (by omega)) ?_
    rintro _ μ2 ⟨rfl, ko⟩
    dsimp only
    have hw := Wn_lt (m := opnN T) (s := j) (by omega) (by omega)
    rw [lN_add, ← bh_s, ifIff lg_leI, show (6000 : Int64) = lN 6000 from rfl, ifIff (pk_lLE (by rw [bh_s]; omega) (by decide))]
    have hT2 := TD_o hT1 (ko.1 172 (by decide) (by decide))
    have hI2 := RI_o hI1 (ko.2.2 40 (by decide)) (fun o a b c => ko.1 o (by omega) (by omega))
    by_cases c2 : bhS T (j + 1) ≤ 6000
    · rw [if_pos c2, i_1, nI_add]
      exact hK (s + 1 - (j + 1)) _ _ _ (by omega) ⟨j + 1, by omega, rfl, rfl, c2, rfl, hT2, hI2⟩
    · rw [if_neg c2]
      have hno : ¬ bhS T (s + 1) ≤ 6000 := fun q => c2 (Nat.le_trans (bh_mo (by omega)) q)
      exact Ok_r ⟨hT2, hI2, by rw [decide_eq_false hno]; rfl, fun q => absurd q hno⟩
