/-! the reference makes a move -/
def KM (μ μ' : Mu) : Prop := (∀ o, o ≠ 171 → o ≠ 172 → o ≠ 178 → μ'.1 o = μ.1 o) ∧ μ'.2 = μ.2 ∧ (∀ k, k < 18 ∨ 23 < k → μ'.1 171 k = μ.1 171 k)
theorem KM.rf {μ : Mu} : KM μ μ := ⟨fun _ _ _ _ => rfl, rfl, fun _ _ => rfl⟩
theorem KM.tr {μ μ1 μ2 : Mu} (h : KM μ μ1) (h2 : KM μ1 μ2) : KM μ μ2 := ⟨fun o o1 o2 o3 => by rw [h2.1 o o1 o2 o3, h.1 o o1 o2 o3], by rw [h2.2.1, h.2.1], fun k hk => by rw [h2.2.2 k hk, h.2.2 k hk]⟩
theorem KR.km {μ μ' : Mu} (h : KR μ μ') : KM μ μ' := ⟨fun o o1 _ o3 => h.1 o o1 o3, h.2.1, h.2.2⟩
theorem KM.t {μ μ' : Mu} (h : KM μ μ') {k : Nat} {v : Int32} : KM μ (si μ' 172 k v) := ⟨fun o o1 o2 o3 => by rw [si_o o2, h.1 o o1 o2 o3], h.2.1, fun k hk => by rw [si_b (by decide), h.2.2 k hk]⟩
theorem TD_si {μ : Mu} {k v : Nat} {T : Nat → Nat} (h : TD μ T) : TD (si μ 172 k (nI v)) (ups T k v) := by
  intro x hx
  by_cases q : x = k
  · rw [q, si_a, ups_a]
  · rw [si_c q, ups_b q, h x hx]
theorem TD_cg {μ : Mu} {T T' : Nat → Nat} (h : TD μ T) (e : ∀ k, k < 25 → T k = T' k) : TD μ T' := by
  intro x hx
  rw [h x hx, e x hx]
def cpT (T c : Nat → Nat) (x : Nat) : Nat → Nat := fun k => if 13 ≤ k ∧ k < 13 + x then c (k - 13) else T k
theorem cpT_t {T c : Nat → Nat} {x k : Nat} (h : 13 ≤ k ∧ k < 13 + x) : cpT T c x k = c (k - 13) := if_pos h
theorem cpT_f {T c : Nat → Nat} {x k : Nat} (h : ¬ (13 ≤ k ∧ k < 13 + x)) : cpT T c x k = T k := if_neg h
theorem moves_s (n : Nat) (μ : Mu) {T : Nat → Nat} {w l k t : Nat} {c' : Nat → Nat} (hW : WF T) (hT : TD μ T) (hw : w < T 1) (hf : fulW T w = true) (hm : mvW T w = some (l, k, t, c')) (hn : 1000 < n) :
    Ok (X12_moves n (nI (cI (T 1) (T 2) w)) μ) (fun a μ' => a = nI (c' (12 + T 2) - cT T (12 + T 2)) ∧ TD μ' (upT T c' (thN T (T 2) l)) ∧ KM μ μ') := by
  have hB := hW.1
  obtain ⟨b1, b6, b3, bb⟩ := hB
  have hs := hW.2.1
  obtain ⟨on, hne⟩ := ful_t.mp hf
  obtain ⟨m1, m2, m3, m4, m5, m6⟩ := mv_p b6 b1 hs hw on hne hm
  unfold X12_moves X12_moves_7
  refine Ok_b (tries_s n μ hW hT hw hf hn) ?_
  rintro a μ2 ⟨k2, -, s2, s3⟩
  obtain ⟨g1, g2, g3, g4, g5, g6, g7⟩ := s3 l k t c' hm
  have hT2 := KR_TD k2 hT
  dsimp only
  rw [i_0]
  refine Ok_lp1 (fun k x1 μ' => ∃ p, p ≤ 2 * T 1 ∧ k = 2 * T 1 - p ∧ x1 = nI p ∧ KM μ μ' ∧ TD μ' (cpT T c' p) ∧ μ'.1 171 = μ2.1 171 ∧ μ'.1 178 = μ2.1 178) ?_ (2 * T 1) (by omega) ⟨0, by omega, by omega, rfl, k2.km, TD_cg hT2 (fun k hk => by rw [cpT_f (by omega)]), rfl, rfl⟩
  rintro K k x1 μ' ⟨p, hp, rfl, rfl, hk, hT', e1, e8⟩ hK
  unfold X12_moves_7b
  have t1 : μ'.1 172 1 = nI (T 1) := by rw [hT' 1 (by decide), cpT_f (by omega)]
  have t2 : μ'.1 172 2 = nI (T 2) := by rw [hT' 2 (by decide), cpT_f (by omega)]
  have t11 : μ'.1 172 (11 + T 2) = nI (T (11 + T 2)) := by rw [hT' (11 + T 2) (by omega), cpT_f (by omega)]
  rw [bS (pitMany_s n μ' t1)]
  dsimp only
  rw [ifLe (by omega) (by omega)]
  by_cases q : 2 * T 1 ≤ p
  · obtain rfl : p = 2 * T 1 := by omega
    have eb : cT T (12 + T 2) = T (11 + T 2) := by
      unfold cT
      rw [if_neg (by omega), show 12 + T 2 - 1 = 11 + T 2 by omega]
    have q1 : ∀ v k, (si μ' 172 (11 + T 2) v).1 171 k = μ2.1 171 k := fun v k => by rw [si_b (by decide), e1]
    rw [if_pos q, t2, i_11, nI_add, gd_n (by omega) (by decide), nI_clamp (by omega), t11, e1, g5, nI_add, si_b (by decide), q1, q1, g5, g6]
    refine Ok_r ⟨rfl, ?_, (hk.t).t⟩
    refine TD_cg (TD_si (TD_si hT')) (fun k hk => ?_)
    unfold upT
    by_cases z2 : k = 2
    · rw [z2, ups_a, if_pos rfl]
    · rw [ups_b z2, if_neg z2]
      by_cases z11 : k = 11 + T 2
      · rw [z11, ups_a]
        have : T (11 + T 2) + (c' (12 + T 2) - cT T (12 + T 2)) = c' (12 + T 2) := by omega
        rw [this]
        obtain z | z : T 2 = 0 ∨ T 2 = 1 := by omega
        · rw [z, if_pos rfl]
        · rw [z, if_neg (by decide), if_pos rfl]
      · rw [ups_b z11]
        by_cases z12 : k = 12 - T 2
        · rw [cpT_f (by omega)]
          obtain z | z : T 2 = 0 ∨ T 2 = 1 := by omega
          · rw [z] at z12 m5
            have : k = 12 := z12
            rw [this, if_neg (by decide), if_pos rfl]
            exact m5.symm
          · rw [z] at z12 m5
            have : k = 11 := z12
            rw [this, if_pos rfl]
            exact m5.symm
        · rw [if_neg (by omega), if_neg (by omega)]
          by_cases z13 : 13 ≤ k ∧ k < 13 + 2 * T 1
          · rw [cpT_t z13, if_pos (by omega)]
          · rw [cpT_f z13]
            by_cases z25 : 13 ≤ k ∧ k < 25
            · rw [if_pos z25]
              have h7 := hW.2.2.2.2.2.2 (k - 13) (by omega) (Or.inr (by omega))
              rw [show 13 + (k - 13) = k by omega] at h7
              rw [m6 (k - 13) (by omega) (offW_l b6 b1 hs (by omega) (Or.inr (by omega))) (by
                unfold cT
                rw [if_pos (by omega), show 13 + (k - 13) = k by omega, h7]), h7]
            · rw [if_neg z25]
  · rw [if_neg q, gd_n (by omega) (by decide), i_13, nI_add, gd_n (by omega) (by decide), nI_clamp (by omega), nI_clamp (by omega), e8, g7 p (by omega), i_1, nI_add]
    refine hK (2 * T 1 - (p + 1)) _ _ (by omega) ⟨p + 1, by omega, rfl, rfl, hk.t, TD_cg (TD_si hT') (fun k hk => ?_), by rw [si_o (by decide), e1], by rw [si_o (by decide), e8]⟩
    by_cases z : k = 13 + p
    · rw [z, ups_a, cpT_t (by omega), Nat.add_sub_cancel_left]
    · rw [ups_b z]
      by_cases z2 : 13 ≤ k ∧ k < 13 + p
      · rw [cpT_t z2, cpT_t (by omega)]
      · rw [cpT_f z2, cpT_f (by omega)]
