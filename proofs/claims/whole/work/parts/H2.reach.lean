/-! call: reached -/
def gaL (g : Nat → Nat × (Nat → Nat → Nat) → Nat × (Nat → Nat → Nat)) : Nat → Nat → Nat × (Nat → Nat → Nat) → Nat × (Nat → Nat → Nat)
  | 0, _, S => S
  | c + 1, i, S => gaL g c (i + 1) (g i S)
def gaF : Nat → (Nat → Nat) → Nat × (Nat → Nat → Nat) → Nat × (Nat → Nat → Nat)
  | 0, T, S => insB S T
  | d + 1, T, S => gaL (fun p S => if canP T p = true then gaF d (nxB T p) S else S) 12 0 S
def gaG (d : Nat) (T : Nat → Nat) (p : Nat) (S : Nat × (Nat → Nat → Nat)) : Nat × (Nat → Nat → Nat) := if canP T p = true then gaF d (nxB T p) S else S
theorem ga_s {d : Nat} {T : Nat → Nat} {S : Nat × (Nat → Nat → Nat)} : gaF (d + 1) T S = gaL (gaG d T) 12 0 S := rfl
theorem gaL_s {g : Nat → Nat × (Nat → Nat → Nat) → Nat × (Nat → Nat → Nat)} {c i : Nat} {S : Nat × (Nat → Nat → Nat)} : gaL g (c + 1) i S = gaL g c (i + 1) (g i S) := rfl
theorem gaL_id {g : Nat → Nat × (Nat → Nat → Nat) → Nat × (Nat → Nat → Nat)} {S : Nat × (Nat → Nat → Nat)} : ∀ c i, (∀ x, i ≤ x → x < i + c → g x S = S) → gaL g c i S = S := by
  intro c
  induction c with
  | zero => intro i _; rfl
  | succ c ih => intro i h; rw [gaL_s, h i (Nat.le_refl _) (by omega)]; exact ih (i + 1) (fun x a b => h x (by omega) (by omega))
theorem nc_6 {T : Nat → Nat} (b6 : T 1 < 7) : ncP T ≤ 6 := by
  have hol := off_le (T 1) (T 2)
  have far : ∀ p, (p < offN (T 1) (T 2) ∨ offN (T 1) (T 2) + T 1 ≤ p) → (if canP T p = true then 1 else 0) = 0 := by
    intro p hp
    refine if_neg (fun q => ?_)
    obtain ⟨w', hw, e, _⟩ := canP_t.mp q
    omega
  have e12 : (12 : Nat) = offN (T 1) (T 2) + (T 1 + (12 - offN (T 1) (T 2) - T 1)) := by omega
  have e2 : ∀ k, sumF (fun _ => 1) k = k := by
    intro k
    induction k with
    | zero => rfl
    | succ k ih => rw [sumF, ih]
  have h2 := (sum_gr (f := fun x => if canP T (offN (T 1) (T 2) + x) = true then 1 else 0) (g := fun _ => 1) (T 1) (fun k _ => by split <;> omega)).1
  rw [e2] at h2
  have h1 : ncP T = sumF (fun x => if canP T (offN (T 1) (T 2) + x) = true then 1 else 0) (T 1) := by
    unfold ncP
    rw [e12, sum_split, sum_split, sum0 (offN (T 1) (T 2)) (fun x hx => far x (Or.inl hx)), sum0 (12 - offN (T 1) (T 2) - T 1) (fun x hx => far _ (Or.inr (by omega))), Nat.zero_add, Nat.add_zero]
  omega
theorem ins_le {S : Nat × (Nat → Nat → Nat)} {T : Nat → Nat} : (insB S T).1 ≤ S.1 + 1 := by
  unfold insB
  split
  · omega
  · exact Nat.le_refl _
def cnP (T : Nat → Nat) (p : Nat) : Nat := sumF (fun p => if canP T p = true then 1 else 0) p
theorem cn_y {T : Nat → Nat} {p : Nat} (b6 : T 1 < 7) (h : canP T p = true) : cnP T (p + 1) = cnP T p + 1 ∧ cnP T p + 1 ≤ 6 := by
  have h1 : cnP T (p + 1) = cnP T p + 1 := by unfold cnP; rw [sumF, h, if_pos rfl]
  have := canP_lt h
  have h2 : cnP T (p + 1) ≤ ncP T := sum_mo 12 (by omega)
  have h3 := nc_6 b6
  exact ⟨h1, by omega⟩
theorem cn_n {T : Nat → Nat} {p : Nat} (h : ¬ canP T p = true) : cnP T (p + 1) = cnP T p := by unfold cnP; rw [sumF, if_neg h]; rfl
theorem mul_6 {q x : Nat} (h : q + 1 ≤ 6) : q * x + x ≤ 6 * x := by
  have := Nat.mul_le_mul_right x h
  rw [Nat.add_mul, Nat.one_mul] at this
  exact this
/-! the class -/
def KZ (i : Nat) (μ μ' : Mu) : Prop := ∀ o, ¬ (KD i o ∨ o = 25 ∨ o = 30) → μ'.1 o = μ.1 o
theorem KZ.tr {i : Nat} {μ μ1 μ2 : Mu} (h : KZ i μ μ1) (g : KZ i μ1 μ2) : KZ i μ μ2 := fun o q => by rw [g o q, h o q]
theorem KZ_kd {i : Nat} {μ μ1 : Mu} (h : KP (KD i) μ μ1) : KZ i μ μ1 := fun o q => h.1 o (fun z => q (Or.inl z))
theorem GE_kz {μ μ' : Mu} {T : Nat → Nat} {i : Nat} (h : GE μ T) (k : KZ i μ μ') : GE μ' T := GE_o h (k 1 (by unfold KD RS; omega)) (k 2 (by unfold KD RS; omega)) (k 3 (by unfold KD RS; omega))
theorem SC_kz {μ μ' : Mu} {T : Nat → Nat} {i : Nat} (hi : i < 7) (h : SC μ (155 + 2 * i) T) (k : KZ i μ μ') : SC μ' (155 + 2 * i) T := SC_o h (k _ (by unfold KD RS; omega)) (k _ (by unfold KD RS; omega))
theorem HT_kd {μ μ' : Mu} {S : Nat × (Nat → Nat → Nat)} {i : Nat} (h : HT μ S) (k : KP (KD i) μ μ') : HT μ' S := HT_o h (k.1 25 (by unfold KD RS; omega)) (k.1 30 (by unfold KD RS; omega)) k.2
theorem gather_s (n : Nat) (hn : 20000 < n) : ∀ d fuel i, d < fuel → i + d ≤ 4 → ∀ (μ : Mu) (T : Nat → Nat) (S : Nat × (Nat → Nat → Nat)), W1 T → GE μ T → SC μ (155 + 2 * i) T → HT μ S → S.1 + 6 ^ d ≤ 1296 → Ok (lpF (fun _ _ _ => none) (X0_gather_body n) fuel (nI i) (nI (i + d)) μ) (fun _ μ' => HT μ' (gaF d T S) ∧ (gaF d T S).1 ≤ S.1 + 6 ^ d ∧ KZ i μ μ') := by
  intro d
  induction d with
  | zero =>
    intro fuel i hf hi μ T S hT hG hS hH hb
    obtain ⟨fu, rfl⟩ : ∃ fu, fuel = fu + 1 := ⟨fuel - 1, by omega⟩
    rw [lpF_s]
    unfold X0_gather_body X0_gather_11
    rw [ifLe (by omega) (by omega), if_pos (by omega), gd_n (by omega) (by decide), nI_clamp (by omega)]
    refine Ok_b (note_s n μ (show i < 7 by omega) hT hS hH (by omega) hn) ?_
    rintro _ μ1 ⟨q1, q2⟩
    exact Ok_r ⟨q1, ins_le, fun o q => q2 o (fun z => q (Or.inr (Or.inl z))) (fun z => q (Or.inr (Or.inr z)))⟩
  | succ d ih =>
    intro fuel i hf hi μ T S hT hG hS hH hb
    obtain ⟨fu, rfl⟩ : ∃ fu, fuel = fu + 1 := ⟨fuel - 1, by omega⟩
    have hos := osr i (by omega)
    have b6 := hT.1.1.2.1
    rw [Nat.pow_succ, Nat.mul_comm] at hb
    rw [lpF_s]
    generalize hKe : lpF (fun _ _ _ => none) (X0_gather_body n) fu = K
    unfold X0_gather_body
    rw [ifLe (by omega) (by omega), if_neg (by omega), i_6, ifLt (by omega) (by decide), if_pos (by omega), gd_n (by omega) (by decide), nI_clamp (by omega)]
    refine Ok_b (choices_s n μ hos hT.1 hG hS (by omega)) ?_
    rintro _ μ1 ⟨k1, B, rfl, cb⟩
    dsimp only
    have kd1 : KP (KD i) μ μ1 := k1.up (fun o q => Or.inl q)
    unfold X0_gather_39
    rw [i_0]
    refine Ok_lp2 (fun f x3 x4 μ' => ∃ p X, p ≤ 12 ∧ f = 12 - p ∧ x3 = nI B ∧ x4 = nI p ∧ HT μ' X ∧ X.1 ≤ S.1 + cnP T p * 6 ^ d ∧ gaL (gaG d T) (12 - p) p X = gaF (d + 1) T S ∧ KZ i μ μ') ?_ 12 (by omega) ⟨0, S, by omega, rfl, rfl, rfl, HT_kd hH kd1, Nat.le_add_right _ _, rfl, KZ_kd kd1⟩
    rintro K2 f x3 x4 μ2 ⟨p, X, hp, rfl, rfl, rfl, hX, hXb, hg, k2⟩ hK2
    unfold X0_gather_39b X0_gather_70
    rw [i_12, ifLe (by decide) (by omega)]
    by_cases c : 12 ≤ p
    · obtain rfl : p = 12 := by omega
      rw [if_pos c]
      have hg2 : X = gaF (d + 1) T S := hg
      have h3 : cnP T 12 ≤ 6 := nc_6 b6
      have h4 := Nat.mul_le_mul_right (6 ^ d) h3
      refine Ok_r ⟨by rw [← hg2]; exact hX, ?_, k2⟩
      rw [← hg2, Nat.pow_succ, Nat.mul_comm (6 ^ d)]
      omega
    · obtain ⟨c', hc'⟩ : ∃ c', 12 - p = c' + 1 := ⟨12 - p - 1, by omega⟩
      rw [if_neg c, bS (has_s n μ2 (Nat.lt_trans cb.1 (by decide)) (by omega)), CB_p cb]
      dsimp only
      rw [hc', gaL_s] at hg
      cases hc : canP T p with
      | false =>
        have hcn : ¬ canP T p = true := by rw [hc]; decide
        rw [if_pos (show b2i false = 0 from rfl), i_1, nI_add]
        rw [show gaG d T p X = X from if_neg hcn] at hg
        exact hK2 (12 - (p + 1)) _ _ _ (by omega) ⟨p + 1, X, by omega, rfl, rfl, rfl, hX, by rw [cn_n hcn]; exact hXb, by rw [← hg, show 12 - (p + 1) = c' by omega], k2⟩
      | true =>
        obtain ⟨y1, y2⟩ := cn_y b6 hc
        have y3 := mul_6 (x := 6 ^ d) y2
        rw [if_neg (show ¬ b2i true = 0 by decide)]
        refine Ok_b (down_s n μ2 (show i < 6 by omega) hT (GE_kz hG k2) (SC_kz (by omega) hS k2) hc (by omega)) ?_
        rintro _ μ3 ⟨s3, k3⟩
        dsimp only
        obtain ⟨_, _, _, _, _, _, _, _, _, _, _, w1, re, _⟩ := nxB_d hT hc
        rw [i_1, nI_add, ← hKe]
        have := ih fu (i + 1) (by omega) (by omega) μ3 (nxB T p) X w1 (GE_re re (GE_kd (GE_kz hG k2) k3)) s3 (HT_kd hX k3) (by omega)
        rw [show i + 1 + d = i + (d + 1) by omega] at this
        refine Ok_b this ?_
        rintro _ μ4 ⟨h4, b4, k4⟩
        dsimp only
        rw [nI_add]
        rw [show gaG d T p X = gaF d (nxB T p) X from if_pos hc] at hg
        refine hK2 (12 - (p + 1)) _ _ _ (by omega) ⟨p + 1, gaF d (nxB T p) X, by omega, rfl, rfl, rfl, h4, ?_, by rw [← hg, show 12 - (p + 1) = c' by omega], (k2.tr (KZ_kd k3)).tr (fun o q => k4 o (fun z => q (by
          rcases z with z | z
          · exact Or.inl (KD_s z)
          · exact Or.inr z)))⟩
        rw [y1, Nat.add_mul, Nat.one_mul]
        omega
/-! the reference -/
theorem nx_0 {T : Nat → Nat} {p : Nat} (hT : W1 T) (hp : canP T p = true) : nxB T p 0 = T 0 := by
  obtain ⟨w, l, k, t, c', hw, rfl, hc, hf, hm, e, _⟩ := nxB_d hT hp
  rw [e]
  exact upT_r (by decide) (by decide)
def SM (U T : Nat → Nat) : Prop := W1 T ∧ RE U T ∧ T 0 = U 0
theorem eq25 {U X T : Nat → Nat} (hX : SM U X) (hT : SM U T) : (∀ k, k < 25 → nI (X k) = nI (T k)) ↔ (kyA X = kyA T ∧ kyB X = kyB T) := by
  rw [ky_eb hT.1 hX.1]
  constructor
  · intro h
    refine ⟨(nI_eq (by have := hX.1.1.2.1; omega) (by have := hT.1.1.2.1; omega)).mp (h 2 (by decide)), fun k hk => ?_⟩
    have b1 := cT_256 hX.1 hk
    have b2 := cT_256 hT.1 hk
    refine (nI_eq (by omega) (by omega)).mp ?_
    unfold cT
    by_cases z : k < 12
    · rw [if_pos z, if_pos z]; exact h (13 + k) (by omega)
    · rw [if_neg z, if_neg z]; exact h (k - 1) (by omega)
  · rintro ⟨h2, hc⟩ k hk
    congr 1
    by_cases z0 : k = 0
    · rw [z0, hX.2.2, hT.2.2]
    · by_cases z2 : k = 2
      · rw [z2]; exact h2
      · by_cases z11 : k < 11
        · rw [hX.2.1 k ⟨by omega, z11⟩ z2, hT.2.1 k ⟨by omega, z11⟩ z2]
        · by_cases z13 : k < 13
          · have := hc (k + 1) (by omega)
            unfold cT at this
            rw [if_neg (by omega), if_neg (by omega), Nat.add_sub_cancel] at this
            exact this
          · have := hc (k - 13) (by omega)
            unfold cT at this
            rw [if_pos (by omega), if_pos (by omega), show 13 + (k - 13) = k by omega] at this
            exact this
def RH (U : Nat → Nat) (μ : Mu) (S : Nat × (Nat → Nat → Nat)) : Prop := μ.1 171 47 = nI S.1 ∧ S.1 ≤ 1296 ∧ ∀ j, j < S.1 → SM U (S.2 j) ∧ ∀ k, k < 25 → μ.1 196 (25 * j + k) = nI (S.2 j k)
theorem RH_o {U : Nat → Nat} {μ μ' : Mu} {S : Nat × (Nat → Nat → Nat)} (h : RH U μ S) (e1 : μ'.1 171 47 = μ.1 171 47) (e2 : μ'.1 196 = μ.1 196) : RH U μ' S := by
  unfold RH
  rw [e1, e2]
  exact h
theorem isBoard_s (n : Nat) (μ : Mu) {X T : Nat → Nat} {j : Nat} (hj : j < 1296) (hX : ∀ k, k < 25 → μ.1 196 (25 * j + k) = nI (X k)) (hD : TD μ T) (hn : 1000 < n) : Ok (X12_isBoard n (nI j) μ) (fun a μ' => μ' = μ ∧ ((a = 1 ∧ ∀ k, k < 25 → nI (X k) = nI (T k)) ∨ (a = 0 ∧ ¬ ∀ k, k < 25 → nI (X k) = nI (T k)))) := by
  unfold X12_isBoard X12_isBoard_2
  rw [i_0]
  refine Ok_lp1 (fun f x2 μ' => ∃ i, i ≤ 25 ∧ f = 25 - i ∧ x2 = nI i ∧ μ' = μ ∧ ∀ k, k < i → nI (X k) = nI (T k)) ?_ 25 (by omega) ⟨0, by omega, rfl, rfl, rfl, fun k q => by omega⟩
  rintro K f x2 μ1 ⟨i, hi, rfl, rfl, rfl, hq⟩ hK
  unfold X12_isBoard_2b
  rw [i_25, ifLe (by decide) (by omega)]
  by_cases c : 25 ≤ i
  · rw [if_pos c]
    exact Ok_r ⟨rfl, Or.inl ⟨rfl, fun k hk => hq k (by omega)⟩⟩
  · rw [if_neg c, pk_mul, nI_add, gd_n (by omega) (by decide), gd_n (by omega) (by decide), nI_clamp (by omega), nI_clamp (by omega), hX i (by omega), hD i (by omega)]
    by_cases z : nI (X i) = nI (T i)
    · rw [if_pos z, i_1, nI_add]
      refine hK (25 - (i + 1)) _ _ (by omega) ⟨i + 1, by omega, rfl, rfl, rfl, fun k hk => ?_⟩
      by_cases zz : k = i
      · rw [zz]; exact z
      · exact hq k (by omega)
    · rw [if_neg z]
      exact Ok_r ⟨rfl, Or.inr ⟨rfl, fun q => z (q i (by omega))⟩⟩
theorem put_s (n : Nat) (K : Int32 → Mu → Option (Unit × Mu)) (v : Int32) (μ : Mu) {U T : Nat → Nat} {S : Nat × (Nat → Nat → Nat)} (hT : SM U T) (hD : TD μ T) (hH : RH U μ S) (hb : S.1 < 1296) (hn : 20000 < n) : Ok (X12_reaches_6 n K v 0 μ) (fun _ μ' => RH U μ' (insB S T) ∧ TD μ' T ∧ μ'.1 195 = μ.1 195) := by
  unfold X12_reaches_6
  rw [i_0]
  refine Ok_lp1 (fun f x2 μ' => ∃ i, i ≤ S.1 ∧ f = S.1 - i ∧ x2 = nI i ∧ μ' = μ ∧ ∀ j, j < i → ¬ (kyA (S.2 j) = kyA T ∧ kyB (S.2 j) = kyB T)) ?_ S.1 (by omega) ⟨0, by omega, rfl, rfl, rfl, fun k q => by omega⟩
  rintro K2 f x2 μ1 ⟨i, hi, rfl, rfl, rfl, hq⟩ hK
  have h196 : oN 196 = 32500 := by decide
  unfold X12_reaches_6b
  rw [hH.1, ifLe (by omega) (by omega)]
  by_cases c : S.1 ≤ i
  · obtain rfl : i = S.1 := by omega
    have hno : ¬ hasB S T = true := fun q => by
      obtain ⟨j, hj, kj⟩ := hasB_t.mp q
      exact hq j hj kj
    rw [if_pos c, bS (puts_s n μ1 (a := 196) (b := 172) (by decide) (by decide) (by rw [h196]; omega) (by decide) (by decide) (by decide) (by decide) (by omega))]
    dsimp only
    have eo : ∀ o, o ≠ 196 → (mvF μ1 172 0 196 (25 * S.1) 25).1 o = μ1.1 o := fun o ho => funext (fun k => mvF_o μ1 ho 25)
    rw [eo 171 (by decide), hH.1, i_1, nI_add, show insB S T = addB S T from if_neg hno]
    refine Ok_r ⟨⟨si_a, by show S.1 + 1 ≤ 1296; omega, fun j hj => ?_⟩, TD_o hD (by rw [si_o (by decide), eo 172 (by decide)]), by rw [si_o (by decide), eo 195 (by decide)]⟩
    have hj' : j < S.1 + 1 := hj
    show SM U (if j = S.1 then T else S.2 j) ∧ ∀ k, k < 25 → _ = nI ((if j = S.1 then T else S.2 j) k)
    by_cases z : j = S.1
    · rw [if_pos z, z]
      refine ⟨hT, fun k hk => ?_⟩
      rw [si_b (by decide), mvF_d, if_pos ⟨by omega, by omega⟩, Nat.add_sub_cancel_left, Nat.zero_add]
      exact hD k hk
    · rw [if_neg z]
      refine ⟨(hH.2.2 j (by omega)).1, fun k hk => ?_⟩
      rw [si_b (by decide), mvF_d, if_neg (by omega)]
      exact (hH.2.2 j (by omega)).2 k hk
  · obtain ⟨w1, w2⟩ := hH.2.2 i (by omega)
    rw [if_neg c]
    refine Ok_b (isBoard_s n μ1 (by omega) w2 hD (by omega)) ?_
    rintro a μ2 ⟨rfl, q⟩
    dsimp only
    rcases q with ⟨q, q1⟩ | ⟨q, q1⟩
    · rw [q, if_neg (show ¬ (1 : Int32) = 0 by decide), show insB S T = S from if_pos (hasB_t.mpr ⟨i, by omega, (eq25 w1 hT).mp q1⟩)]
      exact Ok_r ⟨hH, hD, rfl⟩
    · rw [q, if_pos rfl, i_1, nI_add]
      refine hK (S.1 - (i + 1)) _ _ (by omega) ⟨i + 1, by omega, rfl, rfl, rfl, fun j hj => ?_⟩
      by_cases zz : j = i
      · rw [zz]; exact fun z => q1 ((eq25 w1 hT).mpr z)
      · exact hq j (by omega)
theorem reaches_s (n : Nat) (hn : 20000 < n) (U : Nat → Nat) : ∀ d fuel, d < fuel → d ≤ 4 → ∀ (μ : Mu) (T : Nat → Nat) (S : Nat × (Nat → Nat → Nat)), SM U T → TD μ T → RH U μ S → S.1 + 6 ^ d ≤ 1296 → Ok (lpF (fun _ _ => none) (X12_reaches_body n) fuel (nI d) μ) (fun _ μ' => RH U μ' (gaF d T S) ∧ (gaF d T S).1 ≤ S.1 + 6 ^ d ∧ TD μ' T ∧ ∀ k, 25 * d + 25 ≤ k → μ'.1 195 k = μ.1 195 k) := by
  intro d
  induction d with
  | zero =>
    intro fuel hf hi μ T S hT hD hH hb
    obtain ⟨fu, rfl⟩ : ∃ fu, fuel = fu + 1 := ⟨fuel - 1, by omega⟩
    rw [lpF_s]
    unfold X12_reaches_body
    rw [if_pos (show nI 0 = 0 from rfl)]
    refine Ok_m (put_s n _ _ μ hT hD hH (by omega) hn) ?_
    rintro _ μ1 ⟨q1, q2, q3⟩
    exact ⟨q1, ins_le, q2, fun k _ => by rw [q3]⟩
  | succ d ih =>
    intro fuel hf hi μ T S hT hD hH hb
    obtain ⟨fu, rfl⟩ : ∃ fu, fuel = fu + 1 := ⟨fuel - 1, by omega⟩
    have hW := hT.1.1
    have b6 := hW.1.2.1
    have h195 : oN 195 = 175 := by decide
    rw [Nat.pow_succ, Nat.mul_comm] at hb
    rw [lpF_s]
    generalize hKe : lpF (fun _ _ => none) (X12_reaches_body n) fu = K
    unfold X12_reaches_body
    rw [if_neg (nI_ne0 (by omega) (by omega)), bS (puts_s n μ (a := 195) (b := 172) (by decide) (by decide) (by rw [h195]; omega) (by decide) (by decide) (by decide) (by decide) (by omega))]
    dsimp only
    unfold X12_reaches_69
    rw [i_0]
    have t0 : TD (mvF μ 172 0 195 (25 * (d + 1)) 25) T := TD_o hD (funext (fun k => mvF_o μ (by decide) 25))
    have r0 : ∀ k, k < 25 → (mvF μ 172 0 195 (25 * (d + 1)) 25).1 195 (25 * (d + 1) + k) = nI (T k) := fun k hk => by
      rw [mvF_d, if_pos ⟨by omega, by omega⟩, Nat.add_sub_cancel_left, Nat.zero_add]
      exact hD k hk
    have r1 : ∀ k, 25 * (d + 1) + 25 ≤ k → (mvF μ 172 0 195 (25 * (d + 1)) 25).1 195 k = μ.1 195 k := fun k hk => by
      rw [mvF_d, if_neg (by omega)]
    have rh0 : RH U (mvF μ 172 0 195 (25 * (d + 1)) 25) S := RH_o hH (mvF_o μ (by decide) 25) (funext (fun k => mvF_o μ (by decide) 25))
    generalize mvF μ 172 0 195 (25 * (d + 1)) 25 = μ0 at *
    refine Ok_lp1 (fun f x2 μ' => ∃ p X, p ≤ 2 * T 1 ∧ f = 2 * T 1 - p ∧ x2 = nI p ∧ RH U μ' X ∧ X.1 ≤ S.1 + cnP T p * 6 ^ d ∧ gaL (gaG d T) (12 - p) p X = gaF (d + 1) T S ∧ TD μ' T ∧ (∀ k, k < 25 → μ'.1 195 (25 * (d + 1) + k) = nI (T k)) ∧ ∀ k, 25 * (d + 1) + 25 ≤ k → μ'.1 195 k = μ.1 195 k) ?_ (2 * T 1) (by omega) ⟨0, S, by omega, rfl, rfl, rh0, Nat.le_add_right _ _, rfl, t0, r0, r1⟩
    rintro K2 f x2 μ1 ⟨p, X, hp, rfl, rfl, hX, hXb, hg, t1, q0, q1⟩ hK2
    unfold X12_reaches_69b X12_reaches_113
    rw [bS (pitMany_s n μ1 (t1 1 (by omega)))]
    dsimp only
    rw [ifLe (by omega) (by omega)]
    by_cases c : 2 * T 1 ≤ p
    · obtain rfl : p = 2 * T 1 := by omega
      rw [if_pos c]
      have hid : gaL (gaG d T) (12 - 2 * T 1) (2 * T 1) X = X := gaL_id _ _ (fun x a _ => show gaG d T x X = X from if_neg (fun q => by have := canP_lt q; omega))
      rw [hid] at hg
      have h3 : cnP T (2 * T 1) ≤ ncP T := sum_mo 12 (by omega)
      have h3' := nc_6 b6
      have h4 := Nat.mul_le_mul_right (6 ^ d) (show cnP T (2 * T 1) ≤ 6 by omega)
      refine Ok_r ⟨by rw [← hg]; exact hX, ?_, t1, q1⟩
      rw [← hg, Nat.pow_succ, Nat.mul_comm (6 ^ d)]
      omega
    · obtain ⟨c', hc'⟩ : ∃ c', 12 - p = c' + 1 := ⟨12 - p - 1, by omega⟩
      rw [hc', gaL_s] at hg
      rw [if_neg c]
      refine Ok_b (ask_s n μ1 hW t1 (by omega) (by omega)) ?_
      rintro a μ2 ⟨kr, ha⟩
      dsimp only
      have t2 := KR_TD kr t1
      have e2 : μ2.1 195 = μ1.1 195 := kr.1 195 (by decide) (by decide)
      have hX2 : RH U μ2 X := RH_o hX (kr.2.2 47 (by omega)) (kr.1 196 (by decide) (by decide))
      by_cases hc : canP T p = true
      · obtain ⟨y1, y2⟩ := cn_y b6 hc
        have y3 := mul_6 (x := 6 ^ d) y2
        rw [if_pos (ha.mpr hc)]
        refine Ok_b (mvP_s n μ2 hT.1 t2 hc (by omega)) ?_
        rintro _ μ3 ⟨t3, k3⟩
        dsimp only
        have e3 : μ3.1 195 = μ2.1 195 := k3.1 195 (by decide) (by decide) (by decide)
        have hX3 : RH U μ3 X := RH_o hX2 (k3.2.2 47 (by omega)) (k3.1 196 (by decide) (by decide) (by decide))
        obtain ⟨_, _, _, _, _, _, _, _, _, _, _, w1, re, _⟩ := nxB_d hT.1 hc
        have hT3 : SM U (nxB T p) := ⟨w1, hT.2.1.tr re, by rw [nx_0 hT.1 hc]; exact hT.2.2⟩
        rw [i_1, pk_sub (by omega), Nat.add_sub_cancel, ← hKe]
        refine Ok_b (ih fu (by omega) (by omega) μ3 (nxB T p) X hT3 t3 hX3 (by omega)) ?_
        rintro _ μ4 ⟨h4, b4, t4, r4⟩
        dsimp only
        rw [bS (gets_s n μ4 (a := 195) (b := 172) (by decide) (by decide) (by rw [h195]; omega) (by decide) (by decide) (by decide) (by decide) (by omega))]
        dsimp only
        rw [nI_add]
        rw [show gaG d T p X = gaF d (nxB T p) X from if_pos hc] at hg
        have e5 : ∀ o, o ≠ 172 → (mvF μ4 195 (25 * (d + 1)) 172 0 25).1 o = μ4.1 o := fun o ho => funext (fun k => mvF_o μ4 ho 25)
        refine hK2 (2 * T 1 - (p + 1)) _ _ (by omega) ⟨p + 1, gaF d (nxB T p) X, by omega, rfl, rfl, RH_o h4 (by rw [e5 171 (by decide)]) (e5 196 (by decide)), ?_, by rw [← hg, show 12 - (p + 1) = c' by omega], fun k hk => ?_, fun k hk => ?_, fun k hk => ?_⟩
        · rw [y1, Nat.add_mul, Nat.one_mul]
          omega
        · rw [mvF_d, if_pos ⟨by omega, by omega⟩, Nat.sub_zero, r4 _ (by omega), e3, e2]
          exact q0 k hk
        · rw [e5 195 (by decide), r4 _ (by omega), e3, e2]
          exact q0 k hk
        · rw [e5 195 (by decide), r4 _ (by omega), e3, e2]
          exact q1 k hk
      · rw [if_neg (fun z => hc (ha.mp z)), i_1, nI_add]
        rw [show gaG d T p X = X from if_neg hc] at hg
        exact hK2 (2 * T 1 - (p + 1)) _ _ (by omega) ⟨p + 1, X, by omega, rfl, rfl, hX2, by rw [cn_n hc]; exact hXb, by rw [← hg, show 12 - (p + 1) = c' by omega], t2, fun k hk => by rw [e2]; exact q0 k hk, fun k hk => by rw [e2]; exact q1 k hk⟩
