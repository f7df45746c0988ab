/-! calls: tally, find, most -/
theorem needSolved_s (n : Nat) (μ : Mu) {T : Nat → Nat} {b : Nat} (hI : INT μ T) (hb : b ≤ 40) (hn : 20000 < n) : Ok (X11_needSolved n (nI b) μ) (fun x μ1 => CI μ1 ∧ NOW μ1 T ∧ ((bhS T (b + 1) ≤ 6000 ∧ x = .inl () ∧ ∃ S, b < S ∧ CV μ1 T S) ∨ (¬ bhS T (b + 1) ≤ 6000 ∧ x = .inr 2))) := by
  unfold X11_needSolved
  refine Ok_b (rea_s n μ hI.1.1 hI.2.2.1 hb hI.2.2.2.1 hn) ?_
  rintro _ μ1 ⟨rfl, c1, n1, q⟩
  dsimp only
  by_cases z : bhS T (b + 1) ≤ 6000
  · rw [decide_eq_true z, if_neg (show ¬ b2i true = 0 by decide)]
    exact Ok_r ⟨c1, n1, Or.inl ⟨z, rfl, q z⟩⟩
  · rw [decide_eq_false z, if_pos (show b2i false = 0 from rfl)]
    exact Ok_r ⟨c1, n1, Or.inr ⟨z, rfl⟩⟩
def tlB (T : Nat → Nat) (a b what c : Nat) : Bool := if what = 0 then decide (0 < VL T 41 a b c) else if what = 1 then decide (VL T 41 a b c = 0) else if what = 2 then decide (VL T 41 a b c < 0) else enD T a b c
theorem iv0 : (0 : Int32) = iv 0 := rfl
theorem isOfKind_s (n : Nat) (μ : Mu) {T : Nat → Nat} {S a b c what : Nat} (hW : WF T) (hV : CV μ T S) (hs : b < S) (ha : a < 2) (hc : c < Wn (opnN T) b) (hw : what ≤ 3) : X7_isOfKind n (nI (ixC T a b c)) (nI what) μ = some (b2i (tlB T a b what c), μ) := by
  obtain ⟨_, hx, v1, v2⟩ := cv_at hV hs ha hc
  have hS := hV.1
  have vb := VL_b hW 41 (by omega) a b c ha (by omega) hc
  unfold X7_isOfKind X7_isOfKind_42 X7_isOfKind_57 X7_isOfKind_72 X7_isOfKind_88 tlB
  rw [gd_n hx (by decide), gd_n hx (by decide), gd_n hx (by decide), gd_n hx (by decide), nI_clamp (by omega), v1, v2]
  obtain rfl | rfl | rfl | rfl : what = 0 ∨ what = 1 ∨ what = 2 ∨ what = 3 := by omega
  · rw [if_pos (show nI 0 = (0 : Int32) from rfl), if_pos (show 0 = 0 from rfl), iv0, ifIff (iv_le (by omega) (by omega) (by omega) (by omega))]
    by_cases z : VL T 41 a b c ≤ 0
    · rw [if_pos z, decide_eq_false (by omega)]; rfl
    · rw [if_neg z, decide_eq_true (by omega)]; rfl
  · rw [if_neg (show ¬ nI 1 = (0 : Int32) by decide), if_pos (show nI 1 = (1 : Int32) from rfl), if_neg (show ¬ 1 = 0 by decide), if_pos (show 1 = 1 from rfl), iv0, ifIff (iv_eq (by omega) (by omega) (by omega) (by omega))]
    by_cases z : VL T 41 a b c = 0
    · rw [if_pos z, decide_eq_true z]; rfl
    · rw [if_neg z, decide_eq_false z]; rfl
  · rw [if_neg (show ¬ nI 2 = (0 : Int32) by decide), if_neg (show ¬ nI 2 = (1 : Int32) by decide), if_pos (show nI 2 = (2 : Int32) from rfl), if_neg (show ¬ 2 = 0 by decide), if_neg (show ¬ 2 = 1 by decide), if_pos (show 2 = 2 from rfl), iv0, ifIff (iv_le (by omega) (by omega) (by omega) (by omega))]
    by_cases z : 0 ≤ VL T 41 a b c
    · rw [if_pos z, decide_eq_false (by omega)]; rfl
    · rw [if_neg z, decide_eq_true (by omega)]; rfl
  · rw [if_neg (show ¬ nI 3 = (0 : Int32) by decide), if_neg (show ¬ nI 3 = (1 : Int32) by decide), if_neg (show ¬ nI 3 = (2 : Int32) by decide), if_neg (show ¬ 3 = 0 by decide), if_neg (show ¬ 3 = 1 by decide), if_neg (show ¬ 3 = 2 by decide)]
    unfold rkC
    cases he : enD T a b c with
    | true => rw [if_pos rfl, i_1, if_pos rfl]; rfl
    | false =>
      have := RK_lt (T := T) (sd := a) (s := b) (k := c) (by omega)
      rw [if_neg (show ¬ false = true by decide), i_1, if_neg (fun q => (eq_m1 (by omega)).mp q)]; rfl
def tlN (T : Nat → Nat) (a b what : Nat) : Nat → Nat := sumF (fun c => if tlB T a b what c = true then 1 else 0)
theorem tallyC_s (n : Nat) (μ : Mu) {T : Nat → Nat} {S a b what : Nat} (hW : WF T) (hG : GA μ T) (hV : CV μ T S) (hs : b < S) (ha : a < 2) (hw : what ≤ 3) (hn : 20000 < n) :
    Ok (X11_tally_38 n (nI a) (nI b) (nI what) 0 0 μ) (fun x μ' => x = .inl (nI (tlN T a b what (Wn (opnN T) b))) ∧ μ' = μ) := by
  have hS := hV.1
  have h6 : bhS T (b + 1) ≤ 6000 := Nat.le_trans (bh_mo (by omega)) hV.2.1
  rw [bh_s] at h6
  unfold X11_tally_38
  rw [i_0]
  refine Ok_lp2 (fun f x4 x5 μ' => ∃ c, c ≤ Wn (opnN T) b ∧ f = Wn (opnN T) b - c ∧ x4 = nI (tlN T a b what c) ∧ x5 = nI c ∧ μ' = μ) ?_ (Wn (opnN T) b) (by omega) ⟨0, by omega, rfl, rfl, rfl, rfl⟩
  rintro K f x4 x5 μ1 ⟨c, hc, rfl, rfl, rfl, rfl⟩ hK
  unfold X11_tally_38b X11_tally_76
  rw [bS (posC_s n μ1 hW.1 hG (by omega))]
  dsimp only
  rw [Nat.min_eq_right (by omega), ifLe (by omega) (by omega)]
  by_cases z : Wn (opnN T) b ≤ c
  · obtain rfl : c = Wn (opnN T) b := by omega
    rw [if_pos z]
    exact Ok_r ⟨rfl, rfl⟩
  · rw [if_neg z, bS (indexOf_s n μ1 hW.1 hG (by omega) (by omega))]
    dsimp only
    rw [bS (isOfKind_s n μ1 hW hV hs ha (by omega) hw)]
    dsimp only
    rw [i_1, nI_add, nI_add]
    cases hb : tlB T a b what c with
    | false =>
      rw [if_pos (show b2i false = 0 from rfl)]
      exact hK (Wn (opnN T) b - (c + 1)) _ _ _ (by omega) ⟨c + 1, by omega, rfl, by unfold tlN; rw [sumF, hb, if_neg (by decide), Nat.add_zero], rfl, rfl⟩
    | true =>
      rw [if_neg (show ¬ b2i true = 0 by decide)]
      exact hK (Wn (opnN T) b - (c + 1)) _ _ _ (by omega) ⟨c + 1, by omega, rfl, by unfold tlN; rw [sumF, hb, if_pos rfl], rfl, rfl⟩
theorem tallyR_s (n : Nat) (μ : Mu) {T : Nat → Nat} {S a b what : Nat} (hW : WF T) (hV : RV μ T S) (hs : b < S) (ha : a < 2) (hw : what ≤ 3) (hn : 20000 < n) :
    Ok (X12_tally_73 n (nI a) (nI b) (nI what) 0 0 μ) (fun x μ' => x = nI (tlN T a b what (Wn (opnN T) b)) ∧ μ' = μ) := by
  obtain ⟨hS, v2, v3, v4, v5⟩ := id hV
  have h6 : bhS T (b + 1) ≤ 6000 := Nat.le_trans (bh_mo (by omega)) hV.2.1
  rw [bh_s] at h6
  unfold X12_tally_73
  rw [i_0]
  refine Ok_lp2 (fun f x4 x5 μ' => ∃ c, c ≤ Wn (opnN T) b ∧ f = Wn (opnN T) b - c ∧ x4 = nI (tlN T a b what c) ∧ x5 = nI c ∧ μ' = μ) ?_ (Wn (opnN T) b) (by omega) ⟨0, by omega, rfl, rfl, rfl, rfl⟩
  rintro K f x4 x5 μ1 ⟨c, hc, rfl, rfl, rfl, rfl⟩ hK
  unfold X12_tally_73b
  rw [i_1, nI_add, gd_n (by omega) (by decide), gd_n (by omega) (by decide), nI_clamp (by omega), nI_clamp (by omega), v4 (b + 1) (by omega), v4 b (by omega), pk_sub (bh_mo (by omega)), bh_s, Nat.add_sub_cancel_left, ifLe (by omega) (by omega)]
  by_cases z : Wn (opnN T) b ≤ c
  · obtain rfl : c = Wn (opnN T) b := by omega
    rw [if_pos z]
    exact Ok_r ⟨rfl, rfl⟩
  · obtain ⟨_, hx, w1, w2, w3⟩ := rv_at hV hs ha (show c < Wn (opnN T) b by omega)
    have vb := VL_b hW 41 (by omega) a b c ha (by omega) (by omega)
    rw [if_neg z, bS (seat_s n μ1 (v4 b (by omega)) (by omega))]
    dsimp only
    rw [gd_n hx (by decide), nI_clamp (by omega), w1]
    have yes : tlB T a b what c = true → Ok (X12_tally_158 n (nI a) (nI b) (nI what) K (nI c) (nI (tlN T a b what c)) μ1) (fun x μ' => x = nI (tlN T a b what (Wn (opnN T) b)) ∧ μ' = μ1) := by
      intro hb
      unfold X12_tally_158 X12_tally_163
      rw [i_1, nI_add, nI_add]
      exact hK (Wn (opnN T) b - (c + 1)) _ _ _ (by omega) ⟨c + 1, by omega, rfl, by unfold tlN; rw [sumF, hb, if_pos rfl], rfl, rfl⟩
    have no : tlB T a b what c = false → Ok (X12_tally_162 n (nI a) (nI b) (nI what) K (nI c) (nI (tlN T a b what c)) μ1) (fun x μ' => x = nI (tlN T a b what (Wn (opnN T) b)) ∧ μ' = μ1) := by
      intro hb
      unfold X12_tally_162 X12_tally_163
      rw [i_0, i_1, nI_add, nI_add]
      exact hK (Wn (opnN T) b - (c + 1)) _ _ _ (by omega) ⟨c + 1, by omega, rfl, by unfold tlN; rw [sumF, hb, if_neg (by decide)], rfl, rfl⟩
    unfold X12_tally_123 X12_tally_133 X12_tally_143
    rw [i_0, i_1, i_2, i_3, ifEq (by omega) (by decide), ifEq (by omega) (by decide), ifEq (by omega) (by decide), ifEq (by omega) (by decide), show nI 0 = iv 0 from rfl, ifIff (iv_lt (by omega) (by omega) (by omega) (by omega)), ifIff (iv_eq (by omega) (by omega) (by omega) (by omega)), ifIff (iv_lt (by omega) (by omega) (by omega) (by omega)), gd_n hx (by decide), nI_clamp (by omega), w3.1]
    unfold tlB at yes no
    obtain rfl | rfl | rfl | rfl : what = 0 ∨ what = 1 ∨ what = 2 ∨ what = 3 := by omega
    · rw [if_pos rfl] at yes no
      rw [if_pos rfl]
      by_cases q : 0 < VL T 41 a b c
      · rw [if_pos q]; exact yes (decide_eq_true q)
      · rw [if_neg q, if_neg (by decide), if_neg (by decide), if_neg (by decide)]; exact no (decide_eq_false q)
    · rw [if_neg (by decide), if_pos rfl] at yes no
      rw [if_neg (by decide), if_pos rfl]
      by_cases q : VL T 41 a b c = 0
      · rw [if_pos q]; exact yes (decide_eq_true q)
      · rw [if_neg q, if_neg (by decide), if_neg (by decide)]; exact no (decide_eq_false q)
    · rw [if_neg (by decide), if_neg (by decide), if_pos rfl] at yes no
      rw [if_neg (by decide), if_neg (by decide), if_pos rfl]
      by_cases q : VL T 41 a b c < 0
      · rw [if_pos q]; exact yes (decide_eq_true q)
      · rw [if_neg q, if_neg (by decide)]; exact no (decide_eq_false q)
    · rw [if_neg (by decide), if_neg (by decide), if_neg (by decide)] at yes no
      rw [if_neg (by decide), if_neg (by decide), if_neg (by decide), if_pos rfl]
      cases he : enD T a b c with
      | false => rw [if_pos (show b2i false = iv 0 from rfl)]; exact no he
      | true => rw [if_neg (show ¬ b2i true = iv 0 by decide)]; exact yes he
