/-! call: most -/
def msV (T : Nat → Nat) (a b w c : Nat) : Int := if w / 2 = 0 then VL T 41 a b c else if w / 2 = 1 then - VL T 41 a b c else (RK T 41 a b c : Int)
def mtF (f : Nat → Int) : Nat → Option (Nat × Int)
  | 0 => none
  | c + 1 => match mtF f c with
    | none => some (c, f c)
    | some y => if y.2 < f c then some (c, f c) else some y
theorem mt_0 {f : Nat → Int} {c : Nat} (h : mtF f c = none) : mtF f (c + 1) = some (c, f c) := by rw [mtF, h]
theorem mt_1 {f : Nat → Int} {c : Nat} {y : Nat × Int} (h : mtF f c = some y) : mtF f (c + 1) = if y.2 < f c then some (c, f c) else some y := by rw [mtF, h]
theorem mt_p {f : Nat → Int} : ∀ c y, mtF f c = some y → y.1 < c ∧ y.2 = f y.1 := by
  intro c
  induction c with
  | zero => intro y h; exact nomatch h
  | succ c ih =>
    intro y h
    cases e : mtF f c with
    | none => rw [mt_0 e] at h; rw [← Option.some.inj h]; exact ⟨Nat.lt_succ_self c, rfl⟩
    | some z =>
      rw [mt_1 e] at h
      by_cases q : z.2 < f c
      · rw [if_pos q] at h; rw [← Option.some.inj h]; exact ⟨Nat.lt_succ_self c, rfl⟩
      · rw [if_neg q] at h; rw [← Option.some.inj h]; obtain ⟨a, b⟩ := ih z e; exact ⟨by omega, b⟩
def mtI (w : Nat) (o : Option (Nat × Int)) : Int32 := match o with
  | none => -1
  | some y => if w % 2 = 1 then nI y.1 else if w = 2 then iv (-y.2) else iv y.2
theorem ms_b {T : Nat → Nat} (hW : WF T) {a b w c : Nat} (ha : a < 2) (hb : b ≤ 40) (hc : c < Wn (opnN T) b) : -10000 ≤ msV T a b w c ∧ msV T a b w c ≤ 10000 := by
  have vb := VL_b hW 41 (by omega) a b c ha (by omega) hc
  have hr := RK_lt (T := T) (sd := a) (s := b) (k := c) (by omega)
  unfold msV
  repeat' split
  all_goals omega
theorem measure_s (n : Nat) (μ : Mu) {T : Nat → Nat} {S a b c w : Nat} (hV : CV μ T S) (hs : b < S) (ha : a < 2) (hc : c < Wn (opnN T) b) (hw : w ≤ 5) : X7_measure n (nI (ixC T a b c)) (nI (w / 2)) μ = some (iv (msV T a b w c), μ) := by
  obtain ⟨_, hx, v1, v2⟩ := cv_at hV hs ha hc
  unfold X7_measure msV
  rw [i_0, i_1, ifEq (by omega) (by decide), ifEq (by omega) (by decide)]
  by_cases z0 : w / 2 = 0
  · rw [if_pos z0, if_pos z0, gd_n hx (by decide), nI_clamp (by omega), v1]
  · rw [if_neg z0, if_neg z0]
    by_cases z1 : w / 2 = 1
    · rw [if_pos z1, if_pos z1, gd_n hx (by decide), nI_clamp (by omega), v1, iv_neg]
    · rw [if_neg z1, if_neg z1, bS (rankOf_s n μ hV hs ha hc), ← iv_n]
theorem mostC_s (n : Nat) (μ : Mu) {T : Nat → Nat} {S a b w : Nat} (hW : WF T) (hG : GA μ T) (hV : CV μ T S) (hs : b < S) (ha : a < 2) (hw : w ≤ 5) (hn : 20000 < n) :
    Ok (X11_most_41 n (nI a) (nI b) (nI w) (-1) (-1) 0 μ) (fun x μ' => x = .inl (mtI w (mtF (msV T a b w) (Wn (opnN T) b))) ∧ μ' = μ) := by
  have hS := hV.1
  have h6 : bhS T (b + 1) ≤ 6000 := Nat.le_trans (bh_mo (by omega)) hV.2.1
  rw [bh_s] at h6
  unfold X11_most_41
  rw [i_0, i_1]
  refine Ok_lp3 (fun f x4 x5 x6 μ' => ∃ c, c ≤ Wn (opnN T) b ∧ f = Wn (opnN T) b - c ∧ x6 = nI c ∧ μ' = μ ∧ ((mtF (msV T a b w) c = none ∧ x4 = -nI 1) ∨ ∃ y, mtF (msV T a b w) c = some y ∧ x4 = nI y.1 ∧ x5 = iv y.2)) ?_ (Wn (opnN T) b) (by omega) ⟨0, by omega, rfl, rfl, rfl, Or.inl ⟨rfl, rfl⟩⟩
  rintro K f x4 x5 x6 μ1 ⟨c, hc, rfl, rfl, rfl, hor⟩ hK
  unfold X11_most_41b X11_most_90 X11_most_98 X11_most_117 X11_most_133
  rw [bS (posC_s n μ1 hW.1 hG (by omega))]
  dsimp only
  rw [Nat.min_eq_right (by omega), ifLe (by omega) (by omega), i_1, i_2, pk_rem (by omega) (by decide) (by decide), ifEq (by omega) (by decide), ifEq (by omega) (by decide), pk_div (by omega) (by decide) (by decide), nI_add]
  by_cases z : Wn (opnN T) b ≤ c
  · obtain rfl : c = Wn (opnN T) b := by omega
    rw [if_pos z]
    rcases hor with ⟨e, rfl⟩ | ⟨y, e, rfl, rfl⟩
    · rw [if_pos rfl, e]; exact Ok_r ⟨rfl, rfl⟩
    · obtain ⟨y1, y2⟩ := mt_p _ y e
      rw [if_neg (fun q => (eq_m1 (by omega)).mp q), e]
      unfold mtI
      dsimp only
      by_cases q1 : w % 2 = 1
      · rw [if_pos q1, if_pos q1]; exact Ok_r ⟨rfl, rfl⟩
      · rw [if_neg q1, if_neg q1]
        by_cases q2 : w = 2
        · rw [if_pos q2, if_pos q2, iv_neg]; exact Ok_r ⟨rfl, rfl⟩
        · rw [if_neg q2, if_neg q2]; exact Ok_r ⟨rfl, rfl⟩
  · have hcW : c < Wn (opnN T) b := by omega
    have mb := ms_b hW (w := w) ha (show b ≤ 40 by omega) hcW
    rw [if_neg z, bS (indexOf_s n μ1 hW.1 hG (by omega) (by omega))]
    dsimp only
    rw [bS (measure_s n μ1 hV hs ha hcW hw)]
    dsimp only
    rcases hor with ⟨e, rfl⟩ | ⟨y, e, rfl, rfl⟩
    · rw [if_pos rfl]
      exact hK (Wn (opnN T) b - (c + 1)) _ _ _ _ (by omega) ⟨c + 1, by omega, rfl, rfl, rfl, Or.inr ⟨_, mt_0 e, rfl, rfl⟩⟩
    · obtain ⟨y1, y2⟩ := mt_p _ y e
      have yb := ms_b hW (w := w) ha (show b ≤ 40 by omega) (show y.1 < Wn (opnN T) b by omega)
      rw [← y2] at yb
      rw [if_neg (fun q => (eq_m1 (by omega)).mp q), ifIff (iv_le (by omega) (by omega) (by omega) (by omega))]
      by_cases q : msV T a b w c ≤ y.2
      · rw [if_pos q]
        exact hK (Wn (opnN T) b - (c + 1)) _ _ _ _ (by omega) ⟨c + 1, by omega, rfl, rfl, rfl, Or.inr ⟨y, by rw [mt_1 e, if_neg (by omega)], rfl, rfl⟩⟩
      · rw [if_neg q]
        exact hK (Wn (opnN T) b - (c + 1)) _ _ _ _ (by omega) ⟨c + 1, by omega, rfl, rfl, rfl, Or.inr ⟨_, by rw [mt_1 e, if_pos (by omega)], rfl, rfl⟩⟩
theorem mostR_s (n : Nat) (μ : Mu) {T : Nat → Nat} {S a b w : Nat} (hW : WF T) (hV : RV μ T S) (hs : b < S) (ha : a < 2) (hw : w ≤ 5) (hn : 20000 < n) :
    Ok (X12_most_74 n (nI a) (nI b) (nI w) (-1) 0 0 μ) (fun x μ' => x = mtI w (mtF (msV T a b w) (Wn (opnN T) b)) ∧ μ' = μ) := by
  obtain ⟨hS, v2, v3, v4, v5⟩ := id hV
  have h6 : bhS T (b + 1) ≤ 6000 := Nat.le_trans (bh_mo (by omega)) hV.2.1
  rw [bh_s] at h6
  unfold X12_most_74
  rw [i_0, i_1]
  refine Ok_lp3 (fun f x4 x5 x6 μ' => ∃ c, c ≤ Wn (opnN T) b ∧ f = Wn (opnN T) b - c ∧ x6 = nI c ∧ μ' = μ ∧ ((mtF (msV T a b w) c = none ∧ x4 = -nI 1) ∨ ∃ y, mtF (msV T a b w) c = some y ∧ x4 = nI y.1 ∧ x5 = iv y.2)) ?_ (Wn (opnN T) b) (by omega) ⟨0, by omega, rfl, rfl, rfl, Or.inl ⟨rfl, rfl⟩⟩
  rintro K f x4 x5 x6 μ1 ⟨c, hc, rfl, rfl, rfl, hor⟩ hK
  unfold X12_most_74b X12_most_187 X12_most_205
  rw [i_1, nI_add, gd_n (by omega) (by decide), gd_n (by omega) (by decide), nI_clamp (by omega), nI_clamp (by omega), v4 (b + 1) (by omega), v4 b (by omega), pk_sub (bh_mo (by omega)), bh_s, Nat.add_sub_cancel_left, ifLe (by omega) (by omega), i_2, pk_rem (by omega) (by decide) (by decide), ifEq (by omega) (by decide), ifEq (by omega) (by decide)]
  by_cases z : Wn (opnN T) b ≤ c
  · obtain rfl : c = Wn (opnN T) b := by omega
    rw [if_pos z]
    rcases hor with ⟨e, rfl⟩ | ⟨y, e, rfl, rfl⟩
    · rw [if_pos rfl, e]; exact Ok_r ⟨rfl, rfl⟩
    · obtain ⟨y1, y2⟩ := mt_p _ y e
      rw [if_neg (fun q => (eq_m1 (by omega)).mp q), e]
      unfold mtI
      dsimp only
      by_cases q1 : w % 2 = 1
      · rw [if_pos q1, if_pos q1]; exact Ok_r ⟨rfl, rfl⟩
      · rw [if_neg q1, if_neg q1]
        by_cases q2 : w = 2
        · rw [if_pos q2, if_pos q2, iv_neg]; exact Ok_r ⟨rfl, rfl⟩
        · rw [if_neg q2, if_neg q2]; exact Ok_r ⟨rfl, rfl⟩
  · have hcW : c < Wn (opnN T) b := by omega
    have mb := ms_b hW (w := w) ha (show b ≤ 40 by omega) hcW
    obtain ⟨_, hx, w1, w2, w3⟩ := rv_at hV hs ha hcW
    rw [if_neg z, bS (seat_s n μ1 (v4 b (by omega)) (by omega))]
    dsimp only
    have go : Ok (X12_most_142 n (nI a) (nI b) (nI w) K x4 x5 (nI c) (iv (msV T a b w c)) μ1) (fun x μ' => x = mtI w (mtF (msV T a b w) (Wn (opnN T) b)) ∧ μ' = μ1) := by
      unfold X12_most_142 X12_most_160 X12_most_168
      rw [i_1, nI_add]
      rcases hor with ⟨e, rfl⟩ | ⟨y, e, rfl, rfl⟩
      · rw [if_pos rfl]
        exact hK (Wn (opnN T) b - (c + 1)) _ _ _ _ (by omega) ⟨c + 1, by omega, rfl, rfl, rfl, Or.inr ⟨_, mt_0 e, rfl, rfl⟩⟩
      · obtain ⟨y1, y2⟩ := mt_p _ y e
        have yb := ms_b hW (w := w) ha (show b ≤ 40 by omega) (show y.1 < Wn (opnN T) b by omega)
        rw [← y2] at yb
        rw [if_neg (fun q => (eq_m1 (by omega)).mp q), ifIff (iv_lt (by omega) (by omega) (by omega) (by omega))]
        by_cases q : y.2 < msV T a b w c
        · rw [if_pos q]
          exact hK (Wn (opnN T) b - (c + 1)) _ _ _ _ (by omega) ⟨c + 1, by omega, rfl, rfl, rfl, Or.inr ⟨_, by rw [mt_1 e, if_pos q], rfl, rfl⟩⟩
        · rw [if_neg q]
          exact hK (Wn (opnN T) b - (c + 1)) _ _ _ _ (by omega) ⟨c + 1, by omega, rfl, rfl, rfl, Or.inr ⟨y, by rw [mt_1 e, if_neg q], rfl, rfl⟩⟩
    rw [i_4, ifLe (by decide) (by omega), ifLe (by decide) (by omega)]
    unfold msV at go
    by_cases q2 : 2 ≤ w
    · rw [if_pos q2]
      by_cases q4 : 4 ≤ w
      · rw [if_neg (by omega), if_neg (by omega), ← iv_n] at go
        rw [if_pos q4, gd_n hx (by decide), nI_clamp (by omega), w2]
        exact go
      · rw [if_neg (by omega), if_pos (by omega)] at go
        rw [if_neg q4, gd_n hx (by decide), nI_clamp (by omega), w1, iv_neg]
        exact go
    · rw [if_pos (by omega)] at go
      rw [if_neg q2, gd_n hx (by decide), nI_clamp (by omega), w1]
      exact go
