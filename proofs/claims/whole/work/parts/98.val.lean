/-! values of best play: rounds over one number of seeds -/
def laT (T : Nat → Nat) (sd s k : Nat) : Nat → Nat := upT T (laC T sd s k) sd
theorem la_re {T : Nat → Nat} {sd s k : Nat} : RE T (laT T sd s k) := RE_up
theorem la_ct {T : Nat → Nat} {sd s k x : Nat} (hx : x < 14) : cT (laT T sd s k) x = laC T sd s k x := cT_up hx
theorem sum_12 {c : Nat → Nat} {sz : Nat} (h6 : sz < 7) (h : ∀ x, 2 * sz ≤ x → x < 12 → c x = 0) : sumF c 12 = sumF c (2 * sz) := by
  have e : (12 : Nat) = 2 * sz + (12 - 2 * sz) := by omega
  rw [e, sum_split]
  have : ∀ n, n ≤ 12 - 2 * sz → sumF (fun x => c (2 * sz + x)) n = 0 := by
    intro n
    induction n with
    | zero => intro _; rfl
    | succ n ih => intro hn; rw [sumF, ih (by omega), h _ (by omega) (by omega)]
  rw [this _ (Nat.le_refl _), Nat.add_zero]
theorem WF_la {T : Nat → Nat} {sd s k : Nat} (hW : WF T) (hs : sd < 2) (h40 : s ≤ 40) (hk : k < Wn (opnN T) s) : WF (laT T sd s k) := by
  have b6 := hW.1.2.1
  obtain ⟨l1, l2⟩ := laC_p hs hk
  have e0 : ∀ k', k' ≠ 2 → k' < 11 → laT T sd s k k' = T k' := fun k' a b => upT_r a b
  have ec : sumF (cT (laT T sd s k)) 12 = s := by
    rw [sum_cg 12 (fun x hx => la_ct (by omega)), sum_12 b6 (fun x hx _ => l2 x (Or.inl hx)), l1]
  have e11 : laT T sd s k 11 = 0 := l2 12 (Or.inl (by omega))
  have e12 : laT T sd s k 12 = 0 := l2 13 (Or.inl (by omega))
  refine ⟨?_, hs, ?_, by omega, by omega, by omega, fun p hp hq => ?_⟩
  · unfold BD
    rw [e0 1 (by decide) (by decide), e0 3 (by decide) (by decide), e0 4 (by decide) (by decide), e0 5 (by decide) (by decide), e0 6 (by decide) (by decide), e0 7 (by decide) (by decide), e0 8 (by decide) (by decide), e0 9 (by decide) (by decide), e0 10 (by decide) (by decide)]
    exact hW.1
  · rw [e0 1 (by decide) (by decide), e0 3 (by decide) (by decide)]; exact hW.2.2.1
  · rw [e0 1 (by decide) (by decide), e0 3 (by decide) (by decide)] at hq
    have e13 : laT T sd s k (13 + p) = laC T sd s k p := by
      unfold laT upT
      rw [if_neg (by omega), if_neg (by omega), if_neg (by omega), if_pos (by omega), Nat.add_sub_cancel_left]
    rw [e13]
    exact l2 p (hq.elim Or.inr Or.inl)
/-- a move of a laid position: what it brings, whether the side stays, the number of what comes -/
def mvD (T : Nat → Nat) (sd s k w : Nat) : Option (Nat × Bool × Nat) := if canW (laT T sd s k) w = true then (mvW (laT T sd s k) w).bind (fun x => some (x.2.2.2 (12 + sd), decide (thN T sd x.1 = sd), nbT T x.2.2.2 (thN T sd x.1))) else none
def enD (T : Nat → Nat) (sd s k : Nat) : Bool := overT (laT T sd s k)
def edV (T : Nat → Nat) (sd s k : Nat) : Int := (rowN (laC T sd s k) (offN (T 1) sd) (T 1) : Int) - (rowN (laC T sd s k) (offN (T 1) (1 - sd)) (T 1) : Int)
def woV (s : Nat) (lo : Nat → Nat → Nat → Int) (v : Nat → Nat → Int) (sd : Nat) (x : Nat × Bool × Nat) : Int := if 0 < x.1 then (x.1 : Int) + (if x.2.1 = true then lo sd (s - x.1) x.2.2 else - lo (1 - sd) (s - x.1) x.2.2) else - v (1 - sd) x.2.2
def mxV (f : Nat → Option Int) : Nat → Int
  | 0 => -1000
  | w + 1 => match f w with
    | none => mxV f w
    | some x => if mxV f w < x then x else mxV f w
theorem mx_le {f : Nat → Option Int} {z : Int} : ∀ n, mxV f n ≤ z ↔ -1000 ≤ z ∧ ∀ w, w < n → ∀ y, f w = some y → y ≤ z := by
  intro n
  induction n with
  | zero => exact ⟨fun h => ⟨h, fun w hw => by omega⟩, fun h => h.1⟩
  | succ n ih =>
    rw [mxV]
    cases e : f n with
    | none =>
      dsimp only
      rw [ih]
      refine ⟨fun h => ⟨h.1, fun w hw y hy => ?_⟩, fun h => ⟨h.1, fun w hw y hy => h.2 w (by omega) y hy⟩⟩
      by_cases q : w = n
      · rw [q, e] at hy; exact nomatch hy
      · exact h.2 w (by omega) y hy
    | some x =>
      dsimp only
      have key : (if mxV f n < x then x else mxV f n) ≤ z ↔ mxV f n ≤ z ∧ x ≤ z := by
        by_cases c : mxV f n < x
        · rw [if_pos c]; omega
        · rw [if_neg c]; omega
      rw [key, ih]
      refine ⟨fun h => ⟨h.1.1, fun w hw y hy => ?_⟩, fun h => ⟨⟨h.1, fun w hw y hy => h.2 w (by omega) y hy⟩, h.2 n (by omega) x e⟩⟩
      by_cases q : w = n
      · rw [q, e] at hy; injection hy with hy; omega
      · exact h.1.2 w (by omega) y hy
theorem mx_ge {f : Nat → Option Int} {z : Int} (hz : -1000 < z) : ∀ n, z ≤ mxV f n ↔ ∃ w, w < n ∧ ∃ y, f w = some y ∧ z ≤ y := by
  intro n
  induction n with
  | zero => exact ⟨fun h => by rw [mxV] at h; omega, fun ⟨w, h, _⟩ => by omega⟩
  | succ n ih =>
    rw [mxV]
    cases e : f n with
    | none =>
      dsimp only
      rw [ih]
      refine ⟨fun ⟨w, a, b⟩ => ⟨w, by omega, b⟩, fun ⟨w, a, y, b, c⟩ => ?_⟩
      by_cases q : w = n
      · rw [q, e] at b; exact nomatch b
      · exact ⟨w, by omega, y, b, c⟩
    | some x =>
      dsimp only
      have key : z ≤ (if mxV f n < x then x else mxV f n) ↔ z ≤ mxV f n ∨ z ≤ x := by
        by_cases c : mxV f n < x
        · rw [if_pos c]; omega
        · rw [if_neg c]; omega
      rw [key, ih]
      constructor
      · rintro (⟨w, a, b⟩ | h)
        · exact ⟨w, by omega, b⟩
        · exact ⟨n, by omega, x, e, h⟩
      · rintro ⟨w, a, y, b, c⟩
        by_cases q : w = n
        · rw [q, e] at b; injection b with b; exact Or.inr (by omega)
        · exact Or.inl ⟨w, by omega, y, b, c⟩
def fmV (T : Nat → Nat) (s : Nat) (lo : Nat → Nat → Nat → Int) (v : Nat → Nat → Int) (sd k w : Nat) : Option Int := (mvD T sd s k w).bind (fun x => some (woV s lo v sd x))
def stV (T : Nat → Nat) (s : Nat) (lo : Nat → Nat → Nat → Int) (v : Nat → Nat → Int) (sd k : Nat) : Int := if enD T sd s k = true then edV T sd s k else mxV (fmV T s lo v sd k) (T 1)
def itV (T : Nat → Nat) (s : Nat) (lo : Nat → Nat → Nat → Int) : Nat → Nat → Nat → Int
  | 0 => fun sd k => if enD T sd s k = true then edV T sd s k else 0
  | r + 1 => stV T s lo (itV T s lo r)
def itR (T : Nat → Nat) (s : Nat) (lo : Nat → Nat → Nat → Int) : Nat → Nat → Nat → Nat
  | 0 => fun _ _ => 0
  | r + 1 => fun sd k => if itV T s lo (r + 1) sd k = itV T s lo r sd k then itR T s lo r sd k else r + 1
def VL (T : Nat → Nat) : Nat → Nat → Nat → Nat → Int
  | 0 => fun _ _ _ => 0
  | S + 1 => fun sd s k => if s = S then itV T S (VL T S) 6007 sd k else VL T S sd s k
def RK (T : Nat → Nat) : Nat → Nat → Nat → Nat → Nat
  | 0 => fun _ _ _ => 0
  | S + 1 => fun sd s k => if s = S then itR T S (VL T S) 6007 sd k else RK T S sd s k
theorem VL_lo {T : Nat → Nat} {sd s k : Nat} : ∀ S S2, s < S → S ≤ S2 → VL T S2 sd s k = VL T S sd s k ∧ RK T S2 sd s k = RK T S sd s k := by
  intro S S2 h1
  induction S2 with
  | zero => intro h; omega
  | succ S2 ih =>
    intro h
    by_cases q : S = S2 + 1
    · rw [q]; exact ⟨rfl, rfl⟩
    · obtain ⟨i1, i2⟩ := ih (by omega)
      rw [VL, RK]
      dsimp only
      rw [if_neg (by omega), if_neg (by omega)]
      exact ⟨i1, i2⟩
/-- what is true of a move of a laid position -/
theorem mvD_p {T : Nat → Nat} {sd s k w g k' : Nat} {st : Bool} (hW : WF T) (hs : sd < 2) (h40 : s ≤ 40) (hk : k < Wn (opnN T) s) (hw : w < T 1) (h : mvD T sd s k w = some (g, st, k')) : g ≤ s ∧ k' < Wn (opnN T) (s - g) ∧ (g = 0 → st = false) ∧ canW (laT T sd s k) w = true ∧ ∃ l r t c', mvW (laT T sd s k) w = some (l, r, t, c') ∧ g = c' (12 + sd) ∧ st = decide (thN T sd l = sd) ∧ k' = nbT T c' (thN T sd l) ∧ sumF c' (2 * T 1) = s - g ∧ (∀ p, p < 2 * T 1 → (T 3).testBit p = true → c' p = 0) ∧ (∀ p, 2 * T 1 ≤ p → p < 12 → c' p = 0) ∧ l < 2 * T 1 + 1 := by
  have hL := WF_la hW hs h40 hk
  have b6 := hW.1.2.1
  have b1 := hW.1.1
  unfold mvD at h
  cases hc : canW (laT T sd s k) w with
  | false => rw [hc, if_neg (by decide)] at h; exact nomatch h
  | true =>
    rw [hc, if_pos rfl] at h
    obtain ⟨hf, l, r, t, c', hm⟩ := can_fs hc
    rw [hm] at h
    injection h with h
    injection h with h1 h
    injection h with h2 h3
    dsimp only at h1 h2 h3
    obtain ⟨on, hne⟩ := ful_t.mp hf
    have e1 : laT T sd s k 1 = T 1 := la_re 1 (by decide) (by decide)
    have e3 : laT T sd s k 3 = T 3 := la_re 3 (by decide) (by decide)
    have e2 : laT T sd s k 2 = sd := rfl
    obtain ⟨m1, m2, m3, m4, m5, m6⟩ := mv_p (by rw [e1]; exact b6) (by rw [e1]; exact b1) hL.2.1 (by rw [e1]; exact hw) on hne hm
    rw [e1] at m1
    rw [e2] at m4 m5
    obtain ⟨l1, l2⟩ := laC_p hs hk
    have z0 : ∀ p, p < 12 → ((T 3).testBit p = true ∨ 2 * T 1 ≤ p) → c' p = 0 := by
      intro p hp hq
      refine m6 p hp (offW_l (by rw [e1]; exact b6) (by rw [e1]; exact b1) hL.2.1 hp (by rw [e1, e3]; exact hq)) ?_
      rw [la_ct (by omega)]
      exact l2 p (hq.elim Or.inr Or.inl)
    have s14 : sumF (cT (laT T sd s k)) 14 = s := by
      rw [sum14, la_ct (by omega), la_ct (by omega), sum_cg 12 (fun x hx => la_ct (by omega)), sum_12 b6 (fun x hx _ => l2 x (Or.inl hx)), l1, l2 12 (Or.inl (by omega)), l2 13 (Or.inl (by omega))]
      rfl
    have oth : c' (13 - sd) = 0 := by rw [m5, la_ct (by omega)]; exact l2 _ (Or.inl (by omega))
    have es : sumF c' (2 * T 1) + c' (12 + sd) = s := by
      rw [s14, sum14, sum_12 b6 (fun x hx hx2 => z0 x hx2 (Or.inr hx))] at m3
      obtain rfl | rfl : sd = 0 ∨ sd = 1 := by omega
      · have : c' 13 = 0 := oth
        show sumF c' (2 * T 1) + c' 12 = s
        omega
      · have : c' 12 = 0 := oth
        show sumF c' (2 * T 1) + c' 13 = s
        omega
    have zl : ∀ p, p < 2 * T 1 → (T 3).testBit p = true → c' p = 0 := fun p hp hq => z0 p (by omega) (Or.inl hq)
    have hth : thN T sd l < 2 := thN_lt hs
    have hnb : nbT T c' (thN T sd l) < Wn (opnN T) (s - g) := by
      have := nb_lt (a := fun j => c' (sqN T (thN T sd l) j)) (m := opnN T) (opnN T) (sumF c' (2 * T 1)) (Nat.le_refl _) (by rw [Nat.sub_self, sq_sum hth zl]; exact Nat.zero_add _)
      rw [show s - g = sumF c' (2 * T 1) by omega]
      exact this
    refine ⟨by omega, by rw [← h3]; exact hnb, fun hg => ?_, rfl, l, r, t, c', hm, h1.symm, h2.symm, h3.symm, by omega, zl, fun p hp hp2 => z0 p hp2 (Or.inr hp), m1⟩
    rw [← h2, decide_eq_false_iff_not]
    intro hst
    unfold thN at hst
    by_cases q : T 9 = 1 ∧ l = T 1
    · -- the last seed fell into the store
      unfold mvW mvC at hm
      cases hsw : sowC (laT T sd s k) (laT T sd s k 2) (laT T sd s k 6 + 1) 0 w (cT (laT T sd s k)) with
      | none => rw [hsw] at hm; exact nomatch hm
      | some x =>
        obtain ⟨l0, k0, c1⟩ := x
        rw [hsw] at hm
        injection hm with hm
        injection hm with a1 hm
        injection hm with a2 hm
        injection hm with a3 a4
        dsimp only at a1 a2 a3 a4
        obtain ⟨-, -, -, -, -, -, i7⟩ := sow_p (by rw [e1]; exact b6) (by rw [e1]; exact b1) hL.2.1 _ 0 w _ l0 k0 c1 (by rw [e1]; omega) on hne hsw
        rw [a1, q.2, e1, e2, (cI_lt (T 1) b6 b1 sd hs (T 1) (by omega)).2.2] at i7
        have := tkR_st (T := laT T sd s k) (s := sd) (c := c1) (l := l0)
        rw [e2] at a4
        rw [a4] at this
        omega
    · rw [if_neg q] at hst
      omega
/-- bounds -/
def loB (T : Nat → Nat) (s : Nat) (lo : Nat → Nat → Nat → Int) : Prop := ∀ sd s' k, sd < 2 → s' < s → k < Wn (opnN T) s' → -(s' : Int) ≤ lo sd s' k ∧ lo sd s' k ≤ s'
theorem ed_b {T : Nat → Nat} {sd s k : Nat} (b6 : T 1 < 7) (hs : sd < 2) (hk : k < Wn (opnN T) s) : -(s : Int) ≤ edV T sd s k ∧ edV T sd s k ≤ s := by
  obtain ⟨l1, l2⟩ := laC_p hs hk
  have h : rowN (laC T sd s k) (offN (T 1) sd) (T 1) + rowN (laC T sd s k) (offN (T 1) (1 - sd)) (T 1) = s := by
    have r0 := row_b (c := laC T sd s k) (b := 0) (T 1)
    have r1 := row_b (c := laC T sd s k) (b := T 1) (T 1)
    rw [show T 1 + T 1 = 2 * T 1 by omega, l1] at r1
    rw [Nat.zero_add] at r0
    have z : sumF (laC T sd s k) 0 = 0 := rfl
    obtain rfl | rfl : sd = 0 ∨ sd = 1 := by omega
    · show rowN _ 0 (T 1) + rowN _ (T 1) (T 1) = s
      omega
    · show rowN _ (T 1) (T 1) + rowN _ 0 (T 1) = s
      omega
  unfold edV
  omega
theorem no_end {T : Nat → Nat} {sd s k : Nat} (h : enD T sd s k = false) : ∃ w, w < T 1 ∧ ∃ x, mvD T sd s k w = some x := by
  refine Classical.byContradiction (fun z => ?_)
  have : overT (laT T sd s k) = true := by
    rw [over_no]
    intro w hw
    cases e : canW (laT T sd s k) w with
    | false => rfl
    | true =>
      exfalso
      obtain ⟨hf, l, r, t, c', hm⟩ := can_fs e
      refine z ⟨w, hw, (c' (12 + sd), decide (thN T sd l = sd), nbT T c' (thN T sd l)), ?_⟩
      unfold mvD
      rw [e, if_pos rfl, hm]
      rfl
  unfold enD at h
  rw [this] at h
  exact absurd h (by decide)
theorem st_b {T : Nat → Nat} {s : Nat} {lo : Nat → Nat → Nat → Int} {v : Nat → Nat → Int} (hW : WF T) (h40 : s ≤ 40) (hlo : loB T s lo) (hv : ∀ sd k, sd < 2 → k < Wn (opnN T) s → -(s : Int) ≤ v sd k ∧ v sd k ≤ s) : ∀ sd k, sd < 2 → k < Wn (opnN T) s → -(s : Int) ≤ stV T s lo v sd k ∧ stV T s lo v sd k ≤ s := by
  intro sd k hs hk
  unfold stV
  cases he : enD T sd s k with
  | true => rw [if_pos rfl]; exact ed_b hW.1.2.1 hs hk
  | false =>
    rw [if_neg (by decide)]
    have key : ∀ w, w < T 1 → ∀ y, fmV T s lo v sd k w = some y → -(s : Int) ≤ y ∧ y ≤ s := by
      intro w hw y hy
      unfold fmV at hy
      cases hm : mvD T sd s k w with
      | none => rw [hm] at hy; exact nomatch hy
      | some x =>
        obtain ⟨g, st, k'⟩ := x
        rw [hm] at hy
        injection hy with hy
        obtain ⟨p1, p2, p3, -⟩ := mvD_p hW hs h40 hk hw hm
        rw [← hy]
        unfold woV
        dsimp only
        by_cases c : 0 < g
        · rw [if_pos c]
          cases st with
          | true =>
            rw [if_pos rfl]
            have := hlo sd (s - g) k' hs (by omega) p2
            omega
          | false =>
            rw [if_neg (by decide)]
            have := hlo (1 - sd) (s - g) k' (by omega) (by omega) p2
            omega
        · rw [if_neg c]
          rw [show s - g = s by omega] at p2
          have := hv (1 - sd) k' (by omega) p2
          omega
    obtain ⟨w, hw, x, hx⟩ := no_end he
    have hfx : fmV T s lo v sd k w = some (woV s lo v sd x) := by unfold fmV; rw [hx]; rfl
    constructor
    · refine (mx_ge (by omega) _).mpr ⟨w, hw, _, hfx, (key w hw _ hfx).1⟩
    · exact (mx_le _).mpr ⟨by omega, fun w hw y hy => (key w hw y hy).2⟩
theorem it_b {T : Nat → Nat} {s : Nat} {lo : Nat → Nat → Nat → Int} (hW : WF T) (h40 : s ≤ 40) (hlo : loB T s lo) : ∀ r sd k, sd < 2 → k < Wn (opnN T) s → -(s : Int) ≤ itV T s lo r sd k ∧ itV T s lo r sd k ≤ s := by
  intro r
  induction r with
  | zero =>
    intro sd k hs hk
    rw [itV]
    dsimp only
    cases he : enD T sd s k with
    | true => rw [if_pos rfl]; exact ed_b hW.1.2.1 hs hk
    | false => rw [if_neg (by decide)]; omega
  | succ r ih => intro sd k hs hk; rw [itV]; exact st_b hW h40 hlo ih sd k hs hk
theorem VL_b {T : Nat → Nat} (hW : WF T) : ∀ S, S ≤ 41 → loB T S (VL T S) := by
  intro S
  induction S with
  | zero => intro _ sd s' k _ h; omega
  | succ S ih =>
    intro hS sd s' k hs hs' hk
    rw [VL]
    dsimp only
    by_cases q : s' = S
    · rw [if_pos q]
      subst q
      exact it_b hW (by omega) (ih (by omega)) 6007 sd k hs hk
    · rw [if_neg q]
      exact ih (by omega) sd s' k hs (by omega) hk
