/-! values depend on the rules alone; ints as whole numbers -/
theorem mvD_re {T T0 : Nat → Nat} {sd s k w : Nat} (r : RE T T0) (hW : WF T) (hs : sd < 2) (h40 : s ≤ 40) (hk : k < Wn (opnN T) s) (hw : w < T 1) : mvD T0 sd s k w = mvD T sd s k w := by
  have hL := WF_la hW hs h40 hk
  have e1 : laT T sd s k 1 = T 1 := la_re 1 (by decide) (by decide)
  have hsb : SB (laT T sd s k) (laT T0 sd s k) := ⟨fun k' a b => by rw [la_re k' a b, la_re k' a b, r k' a b], rfl, fun p hp => by rw [la_ct (by omega), la_ct (by omega), laC_re r]⟩
  unfold mvD
  rw [SB_c hL hsb (by rw [e1]; exact hw)]
  cases hc : canW (laT T sd s k) w with
  | false => rfl
  | true =>
    rw [if_pos rfl, if_pos rfl]
    obtain ⟨hf, -⟩ := can_fs hc
    rcases SB_w hL hsb (by rw [e1]; exact hw) hf with ⟨h1, h2⟩ | ⟨l, k2, t, c1, c3, h1, h2, h3, h4⟩
    · rw [h1, h2]; rfl
    · rw [h1, h2]
      have b6 := hW.1.2.1
      have z0 : ∀ T' : Nat → Nat, T' 1 < 7 → k < Wn (opnN T') s → cT (laT T' sd s k) (12 + sd) = 0 := fun T' h6 h => by
        rw [la_ct (by omega)]
        exact (laC_p hs h).2 _ (Or.inl (by omega))
      have e2 : laT T sd s k 2 = sd := rfl
      rw [e2, z0 T b6 hk, z0 T0 (by rw [r 1 (by decide) (by decide)]; exact b6) (by rw [opn_re r]; exact hk)] at h4
      show some _ = some _
      dsimp only
      have h5 : c3 (12 + sd) = c1 (12 + sd) := by omega
      have e : ∀ x, nbT T c3 x = nbT T c1 x := by
        intro x
        unfold nbT
        rw [sum_cg (2 * T 1) (fun p hp => h3 p (by omega))]
        by_cases hx : x < 2
        · exact nb_cg _ _ (Nat.le_refl _) (fun j hj => h3 _ (by have := (sq_lt (T := T) hx hj).1; omega))
        · have hq : ∀ i j, j < opnN T → sqF T x i j < 2 * T 1 ∨ True := fun _ _ _ => Or.inr trivial
          have e0 : ∀ i, i ≤ 2 * T 1 → ∀ j, sqF T x i j < 12 := by
            intro i
            induction i with
            | zero => intro _ j; show 0 < 12; decide
            | succ i ih =>
              intro hi j
              rw [sqF]
              by_cases z : lkS T x i = true
              · rw [if_pos z]; exact ih (by omega) j
              · rw [if_neg z]
                by_cases z2 : j = opS T x i
                · rw [z2, ups_a]
                  unfold pS offN
                  split <;> split <;> omega
                · rw [ups_b z2]; exact ih (by omega) j
          exact nb_cg _ _ (Nat.le_refl _) (fun j hj => h3 _ (e0 _ (Nat.le_refl _) j))
      rw [h5, thN_re r, nb_re r, e]
theorem enD_re {T T0 : Nat → Nat} {sd s k : Nat} (r : RE T T0) (hW : WF T) (hs : sd < 2) (h40 : s ≤ 40) (hk : k < Wn (opnN T) s) : enD T0 sd s k = enD T sd s k := by
  have hL := WF_la hW hs h40 hk
  have hsb : SB (laT T sd s k) (laT T0 sd s k) := ⟨fun k' a b => by rw [la_re k' a b, la_re k' a b, r k' a b], rfl, fun p hp => by rw [la_ct (by omega), la_ct (by omega), laC_re r]⟩
  exact SB_o hL hsb
theorem edV_re {T T0 : Nat → Nat} {sd s k : Nat} (r : RE T T0) : edV T0 sd s k = edV T sd s k := by
  unfold edV
  rw [laC_re r, r 1 (by decide) (by decide)]
theorem wo_cg {s g k' sd : Nat} {st : Bool} {lo lo2 : Nat → Nat → Nat → Int} {v v2 : Nat → Nat → Int} (h1 : 0 < g → lo2 sd (s - g) k' = lo sd (s - g) k' ∧ lo2 (1 - sd) (s - g) k' = lo (1 - sd) (s - g) k') (h2 : g = 0 → v2 (1 - sd) k' = v (1 - sd) k') : woV s lo2 v2 sd (g, st, k') = woV s lo v sd (g, st, k') := by
  unfold woV
  by_cases q : 0 < g
  · rw [if_pos q, if_pos q, (h1 q).1, (h1 q).2]
  · rw [if_neg q, if_neg q, h2 (by omega)]
theorem st_re {T T0 : Nat → Nat} {s sd k : Nat} {lo lo2 : Nat → Nat → Nat → Int} {v v2 : Nat → Nat → Int} (r : RE T T0) (hW : WF T) (h40 : s ≤ 40) (hl : ∀ sd s' k, sd < 2 → s' < s → k < Wn (opnN T) s' → lo2 sd s' k = lo sd s' k) (hv : ∀ sd k, sd < 2 → k < Wn (opnN T) s → v2 sd k = v sd k) (hs : sd < 2) (hk : k < Wn (opnN T) s) : stV T0 s lo2 v2 sd k = stV T s lo v sd k := by
  unfold stV
  rw [enD_re r hW hs h40 hk, edV_re r, r 1 (by decide) (by decide)]
  have : mxV (fmV T0 s lo2 v2 sd k) (T 1) = mxV (fmV T s lo v sd k) (T 1) := by
    refine mx_cg _ (fun w hw => ?_)
    unfold fmV
    rw [mvD_re r hW hs h40 hk hw]
    cases hm : mvD T sd s k w with
    | none => rfl
    | some x =>
      obtain ⟨g, st, k'⟩ := x
      obtain ⟨p1, p2, p3, -⟩ := mvD_p hW hs h40 hk hw hm
      have e := wo_cg (s := s) (g := g) (k' := k') (sd := sd) (st := st) (lo := lo) (lo2 := lo2) (v := v) (v2 := v2) (fun q => ⟨hl _ _ _ hs (by omega) p2, hl _ _ _ (by omega) (by omega) p2⟩) (fun q => hv _ _ (by omega) (by rw [q, Nat.sub_zero] at p2; exact p2))
      show some _ = some _
      rw [e]
  rw [this]
theorem it_re {T T0 : Nat → Nat} {s : Nat} {lo lo2 : Nat → Nat → Nat → Int} (r : RE T T0) (hW : WF T) (h40 : s ≤ 40) (hl : ∀ sd s' k, sd < 2 → s' < s → k < Wn (opnN T) s' → lo2 sd s' k = lo sd s' k) : ∀ n sd k, sd < 2 → k < Wn (opnN T) s → itV T0 s lo2 n sd k = itV T s lo n sd k := by
  intro n
  induction n with
  | zero =>
    intro sd k hs hk
    show (if enD T0 sd s k = true then edV T0 sd s k else 0) = if enD T sd s k = true then edV T sd s k else 0
    rw [enD_re r hW hs h40 hk, edV_re r]
  | succ n ih =>
    intro sd k hs hk
    exact st_re r hW h40 hl ih hs hk
theorem ir_re {T T0 : Nat → Nat} {s : Nat} {lo lo2 : Nat → Nat → Nat → Int} (r : RE T T0) (hW : WF T) (h40 : s ≤ 40) (hl : ∀ sd s' k, sd < 2 → s' < s → k < Wn (opnN T) s' → lo2 sd s' k = lo sd s' k) : ∀ n sd k, sd < 2 → k < Wn (opnN T) s → itR T0 s lo2 n sd k = itR T s lo n sd k := by
  intro n
  induction n with
  | zero => intro sd k hs hk; rfl
  | succ n ih =>
    intro sd k hs hk
    have e1 := it_re r hW h40 hl (n + 1) sd k hs hk
    have e2 := it_re r hW h40 hl n sd k hs hk
    have e3 := ih sd k hs hk
    show (if itV T0 s lo2 (n + 1) sd k = itV T0 s lo2 n sd k then itR T0 s lo2 n sd k else n + 1) = if itV T s lo (n + 1) sd k = itV T s lo n sd k then itR T s lo n sd k else n + 1
    rw [e1, e2, e3]
theorem VL_re {T T0 : Nat → Nat} (r : RE T T0) (hW : WF T) : ∀ S, S ≤ 41 → ∀ sd s k, sd < 2 → s < S → k < Wn (opnN T) s → VL T0 S sd s k = VL T S sd s k ∧ RK T0 S sd s k = RK T S sd s k := by
  intro S
  induction S with
  | zero => intro _ sd s k _ h; omega
  | succ S ih =>
    intro hS sd s k hs hsS hk
    rw [VL, VL, RK, RK]
    dsimp only
    by_cases q : s = S
    · rw [if_pos q, if_pos q, if_pos q, if_pos q]
      subst q
      exact ⟨it_re r hW (by omega) (fun sd s' k' h0 h1 h2 => (ih (by omega) sd s' k' h0 h1 h2).1) 6007 sd k hs hk, ir_re r hW (by omega) (fun sd s' k' h0 h1 h2 => (ih (by omega) sd s' k' h0 h1 h2).1) 6007 sd k hs hk⟩
    · rw [if_neg q, if_neg q, if_neg q, if_neg q]
      exact ih (by omega) sd s k hs (by omega) hk
/-! ints -/
def iv (x : Int) : Int32 := Int32.ofInt x
theorem iv_n (n : Nat) : nI n = iv n := (Int32.ofInt_eq_ofNat).symm
theorem iv_add (a b : Int) : iv a + iv b = iv (a + b) := (Int32.ofInt_add a b).symm
theorem iv_neg (a : Int) : - iv a = iv (-a) := (Int32.ofInt_neg a).symm
theorem iv_sub (a b : Int) : iv a - iv b = iv (a - b) := (Int32.ofInt_sub a b).symm
theorem iv_t {a : Int} (h1 : -2147483648 ≤ a) (h2 : a < 2147483648) : (iv a).toInt = a := Int32.toInt_ofInt_of_le h1 h2
theorem iv_lt {a b : Int} (h1 : -2147483648 ≤ a) (h2 : a < 2147483648) (h3 : -2147483648 ≤ b) (h4 : b < 2147483648) : iv a < iv b ↔ a < b := by rw [Int32.lt_iff_toInt_lt, iv_t h1 h2, iv_t h3 h4]
theorem iv_le {a b : Int} (h1 : -2147483648 ≤ a) (h2 : a < 2147483648) (h3 : -2147483648 ≤ b) (h4 : b < 2147483648) : iv a ≤ iv b ↔ a ≤ b := by rw [Int32.le_iff_toInt_le, iv_t h1 h2, iv_t h3 h4]
theorem iv_eq {a b : Int} (h1 : -2147483648 ≤ a) (h2 : a < 2147483648) (h3 : -2147483648 ≤ b) (h4 : b < 2147483648) : iv a = iv b ↔ a = b := by
  constructor
  · intro h
    have := congrArg Int32.toInt h
    rw [iv_t h1 h2, iv_t h3 h4] at this
    exact this
  · intro h; rw [h]
theorem iv_m1000 : (-1000 : Int32) = iv (-1000) := by decide
theorem iv_m1 : (-1 : Int32) = iv (-1) := by decide
