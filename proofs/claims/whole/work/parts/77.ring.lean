/-! the way of a side as a ring: places 0 .. 2 sz, the store's place is sz -/
def cI (sz s i : Nat) : Nat := if i < sz then offN sz s + i else if i = sz then 12 + s else offN sz (1 - s) + (i - sz - 1)
def cR (sz s i : Nat) : Nat := if i = sz then 100 else cI sz s i
def onI (T : Nat → Nat) (s i : Nat) : Bool := if i = T 1 then decide (T 4 = 1) else !(T 3).testBit (cI (T 1) s i)
def pw (on : Nat → Bool) (w : Nat) : Nat → Bool := fun j => on j && !decide (j = w)
/-- j is the first place behind i where P is -/
def NX (P : Nat → Bool) (m i j : Nat) : Prop := ∃ d, 1 ≤ d ∧ d ≤ m ∧ j = (i + d) % m ∧ P j = true ∧ ∀ t, 1 ≤ t → t < d → P ((i + t) % m) = false
theorem NX_u {P : Nat → Bool} {m i j j' : Nat} (h : NX P m i j) (h' : NX P m i j') : j = j' := by
  obtain ⟨d, h1, h2, h3, h4, h5⟩ := h
  obtain ⟨e, g1, g2, g3, g4, g5⟩ := h'
  by_cases c : d < e
  · have := g5 d h1 c
    rw [← h3, h4] at this
    exact absurd this (by decide)
  · by_cases c2 : e < d
    · have := h5 e g1 c2
      rw [← g3, g4] at this
      exact absurd this (by decide)
    · rw [h3, g3, show d = e by omega]
theorem NX_lt {P : Nat → Bool} {m i j : Nat} (h : NX P m i j) (hm : 0 < m) : j < m := by
  obtain ⟨d, h1, h2, h3, h4, h5⟩ := h
  rw [h3]
  exact Nat.mod_lt _ hm
theorem NX_on {P : Nat → Bool} {m i j : Nat} (h : NX P m i j) : P j = true := by
  obtain ⟨d, h1, h2, h3, h4, h5⟩ := h
  exact h4
def fd (P : Nat → Bool) (m i : Nat) : Nat → Nat → Option Nat
  | 0, _ => none
  | f + 1, t => if P ((i + t) % m) = true then some ((i + t) % m) else fd P m i f (t + 1)
theorem fd_some {P : Nat → Bool} {m i j : Nat} : ∀ f t, fd P m i f t = some j → ∃ d, t ≤ d ∧ d < t + f ∧ j = (i + d) % m ∧ P j = true ∧ ∀ u, t ≤ u → u < d → P ((i + u) % m) = false := by
  intro f
  induction f with
  | zero => intro t h; exact nomatch h
  | succ f ih =>
    intro t h
    rw [fd] at h
    by_cases c : P ((i + t) % m) = true
    · rw [if_pos c] at h
      injection h with h
      exact ⟨t, Nat.le_refl _, by omega, h.symm, by rw [← h]; exact c, fun u h1 h2 => by omega⟩
    · rw [if_neg c] at h
      obtain ⟨d, h1, h2, h3, h4, h5⟩ := ih (t + 1) h
      refine ⟨d, by omega, by omega, h3, h4, fun u g1 g2 => ?_⟩
      by_cases c2 : u = t
      · rw [c2]; simpa using c
      · exact h5 u (by omega) g2
theorem fd_none {P : Nat → Bool} {m i : Nat} : ∀ f t, fd P m i f t = none → ∀ u, t ≤ u → u < t + f → P ((i + u) % m) = false := by
  intro f
  induction f with
  | zero => intro t h u h1 h2; omega
  | succ f ih =>
    intro t h u h1 h2
    rw [fd] at h
    by_cases c : P ((i + t) % m) = true
    · rw [if_pos c] at h
      exact nomatch h
    · rw [if_neg c] at h
      by_cases c2 : u = t
      · rw [c2]; simpa using c
      · exact ih (t + 1) h u (by omega) (by omega)
theorem ring_r {m i j : Nat} (hi : i < m) (hj : j < m) : ∃ u, 1 ≤ u ∧ u ≤ m ∧ (i + u) % m = j := by
  by_cases c : i < j
  · exact ⟨j - i, by omega, by omega, by rw [show i + (j - i) = j by omega, Nat.mod_eq_of_lt hj]⟩
  · exact ⟨j + m - i, by omega, by omega, by rw [show i + (j + m - i) = j + m by omega, Nat.add_mod_right, Nat.mod_eq_of_lt hj]⟩
theorem NX_fd {P : Nat → Bool} {m i j : Nat} (h : NX P m i j) : fd P m i m 1 = some j := by
  cases e : fd P m i m 1 with
  | none =>
    obtain ⟨d, h1, h2, h3, h4, h5⟩ := h
    have := fd_none m 1 e d h1 (by omega)
    rw [← h3, h4] at this
    exact absurd this (by decide)
  | some j' =>
    obtain ⟨d, h1, h2, h3, h4, h5⟩ := fd_some m 1 e
    rw [NX_u h ⟨d, h1, by omega, h3, h4, h5⟩]
theorem fd_NX {P : Nat → Bool} {m i j : Nat} (e : fd P m i m 1 = some j) : NX P m i j := by
  obtain ⟨d, h1, h2, h3, h4, h5⟩ := fd_some m 1 e
  exact ⟨d, h1, by omega, h3, h4, h5⟩
theorem NX_ex {P : Nat → Bool} {m i j : Nat} (hi : i < m) (hj : j < m) (hp : P j = true) : ∃ k, NX P m i k := by
  cases e : fd P m i m 1 with
  | none =>
    obtain ⟨u, h1, h2, h3⟩ := ring_r hi hj
    have := fd_none m 1 e u h1 (by omega)
    rw [h3, hp] at this
    exact absurd this (by decide)
  | some k => exact ⟨k, fd_NX e⟩
theorem pw_t {on : Nat → Bool} {w j : Nat} : pw on w j = true ↔ on j = true ∧ j ≠ w := by
  unfold pw
  rw [Bool.and_eq_true, Bool.not_eq_true', decide_eq_false_iff_not]
theorem pw_f {on : Nat → Bool} {w j : Nat} (h : on j = false) : pw on w j = false := by
  unfold pw
  rw [h]
  rfl
theorem pw_w {on : Nat → Bool} {w : Nat} : pw on w w = false := by
  unfold pw
  rw [decide_eq_true rfl]
  cases on w <;> rfl
theorem NX_k1 {on : Nat → Bool} {m i j w : Nat} (h : NX on m i j) (hw : j ≠ w) : NX (pw on w) m i j := by
  obtain ⟨d, h1, h2, h3, h4, h5⟩ := h
  exact ⟨d, h1, h2, h3, pw_t.mpr ⟨h4, hw⟩, fun t g1 g2 => pw_f (h5 t g1 g2)⟩
theorem NX_k2 {on : Nat → Bool} {m i j w : Nat} (h : NX on m i w) (g : NX on m w j) (hw : j ≠ w) : NX (pw on w) m i j := by
  obtain ⟨d, h1, h2, h3, h4, h5⟩ := h
  obtain ⟨e, g1, g2, g3, g4, g5⟩ := g
  have hsum : ∀ t, (w + t) % m = (i + (d + t)) % m := by
    intro t
    rw [h3, Nat.mod_add_mod, Nat.add_assoc]
  have hde : d + e ≤ m := by
    refine Decidable.byContradiction (fun c => ?_)
    by_cases c2 : e = m
    · subst c2
      apply hw
      rw [g3, Nat.add_mod_right, h3, Nat.mod_mod]
    · have := h5 (d + e - m) (by omega) (by omega)
      rw [show (i + (d + e - m)) % m = j by rw [g3, hsum, ← Nat.add_mod_right, show i + (d + e - m) + m = i + (d + e) by omega], g4] at this
      exact absurd this (by decide)
  refine ⟨d + e, by omega, hde, by rw [g3, hsum], pw_t.mpr ⟨g4, hw⟩, fun t t1 t2 => ?_⟩
  by_cases c : t < d
  · exact pw_f (h5 t t1 c)
  · by_cases c2 : t = d
    · rw [c2, ← h3]; exact pw_w
    · have := g5 (t - d) (by omega) (by omega)
      rw [hsum, show d + (t - d) = t by omega] at this
      exact pw_f this
theorem NX_k3 {on : Nat → Bool} {m w : Nat} (hw : w < m) (h : NX on m w w) : ∀ j, j < m → pw on w j = false := by
  intro j hj
  by_cases c : j = w
  · rw [c]; exact pw_w
  · cases e : on j with
    | false => exact pw_f e
    | true =>
      exfalso
      have e2 : pw on w j = true := pw_t.mpr ⟨e, c⟩
      obtain ⟨d, h1, h2, h3, h4, h5⟩ := h
      obtain ⟨u, g1, g2, g3⟩ := ring_r hw hj
      by_cases c2 : u < d
      · have := h5 u g1 c2
        rw [g3, e] at this
        exact absurd this (by decide)
      · by_cases c3 : d = m
        · rw [show u = m by omega, Nat.add_mod_right, Nat.mod_eq_of_lt hw] at g3
          exact c g3.symm
        · have : (w + d) % m = w := h3.symm
          have q : w + d < m ∨ m ≤ w + d := by omega
          cases q with
          | inl q => rw [Nat.mod_eq_of_lt q] at this; omega
          | inr q => rw [Nat.mod_eq_sub_mod q, Nat.mod_eq_of_lt (by omega)] at this; omega
/-! the reference's next is the ring's -/
def rP (T : Nat → Nat) (s : Nat) (wo : Int32) (j : Nat) : Bool := if j = T 1 then decide (T 4 = 1) else !(T 3).testBit (cI (T 1) s j) && !decide (nI (cI (T 1) s j) = wo)
theorem goN_t (sz : Nat) (h7 : sz < 7) (h1 : 1 ≤ sz) : ∀ s, s < 2 → ∀ i, i < 2 * sz + 1 → i + 1 ≠ sz → goN sz s (cR sz s i) = cR sz s ((i + 1) % (2 * sz + 1)) ∧ ¬ (¬ cR sz s i = 100 ∧ atN sz s (cR sz s i) = sz - 1) := by
  obtain rfl | rfl | rfl | rfl | rfl | rfl : sz = 1 ∨ sz = 2 ∨ sz = 3 ∨ sz = 4 ∨ sz = 5 ∨ sz = 6 := by omega
  all_goals decide
theorem goN_e (sz : Nat) (h7 : sz < 7) (h1 : 1 ≤ sz) : ∀ s, s < 2 → goN sz s (cR sz s (sz - 1)) = goN sz s (cR sz s sz) ∧ ¬ cR sz s (sz - 1) = 100 ∧ atN sz s (cR sz s (sz - 1)) = sz - 1 := by
  obtain rfl | rfl | rfl | rfl | rfl | rfl : sz = 1 ∨ sz = 2 ∨ sz = 3 ∨ sz = 4 ∨ sz = 5 ∨ sz = 6 := by omega
  all_goals decide
theorem cR_lt (sz : Nat) (h7 : sz < 7) (h1 : 1 ≤ sz) : ∀ s, s < 2 → ∀ i, i < 2 * sz + 1 → cR sz s i < 2 * sz ∨ cR sz s i = 100 := by
  obtain rfl | rfl | rfl | rfl | rfl | rfl : sz = 1 ∨ sz = 2 ∨ sz = 3 ∨ sz = 4 ∨ sz = 5 ∨ sz = 6 := by omega
  all_goals decide
theorem cI_lt (sz : Nat) (h7 : sz < 7) (h1 : 1 ≤ sz) : ∀ s, s < 2 → ∀ i, i < 2 * sz + 1 → (i ≠ sz → cI sz s i < 2 * sz) ∧ cI sz s i < 14 ∧ cI sz s sz = 12 + s := by
  obtain rfl | rfl | rfl | rfl | rfl | rfl : sz = 1 ∨ sz = 2 ∨ sz = 3 ∨ sz = 4 ∨ sz = 5 ∨ sz = 6 := by omega
  all_goals decide
theorem cI_in (sz : Nat) (h7 : sz < 7) (h1 : 1 ≤ sz) : ∀ s, s < 2 → ∀ i, i < 2 * sz + 1 → ∀ j, j < 2 * sz + 1 → cI sz s i = cI sz s j → i = j := by
  obtain rfl | rfl | rfl | rfl | rfl | rfl : sz = 1 ∨ sz = 2 ∨ sz = 3 ∨ sz = 4 ∨ sz = 5 ∨ sz = 6 := by omega
  all_goals decide
theorem nxN_s {T : Nat → Nat} {s f i : Nat} {wo : Int32} (h6 : T 1 < 7) (h1 : 1 ≤ T 1) (hs : s < 2) (hi : i < 2 * T 1 + 1) (h4 : T 4 < 2) :
    nxN (T 1) (T 3) (T 4) s wo (f + 1) (cR (T 1) s i) = if rP T s wo ((i + 1) % (2 * T 1 + 1)) = true then some (cR (T 1) s ((i + 1) % (2 * T 1 + 1))) else if i + 1 = T 1 then nxN (T 1) (T 3) (T 4) s wo (f + 1) (cR (T 1) s (T 1)) else nxN (T 1) (T 3) (T 4) s wo f (cR (T 1) s ((i + 1) % (2 * T 1 + 1))) := by
  by_cases c : i + 1 = T 1
  · rw [if_pos c, c, Nat.mod_eq_of_lt (by omega)]
    obtain ⟨g1, g2, g3⟩ := goN_e (T 1) h6 h1 s hs
    unfold rP
    rw [if_pos rfl]
    rw [show i = T 1 - 1 by omega]
    by_cases c4 : T 4 = 1
    · rw [if_pos (decide_eq_true c4), nxN, if_pos ⟨g2, g3, c4⟩]
      unfold cR
      rw [if_pos rfl]
    · have e1 : ∀ a, goN (T 1) s a = goN (T 1) s (cR (T 1) s (T 1)) → nxN (T 1) (T 3) (T 4) s wo (f + 1) a = if (T 3).testBit (goN (T 1) s (cR (T 1) s (T 1))) = false ∧ ¬ nI (goN (T 1) s (cR (T 1) s (T 1))) = wo then some (goN (T 1) s (cR (T 1) s (T 1))) else nxN (T 1) (T 3) (T 4) s wo f (goN (T 1) s (cR (T 1) s (T 1))) := fun a ha => by rw [nxN, if_neg (fun q => c4 q.2.2), ha]
      rw [if_neg (by rw [decide_eq_true_iff]; exact c4), e1 _ g1, e1 _ rfl]
  · rw [if_neg c]
    obtain ⟨g1, g2⟩ := goN_t (T 1) h6 h1 s hs i hi c
    have hm : (i + 1) % (2 * T 1 + 1) < 2 * T 1 + 1 := Nat.mod_lt _ (by omega)
    have hne : (i + 1) % (2 * T 1 + 1) ≠ T 1 := by
      by_cases q : i + 1 < 2 * T 1 + 1
      · rw [Nat.mod_eq_of_lt q]; exact c
      · rw [show i + 1 = 2 * T 1 + 1 by omega, Nat.mod_self]; omega
    have e : cR (T 1) s ((i + 1) % (2 * T 1 + 1)) = cI (T 1) s ((i + 1) % (2 * T 1 + 1)) := by
      unfold cR
      rw [if_neg hne]
    rw [nxN, if_neg (fun q => g2 ⟨q.1, q.2.1⟩), g1, e]
    unfold rP
    rw [if_neg hne]
    simp only [Bool.and_eq_true, Bool.not_eq_true', decide_eq_false_iff_not]
theorem nxN_f {T : Nat → Nat} {s : Nat} {wo : Int32} (h6 : T 1 < 7) (h1 : 1 ≤ T 1) (hs : s < 2) (h4 : T 4 < 2) : ∀ d, 1 ≤ d → ∀ f i, d ≤ f → i < 2 * T 1 + 1 → rP T s wo ((i + d) % (2 * T 1 + 1)) = true → (∀ t, 1 ≤ t → t < d → rP T s wo ((i + t) % (2 * T 1 + 1)) = false) → nxN (T 1) (T 3) (T 4) s wo f (cR (T 1) s i) = some (cR (T 1) s ((i + d) % (2 * T 1 + 1))) := by
  intro d
  induction d with
  | zero => intro h; omega
  | succ d ih =>
    intro _ f i hf hi hp ht
    obtain ⟨f, rfl⟩ : ∃ g, f = g + 1 := ⟨f - 1, by omega⟩
    rw [nxN_s h6 h1 hs hi h4]
    by_cases c : d = 0
    · subst c
      rw [if_pos hp]
    · rw [if_neg (by rw [ht 1 (by omega) (by omega)]; decide)]
      have hm : (i + 1) % (2 * T 1 + 1) < 2 * T 1 + 1 := Nat.mod_lt _ (by omega)
      have hs2 : ∀ t, ((i + 1) % (2 * T 1 + 1) + t) % (2 * T 1 + 1) = (i + (t + 1)) % (2 * T 1 + 1) := by
        intro t
        rw [Nat.mod_add_mod, show i + 1 + t = i + (t + 1) by omega]
      have ih2 : ∀ g, d ≤ g → nxN (T 1) (T 3) (T 4) s wo g (cR (T 1) s ((i + 1) % (2 * T 1 + 1))) = some (cR (T 1) s ((i + (d + 1)) % (2 * T 1 + 1))) := by
        intro g hg
        rw [ih (by omega) g _ hg hm (by rw [hs2]; exact hp) (fun t t1 t2 => by rw [hs2]; exact ht (t + 1) (by omega) (by omega)), hs2]
      by_cases c2 : i + 1 = T 1
      · rw [if_pos c2]
        have := ih2 (f + 1) (by omega)
        rw [c2, Nat.mod_eq_of_lt (by omega)] at this
        exact this
      · rw [if_neg c2]
        exact ih2 f (by omega)
theorem nxN_some {T : Nat → Nat} {s i j : Nat} {wo : Int32} (h6 : T 1 < 7) (h1 : 1 ≤ T 1) (hs : s < 2) (h4 : T 4 < 2) (hi : i < 2 * T 1 + 1) (h : NX (rP T s wo) (2 * T 1 + 1) i j) : nxN (T 1) (T 3) (T 4) s wo 36 (cR (T 1) s i) = some (cR (T 1) s j) := by
  obtain ⟨d, g1, g2, g3, g4, g5⟩ := h
  rw [g3] at g4 ⊢
  exact nxN_f h6 h1 hs h4 d g1 36 i (by omega) hi g4 g5
theorem nxN_none {T : Nat → Nat} {s : Nat} {wo : Int32} (h6 : T 1 < 7) (h1 : 1 ≤ T 1) (hs : s < 2) (h4 : T 4 < 2) (h : ∀ j, j < 2 * T 1 + 1 → rP T s wo j = false) : ∀ f i, i < 2 * T 1 + 1 → nxN (T 1) (T 3) (T 4) s wo f (cR (T 1) s i) = none := by
  intro f
  induction f with
  | zero => intro i _; rfl
  | succ f ih =>
    intro i hi
    have hm : ∀ k, (k + 1) % (2 * T 1 + 1) < 2 * T 1 + 1 := fun k => Nat.mod_lt _ (by omega)
    have base : ∀ k, k < 2 * T 1 + 1 → k + 1 ≠ T 1 → nxN (T 1) (T 3) (T 4) s wo (f + 1) (cR (T 1) s k) = none := by
      intro k hk hne
      rw [nxN_s h6 h1 hs hk h4, if_neg (by rw [h _ (hm k)]; decide), if_neg hne]
      exact ih _ (hm k)
    by_cases c : i + 1 = T 1
    · rw [nxN_s h6 h1 hs hi h4, if_neg (by rw [h _ (hm i)]; decide), if_pos c]
      exact base (T 1) (by omega) (by omega)
    · exact base i hi c
