/-! tokens of a text: b its bytes, m its limit -/
def isL (x : Nat) : Bool := decide (97 ≤ x ∧ x ≤ 122)
def isD (x : Nat) : Bool := decide (48 ≤ x ∧ x ≤ 57)
def isS (x : Nat) : Bool := decide (x = 10 ∨ x = 32)
theorem isL_t {x : Nat} : isL x = true ↔ 97 ≤ x ∧ x ≤ 122 := decide_eq_true_iff
theorem isD_t {x : Nat} : isD x = true ↔ 48 ≤ x ∧ x ≤ 57 := decide_eq_true_iff
theorem isS_t {x : Nat} : isS x = true ↔ x = 10 ∨ x = 32 := decide_eq_true_iff
def scF (g : Nat → Bool) (m : Nat) : Nat → Nat → Nat
  | 0, p => p
  | c + 1, p => if p < m ∧ g p = true then scF g m c (p + 1) else p
def scE (g : Nat → Bool) (m p : Nat) : Nat := scF g m (m - p) p
theorem sc_p {g : Nat → Bool} {m : Nat} : ∀ c p, p ≤ m → m - p ≤ c → p ≤ scF g m c p ∧ scF g m c p ≤ m ∧ (∀ x, p ≤ x → x < scF g m c p → g x = true) ∧ (scF g m c p < m → g (scF g m c p) = false) := by
  intro c
  induction c with
  | zero =>
    intro p h1 h2
    show p ≤ p ∧ p ≤ m ∧ _ ∧ _
    exact ⟨Nat.le_refl _, h1, fun x a b => by have : x < p := b; omega, fun q => by have : p < m := q; omega⟩
  | succ c ih =>
    intro p h1 h2
    rw [scF]
    by_cases z : p < m ∧ g p = true
    · rw [if_pos z]
      obtain ⟨a1, a2, a3, a4⟩ := ih (p + 1) (by omega) (by omega)
      refine ⟨by omega, a2, fun x q1 q2 => ?_, a4⟩
      by_cases e : x = p
      · rw [e]; exact z.2
      · exact a3 x (by omega) q2
    · rw [if_neg z]
      refine ⟨Nat.le_refl _, h1, fun x a b => by omega, fun q => ?_⟩
      cases e : g p with
      | false => rfl
      | true => exact absurd ⟨q, e⟩ z
theorem sc_e {g : Nat → Bool} {m p : Nat} (h : p ≤ m) : p ≤ scE g m p ∧ scE g m p ≤ m ∧ (∀ x, p ≤ x → x < scE g m p → g x = true) ∧ (scE g m p < m → g (scE g m p) = false) := sc_p (m - p) p h (Nat.le_refl _)
theorem sc_u {g : Nat → Bool} {m p q : Nat} (h1 : p ≤ q) (h2 : q ≤ m) (h3 : ∀ x, p ≤ x → x < q → g x = true) (h4 : q < m → g q = false) : scE g m p = q := by
  obtain ⟨a1, a2, a3, a4⟩ := sc_e (g := g) (m := m) (p := p) (by omega)
  rcases Nat.lt_trichotomy (scE g m p) q with z | z | z
  · rw [h3 _ a1 z] at a4
    exact Bool.noConfusion (a4 (by omega))
  · exact z
  · rw [a3 q h1 z] at h4
    exact Bool.noConfusion (h4 (by omega))
def tS (b : Nat → Nat) (m p : Nat) : Nat := scE (fun x => isS (b x)) m p
def tW (b : Nat → Nat) (m p : Nat) : Nat := scE (fun x => isL (b x)) m (tS b m p)
def tD (b : Nat → Nat) (m p : Nat) : Nat := scE (fun x => isD (b x)) m (tS b m p)
def vlN (b : Nat → Nat) (s : Nat) : Nat → Nat
  | 0 => 0
  | i + 1 => vlN b s i * 10 + (b (s + i) - 48)
def tK (b : Nat → Nat) (m p : Nat) : Nat := if m ≤ tS b m p then 0 else if isD (b (tS b m p)) = true then (if tD b m p - tS b m p ≤ 3 then 2 else 4) else if isL (b (tS b m p)) = true then 1 else if b (tS b m p) = 59 then 3 else 4
def tE (b : Nat → Nat) (m p : Nat) : Nat := if m ≤ tS b m p then tS b m p else if isD (b (tS b m p)) = true then tD b m p else if isL (b (tS b m p)) = true then tW b m p else tS b m p + 1
def tV (b : Nat → Nat) (m p : Nat) : Nat := vlN b (tS b m p) (tD b m p - tS b m p)
theorem vl_lt {b : Nat → Nat} {s : Nat} : ∀ i, (∀ x, x < i → isD (b (s + x)) = true) → vlN b s i < 10 ^ i := by
  intro i
  induction i with
  | zero => intro _; show 0 < 1; decide
  | succ i ih =>
    intro h
    have h1 := isD_t.mp (h i (by omega))
    have h2 := ih (fun x q => h x (by omega))
    rw [vlN, Nat.pow_succ]
    omega
/-- the text lies in both tapes -/
def TXC (μ : Mu) (b : Nat → Nat) (m : Nat) : Prop := m ≤ 500 ∧ μ.1 12 6 = nI m ∧ ∀ i, i < m → b i < 256 ∧ μ.1 14 i = nI (b i)
/-- what a step of the class keeps -/
def KC (μ μ' : Mu) : Prop := (∀ o, o ≠ 12 → μ'.1 o = μ.1 o) ∧ μ'.2 = μ.2 ∧ μ'.1 12 4 = μ.1 12 4 ∧ μ'.1 12 6 = μ.1 12 6
theorem KC.rf {μ : Mu} : KC μ μ := ⟨fun _ _ => rfl, rfl, rfl, rfl⟩
theorem KC.tr {μ μ1 μ2 : Mu} (h : KC μ μ1) (g : KC μ1 μ2) : KC μ μ2 := ⟨fun o q => by rw [g.1 o q, h.1 o q], by rw [g.2.1, h.2.1], by rw [g.2.2.1, h.2.2.1], by rw [g.2.2.2, h.2.2.2]⟩
theorem KC.s {μ μ1 : Mu} (h : KC μ μ1) {k : Nat} {v : Int32} (h4 : k ≠ 4) (h6 : k ≠ 6) : KC μ (si μ1 12 k v) := ⟨fun o q => by rw [si_o q]; exact h.1 o q, h.2.1, by rw [si_c (fun e => h4 e.symm)]; exact h.2.2.1, by rw [si_c (fun e => h6 e.symm)]; exact h.2.2.2⟩
theorem TXC_k {μ μ' : Mu} {b : Nat → Nat} {m : Nat} (h : TXC μ b m) (k : KC μ μ') : TXC μ' b m := ⟨h.1, by rw [k.2.2.2]; exact h.2.1, fun i hi => by rw [k.1 14 (by decide)]; exact h.2.2 i hi⟩
theorem digC_s (n : Nat) (μ : Mu) {b : Nat → Nat} {m i : Nat} (h : TXC μ b m) (hi : i < m) : X4_isDigit n (nI i) μ = some (b2i (isD (b i)), μ) := by
  obtain ⟨h1, _, h3⟩ := h
  obtain ⟨c1, c2⟩ := h3 i hi
  unfold X4_isDigit X4_isDigit_26 X4_isDigit_27
  rw [gd_n (by omega) (by decide), nI_clamp (by omega), c2, i_48, i_57, ifLt (by omega) (by decide), ifLt (by decide) (by omega)]
  by_cases z : b i < 48
  · rw [if_pos z, show isD (b i) = false from decide_eq_false (by omega)]; rfl
  · rw [if_neg z]
    by_cases z2 : 57 < b i
    · rw [if_pos z2, show isD (b i) = false from decide_eq_false (by omega)]; rfl
    · rw [if_neg z2, show isD (b i) = true from decide_eq_true (by omega)]; rfl
theorem letC_s (n : Nat) (μ : Mu) {b : Nat → Nat} {m i : Nat} (h : TXC μ b m) (hi : i < m) : X4_isLetter n (nI i) μ = some (b2i (isL (b i)), μ) := by
  obtain ⟨h1, _, h3⟩ := h
  obtain ⟨c1, c2⟩ := h3 i hi
  unfold X4_isLetter X4_isLetter_26 X4_isLetter_27
  rw [gd_n (by omega) (by decide), nI_clamp (by omega), c2, i_97, i_122, ifLt (by omega) (by decide), ifLt (by decide) (by omega)]
  by_cases z : b i < 97
  · rw [if_pos z, show isL (b i) = false from decide_eq_false (by omega)]; rfl
  · rw [if_neg z]
    by_cases z2 : 122 < b i
    · rw [if_pos z2, show isL (b i) = false from decide_eq_false (by omega)]; rfl
    · rw [if_neg z2, show isL (b i) = true from decide_eq_true (by omega)]; rfl
theorem wordC_s (n : Nat) (μ : Mu) {b : Nat → Nat} {m s : Nat} (h : TXC μ b m) (hs : s ≤ m) (h9 : μ.1 12 9 = nI s) (hn : 1000 < n) : Ok (X4_stepWord n μ) (fun _ μ' => KC μ μ' ∧ μ'.1 12 2 = μ.1 12 2 ∧ μ'.1 12 3 = μ.1 12 3 ∧ μ'.1 12 7 = nI 1 ∧ μ'.1 12 8 = μ.1 12 8 ∧ μ'.1 12 9 = nI (scE (fun x => isL (b x)) m s)) := by
  have h500 := h.1
  unfold X4_stepWord X4_stepWord_5
  refine Ok_lp0 (fun f μ' => ∃ q, s ≤ q ∧ q ≤ m ∧ f = m - q ∧ KC μ μ' ∧ μ'.1 12 2 = μ.1 12 2 ∧ μ'.1 12 3 = μ.1 12 3 ∧ μ'.1 12 7 = nI 1 ∧ μ'.1 12 8 = μ.1 12 8 ∧ μ'.1 12 9 = nI q ∧ ∀ x, s ≤ x → x < q → isL (b x) = true) ?_ (m - s) (by omega) ⟨s, Nat.le_refl _, hs, rfl, KC.rf.s (by decide) (by decide), by rw [si_c (by decide)], by rw [si_c (by decide)], si_a, by rw [si_c (by decide)], by rw [si_c (by decide)]; exact h9, fun x a c => by omega⟩
  rintro K f μ1 ⟨q, q1, q2, rfl, k1, a2, a3, a7, a8, a9, hall⟩ hK
  unfold X4_stepWord_5b X4_stepWord_40
  have t1 := TXC_k h k1
  rw [t1.2.1, a9, ifLe (by omega) (by omega)]
  have fin : (q < m → isL (b q) = false) → scE (fun x => isL (b x)) m s = q := fun e => sc_u q1 q2 hall e
  by_cases c : m ≤ q
  · rw [if_pos c, fin (fun z => by omega)]
    exact Ok_r ⟨k1, a2, a3, a7, a8, a9⟩
  · rw [if_neg c, bS (letC_s n μ1 t1 (by omega))]
    dsimp only
    cases e : isL (b q) with
    | false =>
      rw [if_pos (show b2i false = 0 from rfl), fin (fun _ => e)]
      exact Ok_r ⟨k1, a2, a3, a7, a8, a9⟩
    | true =>
      rw [if_neg (show ¬ b2i true = 0 by decide), a9, i_1, nI_add]
      refine hK (m - (q + 1)) _ (by omega) ⟨q + 1, by omega, by omega, rfl, k1.s (by decide) (by decide), by rw [si_c (by decide)]; exact a2, by rw [si_c (by decide)]; exact a3, by rw [si_c (by decide)]; exact a7, by rw [si_c (by decide)]; exact a8, si_a, fun x x1 x2 => ?_⟩
      by_cases zz : x = q
      · rw [zz]; exact e
      · exact hall x x1 (by omega)
