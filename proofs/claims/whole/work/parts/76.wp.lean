/-! programs end well: Ok; a loop's rule; the words of ints -/
def Ok {α : Type} (x : Option (α × Mu)) (Q : α → Mu → Prop) : Prop := ∃ a μ', x = some (a, μ') ∧ Q a μ'
theorem Ok_r {α : Type} {a : α} {μ : Mu} {Q : α → Mu → Prop} (h : Q a μ) : Ok (some (a, μ)) Q := ⟨a, μ, rfl, h⟩
theorem Ok_e {α : Type} {x : Option (α × Mu)} {a : α} {μ : Mu} {Q : α → Mu → Prop} (h : x = some (a, μ)) (q : Q a μ) : Ok x Q := ⟨a, μ, h, q⟩
theorem Ok_b {α β : Type} {x : Option (α × Mu)} {f : α × Mu → Option (β × Mu)} {P : α → Mu → Prop} {Q : β → Mu → Prop} (h : Ok x P) (h2 : ∀ a μ', P a μ' → Ok (f (a, μ')) Q) : Ok (x.bind f) Q := by
  obtain ⟨a, μ', e, p⟩ := h
  rw [e]
  exact h2 a μ' p
theorem Ok_m {α : Type} {x : Option (α × Mu)} {P Q : α → Mu → Prop} (h : Ok x P) (h2 : ∀ a μ', P a μ' → Q a μ') : Ok x Q := by
  obtain ⟨a, μ', e, p⟩ := h
  exact ⟨a, μ', e, h2 a μ' p⟩
theorem Ok_f {α : Type} {x : Option (α × Mu)} {P : α → Mu → Prop} {R : Mu → Prop} (h : Ok x P) (h2 : ∀ r, x = some r → R r.2) : Ok x (fun a μ' => P a μ' ∧ R μ') := by
  obtain ⟨a, μ', e, p⟩ := h
  exact ⟨a, μ', e, p, h2 (a, μ') e⟩
theorem Ok_lp {F σ α : Type} (z : F) (b : F → F) (ap : F → σ → Option (α × Mu)) (I : Nat → σ → Prop) (Q : α → Mu → Prop) (h : ∀ K k s, I k s → (∀ k' s', k' < k → I k' s' → Ok (ap K s') Q) → Ok (ap (b K) s) Q) : ∀ n k s, k < n → I k s → Ok (ap (lpF z b n) s) Q := by
  intro n
  induction n with
  | zero => intro k s hk; omega
  | succ n ih =>
    intro k s hk hI
    rw [lpF_s]
    exact h _ k s hI (fun k' s' hk' hI' => ih k' s' (by omega) hI')
theorem Ok_lp0 {α  : Type} {z : (Mu → Option (α × Mu))} {b : (Mu → Option (α × Mu)) → (Mu → Option (α × Mu))} (I : Nat → Mu → Prop) {Q : α → Mu → Prop} (h : ∀ (K : (Mu → Option (α × Mu))) (k : Nat) (μ : Mu), I k  μ → (∀ (k2 : Nat) (μ2 : Mu), k2 < k → I k2  μ2 → Ok (K  μ2) Q) → Ok (b K  μ) Q) {n : Nat} (k : Nat) {μ : Mu} (hk : k < n) (hI : I k  μ) : Ok (lpF z b n  μ) Q :=
  Ok_lp z b (fun K (s : Mu) => K s) (fun k s => I k s) Q (fun K k s hI h2 => h K k s hI (fun k2  μ2 hk2 hI2 => h2 k2 μ2 hk2 hI2)) n k μ hk hI
theorem Ok_lp1 {α A0 : Type} {z : (A0 → Mu → Option (α × Mu))} {b : (A0 → Mu → Option (α × Mu)) → (A0 → Mu → Option (α × Mu))} (I : Nat → A0 → Mu → Prop) {Q : α → Mu → Prop} (h : ∀ (K : (A0 → Mu → Option (α × Mu))) (k : Nat) (x0 : A0) (μ : Mu), I k x0 μ → (∀ (k2 : Nat) (y0 : A0) (μ2 : Mu), k2 < k → I k2 y0 μ2 → Ok (K y0 μ2) Q) → Ok (b K x0 μ) Q) {n : Nat} (k : Nat) {x0 : A0} {μ : Mu} (hk : k < n) (hI : I k x0 μ) : Ok (lpF z b n x0 μ) Q :=
  Ok_lp z b (fun K (s : A0 × Mu) => K s.1 s.2) (fun k s => I k s.1 s.2) Q (fun K k s hI h2 => h K k s.1 s.2 hI (fun k2 y0 μ2 hk2 hI2 => h2 k2 (y0, μ2) hk2 hI2)) n k (x0, μ) hk hI
theorem Ok_lp2 {α A0 A1 : Type} {z : (A0 → A1 → Mu → Option (α × Mu))} {b : (A0 → A1 → Mu → Option (α × Mu)) → (A0 → A1 → Mu → Option (α × Mu))} (I : Nat → A0 → A1 → Mu → Prop) {Q : α → Mu → Prop} (h : ∀ (K : (A0 → A1 → Mu → Option (α × Mu))) (k : Nat) (x0 : A0) (x1 : A1) (μ : Mu), I k x0 x1 μ → (∀ (k2 : Nat) (y0 : A0) (y1 : A1) (μ2 : Mu), k2 < k → I k2 y0 y1 μ2 → Ok (K y0 y1 μ2) Q) → Ok (b K x0 x1 μ) Q) {n : Nat} (k : Nat) {x0 : A0} {x1 : A1} {μ : Mu} (hk : k < n) (hI : I k x0 x1 μ) : Ok (lpF z b n x0 x1 μ) Q :=
  Ok_lp z b (fun K (s : A0 × A1 × Mu) => K s.1 s.2.1 s.2.2) (fun k s => I k s.1 s.2.1 s.2.2) Q (fun K k s hI h2 => h K k s.1 s.2.1 s.2.2 hI (fun k2 y0 y1 μ2 hk2 hI2 => h2 k2 (y0, y1, μ2) hk2 hI2)) n k (x0, x1, μ) hk hI
theorem Ok_lp3 {α A0 A1 A2 : Type} {z : (A0 → A1 → A2 → Mu → Option (α × Mu))} {b : (A0 → A1 → A2 → Mu → Option (α × Mu)) → (A0 → A1 → A2 → Mu → Option (α × Mu))} (I : Nat → A0 → A1 → A2 → Mu → Prop) {Q : α → Mu → Prop} (h : ∀ (K : (A0 → A1 → A2 → Mu → Option (α × Mu))) (k : Nat) (x0 : A0) (x1 : A1) (x2 : A2) (μ : Mu), I k x0 x1 x2 μ → (∀ (k2 : Nat) (y0 : A0) (y1 : A1) (y2 : A2) (μ2 : Mu), k2 < k → I k2 y0 y1 y2 μ2 → Ok (K y0 y1 y2 μ2) Q) → Ok (b K x0 x1 x2 μ) Q) {n : Nat} (k : Nat) {x0 : A0} {x1 : A1} {x2 : A2} {μ : Mu} (hk : k < n) (hI : I k x0 x1 x2 μ) : Ok (lpF z b n x0 x1 x2 μ) Q :=
  Ok_lp z b (fun K (s : A0 × A1 × A2 × Mu) => K s.1 s.2.1 s.2.2.1 s.2.2.2) (fun k s => I k s.1 s.2.1 s.2.2.1 s.2.2.2) Q (fun K k s hI h2 => h K k s.1 s.2.1 s.2.2.1 s.2.2.2 hI (fun k2 y0 y1 y2 μ2 hk2 hI2 => h2 k2 (y0, y1, y2, μ2) hk2 hI2)) n k (x0, x1, x2, μ) hk hI
theorem Ok_lp4 {α A0 A1 A2 A3 : Type} {z : (A0 → A1 → A2 → A3 → Mu → Option (α × Mu))} {b : (A0 → A1 → A2 → A3 → Mu → Option (α × Mu)) → (A0 → A1 → A2 → A3 → Mu → Option (α × Mu))} (I : Nat → A0 → A1 → A2 → A3 → Mu → Prop) {Q : α → Mu → Prop} (h : ∀ (K : (A0 → A1 → A2 → A3 → Mu → Option (α × Mu))) (k : Nat) (x0 : A0) (x1 : A1) (x2 : A2) (x3 : A3) (μ : Mu), I k x0 x1 x2 x3 μ → (∀ (k2 : Nat) (y0 : A0) (y1 : A1) (y2 : A2) (y3 : A3) (μ2 : Mu), k2 < k → I k2 y0 y1 y2 y3 μ2 → Ok (K y0 y1 y2 y3 μ2) Q) → Ok (b K x0 x1 x2 x3 μ) Q) {n : Nat} (k : Nat) {x0 : A0} {x1 : A1} {x2 : A2} {x3 : A3} {μ : Mu} (hk : k < n) (hI : I k x0 x1 x2 x3 μ) : Ok (lpF z b n x0 x1 x2 x3 μ) Q :=
  Ok_lp z b (fun K (s : A0 × A1 × A2 × A3 × Mu) => K s.1 s.2.1 s.2.2.1 s.2.2.2.1 s.2.2.2.2) (fun k s => I k s.1 s.2.1 s.2.2.1 s.2.2.2.1 s.2.2.2.2) Q (fun K k s hI h2 => h K k s.1 s.2.1 s.2.2.1 s.2.2.2.1 s.2.2.2.2 hI (fun k2 y0 y1 y2 y3 μ2 hk2 hI2 => h2 k2 (y0, y1, y2, y3, μ2) hk2 hI2)) n k (x0, x1, x2, x3, μ) hk hI
theorem Ok_lp5 {α A0 A1 A2 A3 A4 : Type} {z : (A0 → A1 → A2 → A3 → A4 → Mu → Option (α × Mu))} {b : (A0 → A1 → A2 → A3 → A4 → Mu → Option (α × Mu)) → (A0 → A1 → A2 → A3 → A4 → Mu → Option (α × Mu))} (I : Nat → A0 → A1 → A2 → A3 → A4 → Mu → Prop) {Q : α → Mu → Prop} (h : ∀ (K : (A0 → A1 → A2 → A3 → A4 → Mu → Option (α × Mu))) (k : Nat) (x0 : A0) (x1 : A1) (x2 : A2) (x3 : A3) (x4 : A4) (μ : Mu), I k x0 x1 x2 x3 x4 μ → (∀ (k2 : Nat) (y0 : A0) (y1 : A1) (y2 : A2) (y3 : A3) (y4 : A4) (μ2 : Mu), k2 < k → I k2 y0 y1 y2 y3 y4 μ2 → Ok (K y0 y1 y2 y3 y4 μ2) Q) → Ok (b K x0 x1 x2 x3 x4 μ) Q) {n : Nat} (k : Nat) {x0 : A0} {x1 : A1} {x2 : A2} {x3 : A3} {x4 : A4} {μ : Mu} (hk : k < n) (hI : I k x0 x1 x2 x3 x4 μ) : Ok (lpF z b n x0 x1 x2 x3 x4 μ) Q :=
  Ok_lp z b (fun K (s : A0 × A1 × A2 × A3 × A4 × Mu) => K s.1 s.2.1 s.2.2.1 s.2.2.2.1 s.2.2.2.2.1 s.2.2.2.2.2) (fun k s => I k s.1 s.2.1 s.2.2.1 s.2.2.2.1 s.2.2.2.2.1 s.2.2.2.2.2) Q (fun K k s hI h2 => h K k s.1 s.2.1 s.2.2.1 s.2.2.2.1 s.2.2.2.2.1 s.2.2.2.2.2 hI (fun k2 y0 y1 y2 y3 y4 μ2 hk2 hI2 => h2 k2 (y0, y1, y2, y3, y4, μ2) hk2 hI2)) n k (x0, x1, x2, x3, x4, μ) hk hI
theorem Ok_lp6 {α A0 A1 A2 A3 A4 A5 : Type} {z : (A0 → A1 → A2 → A3 → A4 → A5 → Mu → Option (α × Mu))} {b : (A0 → A1 → A2 → A3 → A4 → A5 → Mu → Option (α × Mu)) → (A0 → A1 → A2 → A3 → A4 → A5 → Mu → Option (α × Mu))} (I : Nat → A0 → A1 → A2 → A3 → A4 → A5 → Mu → Prop) {Q : α → Mu → Prop} (h : ∀ (K : (A0 → A1 → A2 → A3 → A4 → A5 → Mu → Option (α × Mu))) (k : Nat) (x0 : A0) (x1 : A1) (x2 : A2) (x3 : A3) (x4 : A4) (x5 : A5) (μ : Mu), I k x0 x1 x2 x3 x4 x5 μ → (∀ (k2 : Nat) (y0 : A0) (y1 : A1) (y2 : A2) (y3 : A3) (y4 : A4) (y5 : A5) (μ2 : Mu), k2 < k → I k2 y0 y1 y2 y3 y4 y5 μ2 → Ok (K y0 y1 y2 y3 y4 y5 μ2) Q) → Ok (b K x0 x1 x2 x3 x4 x5 μ) Q) {n : Nat} (k : Nat) {x0 : A0} {x1 : A1} {x2 : A2} {x3 : A3} {x4 : A4} {x5 : A5} {μ : Mu} (hk : k < n) (hI : I k x0 x1 x2 x3 x4 x5 μ) : Ok (lpF z b n x0 x1 x2 x3 x4 x5 μ) Q :=
  Ok_lp z b (fun K (s : A0 × A1 × A2 × A3 × A4 × A5 × Mu) => K s.1 s.2.1 s.2.2.1 s.2.2.2.1 s.2.2.2.2.1 s.2.2.2.2.2.1 s.2.2.2.2.2.2) (fun k s => I k s.1 s.2.1 s.2.2.1 s.2.2.2.1 s.2.2.2.2.1 s.2.2.2.2.2.1 s.2.2.2.2.2.2) Q (fun K k s hI h2 => h K k s.1 s.2.1 s.2.2.1 s.2.2.2.1 s.2.2.2.2.1 s.2.2.2.2.2.1 s.2.2.2.2.2.2 hI (fun k2 y0 y1 y2 y3 y4 y5 μ2 hk2 hI2 => h2 k2 (y0, y1, y2, y3, y4, y5, μ2) hk2 hI2)) n k (x0, x1, x2, x3, x4, x5, μ) hk hI
theorem Ok_lp7 {α A0 A1 A2 A3 A4 A5 A6 : Type} {z : (A0 → A1 → A2 → A3 → A4 → A5 → A6 → Mu → Option (α × Mu))} {b : (A0 → A1 → A2 → A3 → A4 → A5 → A6 → Mu → Option (α × Mu)) → (A0 → A1 → A2 → A3 → A4 → A5 → A6 → Mu → Option (α × Mu))} (I : Nat → A0 → A1 → A2 → A3 → A4 → A5 → A6 → Mu → Prop) {Q : α → Mu → Prop} (h : ∀ (K : (A0 → A1 → A2 → A3 → A4 → A5 → A6 → Mu → Option (α × Mu))) (k : Nat) (x0 : A0) (x1 : A1) (x2 : A2) (x3 : A3) (x4 : A4) (x5 : A5) (x6 : A6) (μ : Mu), I k x0 x1 x2 x3 x4 x5 x6 μ → (∀ (k2 : Nat) (y0 : A0) (y1 : A1) (y2 : A2) (y3 : A3) (y4 : A4) (y5 : A5) (y6 : A6) (μ2 : Mu), k2 < k → I k2 y0 y1 y2 y3 y4 y5 y6 μ2 → Ok (K y0 y1 y2 y3 y4 y5 y6 μ2) Q) → Ok (b K x0 x1 x2 x3 x4 x5 x6 μ) Q) {n : Nat} (k : Nat) {x0 : A0} {x1 : A1} {x2 : A2} {x3 : A3} {x4 : A4} {x5 : A5} {x6 : A6} {μ : Mu} (hk : k < n) (hI : I k x0 x1 x2 x3 x4 x5 x6 μ) : Ok (lpF z b n x0 x1 x2 x3 x4 x5 x6 μ) Q :=
  Ok_lp z b (fun K (s : A0 × A1 × A2 × A3 × A4 × A5 × A6 × Mu) => K s.1 s.2.1 s.2.2.1 s.2.2.2.1 s.2.2.2.2.1 s.2.2.2.2.2.1 s.2.2.2.2.2.2.1 s.2.2.2.2.2.2.2) (fun k s => I k s.1 s.2.1 s.2.2.1 s.2.2.2.1 s.2.2.2.2.1 s.2.2.2.2.2.1 s.2.2.2.2.2.2.1 s.2.2.2.2.2.2.2) Q (fun K k s hI h2 => h K k s.1 s.2.1 s.2.2.1 s.2.2.2.1 s.2.2.2.2.1 s.2.2.2.2.2.1 s.2.2.2.2.2.2.1 s.2.2.2.2.2.2.2 hI (fun k2 y0 y1 y2 y3 y4 y5 y6 μ2 hk2 hI2 => h2 k2 (y0, y1, y2, y3, y4, y5, y6, μ2) hk2 hI2)) n k (x0, x1, x2, x3, x4, x5, x6, μ) hk hI
theorem i_0 : (0 : Int32) = nI 0 := rfl
theorem i_1 : (1 : Int32) = nI 1 := rfl
theorem i_2 : (2 : Int32) = nI 2 := rfl
theorem i_3 : (3 : Int32) = nI 3 := rfl
theorem i_4 : (4 : Int32) = nI 4 := rfl
theorem i_5 : (5 : Int32) = nI 5 := rfl
theorem i_6 : (6 : Int32) = nI 6 := rfl
theorem i_7 : (7 : Int32) = nI 7 := rfl
theorem i_8 : (8 : Int32) = nI 8 := rfl
theorem i_9 : (9 : Int32) = nI 9 := rfl
theorem i_10 : (10 : Int32) = nI 10 := rfl
theorem i_11 : (11 : Int32) = nI 11 := rfl
theorem i_12 : (12 : Int32) = nI 12 := rfl
theorem i_13 : (13 : Int32) = nI 13 := rfl
theorem i_14 : (14 : Int32) = nI 14 := rfl
theorem i_16 : (16 : Int32) = nI 16 := rfl
theorem i_20 : (20 : Int32) = nI 20 := rfl
theorem i_24 : (24 : Int32) = nI 24 := rfl
theorem i_25 : (25 : Int32) = nI 25 := rfl
theorem i_28 : (28 : Int32) = nI 28 := rfl
theorem i_30 : (30 : Int32) = nI 30 := rfl
theorem i_31 : (31 : Int32) = nI 31 := rfl
theorem i_32 : (32 : Int32) = nI 32 := rfl
theorem i_35 : (35 : Int32) = nI 35 := rfl
theorem i_36 : (36 : Int32) = nI 36 := rfl
theorem i_39 : (39 : Int32) = nI 39 := rfl
theorem i_40 : (40 : Int32) = nI 40 := rfl
theorem i_41 : (41 : Int32) = nI 41 := rfl
theorem i_48 : (48 : Int32) = nI 48 := rfl
theorem i_52 : (52 : Int32) = nI 52 := rfl
theorem i_57 : (57 : Int32) = nI 57 := rfl
theorem i_59 : (59 : Int32) = nI 59 := rfl
theorem i_60 : (60 : Int32) = nI 60 := rfl
theorem i_63 : (63 : Int32) = nI 63 := rfl
theorem i_64 : (64 : Int32) = nI 64 := rfl
theorem i_97 : (97 : Int32) = nI 97 := rfl
theorem i_99 : (99 : Int32) = nI 99 := rfl
theorem i_100 : (100 : Int32) = nI 100 := rfl
theorem i_122 : (122 : Int32) = nI 122 := rfl
theorem i_255 : (255 : Int32) = nI 255 := rfl
theorem i_500 : (500 : Int32) = nI 500 := rfl
theorem i_1000 : (1000 : Int32) = nI 1000 := rfl
theorem i_1296 : (1296 : Int32) = nI 1296 := rfl
theorem i_3003 : (3003 : Int32) = nI 3003 := rfl
theorem i_4095 : (4095 : Int32) = nI 4095 := rfl
theorem i_4096 : (4096 : Int32) = nI 4096 := rfl
theorem i_6000 : (6000 : Int32) = nI 6000 := rfl
theorem i_6001 : (6001 : Int32) = nI 6001 := rfl
theorem i_6007 : (6007 : Int32) = nI 6007 := rfl
theorem bz_n {R : Type} {a : Nat} {x : Option R} (h : a < 2) : bz (nI a) x = x := by
  obtain rfl | rfl : a = 0 ∨ a = 1 := by omega
  · rfl
  · rfl
theorem m1_int : (-nI 1).toInt = -1 := by decide
theorem m1_add {a : Nat} (h : 1 ≤ a) : nI a + -nI 1 = nI (a - 1) := by
  rw [← pk_sub h, Int32.sub_eq_add_neg]
theorem eq_m1 {a : Nat} (h : a < 2 ^ 31) : nI a = -nI 1 ↔ False := by
  refine ⟨fun q => ?_, False.elim⟩
  have := congrArg Int32.toInt q
  rw [nI_toInt h, m1_int] at this
  omega
theorem m1_eq {a : Nat} (h : a < 2 ^ 31) : -nI 1 = nI a ↔ False := ⟨fun q => (eq_m1 h).mp q.symm, False.elim⟩
theorem m1_m1 : (-nI 1 = -nI 1) ↔ True := ⟨fun _ => trivial, fun _ => rfl⟩
theorem m1_le {a : Nat} (h : a < 2 ^ 31) : -nI 1 ≤ nI a ↔ True := by
  rw [Int32.le_iff_toInt_le, nI_toInt h, m1_int]
  exact ⟨fun _ => trivial, fun _ => by omega⟩
theorem le_m1 {a : Nat} (h : a < 2 ^ 31) : nI a ≤ -nI 1 ↔ False := by
  rw [Int32.le_iff_toInt_le, nI_toInt h, m1_int]
  exact ⟨fun _ => by omega, False.elim⟩
theorem m1_lt {a : Nat} (h : a < 2 ^ 31) : -nI 1 < nI a ↔ True := by
  rw [Int32.lt_iff_toInt_lt, nI_toInt h, m1_int]
  exact ⟨fun _ => trivial, fun _ => by omega⟩
theorem lt_m1 {a : Nat} (h : a < 2 ^ 31) : nI a < -nI 1 ↔ False := by
  rw [Int32.lt_iff_toInt_lt, nI_toInt h, m1_int]
  exact ⟨fun _ => by omega, False.elim⟩
