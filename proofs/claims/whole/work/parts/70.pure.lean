/-! pure rows: memory, guards, loops -/
theorem si_a {μ : Mu} {o k : Nat} {v : Int32} : (si μ o k v).1 o k = v := by simp [si, upd]
theorem si_b {μ : Mu} {o k o' k' : Nat} {v : Int32} (h : o' ≠ o) : (si μ o k v).1 o' k' = μ.1 o' k' := by simp [si, h]
theorem si_c {μ : Mu} {o k k' : Nat} {v : Int32} (h : k' ≠ k) : (si μ o k v).1 o k' = μ.1 o k' := by simp [si, upd, h]
theorem si_d {μ : Mu} {o k : Nat} {v : Int32} : (si μ o k v).2 = μ.2 := rfl
theorem si_e {μ : Mu} {o k o' k' : Nat} {v : Int32} : (si μ o k v).1 o' k' = if o' = o ∧ k' = k then v else μ.1 o' k' := by
  by_cases h : o' = o
  · subst h
    by_cases h2 : k' = k
    · subst h2; rw [si_a, if_pos ⟨rfl, rfl⟩]
    · rw [si_c h2, if_neg (fun q => h2 q.2)]
  · rw [si_b h, if_neg (fun q => h q.1)]
theorem sj_a {μ : Mu} {o k : Nat} {v : Int64} : (sj μ o k v).2 o k = v := by simp [sj, vp_updL]
theorem sj_b {μ : Mu} {o k o' k' : Nat} {v : Int64} (h : o' ≠ o) : (sj μ o k v).2 o' k' = μ.2 o' k' := by simp [sj, h]
theorem sj_c {μ : Mu} {o k k' : Nat} {v : Int64} (h : k' ≠ k) : (sj μ o k v).2 o k' = μ.2 o k' := by simp [sj, vp_updL, h]
theorem sj_d {μ : Mu} {o k : Nat} {v : Int64} : (sj μ o k v).1 = μ.1 := rfl
theorem lg_lt {x y : Int64} : lg_cmp x y < 0 ↔ x < y := by
  unfold lg_cmp
  by_cases h1 : y < x
  · rw [if_pos h1]
    exact ⟨fun h => absurd h (by decide), fun h => absurd h (Int64.not_lt.mpr (Int64.le_of_lt h1))⟩
  · rw [if_neg h1]
    by_cases h2 : x = y
    · subst h2
      rw [if_pos rfl]
      exact ⟨fun h => absurd h (by decide), fun h => absurd h (Int64.lt_irrefl)⟩
    · rw [if_neg h2]
      exact ⟨fun _ => Int64.lt_of_le_of_ne (Int64.not_lt.mp h1) h2, fun _ => by decide⟩
theorem lg_gt {x y : Int64} : 0 < lg_cmp x y ↔ y < x := by
  unfold lg_cmp
  by_cases h1 : y < x
  · rw [if_pos h1]
    exact ⟨fun _ => h1, fun _ => by decide⟩
  · rw [if_neg h1]
    by_cases h2 : x = y
    · rw [if_pos h2]
      exact ⟨fun h => absurd h (by decide), fun h => absurd h h1⟩
    · rw [if_neg h2]
      exact ⟨fun h => absurd h (by decide), fun h => absurd h h1⟩
theorem lg_eq {x y : Int64} : lg_cmp x y = 0 ↔ x = y := by
  unfold lg_cmp
  by_cases h1 : y < x
  · rw [if_pos h1]
    exact ⟨fun h => absurd h (by decide), fun h => absurd h1 (by rw [h]; exact Int64.lt_irrefl)⟩
  · rw [if_neg h1]
    by_cases h2 : x = y
    · rw [if_pos h2]
      exact ⟨fun _ => h2, fun _ => rfl⟩
    · rw [if_neg h2]
      exact ⟨fun h => absurd h (by decide), fun h => absurd h h2⟩
/-- a loop's run: the states st 0 .. st N, the end at st N -/
theorem lpF_run {F σ R : Type} (z : F) (b : F → F) (ap : F → σ → Option R) (st : Nat → σ) (N : Nat) (out : Option R) (hs : ∀ i, i < N → ∀ k, ap (b k) (st i) = ap k (st (i + 1))) (he : ∀ k, ap (b k) (st N) = out) : ∀ n, N < n → ap (lpF z b n) (st 0) = out := by
  have h : ∀ j, j ≤ N → ∀ n, j < n → ap (lpF z b n) (st (N - j)) = out := by
    intro j
    induction j with
    | zero =>
      intro _ n hn
      obtain ⟨n, rfl⟩ : ∃ q, n = q + 1 := ⟨n - 1, by omega⟩
      rw [lpF_s]
      exact he _
    | succ j ih =>
      intro hj n hn
      obtain ⟨n, rfl⟩ : ∃ q, n = q + 1 := ⟨n - 1, by omega⟩
      rw [lpF_s, hs (N - (j + 1)) (by omega), show N - (j + 1) + 1 = N - j by omega]
      exact ih (by omega) n (by omega)
  intro n hn
  have := h N (Nat.le_refl N) n hn
  rw [Nat.sub_self] at this
  exact this
theorem bS {α β : Type} {x : Option α} {a : α} (h : x = some a) (f : α → Option β) : x.bind f = f a := by rw [h]; rfl
theorem gd_of {R : Type} {i : Int32} {n : Nat} {x : Option R} (h : vp_in i n) : gd i n x = x := by
  unfold gd
  exact if_neg h
theorem gd_n {R : Type} {j n : Nat} {x : Option R} (h : j < n) (hn : n < 2 ^ 31) : gd (nI j) n x = x := gd_of (vp_in_nI h hn)
theorem bz_0 {R : Type} {x : Option R} : bz 0 x = x := rfl
theorem bz_1 {R : Type} {x : Option R} : bz 1 x = x := rfl
theorem kd_of {R : Type} {o k : Nat} {x : Option R} (h : oK o = k) : kd o k x = x := if_pos h
theorem dv_of {R : Type} {y : Int32} {x : Option R} (h : ¬ y = 0) : dv y x = x := if_neg h
def b2i (b : Bool) : Int32 := if b then 1 else 0
theorem bz_b {R : Type} {b : Bool} {x : Option R} : bz (b2i b) x = x := by cases b <;> rfl
theorem b2i_0 {b : Bool} : b2i b = 0 ↔ b = false := by cases b <;> decide
theorem b2i_1 {b : Bool} : b2i b = 1 ↔ b = true := by cases b <;> decide
/-! leaves of the reference -/
theorem within_s (n : Nat) (a b c : Int64) (μ : Mu) : X12_within n a b c μ = some (b2i (decide (b ≤ a ∧ a ≤ c)), μ) := by
  unfold X12_within X12_within_17 X12_within_18
  by_cases h1 : a < b
  · rw [if_pos (lg_lt.mpr h1), bz_0, show decide (b ≤ a ∧ a ≤ c) = false from decide_eq_false (fun q => absurd q.1 (Int64.not_le.mpr h1))]
    rfl
  · rw [if_neg (fun q => h1 (lg_lt.mp q))]
    by_cases h2 : c < a
    · rw [if_pos (lg_gt.mpr h2), bz_0, show decide (b ≤ a ∧ a ≤ c) = false from decide_eq_false (fun q => absurd q.2 (Int64.not_le.mpr h2))]
      rfl
    · rw [if_neg (fun q => h2 (lg_gt.mp q)), bz_1, show decide (b ≤ a ∧ a ≤ c) = true from decide_eq_true ⟨Int64.not_lt.mp h1, Int64.not_lt.mp h2⟩]
      rfl
theorem pitMany_s (n : Nat) (μ : Mu) {sz : Nat} (hz : μ.1 172 1 = nI sz) : X12_pitMany n μ = some (nI (2 * sz), μ) := by
  unfold X12_pitMany
  rw [hz, show (2 : Int32) = nI 2 from rfl, pk_mul]
theorem sideOf_s (n : Nat) (μ : Mu) {sz p : Nat} (hz : μ.1 172 1 = nI sz) (h6 : sz ≤ 6) (hp : p < 2 ^ 31) : X12_sideOf n (nI p) μ = some (nI (if p < sz then 0 else 1), μ) := by
  unfold X12_sideOf X12_sideOf_15
  rw [hz]
  by_cases h : p < sz
  · rw [if_neg (fun q => absurd ((nI_leI (by omega) hp).mp q) (by omega)), if_pos h]
    rfl
  · rw [if_pos ((nI_leI (by omega) hp).mpr (by omega)), if_neg h]
    rfl
