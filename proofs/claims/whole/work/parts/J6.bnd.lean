/-! bounds: the lines of one number, and of a word -/
theorem nu_r {b : Nat → Nat} {m p a c : Nat} {r : Nat × Nat} (e : nuF b m p a c = .inr r) : a ≤ r.1 ∧ r.1 ≤ c ∧ tK b m p = 2 ∧ r.2 = tE b m p := by
  unfold nuF at e
  by_cases q : tK b m p = 2
  · rw [if_pos q] at e
    by_cases q2 : a ≤ tV b m p ∧ tV b m p ≤ c
    · rw [if_pos q2] at e; rw [← Sum.inr.inj e]; exact ⟨q2.1, q2.2, q, rfl⟩
    · rw [if_neg q2] at e; exact nomatch e
  · rw [if_neg q] at e; exact nomatch e
theorem mp_i {x : (Nat × Nat) ⊕ (Nat × Nat)} {g : Nat → Nat → Nat} {T' : Nat → Nat} {p' : Nat} (h : mpN x g = .inr (T', p')) : ∃ r, x = .inr r ∧ T' = g r.1 ∧ p' = r.2 := by
  cases x with
  | inl f => exact nomatch h
  | inr r =>
    have e := Sum.inr.inj h
    exact ⟨r, rfl, (congrArg Prod.fst e).symm, (congrArg Prod.snd e).symm⟩
/-- a token that isn't the end moves on -/
theorem tE_gt {b : Nat → Nat} {m p : Nat} (hp : p ≤ m) (h : tK b m p ≠ 0) : tS b m p < m ∧ tS b m p < tE b m p := by
  obtain ⟨a1, a2⟩ := tS_b (b := b) hp
  have c : ¬ m ≤ tS b m p := fun q => h (by unfold tK; rw [if_pos q])
  refine ⟨by omega, ?_⟩
  unfold tE
  rw [if_neg c]
  by_cases c1 : isD (b (tS b m p)) = true
  · rw [if_pos c1]
    have := sc_ge (g := fun x => isD (b x)) (m := m) (p := tS b m p) (q := tS b m p + 1) (by omega) (by omega) (fun x q1 q2 => by
      obtain rfl : x = tS b m p := by omega
      exact c1)
    unfold tD
    omega
  · rw [if_neg c1]
    by_cases c2 : isL (b (tS b m p)) = true
    · rw [if_pos c2]
      have := sc_ge (g := fun x => isL (b x)) (m := m) (p := tS b m p) (q := tS b m p + 1) (by omega) (by omega) (fun x q1 q2 => by
        obtain rfl : x = tS b m p := by omega
        exact c2)
      unfold tW
      omega
    · rw [if_neg c2]; omega
