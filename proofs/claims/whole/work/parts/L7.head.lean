/-! the ground, the reference, the house: what their constructors want -/
theorem sIn_pi : ∀ i, sIn i → pi i < 6 := fun i h => by
  have h1 := h.1
  have h2 := h.2
  obtain rfl | rfl | rfl | rfl | rfl : i = 1 ∨ i = 2 ∨ i = 3 ∨ i = 4 ∨ i = 5 := by omega
  all_goals decide
theorem sE_e {g : Gw} {μ : Mu} {E : Nat → va_E} (hE : ∀ i, sIn i → E i = ce g μ i) (i : Nat) : sE g μ E i = E i := by
  unfold sE
  by_cases c : sIn i
  · rw [if_pos c, hE i c]
  · rw [if_neg c]
theorem sE_m {g : Gw} {μ : Mu} {x : va_E} (hμ : ∀ i, ¬ sIn i → ce g μ i = ce g mI i) (i : Nat) : eset (ce g μ) 0 x i = sE g μ (eset (ce g mI) 0 x) i := by
  unfold sE
  by_cases c0 : i = 0
  · subst c0
    rw [if_neg (by decide), eset_a, eset_a]
  · rw [eset_b c0]
    by_cases c : sIn i
    · rw [if_pos c]
    · rw [if_neg c, eset_b c0, hμ i c]
theorem pd_pre {g : Gw} {B n a : Nat} {E : Nat → va_E} {x : va_E} {s : State} {H : Heap} {locs : List Loc} (ha : ¬ pi a < n) (hw : pd g B n E s H locs) : pd g B n (eset E a x) s H locs := pd_cg hw (fun i _ h2 => eset_b (fun q => ha (by rw [← q]; exact h2)))
theorem ce_tr (g : Gw) : ∀ i, i < 4 → ce g mI (33 + 2 * i) = .inr (9, [.ref (g.2.2 (33 + 2 * i + 1)), .int (-1), .int 0]) ∧ ce g mI (33 + 2 * i + 1) = .inl (g.2.1 1, 40, .inr (.inl (fun _ => 0))) := fun i h => by
  obtain rfl | rfl | rfl | rfl : i = 0 ∨ i = 1 ∨ i = 2 ∨ i = 3 := by omega
  all_goals exact ⟨rfl, rfl⟩
theorem ce_im (g : Gw) : ∀ i, i < 3 → ce g mI (41 + 4 * i) = .inr (2, [.int 0, .ref (g.2.2 (41 + 4 * i + 1)), .ref (g.2.2 (41 + 4 * i + 2))]) ∧ ce g mI (41 + 4 * i + 1) = .inr (5, [.int 0, .int 3, .int 0, .int 0, .int 0, .int 0, .int 0, .int 0, .int 0]) ∧ ce g mI (41 + 4 * i + 2) = .inr (6, [.ref (g.2.2 (41 + 4 * i + 2 + 1)), .int 0]) ∧ ce g mI (41 + 4 * i + 2 + 1) = .inl (g.2.1 0, 14, .inl (fun _ => 0)) := fun i h => by
  obtain rfl | rfl | rfl : i = 0 ∨ i = 1 ∨ i = 2 := by omega
  all_goals exact ⟨rfl, rfl, rfl, rfl⟩
theorem lf_31 : ∀ i, i < 4 → 33 + 2 * i + 1 < NN ∧ pi (33 + 2 * i) = 151 + 2 * i ∧ oT 31 i = 33 + 2 * i ∧ pi (33 + 2 * i + 1) = 151 + 2 * i + 1 := by decide +kernel
theorem lf_32 : ∀ i, i < 3 → 41 + 4 * i + 3 < NN ∧ pi (41 + 4 * i) = 159 + 4 * i ∧ oT 32 i = 41 + 4 * i ∧ pi (41 + 4 * i + 1) = 159 + 4 * i + 1 ∧ pi (41 + 4 * i + 2) = 159 + 4 * i + 1 + 1 ∧ pi (41 + 4 * i + 3) = 159 + 4 * i + 1 + 2 := by decide +kernel
