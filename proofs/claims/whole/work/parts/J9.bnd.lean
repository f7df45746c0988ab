/-! bounds: a line keeps them -/
theorem BB_tk {b : Nat → Nat} {m p : Nat} {T T' : Nat → Nat} {p' : Nat} (hT : BB T) (h : tkF b m T p = .inr (T', p')) : BB T' ∧ T' 0 = T 0 := by
  have fin : ∀ a s q, a ≤ 2 → s < 2 → (s = 1 → a = 2) → (.inr (stT T a s, q) : (Nat × Nat) ⊕ ((Nat → Nat) × Nat)) = .inr (T', p') → BB T' ∧ T' 0 = T 0 := by
    intro a s q ha hs hx e
    have e1 : stT T a s = T' := congrArg Prod.fst (Sum.inr.inj e)
    rw [← e1]
    exact BB_st hT ha hs hx
  unfold tkF at h
  by_cases c4 : isW b m p 4 = true
  · rw [if_pos c4] at h; exact fin 0 0 _ (by decide) (by decide) (by decide) h
  · rw [if_neg c4] at h
    by_cases c5 : isW b m p 5 = true
    · rw [if_pos c5] at h; exact fin 1 0 _ (by decide) (by decide) (by decide) h
    · rw [if_neg c5] at h
      by_cases c6 : isW b m p 6 = true
      · rw [if_pos c6] at h
        by_cases c7 : isW b m (tE b m p) 7 = true
        · rw [if_pos c7] at h; exact fin 2 1 _ (by decide) (by decide) (by decide) h
        · rw [if_neg c7] at h; exact fin 2 0 _ (by decide) (by decide) (by decide) h
      · rw [if_neg c6] at h; exact nomatch h
theorem BB_sto {b : Nat → Nat} {m p : Nat} {T T' : Nat → Nat} {p' : Nat} (hT : BB T) (h : stF b m T p = .inr (T', p')) : BB T' ∧ T' 0 = T 0 := by
  cases e : nuF b m p 0 99 with
  | inl f => rw [st_l e] at h; exact nomatch h
  | inr r =>
    rw [st_r e] at h
    obtain ⟨r2, e2, rfl, _⟩ := mp_i h
    obtain ⟨a1, a2⟩ := BB_u11 hT (nu_r e).2.1
    obtain ⟨c1, c2⟩ := BB_u12 a1 (nu_r e2).2.1
    exact ⟨c1, by rw [c2, a2]⟩
