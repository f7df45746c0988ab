/-! the bounds of a board that is read -/
def BB (T : Nat → Nat) : Prop := 1 ≤ T 1 ∧ T 1 ≤ 6 ∧ T 2 < 2 ∧ T 3 < 2 ^ (2 * T 1) ∧ T 4 < 2 ∧ T 5 < 2 ∧ T 6 ≤ 20 ∧ T 7 ≤ 2 ∧ T 8 < 2 ∧ T 9 < 2 ∧ T 10 < 2 ∧ (T 8 = 1 → T 7 = 2) ∧ T 11 ≤ 99 ∧ T 12 ≤ 99 ∧ (∀ k, k < 12 → T (13 + k) ≤ 20) ∧ ∀ k, k < 12 → 2 * T 1 ≤ k → T (13 + k) = 0
/-- on the first line nothing is laid yet -/
def FLn (T : Nat → Nat) : Prop := T 0 = 0 → T 3 = 0 ∧ ∀ k, k < 12 → T (13 + k) = 0
theorem BB_ly {b : Nat → Nat} {m : Nat} : ∀ c i T p T' p', BB T → lyF b m c i T p = .inr (T', p') → BB T' ∧ T' 0 = T 0 := by
  intro c
  induction c with
  | zero => intro i T p T' p' _ h; exact nomatch h
  | succ c ih =>
    intro i T p T' p' hT h
    cases e : nuF b m p 0 20 with
    | inl f => rw [ly_l e] at h; exact nomatch h
    | inr r =>
      rw [ly_r e] at h
      by_cases z : i < 2 * T 1
      · rw [if_pos z] at h
        have hv : r.1 ≤ 20 := by
          unfold nuF at e
          by_cases q : tK b m p = 2
          · rw [if_pos q] at e
            by_cases q2 : 0 ≤ tV b m p ∧ tV b m p ≤ 20
            · rw [if_pos q2] at e; rw [← Sum.inr.inj e]; exact q2.2
            · rw [if_neg q2] at e; exact nomatch e
          · rw [if_neg q] at e; exact nomatch e
        obtain ⟨h1, h2, h3, h4, h5, h6, h7, h8, h9, h10, h11, h12, h13, h14, h15, h16⟩ := id hT
        have g : ∀ k, k < 13 → ups T (13 + i) r.1 k = T k := fun k hk => ups_b (by omega)
        have hB : BB (ups T (13 + i) r.1) := by
          unfold BB
          rw [g 1 (by decide), g 2 (by decide), g 3 (by decide), g 4 (by decide), g 5 (by decide), g 6 (by decide), g 7 (by decide), g 8 (by decide), g 9 (by decide), g 10 (by decide), g 11 (by decide), g 12 (by decide)]
          refine ⟨h1, h2, h3, h4, h5, h6, h7, h8, h9, h10, h11, h12, h13, h14, fun k hk => ?_, fun k hk q => ?_⟩
          · by_cases c2 : k = i
            · rw [c2, ups_a]; exact hv
            · rw [ups_b (by omega)]; exact h15 k hk
          · rw [ups_b (by omega)]; exact h16 k hk q
        by_cases z2 : tK b m r.2 = 2
        · rw [if_pos z2] at h
          obtain ⟨a1, a2⟩ := ih _ _ _ _ _ hB h
          exact ⟨a1, by rw [a2, g 0 (by decide)]⟩
        · rw [if_neg z2] at h
          have e3 := Sum.inr.inj h
          have e4 : ups T (13 + i) r.1 = T' := congrArg Prod.fst e3
          rw [← e4]
          exact ⟨hB, g 0 (by decide)⟩
      · rw [if_neg z] at h; exact nomatch h
