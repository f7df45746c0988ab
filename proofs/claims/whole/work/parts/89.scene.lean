/-! scenes of the class, and what it knows of the rules -/
def SC (μ : Mu) (o : Nat) (T : Nat → Nat) : Prop := μ.1 o 1 = nI (T 2) ∧ CE μ o (cT T)
def opnN (T : Nat → Nat) : Nat := sumF (fun p => if (T 3).testBit p = true then 0 else 1) (2 * T 1)
def lonO (T : Nat → Nat) : Bool := decide (0 < T 6 ∨ (T 5 = 1 ∧ T 4 = 0 ∧ opnN T = 1))
def GE (μ : Mu) (T : Nat → Nat) : Prop := RR μ T ∧ WY μ T 0 ∧ WY μ T 1 ∧ μ.1 2 3 = b2i (lonO T)
theorem GE_w {μ : Mu} {T : Nat → Nat} {s : Nat} (h : GE μ T) (hs : s < 2) : WY μ T s := by
  obtain rfl | rfl : s = 0 ∨ s = 1 := by omega
  · exact h.2.1
  · exact h.2.2.1
theorem GE_o {μ μ' : Mu} {T : Nat → Nat} (h : GE μ T) (e1 : μ'.1 1 = μ.1 1) (e2 : μ'.1 2 = μ.1 2) (e3 : μ'.1 3 = μ.1 3) : GE μ' T := ⟨RR_o h.1 e1, WY_o h.2.1 e3, WY_o h.2.2.1 e3, by rw [e2]; exact h.2.2.2⟩
theorem CE_o {μ μ' : Mu} {o : Nat} {c : Nat → Nat} (h : CE μ o c) (e : μ'.1 (o + 1) = μ.1 (o + 1)) : CE μ' o c := by
  intro k hk
  rw [e]
  exact h k hk
theorem SC_o {μ μ' : Mu} {o : Nat} {T : Nat → Nat} (h : SC μ o T) (e1 : μ'.1 o = μ.1 o) (e2 : μ'.1 (o + 1) = μ.1 (o + 1)) : SC μ' o T := ⟨by rw [e1]; exact h.1, CE_o h.2 e2⟩
theorem SC_up {μ : Mu} {o th : Nat} {T c : Nat → Nat} (h1 : μ.1 o 1 = nI th) (h2 : CE μ o c) : SC μ o (upT T c th) := ⟨by rw [upT_2]; exact h1, fun k hk => by rw [cT_up hk]; exact h2 k hk⟩
/-- the same rules -/
def RE (T T' : Nat → Nat) : Prop := ∀ k, (1 ≤ k ∧ k < 11) → k ≠ 2 → T' k = T k
theorem RE.rf {T : Nat → Nat} : RE T T := fun _ _ _ => rfl
theorem RE.tr {T T1 T2 : Nat → Nat} (h : RE T T1) (h2 : RE T1 T2) : RE T T2 := fun k a b => by rw [h2 k a b, h k a b]
theorem RE.sy {T T1 : Nat → Nat} (h : RE T T1) : RE T1 T := fun k a b => (h k a b).symm
theorem RE_up {T c : Nat → Nat} {th : Nat} : RE T (upT T c th) := fun k a b => upT_r b a.2
theorem onI_re {T T' : Nat → Nat} {s : Nat} (h : RE T T') : onI T' s = onI T s := by
  funext i
  unfold onI
  rw [h 1 (by decide) (by decide), h 3 (by decide) (by decide), h 4 (by decide) (by decide)]
theorem GE_re {μ : Mu} {T T' : Nat → Nat} (h : RE T T') (hg : GE μ T) : GE μ T' := by
  obtain ⟨h1, h2, h3, h4⟩ := hg
  have e : ∀ s, WY μ T s → WY μ T' s := by
    intro s hw
    unfold WY
    rw [onI_re h, h 1 (by decide) (by decide)]
    exact hw
  refine ⟨?_, e 0 h2, e 1 h3, ?_⟩
  · unfold RR tkC
    rw [h 1 (by decide) (by decide), h 3 (by decide) (by decide), h 4 (by decide) (by decide), h 5 (by decide) (by decide), h 6 (by decide) (by decide), h 7 (by decide) (by decide), h 8 (by decide) (by decide), h 9 (by decide) (by decide), h 10 (by decide) (by decide)]
    exact h1
  · unfold lonO opnN
    rw [h 1 (by decide) (by decide), h 3 (by decide) (by decide), h 4 (by decide) (by decide), h 5 (by decide) (by decide), h 6 (by decide) (by decide)]
    exact h4
theorem copy_s (n : Nat) (μ : Mu) {o o1 sd : Nat} {c : Nat → Nat} (ho : oK o = 6) (ho1 : oK o1 = 6) (hp : o % 2 = 1) (hp1 : o1 % 2 = 1) (hne : o ≠ o1) (hs : μ.1 o1 1 = nI sd) (hc : CE μ o1 c) :
    Ok (X6_copy n o o1 μ) (fun _ μ' => μ'.1 o 1 = nI sd ∧ CE μ' o c ∧ KP (fun x => x = o ∨ x = o + 1) μ μ') := by
  unfold X6_copy
  rw [kd_of ho, kd_of ho1]
  have e : ∀ x, x ≠ o + 1 → (cp14 μ (o1 + 1) (o + 1)).1 x = μ.1 x := by
    intro x hx
    unfold cp14
    simp only [hx, if_false]
  refine Ok_r ⟨?_, ?_, ?_, ?_⟩
  · rw [si_a, e o1 (by omega), hs]
  · intro k hk
    rw [si_b (by omega)]
    have : (cp14 μ (o1 + 1) (o + 1)).1 (o + 1) k = μ.1 (o1 + 1) k := by
      unfold cp14 va_cpy
      simp [hk]
    rw [this, hc k hk]
  · intro x hx
    rw [si_o (fun z => hx (Or.inl z)), e x (fun z => hx (Or.inr z))]
  · rfl
theorem cI_sur {sz s p : Nat} (hs : s < 2) (hp : p < 2 * sz) : ∃ j, j < 2 * sz + 1 ∧ j ≠ sz ∧ cI sz s j = p := by
  have h2 := off_2 (sz := sz) hs
  by_cases c : offN sz s ≤ p ∧ p < offN sz s + sz
  · exact ⟨p - offN sz s, by omega, by omega, by rw [cI_own2 (by omega)]; omega⟩
  · refine ⟨p - offN sz (1 - s) + sz + 1, ?_, ?_, ?_⟩
    · unfold offN at *
      split at c <;> split <;> omega
    · omega
    · unfold cI
      rw [if_neg (by omega), if_neg (by omega)]
      unfold offN at *
      split at c <;> split <;> omega
/-- no move is long, where none can be -/
theorem nolong {T : Nat → Nat} {w : Nat} (hW : WF T) (hl : lonO T = false) (hw : w < T 1) (hf : fulW T w = true) : ∃ l k t c', mvW T w = some (l, k, t, c') := by
  obtain ⟨b1, b6, b3, b4, b5, bR, b7, b8, b9, b10, b87⟩ := hW.1
  have hs := hW.2.1
  obtain ⟨on, hne⟩ := ful_t.mp hf
  unfold lonO at hl
  rw [decide_eq_false_iff_not] at hl
  have h6 : T 6 = 0 := Decidable.byContradiction (fun z => hl (Or.inl (by omega)))
  rcases mvW_c (T := T) w with hm | h
  · exfalso
    unfold mvW mvC at hm
    rw [h6, sowC] at hm
    cases hst : stk T (T 2) w with
    | false => rw [hst, if_neg (by decide), if_pos (Or.inl h6)] at hm; exact nomatch hm
    | true =>
      unfold stk at hst
      rw [decide_eq_true_iff] at hst
      obtain ⟨h5, hfd⟩ := hst
      have hoff : ∀ j, j < 2 * T 1 + 1 → j ≠ w → onI T (T 2) j = false := by
        intro j hj hjw
        obtain ⟨u, u1, u2, u3⟩ := ring_r (show w < 2 * T 1 + 1 by omega) hj
        have := fd_none _ _ hfd u u1 (by omega)
        rw [u3, Pw_1 h5] at this
        cases e : onI T (T 2) j with
        | false => rfl
        | true => rw [pw_t.mpr ⟨e, hjw⟩] at this; exact absurd this (by decide)
      have h4 : T 4 = 0 := by
        have := hoff (T 1) (by omega) (by omega)
        unfold onI at this
        rw [if_pos rfl, decide_eq_false_iff_not] at this
        omega
      refine hl (Or.inr ⟨h5, h4, ?_⟩)
      unfold opnN
      have ec := (cI_lt (T 1) b6 b1 (T 2) hs w (by omega)).1 (by omega)
      have e : sumF (fun p => if (T 3).testBit p = true then 0 else 1) (2 * T 1) = sumF (ups (fun _ => 0) (cI (T 1) (T 2) w) 1) (2 * T 1) := by
        refine sum_cg _ (fun p hp => ?_)
        by_cases z : p = cI (T 1) (T 2) w
        · rw [z, ups_a, if_neg]
          unfold onI at on
          rw [if_neg (by omega)] at on
          simpa using on
        · rw [ups_b z]
          obtain ⟨j, j1, j2, j3⟩ := cI_sur (s := T 2) hs hp
          have := hoff j j1 (fun q => z (by rw [← j3, q]))
          unfold onI at this
          rw [if_neg j2, j3] at this
          rw [if_pos (by simpa using this)]
      have s0 : ∀ n, sumF (fun _ => 0) n = 0 := by
        intro n
        induction n with
        | zero => rfl
        | succ n ih => rw [sumF, ih]
      have := sum_ups (c := fun _ => 0) (j := cI (T 1) (T 2) w) (v := 1) (2 * T 1) ec
      rw [e]
      rw [s0] at this
      omega
  · exact h
