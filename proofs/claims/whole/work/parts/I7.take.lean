/-! a line that says what is taken; words exclude each other -/
def sNq (i j : Nat) : Bool := decide (sL i ≠ sL j) || (List.range (sL i)).any (fun k => decide (sB i k ≠ sB j k))
theorem isW_x {b : Nat → Nat} {m p i j : Nat} (h : sNq i j = true) (e : isW b m p i = true) : isW b m p j = false := by
  obtain ⟨a1, a2, a3⟩ := isW_t.mp e
  cases e2 : isW b m p j with
  | false => rfl
  | true =>
    obtain ⟨c1, c2, c3⟩ := isW_t.mp e2
    unfold sNq at h
    rw [Bool.or_eq_true] at h
    rcases h with h | h
    · exact absurd (a2.symm.trans c2) (of_decide_eq_true h)
    · obtain ⟨k, hk, hne⟩ := List.any_eq_true.mp h
      have hk' := List.mem_range.mp hk
      exact absurd ((a3 k hk').symm.trans (c3 k (by omega))) (of_decide_eq_true hne)
def stT (T : Nat → Nat) (a s : Nat) : Nat → Nat := ups (ups T 7 a) 8 s
def tkF (b : Nat → Nat) (m : Nat) (T : Nat → Nat) (p : Nat) : (Nat × Nat) ⊕ ((Nat → Nat) × Nat) :=
  if isW b m p 4 = true then .inr (stT T 0 0, tE b m p)
  else if isW b m p 5 = true then .inr (stT T 1 0, tE b m p)
  else if isW b m p 6 = true then (if isW b m (tE b m p) 7 = true then .inr (stT T 2 1, tE b m (tE b m p)) else .inr (stT T 2 0, tE b m p))
  else .inl (blF b m p 2, tS b m p)
theorem BC_take {μ : Mu} {T : Nat → Nat} {a s : Nat} (h : BC μ T) : BC (si μ 13 4 (nI (tkC (stT T a s)))) (stT T a s) := by
  obtain ⟨⟨r0, r1, r2, r3, r4, r5, r6, r7, r8⟩, hS⟩ := h
  have e : ∀ k, k ≠ 7 → k ≠ 8 → stT T a s k = T k := fun k h7 h8 => by unfold stT; rw [ups_b h8, ups_b h7]
  refine ⟨⟨?_, ?_, ?_, ?_, si_a, ?_, ?_, ?_, ?_⟩, ?_, fun k hk => ?_⟩
  · rw [si_c (by decide), e 0 (by decide) (by decide)]; exact r0
  · rw [si_c (by decide), e 1 (by decide) (by decide)]; exact r1
  · rw [si_c (by decide), e 3 (by decide) (by decide)]; exact r2
  · rw [si_c (by decide), e 6 (by decide) (by decide)]; exact r3
  · rw [si_c (by decide), e 4 (by decide) (by decide)]; exact r5
  · rw [si_c (by decide), e 5 (by decide) (by decide)]; exact r6
  · rw [si_c (by decide), e 9 (by decide) (by decide)]; exact r7
  · rw [si_c (by decide), e 10 (by decide) (by decide)]; exact r8
  · rw [si_b (by decide), e 2 (by decide) (by decide)]; exact hS.1
  · rw [si_b (by decide)]
    have : cT (stT T a s) k = cT T k := by
      unfold cT
      by_cases z : k < 12
      · rw [if_pos z, if_pos z, e _ (by omega) (by omega)]
      · rw [if_neg z, if_neg z, e _ (by omega) (by omega)]
    rw [this]
    exact hS.2 k hk
theorem tkC_st {T : Nat → Nat} {a : Nat} : tkC (stT T a 0) = a := by
  unfold tkC stT
  rw [ups_a, if_neg (by decide), ups_b (by decide), ups_a]
theorem tkC_s1 {T : Nat → Nat} : tkC (stT T 2 1) = 3 := by
  unfold tkC stT
  rw [ups_a, if_pos rfl]
theorem take70_s (n : Nat) (μ : Mu) {b : Nat → Nat} {m p a : Nat} {T : Nat → Nat} (h : OKC μ b m p) (h4 : tK b m p ≠ 4) (hT : BC μ (stT T a 0)) (ha : a ≤ 2) (hn : 1000 < n) : Ok (X4_readTake_70 n μ) (fun _ μ' => PSC b m (if a = 2 ∧ isW b m (tE b m p) 7 = true then .inr (stT T 2 1, tE b m (tE b m p)) else .inr (stT T a 0, tE b m p)) μ') := by
  unfold X4_readTake_70 X4_readTake_106
  refine Ok_b (overC_s n μ h h4 hn) ?_
  rintro _ μ1 ⟨k1, o1⟩
  dsimp only
  have t1 := BC_kc hT k1
  rw [t1.1.2.2.2.2.1, tkC_st, i_2, ifEq (by omega) (by decide)]
  by_cases z : a = 2
  · rw [if_pos z]
    refine Ok_b (wordIsC_s n μ1 (i := 7) o1.2.1 o1.1 o1.2.2.1 (by decide) hn) ?_
    rintro _ μ2 ⟨rfl, rfl⟩
    dsimp only
    cases e : isW b m (tE b m p) 7 with
    | false =>
      rw [if_pos (show b2i false = 0 from rfl), if_neg (fun q => by cases q.2)]
      exact Ok_r (psc_r o1 t1)
    | true =>
      rw [if_neg (show ¬ b2i true = 0 by decide), if_pos ⟨z, rfl⟩]
      have o3 : OKC (si μ2 13 4 (3 : Int32)) b m (tE b m p) := OKC_o o1 (by rw [si_o (by decide)]) (by rw [si_o (by decide)])
      have t3 : BC (si μ2 13 4 (3 : Int32)) (stT T 2 1) := by
        have := BC_take (a := 2) (s := 1) t1
        rw [show stT (stT T a 0) 2 1 = stT T 2 1 from ?_, tkC_s1] at this
        · exact this
        · unfold stT
          funext k
          by_cases k8 : k = 8
          · rw [k8, ups_a, ups_a]
          · rw [ups_b k8, ups_b k8]
            by_cases k7 : k = 7
            · rw [k7, ups_a, ups_a]
            · rw [ups_b k7, ups_b k7, ups_b k8, ups_b k7]
      refine Ok_b (overC_s n _ o3 (by have := (isW_t.mp e).1; omega) hn) ?_
      rintro _ μ4 ⟨k4, o4⟩
      exact Ok_r (psc_r o4 (BC_kc t3 k4))
  · rw [if_neg z, if_neg (fun q => z q.1)]
    exact Ok_r (psc_r o1 t1)
theorem takeC_s (n : Nat) (μ : Mu) {b : Nat → Nat} {m p0 : Nat} {T : Nat → Nat} (h : OKC μ b m p0) (h4 : tK b m p0 ≠ 4) (hT : BC μ T) (hn : 1000 < n) : Ok (X4_readTake n μ) (fun _ μ' => PSC b m (tkF b m T (tE b m p0)) μ') := by
  unfold X4_readTake
  refine Ok_b (overC_s n μ h h4 hn) ?_
  rintro _ μ1 ⟨k1, o1⟩
  dsimp only
  have t1 := BC_kc hT k1
  generalize tE b m p0 = p at *
  have set : ∀ a, a ≤ 2 → ∀ x, x = nI a → tK b m p ≠ 4 → Ok (X4_readTake_70 n (si μ1 13 4 x)) (fun _ μ' => PSC b m (if a = 2 ∧ isW b m (tE b m p) 7 = true then .inr (stT T 2 1, tE b m (tE b m p)) else .inr (stT T a 0, tE b m p)) μ') := by
    intro a ha x ex k4
    have t2 : BC (si μ1 13 4 x) (stT T a 0) := by
      have := BC_take (a := a) (s := 0) t1
      rw [tkC_st, ← ex] at this
      exact this
    exact take70_s n _ (OKC_o o1 (by rw [si_o (by decide)]) (by rw [si_o (by decide)])) k4 t2 ha hn
  unfold tkF
  refine Ok_b (wordIsC_s n μ1 (i := 4) o1.2.1 o1.1 o1.2.2.1 (by decide) hn) ?_
  rintro _ μ2 ⟨rfl, rfl⟩
  dsimp only
  cases e4 : isW b m p 4 with
  | true =>
    rw [if_neg (show ¬ b2i true = 0 by decide), if_pos rfl]
    exact set 0 (by decide) 0 rfl (by have := (isW_t.mp e4).1; omega)
  | false =>
    rw [if_pos (show b2i false = 0 from rfl), if_neg (by decide)]
    refine Ok_b (wordIsC_s n μ2 (i := 5) o1.2.1 o1.1 o1.2.2.1 (by decide) hn) ?_
    rintro _ μ3 ⟨rfl, rfl⟩
    dsimp only
    cases e5 : isW b m p 5 with
    | true =>
      rw [if_neg (show ¬ b2i true = 0 by decide), if_pos rfl]
      exact set 1 (by decide) 1 rfl (by have := (isW_t.mp e5).1; omega)
    | false =>
      rw [if_pos (show b2i false = 0 from rfl), if_neg (by decide)]
      refine Ok_b (wordIsC_s n μ3 (i := 6) o1.2.1 o1.1 o1.2.2.1 (by decide) hn) ?_
      rintro _ μ4 ⟨rfl, rfl⟩
      dsimp only
      cases e6 : isW b m p 6 with
      | true =>
        rw [if_neg (show ¬ b2i true = 0 by decide), if_pos rfl]
        have := set 2 (by decide) 2 rfl (by have := (isW_t.mp e6).1; omega)
        cases e7 : isW b m (tE b m p) 7 with
        | true => rw [e7, if_pos ⟨rfl, rfl⟩] at this; rw [if_pos rfl]; exact this
        | false => rw [e7, if_neg (fun q => by cases q.2)] at this; rw [if_neg (by decide)]; exact this
      | false =>
        rw [if_pos (show b2i false = 0 from rfl), if_neg (by decide), i_2]
        refine Ok_b (refuse_s n μ4 o1 (c := 2) (by decide) (by decide)) ?_
        rintro _ μ5 ⟨k5, f5⟩
        exact Ok_r (psc_l f5)
