/-! the reference's take line -/
theorem take51_s (n : Nat) (μ : Mu) {b : Nat → Nat} {m p a : Nat} {T : Nat → Nat} (h : OKR μ b m p) (h4 : tK b m p ≠ 4) (hT : BR μ T) (ha : a ≤ 2) (hn : 1000 < n) : Ok (X12_readTake_51 n (nI a) μ) (fun _ μ' => PSR b m (if a = 2 ∧ isW b m (tE b m p) 7 = true then .inr (stT T 2 1, tE b m (tE b m p)) else .inr (stT T a 0, tE b m p)) μ') := by
  have e44 : isW b m (tE b m p) 44 = isW b m (tE b m p) 7 := isW_eq (by decide +kernel)
  unfold X12_readTake_51 X12_readTake_95 X12_readTake_96
  rw [if_pos h.2.2.2]
  refine Ok_b (overR_s n μ h h4 hn) ?_
  rintro _ μ1 ⟨k1, o1⟩
  dsimp only
  have t1 : BR (si μ1 173 7 (nI a)) (ups T 7 a) := BR_set (BR_ky hT k1)
  have o2 : OKR (si μ1 173 7 (nI a)) b m (tE b m p) := OKR_o o1 (by rw [si_o (by decide)]) (by rw [si_o (by decide)])
  rw [i_2, ifEq (by omega) (by decide), i_8, gd_n (by decide) (by decide)]
  have hcl : (nI 8).toNatClampNeg = 8 := nI_clamp (by decide)
  by_cases z : a = 2
  · rw [if_pos z]
    refine Ok_b (tookR_s n _ (i := 44) o2 (by decide) hn) ?_
    rintro _ μ2 ⟨rfl, q0, q1⟩
    dsimp only
    rw [e44]
    rw [e44] at q0 q1
    cases e : isW b m (tE b m p) 7 with
    | false =>
      rw [q0 e, if_pos (show b2i false = 0 from rfl), if_neg (fun q => by cases q.2), hcl]
      exact Ok_r (psr_r (OKR_o o2 (by rw [si_o (by decide)]) (by rw [si_o (by decide)])) (BR_set (v := 0) t1))
    | true =>
      obtain ⟨k3, o3⟩ := q1 e
      rw [if_neg (show ¬ b2i true = 0 by decide), if_pos ⟨z, rfl⟩, hcl]
      have t3 := BR_set (i := 8) (v := 1) (BR_ky t1 k3)
      rw [z] at t3
      exact Ok_r (psr_r (OKR_o o3 (by rw [si_o (by decide)]) (by rw [si_o (by decide)])) t3)
  · rw [if_neg z, if_neg (fun q => z q.1), hcl]
    exact Ok_r (psr_r (OKR_o o2 (by rw [si_o (by decide)]) (by rw [si_o (by decide)])) (BR_set (v := 0) t1))
theorem takeR_s (n : Nat) (μ : Mu) {b : Nat → Nat} {m p : Nat} {T : Nat → Nat} (h : OKR μ b m p) (hT : BR μ T) (hn : 1000 < n) : Ok (X12_readTake n μ) (fun _ μ' => PSR b m (tkF b m T p) μ') := by
  have e41 : isW b m p 41 = isW b m p 4 := isW_eq (by decide +kernel)
  have e42 : isW b m p 42 = isW b m p 5 := isW_eq (by decide +kernel)
  have e43 : isW b m p 43 = isW b m p 6 := isW_eq (by decide +kernel)
  have set : ∀ a, a ≤ 2 → ∀ x, x = nI a → tK b m p ≠ 4 → Ok (X12_readTake_40 n x μ) (fun _ μ' => PSR b m (if a = 2 ∧ isW b m (tE b m p) 7 = true then .inr (stT T 2 1, tE b m (tE b m p)) else .inr (stT T a 0, tE b m p)) μ') := by
    intro a ha x ex k4
    unfold X12_readTake_40
    rw [ex, i_1, if_neg (fun q => (eq_m1 (by omega)).mp q)]
    exact take51_s n μ h k4 hT ha hn
  unfold X12_readTake tkF
  refine Ok_b (wordIsR_s n μ (i := 41) h.2.1 h.1 h.2.2.1 h.2.2.2 (by decide) hn) ?_
  rintro _ μ2 ⟨rfl, rfl⟩
  dsimp only
  rw [e41]
  cases e4 : isW b m p 4 with
  | true =>
    rw [if_neg (show ¬ b2i true = 0 by decide), if_pos rfl]
    exact set 0 (by decide) 0 rfl (by have := (isW_t.mp e4).1; omega)
  | false =>
    rw [if_pos (show b2i false = 0 from rfl), if_neg (by decide)]
    refine Ok_b (wordIsR_s n μ2 (i := 42) h.2.1 h.1 h.2.2.1 h.2.2.2 (by decide) hn) ?_
    rintro _ μ3 ⟨rfl, rfl⟩
    dsimp only
    rw [e42]
    cases e5 : isW b m p 5 with
    | true =>
      rw [if_neg (show ¬ b2i true = 0 by decide), if_pos rfl]
      exact set 1 (by decide) 1 rfl (by have := (isW_t.mp e5).1; omega)
    | false =>
      rw [if_pos (show b2i false = 0 from rfl), if_neg (by decide)]
      refine Ok_b (wordIsR_s n μ3 (i := 43) h.2.1 h.1 h.2.2.1 h.2.2.2 (by decide) hn) ?_
      rintro _ μ4 ⟨rfl, rfl⟩
      dsimp only
      rw [e43]
      cases e6 : isW b m p 6 with
      | true =>
        rw [if_neg (show ¬ b2i true = 0 by decide), if_pos rfl]
        have := set 2 (by decide) 2 rfl (by have := (isW_t.mp e6).1; omega)
        cases e7 : isW b m (tE b m p) 7 with
        | true => rw [e7, if_pos ⟨rfl, rfl⟩] at this; rw [if_pos rfl]; exact this
        | false => rw [e7, if_neg (fun q => by cases q.2)] at this; rw [if_neg (by decide)]; exact this
      | false =>
        rw [if_pos (show b2i false = 0 from rfl), if_neg (by decide)]
        unfold X12_readTake_40
        rw [if_pos rfl, i_2]
        refine Ok_b (blames_s n μ4 h (c := 2) (by decide) (by decide)) ?_
        rintro _ μ5 ⟨k5, f5⟩
        dsimp only
        unfold X12_readTake_51
        rw [if_neg (FTR_nz f5)]
        exact Ok_r (psr_l f5)
