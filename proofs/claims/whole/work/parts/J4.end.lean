/-! the end of a line -/
theorem if_ok {α : Type} {p : Prop} [Decidable p] {x y : Option (α × Mu)} {Q : α → Mu → Prop} (h1 : p → Ok x Q) (h2 : ¬ p → Ok y Q) : Ok (if p then x else y) Q := by
  by_cases z : p
  · rw [if_pos z]; exact h1 z
  · rw [if_neg z]; exact h2 z
def edF (b : Nat → Nat) (m : Nat) (x : (Nat × Nat) ⊕ ((Nat → Nat) × Nat)) : (Nat × Nat) ⊕ ((Nat → Nat) × Nat) := match x with
  | .inl f => .inl f
  | .inr r => if tK b m r.2 = 3 then .inr (ups r.1 0 (r.1 0 + 1), tE b m r.2) else .inl (blF b m r.2 2, tS b m r.2)
theorem ed_l {b : Nat → Nat} {m : Nat} {f : Nat × Nat} : edF b m (.inl f) = .inl f := rfl
theorem ed_r {b : Nat → Nat} {m : Nat} {r : (Nat → Nat) × Nat} : edF b m (.inr r) = if tK b m r.2 = 3 then .inr (ups r.1 0 (r.1 0 + 1), tE b m r.2) else .inl (blF b m r.2 2, tS b m r.2) := rfl
theorem endLC (n : Nat) (μ : Mu) {b : Nat → Nat} {m : Nat} {x : (Nat × Nat) ⊕ ((Nat → Nat) × Nat)} (h : PSC b m x μ) (hn : 1000 < n) : Ok (X4_readLine_207 n μ) (fun _ μ' => PSC b m (edF b m x) μ') := by
  have flt : ∀ μ1 f, FTC μ1 f.1 f.2 → Ok (X4_readLine_220 n μ1) (fun _ μ' => PSC b m (.inl f) μ') := by
    intro μ1 f f1
    unfold X4_readLine_220 X4_readLine_244
    rw [if_neg (FTC_nz f1)]
    exact Ok_r (psc_l f1)
  cases x with
  | inl f =>
    have f1 := h.1 f rfl
    rw [ed_l]
    unfold X4_readLine_207
    rw [bS (refuse_f f1)]
    exact if_ok (fun _ => flt μ f f1) (fun _ => flt μ f f1)
  | inr r =>
    obtain ⟨o1, t1⟩ := h.2 r rfl
    have hk := tK_le (b := b) (m := m) (p := r.2)
    rw [ed_r]
    unfold X4_readLine_207
    rw [o1.2.2.1.1, i_3, ifEq (by omega) (by decide)]
    by_cases z : tK b m r.2 = 3
    · rw [if_pos z, if_pos z]
      unfold X4_readLine_220 X4_readLine_244
      rw [if_pos (o1.2.2.2.1 (by omega)).1, t1.1.1, i_1, nI_add]
      have t2 : BC (si μ 13 0 (nI (r.1 0 + 1))) (ups r.1 0 (r.1 0 + 1)) := BC_r0 t1
      refine Ok_b (overC_s n _ (OKC_o o1 (by rw [si_o (by decide)]) (by rw [si_o (by decide)])) (by omega) hn) ?_
      rintro _ μ2 ⟨k2, o2⟩
      exact Ok_r (psc_r o2 (BC_kc t2 k2))
    · rw [if_neg z, if_neg z, i_2]
      refine Ok_b (refuse_s n μ o1 (c := 2) (by decide) (by decide)) ?_
      rintro _ μ1 ⟨_, f1⟩
      exact flt μ1 (blF b m r.2 2, tS b m r.2) f1
theorem endLR (n : Nat) (μ : Mu) (v1 : Int32) {b : Nat → Nat} {m : Nat} {x : (Nat × Nat) ⊕ ((Nat → Nat) × Nat)} (h : PSR b m x μ) (hn : 1000 < n) : Ok (X12_readLine_241 n v1 μ) (fun _ μ' => PSR b m (edF b m x) μ') := by
  have flt : ∀ μ1 f, FTR μ1 f.1 f.2 → Ok (X12_readLine_254 n v1 μ1) (fun _ μ' => PSR b m (.inl f) μ') := by
    intro μ1 f f1
    unfold X12_readLine_254 X12_readLine_265 X12_readLine_282
    rw [if_neg (FTR_nz f1), if_neg (FTR_nz f1)]
    exact Ok_r (psr_l f1)
  cases x with
  | inl f =>
    have f1 := h.1 f rfl
    rw [ed_l]
    unfold X12_readLine_241
    rw [bS (blames_f f1)]
    exact if_ok (fun _ => flt μ f f1) (fun _ => flt μ f f1)
  | inr r =>
    obtain ⟨o1, t1⟩ := h.2 r rfl
    have hk := tK_le (b := b) (m := m) (p := r.2)
    rw [ed_r]
    unfold X12_readLine_241
    rw [o1.2.2.1.1, i_3, ifEq (by omega) (by decide)]
    by_cases z : tK b m r.2 = 3
    · rw [if_pos z, if_pos z]
      unfold X12_readLine_254 X12_readLine_265 X12_readLine_282
      rw [if_pos o1.2.2.2]
      refine Ok_b (overR_s n μ o1 (by omega) hn) ?_
      rintro _ μ2 ⟨k2, o2⟩
      dsimp only
      have t2 := BR_ky t1 k2
      rw [if_pos o2.2.2.2, t2 0 (by decide), i_1, nI_add]
      exact Ok_r (psr_r (OKR_o o2 (by rw [si_o (by decide)]) (by rw [si_o (by decide)])) (BR_set t2))
    · rw [if_neg z, if_neg z, i_2]
      refine Ok_b (blames_s n μ o1 (c := 2) (by decide) (by decide)) ?_
      rintro _ μ1 ⟨_, f1⟩
      exact flt μ1 (blF b m r.2 2, tS b m r.2) f1
