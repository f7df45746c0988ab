/-! the reference's numbers -/
theorem numbR_f {n : Nat} {μ : Mu} {x y : Int32} {c pl : Nat} (h : FTR μ c pl) : X12_number n x y μ = some (x, μ) := by
  have e36 : X12_number_36 n x y μ = some (x, μ) := by
    unfold X12_number_36 X12_number_52 X12_number_64
    rw [if_neg (FTR_nz h), if_neg (FTR_nz h)]
  unfold X12_number
  rw [bS (blames_f h), bS (within_s n _ _ _ μ)]
  dsimp only
  rw [bS (blames_f h)]
  dsimp only
  rw [e36]
  by_cases z : μ.1 171 11 = 2
  · rw [if_pos z]
    by_cases z1 : b2i (decide (x.toInt64 ≤ (μ.1 171 12).toInt64 ∧ (μ.1 171 12).toInt64 ≤ y.toInt64)) = 0
    · rw [if_pos z1]
    · rw [if_neg z1]
  · rw [if_neg z]
theorem numbR_s (n : Nat) (μ : Mu) {b : Nat → Nat} {m p a c : Nat} (h : OKR μ b m p) (ha : a < 2 ^ 31) (hc : c < 2 ^ 31) (hn : 1000 < n) : Ok (X12_number n (nI a) (nI c) μ) (fun v μ' => KY2 μ μ' ∧ (∀ f, nuF b m p a c = .inl f → FTR μ' f.1 f.2) ∧ (∀ r, nuF b m p a c = .inr r → v = nI r.1 ∧ OKR μ' b m r.2 ∧ a ≤ r.1 ∧ r.1 ≤ c)) := by
  have hk := tK_le (b := b) (m := m) (p := p)
  have f36 : ∀ μ1 c' pl, FTR μ1 c' pl → X12_number_36 n (nI a) (nI c) μ1 = some (nI a, μ1) := by
    intro μ1 c' pl f
    unfold X12_number_36 X12_number_52 X12_number_64
    rw [if_neg (FTR_nz f), if_neg (FTR_nz f)]
  unfold X12_number nuF
  rw [h.2.2.1.1, i_2, i_3, ifEq (by omega) (by decide)]
  by_cases z : tK b m p = 2
  · have tl := tV_lt h.1 z
    rw [if_pos z, if_pos z, h.2.2.1.2.2.2 z, nI_lN (by omega), nI_lN ha, nI_lN hc, bS (within_s n _ _ _ μ)]
    dsimp only
    by_cases zb : a ≤ tV b m p ∧ tV b m p ≤ c
    · rw [decide_eq_true (show lN a ≤ lN (tV b m p) ∧ lN (tV b m p) ≤ lN c from ⟨(pk_lLE (by omega) (by omega)).mpr zb.1, (pk_lLE (by omega) (by omega)).mpr zb.2⟩), if_neg (show ¬ b2i true = 0 by decide), if_pos zb]
      unfold X12_number_36 X12_number_52 X12_number_64
      rw [if_pos h.2.2.2]
      refine Ok_b (overR_s n μ h (by omega) hn) ?_
      rintro _ μ1 ⟨k1, o1⟩
      dsimp only
      rw [if_pos o1.2.2.2, h.2.2.1.2.2.2 z]
      refine Ok_r ⟨k1, fun f e => (nomatch e), fun r e => ?_⟩
      rw [← Sum.inr.inj e]
      exact ⟨rfl, o1, zb.1, zb.2⟩
    · rw [decide_eq_false (show ¬ (lN a ≤ lN (tV b m p) ∧ lN (tV b m p) ≤ lN c) from fun q => zb ⟨(pk_lLE (by omega) (by omega)).mp q.1, (pk_lLE (by omega) (by omega)).mp q.2⟩), if_pos (show b2i false = 0 from rfl), if_neg zb]
      refine Ok_b (blames_s n μ h (c := 3) (by decide) (by decide)) ?_
      rintro _ μ1 ⟨k1, f1⟩
      dsimp only
      rw [f36 μ1 _ _ f1]
      refine Ok_r ⟨k1, fun f e => ?_, fun r e => (nomatch e)⟩
      rw [← Sum.inl.inj e]
      have : blF b m p 3 = 3 := if_neg (by omega)
      rw [this] at f1
      exact f1
  · rw [if_neg z, if_neg z]
    refine Ok_b (blames_s n μ h (c := 2) (by decide) (by decide)) ?_
    rintro _ μ1 ⟨k1, f1⟩
    dsimp only
    rw [f36 μ1 _ _ f1]
    refine Ok_r ⟨k1, fun f e => ?_, fun r e => (nomatch e)⟩
    rw [← Sum.inl.inj e]
    exact f1
/-- the reference took a word -/
theorem tookR_s (n : Nat) (μ : Mu) {b : Nat → Nat} {m p i : Nat} (h : OKR μ b m p) (hi : i < 47) (hn : 1000 < n) : Ok (X12_took n (1000 + i) μ) (fun a μ' => a = b2i (isW b m p i) ∧ (isW b m p i = false → μ' = μ) ∧ (isW b m p i = true → KY2 μ μ' ∧ OKR μ' b m (tE b m p))) := by
  have k : ∀ i, i < 47 → oK (1000 + i) = 130 := by decide +kernel
  unfold X12_took X12_took_14
  rw [kd_of (k i hi)]
  refine Ok_b (wordIsR_s n μ h.2.1 h.1 h.2.2.1 h.2.2.2 hi hn) ?_
  rintro _ μ1 ⟨rfl, rfl⟩
  dsimp only
  cases e : isW b m p i with
  | false =>
    rw [if_pos (show b2i false = 0 from rfl)]
    exact Ok_r ⟨rfl, fun _ => rfl, fun q => Bool.noConfusion q⟩
  | true =>
    rw [if_neg (show ¬ b2i true = 0 by decide)]
    refine Ok_b (overR_s n μ1 h (by have := (isW_t.mp e).1; omega) hn) ?_
    rintro _ μ2 ⟨k2, o2⟩
    exact Ok_r ⟨rfl, fun q => Bool.noConfusion q, fun _ => ⟨k2, o2⟩⟩
/-- the same, faulted: no word -/
theorem wordF_s (n : Nat) (μ : Mu) {i c pl : Nat} (h : FTR μ c pl) (hi : i < 47) (hn : 1000 < n) : X12_isWord n (1000 + i) μ = some (0, μ) := by
  have k : ∀ i, i < 47 → oK (1000 + i) = 130 := by decide +kernel
  unfold X12_isWord X12_isWord_35 X12_isWord_36 X12_isWord_39
  rw [kd_of (k i hi), if_neg (FTR_nz h)]
  have : Ok (lpF (fun _ _ _ => none) (X12_isWord_39b n (1000 + i)) n 0 0 μ) (fun a μ' => a = 0 ∧ μ' = μ) := by
    refine Ok_lp2 (fun f x2 x3 μ' => x2 = 0 ∧ μ' = μ) ?_ 0 (by omega) ⟨rfl, rfl⟩
    rintro K f x2 x3 μ1 ⟨rfl, rfl⟩ hK
    unfold X12_isWord_39b X12_isWord_82
    rw [if_pos rfl]
    exact Ok_r ⟨rfl, rfl⟩
  obtain ⟨a, μ', e, rfl, rfl⟩ := this
  exact e
