/-! a board is told: the reference -/
def FRR (ν : Mu) (x : (Nat × Nat) ⊕ (Nat → Nat)) (a : Int32) (μ : Mu) : Prop := (∀ f, x = .inl f → a = -10 - nI f.1 ∧ μ.1 171 15 = nI f.1 ∧ μ.1 171 16 = nI f.2 ∧ μ.1 172 = ν.1 172 ∧ μ.1 171 28 = ν.1 171 28 ∧ μ.1 171 29 = ν.1 171 29) ∧ ∀ T, x = .inr T → a = nI (T 0) ∧ μ.1 171 15 = 0 ∧ μ.1 171 16 = -nI 1 ∧ TD μ T ∧ μ.1 171 28 = nI 0 ∧ μ.1 171 29 = nI 0
theorem endR_l (n : Nat) (μ : Mu) {v1 : Int32} {c pl : Nat} (h : FTR μ c pl) : Ok (X12_board_127 n v1 μ) (fun a μ' => (μ'.1 171 5 = μ.1 171 5 ∧ μ'.1 171 7 = μ.1 171 7) ∧ a = -10 - nI c ∧ μ'.1 171 15 = nI c ∧ μ'.1 171 16 = nI pl ∧ μ'.1 172 = μ.1 172 ∧ μ'.1 171 28 = μ.1 171 28 ∧ μ'.1 171 29 = μ.1 171 29) := by
  have e13 : (si μ 171 15 (μ.1 171 13)).1 171 13 = nI c := by rw [si_c (by decide)]; exact h.1
  have e14 : (si μ 171 15 (μ.1 171 13)).1 171 14 = nI pl := by rw [si_c (by decide)]; exact h.2.1
  have nz : ¬ nI c = 0 := nI_ne0 h.2.2.1 (by have := h.2.2.2; omega)
  unfold X12_board_127 X12_board_151
  rw [e13, if_neg nz, e14, si_c (by decide), e13, if_neg nz]
  refine Ok_r ⟨⟨?_, ?_⟩, rfl, ?_, si_a, ?_, ?_, ?_⟩
  · rw [si_c (by decide), si_c (by decide)]
  · rw [si_c (by decide), si_c (by decide)]
  · rw [si_c (by decide), si_a]; exact h.1
  · rw [si_o (by decide), si_o (by decide)]
  · rw [si_c (by decide), si_c (by decide)]
  · rw [si_c (by decide), si_c (by decide)]
theorem endR_r (n : Nat) (μ : Mu) {v1 : Int32} {T : Nat → Nat} (h : μ.1 171 13 = 0) (hT : BR μ T) (hn : 1000 < n) : Ok (X12_board_127 n v1 μ) (fun a μ' => (μ'.1 171 5 = μ.1 171 5 ∧ μ'.1 171 7 = μ.1 171 7) ∧ a = nI (T 0) ∧ μ'.1 171 15 = 0 ∧ μ'.1 171 16 = -nI 1 ∧ TD μ' T ∧ μ'.1 171 28 = nI 0 ∧ μ'.1 171 29 = nI 0) := by
  have e13 : (si μ 171 15 (μ.1 171 13)).1 171 13 = 0 := by rw [si_c (by decide)]; exact h
  unfold X12_board_127 X12_board_151
  rw [e13, if_pos rfl, si_c (by decide), e13, if_pos rfl, bS (copies_s n _ (by decide) (by decide) (by decide) (by decide) (by decide) (by decide) (by decide) (by omega))]
  dsimp only
  have td : ∀ k, k < 25 → (mvF (si (si μ 171 15 (μ.1 171 13)) 171 16 (-1)) 173 0 172 0 25).1 172 k = nI (T k) := fun k hk => by
    rw [mvF_d, if_pos ⟨Nat.zero_le _, by omega⟩, Nat.sub_zero, si_b (by decide), si_b (by decide), Nat.zero_add]
    exact hT k hk
  refine Ok_r ⟨⟨?_, ?_⟩, ?_, ?_, ?_, fun k hk => ?_, ?_, si_a⟩
  · rw [si_c (by decide), si_c (by decide), mvF_o _ (by decide), si_c (by decide), si_c (by decide)]
  · rw [si_c (by decide), si_c (by decide), mvF_o _ (by decide), si_c (by decide), si_c (by decide)]
  · rw [si_b (by decide), si_b (by decide)]; exact td 0 (by decide)
  · rw [si_c (by decide), si_c (by decide), mvF_o _ (by decide), si_c (by decide), si_a]; exact h
  · rw [si_c (by decide), si_c (by decide), mvF_o _ (by decide), si_a]; rfl
  · rw [si_b (by decide), si_b (by decide)]; exact td k hk
  · rw [si_c (by decide), si_a]; rfl
theorem rdR_s (n : Nat) (μ : Mu) {b : Nat → Nat} {m : Nat} {x : (Nat × Nat) ⊕ (Nat → Nat)} (hm : m ≤ 500) (hb : ∀ i, i < m → b i < 256 ∧ μ.1 177 i = nI (b i)) (hx : FN b m x) {z : Nat} (hz : z ≤ 500) (hmz : m ≤ z) (h7 : μ.1 171 7 = nI z) (hn : 1000 < n) : Ok (X12_board n (nI m) μ) (fun a μ' => (μ'.1 171 5 = 0 ∧ μ'.1 171 7 = nI 0) ∧ FRR μ x a μ') := by
  unfold X12_board
  have e7 : (si μ 171 5 0).1 171 7 = nI z := by rw [si_c (by decide)]; exact h7
  rw [e7, bS (within_l n _ (b := z) (by omega) (nI_lN (by omega)) ((inR_j (by decide) (by omega) (by omega)).mpr ⟨Nat.zero_le _, hmz⟩))]
  dsimp only
  rw [if_neg (show ¬ b2i true = 0 by decide)]
  generalize hμ0 : (si (si (si (si (si μ 171 5 0) 171 8 (nI m)) 171 7 0) 171 9 0) 171 13 0) = μ0
  have a5 : μ0.1 171 5 = 0 := by rw [← hμ0, si_c (by decide), si_c (by decide), si_c (by decide), si_c (by decide), si_a]
  have a7 : μ0.1 171 7 = nI 0 := by rw [← hμ0, si_c (by decide), si_c (by decide), si_a]; rfl
  have a8 : μ0.1 171 8 = nI m := by rw [← hμ0, si_c (by decide), si_c (by decide), si_c (by decide), si_a]
  have a9 : μ0.1 171 9 = nI 0 := by rw [← hμ0, si_c (by decide), si_a]; rfl
  have a13 : μ0.1 171 13 = 0 := by rw [← hμ0, si_a]
  have a28 : μ0.1 171 28 = μ.1 171 28 := by rw [← hμ0, si_c (by decide), si_c (by decide), si_c (by decide), si_c (by decide), si_c (by decide)]
  have a29 : μ0.1 171 29 = μ.1 171 29 := by rw [← hμ0, si_c (by decide), si_c (by decide), si_c (by decide), si_c (by decide), si_c (by decide)]
  have a172 : μ0.1 172 = μ.1 172 := by rw [← hμ0, si_o (by decide), si_o (by decide), si_o (by decide), si_o (by decide), si_o (by decide)]
  have a177 : μ0.1 177 = μ.1 177 := by rw [← hμ0, si_o (by decide), si_o (by decide), si_o (by decide), si_o (by decide), si_o (by decide)]
  unfold X12_board_47
  refine Ok_lp1 (fun f x2 μ' => ∃ j, j ≤ 25 ∧ f = 25 - j ∧ x2 = nI j ∧ (∀ o, o ≠ 173 → μ'.1 o = μ0.1 o) ∧ μ'.2 = μ0.2 ∧ ∀ k, k < j → μ'.1 173 k = nI 0) ?_ 25 (by omega) ⟨0, by omega, rfl, rfl, fun _ _ => rfl, rfl, fun k q => by omega⟩
  rintro K f x2 μ1 ⟨j, hj, rfl, rfl, ho, ho2, hk⟩ hK
  unfold X12_board_47b
  rw [i_25, ifLe (by decide) (by omega)]
  by_cases c : 25 ≤ j
  · obtain rfl : j = 25 := by omega
    rw [if_pos c]
    have tx : TXR (si μ1 173 1 3) b m := ⟨hm, by rw [si_o (by decide), ho 171 (by decide)]; exact a8, fun i hi => by rw [si_o (by decide), ho 177 (by decide), a177]; exact hb i hi⟩
    refine Ok_b (readsR_s n _ tx (Nat.zero_le _) (by rw [si_o (by decide), ho 171 (by decide)]; exact a9) hn) ?_
    rintro _ μ2 ⟨k2, t2⟩
    dsimp only
    have br : BR μ2 iT := fun k q => by
      rw [k2.1 173 (by decide)]
      by_cases c : k = 1
      · rw [c, si_a]; rfl
      · rw [si_c c, hk k q, show iT k = 0 from if_neg c]
    have ok : OKR μ2 b m 0 := ⟨Nat.zero_le _, TXR_k tx k2, t2, by rw [k2.2.2 13 (by omega), si_o (by decide), ho 171 (by decide)]; exact a13⟩
    have ag2 : AG DZ μ0 μ2 := fun o k q => by
      refine ⟨?_, by rw [k2.2.1]; exact congrFun (congrFun ho2 o) k⟩
      obtain ⟨d, hd, d1, d2, d3⟩ := q
      have hk9 : o = 172 ∨ (o = 171 ∧ (k < 9 ∨ 12 < k)) := by
        have : ∀ d ∈ DZ, (d.1 = 172 ∧ d.2.1 = 172) ∨ (d.1 = 171 ∧ d.2.1 = 171 ∧ d.2.2 ≠ 9999 ∧ (d.2.2 < 9 ∨ 12 < d.2.2)) := by decide
        have := this d hd
        omega
      rcases hk9 with rfl | ⟨rfl, q⟩
      · rw [k2.1 172 (by decide), si_o (by decide), ho 172 (by decide)]
      · rw [k2.2.2 k q, si_o (by decide), ho 171 (by decide)]
    refine readR (T := iT) (ν := μ0) ok br iT_b.1 iT_b.2.1 (Nat.le_of_eq iT_b.2.2) ⟨fun q => absurd q (by decide), fun q => absurd iT_b.2.2 q⟩ ag2 hn ?_
    rintro μ4 ⟨e1, e2⟩ z4
    rw [Nat.sub_zero] at e1 e2
    have y5 : μ4.1 171 5 = 0 := by rw [(z4.f 171 5 (by decide)).1]; exact a5
    have y7 : μ4.1 171 7 = nI 0 := by rw [(z4.f 171 7 (by decide)).1]; exact a7
    have y28 : μ4.1 171 28 = μ.1 171 28 := by rw [(z4.f 171 28 (by decide)).1]; exact a28
    have y29 : μ4.1 171 29 = μ.1 171 29 := by rw [(z4.f 171 29 (by decide)).1]; exact a29
    have y172 : μ4.1 172 = μ.1 172 := by rw [(z4.o 172 172 172 (by decide) (by decide) (by decide)).1]; exact a172
    unfold X12_board_103
    rcases hx with ⟨f, ef, rfl⟩ | ⟨r, er, hw, rfl⟩ | ⟨r, er, hw, rfl⟩
    · rw [if_neg (FTR_nz (e1 f ef))]
      refine Ok_m (endR_l n μ4 (e1 f ef)) ?_
      rintro a μ5 ⟨⟨q0, q1⟩, q2, q3, q4, q5, q6, q7⟩
      exact ⟨⟨by rw [q0]; exact y5, by rw [q1]; exact y7⟩, fun f' e => by rw [← Sum.inl.inj e]; exact ⟨q2, q3, q4, by rw [q5]; exact y172, by rw [q6]; exact y28, by rw [q7]; exact y29⟩, fun T e => (nomatch e)⟩
    · obtain ⟨y1, y2⟩ := e2 r er
      obtain ⟨a1, a2⟩ := BB_rd m 0 iT r.1 r.2 (Nat.zero_le _) iT_b.1 iT_b.2.1 (Nat.le_of_eq iT_b.2.2) er
      rw [if_pos y1]
      refine Ok_b (wrongR_s n μ4 y2 a1 hn) ?_
      rintro a _ ⟨rfl, _, q2⟩
      dsimp only
      rw [if_neg (q2 hw)]
      refine Ok_m (endR_l n _ (c := 5) (pl := m) ⟨by rw [si_c (by decide), si_a]; rfl, si_a, by decide, by decide⟩) ?_
      rintro a μ5 ⟨⟨q0, q1⟩, q2, q3, q4, q5, q6, q7⟩
      rw [si_c (by decide), si_c (by decide)] at q0 q1 q6 q7
      rw [si_o (by decide), si_o (by decide)] at q5
      exact ⟨⟨by rw [q0]; exact y5, by rw [q1]; exact y7⟩, fun f' e => by rw [← Sum.inl.inj e]; exact ⟨q2, q3, q4, by rw [q5]; exact y172, by rw [q6]; exact y28, by rw [q7]; exact y29⟩, fun T e => (nomatch e)⟩
    · obtain ⟨y1, y2⟩ := e2 r er
      obtain ⟨a1, a2⟩ := BB_rd m 0 iT r.1 r.2 (Nat.zero_le _) iT_b.1 iT_b.2.1 (Nat.le_of_eq iT_b.2.2) er
      rw [if_pos y1]
      refine Ok_b (wrongR_s n μ4 y2 a1 hn) ?_
      rintro a _ ⟨rfl, q1, _⟩
      dsimp only
      rw [if_pos (q1 hw)]
      refine Ok_m (endR_r n _ y1 y2 hn) ?_
      rintro a μ5 ⟨⟨q0, q1⟩, q2⟩
      exact ⟨⟨by rw [q0]; exact y5, by rw [q1]; exact y7⟩, fun f' e => (nomatch e), fun T e => by rw [← Sum.inr.inj e]; exact q2⟩
  · rw [if_neg c, gd_n (by omega) (by decide), nI_clamp (by omega), i_1, nI_add]
    refine hK (25 - (j + 1)) _ _ (by omega) ⟨j + 1, by omega, rfl, rfl, fun o q => by rw [si_o q]; exact ho o q, ho2, fun k hk2 => ?_⟩
    by_cases e : k = j
    · rw [e, si_a]; rfl
    · rw [si_c e]; exact hk k (by omega)
