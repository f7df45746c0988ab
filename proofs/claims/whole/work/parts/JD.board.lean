/-! a board is told: both sides -/
def iT : Nat → Nat := fun k => if k = 1 then 3 else 0
theorem iT_b : BB iT ∧ FLn iT ∧ iT 0 = 0 := by
  refine ⟨⟨by decide, by decide, by decide, by decide, by decide, by decide, by decide, by decide, by decide, by decide, by decide, by decide, by decide, by decide, fun k _ => ?_, fun k _ _ => ?_⟩, fun _ => ⟨rfl, fun k _ => ?_⟩, rfl⟩
  all_goals (have e : iT (13 + k) = 0 := if_neg (by omega))
  · rw [e]; decide
  · exact e
  · exact e
/-- what a text comes to: a fault and its place, or a board -/
def FN (b : Nat → Nat) (m : Nat) (x : (Nat × Nat) ⊕ (Nat → Nat)) : Prop := (∃ f, rdF b m m iT 0 = .inl f ∧ x = .inl f) ∨ (∃ r, rdF b m m iT 0 = .inr r ∧ WR r.1 ∧ x = .inl (5, m)) ∨ ∃ r, rdF b m m iT 0 = .inr r ∧ ¬ WR r.1 ∧ x = .inr r.1
theorem FN_x (b : Nat → Nat) (m : Nat) : ∃ x, FN b m x := by
  cases e : rdF b m m iT 0 with
  | inl f => exact ⟨.inl f, Or.inl ⟨f, e, rfl⟩⟩
  | inr r =>
    by_cases z : WR r.1
    · exact ⟨.inl (5, m), Or.inr (Or.inl ⟨r, e, z, rfl⟩)⟩
    · exact ⟨.inr r.1, Or.inr (Or.inr ⟨r, e, z, rfl⟩)⟩
theorem FN_w {b : Nat → Nat} {m : Nat} {T : Nat → Nat} (hm : m ≤ 500) (h : FN b m (.inr T)) : W1 T := by
  rcases h with ⟨f, _, e⟩ | ⟨r, _, _, e⟩ | ⟨r, e1, e2, e3⟩
  · exact nomatch e
  · exact nomatch e
  · obtain rfl := Sum.inr.inj e3
    obtain ⟨a1, a2⟩ := BB_rd m 0 iT r.1 r.2 (Nat.zero_le _) iT_b.1 iT_b.2.1 (Nat.le_of_eq iT_b.2.2) e1
    exact W1_bb a1 (by omega) e2
def FCC (x : (Nat × Nat) ⊕ (Nat → Nat)) (μ : Mu) : Prop := (∀ f, x = .inl f → FTC μ f.1 f.2) ∧ ∀ T, x = .inr T → μ.1 12 2 = 0 ∧ μ.1 12 3 = -nI 1 ∧ BC μ T
theorem rdC_s (n : Nat) (μ : Mu) {b : Nat → Nat} {m : Nat} {x : (Nat × Nat) ⊕ (Nat → Nat)} (hm : m ≤ 500) (hb : ∀ i, i < m → b i < 256 ∧ μ.1 14 i = nI (b i)) (hx : FN b m x) (hn : 1000 < n) : Ok (X4_read n (nI m) μ) (fun _ μ' => FCC x μ') := by
  unfold X4_read
  have c1 : Ok (X5_clear n 13 μ) (fun _ μ' => RUL μ' 13 iT ∧ KP (fun o => o = 13) μ μ') := by
    unfold X5_clear
    rw [kd_of (by decide)]
    refine Ok_r ⟨⟨?_, ?_, ?_, ?_, ?_, ?_, ?_, ?_, ?_⟩, ?_⟩
    · rw [si_c (by decide), si_c (by decide), si_c (by decide), si_c (by decide), si_c (by decide), si_c (by decide), si_c (by decide), si_c (by decide), si_a]; rfl
    · rw [si_c (by decide), si_c (by decide), si_c (by decide), si_c (by decide), si_c (by decide), si_c (by decide), si_c (by decide), si_a]; rfl
    · rw [si_c (by decide), si_c (by decide), si_c (by decide), si_c (by decide), si_c (by decide), si_c (by decide), si_a]; rfl
    · rw [si_c (by decide), si_c (by decide), si_c (by decide), si_c (by decide), si_c (by decide), si_a]; rfl
    · rw [si_c (by decide), si_c (by decide), si_c (by decide), si_c (by decide), si_a]; rfl
    · rw [si_c (by decide), si_c (by decide), si_c (by decide), si_a]; rfl
    · rw [si_c (by decide), si_c (by decide), si_a]; rfl
    · rw [si_c (by decide), si_a]; rfl
    · rw [si_a]; rfl
    · exact (((((((((KP.rf (R := fun x => x = 13)).si rfl).si rfl).si rfl).si rfl).si rfl).si rfl).si rfl).si rfl).si rfl
  refine Ok_b c1 ?_
  rintro _ μ1 ⟨r1, k1⟩
  dsimp only
  refine Ok_b (clear_s n μ1 (o := 149) (by decide) hn) ?_
  rintro _ μ2 ⟨s2, p2, k2⟩
  dsimp only
  have sc : SC μ2 149 iT := ⟨s2, fun k hk => by
    rw [p2 k hk]
    have : cT iT k = 0 := by
      unfold cT
      by_cases c : k < 12
      · rw [if_pos c]; exact if_neg (by omega)
      · rw [if_neg c]; exact if_neg (by omega)
    rw [this]⟩
  have bc2 : BC μ2 iT := ⟨RUL_o r1 (k2.1 13 (by omega)), sc⟩
  have tx : TXC (si (si (si (si μ2 12 2 0) 12 3 (-1)) 12 6 (nI m)) 12 9 0) b m := ⟨hm, by rw [si_c (by decide), si_a], fun i hi => by rw [si_o (by decide), si_o (by decide), si_o (by decide), si_o (by decide), k2.1 14 (by omega), k1.1 14 (by omega)]; exact hb i hi⟩
  refine Ok_b (stepC_s n _ tx (Nat.zero_le _) (by rw [si_a]; rfl) (by rw [si_c (by decide), si_c (by decide), si_c (by decide), si_a]) hn) ?_
  rintro _ μ3 ⟨k3, t3, z1, z2⟩
  dsimp only
  have ok3 : OKC μ3 b m 0 := ⟨Nat.zero_le _, TXC_k tx k3, t3, fun q => ⟨(z1 q).1, by rw [(z1 q).2, si_c (by decide), si_c (by decide), si_a]; rfl⟩, z2⟩
  have bc3 : BC μ3 iT := BC_kc (BC_o bc2 (by rw [si_o (by decide), si_o (by decide), si_o (by decide), si_o (by decide)]) (by rw [si_o (by decide), si_o (by decide), si_o (by decide), si_o (by decide)]) (by rw [si_o (by decide), si_o (by decide), si_o (by decide), si_o (by decide)])) k3
  refine readC (T := iT) ok3 bc3 iT_b.1 iT_b.2.1 (Nat.le_of_eq iT_b.2.2) hn ?_
  rintro μ4 ⟨e1, e2⟩
  rw [Nat.sub_zero] at e1 e2
  unfold X4_read_72 X4_read_99
  rcases hx with ⟨f, ef, rfl⟩ | ⟨r, er, hw, rfl⟩ | ⟨r, er, hw, rfl⟩
  · rw [if_neg (FTC_nz (e1 f ef))]
    exact Ok_r ⟨fun f' e => by rw [← Sum.inl.inj e]; exact e1 f ef, fun T e => (nomatch e)⟩
  · obtain ⟨y1, y2, y3, y4⟩ := e2 r er
    obtain ⟨a1, a2⟩ := BB_rd m 0 iT r.1 r.2 (Nat.zero_le _) iT_b.1 iT_b.2.1 (Nat.le_of_eq iT_b.2.2) er
    rw [if_pos y1]
    refine Ok_b (soundC_s n μ4 y4 a1 hn) ?_
    rintro a _ ⟨rfl, _, q2⟩
    dsimp only
    rw [q2 hw, if_pos rfl, si_c (by decide), y3]
    exact Ok_r ⟨fun f' e => by rw [← Sum.inl.inj e]; exact ⟨by rw [si_c (by decide), si_a]; rfl, si_a, show 0 < 5 by decide, show 5 < 6 by decide⟩, fun T e => (nomatch e)⟩
  · obtain ⟨y1, y2, y3, y4⟩ := e2 r er
    obtain ⟨a1, a2⟩ := BB_rd m 0 iT r.1 r.2 (Nat.zero_le _) iT_b.1 iT_b.2.1 (Nat.le_of_eq iT_b.2.2) er
    rw [if_pos y1]
    refine Ok_b (soundC_s n μ4 y4 a1 hn) ?_
    rintro a _ ⟨rfl, q1, _⟩
    dsimp only
    rw [q1 hw, if_neg (by decide)]
    exact Ok_r ⟨fun f' e => (nomatch e), fun T e => by rw [← Sum.inr.inj e]; exact ⟨y1, y2, y4⟩⟩
