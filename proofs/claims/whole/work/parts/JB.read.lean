/-! the lines of a text -/
def rdF (b : Nat → Nat) (m : Nat) : Nat → (Nat → Nat) → Nat → (Nat × Nat) ⊕ ((Nat → Nat) × Nat)
  | 0, T, p => .inr (T, p)
  | c + 1, T, p => if tK b m p = 0 then .inr (T, p) else match edF b m (liF b m T p) with
    | .inl f => .inl f
    | .inr r => rdF b m c r.1 r.2
theorem rd_z {b : Nat → Nat} {m c p : Nat} {T : Nat → Nat} (h : tK b m p = 0) : rdF b m c T p = .inr (T, p) := by
  cases c with
  | zero => rfl
  | succ c => rw [rdF, if_pos h]
theorem rd_l {b : Nat → Nat} {m c p : Nat} {T : Nat → Nat} {f : Nat × Nat} (h : tK b m p ≠ 0) (e : edF b m (liF b m T p) = .inl f) : rdF b m (c + 1) T p = .inl f := by rw [rdF, if_neg h, e]
theorem rd_r {b : Nat → Nat} {m c p : Nat} {T : Nat → Nat} {r : (Nat → Nat) × Nat} (h : tK b m p ≠ 0) (e : edF b m (liF b m T p) = .inr r) : rdF b m (c + 1) T p = rdF b m c r.1 r.2 := by rw [rdF, if_neg h, e]
/-- fuel beyond the end changes nothing -/
theorem rd_c {b : Nat → Nat} {m : Nat} : ∀ c p T d, p ≤ m → BB T → FLn T → m - p ≤ c → m - p ≤ d → rdF b m c T p = rdF b m d T p := by
  intro c
  induction c with
  | zero =>
    intro p T d hp _ _ hc _
    have z : tK b m p = 0 := by
      obtain ⟨s1, s2⟩ := tS_b (b := b) hp
      unfold tK
      rw [if_pos (by omega)]
    rw [rd_z z, rd_z z]
  | succ c ih =>
    intro p T d hp hT hF hc hd
    by_cases z : tK b m p = 0
    · rw [rd_z z, rd_z z]
    · obtain ⟨g1, g2⟩ := tE_gt hp z
      obtain ⟨s1, s2⟩ := tS_b (b := b) hp
      obtain ⟨d, rfl⟩ : ∃ d', d = d' + 1 := ⟨d - 1, by omega⟩
      cases e : edF b m (liF b m T p) with
      | inl f => rw [rd_l z e, rd_l z e]
      | inr r =>
        obtain ⟨b1, b2, b3, b4, b5⟩ := BB_ln hp z hT hF (T' := r.1) (p' := r.2) e
        rw [rd_r z e, rd_r z e]
        exact ih _ _ _ b5 b1 b2 (by omega) (by omega)
theorem BB_rd {b : Nat → Nat} {m : Nat} : ∀ c p T T' p', p ≤ m → BB T → FLn T → T 0 ≤ p → rdF b m c T p = .inr (T', p') → BB T' ∧ T' 0 ≤ m := by
  intro c
  induction c with
  | zero =>
    intro p T T' p' hp hT _ h0 h
    have q1 : T = T' := congrArg Prod.fst (Sum.inr.inj h)
    rw [← q1]
    exact ⟨hT, by omega⟩
  | succ c ih =>
    intro p T T' p' hp hT hF h0 h
    by_cases z : tK b m p = 0
    · rw [rd_z z] at h
      have q1 : T = T' := congrArg Prod.fst (Sum.inr.inj h)
      rw [← q1]
      exact ⟨hT, by omega⟩
    · cases e : edF b m (liF b m T p) with
      | inl f => rw [rd_l z e] at h; exact nomatch h
      | inr r =>
        obtain ⟨b1, b2, b3, b4, b5⟩ := BB_ln hp z hT hF (T' := r.1) (p' := r.2) e
        rw [rd_r z e] at h
        exact ih _ _ _ _ b5 b1 b2 (by omega) h
/-- where the lines come to: the text is at its end, or it has a fault -/
def EDC (b : Nat → Nat) (m : Nat) (x : (Nat × Nat) ⊕ ((Nat → Nat) × Nat)) (μ : Mu) : Prop := (∀ f, x = .inl f → FTC μ f.1 f.2) ∧ ∀ r, x = .inr r → μ.1 12 2 = 0 ∧ μ.1 12 3 = -nI 1 ∧ μ.1 12 6 = nI m ∧ BC μ r.1
theorem readC {n : Nat} {μ : Mu} {v1 : Int32} {b : Nat → Nat} {m p : Nat} {T : Nat → Nat} {Q : Unit → Mu → Prop} (h : OKC μ b m p) (hT : BC μ T) (hB : BB T) (hF : FLn T) (h0 : T 0 ≤ p) (hn : 1000 < n) (hK : ∀ μ', EDC b m (rdF b m (m - p) T p) μ' → Ok (X4_read_72 n v1 μ') Q) : Ok (X4_read_40 n v1 (nI (T 0)) μ) Q := by
  unfold X4_read_40
  refine Ok_lp1 (fun c x μ' => (∃ f, rdF b m (m - p) T p = .inl f ∧ FTC μ' f.1 f.2) ∨ ∃ p1 T1, c = m - p1 ∧ p1 ≤ m ∧ x = nI (T1 0) ∧ T1 0 ≤ p1 ∧ BB T1 ∧ FLn T1 ∧ rdF b m (m - p1) T1 p1 = rdF b m (m - p) T p ∧ OKC μ' b m p1 ∧ BC μ' T1) ?_ (m - p) (by have := h.2.1.1; omega) (Or.inr ⟨p, T, rfl, h.1, rfl, h0, hB, hF, rfl, h, hT⟩)
  intro K c x μ1 hI hK2
  rcases hI with ⟨f, ef, f1⟩ | ⟨p1, T1, rfl, hp1, rfl, h01, hB1, hF1, er, o1, t1⟩
  · have g : Ok (X4_read_72 n v1 μ1) Q := hK μ1 ⟨fun f' e => by rw [ef] at e; rw [← Sum.inl.inj e]; exact f1, fun r e => by rw [ef] at e; exact nomatch e⟩
    unfold X4_read_40b
    rw [if_neg (FTC_nz f1)]
    exact if_ok (fun _ => g) (fun _ => g)
  have hm := o1.2.1.1
  have hk := tK_le (b := b) (m := m) (p := p1)
  have fin : tK b m p1 = 0 → Ok (X4_read_72 n v1 μ1) Q := fun z => hK μ1 (by
    rw [← er, rd_z z]
    obtain ⟨c1, c2⟩ := o1.2.2.2.1 (by omega)
    exact ⟨fun f e => (nomatch e), fun r e => by rw [← Sum.inr.inj e]; exact ⟨c1, c2, o1.2.1.2.1, t1⟩⟩)
  unfold X4_read_40b
  rw [o1.2.1.2.1, ifLe (by omega) (by omega)]
  by_cases z0 : m ≤ T1 0
  · rw [if_pos z0]
    refine fin ?_
    obtain ⟨s1, s2⟩ := tS_b (b := b) hp1
    unfold tK
    rw [if_pos (by omega)]
  · rw [if_neg z0]
    by_cases z4 : tK b m p1 = 4
    · rw [if_neg (FTC_nz (OKC_4 o1 z4))]
      obtain ⟨g1, g2⟩ := tE_gt hp1 (show tK b m p1 ≠ 0 by omega)
      obtain ⟨s1, s2⟩ := tS_b (b := b) hp1
      refine hK μ1 ?_
      obtain ⟨d, hd⟩ : ∃ d', m - p1 = d' + 1 := ⟨m - p1 - 1, by omega⟩
      rw [← er, hd, rd_l (by omega) (by rw [li_4 z4, ed_l])]
      exact ⟨fun f e => by rw [← Sum.inl.inj e]; exact OKC_4 o1 z4, fun r e => (nomatch e)⟩
    · rw [if_pos (o1.2.2.2.1 z4).1, o1.2.2.1.1]
      by_cases z : tK b m p1 = 0
      · rw [if_pos (show nI (tK b m p1) = 0 by rw [z]; rfl)]
        exact fin z
      · rw [if_neg (nI_ne0 (by omega) (by omega))]
        obtain ⟨g1, g2⟩ := tE_gt hp1 z
        obtain ⟨s1, s2⟩ := tS_b (b := b) hp1
        obtain ⟨d, hd⟩ : ∃ d', m - p1 = d' + 1 := ⟨m - p1 - 1, by omega⟩
        refine Ok_b (P := fun _ μ' => PSC b m (edF b m (liF b m T1 p1)) μ') (lineC o1 z4 t1 (by omega) hB1.1 hB1.2.1 hn (fun μ' q => endLC n μ' q hn)) ?_
        rintro _ μ2 q2
        dsimp only
        cases e : edF b m (liF b m T1 p1) with
        | inl f =>
          rw [e] at q2
          refine hK2 0 _ _ (by omega) (Or.inl ⟨f, ?_, q2.1 f rfl⟩)
          rw [← er, hd, rd_l z e]
        | inr r =>
          rw [e] at q2
          obtain ⟨b1, b2, b3, b4, b5⟩ := BB_ln hp1 z hB1 hF1 (T' := r.1) (p' := r.2) e
          obtain ⟨o2, t2⟩ := q2.2 r rfl
          rw [i_1, nI_add, ← b3]
          refine hK2 (m - r.2) _ _ (by omega) (Or.inr ⟨r.2, r.1, rfl, b5, rfl, by omega, b1, b2, ?_, o2, t2⟩)
          rw [← er, hd, rd_r z e]
          exact rd_c _ _ _ _ b5 b1 b2 (Nat.le_refl _) (by omega)
/-- the same of the reference -/
def DZ : List (Nat × Nat × Nat) := [(171, 171, 5), (171, 171, 7), (171, 171, 28), (171, 171, 29), (172, 172, 9999)]
def EDR (b : Nat → Nat) (m : Nat) (x : (Nat × Nat) ⊕ ((Nat → Nat) × Nat)) (μ : Mu) : Prop := (∀ f, x = .inl f → FTR μ f.1 f.2) ∧ ∀ r, x = .inr r → μ.1 171 13 = 0 ∧ BR μ r.1
theorem readR {n : Nat} {μ ν : Mu} {v1 v2 : Int32} {b : Nat → Nat} {m p : Nat} {T : Nat → Nat} {Q : Int32 → Mu → Prop} (h : OKR μ b m p) (hT : BR μ T) (hB : BB T) (hF : FLn T) (h0 : T 0 ≤ p) (hv : v2 = 0 ↔ T 0 ≠ 0) (hz : AG DZ ν μ) (hn : 1000 < n) (hK : ∀ μ', EDR b m (rdF b m (m - p) T p) μ' → AG DZ ν μ' → Ok (X12_board_103 n v1 μ') Q) : Ok (X12_board_79 n v1 v2 μ) Q := by
  unfold X12_board_79
  refine Ok_lp1 (fun c x μ' => AG DZ ν μ' ∧ ((∃ f, rdF b m (m - p) T p = .inl f ∧ FTR μ' f.1 f.2) ∨ ∃ p1 T1, c = m - p1 ∧ p1 ≤ m ∧ (x = 0 ↔ T1 0 ≠ 0) ∧ T1 0 ≤ p1 ∧ BB T1 ∧ FLn T1 ∧ rdF b m (m - p1) T1 p1 = rdF b m (m - p) T p ∧ OKR μ' b m p1 ∧ BR μ' T1)) ?_ (m - p) (by have := h.2.1.1; omega) ⟨hz, Or.inr ⟨p, T, rfl, h.1, hv, h0, hB, hF, rfl, h, hT⟩⟩
  rintro K c x μ1 ⟨hz1, hI⟩ hK2
  rcases hI with ⟨f, ef, f1⟩ | ⟨p1, T1, rfl, hp1, hx, h01, hB1, hF1, er, o1, t1⟩
  · have g : Ok (X12_board_103 n v1 μ1) Q := hK μ1 ⟨fun f' e => by rw [ef] at e; rw [← Sum.inl.inj e]; exact f1, fun r e => by rw [ef] at e; exact nomatch e⟩ hz1
    unfold X12_board_79b
    rw [if_neg (FTR_nz f1)]
    exact g
  have hm := o1.2.1.1
  have hk := tK_le (b := b) (m := m) (p := p1)
  unfold X12_board_79b
  rw [if_pos o1.2.2.2, o1.2.2.1.1]
  by_cases z : tK b m p1 = 0
  · rw [if_pos (show nI (tK b m p1) = 0 by rw [z]; rfl)]
    refine hK μ1 ?_ hz1
    rw [← er, rd_z z]
    exact ⟨fun f e => (nomatch e), fun r e => by rw [← Sum.inr.inj e]; exact ⟨o1.2.2.2, t1⟩⟩
  · rw [if_neg (nI_ne0 (by omega) (by omega))]
    obtain ⟨g1, g2⟩ := tE_gt hp1 z
    obtain ⟨s1, s2⟩ := tS_b (b := b) hp1
    obtain ⟨d, hd⟩ : ∃ d', m - p1 = d' + 1 := ⟨m - p1 - 1, by omega⟩
    refine Ok_b (Ok_f (P := fun _ μ' => PSR b m (edF b m (liF b m T1 p1)) μ') (R := fun μ' => AG DZ ν μ') (lineR o1 t1 hB1.1 hB1.2.1 hx hn (fun μ' q => endLR n μ' x q hn)) (fun r e => ?_)) ?_
    · exact hz1.tr (Fr_ag (fr_X12_readLine n x μ1 r e) (by decide +kernel))
    rintro _ μ2 ⟨q2, hz2⟩
    dsimp only
    cases e : edF b m (liF b m T1 p1) with
    | inl f =>
      rw [e] at q2
      refine hK2 0 _ _ (by omega) ⟨hz2, Or.inl ⟨f, ?_, q2.1 f rfl⟩⟩
      rw [← er, hd, rd_l z e]
    | inr r =>
      rw [e] at q2
      obtain ⟨b1, b2, b3, b4, b5⟩ := BB_ln hp1 z hB1 hF1 (T' := r.1) (p' := r.2) e
      obtain ⟨o2, t2⟩ := q2.2 r rfl
      refine hK2 (m - r.2) _ _ (by omega) ⟨hz2, Or.inr ⟨r.2, r.1, rfl, b5, ⟨fun _ => by omega, fun _ => rfl⟩, by omega, b1, b2, ?_, o2, t2⟩⟩
      rw [← er, hd, rd_r z e]
      exact rd_c _ _ _ _ b5 b1 b2 (Nat.le_refl _) (by omega)
