/-! blames and numbers -/
def blF (b : Nat → Nat) (m p c : Nat) : Nat := if tK b m p = 4 then 1 else c
/-- the class at the token p, not yet faulted but by the token itself -/
def OKC (μ : Mu) (b : Nat → Nat) (m p : Nat) : Prop := p ≤ m ∧ TXC μ b m ∧ TKC μ b m p ∧ (tK b m p ≠ 4 → μ.1 12 2 = 0 ∧ μ.1 12 3 = -nI 1) ∧ (tK b m p = 4 → μ.1 12 2 = nI 1 ∧ μ.1 12 3 = nI (tS b m p))
def FTC (μ : Mu) (c pl : Nat) : Prop := μ.1 12 2 = nI c ∧ μ.1 12 3 = nI pl ∧ 0 < c ∧ c < 6
def OKR (μ : Mu) (b : Nat → Nat) (m p : Nat) : Prop := p ≤ m ∧ TXR μ b m ∧ TKR μ b m p ∧ μ.1 171 13 = 0
def FTR (μ : Mu) (c pl : Nat) : Prop := μ.1 171 13 = nI c ∧ μ.1 171 14 = nI pl ∧ 0 < c ∧ c < 6
/-- what the reference's reading may change -/
def KY2 (μ μ' : Mu) : Prop := (∀ o, o ≠ 171 → μ'.1 o = μ.1 o) ∧ μ'.2 = μ.2 ∧ ∀ k, (k < 9 ∨ 14 < k) → μ'.1 171 k = μ.1 171 k
theorem KY2.rf {μ : Mu} : KY2 μ μ := ⟨fun _ _ => rfl, rfl, fun _ _ => rfl⟩
theorem KY2.tr {μ μ1 μ2 : Mu} (h : KY2 μ μ1) (g : KY2 μ1 μ2) : KY2 μ μ2 := ⟨fun o q => by rw [g.1 o q, h.1 o q], by rw [g.2.1, h.2.1], fun k q => by rw [g.2.2 k q, h.2.2 k q]⟩
theorem KX2.ky {μ μ1 : Mu} (h : KX2 μ μ1) : KY2 μ μ1 := ⟨h.1, h.2.1, fun k q => h.2.2 k (by omega)⟩
theorem FTC_nz {μ : Mu} {c pl : Nat} (h : FTC μ c pl) : ¬ μ.1 12 2 = 0 := by
  rw [h.1]
  exact nI_ne0 h.2.2.1 (by have := h.2.2.2; omega)
theorem FTR_nz {μ : Mu} {c pl : Nat} (h : FTR μ c pl) : ¬ μ.1 171 13 = 0 := by
  rw [h.1]
  exact nI_ne0 h.2.2.1 (by have := h.2.2.2; omega)
theorem OKC_4 {μ : Mu} {b : Nat → Nat} {m p : Nat} (h : OKC μ b m p) (h4 : tK b m p = 4) : FTC μ 1 (tS b m p) := ⟨(h.2.2.2.2 h4).1, (h.2.2.2.2 h4).2, by decide, by decide⟩
theorem refuse_f {n : Nat} {μ : Mu} {v : Int32} {c pl : Nat} (h : FTC μ c pl) : X4_refuse n v μ = some ((), μ) := by
  unfold X4_refuse X4_refuse_20
  rw [if_neg (FTC_nz h)]
theorem refuse_s (n : Nat) (μ : Mu) {b : Nat → Nat} {m p c : Nat} (h : OKC μ b m p) (hc : 0 < c) (hc6 : c < 6) : Ok (X4_refuse n (nI c) μ) (fun _ μ' => KC μ μ' ∧ FTC μ' (blF b m p c) (tS b m p)) := by
  unfold blF
  by_cases z : tK b m p = 4
  · rw [if_pos z, refuse_f (OKC_4 h z)]
    exact Ok_r ⟨KC.rf, OKC_4 h z⟩
  · unfold X4_refuse X4_refuse_20
    rw [if_neg z, if_pos (h.2.2.2.1 z).1, si_c (by decide), h.2.2.1.2.1]
    exact Ok_r ⟨(KC.rf.s (by decide) (by decide)).s (by decide) (by decide), by rw [si_c (by decide), si_a], si_a, hc, hc6⟩
theorem blames_f {n : Nat} {μ : Mu} {v : Int32} {c pl : Nat} (h : FTR μ c pl) : X12_blames n v μ = some ((), μ) := by
  unfold X12_blames
  rw [if_neg (FTR_nz h)]
theorem KY2.s {μ μ1 : Mu} (h : KY2 μ μ1) {k : Nat} {v : Int32} (h9 : 9 ≤ k) (h14 : k ≤ 14) : KY2 μ (si μ1 171 k v) := ⟨fun o q => by rw [si_o q]; exact h.1 o q, h.2.1, fun j q => by rw [si_c (by omega)]; exact h.2.2 j q⟩
theorem blames_s (n : Nat) (μ : Mu) {b : Nat → Nat} {m p c : Nat} (h : OKR μ b m p) (hc : 0 < c) (hc6 : c < 6) : Ok (X12_blames n (nI c) μ) (fun _ μ' => KY2 μ μ' ∧ FTR μ' (blF b m p c) (tS b m p)) := by
  have hk := tK_le (b := b) (m := m) (p := p)
  unfold X12_blames X12_blames_22 blF
  rw [if_pos h.2.2.2, h.2.2.1.1, i_4, ifEq (by omega) (by decide)]
  by_cases z : tK b m p = 4
  · rw [if_pos z, if_pos z, si_c (by decide), h.2.2.1.2.1]
    exact Ok_r ⟨(KY2.rf.s (by decide) (by decide)).s (by decide) (by decide), by rw [si_c (by decide), si_a]; rfl, si_a, by decide, by decide⟩
  · rw [if_neg z, if_neg z, si_c (by decide), h.2.2.1.2.1]
    exact Ok_r ⟨(KY2.rf.s (by decide) (by decide)).s (by decide) (by decide), by rw [si_c (by decide), si_a], si_a, hc, hc6⟩
/-- the class steps over the token p -/
theorem overC_s (n : Nat) (μ : Mu) {b : Nat → Nat} {m p : Nat} (h : OKC μ b m p) (h4 : tK b m p ≠ 4) (hn : 1000 < n) : Ok (X4_step n μ) (fun _ μ' => KC μ μ' ∧ OKC μ' b m (tE b m p)) := by
  obtain ⟨hp, ht, hk, h0, _⟩ := h
  obtain ⟨e1, e2⟩ := tE_b (b := b) hp
  refine Ok_m (stepC_s n μ ht e2 (hk.2.2.1 h4) (h0 h4).1 hn) ?_
  rintro _ μ' ⟨k, t, z1, z2⟩
  exact ⟨k, e2, TXC_k ht k, t, fun q => ⟨(z1 q).1, by rw [(z1 q).2]; exact (h0 h4).2⟩, z2⟩
theorem TXR_y {μ μ' : Mu} {b : Nat → Nat} {m : Nat} (h : TXR μ b m) (k : KY2 μ μ') : TXR μ' b m := ⟨h.1, by rw [k.2.2 8 (by omega)]; exact h.2.1, fun i hi => by rw [k.1 177 (by decide)]; exact h.2.2 i hi⟩
theorem overR_s (n : Nat) (μ : Mu) {b : Nat → Nat} {m p : Nat} (h : OKR μ b m p) (h4 : tK b m p ≠ 4) (hn : 1000 < n) : Ok (X12_reads n μ) (fun _ μ' => KY2 μ μ' ∧ OKR μ' b m (tE b m p)) := by
  obtain ⟨hp, ht, hk, h0⟩ := h
  obtain ⟨e1, e2⟩ := tE_b (b := b) hp
  refine Ok_m (readsR_s n μ ht e2 (hk.2.2.1 h4) hn) ?_
  rintro _ μ' ⟨k, t⟩
  exact ⟨k.ky, e2, TXR_k ht k, t, by rw [k.2.2 13 (by omega)]; exact h0⟩
/-- a number between a and c at the token p: its value and what comes next, or a fault -/
def nuF (b : Nat → Nat) (m p a c : Nat) : (Nat × Nat) ⊕ (Nat × Nat) := if tK b m p = 2 then (if a ≤ tV b m p ∧ tV b m p ≤ c then .inr (tV b m p, tE b m p) else .inl (3, tS b m p)) else .inl (blF b m p 2, tS b m p)
theorem tV_lt {b : Nat → Nat} {m p : Nat} (hp : p ≤ m) (h2 : tK b m p = 2) : tV b m p < 1000 := by
  obtain ⟨a1, a2⟩ := tS_b (b := b) hp
  obtain ⟨d1, d2, d3, _⟩ := sc_e (g := fun x => isD (b x)) a2
  have h3 : tD b m p - tS b m p ≤ 3 := by
    unfold tK at h2
    by_cases c : m ≤ tS b m p
    · rw [if_pos c] at h2; omega
    · rw [if_neg c] at h2
      by_cases c1 : isD (b (tS b m p)) = true
      · rw [if_pos c1] at h2
        by_cases c2 : tD b m p - tS b m p ≤ 3
        · exact c2
        · rw [if_neg c2] at h2; omega
      · rw [if_neg c1] at h2
        repeat' split at h2
        all_goals omega
  have h4 := vl_lt (b := b) (s := tS b m p) (tD b m p - tS b m p) (fun x hx => d3 _ (by omega) (by unfold tD at hx; omega))
  have h5 : 10 ^ (tD b m p - tS b m p) ≤ 10 ^ 3 := Nat.pow_le_pow_right (by decide) h3
  unfold tV
  omega
theorem numbC_f {n : Nat} {μ : Mu} {x y : Int32} {c pl : Nat} (h : FTC μ c pl) : ∃ v, X4_readNumber n x y μ = some (v, μ) := by
  have e : ∃ v, X4_checkedNumber n x y μ = some (v, μ) := by
    unfold X4_checkedNumber X4_checkedNumber_31
    rw [refuse_f h, refuse_f h]
    by_cases z : μ.1 12 7 = 2
    · rw [if_pos z]
      by_cases z1 : μ.1 12 10 < x
      · rw [if_pos z1]; exact ⟨_, rfl⟩
      · rw [if_neg z1]
        by_cases z2 : μ.1 12 10 ≤ y
        · rw [if_pos z2]; exact ⟨_, rfl⟩
        · rw [if_neg z2]; exact ⟨_, rfl⟩
    · rw [if_neg z]; exact ⟨_, rfl⟩
  obtain ⟨v, e⟩ := e
  refine ⟨v, ?_⟩
  unfold X4_readNumber X4_readNumber_18
  rw [bS e]
  dsimp only
  rw [if_neg (FTC_nz h)]
/-- a checked number: in the class, nothing is stepped over -/
theorem chkC_s (n : Nat) (μ : Mu) {b : Nat → Nat} {m p a c : Nat} (h : OKC μ b m p) (ha : a < 2 ^ 31) (hc : c < 2 ^ 31) : Ok (X4_checkedNumber n (nI a) (nI c) μ) (fun v μ' => KC μ μ' ∧ (∀ f, nuF b m p a c = .inl f → FTC μ' f.1 f.2) ∧ (∀ r, nuF b m p a c = .inr r → v = nI r.1 ∧ μ' = μ ∧ tK b m p = 2 ∧ r = (tV b m p, tE b m p) ∧ a ≤ r.1 ∧ r.1 ≤ c)) := by
  have hk := tK_le (b := b) (m := m) (p := p)
  unfold X4_checkedNumber X4_checkedNumber_31 nuF
  rw [h.2.2.1.1, i_2, i_3, ifEq (by omega) (by decide)]
  by_cases z : tK b m p = 2
  · have tl := tV_lt h.1 z
    rw [if_pos z, if_pos z, h.2.2.1.2.2.2 z, ifLt (by omega) ha, ifLe (by omega) hc]
    have bad : ¬ (a ≤ tV b m p ∧ tV b m p ≤ c) → Ok ((X4_refuse n (nI 3) μ).bind fun r33 => some (nI a, r33.2)) (fun v μ' => KC μ μ' ∧ (∀ f, (if a ≤ tV b m p ∧ tV b m p ≤ c then Sum.inr (tV b m p, tE b m p) else .inl (3, tS b m p) : (Nat × Nat) ⊕ (Nat × Nat)) = .inl f → FTC μ' f.1 f.2) ∧ (∀ r, (if a ≤ tV b m p ∧ tV b m p ≤ c then Sum.inr (tV b m p, tE b m p) else .inl (3, tS b m p) : (Nat × Nat) ⊕ (Nat × Nat)) = .inr r → v = nI r.1 ∧ μ' = μ ∧ tK b m p = 2 ∧ r = (tV b m p, tE b m p) ∧ a ≤ r.1 ∧ r.1 ≤ c)) := by
      intro nb
      refine Ok_b (refuse_s n μ h (c := 3) (by decide) (by decide)) ?_
      rintro _ μ1 ⟨k1, f1⟩
      rw [if_neg nb]
      refine Ok_r ⟨k1, fun f e => ?_, fun r e => (nomatch e)⟩
      rw [← Sum.inl.inj e]
      have : blF b m p 3 = 3 := if_neg (by omega)
      rw [this] at f1
      exact f1
    by_cases z1 : tV b m p < a
    · rw [if_pos z1]; exact bad (by omega)
    · rw [if_neg z1]
      by_cases z2 : tV b m p ≤ c
      · rw [if_pos z2, if_pos ⟨by omega, z2⟩]
        refine Ok_r ⟨KC.rf, fun f e => (nomatch e), fun r e => ?_⟩
        rw [← Sum.inr.inj e]
        exact ⟨rfl, rfl, z, rfl, by show a ≤ tV b m p; omega, z2⟩
      · rw [if_neg z2]; exact bad (by omega)
  · rw [if_neg z, if_neg z]
    refine Ok_b (refuse_s n μ h (c := 2) (by decide) (by decide)) ?_
    rintro _ μ1 ⟨k1, f1⟩
    refine Ok_r ⟨k1, fun f e => ?_, fun r e => (nomatch e)⟩
    rw [← Sum.inl.inj e]
    exact f1
theorem numbC_s (n : Nat) (μ : Mu) {b : Nat → Nat} {m p a c : Nat} (h : OKC μ b m p) (ha : a < 2 ^ 31) (hc : c < 2 ^ 31) (hn : 1000 < n) : Ok (X4_readNumber n (nI a) (nI c) μ) (fun v μ' => KC μ μ' ∧ (∀ f, nuF b m p a c = .inl f → FTC μ' f.1 f.2) ∧ (∀ r, nuF b m p a c = .inr r → v = nI r.1 ∧ OKC μ' b m r.2 ∧ a ≤ r.1 ∧ r.1 ≤ c)) := by
  unfold X4_readNumber X4_readNumber_18
  refine Ok_b (chkC_s n μ h ha hc) ?_
  rintro v μ1 ⟨k1, f1, g1⟩
  dsimp only
  cases e : nuF b m p a c with
  | inl f =>
    have := f1 f e
    rw [if_neg (FTC_nz this)]
    exact Ok_r ⟨k1, fun f' q => by rw [← Sum.inl.inj q]; exact this, fun r q => (nomatch q)⟩
  | inr r =>
    obtain ⟨rfl, rfl, t2, er, b1, b2⟩ := g1 r e
    rw [if_pos (h.2.2.2.1 (by omega)).1]
    refine Ok_b (overC_s n μ1 h (by omega) hn) ?_
    rintro _ μ2 ⟨k2, o2⟩
    refine Ok_r ⟨k2, fun f q => (nomatch q), fun r' q => ?_⟩
    rw [← Sum.inr.inj q, er]
    rw [er] at b1 b2
    exact ⟨rfl, o2, b1, b2⟩
