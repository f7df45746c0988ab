/-! lines of the class -/
theorem oneC {n : Nat} {μ : Mu} {b : Nat → Nat} {m p a c o k t : Nat} {T : Nat → Nat} {K : Mu → Option (Unit × Mu)} {Q : Unit → Mu → Prop} (h : OKC μ b m p) (h4 : tK b m p ≠ 4) (hT : BC μ T) (ha : a < 2 ^ 31) (hc : c < 2 ^ 31) (ho : o ≠ 12) (ho2 : o ≠ 14) (hn : 1000 < n) (hset : ∀ ν v, BC ν T → a ≤ v → v ≤ c → BC (si ν o k (nI v)) (ups T t v)) (hK : ∀ μ', PSC b m (mpN (nuF b m (tE b m p) a c) (fun v => ups T t v)) μ' → Ok (K μ') Q) : Ok ((X4_step n μ).bind fun r => (X4_readNumber n (nI a) (nI c) r.2).bind fun q => K (si q.2 o k q.1)) Q := by
  refine Ok_b (overC_s n μ h h4 hn) ?_
  rintro _ μ1 ⟨k1, o1⟩
  dsimp only
  refine Ok_b (numbC_s n μ1 o1 ha hc hn) ?_
  rintro v μ2 ⟨k2, f2, g2⟩
  dsimp only
  refine hK _ ?_
  cases e : nuF b m (tE b m p) a c with
  | inl f =>
    rw [mp_l rfl]
    exact psc_l (FTC_o (f2 f e) (by rw [si_o (fun q => ho q.symm)]))
  | inr r =>
    obtain ⟨rfl, o2, b1, b2⟩ := g2 r e
    rw [mp_r rfl]
    exact psc_r (OKC_o o2 (by rw [si_o (fun q => ho q.symm)]) (by rw [si_o (fun q => ho2 q.symm)])) (hset _ _ (BC_kc (BC_kc hT k1) k2) b1 b2)
def stF (b : Nat → Nat) (m : Nat) (T : Nat → Nat) (p : Nat) : (Nat × Nat) ⊕ ((Nat → Nat) × Nat) := match nuF b m p 0 99 with
  | .inl f => .inl f
  | .inr r => mpN (nuF b m r.2 0 99) (fun v => ups (ups T 11 r.1) 12 v)
theorem st_l {b : Nat → Nat} {m p : Nat} {T : Nat → Nat} {f : Nat × Nat} (h : nuF b m p 0 99 = .inl f) : stF b m T p = .inl f := by unfold stF; rw [h]
theorem st_r {b : Nat → Nat} {m p : Nat} {T : Nat → Nat} {r : Nat × Nat} (h : nuF b m p 0 99 = .inr r) : stF b m T p = mpN (nuF b m r.2 0 99) (fun v => ups (ups T 11 r.1) 12 v) := by unfold stF; rw [h]
theorem stoC {n : Nat} {μ : Mu} {b : Nat → Nat} {m p : Nat} {T : Nat → Nat} {K : Mu → Option (Unit × Mu)} {Q : Unit → Mu → Prop} (h : OKC μ b m p) (h4 : tK b m p ≠ 4) (hT : BC μ T) (hn : 1000 < n) (hK : ∀ μ', PSC b m (stF b m T (tE b m p)) μ' → Ok (K μ') Q) : Ok ((X4_step n μ).bind fun r58 => (X4_readNumber n (0 : Int32) (99 : Int32) r58.2).bind fun r74 => (X4_readNumber n (0 : Int32) (99 : Int32) (si r74.2 150 12 r74.1)).bind fun r91 => K (si r91.2 150 13 r91.1)) Q := by
  refine Ok_b (overC_s n μ h h4 hn) ?_
  rintro _ μ1 ⟨k1, o1⟩
  dsimp only
  rw [i_99, show (0 : Int32) = nI 0 from rfl]
  refine Ok_b (numbC_s n μ1 o1 (a := 0) (c := 99) (by decide) (by decide) hn) ?_
  rintro v μ2 ⟨k2, f2, g2⟩
  dsimp only
  cases e : nuF b m (tE b m p) 0 99 with
  | inl f =>
    have f3 : FTC (si μ2 150 12 v) f.1 f.2 := FTC_o (f2 f e) (by rw [si_o (by decide)])
    obtain ⟨w, ew⟩ := numbC_f (n := n) (x := nI 0) (y := nI 99) f3
    rw [bS ew]
    dsimp only
    refine hK _ ?_
    rw [st_l e]
    exact psc_l (FTC_o f3 (by rw [si_o (by decide)]))
  | inr r =>
    obtain ⟨rfl, o2, b1, b2⟩ := g2 r e
    have o3 : OKC (si μ2 150 12 (nI r.1)) b m r.2 := OKC_o o2 (by rw [si_o (by decide)]) (by rw [si_o (by decide)])
    have t3 : BC (si μ2 150 12 (nI r.1)) (ups T 11 r.1) := BC_store (Or.inl rfl) (BC_kc (BC_kc hT k1) k2)
    refine Ok_b (numbC_s n _ o3 (a := 0) (c := 99) (by decide) (by decide) hn) ?_
    rintro w μ4 ⟨k4, f4, g4⟩
    dsimp only
    refine hK _ ?_
    rw [st_r e]
    cases e2 : nuF b m r.2 0 99 with
    | inl f =>
      rw [mp_l rfl]
      exact psc_l (FTC_o (f4 f e2) (by rw [si_o (by decide)]))
    | inr r2 =>
      obtain ⟨rfl, o4, c1, c2⟩ := g4 r2 e2
      rw [mp_r rfl]
      exact psc_r (OKC_o o4 (by rw [si_o (by decide)]) (by rw [si_o (by decide)])) (BC_store (Or.inr rfl) (BC_kc t3 k4))
theorem shl_v : ∀ v, v < 12 → (1 : Int32) <<< (nI v &&& 31) = nI (2 ^ v) := by decide
theorem lacC {n : Nat} {μ : Mu} {b : Nat → Nat} {m p : Nat} {T : Nat → Nat} {K : Mu → Option (Unit × Mu)} {Q : Unit → Mu → Prop} (h : OKC μ b m p) (h4 : tK b m p ≠ 4) (hT : BC μ T) (h1 : 1 ≤ T 1) (h6 : T 1 ≤ 6) (hn : 1000 < n) (hK : ∀ μ', PSC b m (mpN (nuF b m (tE b m p) 0 (2 * T 1 - 1)) (fun v => ups T 3 (T 3 ||| 2 ^ v))) μ' → Ok (K μ') Q) : Ok ((X4_step n μ).bind fun r108 => (X4_readNumber n (0 : Int32) (((2 : Int32) * (r108.2.1 13 1)) - (1 : Int32)) r108.2).bind fun r133 => K (si r133.2 13 2 ((r108.2.1 13 2) ||| ((1 : Int32) <<< (r133.1 &&& 31))))) Q := by
  refine Ok_b (overC_s n μ h h4 hn) ?_
  rintro _ μ1 ⟨k1, o1⟩
  dsimp only
  have t1 := BC_kc hT k1
  have e2 : (2 : Int32) * nI (T 1) - (1 : Int32) = nI (2 * T 1 - 1) := by rw [i_2, pk_mul, i_1, pk_sub (by omega)]
  rw [t1.1.2.1, t1.1.2.2.1, e2, show (0 : Int32) = nI 0 from rfl]
  refine Ok_b (numbC_s n μ1 o1 (a := 0) (c := 2 * T 1 - 1) (by decide) (by omega) hn) ?_
  rintro v μ2 ⟨k2, f2, g2⟩
  dsimp only
  refine hK _ ?_
  cases e : nuF b m (tE b m p) 0 (2 * T 1 - 1) with
  | inl f =>
    rw [mp_l rfl]
    exact psc_l (FTC_o (f2 f e) (by rw [si_o (by decide)]))
  | inr r =>
    obtain ⟨rfl, o2, b1, b2⟩ := g2 r e
    rw [mp_r rfl, shl_v r.1 (by omega), fa_or]
    exact psc_r (OKC_o o2 (by rw [si_o (by decide)]) (by rw [si_o (by decide)])) (BC_r3 (BC_kc t1 k2))
/-- a word alone -/
theorem flgC {n : Nat} {μ : Mu} {b : Nat → Nat} {m p k t : Nat} {T : Nat → Nat} (h : OKC μ b m p) (h4 : tK b m p ≠ 4) (hT : BC (si μ 13 k (nI 1)) (ups T t 1)) (hn : 1000 < n) : Ok (X4_readFlag_86 n (si μ 13 k (1 : Int32))) (fun _ μ' => PSC b m (.inr (ups T t 1, tE b m p)) μ') := by
  unfold X4_readFlag_86
  refine Ok_b (overC_s n (si μ 13 k (1 : Int32)) (OKC_o h (by rw [si_o (by decide)]) (by rw [si_o (by decide)])) h4 hn) ?_
  rintro _ μ1 ⟨k1, o1⟩
  exact Ok_r (psc_r o1 (BC_kc hT k1))
