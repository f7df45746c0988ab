/-! a line of the reference, but for its end -/
theorem oneR {n : Nat} {μ : Mu} {b : Nat → Nat} {m p a c t : Nat} {T : Nat → Nat} {K : Mu → Option (Unit × Mu)} {Q : Unit → Mu → Prop} (h : OKR μ b m p) (hT : BR μ T) (ha : a < 2 ^ 31) (hc : c < 2 ^ 31) (hn : 1000 < n) (hK : ∀ μ', PSR b m (mpN (nuF b m p a c) (fun v => ups T t v)) μ' → Ok (K μ') Q) : Ok ((X12_number n (nI a) (nI c) μ).bind fun q => K (si q.2 173 t q.1)) Q := by
  refine Ok_b (numbR_s n μ h ha hc hn) ?_
  rintro v μ2 ⟨k2, f2, g2⟩
  dsimp only
  refine hK _ ?_
  cases e : nuF b m p a c with
  | inl f =>
    rw [mp_l rfl]
    exact psr_l (FTR_o (f2 f e) (by rw [si_o (by decide)]))
  | inr r =>
    obtain ⟨rfl, o2, b1, b2⟩ := g2 r e
    rw [mp_r rfl]
    exact psr_r (OKR_o o2 (by rw [si_o (by decide)]) (by rw [si_o (by decide)])) (BR_set (BR_ky hT k2))
theorem stoR (n : Nat) (μ : Mu) {b : Nat → Nat} {m p : Nat} {T : Nat → Nat} (h : OKR μ b m p) (hT : BR μ T) (hn : 1000 < n) : Ok (X12_readStored n μ) (fun _ μ' => PSR b m (stF b m T p) μ') := by
  unfold X12_readStored
  rw [i_99, show (0 : Int32) = nI 0 from rfl]
  refine Ok_b (numbR_s n μ h (a := 0) (c := 99) (by decide) (by decide) hn) ?_
  rintro v μ2 ⟨k2, f2, g2⟩
  dsimp only
  cases e : nuF b m p 0 99 with
  | inl f =>
    have f3 := f2 f e
    rw [bS (numbR_f f3), st_l e]
    exact Ok_r (psr_l (FTR_o f3 (by rw [si_o (by decide), si_o (by decide)])))
  | inr r =>
    obtain ⟨rfl, o2, b1, b2⟩ := g2 r e
    refine Ok_b (numbR_s n μ2 o2 (a := 0) (c := 99) (by decide) (by decide) hn) ?_
    rintro w μ4 ⟨k4, f4, g4⟩
    rw [st_r e]
    cases e2 : nuF b m r.2 0 99 with
    | inl f =>
      rw [mp_l rfl]
      exact Ok_r (psr_l (FTR_o (f4 f e2) (by rw [si_o (by decide), si_o (by decide)])))
    | inr r2 =>
      obtain ⟨rfl, o4, c1, c2⟩ := g4 r2 e2
      rw [mp_r rfl]
      exact Ok_r (psr_r (OKR_o o4 (by rw [si_o (by decide), si_o (by decide)]) (by rw [si_o (by decide), si_o (by decide)])) (BR_set (BR_set (BR_ky (BR_ky hT k2) k4))))
theorem lacR {n : Nat} {μ : Mu} {b : Nat → Nat} {m p : Nat} {T : Nat → Nat} {K : Mu → Option (Unit × Mu)} {Q : Unit → Mu → Prop} (h : OKR μ b m p) (hT : BR μ T) (h1 : 1 ≤ T 1) (h6 : T 1 ≤ 6) (hn : 1000 < n) (hK : ∀ μ', PSR b m (mpN (nuF b m p 0 (2 * T 1 - 1)) (fun v => ups T 3 (T 3 ||| 2 ^ v))) μ' → Ok (K μ') Q) : Ok ((X12_number n (0 : Int32) (((2 : Int32) * (μ.1 173 1)) - (1 : Int32)) μ).bind fun r83 => (X12_lacks n r83.1 r83.2).bind fun r86 => K r86.2) Q := by
  have e2 : (2 : Int32) * nI (T 1) - (1 : Int32) = nI (2 * T 1 - 1) := by rw [i_2, pk_mul, i_1, pk_sub (by omega)]
  rw [hT 1 (by decide), e2, show (0 : Int32) = nI 0 from rfl]
  refine Ok_b (numbR_s n μ h (a := 0) (c := 2 * T 1 - 1) (by decide) (by omega) hn) ?_
  rintro v μ2 ⟨k2, f2, g2⟩
  dsimp only
  unfold X12_lacks X12_lacks_19
  cases e : nuF b m p 0 (2 * T 1 - 1) with
  | inl f =>
    have f3 := f2 f e
    rw [if_neg (FTR_nz f3)]
    exact hK μ2 (by rw [mp_l e]; exact psr_l f3)
  | inr r =>
    obtain ⟨rfl, o2, b1, b2⟩ := g2 r e
    have t2 := BR_ky hT k2
    rw [if_pos o2.2.2.2, t2 3 (by decide), shl_v r.1 (by omega), fa_or]
    exact hK _ (by rw [mp_r e]; exact psr_r (OKR_o o2 (by rw [si_o (by decide)]) (by rw [si_o (by decide)])) (BR_set t2))
theorem lineR29 {n : Nat} {μ : Mu} {v1 : Int32} {b : Nat → Nat} {m p : Nat} {T : Nat → Nat} {Q : Unit → Mu → Prop} (h : OKR μ b m p) (hT : BR μ T) (h1 : 1 ≤ T 1) (h6 : T 1 ≤ 6) (hp : isW b m p 1 = false ∨ T 0 ≠ 0) (hn : 1000 < n) (hK : ∀ μ', PSR b m (liF b m T p) μ' → Ok (X12_readLine_241 n v1 μ') Q) : Ok (X12_readLine_29 n v1 μ) Q := by
  have q2 : isW b m p 33 = isW b m p 2 := isW_eq (by decide +kernel)
  have q3 : isW b m p 40 = isW b m p 3 := isW_eq (by decide +kernel)
  have q8 : isW b m p 34 = isW b m p 8 := isW_eq (by decide +kernel)
  have q9 : isW b m p 35 = isW b m p 9 := isW_eq (by decide +kernel)
  have q10 : isW b m p 36 = isW b m p 10 := isW_eq (by decide +kernel)
  have q11 : isW b m p 39 = isW b m p 11 := isW_eq (by decide +kernel)
  have q12 : isW b m p 37 = isW b m p 12 := isW_eq (by decide +kernel)
  have q13 : isW b m p 38 = isW b m p 13 := isW_eq (by decide +kernel)
  have q14 : isW b m p 45 = isW b m p 14 := isW_eq (by decide +kernel)
  have q15 : isW b m p 46 = isW b m p 15 := isW_eq (by decide +kernel)
  unfold X12_readLine_29
  refine Ok_b (tookR_s n μ (i := 33) h (by decide) hn) ?_
  rintro _ μ2 ⟨rfl, z2, y2⟩
  dsimp only
  rw [q2]
  rw [q2] at z2 y2
  cases e2 : isW b m p 2 with
  | true =>
    rw [if_neg (show ¬ b2i true = 0 by decide)]
    have fx : ∀ x, sNq 2 x = true → isW b m p x = false := fun x q => isW_x q e2
    obtain ⟨kk, oo⟩ := y2 e2
    have tt := BR_ky hT kk
    exact Ok_b (layR_s n _ oo tt h6 hn) (fun _ μ' q => hK μ' (by rw [li_2 (fx 1 (by decide +kernel)) e2]; exact q))
  | false =>
    rw [if_pos (show b2i false = 0 from rfl), z2 e2]
    refine Ok_b (tookR_s n μ (i := 34) h (by decide) hn) ?_
    rintro _ μ8 ⟨rfl, z8, y8⟩
    dsimp only
    rw [q8]
    rw [q8] at z8 y8
    cases e8 : isW b m p 8 with
    | true =>
      rw [if_neg (show ¬ b2i true = 0 by decide)]
      have fx : ∀ x, sNq 8 x = true → isW b m p x = false := fun x q => isW_x q e8
      obtain ⟨kk, oo⟩ := y8 e8
      have tt := BR_ky hT kk
      exact Ok_b (stoR n _ oo tt hn) (fun _ μ' q => hK μ' (by rw [li_8 (fx 1 (by decide +kernel)) (fx 2 (by decide +kernel)) (fx 3 (by decide +kernel)) e8]; exact q))
    | false =>
      rw [if_pos (show b2i false = 0 from rfl), z8 e8]
      refine Ok_b (tookR_s n μ (i := 35) h (by decide) hn) ?_
      rintro _ μ9 ⟨rfl, z9, y9⟩
      dsimp only
      rw [q9]
      rw [q9] at z9 y9
      cases e9 : isW b m p 9 with
      | true =>
        rw [if_neg (show ¬ b2i true = 0 by decide)]
        have fx : ∀ x, sNq 9 x = true → isW b m p x = false := fun x q => isW_x q e9
        obtain ⟨kk, oo⟩ := y9 e9
        have tt := BR_ky hT kk
        exact lacR (K := fun μ' => X12_readLine_241 n v1 μ') oo tt h1 h6 hn (fun μ' q => hK μ' (by rw [li_9 (fx 1 (by decide +kernel)) (fx 2 (by decide +kernel)) (fx 3 (by decide +kernel)) (fx 8 (by decide +kernel)) e9]; exact q))
      | false =>
        rw [if_pos (show b2i false = 0 from rfl), z9 e9]
        refine Ok_b (tookR_s n μ (i := 36) h (by decide) hn) ?_
        rintro _ μ10 ⟨rfl, z10, y10⟩
        dsimp only
        rw [q10]
        rw [q10] at z10 y10
        cases e10 : isW b m p 10 with
        | true =>
          rw [if_neg (show ¬ b2i true = 0 by decide)]
          have fx : ∀ x, sNq 10 x = true → isW b m p x = false := fun x q => isW_x q e10
          obtain ⟨kk, oo⟩ := y10 e10
          have tt := BR_ky hT kk
          exact oneR (a := 0) (c := 1) (t := 2) (K := fun μ' => X12_readLine_241 n v1 μ') oo tt (by decide) (by decide) hn (fun μ' q => hK μ' (by rw [li_10 (fx 1 (by decide +kernel)) (fx 2 (by decide +kernel)) (fx 3 (by decide +kernel)) (fx 8 (by decide +kernel)) (fx 9 (by decide +kernel)) e10]; exact q))
        | false =>
          rw [if_pos (show b2i false = 0 from rfl), z10 e10]
          refine Ok_b (tookR_s n μ (i := 37) h (by decide) hn) ?_
          rintro _ μ12 ⟨rfl, z12, y12⟩
          dsimp only
          rw [q12]
          rw [q12] at z12 y12
          cases e12 : isW b m p 12 with
          | true =>
            rw [if_neg (show ¬ b2i true = 0 by decide)]
            have fx : ∀ x, sNq 12 x = true → isW b m p x = false := fun x q => isW_x q e12
            obtain ⟨kk, oo⟩ := y12 e12
            have tt := BR_ky hT kk
            exact hK _ (by rw [li_12 (fx 1 (by decide +kernel)) (fx 2 (by decide +kernel)) (fx 3 (by decide +kernel)) (fx 8 (by decide +kernel)) (fx 9 (by decide +kernel)) (fx 10 (by decide +kernel)) (fx 11 (by decide +kernel)) e12]; exact psr_r (OKR_o oo (by rw [si_o (by decide)]) (by rw [si_o (by decide)])) (BR_set (v := 1) tt))
          | false =>
            rw [if_pos (show b2i false = 0 from rfl), z12 e12]
            refine Ok_b (tookR_s n μ (i := 38) h (by decide) hn) ?_
            rintro _ μ13 ⟨rfl, z13, y13⟩
            dsimp only
            rw [q13]
            rw [q13] at z13 y13
            cases e13 : isW b m p 13 with
            | true =>
              rw [if_neg (show ¬ b2i true = 0 by decide)]
              have fx : ∀ x, sNq 13 x = true → isW b m p x = false := fun x q => isW_x q e13
              obtain ⟨kk, oo⟩ := y13 e13
              have tt := BR_ky hT kk
              exact hK _ (by rw [li_13 (fx 1 (by decide +kernel)) (fx 2 (by decide +kernel)) (fx 3 (by decide +kernel)) (fx 8 (by decide +kernel)) (fx 9 (by decide +kernel)) (fx 10 (by decide +kernel)) (fx 11 (by decide +kernel)) (fx 12 (by decide +kernel)) e13]; exact psr_r (OKR_o oo (by rw [si_o (by decide)]) (by rw [si_o (by decide)])) (BR_set (v := 1) tt))
            | false =>
              rw [if_pos (show b2i false = 0 from rfl), z13 e13]
              refine Ok_b (tookR_s n μ (i := 39) h (by decide) hn) ?_
              rintro _ μ11 ⟨rfl, z11, y11⟩
              dsimp only
              rw [q11]
              rw [q11] at z11 y11
              cases e11 : isW b m p 11 with
              | true =>
                rw [if_neg (show ¬ b2i true = 0 by decide)]
                have fx : ∀ x, sNq 11 x = true → isW b m p x = false := fun x q => isW_x q e11
                obtain ⟨kk, oo⟩ := y11 e11
                have tt := BR_ky hT kk
                exact oneR (a := 1) (c := 20) (t := 6) (K := fun μ' => X12_readLine_241 n v1 μ') oo tt (by decide) (by decide) hn (fun μ' q => hK μ' (by rw [li_11 (fx 1 (by decide +kernel)) (fx 2 (by decide +kernel)) (fx 3 (by decide +kernel)) (fx 8 (by decide +kernel)) (fx 9 (by decide +kernel)) (fx 10 (by decide +kernel)) e11]; exact q))
              | false =>
                rw [if_pos (show b2i false = 0 from rfl), z11 e11]
                refine Ok_b (tookR_s n μ (i := 40) h (by decide) hn) ?_
                rintro _ μ3 ⟨rfl, z3, y3⟩
                dsimp only
                rw [q3]
                rw [q3] at z3 y3
                cases e3 : isW b m p 3 with
                | true =>
                  rw [if_neg (show ¬ b2i true = 0 by decide)]
                  have fx : ∀ x, sNq 3 x = true → isW b m p x = false := fun x q => isW_x q e3
                  obtain ⟨kk, oo⟩ := y3 e3
                  have tt := BR_ky hT kk
                  exact Ok_b (takeR_s n _ oo tt hn) (fun _ μ' q => hK μ' (by rw [li_3 (fx 1 (by decide +kernel)) (fx 2 (by decide +kernel)) e3]; exact q))
                | false =>
                  rw [if_pos (show b2i false = 0 from rfl), z3 e3]
                  refine Ok_b (tookR_s n μ (i := 45) h (by decide) hn) ?_
                  rintro _ μ14 ⟨rfl, z14, y14⟩
                  dsimp only
                  rw [q14]
                  rw [q14] at z14 y14
                  cases e14 : isW b m p 14 with
                  | true =>
                    rw [if_neg (show ¬ b2i true = 0 by decide)]
                    have fx : ∀ x, sNq 14 x = true → isW b m p x = false := fun x q => isW_x q e14
                    obtain ⟨kk, oo⟩ := y14 e14
                    have tt := BR_ky hT kk
                    exact hK _ (by rw [li_14 (fx 1 (by decide +kernel)) (fx 2 (by decide +kernel)) (fx 3 (by decide +kernel)) (fx 8 (by decide +kernel)) (fx 9 (by decide +kernel)) (fx 10 (by decide +kernel)) (fx 11 (by decide +kernel)) (fx 12 (by decide +kernel)) (fx 13 (by decide +kernel)) e14]; exact psr_r (OKR_o oo (by rw [si_o (by decide)]) (by rw [si_o (by decide)])) (BR_set (v := 1) tt))
                  | false =>
                    rw [if_pos (show b2i false = 0 from rfl), z14 e14]
                    refine Ok_b (tookR_s n μ (i := 46) h (by decide) hn) ?_
                    rintro _ μ15 ⟨rfl, z15, y15⟩
                    dsimp only
                    rw [q15]
                    rw [q15] at z15 y15
                    cases e15 : isW b m p 15 with
                    | true =>
                      rw [if_neg (show ¬ b2i true = 0 by decide)]
                      have fx : ∀ x, sNq 15 x = true → isW b m p x = false := fun x q => isW_x q e15
                      obtain ⟨kk, oo⟩ := y15 e15
                      have tt := BR_ky hT kk
                      exact hK _ (by rw [li_15 (fx 1 (by decide +kernel)) (fx 2 (by decide +kernel)) (fx 3 (by decide +kernel)) (fx 8 (by decide +kernel)) (fx 9 (by decide +kernel)) (fx 10 (by decide +kernel)) (fx 11 (by decide +kernel)) (fx 12 (by decide +kernel)) (fx 13 (by decide +kernel)) (fx 14 (by decide +kernel)) e15]; exact psr_r (OKR_o oo (by rw [si_o (by decide)]) (by rw [si_o (by decide)])) (BR_set (v := 1) tt))
                    | false =>
                      rw [if_pos (show b2i false = 0 from rfl), z15 e15]
                      rw [i_2]
                      refine Ok_b (blames_s n μ h (c := 2) (by decide) (by decide)) ?_
                      rintro _ μ9 ⟨_, f9⟩
                      refine hK _ ?_
                      cases e1 : isW b m p 1 with
                      | false => rw [li_0 e1 e2 e3 e8 e9 e10 e11 e12 e13 e14 e15]; exact psr_l f9
                      | true =>
                        rw [li_1 e1, if_neg (hp.resolve_left (by rw [e1]; decide))]
                        rw [show blF b m p 2 = 2 from if_neg (by have := (isW_t.mp e1).1; omega)] at f9
                        exact psr_l f9
theorem lineR {n : Nat} {μ : Mu} {v1 : Int32} {b : Nat → Nat} {m p : Nat} {T : Nat → Nat} {Q : Unit → Mu → Prop} (h : OKR μ b m p) (hT : BR μ T) (h1 : 1 ≤ T 1) (h6 : T 1 ≤ 6) (hv : v1 = 0 ↔ T 0 ≠ 0) (hn : 1000 < n) (hK : ∀ μ', PSR b m (liF b m T p) μ' → Ok (X12_readLine_241 n v1 μ') Q) : Ok (X12_readLine n v1 μ) Q := by
  have q1 : isW b m p 32 = isW b m p 1 := isW_eq (by decide +kernel)
  unfold X12_readLine
  by_cases z : v1 = 0
  · rw [if_pos z]
    exact lineR29 h hT h1 h6 (Or.inr (hv.mp z)) hn hK
  · rw [if_neg z]
    have z0 : T 0 = 0 := Classical.byContradiction (fun q => z (hv.mpr q))
    refine Ok_b (tookR_s n μ (i := 32) h (by decide) hn) ?_
    rintro _ μ1 ⟨rfl, y0, y1⟩
    dsimp only
    rw [q1]
    rw [q1] at y0 y1
    cases e1 : isW b m p 1 with
    | true =>
      rw [if_neg (show ¬ b2i true = 0 by decide)]
      obtain ⟨kk, oo⟩ := y1 e1
      exact oneR (a := 1) (c := 6) (t := 1) (K := fun μ' => X12_readLine_241 n v1 μ') oo (BR_ky hT kk) (by decide) (by decide) hn (fun μ' q => hK μ' (by rw [li_1 e1, if_pos z0]; exact q))
    | false =>
      rw [if_pos (show b2i false = 0 from rfl), y0 e1]
      exact lineR29 h hT h1 h6 (Or.inl e1) hn hK
