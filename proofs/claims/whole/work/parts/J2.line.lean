/-! a line, but for its end -/
theorem bA {α β γ : Type} {x : Option (α × Mu)} {f : α × Mu → Option (β × Mu)} {g : β × Mu → Option (γ × Mu)} : (x.bind f).bind g = x.bind (fun r => (f r).bind g) := by cases x <;> rfl
def liF (b : Nat → Nat) (m : Nat) (T : Nat → Nat) (p : Nat) : (Nat × Nat) ⊕ ((Nat → Nat) × Nat) :=
  if isW b m p 1 = true then (if T 0 = 0 then mpN (nuF b m (tE b m p) 1 6) (fun v => ups T 1 v) else .inl (2, tS b m p)) else
  if isW b m p 2 = true then lyF b m 13 0 T (tE b m p) else
  if isW b m p 3 = true then tkF b m T (tE b m p) else
  if isW b m p 8 = true then stF b m T (tE b m p) else
  if isW b m p 9 = true then mpN (nuF b m (tE b m p) 0 (2 * T 1 - 1)) (fun v => ups T 3 (T 3 ||| 2 ^ v)) else
  if isW b m p 10 = true then mpN (nuF b m (tE b m p) 0 1) (fun v => ups T 2 v) else
  if isW b m p 11 = true then mpN (nuF b m (tE b m p) 1 20) (fun v => ups T 6 v) else
  if isW b m p 12 = true then .inr (ups T 4 1, tE b m p) else
  if isW b m p 13 = true then .inr (ups T 5 1, tE b m p) else
  if isW b m p 14 = true then .inr (ups T 9 1, tE b m p) else
  if isW b m p 15 = true then .inr (ups T 10 1, tE b m p) else
  .inl (blF b m p 2, tS b m p)
theorem li_1 {b : Nat → Nat} {m p : Nat} {T : Nat → Nat}  (e1 : isW b m p 1 = true) : liF b m T p = (if T 0 = 0 then mpN (nuF b m (tE b m p) 1 6) (fun v => ups T 1 v) else .inl (2, tS b m p)) := by
  unfold liF
  rw [e1, if_pos rfl]
theorem li_2 {b : Nat → Nat} {m p : Nat} {T : Nat → Nat} (e1 : isW b m p 1 = false) (e2 : isW b m p 2 = true) : liF b m T p = lyF b m 13 0 T (tE b m p) := by
  unfold liF
  rw [e1, if_neg (by decide), e2, if_pos rfl]
theorem li_3 {b : Nat → Nat} {m p : Nat} {T : Nat → Nat} (e1 : isW b m p 1 = false) (e2 : isW b m p 2 = false) (e3 : isW b m p 3 = true) : liF b m T p = tkF b m T (tE b m p) := by
  unfold liF
  rw [e1, if_neg (by decide), e2, if_neg (by decide), e3, if_pos rfl]
theorem li_8 {b : Nat → Nat} {m p : Nat} {T : Nat → Nat} (e1 : isW b m p 1 = false) (e2 : isW b m p 2 = false) (e3 : isW b m p 3 = false) (e8 : isW b m p 8 = true) : liF b m T p = stF b m T (tE b m p) := by
  unfold liF
  rw [e1, if_neg (by decide), e2, if_neg (by decide), e3, if_neg (by decide), e8, if_pos rfl]
theorem li_9 {b : Nat → Nat} {m p : Nat} {T : Nat → Nat} (e1 : isW b m p 1 = false) (e2 : isW b m p 2 = false) (e3 : isW b m p 3 = false) (e8 : isW b m p 8 = false) (e9 : isW b m p 9 = true) : liF b m T p = mpN (nuF b m (tE b m p) 0 (2 * T 1 - 1)) (fun v => ups T 3 (T 3 ||| 2 ^ v)) := by
  unfold liF
  rw [e1, if_neg (by decide), e2, if_neg (by decide), e3, if_neg (by decide), e8, if_neg (by decide), e9, if_pos rfl]
theorem li_10 {b : Nat → Nat} {m p : Nat} {T : Nat → Nat} (e1 : isW b m p 1 = false) (e2 : isW b m p 2 = false) (e3 : isW b m p 3 = false) (e8 : isW b m p 8 = false) (e9 : isW b m p 9 = false) (e10 : isW b m p 10 = true) : liF b m T p = mpN (nuF b m (tE b m p) 0 1) (fun v => ups T 2 v) := by
  unfold liF
  rw [e1, if_neg (by decide), e2, if_neg (by decide), e3, if_neg (by decide), e8, if_neg (by decide), e9, if_neg (by decide), e10, if_pos rfl]
theorem li_11 {b : Nat → Nat} {m p : Nat} {T : Nat → Nat} (e1 : isW b m p 1 = false) (e2 : isW b m p 2 = false) (e3 : isW b m p 3 = false) (e8 : isW b m p 8 = false) (e9 : isW b m p 9 = false) (e10 : isW b m p 10 = false) (e11 : isW b m p 11 = true) : liF b m T p = mpN (nuF b m (tE b m p) 1 20) (fun v => ups T 6 v) := by
  unfold liF
  rw [e1, if_neg (by decide), e2, if_neg (by decide), e3, if_neg (by decide), e8, if_neg (by decide), e9, if_neg (by decide), e10, if_neg (by decide), e11, if_pos rfl]
theorem li_12 {b : Nat → Nat} {m p : Nat} {T : Nat → Nat} (e1 : isW b m p 1 = false) (e2 : isW b m p 2 = false) (e3 : isW b m p 3 = false) (e8 : isW b m p 8 = false) (e9 : isW b m p 9 = false) (e10 : isW b m p 10 = false) (e11 : isW b m p 11 = false) (e12 : isW b m p 12 = true) : liF b m T p = .inr (ups T 4 1, tE b m p) := by
  unfold liF
  rw [e1, if_neg (by decide), e2, if_neg (by decide), e3, if_neg (by decide), e8, if_neg (by decide), e9, if_neg (by decide), e10, if_neg (by decide), e11, if_neg (by decide), e12, if_pos rfl]
theorem li_13 {b : Nat → Nat} {m p : Nat} {T : Nat → Nat} (e1 : isW b m p 1 = false) (e2 : isW b m p 2 = false) (e3 : isW b m p 3 = false) (e8 : isW b m p 8 = false) (e9 : isW b m p 9 = false) (e10 : isW b m p 10 = false) (e11 : isW b m p 11 = false) (e12 : isW b m p 12 = false) (e13 : isW b m p 13 = true) : liF b m T p = .inr (ups T 5 1, tE b m p) := by
  unfold liF
  rw [e1, if_neg (by decide), e2, if_neg (by decide), e3, if_neg (by decide), e8, if_neg (by decide), e9, if_neg (by decide), e10, if_neg (by decide), e11, if_neg (by decide), e12, if_neg (by decide), e13, if_pos rfl]
theorem li_14 {b : Nat → Nat} {m p : Nat} {T : Nat → Nat} (e1 : isW b m p 1 = false) (e2 : isW b m p 2 = false) (e3 : isW b m p 3 = false) (e8 : isW b m p 8 = false) (e9 : isW b m p 9 = false) (e10 : isW b m p 10 = false) (e11 : isW b m p 11 = false) (e12 : isW b m p 12 = false) (e13 : isW b m p 13 = false) (e14 : isW b m p 14 = true) : liF b m T p = .inr (ups T 9 1, tE b m p) := by
  unfold liF
  rw [e1, if_neg (by decide), e2, if_neg (by decide), e3, if_neg (by decide), e8, if_neg (by decide), e9, if_neg (by decide), e10, if_neg (by decide), e11, if_neg (by decide), e12, if_neg (by decide), e13, if_neg (by decide), e14, if_pos rfl]
theorem li_15 {b : Nat → Nat} {m p : Nat} {T : Nat → Nat} (e1 : isW b m p 1 = false) (e2 : isW b m p 2 = false) (e3 : isW b m p 3 = false) (e8 : isW b m p 8 = false) (e9 : isW b m p 9 = false) (e10 : isW b m p 10 = false) (e11 : isW b m p 11 = false) (e12 : isW b m p 12 = false) (e13 : isW b m p 13 = false) (e14 : isW b m p 14 = false) (e15 : isW b m p 15 = true) : liF b m T p = .inr (ups T 10 1, tE b m p) := by
  unfold liF
  rw [e1, if_neg (by decide), e2, if_neg (by decide), e3, if_neg (by decide), e8, if_neg (by decide), e9, if_neg (by decide), e10, if_neg (by decide), e11, if_neg (by decide), e12, if_neg (by decide), e13, if_neg (by decide), e14, if_neg (by decide), e15, if_pos rfl]
theorem li_0 {b : Nat → Nat} {m p : Nat} {T : Nat → Nat} (e1 : isW b m p 1 = false) (e2 : isW b m p 2 = false) (e3 : isW b m p 3 = false) (e8 : isW b m p 8 = false) (e9 : isW b m p 9 = false) (e10 : isW b m p 10 = false) (e11 : isW b m p 11 = false) (e12 : isW b m p 12 = false) (e13 : isW b m p 13 = false) (e14 : isW b m p 14 = false) (e15 : isW b m p 15 = false) : liF b m T p = .inl (blF b m p 2, tS b m p) := by
  unfold liF
  rw [e1, if_neg (by decide), e2, if_neg (by decide), e3, if_neg (by decide), e8, if_neg (by decide), e9, if_neg (by decide), e10, if_neg (by decide), e11, if_neg (by decide), e12, if_neg (by decide), e13, if_neg (by decide), e14, if_neg (by decide), e15, if_neg (by decide)]
theorem lineC {n : Nat} {μ : Mu} {b : Nat → Nat} {m p : Nat} {T : Nat → Nat} {Q : Unit → Mu → Prop} (h : OKC μ b m p) (h4 : tK b m p ≠ 4) (hT : BC μ T) (h0 : T 0 < 1000) (h1 : 1 ≤ T 1) (h6 : T 1 ≤ 6) (hn : 1000 < n) (hK : ∀ μ', PSC b m (liF b m T p) μ' → Ok (X4_readLine_207 n μ') Q) : Ok (X4_readLine n μ) Q := by
  have wd : ∀ i, i < 47 → X4_isWord n (1000 + i) μ = some (b2i (isW b m p i), μ) := fun i hi => by
    obtain ⟨a, μ', e, rfl, rfl⟩ := wordIsC_s n μ (i := i) h.2.1 h.1 h.2.2.1 hi hn
    exact e
  unfold X4_readLine
  rw [bS (wd 1 (by decide))]
  dsimp only
  cases e1 : isW b m p 1 with
  | true =>
    rw [if_neg (show ¬ b2i true = 0 by decide)]
    unfold X4_readPerSide
    rw [hT.1.1]
    by_cases z : T 0 = 0
    · rw [if_pos (show nI (T 0) ≤ 0 by rw [z]; decide)]
      refine Ok_b (P := fun _ μ' => PSC b m (liF b m T p) μ') ?_ (fun _ μ' q => hK μ' q)
      exact oneC (n := n) (a := 1) (c := 6) (o := 13) (k := 1) (t := 1) (K := fun μ' => some ((), μ')) h h4 hT (by decide) (by decide) (by decide) (by decide) hn (fun ν v g _ _ => BC_r1 g) (fun μ' q => Ok_r (by rw [li_1 e1, if_pos z]; exact q))
    · rw [if_neg (nI_nle (by omega) (by omega)), i_2]
      refine Ok_b (P := fun _ μ' => FTC μ' 2 (tS b m p)) ?_ (fun _ μ' q => hK μ' (by rw [li_1 e1, if_neg z]; exact psc_l q))
      refine Ok_b (refuse_s n μ h (c := 2) (by decide) (by decide)) ?_
      rintro _ μ1 ⟨_, f1⟩
      rw [show blF b m p 2 = 2 from if_neg h4] at f1
      exact Ok_r f1
  | false =>
    rw [if_pos (show b2i false = 0 from rfl)]
    rw [bS (wd 2 (by decide))]
    dsimp only
    cases e2 : isW b m p 2 with
    | true =>
      rw [if_neg (show ¬ b2i true = 0 by decide)]
      refine Ok_b (P := fun _ μ' => PSC b m (liF b m T p) μ') ?_ (fun _ μ' q => hK μ' q)
      rw [li_2 e1 e2]
      unfold X4_readSeeds
      refine Ok_b (overC_s n μ h h4 hn) ?_
      rintro _ μ1 ⟨k1, o1⟩
      exact layC_s n μ1 o1 (BC_kc hT k1) h6 hn
    | false =>
      rw [if_pos (show b2i false = 0 from rfl)]
      rw [bS (wd 3 (by decide))]
      dsimp only
      cases e3 : isW b m p 3 with
      | true =>
        rw [if_neg (show ¬ b2i true = 0 by decide)]
        refine Ok_b (takeC_s n μ h h4 hT hn) (fun _ μ' q => hK μ' (by rw [li_3 e1 e2 e3]; exact q))
      | false =>
        rw [if_pos (show b2i false = 0 from rfl)]
        rw [bS (wd 8 (by decide))]
        dsimp only
        cases e8 : isW b m p 8 with
        | true =>
          rw [if_neg (show ¬ b2i true = 0 by decide)]
          exact stoC (K := fun μ' => X4_readLine_207 n μ') h h4 hT hn (fun μ' q => hK μ' (by rw [li_8 e1 e2 e3 e8]; exact q))
        | false =>
          rw [if_pos (show b2i false = 0 from rfl)]
          rw [bS (wd 9 (by decide))]
          dsimp only
          cases e9 : isW b m p 9 with
          | true =>
            rw [if_neg (show ¬ b2i true = 0 by decide)]
            exact lacC (K := fun μ' => X4_readLine_207 n μ') h h4 hT h1 h6 hn (fun μ' q => hK μ' (by rw [li_9 e1 e2 e3 e8 e9]; exact q))
          | false =>
            rw [if_pos (show b2i false = 0 from rfl)]
            rw [bS (wd 10 (by decide))]
            dsimp only
            cases e10 : isW b m p 10 with
            | true =>
              rw [if_neg (show ¬ b2i true = 0 by decide)]
              exact oneC (n := n) (a := 0) (c := 1) (o := 149) (k := 1) (t := 2) (K := fun μ' => X4_readLine_207 n μ') h h4 hT (by decide) (by decide) (by decide) (by decide) hn (fun ν v g _ _ => BC_first g) (fun μ' q => hK μ' (by rw [li_10 e1 e2 e3 e8 e9 e10]; exact q))
            | false =>
              rw [if_pos (show b2i false = 0 from rfl)]
              rw [bS (wd 11 (by decide))]
              dsimp only
              cases e11 : isW b m p 11 with
              | true =>
                rw [if_neg (show ¬ b2i true = 0 by decide)]
                exact oneC (n := n) (a := 1) (c := 20) (o := 13) (k := 3) (t := 6) (K := fun μ' => X4_readLine_207 n μ') h h4 hT (by decide) (by decide) (by decide) (by decide) hn (fun ν v g _ _ => BC_r6 g) (fun μ' q => hK μ' (by rw [li_11 e1 e2 e3 e8 e9 e10 e11]; exact q))
              | false =>
                rw [if_pos (show b2i false = 0 from rfl)]
                refine Ok_b (P := fun _ μ' => PSC b m (liF b m T p) μ') ?_ (fun _ μ' q => hK μ' q)
                unfold X4_readFlag
                rw [bS (wd 12 (by decide))]
                dsimp only
                cases e12 : isW b m p 12 with
                | true =>
                  rw [if_neg (show ¬ b2i true = 0 by decide), li_12 e1 e2 e3 e8 e9 e10 e11 e12]
                  exact flgC h h4 (BC_r4 hT) hn
                | false =>
                  rw [if_pos (show b2i false = 0 from rfl)]
                  rw [bS (wd 13 (by decide))]
                  dsimp only
                  cases e13 : isW b m p 13 with
                  | true =>
                    rw [if_neg (show ¬ b2i true = 0 by decide), li_13 e1 e2 e3 e8 e9 e10 e11 e12 e13]
                    exact flgC h h4 (BC_r5 hT) hn
                  | false =>
                    rw [if_pos (show b2i false = 0 from rfl)]
                    rw [bS (wd 14 (by decide))]
                    dsimp only
                    cases e14 : isW b m p 14 with
                    | true =>
                      rw [if_neg (show ¬ b2i true = 0 by decide), li_14 e1 e2 e3 e8 e9 e10 e11 e12 e13 e14]
                      exact flgC h h4 (BC_r9 hT) hn
                    | false =>
                      rw [if_pos (show b2i false = 0 from rfl)]
                      rw [bS (wd 15 (by decide))]
                      dsimp only
                      cases e15 : isW b m p 15 with
                      | true =>
                        rw [if_neg (show ¬ b2i true = 0 by decide), li_15 e1 e2 e3 e8 e9 e10 e11 e12 e13 e14 e15]
                        exact flgC h h4 (BC_r10 hT) hn
                      | false =>
                        rw [if_pos (show b2i false = 0 from rfl)]
                        rw [li_0 e1 e2 e3 e8 e9 e10 e11 e12 e13 e14 e15, i_2]
                        refine Ok_b (refuse_s n μ h (c := 2) (by decide) (by decide)) ?_
                        rintro _ μ1 ⟨_, f1⟩
                        exact Ok_r (psc_l f1)
