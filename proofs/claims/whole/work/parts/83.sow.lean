/-! the class's sowing -/
def ownB (sz lac s p : Nat) : Bool := decide (offN sz s ≤ p ∧ p < offN sz s + sz) && !lac.testBit p
theorem l_neg : ∀ a, a < 7 → ∀ p, p < a → lN p - lN a < 0 := by decide
theorem isOwn_n (n : Nat) (μ : Mu) {o sz lac s p : Nat} (ho : oK o = 6) (h1 : μ.1 1 1 = nI sz) (h2 : μ.1 1 2 = nI lac) (hsd : μ.1 o 1 = nI s) (b6 : sz < 7) (bl : lac < 4096) (hs : s < 2) (hp : p < 2 ^ 31) : X8_isOwn n o (lN p) μ = some (b2i (ownB sz lac s p), μ) := by
  have hoff := off_le sz s
  unfold X8_isOwn X8_isOwn_54 X8_isOwn_55 ownB
  rw [kd_of ho, hsd, h1, pk_mul, mul_off hs, nI_l (by omega), nI_l (by omega), lN_i]
  by_cases c1 : p < offN sz s
  · rw [if_pos (lg_lt.mpr (l_neg _ (by omega) p c1)), decide_eq_false (by omega)]
    rfl
  · rw [lN_sub (by omega), if_neg (fun q : lg_cmp (lN (p - offN sz s)) 0 < 0 => absurd ((lN_lt (b := 0) (by omega) (by decide)).mp (lg_lt.mp q)) (by omega))]
    by_cases c2 : p - offN sz s < sz
    · rw [if_neg (fun q : 0 ≤ lg_cmp (lN (p - offN sz s)) (lN sz) => absurd (lg_lt.mpr ((lN_lt (by omega) (by omega)).mpr c2)) (Int32.not_lt.mpr q)), bS (lackC_s n μ h2 (by omega) (by omega)), decide_eq_true (by omega)]
      dsimp only
      cases lac.testBit p <;> rfl
    · rw [if_pos (show 0 ≤ lg_cmp (lN (p - offN sz s)) (lN sz) by
        refine Decidable.byContradiction (fun q => ?_)
        have := (lN_lt (by omega) (by omega)).mp (lg_lt.mp (Int32.not_le.mp q))
        omega), decide_eq_false (by omega)]
      rfl
theorem isOwn_x (n : Nat) (μ : Mu) {o sz s : Nat} {v : Int64} (ho : oK o = 6) (h1 : μ.1 1 1 = nI sz) (hsd : μ.1 o 1 = nI s) (b6 : sz < 7) (hs : s < 2) (hv : v.toInt < 0 ∨ 12 ≤ v.toInt) : X8_isOwn n o v μ = some (0, μ) := by
  have hoff := off_le sz s
  have hoff2 : offN sz s + sz ≤ 12 := by unfold offN; split <;> omega
  have r1 := Int64.le_toInt v
  have r2 := Int64.toInt_lt v
  unfold X8_isOwn X8_isOwn_54 X8_isOwn_55
  rw [kd_of ho, hsd, h1, pk_mul, mul_off hs, nI_l (by omega), nI_l (by omega)]
  have e : (v - lN (offN sz s)).toInt = (v.toInt - (offN sz s : Int)).bmod (2 ^ 64) := by
    rw [Int64.toInt_sub, lN_toInt (by omega)]
  by_cases c1 : v - lN (offN sz s) < 0
  · rw [if_pos (lg_lt.mpr c1)]
    rfl
  · rw [if_neg (fun q => c1 (lg_lt.mp q)), if_pos (show 0 ≤ lg_cmp (v - lN (offN sz s)) (lN sz) by
      refine Decidable.byContradiction (fun q => ?_)
      have q2 := lg_lt.mp (Int32.not_le.mp q)
      rw [Int64.lt_iff_toInt_lt, e, lN_toInt (by omega)] at q2
      rw [Int64.lt_iff_toInt_lt, e, show (0 : Int64).toInt = 0 from rfl] at c1
      have e2 : ∀ x : Int, x.bmod (2 ^ 64) = if x % 18446744073709551616 < 9223372036854775808 then x % 18446744073709551616 else x % 18446744073709551616 - 18446744073709551616 := fun x => by rw [Int.bmod_def]; rfl
      rw [e2] at q2 c1
      by_cases z : (v.toInt - (offN sz s : Int)) % 18446744073709551616 < 9223372036854775808
      · rw [if_pos z] at q2 c1
        omega
      · rw [if_neg z] at q2 c1
        omega)]
    rfl
def thN (T : Nat → Nat) (s l : Nat) : Nat := if T 9 = 1 ∧ l = T 1 then s else 1 - s
def mvC (T : Nat → Nat) (s : Nat) (c : Nat → Nat) (w : Nat) : Option (Nat × Nat × Nat × (Nat → Nat)) := (sowC T s (T 6 + 1) 0 w c).bind (fun x => some (x.1, x.2.1, (tkR T s x.2.2 x.1).1, (tkR T s x.2.2 x.1).2))
theorem tkR_st {T : Nat → Nat} {s : Nat} {c : Nat → Nat} {l : Nat} : c (12 + s) ≤ (tkR T s c l).2 (12 + s) := by
  unfold tkR tkO tkG
  split
  · exact Nat.le_refl _
  · split
    · split
      · dsimp only; rw [ups_a]; omega
      · exact Nat.le_refl _
    · split
      · split
        · exact Nat.le_refl _
        · dsimp only; rw [ups_a]; omega
      · exact Nat.le_refl _
/-- what the machine must know of the rules -/
def RR (μ : Mu) (T : Nat → Nat) : Prop := μ.1 1 1 = nI (T 1) ∧ μ.1 1 2 = nI (T 3) ∧ μ.1 1 3 = nI (T 6) ∧ μ.1 1 4 = nI (tkC T) ∧ μ.1 1 5 = nI (T 4) ∧ μ.1 1 6 = nI (T 5) ∧ μ.1 1 7 = nI (T 9) ∧ μ.1 1 8 = nI (T 10)
def BD (T : Nat → Nat) : Prop := 1 ≤ T 1 ∧ T 1 < 7 ∧ T 3 < 4096 ∧ T 4 < 2 ∧ T 5 < 2 ∧ T 6 ≤ 20 ∧ T 7 < 3 ∧ T 8 < 2 ∧ T 9 < 2 ∧ T 10 < 2 ∧ (T 8 = 1 → T 7 = 2)
theorem RR_o {μ μ' : Mu} {T : Nat → Nat} (h : RR μ T) (e : μ'.1 1 = μ.1 1) : RR μ' T := by
  unfold RR at *
  rw [e]
  exact h
def SWQ (T : Nat → Nat) (s : Nat) (c : Nat → Nat) (w o : Nat) (μ : Mu) (a : Int32) (μ' : Mu) : Prop :=
  KP (fun x => x = o ∨ x = o + 1 ∨ x = 6) μ μ' ∧ (mvC T s c w = none → a = nI 0) ∧ (∀ l k t c', mvC T s c w = some (l, k, t, c') → a = nI 1 ∧ CE μ' o c' ∧ μ'.1 o 1 = nI (thN T s l) ∧ μ'.1 6 0 = nI (cI (T 1) s l) ∧ μ'.1 6 1 = nI k ∧ μ'.1 6 2 = nI t ∧ μ'.1 6 3 = nI (c' (12 + s) - c (12 + s)))
theorem cI_12 {sz s l : Nat} (b6 : sz < 7) (b1 : 1 ≤ sz) (hs : s < 2) (hl : l < 2 * sz + 1) : cI sz s l < 12 ↔ l ≠ sz := by
  obtain ⟨q1, q2, q3⟩ := cI_lt sz b6 b1 s hs l hl
  constructor
  · intro h e
    rw [e, q3] at h
    omega
  · intro h
    have := q1 h
    omega
theorem cI_own {sz s l : Nat} : ∀ _ : l < 2 * sz + 1, l ≠ sz → s < 2 → ((offN sz s ≤ cI sz s l ∧ cI sz s l < offN sz s + sz) ↔ l < sz) := by
  intro h1 h2 h3
  unfold cI offN
  by_cases c : l < sz
  · rw [if_pos c]
    split <;> omega
  · rw [if_neg c, if_neg h2]
    split <;> split <;> omega
theorem sow_s (n : Nat) (μ : Mu) {T c : Nat → Nat} {o s w : Nat} (ho : oK o = 6) (ho2 : 40 < o) (hB : BD T) (hR : RR μ T) (hs : s < 2) (hway : WY μ T s) (hsd : μ.1 o 1 = nI s) (hc : CE μ o c) (hw : w < T 1) (on : onI T s w = true) (hb : sumF c 14 < 1000) (hn : 1000 < n) :
    Ok (X8_sow n o (nI (cI (T 1) s w)) μ) (SWQ T s c w o μ) := by
  have hB' := hB
  obtain ⟨b1, b6, b3, b4, b5, bR, b7, b8, b9, b10, b87⟩ := hB'
  have inj := cI_in (T 1) b6 b1 s hs
  have clt : ∀ i, i < 2 * T 1 + 1 → cI (T 1) s i < 14 := fun i hi => (cI_lt (T 1) b6 b1 s hs i hi).2.1
  -- the end of a move
  have L106 : ∀ (l k : Nat) (c1 : Nat → Nat) (μ1 : Mu), sowC T s (T 6 + 1) 0 w c = some (l, k, c1) → l < 2 * T 1 + 1 → onI T s l = true → sumF c1 14 < 1000 → c (12 + s) ≤ c1 (12 + s) → KP (fun x => x = o ∨ x = o + 1 ∨ x = 6) μ μ1 → μ1.1 o = μ.1 o → CE μ1 o c1 → μ1.1 6 0 = nI (cI (T 1) s l) → ∀ v2, Ok (X8_sow_106 n o v2 (nI (c (12 + s))) (nI k) μ1) (SWQ T s c w o μ) := by
    intro l k c1 μ1 hsw hl onl hb1 hst hkp eo hc1 h60 v2
    have hcl := clt l hl
    have hmv : mvC T s c w = some (l, k, (tkR T s c1 l).1, (tkR T s c1 l).2) := by
      unfold mvC
      rw [hsw]
      rfl
    have L152 : ∀ μ2 : Mu, KP (fun x => x = o + 1) (si μ1 6 1 (nI k)) μ2 → CE μ2 o (tkR T s c1 l).2 → Ok (X8_sow_152 n o v2 (nI (c (12 + s))) (nI (tkR T s c1 l).1) μ2) (SWQ T s c w o μ) := by
      intro μ2 hk2 hc2
      have hsd2 : ∀ k' v, (si μ2 6 k' v).1 o 1 = nI s := by
        intro k' v
        rw [si_b (by omega), hk2.1 o (by omega), si_o (by omega), eo, hsd]
      have hsd3 : ∀ k' v k'' v', (si (si μ2 6 k' v) 6 k'' v').1 o 1 = nI s := by
        intro k' v k'' v'
        rw [si_b (by omega), hsd2]
      have h17 : ∀ k' v k'' v', (si (si μ2 6 k' v) 6 k'' v').1 1 7 = nI (T 9) := by
        intro k' v k'' v'
        rw [si_b (by decide), si_b (by decide), hk2.1 1 (by omega), si_o (by decide), hkp.1 1 (by omega)]
        exact hR.2.2.2.2.2.2.1
      have h6 : ∀ v v', (si (si μ2 6 2 v) 6 3 v').1 6 0 = nI (cI (T 1) s l) := by
        intro v v'
        rw [si_c (by decide), si_c (by decide), hk2.1 6 (by omega), si_c (by decide), h60]
      have hce : ∀ v, (si μ2 6 2 v).1 (o + 1) (12 + s) = nI ((tkR T s c1 l).2 (12 + s)) := by
        intro v
        rw [si_b (by omega), hc2 _ (by omega)]
      have hle : c (12 + s) ≤ (tkR T s c1 l).2 (12 + s) := Nat.le_trans hst tkR_st
      have fin : ∀ th, th = thN T s l → Ok (some ((1 : Int32), (si (si (si μ2 6 2 (nI (tkR T s c1 l).1)) 6 3 (nI ((tkR T s c1 l).2 (12 + s) - c (12 + s)))) o 1 (nI th)))) (SWQ T s c w o μ) := by
        intro th eth
        refine Ok_r ⟨?_, fun q => absurd (hmv.symm.trans q) (by simp), fun l' k' t' c'' q => ?_⟩
        · refine KP.si (KP.si (KP.si ?_ (Or.inr (Or.inr rfl))) (Or.inr (Or.inr rfl))) (Or.inl rfl)
          exact (hkp.si (Or.inr (Or.inr rfl))).tr hk2 (fun x hx => Or.inr (Or.inl hx))
        · rw [hmv] at q
          injection q with q
          injection q with q1 q
          injection q with q2 q
          injection q with q3 q4
          subst q1 q2 q3 q4
          refine ⟨rfl, CE_so (CE_so (CE_so hc2 (by omega)) (by omega)) (by omega), by rw [si_a, eth], ?_, ?_, ?_, ?_⟩
          · rw [si_b (by omega), h6]
          · rw [si_b (by omega), si_c (by decide), si_c (by decide), hk2.1 6 (by omega), si_a]
          · rw [si_b (by omega), si_c (by decide), si_a]
          · rw [si_b (by omega), si_a]
      unfold X8_sow_152 X8_sow_201 X8_sow_207
      simp only [hsd2, i_12, nI_add, nI_clamp (show 12 + s < 2 ^ 31 by omega), gd_n (show 12 + s < 14 by omega) (show 14 < 2 ^ 31 by decide), hce, pk_sub hle, h17, h6, hsd3, pk_sub (show s ≤ 1 by omega), nI_ltI (show cI (T 1) s l < 2 ^ 31 by omega) (show 12 < 2 ^ 31 by decide), cI_12 b6 b1 hs hl]
      by_cases q9 : T 9 = 0
      · rw [if_pos (by rw [q9]; rfl)]
        have := fin (1 - s) (by unfold thN; rw [if_neg (by omega)])
        rw [i_1, pk_sub (by omega)]
        exact this
      · rw [if_neg (nI_ne0 (by omega) (by omega))]
        by_cases ql : l = T 1
        · rw [if_neg (fun z => z ql)]
          exact fin s (by unfold thN; rw [if_pos ⟨by omega, ql⟩])
        · rw [if_pos ql]
          have := fin (1 - s) (by unfold thN; rw [if_neg (fun z => ql z.2)])
          rw [i_1, pk_sub (by omega)]
          exact this
    have kR : RR (si μ1 6 1 (nI k)) T := RR_o hR (by rw [si_o (by decide), hkp.1 1 (by omega)])
    obtain ⟨r1, r2, r3, r4, r5, r6, r7, r8⟩ := kR
    have r0 : (si μ1 6 1 (nI k)).1 o 1 = nI s := by rw [si_b (by omega), eo, hsd]
    have r60 : (si μ1 6 1 (nI k)).1 6 0 = nI (cI (T 1) s l) := by rw [si_c (by decide), h60]
    have rc : CE (si μ1 6 1 (nI k)) o c1 := CE_so hc1 (by omega)
    unfold X8_sow_106
    rw [r60, i_12, ifLt (by omega) (by decide), ifIff (cI_12 b6 b1 hs hl)]
    by_cases ql : l = T 1
    · rw [if_neg (fun z => z ql), i_0]
      have := L152 (si μ1 6 1 (nI k)) KP.rf (by unfold tkR; rw [if_pos ql]; exact rc)
      unfold tkR at this
      rw [if_pos ql] at this
      exact this
    · have hl2 : cI (T 1) s l < 2 * T 1 := (cI_lt (T 1) b6 b1 s hs l hl).1 ql
      rw [if_pos ql, nI_l (by omega), bS (isOwn_n n _ ho r1 r2 r0 b6 b3 hs (by omega))]
      dsimp only
      have hlk : (T 3).testBit (cI (T 1) s l) = false := by
        unfold onI at onl
        rw [if_neg ql] at onl
        simpa using onl
      have eown : ownB (T 1) (T 3) s (cI (T 1) s l) = decide (l < T 1) := by
        unfold ownB
        rw [hlk]
        simp only [Bool.not_false, Bool.and_true]
        exact decide_eq_decide.mpr (cI_own hl ql hs)
      rw [eown]
      by_cases qo : l < T 1
      · rw [if_neg (fun z => absurd (b2i_0.mp z) (by rw [decide_eq_true qo]; decide))]
        refine Ok_b (takeO_s n _ ho ho2 b6 b1 hs b7 b87 r1 r4 r0 r60 hl2 rc hb1) ?_
        rintro a μ2 ⟨rfl, hc2, hk2⟩
        dsimp only
        have e : tkO T s c1 (cI (T 1) s l) = tkR T s c1 l := by unfold tkR; rw [if_neg ql, if_pos qo]
        rw [e] at hc2 ⊢
        exact L152 μ2 hk2 hc2
      · rw [if_pos (b2i_0.mpr (decide_eq_false qo))]
        refine Ok_b (takeG_s n _ ho ho2 b6 b1 hs b3 b7 b87 r1 r2 r4 r0 r60 hl2 rc hb1 hn) ?_
        rintro a μ2 ⟨rfl, hc2, hk2⟩
        dsimp only
        have e : tkG T s c1 (cI (T 1) s l) = tkR T s c1 l := by unfold tkR; rw [if_neg ql, if_neg qo]
        rw [e] at hc2 ⊢
        exact L152 μ2 hk2 hc2
  unfold X8_sow X8_sow_19
  rw [kd_of ho, hsd, i_12, nI_add, gd_n (by omega) (by decide), nI_clamp (by omega), hc _ (by omega), i_0]
  refine Ok_lp3 (fun k x3 x4 x5 μ' => ∃ r w' c', x3 = nI (cI (T 1) s w') ∧ x4 = nI (c (12 + s)) ∧ x5 = nI r ∧ k = T 6 + 1 - r ∧ r ≤ T 6 + 1 ∧ w' < 2 * T 1 + 1 ∧ w' ≠ T 1 ∧ onI T s w' = true ∧ CE μ' o c' ∧ sumF c' 14 = sumF c 14 ∧ c (12 + s) ≤ c' (12 + s) ∧ μ'.1 o = μ.1 o ∧ KP (fun x => x = o ∨ x = o + 1 ∨ x = 6) μ μ' ∧ sowC T s (T 6 + 1 - r) r w' c' = sowC T s (T 6 + 1) 0 w c) ?_ (T 6 + 1) (by omega) ⟨0, w, c, rfl, rfl, rfl, by omega, by omega, by omega, by omega, on, hc, rfl, Nat.le_refl _, rfl, KP.rf, rfl⟩
  rintro K k x3 x4 x5 μ' ⟨r, w', c', rfl, rfl, rfl, rfl, hr, hw', hw2, onw, hc', hsum, hst, eo, hkp, hsw⟩ hK
  have kR : RR μ' T := RR_o hR (hkp.1 1 (by omega))
  have kR' := kR
  obtain ⟨r1, r2, r3, r4, r5, r6, r7, r8⟩ := kR'
  have hsd' : μ'.1 o 1 = nI s := by rw [eo, hsd]
  have way' := WY_o hway (hkp.1 3 (by omega))
  have hcw := clt w' hw'
  have hno : ∀ x : Option (Nat × Nat × (Nat → Nat)), x = none → sowC T s (T 6 + 1) 0 w c = x → Ok (some (nI 0, μ')) (SWQ T s c w o μ) := by
    intro x hx hsx
    have hm : mvC T s c w = none := by
      unfold mvC
      rw [hsx, hx]
      rfl
    refine Ok_r ⟨hkp, fun _ => rfl, fun l k t c2 q => ?_⟩
    rw [hm] at q
    exact nomatch q
  unfold X8_sow_19b
  rw [r3, ifLt (by omega) (by omega), i_0]
  by_cases q : T 6 < r
  · rw [if_pos q]
    rw [show T 6 + 1 - r = 0 by omega] at hsw
    exact hno none rfl hsw.symm
  · rw [if_neg q]
    obtain ⟨f, hf⟩ : ∃ f, T 6 + 1 - r = f + 1 := ⟨T 6 - r, by omega⟩
    rw [hf, sowC] at hsw
    have L64 : stk T s w' = false → ∀ v2, Ok (X8_sow_64 n o v2 K (nI (cI (T 1) s w')) (nI (c (12 + s))) (nI r) μ') (SWQ T s c w o μ) := by
      intro hstk v2
      rw [if_neg (by rw [hstk]; decide)] at hsw
      unfold X8_sow_64
      refine Ok_b (scat_s n μ' ho ho2 b6 b1 hs b5 way' hsd' r6 hc' hw' onw hstk (by omega) hn) ?_
      rintro a μ2 ⟨rfl, hc2, hk2⟩
      dsimp only
      have hbw := sum_le (c := c') 14 _ hcw
      have hss := sum_ups (c := c') (j := cI (T 1) s w') (v := 0) 14 hcw
      obtain ⟨p1, p2, p3, p4, p5, p6⟩ := scC_p b6 b1 hs hw' onw hstk (c' (cI (T 1) s w')) w' (ups c' (cI (T 1) s w') 0) hw' onw
      rw [show scC T s w' (c' (cI (T 1) s w')) w' (ups c' (cI (T 1) s w') 0) = scW T s w' c' from rfl] at p1 p2 p3 p4 p5 p6
      have hl2 : ∀ k' v, (si μ2 6 k' v).1 1 = μ'.1 1 := fun k' v => by rw [si_o (by decide), hk2.1 1 (by omega)]
      have hk3 : KP (fun x => x = o ∨ x = o + 1 ∨ x = 6) μ (si μ2 6 0 (nI (cI (T 1) s (scW T s w' c').1))) := (hkp.tr hk2 (fun x hx => Or.inr (Or.inl hx))).si (Or.inr (Or.inr rfl))
      have hc3 : CE (si μ2 6 0 (nI (cI (T 1) s (scW T s w' c').1))) o (scW T s w' c').2 := CE_so hc2 (by omega)
      have h60 : (si μ2 6 0 (nI (cI (T 1) s (scW T s w' c').1))).1 6 0 = nI (cI (T 1) s (scW T s w' c').1) := si_a
      have heo : (si μ2 6 0 (nI (cI (T 1) s (scW T s w' c').1))).1 o = μ.1 o := by rw [si_o (by omega), hk2.1 o (by omega), eo]
      have hs4 : c (12 + s) ≤ (scW T s w' c').2 (12 + s) := by
        refine Nat.le_trans hst (Nat.le_trans ?_ (p4 _))
        rw [ups_b (fun z => absurd ((cI_12 b6 b1 hs hw').mpr hw2) (by omega))]
        exact Nat.le_refl _
      have hs5 : sumF (scW T s w' c').2 14 = sumF c 14 := by
        rw [p3]
        omega
      have hlt := clt _ p1
      have hle := sum_le (c := (scW T s w' c').2) 14 _ hlt
      have done := fun hd => L106 (scW T s w' c').1 r (scW T s w' c').2 _ hd p1 p2 (by omega) hs4 hk3 heo hc3 h60 v2
      rw [hl2, r3, h60, nI_clamp (by omega), hc3 _ hlt, i_12, i_1, ifLe (by decide) (by omega), gd_n hlt (by decide), ifEq (by omega) (by decide)]
      by_cases z1 : T 6 = 0
      · rw [if_pos (by rw [z1]; rfl)]
        rw [if_pos (Or.inl z1)] at hsw
        exact done hsw.symm
      · rw [if_neg (nI_ne0 (by omega) (by omega))]
        by_cases z2 : (scW T s w' c').1 = T 1
        · rw [if_pos (by
            exact Nat.not_lt.mp (fun z => (cI_12 b6 b1 hs p1).mp z z2))]
          rw [if_pos (Or.inr (Or.inl z2))] at hsw
          exact done hsw.symm
        · rw [if_neg (by
            have := (cI_12 b6 b1 hs p1).mpr z2
            exact Nat.not_le.mpr this)]
          by_cases z3 : (scW T s w' c').2 (cI (T 1) s (scW T s w' c').1) = 1
          · rw [if_pos z3]
            rw [if_pos (Or.inr (Or.inr z3))] at hsw
            exact done hsw.symm
          · rw [if_neg z3, nI_add]
            rw [if_neg (fun z => z.elim z1 (fun z => z.elim z2 z3))] at hsw
            exact hK f _ _ _ _ (by omega) ⟨r + 1, (scW T s w' c').1, (scW T s w' c').2, rfl, rfl, rfl, by omega, by omega, p1, z2, p2, hc3, hs5, hs4, heo, hk3, by rw [show T 6 + 1 - (r + 1) = f by omega]; exact hsw⟩
    rw [r6]
    by_cases z5 : T 5 = 0
    · rw [if_pos (by rw [z5])]
      exact L64 ((stk_f hw' onw).mpr (fun h => by omega)) _
    · rw [if_neg (fun z => z5 ((nI_eq (by omega) (by decide)).mp z)), hsd', i_14, pk_mul, nI_add, gd_n (by omega) (by decide), nI_clamp (by omega)]
      obtain ⟨j, hj⟩ := NX_ex hw' hw' onw
      have hjl := NX_lt hj (by omega)
      rw [way' w' j hw' onw hj, ifEq (by have := clt j hjl; omega) (by omega)]
      by_cases zj : j = w'
      · rw [if_pos (by rw [zj])]
        refine hno _ ?_ hsw.symm
        rw [if_pos]
        cases e : stk T s w' with
        | true => rfl
        | false =>
          obtain ⟨j', hj', hne⟩ := (stk_f hw' onw).mp e (by omega)
          exact absurd (NX_u hj' hj) (by rw [zj]; exact hne)
      · rw [if_neg (fun z => zj (inj j hjl w' hw' z))]
        exact L64 ((stk_f hw' onw).mpr (fun _ => ⟨j, hj, zj⟩)) _
