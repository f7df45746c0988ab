/-! calls: sown, count -/
def inR (v : Int32) (a b : Nat) : Prop := nI a ≤ v ∧ v ≤ nI b
theorem inR_d {v : Int32} {a b : Nat} (ha : a < 2 ^ 31) (hb : b < 2 ^ 31) (h : inR v a b) : ∃ j, a ≤ j ∧ j ≤ b ∧ v = nI j := by
  obtain ⟨h1, h2⟩ := h
  rw [Int32.le_iff_toInt_le, nI_toInt ha] at h1
  rw [Int32.le_iff_toInt_le, nI_toInt hb] at h2
  refine ⟨v.toInt.toNat, by omega, by omega, Int32.toInt_inj.mp ?_⟩
  rw [nI_toInt (by omega)]
  omega
theorem inR_j {j a b : Nat} (ha : a < 2 ^ 31) (hb : b < 2 ^ 31) (hj : j < 2 ^ 31) : inR (nI j) a b ↔ a ≤ j ∧ j ≤ b := by
  unfold inR
  rw [nI_leI ha hj, nI_leI hj hb]
theorem inR_no {v : Int32} {b : Nat} (h : ¬ inR v 0 b) : v < 0 ∨ (¬ v < 0 ∧ nI b < v) := by
  by_cases z : v < 0
  · exact Or.inl z
  · exact Or.inr ⟨z, Int32.not_le.mp (fun q => h ⟨Int32.not_lt.mp z, q⟩)⟩
theorem within_I (n : Nat) (μ : Mu) (v : Int32) {a b : Nat} (ha : a < 2 ^ 31) (hb : b < 2 ^ 31) {x y : Int64} (hx : x = lN a) (hy : y = lN b) : ∃ t : Bool, X12_within n v.toInt64 x y μ = some (b2i t, μ) ∧ (t = true ↔ inR v a b) := by
  subst hx hy
  refine ⟨decide (lN a ≤ v.toInt64 ∧ v.toInt64 ≤ lN b), within_s n _ _ _ μ, ?_⟩
  rw [decide_eq_true_iff, ← nI_l ha, ← nI_l hb, wide_le, wide_le]
  exact Iff.rfl
/-- an own pit of the mover that has seeds -/
def FV (T : Nat → Nat) (v : Int32) : Prop := ∃ w, w < T 1 ∧ v = nI (offN (T 1) (T 2) + w) ∧ fulW T w = true
theorem onI_lk {T : Nat → Nat} {s w : Nat} (hw : w < T 1) : onI T s w = !(T 3).testBit (offN (T 1) s + w) := by
  unfold onI
  rw [if_neg (by omega), cI_own2 hw]
theorem isFull_I (n : Nat) (μ : Mu) {T : Nat → Nat} (v : Int32) (hW : WF T) (hT : TD μ T) : ∃ t : Bool, X12_isFull n v μ = some (b2i t, μ) ∧ (t = true ↔ FV T v) := by
  have b1 := hW.1.1
  have b6 := hW.1.2.1
  have hol := off_le (T 1) (T 2)
  rcases ix_cs v (m := 2 * T 1) (by omega) with h | h | ⟨j, hj, rfl⟩
  · refine ⟨false, isFull_no n μ v (hT 1 (by omega)) b1 (by omega) h.2, fun q => Bool.noConfusion q, ?_⟩
    rintro ⟨w, hw, rfl, _⟩
    exact absurd h.1 (nI_pos (by omega))
  · refine ⟨false, isFull_no n μ v (hT 1 (by omega)) b1 (by omega) h.2.2, fun q => Bool.noConfusion q, ?_⟩
    rintro ⟨w, hw, rfl, _⟩
    have := (nI_leI (by omega) (by omega)).mp h.2.1
    omega
  · refine ⟨_, isFull_w n μ hW hT hj, ?_⟩
    rw [Bool.and_eq_true, decide_eq_true_iff]
    constructor
    · rintro ⟨⟨a, b⟩, c⟩
      exact ⟨j - offN (T 1) (T 2), by omega, by rw [show offN (T 1) (T 2) + (j - offN (T 1) (T 2)) = j by omega], c⟩
    · rintro ⟨w, hw, e, c⟩
      have := (nI_eq (by omega) (by omega)).mp e
      subst this
      rw [Nat.add_sub_cancel_left]
      exact ⟨⟨by omega, by omega⟩, c⟩
/-- the class's look at an own pit -/
def OV (T : Nat → Nat) (v : Int32) : Prop := ∃ w, w < T 1 ∧ v = nI (offN (T 1) (T 2) + w) ∧ (T 3).testBit (offN (T 1) (T 2) + w) = false
theorem isOwn_I (n : Nat) (μ : Mu) {T : Nat → Nat} {o : Nat} (v : Int32) (ho : oK o = 6) (hW : WF T) (hG : GE μ T) (hS : SC μ o T) : ∃ t : Bool, X8_isOwn n o v.toInt64 μ = some (b2i t, μ) ∧ (t = true ↔ OV T v) := by
  have b6 := hW.1.2.1
  have b3 := hW.1.2.2.1
  have hol := off_le (T 1) (T 2)
  have far : (v.toInt < 0 ∨ 12 ≤ v.toInt) → ∃ t : Bool, X8_isOwn n o v.toInt64 μ = some (b2i t, μ) ∧ (t = true ↔ OV T v) := by
    intro h
    refine ⟨false, isOwn_x n μ ho hG.1.1 hS.1 b6 hW.2.1 (by rw [Int32.toInt_toInt64]; exact h), fun q => Bool.noConfusion q, ?_⟩
    rintro ⟨w, hw, rfl, _⟩
    rw [nI_toInt (by omega)] at h
    omega
  rcases ix_cs v (m := 12) (by omega) with h | h | ⟨j, hj, rfl⟩
  · exact far (Or.inl (by have := Int32.lt_iff_toInt_lt.mp h.1; have z : (0 : Int32).toInt = 0 := by decide
                          omega))
  · exact far (Or.inr (by have := Int32.le_iff_toInt_le.mp h.2.1; rw [nI_toInt (by decide)] at this; omega))
  · refine ⟨ownB (T 1) (T 3) (T 2) j, by rw [nI_l (by omega)]; exact isOwn_n n μ ho hG.1.1 hG.1.2.1 hS.1 b6 b3 hW.2.1 (by omega), ?_⟩
    unfold ownB
    rw [Bool.and_eq_true, decide_eq_true_iff]
    constructor
    · rintro ⟨⟨a, b⟩, c⟩
      refine ⟨j - offN (T 1) (T 2), by omega, by rw [show offN (T 1) (T 2) + (j - offN (T 1) (T 2)) = j by omega], ?_⟩
      rw [show offN (T 1) (T 2) + (j - offN (T 1) (T 2)) = j by omega]
      cases e : (T 3).testBit j with
      | false => rfl
      | true => rw [e] at c; exact Bool.noConfusion c
    · rintro ⟨w, hw, e, c⟩
      have := (nI_eq (by omega) (by omega)).mp e
      subst this
      rw [c]
      exact ⟨⟨by omega, by omega⟩, rfl⟩
theorem FV_ov {T : Nat → Nat} {v : Int32} (h : FV T v) : OV T v := by
  obtain ⟨w, hw, e, f⟩ := h
  refine ⟨w, hw, e, ?_⟩
  have := (ful_t.mp f).1
  rw [onI_lk hw] at this
  cases z : (T 3).testBit (offN (T 1) (T 2) + w) with
  | false => rfl
  | true => rw [z] at this; exact Bool.noConfusion this
/-- what sown answers of a move that isn't long -/
def snV (T : Nat → Nat) (l k t : Nat) (what : Nat) : Int32 := if what = 0 then (if l = T 1 then -nI 1 else nI (cI (T 1) (T 2) l)) else if what = 1 then nI k else if what = 2 then nI t else nI (thN T (T 2) l)
theorem call_sown (n : Nat) (μ : Mu) (v what : Int32) (h : INV μ) (hn : 1000 < n) : CBx (L_sown n v what μ) (X12_sown n v what) := by
  obtain ⟨T, hI⟩ := h
  have hW := hI.1.1
  have b6 := hW.1.2.1
  have b1 := hW.1.1
  have hol := off_le (T 1) (T 2)
  obtain ⟨hG, _, hS⟩ := id hI.2.2.1
  obtain ⟨to, o1, o2⟩ := isOwn_I n μ v (by decide) hW hG.1.1 hS
  by_cases hv : FV T v
  · obtain ⟨w, hw, rfl, hf⟩ := id hv
    have hto : to = true := o2.mpr (FV_ov hv)
    have hc0 := (ful_0 hW hw).mp hf
    have hlt : cT T (offN (T 1) (T 2) + w) < 1000 := by
      have := sum_le (c := cT T) 14 (offN (T 1) (T 2) + w) (by omega)
      have := WF_b hW
      omega
    -- the class up to its sowing
    have cls : ∀ {Q : Int32 ⊕ Nat → Mu → Prop}, (∀ a μ2, (mvW T w = none → a = nI 0) → (∀ l k t c', mvW T w = some (l, k, t, c') → a = nI 1 ∧ SC μ2 55 (upT T c' (thN T (T 2) l)) ∧ μ2.1 6 0 = nI (cI (T 1) (T 2) l) ∧ μ2.1 6 1 = nI k ∧ μ2.1 6 2 = nI t) → Ok (if a = 0 then some (Sum.inr 2, μ2) else (if what = (0 : Int32) then (if (12 : Int32) ≤ (μ2.1 6 0) then X11_sown_127 n (nI (offN (T 1) (T 2) + w)) what ((-1) : Int32) μ2 else X11_sown_127 n (nI (offN (T 1) (T 2) + w)) what (μ2.1 6 0) μ2) else (if what = (1 : Int32) then some (Sum.inl (μ2.1 6 1), μ2) else (if what = (2 : Int32) then some (Sum.inl (μ2.1 6 2), μ2) else (if what = (3 : Int32) then some (Sum.inl (μ2.1 55 1), μ2) else some (Sum.inr 1, μ2)))))) Q) → Ok (X11_sown n (nI (offN (T 1) (T 2) + w)) what μ) Q := by
      intro Q hq
      unfold X11_sown
      rw [bS o1, hto]
      dsimp only
      rw [if_neg (show ¬ b2i true = 0 by decide), gd_n (by omega) (by decide), nI_clamp (by omega), hS.2 _ (by omega), if_neg (show ¬ nI (cT T (offN (T 1) (T 2) + w)) = (0 : Int32) from fun q => hc0 ((nI_eq (by omega) (by decide)).mp q))]
      refine Ok_b (copy_s n μ (o := 55) (o1 := 53) (by decide) (by decide) (by decide) (by decide) (by decide) hS.1 hS.2) ?_
      rintro _ μ1 ⟨c1, c2, c3⟩
      dsimp only
      refine Ok_b (sowT_s n μ1 (T := T) (o := 55) (by decide) (by decide) hW (GE_o hG.1.1 (c3.1 1 (by decide)) (c3.1 2 (by decide)) (c3.1 3 (by decide))) ⟨c1, c2⟩ hw hf hn) ?_
      rintro a μ2 ⟨_, q1, q2⟩
      refine hq a μ2 q1 (fun l k t c' e => ?_)
      obtain ⟨r1, r2, r3, r4, r5, _⟩ := q2 l k t c' e
      exact ⟨r1, r2, r3, r4, r5⟩
    -- the reference up to its trying
    have ref : ∀ μ1, INT μ1 T → ∀ {Q : Int32 → Mu → Prop}, (∀ μ2, TD μ2 T → μ2.1 171 5 = 0 → SRQ T (T 2) (cT T) w (si μ1 171 5 0) μ2 → Ok (if (μ2.1 171 23) = 0 then (X12_within n (what.toInt64) (0 : Int64) (3 : Int64) μ2).bind (fun r43 => (if r43.1 = 0 then (X12_fails n (3 : Int32) r43.2).bind (fun r51 => some (r51.1, r51.2)) else (if what = 0 then (if (r43.2.1 171 18) = (100 : Int32) then X12_sown_107 n (nI (offN (T 1) (T 2) + w)) what ((-1) : Int32) r43.2 else X12_sown_107 n (nI (offN (T 1) (T 2) + w)) what (r43.2.1 171 18) r43.2) else (if what = (1 : Int32) then X12_sown_107 n (nI (offN (T 1) (T 2) + w)) what (r43.2.1 171 19) r43.2 else (if what = (2 : Int32) then X12_sown_107 n (nI (offN (T 1) (T 2) + w)) what (r43.2.1 171 20) r43.2 else X12_sown_107 n (nI (offN (T 1) (T 2) + w)) what (r43.2.1 171 22) r43.2))))) else (X12_fails n (2 : Int32) μ2).bind (fun r33 => some (r33.1, r33.2))) Q) → Ok (X12_sown n (nI (offN (T 1) (T 2) + w)) what μ1) Q := by
      intro μ1 h1 Q hq
      have t := td_th (v := 0) h1.2.1
      obtain ⟨tf, f1, f2⟩ := isFull_I n _ (nI (offN (T 1) (T 2) + w)) hW t
      have htf : tf = true := f2.mpr hv
      unfold X12_sown
      rw [bS f1, htf]
      dsimp only
      rw [if_neg (show ¬ b2i true = 0 by decide), ← cI_own2 hw]
      refine Ok_b (tries_s n _ hW t hw hf hn) ?_
      rintro _ μ2 ⟨k1, k2⟩
      rw [cI_own2 hw]
      refine hq μ2 (KR_TD k1 t) ?_ k2
      rw [k1.2.2 5 (by omega), si_a]
    rcases mvW_c (T := T) w with hm | ⟨l, k, t, c', hm⟩
    · -- the move is long
      refine CB_mk (x := .inr 2) (k := 2) hI ?_ (fun r e => fr_X11_sown n _ _ μ r e) (by decide +kernel) (fun μ1 e => ⟨μ1, by unfold L_sown; rw [e]; rfl, fun v q => (nomatch q), fun e q => rfl⟩) (Or.inr (by decide)) (fun μ1 h1 ag => ?_) (fun μ1 r e => fr_X12_sown n _ _ μ1 r e) (by decide +kernel)
      · refine cls (fun a μ2 q1 _ => ?_)
        rw [if_pos (by rw [q1 hm]; rfl)]
        exact Ok_r rfl
      · refine ref μ1 h1 (fun μ2 t2 _ sr => ?_)
        rw [sr.2.1 hm, if_neg (show ¬ nI 1 = 0 by decide)]
        unfold X12_fails
        exact Ok_r ⟨si_a, fun v q => (nomatch q), td_th t2⟩
    · obtain ⟨m1, m2, _⟩ := mv_p b6 b1 hW.2.1 hw (ful_t.mp hf).1 (ful_t.mp hf).2 hm
      have cl := cI_lt (T 1) b6 b1 (T 2) hW.2.1 l m1
      have crl := cR_lt (T 1) b6 b1 (T 2) hW.2.1 l m1
      by_cases hr : inR what 0 3
      · obtain ⟨j, _, hj, rfl⟩ := inR_d (by decide) (by decide) hr
        refine CB_mk (x := .inl (snV T l k t j)) (k := 0) hI ?_ (fun r e => fr_X11_sown n _ _ μ r e) (by decide +kernel) (fun μ1 e => ⟨_, by unfold L_sown; rw [e], fun v q => by rw [Sum.inl.inj q], fun e q => nomatch q⟩) (Or.inl ⟨_, rfl⟩) (fun μ1 h1 ag => ?_) (fun μ1 r e => fr_X12_sown n _ _ μ1 r e) (by decide +kernel)
        · refine cls (fun a μ2 _ q2 => ?_)
          obtain ⟨rfl, r2, r3, r4, r5⟩ := q2 l k t c' hm
          rw [if_neg (show ¬ nI 1 = 0 by decide), r3, r4, r5, r2.1, upT_2, i_0, i_1, i_2, i_3, i_12, ifEq (by omega) (by decide), ifEq (by omega) (by decide), ifEq (by omega) (by decide), ifEq (by omega) (by decide), ifLe (by decide) (by omega)]
          unfold X11_sown_127 snV
          by_cases z0 : j = 0
          · rw [if_pos z0, if_pos z0]
            by_cases zl : l = T 1
            · rw [if_pos zl, if_pos (by rw [zl, cl.2.2]; omega)]; exact Ok_r rfl
            · rw [if_neg zl, if_neg (by have := cl.1 zl; omega)]; exact Ok_r rfl
          · rw [if_neg z0, if_neg z0]
            by_cases z1 : j = 1
            · rw [if_pos z1, if_pos z1]; exact Ok_r rfl
            · rw [if_neg z1, if_neg z1]
              by_cases z2 : j = 2
              · rw [if_pos z2, if_pos z2]; exact Ok_r rfl
              · rw [if_neg z2, if_neg z2, if_pos (by omega)]; exact Ok_r rfl
        · refine ref μ1 h1 (fun μ2 t2 z5 sr => ?_)
          obtain ⟨s1, s2, s3, s4, s5, s6, _⟩ := sr.2.2 l k t c' hm
          obtain ⟨tw, w1, w2⟩ := within_I n μ2 (nI j) (a := 0) (b := 3) (x := 0) (y := 3) (by decide) (by decide) rfl rfl
          have htw : tw = true := w2.mpr hr
          rw [s1, if_pos (show nI 0 = 0 from rfl), bS w1, htw]
          dsimp only
          rw [if_neg (show ¬ b2i true = 0 by decide), s2, s3, s4, s6, i_0, i_1, i_2, i_100, ifEq (by omega) (by decide), ifEq (by omega) (by decide), ifEq (by omega) (by decide), ifEq (by omega) (by decide)]
          unfold X12_sown_107 snV
          by_cases z0 : j = 0
          · rw [if_pos z0, if_pos z0]
            unfold cR
            by_cases zl : l = T 1
            · rw [if_pos zl, if_pos rfl, if_pos zl]
              exact Ok_r ⟨z5, fun v q => Sum.inl.inj q, t2⟩
            · rw [if_neg zl, if_neg (show ¬ cI (T 1) (T 2) l = 100 by omega), if_neg zl]
              exact Ok_r ⟨z5, fun v q => Sum.inl.inj q, t2⟩
          · rw [if_neg z0, if_neg z0]
            by_cases z1 : j = 1
            · rw [if_pos z1, if_pos z1]; exact Ok_r ⟨z5, fun v q => Sum.inl.inj q, t2⟩
            · rw [if_neg z1, if_neg z1]
              by_cases z2 : j = 2
              · rw [if_pos z2, if_pos z2]; exact Ok_r ⟨z5, fun v q => Sum.inl.inj q, t2⟩
              · rw [if_neg z2, if_neg z2]; exact Ok_r ⟨z5, fun v q => Sum.inl.inj q, t2⟩
      · have nj : ∀ j, j ≤ 3 → what ≠ nI j := fun j hj e => hr (by rw [e]; exact (inR_j (by decide) (by decide) (by omega)).mpr ⟨by omega, hj⟩)
        refine CB_mk (x := .inr 1) (k := 3) hI ?_ (fun r e => fr_X11_sown n _ _ μ r e) (by decide +kernel) (fun μ1 e => ⟨μ1, by unfold L_sown; rw [e]; rfl, fun v q => (nomatch q), fun e q => rfl⟩) (Or.inr (by decide)) (fun μ1 h1 ag => ?_) (fun μ1 r e => fr_X12_sown n _ _ μ1 r e) (by decide +kernel)
        · refine cls (fun a μ2 _ q2 => ?_)
          obtain ⟨rfl, _⟩ := q2 l k t c' hm
          rw [if_neg (show ¬ nI 1 = 0 by decide), i_0, i_1, i_2, i_3, if_neg (nj 0 (by omega)), if_neg (nj 1 (by omega)), if_neg (nj 2 (by omega)), if_neg (nj 3 (by omega))]
          exact Ok_r rfl
        · refine ref μ1 h1 (fun μ2 t2 z5 sr => ?_)
          obtain ⟨s1, _⟩ := sr.2.2 l k t c' hm
          obtain ⟨tw, w1, w2⟩ := within_I n μ2 what (a := 0) (b := 3) (x := 0) (y := 3) (by decide) (by decide) rfl rfl
          have htw : tw = false := by
            cases tw with
            | false => rfl
            | true => exact absurd (w2.mp rfl) hr
          rw [s1, if_pos (show nI 0 = 0 from rfl), bS w1, htw]
          dsimp only
          rw [if_pos (show b2i false = 0 from rfl)]
          unfold X12_fails
          exact Ok_r ⟨si_a, fun v q => (nomatch q), td_th t2⟩
  · refine CB_mk (x := .inr 0) (k := 1) hI ?_ (fun r e => fr_X11_sown n _ _ μ r e) (by decide +kernel) (fun μ1 e => ⟨μ1, by unfold L_sown; rw [e]; rfl, fun v q => (nomatch q), fun e q => rfl⟩) (Or.inr (by decide)) (fun μ1 h1 ag => ?_) (fun μ1 r e => fr_X12_sown n _ _ μ1 r e) (by decide +kernel)
    · unfold X11_sown X11_sown_28
      rw [bS o1]
      dsimp only
      cases to with
      | false => rw [if_pos (show b2i false = 0 from rfl)]; exact Ok_r rfl
      | true =>
        obtain ⟨w, hw, rfl, hl⟩ := o2.mp rfl
        have hz : cT T (offN (T 1) (T 2) + w) = 0 := by
          refine Decidable.byContradiction (fun z => hv ⟨w, hw, rfl, (ful_0 hW hw).mpr z⟩)
        rw [if_neg (show ¬ b2i true = 0 by decide), gd_n (by omega) (by decide), nI_clamp (by omega), hS.2 _ (by omega), hz, if_pos (show nI 0 = 0 from rfl)]
        exact Ok_r rfl
    · have t := td_th (v := 0) h1.2.1
      obtain ⟨tf, f1, f2⟩ := isFull_I n _ v hW t
      have htf : tf = false := by
        cases tf with
        | false => rfl
        | true => exact absurd (f2.mp rfl) hv
      unfold X12_sown X12_fails
      rw [bS f1, htf]
      dsimp only
      rw [if_pos (show b2i false = 0 from rfl)]
      exact Ok_r ⟨si_a, fun v q => (nomatch q), td_th t⟩
