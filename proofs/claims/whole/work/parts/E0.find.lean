/-! calls: find, most -/
def fnF (p : Nat → Bool) : Nat → Nat → Nat → Option Nat
  | 0, _, _ => none
  | c + 1, i, l => if p i = true then (if l = 0 then some i else fnF p c (i + 1) (l - 1)) else fnF p c (i + 1) l
def fvB (T : Nat → Nat) (a b : Nat) (v : Int32) (c : Nat) : Bool := decide (iv (VL T 41 a b c) = v)
def fnI (T : Nat → Nat) (a b : Nat) (v k : Int32) : Int32 := if k < 0 then -1 else match fnF (fvB T a b v) (Wn (opnN T) b) 0 k.toNatClampNeg with
  | none => -1
  | some i => nI i
theorem fn_y {p : Nat → Bool} {c i l : Nat} (h : p i = true) : fnF p (c + 1) i l = if l = 0 then some i else fnF p c (i + 1) (l - 1) := if_pos h
theorem fn_n {p : Nat → Bool} {c i l : Nat} (h : ¬ p i = true) : fnF p (c + 1) i l = fnF p c (i + 1) l := if_neg h
theorem findC_s (n : Nat) (μ : Mu) {T : Nat → Nat} {S a b : Nat} (v k : Int32) (hW : WF T) (hG : GA μ T) (hV : CV μ T S) (hs : b < S) (ha : a < 2) (hn : 20000 < n) :
    Ok (X11_find_20 n (nI a) (nI b) v k k 0 μ) (fun x μ' => x = .inl (fnI T a b v k) ∧ μ' = μ) := by
  have hS := hV.1
  have h6 : bhS T (b + 1) ≤ 6000 := Nat.le_trans (bh_mo (by omega)) hV.2.1
  rw [bh_s] at h6
  unfold X11_find_20
  rw [i_0]
  refine Ok_lp2 (fun f x5 x6 μ' => ∃ i, i ≤ Wn (opnN T) b ∧ f = Wn (opnN T) b - i ∧ x6 = nI i ∧ μ' = μ ∧ ((k < 0 ∧ x5 = k) ∨ (¬ k < 0 ∧ ∃ l, l < 2 ^ 31 ∧ x5 = nI l ∧ fnF (fvB T a b v) (Wn (opnN T) b - i) i l = fnF (fvB T a b v) (Wn (opnN T) b) 0 k.toNatClampNeg))) ?_ (Wn (opnN T) b) (by omega) ⟨0, by omega, rfl, rfl, rfl, ?_⟩
  · rintro K f x5 x6 μ1 ⟨i, hi, rfl, rfl, rfl, hor⟩ hK
    unfold X11_find_20b X11_find_72 X11_find_78
    rw [bS (posC_s n μ1 hW.1 hG (by omega))]
    dsimp only
    rw [Nat.min_eq_right (by omega), ifLe (by omega) (by omega)]
    rcases hor with ⟨hk, rfl⟩ | ⟨hk, l, hl, rfl, hf⟩
    · have e : fnI T a b v x5 = -1 := if_pos hk
      rw [if_pos hk, e]
      by_cases z : Wn (opnN T) b ≤ i
      · rw [if_pos z]; exact Ok_r ⟨rfl, rfl⟩
      · rw [if_neg z]; exact Ok_r ⟨rfl, rfl⟩
    · have e : fnI T a b v k = match fnF (fvB T a b v) (Wn (opnN T) b) 0 k.toNatClampNeg with
        | none => -1
        | some i => nI i := if_neg hk
      by_cases z : Wn (opnN T) b ≤ i
      · obtain rfl : i = Wn (opnN T) b := by omega
        rw [Nat.sub_self] at hf
        rw [if_pos z, e, ← hf]
        exact Ok_r ⟨rfl, rfl⟩
      · obtain ⟨c', hc'⟩ : ∃ c', Wn (opnN T) b - i = c' + 1 := ⟨Wn (opnN T) b - i - 1, by omega⟩
        obtain ⟨_, hx, w1, w2⟩ := cv_at hV hs ha (show i < Wn (opnN T) b by omega)
        rw [if_neg z, if_neg (nI_pos hl), bS (indexOf_s n μ1 hW.1 hG (by omega) (by omega))]
        dsimp only
        rw [gd_n hx (by decide), nI_clamp (by omega), w1, i_1, nI_add]
        by_cases zv : iv (VL T 41 a b i) = v
        · have hp : fvB T a b v i = true := decide_eq_true zv
          rw [if_pos zv]
          rw [hc', fn_y hp] at hf
          by_cases zl : l = 0
          · rw [if_pos zl] at hf
            rw [zl, if_pos (show nI 0 = 0 from rfl), e, ← hf]
            exact Ok_r ⟨rfl, rfl⟩
          · rw [if_neg zl] at hf
            rw [if_neg (nI_ne0 (by omega) hl), m1_add (by omega)]
            exact hK (Wn (opnN T) b - (i + 1)) _ _ _ (by omega) ⟨i + 1, by omega, rfl, rfl, rfl, Or.inr ⟨hk, l - 1, by omega, rfl, by rw [← hf, show Wn (opnN T) b - (i + 1) = c' by omega]⟩⟩
        · have hp : ¬ fvB T a b v i = true := fun q => zv (of_decide_eq_true q)
          rw [if_neg zv]
          rw [hc', fn_n hp] at hf
          exact hK (Wn (opnN T) b - (i + 1)) _ _ _ (by omega) ⟨i + 1, by omega, rfl, rfl, rfl, Or.inr ⟨hk, l, hl, rfl, by rw [← hf, show Wn (opnN T) b - (i + 1) = c' by omega]⟩⟩
  · by_cases hk : k < 0
    · exact Or.inl ⟨hk, rfl⟩
    · obtain ⟨j, hj, rfl⟩ := nI_of hk
      exact Or.inr ⟨hk, j, hj, rfl, by rw [nI_clamp hj, Nat.sub_zero]⟩
theorem findR_s (n : Nat) (μ : Mu) {T : Nat → Nat} {S a b : Nat} (v k : Int32) (hW : WF T) (hV : RV μ T S) (hs : b < S) (ha : a < 2) (hn : 20000 < n) :
    Ok (X12_find_60 n (nI a) (nI b) v k k 0 μ) (fun x μ' => x = fnI T a b v k ∧ μ' = μ) := by
  obtain ⟨hS, v2, v3, v4, v5⟩ := id hV
  have h6 : bhS T (b + 1) ≤ 6000 := Nat.le_trans (bh_mo (by omega)) hV.2.1
  rw [bh_s] at h6
  unfold X12_find_60
  rw [i_0]
  refine Ok_lp2 (fun f x5 x6 μ' => ∃ i, i ≤ Wn (opnN T) b ∧ f = Wn (opnN T) b - i ∧ x6 = nI i ∧ μ' = μ ∧ ((k < 0 ∧ ∃ j, j ≤ i ∧ x5 = k - nI j) ∨ (¬ k < 0 ∧ ∃ l, l < 2 ^ 31 ∧ x5 = nI l ∧ fnF (fvB T a b v) (Wn (opnN T) b - i) i l = fnF (fvB T a b v) (Wn (opnN T) b) 0 k.toNatClampNeg))) ?_ (Wn (opnN T) b) (by omega) ⟨0, by omega, rfl, rfl, rfl, ?_⟩
  · rintro K f x5 x6 μ1 ⟨i, hi, rfl, rfl, rfl, hor⟩ hK
    unfold X12_find_60b X12_find_111
    rw [i_1, nI_add, gd_n (by omega) (by decide), gd_n (by omega) (by decide), nI_clamp (by omega), nI_clamp (by omega), v4 (b + 1) (by omega), v4 b (by omega), pk_sub (bh_mo (by omega)), bh_s, Nat.add_sub_cancel_left, ifLe (by omega) (by omega)]
    by_cases z : Wn (opnN T) b ≤ i
    · obtain rfl : i = Wn (opnN T) b := by omega
      rw [if_pos z]
      rcases hor with ⟨hk, _⟩ | ⟨hk, l, hl, rfl, hf⟩
      · exact Ok_r ⟨(show fnI T a b v k = -1 from if_pos hk).symm, rfl⟩
      · rw [Nat.sub_self] at hf
        refine Ok_r ⟨?_, rfl⟩
        unfold fnI
        rw [if_neg hk, ← hf]
        rfl
    · obtain ⟨c', hc'⟩ : ∃ c', Wn (opnN T) b - i = c' + 1 := ⟨Wn (opnN T) b - i - 1, by omega⟩
      obtain ⟨_, hx, w1, w2, w3⟩ := rv_at hV hs ha (show i < Wn (opnN T) b by omega)
      rw [if_neg z, bS (seat_s n μ1 (v4 b (by omega)) (by omega))]
      dsimp only
      rw [gd_n hx (by decide), nI_clamp (by omega), w1, nI_add]
      by_cases zv : iv (VL T 41 a b i) = v
      · have hp : fvB T a b v i = true := decide_eq_true zv
        rw [if_pos zv]
        rcases hor with ⟨hk, j, hj, rfl⟩ | ⟨hk, l, hl, rfl, hf⟩
        · have nz : ¬ k - nI j = 0 := by
            intro q
            have : k = nI j := by
              have h2 := congrArg (fun x => x + nI j) q
              rw [Int32.sub_add_cancel, Int32.zero_add] at h2
              exact h2
            rw [this] at hk
            exact absurd hk (nI_pos (by omega))
          rw [if_neg nz]
          refine hK (Wn (opnN T) b - (i + 1)) _ _ _ (by omega) ⟨i + 1, by omega, rfl, rfl, rfl, Or.inl ⟨hk, j + 1, by omega, ?_⟩⟩
          rw [← nI_add, Int32.sub_eq_add_neg, Int32.sub_eq_add_neg, Int32.neg_add, Int32.sub_eq_add_neg, Int32.add_assoc]
        · rw [hc', fn_y hp] at hf
          by_cases zl : l = 0
          · rw [if_pos zl] at hf
            rw [zl, if_pos (show nI 0 = 0 from rfl)]
            refine Ok_r ⟨?_, rfl⟩
            unfold fnI
            rw [if_neg hk, ← hf]
          · rw [if_neg zl] at hf
            rw [if_neg (nI_ne0 (by omega) hl), m1_add (by omega)]
            exact hK (Wn (opnN T) b - (i + 1)) _ _ _ (by omega) ⟨i + 1, by omega, rfl, rfl, rfl, Or.inr ⟨hk, l - 1, by omega, rfl, by rw [← hf, show Wn (opnN T) b - (i + 1) = c' by omega]⟩⟩
      · have hp : ¬ fvB T a b v i = true := fun q => zv (of_decide_eq_true q)
        rw [if_neg zv]
        rcases hor with ⟨hk, j, hj, rfl⟩ | ⟨hk, l, hl, rfl, hf⟩
        · exact hK (Wn (opnN T) b - (i + 1)) _ _ _ (by omega) ⟨i + 1, by omega, rfl, rfl, rfl, Or.inl ⟨hk, j, by omega, rfl⟩⟩
        · rw [hc', fn_n hp] at hf
          exact hK (Wn (opnN T) b - (i + 1)) _ _ _ (by omega) ⟨i + 1, by omega, rfl, rfl, rfl, Or.inr ⟨hk, l, hl, rfl, by rw [← hf, show Wn (opnN T) b - (i + 1) = c' by omega]⟩⟩
  · by_cases hk : k < 0
    · exact Or.inl ⟨hk, 0, by omega, by rw [show nI 0 = 0 from rfl, Int32.sub_zero]⟩
    · obtain ⟨j, hj, rfl⟩ := nI_of hk
      exact Or.inr ⟨hk, j, hj, rfl, by rw [nI_clamp hj, Nat.sub_zero]⟩
theorem call_find (n : Nat) (μ : Mu) (sd s v k : Int32) (h : INV μ) (hn : 20000 < n) : CBx (L_find n sd s v k μ) (X12_find n sd s v k) := by
  obtain ⟨T, hI⟩ := h
  have hW := hI.1.1
  rcases side_d sd with ⟨a, ha, rfl⟩ | ⟨hs1, hs2⟩
  · by_cases hr : inR s 0 40
    · obtain ⟨b, _, hb, rfl⟩ := inR_d (by decide) (by decide) hr
      have ref : ∀ μ1, INT μ1 T → ∀ {Q : Int32 → Mu → Prop}, (∀ μ2, TD μ2 T → RI μ2 → (bhS T (b + 1) ≤ 6000 → ∀ S, b < S → RV μ2 T S → Ok (X12_find_41 n (nI a) (nI b) v k 0 μ2) Q) ∧ (¬ bhS T (b + 1) ≤ 6000 → Ok (X12_find_41 n (nI a) (nI b) v k 3 μ2) Q)) → Ok (X12_find n (nI a) (nI b) v k μ1) Q := by
        intro μ1 h1 Q hq
        unfold X12_find
        rw [bS (isSide_l n μ1 ha)]
        dsimp only
        rw [if_neg (show ¬ b2i true = 0 by decide), bS (within_l n μ1 (b := 40) (y := 40) (by decide) rfl hr)]
        dsimp only
        rw [if_neg (show ¬ b2i true = 0 by decide)]
        refine Ok_b (sol_s n _ h1.1 hb h1.2.1 h1.2.2.2.2.1 hn) ?_
        rintro _ μ2 ⟨rfl, t2, r2, z5, q⟩
        dsimp only
        obtain ⟨q1, q2⟩ := hq μ2 t2 r2
        by_cases z : bhS T (b + 1) ≤ 6000
        · obtain ⟨S, hs, hv⟩ := q z
          rw [decide_eq_true z, if_neg (show ¬ b2i true = 0 by decide)]
          exact q1 z S hs hv
        · rw [decide_eq_false z, if_pos (show b2i false = 0 from rfl)]
          exact q2 z
      by_cases z : bhS T (b + 1) ≤ 6000
      · refine CBs_mk (x := .inl (fnI T a b v k)) (k := 0) hI ?_ (fun r e => fr_X11_find n _ _ _ _ μ r e) (by decide +kernel) (fun μ1 e => ⟨_, by unfold L_find; rw [e], fun v q => by rw [Sum.inl.inj q], fun e q => nomatch q⟩) (Or.inl ⟨_, rfl⟩) (fun μ1 h1 => ?_) (fun μ1 r e => fr_X12_find n _ _ _ _ μ1 r e) (by decide +kernel)
        · unfold X11_find
          rw [thr_l (needSide_l n μ ha), thr_l (needSeeds_l n μ hb)]
          refine thr_ok (needSolved_s n μ hI hb hn) (fun x μ1 q => ?_) (fun e μ1 q => ?_)
          · obtain ⟨c1, n1, ⟨_, _, S, hs, hv⟩ | ⟨q, _⟩⟩ := q
            · refine Ok_m (findC_s n μ1 v k hW n1.1 hv hs ha hn) ?_
              rintro y μ2 ⟨rfl, rfl⟩
              exact ⟨rfl, c1⟩
            · exact absurd z q
          · obtain ⟨_, _, ⟨_, q, _⟩ | ⟨q, _⟩⟩ := q
            · exact nomatch q
            · exact absurd z q
        · refine ref μ1 h1 (fun μ2 t2 r2 => ⟨fun _ S hs hv => ?_, fun q => absurd z q⟩)
          unfold X12_find_41
          rw [si_a, if_pos (show (0 : Int32) ≤ 0 by decide)]
          refine Ok_m (findR_s n _ v k hW (RV_ag hv (Fr_ag th_fr (by decide +kernel))) hs ha hn) ?_
          rintro y μ3 ⟨rfl, rfl⟩
          exact ⟨si_a, fun v q => Sum.inl.inj q, td_th t2, RI_th r2⟩
      · refine CBs_mk (x := .inr 2) (k := 3) hI ?_ (fun r e => fr_X11_find n _ _ _ _ μ r e) (by decide +kernel) (fun μ1 e => ⟨μ1, by unfold L_find; rw [e]; rfl, fun v q => (nomatch q), fun e q => rfl⟩) (Or.inr (by decide)) (fun μ1 h1 => ?_) (fun μ1 r e => fr_X12_find n _ _ _ _ μ1 r e) (by decide +kernel)
        · unfold X11_find
          rw [thr_l (needSide_l n μ ha), thr_l (needSeeds_l n μ hb)]
          refine thr_ok (needSolved_s n μ hI hb hn) (fun x μ1 q => ?_) (fun e μ1 q => ?_)
          · obtain ⟨_, _, ⟨q, _⟩ | ⟨_, q⟩⟩ := q
            · exact absurd q z
            · exact nomatch q
          · obtain ⟨c1, _, ⟨q, _⟩ | ⟨_, q⟩⟩ := q
            · exact absurd q z
            · exact ⟨by rw [Sum.inr.inj q], c1⟩
        · refine ref μ1 h1 (fun μ2 t2 r2 => ⟨fun q => absurd q z, fun _ => ?_⟩)
          unfold X12_find_41
          rw [si_a, if_neg (by decide)]
          exact Ok_r ⟨si_a, fun v q => (nomatch q), td_th t2, RI_th r2⟩
    · refine CBs_mk (x := .inr 1) (k := 2) hI ?_ (fun r e => fr_X11_find n _ _ _ _ μ r e) (by decide +kernel) (fun μ1 e => ⟨μ1, by unfold L_find; rw [e]; rfl, fun v q => (nomatch q), fun e q => rfl⟩) (Or.inr (by decide)) (fun μ1 h1 => ?_) (fun μ1 r e => fr_X12_find n _ _ _ _ μ1 r e) (by decide +kernel)
      · unfold X11_find
        rw [thr_l (needSide_l n μ ha), thr_r (needSeeds_r n μ hr)]
        exact Ok_r ⟨rfl, hI.2.2.2.1⟩
      · unfold X12_find X12_find_41
        rw [bS (isSide_l n μ1 ha)]
        dsimp only
        rw [if_neg (show ¬ b2i true = 0 by decide), bS (within_r n μ1 (b := 40) (y := 40) (by decide) rfl hr)]
        dsimp only
        rw [if_pos (show b2i false = 0 from rfl), si_a, if_neg (by decide)]
        exact Ok_r ⟨si_a, fun v q => (nomatch q), td_th h1.2.1, RI_th h1.2.2.2.2.1⟩
  · refine CBs_mk (x := .inr 0) (k := 1) hI ?_ (fun r e => fr_X11_find n _ _ _ _ μ r e) (by decide +kernel) (fun μ1 e => ⟨μ1, by unfold L_find; rw [e]; rfl, fun v q => (nomatch q), fun e q => rfl⟩) (Or.inr (by decide)) (fun μ1 h1 => ?_) (fun μ1 r e => fr_X12_find n _ _ _ _ μ1 r e) (by decide +kernel)
    · unfold X11_find
      rw [thr_r (needSide_r n μ hs2)]
      exact Ok_r ⟨rfl, hI.2.2.2.1⟩
    · unfold X12_find X12_find_41
      rw [bS (isSide_r n μ1 hs1)]
      dsimp only
      rw [if_pos (show b2i false = 0 from rfl), si_a, if_neg (by decide)]
      exact Ok_r ⟨si_a, fun v q => (nomatch q), td_th h1.2.1, RI_th h1.2.2.2.2.1⟩
