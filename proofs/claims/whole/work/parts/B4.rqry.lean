/-! the reference: its position's seat, worths, best moves -/
theorem seedsNow_s (n : Nat) (μ : Mu) {T : Nat → Nat} (hW : WF T) (hT : TD μ T) (hn : 1000 < n) : X12_seedsNow n μ = some (nI (sT T), μ) := by
  have b6 := hW.1.2.1
  rw [← sT_2 hW]
  unfold X12_seedsNow X12_seedsNow_4
  rw [i_0]
  refine lpF_run (fun _ _ _ => none) (X12_seedsNow_4b n) (fun k (x : Int32 × Int32) => k x.1 x.2 μ) (fun i => (nI (sumF (cT T) i), nI i)) (2 * T 1) _ (fun i hi k => ?_) (fun k => ?_) n (by omega)
  · dsimp only
    rw [X12_seedsNow_4b, bS (pitMany_s n μ (hT 1 (by omega)))]
    dsimp only
    rw [if_neg (fun q => absurd ((nI_leI (by omega) (by omega)).mp q) (by omega)), i_13, nI_add, gd_n (by omega) (by decide), nI_clamp (by omega), hT (13 + i) (by omega), nI_add, i_1, nI_add]
    have : cT T i = T (13 + i) := by unfold cT; rw [if_pos (by omega)]
    rw [sumF, this]
  · dsimp only
    rw [X12_seedsNow_4b, bS (pitMany_s n μ (hT 1 (by omega)))]
    dsimp only
    rw [if_pos ((nI_leI (by omega) (by omega)).mpr (Nat.le_refl _))]
theorem KO_RV {μ μ' : Mu} {T : Nat → Nat} {S : Nat} (h : RV μ T S) (k : KO μ μ') : RV μ' T S := RV_o h (k.2.2 40 (by decide)) (fun o a b c => k.1 o (by omega) (by omega))
theorem tu_HD {μ : Mu} {T : Nat → Nat} (hW : WF T) (hT : TD μ T) : HD (T 1) (tuF μ (2 * T 1)) (cT T) := by
  have b6 := hW.1.2.1
  intro p hp
  rw [tuF_h, if_pos hp, hT (13 + p) (by omega)]
  unfold cT
  rw [if_pos (by omega)]
/-- what seatNow may change -/
def KN (μ μ' : Mu) : Prop := (∀ o, o ≠ 171 → o ≠ 178 → o ≠ 183 → μ'.1 o = μ.1 o) ∧ μ'.2 = μ.2 ∧ (∀ k, k ≠ 31 → μ'.1 171 k = μ.1 171 k)
theorem KN_td {μ μ' : Mu} {T : Nat → Nat} (k : KN μ μ') (h : TD μ T) : TD μ' T := TD_o h (k.1 172 (by decide) (by decide) (by decide))
theorem KN_rv {μ μ' : Mu} {T : Nat → Nat} {S : Nat} (k : KN μ μ') (h : RV μ T S) : RV μ' T S := RV_o h (k.2.2 40 (by decide)) (fun o a b c => k.1 o (by omega) (by omega) (by omega))
theorem seatNow_s (n : Nat) (μ : Mu) {T : Nat → Nat} {S : Nat} (hW : WF T) (hT : TD μ T) (hV : RV μ T S) (hs : sT T ≤ S) (hn : 1000 < n) : Ok (X12_seatNow n μ) (fun a μ' => a = nI (xS T (T 2) (sT T) (kT T)) ∧ KN μ μ') := by
  have b6 := hW.1.2.1
  have h40 := sT_40 hW
  have t1 : TD (tuF μ (2 * T 1)) T := TD_o hT (funext (fun k => tuF_o μ (by decide) _))
  unfold X12_seatNow
  rw [bS (takesUp_s n μ (hT 1 (by omega)) (by omega) (by omega))]
  dsimp only
  rw [bS (seedsNow_s n _ hW t1 hn)]
  dsimp only
  rw [t1 2 (by omega)]
  refine Ok_b (numberOfR_s n _ (c := cT T) hW.1 t1 hW.2.1 (tu_HD hW hT) (fun p a b => cT_z hW p (by omega) (Or.inl b)) (by rw [sT_2 hW]; exact h40) hn) ?_
  rintro _ μ1 ⟨rfl, ko⟩
  dsimp only
  have h189 : μ1.1 189 (sT T) = nI (bhS T (sT T)) := by
    rw [ko.1 189 (by decide) (by decide), tuF_o μ (by decide)]
    exact hV.2.2.2.1 _ hs
  rw [bS (seat_s n μ1 h189 (by omega))]
  refine Ok_r ⟨rfl, fun o a b c => ?_, ?_, fun k hk => ?_⟩
  · rw [ko.1 o a c]; exact funext (fun k => tuF_o μ b _)
  · rw [ko.2.1, tuF_2]
  · rw [ko.2.2 k hk, tuF_o μ (by decide)]
theorem rv_at {μ : Mu} {T : Nat → Nat} {S sd s k : Nat} (h : RV μ T S) (hs : s < S) (hsd : sd < 2) (hk : k < Wn (opnN T) s) : bhS T (s + 1) ≤ 6000 ∧ xS T sd s k < 12000 ∧ μ.1 184 (xS T sd s k) = iv (VL T 41 sd s k) ∧ μ.1 185 (xS T sd s k) = nI (RK T 41 sd s k) ∧ PD μ T sd s k := by
  have h6 : bhS T (s + 1) ≤ 6000 := Nat.le_trans (bh_mo (by omega)) h.2.1
  exact ⟨h6, (xS_lt hsd h6 hk).1, h.2.2.2.2 sd s k hsd hs hk⟩
/-- the worth of a move by the values that were found -/
theorem worthV_s (n : Nat) (μ : Mu) {T : Nat → Nat} {S sd s k w g k' : Nat} {st : Bool} (hW : WF T) (hV : RV μ T S) (hs : s < S) (hsd : sd < 2) (hk : k < Wn (opnN T) s) (hw : w < T 1) (hm : mvD T sd s k w = some (g, st, k')) :
    X12_worthOf n (nI (xS T sd s k)) (nI w) 184 μ = some (iv (woX T s sd (g, st, k')), μ) ∧ μ.1 187 (6 * xS T sd s k + w) = nI (xS T (if st = true then sd else 1 - sd) (s - g) k') ∧ μ.1 188 (6 * xS T sd s k + w) = nI g ∧ (g = 0 → μ.1 185 (xS T (if st = true then sd else 1 - sd) (s - g) k') = nI (RK T 41 (1 - sd) s k')) ∧ xS T (if st = true then sd else 1 - sd) (s - g) k' < 12000 := by
  have b6 := hW.1.2.1
  have hS := hV.1
  obtain ⟨h6, hx, h1, h2, h3⟩ := rv_at hV hs hsd hk
  obtain ⟨p1, p2, p3, _⟩ := mvD_p hW hsd (by omega) hk hw hm
  obtain ⟨m1, m2⟩ := (h3.2 w hw).2 g st k' hm
  have hsd' : (if st = true then sd else 1 - sd) < 2 := by split <;> omega
  obtain ⟨h6', hx', h1', h2', h3'⟩ := rv_at hV (show s - g < S by omega) hsd' p2
  refine ⟨?_, m1, m2, fun e => ?_, hx'⟩
  · rw [worthOf_s n μ (T := T) (by decide) (by decide) hsd hsd' h6 h6' hk p2 (by omega) m1 m2 h1']
    congr 2
    unfold woX woV
    dsimp only
    cases st with
    | true =>
      have hg : 0 < g := by
        rcases Nat.eq_zero_or_pos g with e | e
        · exact Bool.noConfusion (p3 e)
        · exact e
      rw [if_pos rfl, if_pos hg, if_pos rfl, if_pos rfl]
    | false =>
      rw [show (if false = true then sd else 1 - sd) = 1 - sd from if_neg (by decide), if_neg (show ¬ 1 - sd = sd by omega)]
      by_cases hg : 0 < g
      · rw [if_pos hg, if_neg (show ¬ false = true by decide)]
      · rw [if_neg hg]
        have g0 : (g : Int) = 0 := by omega
        rw [g0, Int.zero_add, show g = 0 by omega, Nat.sub_zero]
  · subst e
    rw [h2', p3 rfl, if_neg (by decide), Nat.sub_zero]
theorem bestAtR_s (n : Nat) (μ : Mu) {T : Nat → Nat} {S sd s k : Nat} (hW : WF T) (h172 : μ.1 172 1 = nI (T 1)) (hV : RV μ T S) (hs : s < S) (hsd : sd < 2) (hk : k < Wn (opnN T) s) (hn : 1000 < n) :
    Ok (X12_bestAt n (nI (xS T sd s k)) μ) (fun a μ' => a = bsI T sd s k 0 ∧ μ' = μ) := by
  have b6 := hW.1.2.1
  have hS := hV.1
  obtain ⟨h6, hx, h1, h2, h3⟩ := rv_at hV hs hsd hk
  have vb := VL_b hW 41 (by omega) sd s k hsd (by omega) hk
  unfold X12_bestAt X12_bestAt_7
  rw [i_0, i_1]
  refine Ok_lp3 (fun f x2 x3 x4 μ' => ∃ i, i ≤ T 1 ∧ f = T 1 - i ∧ x4 = nI i ∧ μ' = μ ∧ ((bsF T sd s k i = none ∧ x2 = -nI 1) ∨ ∃ y, bsF T sd s k i = some y ∧ x2 = nI y.1 ∧ x3 = nI y.2)) ?_ (T 1) (by omega) ⟨0, by omega, rfl, rfl, rfl, Or.inl ⟨rfl, rfl⟩⟩
  rintro K f x2 x3 x4 μ2 ⟨i, hi, rfl, rfl, rfl, hor⟩ hK
  unfold X12_bestAt_7b X12_bestAt_124 X12_bestAt_96 X12_bestAt_112 X12_bestAt_118
  rw [h172, ifLe (by omega) (by omega)]
  have fin : i = T 1 → Ok (some (x2, μ2)) (fun a μ' => a = bsI T sd s k 0 ∧ μ' = μ2) := by
    rintro rfl
    refine Ok_r ⟨?_, rfl⟩
    unfold bsI
    rcases hor with ⟨e, rfl⟩ | ⟨y, e, rfl, _⟩
    · rw [e]
    · rw [e]
      dsimp only
      rw [Nat.zero_add]
  by_cases c : T 1 ≤ i
  · rw [if_pos c]
    exact fin (by omega)
  · have hi2 : i < T 1 := by omega
    rw [if_neg c, gd_n hx (by decide), nI_clamp (by omega), h3.1]
    cases hen : enD T sd s k with
    | true =>
      rw [if_neg (show ¬ b2i true = 0 by decide)]
      have all : ∀ j, j ≤ T 1 → bsF T sd s k j = none := by
        intro j
        induction j with
        | zero => intro _; rfl
        | succ j ih =>
          intro hj
          rw [(bs_no (mvD_no ?_)).1, ih (by omega)]
          exact over_no.mp hen j (show j < T 1 by omega)
      refine Ok_r ⟨?_, rfl⟩
      unfold bsI
      rw [all (T 1) (Nat.le_refl _)]
      rcases hor with ⟨e, rfl⟩ | ⟨y, e, _, _⟩
      · rfl
      · rw [all i (by omega)] at e; exact nomatch e
    | false =>
      rw [if_pos (show b2i false = 0 from rfl), i_6, pk_mul, nI_add, gd_n (by omega) (by decide), nI_clamp (by omega)]
      cases hm : mvD T sd s k i with
      | none =>
        rw [(h3.2 i hi2).1 hm, i_1, if_pos rfl, nI_add]
        refine hK (T 1 - (i + 1)) _ _ _ _ (by omega) ⟨i + 1, by omega, rfl, rfl, rfl, ?_⟩
        rw [(bs_no hm).1]
        exact hor
      | some x =>
        obtain ⟨g, st, k'⟩ := x
        obtain ⟨w1, w2, w3, w4, w5⟩ := worthV_s n μ2 hW hV hs hsd hk hi2 hm
        have wb := wo_b hW hsd (by omega) hk hi2 hm
        have hr := rkX_lt (T := T) (s := s) (sd := sd) (x := (g, st, k')) (by omega)
        obtain ⟨p1, _⟩ := mvD_p hW hsd (by omega) hk hi2 hm
        rw [w2, i_1, if_neg (fun q => (eq_m1 (by omega)).mp q), bS w1]
        dsimp only
        rw [h1, ifIff (iv_eq (by omega) (by omega) (by omega) (by omega)), w3, nI_add]
        have step : woX T s sd (g, st, k') = VL T 41 sd s k → ∀ rk, rk = rkX T s sd (g, st, k') → Ok (if x2 = -nI 1 then K (nI i) (nI rk) (nI (i + 1)) μ2 else if nI rk < x3 then K (nI i) (nI rk) (nI (i + 1)) μ2 else K x2 x3 (nI (i + 1)) μ2) (fun a μ' => a = bsI T sd s k 0 ∧ μ' = μ2) := by
          intro z rk erk
          rcases hor with ⟨e, rfl⟩ | ⟨y, e, rfl, rfl⟩
          · rw [if_pos rfl]
            exact hK (T 1 - (i + 1)) _ _ _ _ (by omega) ⟨i + 1, by omega, rfl, rfl, rfl, Or.inr ⟨_, bs_e0 hm z e, rfl, by rw [erk]⟩⟩
          · obtain ⟨b1, x', _, b3⟩ := bs_lt i y e
            have hr2 := rkX_lt (T := T) (s := s) (sd := sd) (x := x') (by omega)
            rw [if_neg (fun q => (eq_m1 (by omega)).mp q), ifLt (by omega) (by omega)]
            by_cases z2 : rk < y.2
            · rw [if_pos z2]
              exact hK (T 1 - (i + 1)) _ _ _ _ (by omega) ⟨i + 1, by omega, rfl, rfl, rfl, Or.inr ⟨_, by rw [bs_e1 hm z e, if_pos (by omega)], rfl, by rw [erk]⟩⟩
            · rw [if_neg z2]
              exact hK (T 1 - (i + 1)) _ _ _ _ (by omega) ⟨i + 1, by omega, rfl, rfl, rfl, Or.inr ⟨y, by rw [bs_e1 hm z e, if_neg (by omega)], rfl, rfl⟩⟩
        by_cases z : woX T s sd (g, st, k') = VL T 41 sd s k
        · rw [if_pos z]
          by_cases hg : 0 < g
          · rw [if_neg (nI_nle hg (by omega)), i_0]
            exact step z 0 (by unfold rkX; dsimp only; rw [if_pos hg])
          · obtain rfl : g = 0 := by omega
            rw [if_pos (show nI 0 ≤ 0 by decide), gd_n w5 (by decide), nI_clamp (by omega), w4 rfl]
            exact step z _ (by unfold rkX; dsimp only; rw [if_neg (by decide)])
        · rw [if_neg z]
          refine hK (T 1 - (i + 1)) _ _ _ _ (by omega) ⟨i + 1, by omega, rfl, rfl, rfl, ?_⟩
          rw [(bs_ne hm z).1]
          exact hor
theorem bs_off {T : Nat → Nat} {sd s k off : Nat} (b6 : T 1 < 7) : (bsI T sd s k 0 = -nI 1 → bsI T sd s k off = -nI 1) ∧ (bsI T sd s k 0 ≠ -nI 1 → bsI T sd s k 0 + nI off = bsI T sd s k off) := by
  unfold bsI
  cases e : bsF T sd s k (T 1) with
  | none => exact ⟨fun _ => rfl, fun q => absurd rfl q⟩
  | some y =>
    dsimp only
    have := (bs_lt _ y e).1
    refine ⟨fun q => absurd ((eq_m1 (by omega)).mp q) id, fun _ => ?_⟩
    rw [nI_add, Nat.zero_add, Nat.add_comm]
theorem bestNow_s (n : Nat) (μ : Mu) {T : Nat → Nat} {S : Nat} (hW : WF T) (hT : TD μ T) (hV : RV μ T S) (hs : sT T < S) (hn : 1000 < n) : Ok (X12_bestNow n μ) (fun a μ' => a = bsI T (T 2) (sT T) (kT T) (offN (T 1) (T 2)) ∧ KN μ μ') := by
  have b6 := hW.1.2.1
  unfold X12_bestNow
  refine Ok_b (seatNow_s n μ hW hT hV (by omega) hn) ?_
  rintro _ μ1 ⟨rfl, kn⟩
  dsimp only
  have t1 := KN_td kn hT
  refine Ok_b (bestAtR_s n μ1 hW (t1 1 (by omega)) (KN_rv kn hV) hs hW.2.1 (kT_lt hW) hn) ?_
  rintro _ μ2 ⟨rfl, rfl⟩
  dsimp only
  unfold X12_bestNow_38 X12_bestNow_39
  obtain ⟨o1, o2⟩ := bs_off (T := T) (sd := T 2) (s := sT T) (k := kT T) (off := offN (T 1) (T 2)) b6
  rw [i_1]
  by_cases z : bsI T (T 2) (sT T) (kT T) 0 = -nI 1
  · rw [if_pos z]
    exact Ok_r ⟨(o1 z).symm, kn⟩
  · rw [if_neg z, t1 2 (by omega), t1 1 (by omega), ← o2 z]
    by_cases z2 : T 2 = 0
    · rw [z2, if_pos (show nI 0 = 0 from rfl), i_0]
      exact Ok_r ⟨rfl, kn⟩
    · have h2 : T 2 = 1 := by have := hW.2.1; omega
      rw [h2, if_neg (show ¬ nI 1 = 0 by decide)]
      exact Ok_r ⟨rfl, kn⟩
theorem canAt_s (n : Nat) (μ : Mu) {T : Nat → Nat} {S sd s k : Nat} {well : Bool} (hW : WF T) (h172 : μ.1 172 1 = nI (T 1)) (hV : RV μ T S) (hs : s < S) (hsd : sd < 2) (hk : k < Wn (opnN T) s) (hn : 1000 < n) :
    Ok (X12_canAt n (nI (xS T sd s k)) (b2i well) μ) (fun a μ' => a = nI (if well = true then mbF T sd s k (T 1) else mcF T sd s k (T 1)) ∧ μ' = μ) := by
  have b6 := hW.1.2.1
  have hS := hV.1
  obtain ⟨h6, hx, h1, h2, h3⟩ := rv_at hV hs hsd hk
  have vb := VL_b hW 41 (by omega) sd s k hsd (by omega) hk
  unfold X12_canAt X12_canAt_5
  rw [i_0]
  refine Ok_lp2 (fun f x3 x4 μ' => ∃ i, i ≤ T 1 ∧ f = T 1 - i ∧ x4 = nI i ∧ μ' = μ ∧ x3 = nI (if well = true then mbF T sd s k i else mcF T sd s k i)) ?_ (T 1) (by omega) ⟨0, by omega, rfl, rfl, rfl, by cases well <;> rfl⟩
  rintro K f x3 x4 μ2 ⟨i, hi, rfl, rfl, rfl, rfl⟩ hK
  unfold X12_canAt_5b X12_canAt_57 X12_canAt_61 X12_canAt_62
  rw [h172, ifLe (by omega) (by omega)]
  by_cases c : T 1 ≤ i
  · obtain rfl : i = T 1 := by omega
    rw [if_pos c]
    exact Ok_r ⟨rfl, rfl⟩
  · have hi2 : i < T 1 := by omega
    rw [if_neg c, i_6, pk_mul, nI_add, gd_n (by omega) (by decide), nI_clamp (by omega)]
    cases hm : mvD T sd s k i with
    | none =>
      rw [(h3.2 i hi2).1 hm, i_1, if_pos rfl, nI_add, i_0, nI_add, Nat.add_zero]
      refine hK (T 1 - (i + 1)) _ _ _ (by omega) ⟨i + 1, by omega, rfl, rfl, rfl, ?_⟩
      rw [(bs_no hm).2.1, (bs_no hm).2.2]
    | some x =>
      obtain ⟨g, st, k'⟩ := x
      obtain ⟨w1, w2, w3, w4, w5⟩ := worthV_s n μ2 hW hV hs hsd hk hi2 hm
      have wb := wo_b hW hsd (by omega) hk hi2 hm
      rw [w2, i_1, if_neg (fun q => (eq_m1 (by omega)).mp q), nI_add]
      cases well with
      | false =>
        rw [if_pos (show b2i false = 0 from rfl), nI_add]
        refine hK (T 1 - (i + 1)) _ _ _ (by omega) ⟨i + 1, by omega, rfl, rfl, rfl, ?_⟩
        rw [if_neg (by decide), if_neg (by decide), mc_e hm]
      | true =>
        rw [if_neg (show ¬ b2i true = 0 by decide), bS w1]
        dsimp only
        rw [gd_n hx (by decide), nI_clamp (by omega), h1, ifIff (iv_eq (by omega) (by omega) (by omega) (by omega))]
        by_cases z : woX T s sd (g, st, k') = VL T 41 sd s k
        · rw [if_pos z, nI_add]
          refine hK (T 1 - (i + 1)) _ _ _ (by omega) ⟨i + 1, by omega, rfl, rfl, rfl, ?_⟩
          rw [if_pos rfl, if_pos rfl, mb_e hm z]
        · rw [if_neg z, i_0, nI_add, nI_add, Nat.add_zero]
          refine hK (T 1 - (i + 1)) _ _ _ (by omega) ⟨i + 1, by omega, rfl, rfl, rfl, ?_⟩
          rw [if_pos rfl, if_pos rfl, (bs_ne hm z).2]
