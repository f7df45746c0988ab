/-! playing on by draws, and by best moves -/
theorem nI_bv (x : Int32) : nI x.toBitVec.toNat = x := by
  apply Int32.toBitVec_inj.mp
  exact BitVec.ofNat_toNat 32 x.toBitVec |>.trans (BitVec.setWidth_eq x.toBitVec)
def drX (x : Int32) : Int32 := (1103515245 : Int32) * x + (12345 : Int32)
def drN (x : Int32) : Nat := x.toBitVec.toNat / 2 ^ 16
theorem dr_e (x : Int32) : (x.toUInt32 >>> ((16 : Int32).toUInt32 &&& Int32.toUInt32 31)).toInt32 = nI (drN x) := by
  have := pk_ushrN (n := x.toBitVec.toNat) x.toBitVec.isLt 16 16 (by decide)
  rw [nI_bv] at this
  exact this
theorem dr_lt (x : Int32) : drN x < 65536 := by
  have := x.toBitVec.isLt
  unfold drN
  omega
/-! a solved position that hasn't ended has a best move -/
theorem bs_nn {T : Nat → Nat} {sd s k : Nat} : ∀ i, bsF T sd s k i = none → ∀ w, w < i → ∀ x, mvD T sd s k w = some x → woX T s sd x ≠ VL T 41 sd s k := by
  intro i
  induction i with
  | zero => intro _ w hw; omega
  | succ i ih =>
    intro h w hw x hx
    cases hm : mvD T sd s k i with
    | none =>
      rw [(bs_no hm).1] at h
      by_cases z : w = i
      · rw [z, hm] at hx; exact nomatch hx
      · exact ih h w (by omega) x hx
    | some y =>
      by_cases hv : woX T s sd y = VL T 41 sd s k
      · cases hb : bsF T sd s k i with
        | none => rw [bs_e0 hm hv hb] at h; exact nomatch h
        | some z =>
          rw [bs_e1 hm hv hb] at h
          split at h <;> exact nomatch h
      · rw [(bs_ne hm hv).1] at h
        by_cases z : w = i
        · rw [z, hm] at hx
          rw [← Option.some.inj hx]
          exact hv
        · exact ih h w (by omega) x hx
theorem bs_ex {T : Nat → Nat} {sd s k : Nat} (hW : WF T) (hsd : sd < 2) (h40 : s ≤ 40) (h6 : bhS T (s + 1) ≤ 6000) (hk : k < Wn (opnN T) s) (hen : enD T sd s k = false) : bsF T sd s k (T 1) ≠ none := by
  intro hno
  have b6 := hW.1.2.1
  have hop := opn_le (T := T)
  have h3 : Wn (opnN T) s ≤ 3003 := W_3003 (by omega) h6
  have lo := VL_b hW s (by omega)
  have eV : ∀ a c, VL T 41 a s c = itV T s (VL T s) 6007 a c := fun a c => by rw [(VL_lo (s + 1) 41 (Nat.lt_succ_self s) (by omega)).1, VL_e]
  have fx := it_end hW h40 lo (r := 6007) (by omega) sd k hsd hk
  have fx2 : itV T s (VL T s) (6007 + 1) sd k = mxV (fmV T s (VL T s) (itV T s (VL T s) 6007) sd k) (T 1) := by
    show stV T s (VL T s) (itV T s (VL T s) 6007) sd k = _
    unfold stV
    rw [hen, if_neg (by decide)]
  have vb := VL_b hW 41 (by omega) sd s k hsd (by omega) hk
  rw [eV] at vb
  have q := fx2.symm.trans fx
  obtain ⟨w, hw, y, hy, hle⟩ := (mx_ge (f := fmV T s (VL T s) (itV T s (VL T s) 6007) sd k) (z := itV T s (VL T s) 6007 sd k) (by omega) (T 1)).mp (by omega)
  have hge := ((mx_le (f := fmV T s (VL T s) (itV T s (VL T s) 6007) sd k) (z := itV T s (VL T s) 6007 sd k) (T 1)).mp (by omega)).2 w hw y hy
  unfold fmV at hy
  cases hm : mvD T sd s k w with
  | none => rw [hm] at hy; exact nomatch hy
  | some x =>
    rw [hm] at hy
    have hy2 : woV s (VL T s) (itV T s (VL T s) 6007) sd x = y := Option.some.inj hy
    obtain ⟨p1, _⟩ := mvD_p hW hsd h40 hk hw (show mvD T sd s k w = some (x.1, x.2.1, x.2.2) from hm)
    refine bs_nn (T 1) hno w hw x hm ?_
    rw [eV]
    have : woX T s sd x = y := by
      rw [← hy2]
      unfold woX woV
      by_cases g : 0 < x.1
      · rw [if_pos g, if_pos g, (VL_lo s 41 (show s - x.1 < s by omega) (by omega)).1, (VL_lo s 41 (show s - x.1 < s by omega) (by omega)).1]
      · rw [if_neg g, if_neg g]
        show -VL T 41 (1 - sd) s x.2.2 = _
        rw [eV]
    omega
def bsP (T : Nat → Nat) : Option Nat := (bsF T (T 2) (sT T) (kT T) (T 1)).bind (fun y => some (offN (T 1) (T 2) + y.1))
theorem bsI_P {T : Nat → Nat} : bsI T (T 2) (sT T) (kT T) (offN (T 1) (T 2)) = oI (bsP T) := by
  unfold bsI bsP
  cases bsF T (T 2) (sT T) (kT T) (T 1) with
  | none => rfl
  | some y => rfl
theorem bsP_t {T : Nat → Nat} {p : Nat} (hW : WF T) (h : bsP T = some p) : canP T p = true ∧ p < 12 := by
  have b6 := hW.1.2.1
  unfold bsP at h
  cases e : bsF T (T 2) (sT T) (kT T) (T 1) with
  | none => rw [e] at h; exact nomatch h
  | some y =>
    rw [e] at h
    obtain ⟨h1, x, h2, _⟩ := bs_lt _ y e
    have hc : canP T p = true := canP_t.mpr ⟨y.1, h1, (Option.some.inj h).symm, by
      cases hc : canW T y.1 with
      | true => rfl
      | false => rw [mvD_nno hW h1 hc] at h2; exact nomatch h2⟩
    have := canP_lt hc
    exact ⟨hc, by omega⟩
theorem bsP_n {T : Nat → Nat} (hW : WF T) (h6 : bhS T (sT T + 1) ≤ 6000) : bsP T = none ↔ overT T = true := by
  constructor
  · intro h
    cases ho : overT T with
    | true => rfl
    | false =>
      exfalso
      refine bs_ex hW hW.2.1 (sT_40 hW) h6 (kT_lt hW) (by rw [en_now hW]; exact ho) ?_
      unfold bsP at h
      cases e : bsF T (T 2) (sT T) (kT T) (T 1) with
      | none => rfl
      | some y => rw [e] at h; exact nomatch h
  · intro h
    cases e : bsP T with
    | none => rfl
    | some p =>
      obtain ⟨w, hw, _, hc⟩ := canP_t.mp (bsP_t hW e).1
      rw [over_no.mp h w hw] at hc
      exact nomatch hc
/-! the walk -/
def spP (b : Bool) (T : Nat → Nat) (x : Int32) : Option Nat := if b = true ∧ T 2 = 1 then bsP T else pkP T (drN (drX x))
def spX (b : Bool) (T : Nat → Nat) (x : Int32) : Int32 := if b = true ∧ T 2 = 1 then x else drX x
def plF (b : Bool) : Nat → (Nat → Nat) → Int32 → Nat × (Nat → Nat)
  | 0, T, _ => (0, T)
  | c + 1, T, x => match spP b T x with
    | none => (0, T)
    | some p => ((plF b c (nxB T p) (spX b T x)).1 + 1, (plF b c (nxB T p) (spX b T x)).2)
theorem pl_n {b : Bool} {c : Nat} {T : Nat → Nat} {x : Int32} (h : spP b T x = none) : plF b (c + 1) T x = (0, T) := by rw [plF, h]
theorem pl_s {b : Bool} {c p : Nat} {T : Nat → Nat} {x : Int32} (h : spP b T x = some p) : plF b (c + 1) T x = ((plF b c (nxB T p) (spX b T x)).1 + 1, (plF b c (nxB T p) (spX b T x)).2) := by rw [plF, h]
theorem sp_t {b : Bool} {T : Nat → Nat} {x : Int32} {p : Nat} (hW : WF T) (h : spP b T x = some p) : canP T p = true ∧ p < 12 := by
  unfold spP at h
  split at h
  · exact bsP_t hW h
  · exact pk_t h
theorem sp_n {b : Bool} {T : Nat → Nat} {x : Int32} (hW : WF T) (h6 : b = true → bhS T (sT T + 1) ≤ 6000) : spP b T x = none ↔ overT T = true := by
  unfold spP
  split
  · rename_i h; exact bsP_n hW (h6 h.1)
  · exact pk_n hW.1.2.1
def plA (b : Bool) (T : Nat → Nat) (x : Int32) (w : Nat) : Int32 := if w = 0 then scI (plF b 100 T x).2 else if w = 1 then nI (plF b 100 T x).1 else b2i (overT (plF b 100 T x).2)
/-- seeds don't grow -/
theorem sT_nx {T : Nat → Nat} {p : Nat} (hT : W1 T) (hp : canP T p = true) : sT (nxB T p) ≤ sT T := by
  obtain ⟨w, l, k, t, c', hw, rfl, hc, hf, hm, e, _⟩ := nxB_d hT hp
  have hW := hT.1
  obtain ⟨p1, p2, p3, p4, p5, p6⟩ := mv_p hW.1.2.1 hW.1.1 hW.2.1 hw (ful_t.mp hf).1 (ful_t.mp hf).2 hm
  rw [sum14, sum14] at p3
  rw [e, sT_up]
  have hs : sT T = sumF (cT T) 12 := rfl
  obtain z | z : T 2 = 0 ∨ T 2 = 1 := by have := hW.2.1; omega
  all_goals
    rw [z] at p4 p5
    simp only [Nat.add_zero, Nat.sub_zero, Nat.reduceAdd, Nat.reduceSub] at p4 p5
    omega
/-! the class plays on -/
def D_gb : List (Nat × Nat × Nat) := [(1, 5, 9999), (15, 15, 7), (16, 17, 9999), (22, 24, 9999), (153, 154, 9999)]
theorem gb_ag {μ μ' : Mu} {T : Nat → Nat} (g : AG D_gb μ μ') (hG : GA μ T) (hS : SC μ 153 T) : GA μ' T ∧ SC μ' 153 T ∧ μ'.1 22 = μ.1 22 ∧ μ'.1 23 = μ.1 23 ∧ μ'.1 24 = μ.1 24 ∧ ∀ T' S, CV μ T' S → CV μ' T' S := by
  refine ⟨GA_o hG (fun o a b => (g.o o 1 5 (by decide) a b).1), SC_o hS (g.o 153 153 154 (by decide) (by decide) (by decide)).1 (g.o 154 153 154 (by decide) (by decide) (by decide)).1, (g.o 22 22 24 (by decide) (by decide) (by decide)).1, (g.o 23 22 24 (by decide) (by decide) (by decide)).1, (g.o 24 22 24 (by decide) (by decide) (by decide)).1, fun T' S h => CV_o h (g.f 15 7 (by decide)).1 (g.o 16 16 17 (by decide) (by decide) (by decide)).1 (g.o 17 16 17 (by decide) (by decide) (by decide)).1⟩
theorem CV_kg {μ μ' : Mu} {T : Nat → Nat} {S : Nat} (h : CV μ T S) (k : KP KG μ μ') : CV μ' T S := CV_o h (by rw [k.1 15 (by unfold KG; omega)]) (k.1 16 (by unfold KG; omega)) (k.1 17 (by unfold KG; omega))
theorem GA_kg {μ μ' : Mu} {T : Nat → Nat} (h : GA μ T) (k : KP KG μ μ') : GA μ' T := GA_o h (fun o a b => k.1 o (by unfold KG; omega))
theorem CV_rs {μ μ' : Mu} {T : Nat → Nat} {S : Nat} (h : CV μ T S) (k : KP RS μ μ') : CV μ' T S := CV_o h (by rw [k.1 15 (by unfold RS; omega)]) (k.1 16 (by unfold RS; omega)) (k.1 17 (by unfold RS; omega))
theorem GA_rs {μ μ' : Mu} {T : Nat → Nat} (h : GA μ T) (k : KP RS μ μ') : GA μ' T := GA_o h (fun o a b => k.1 o (by unfold RS; omega))
theorem goBy_s (n : Nat) (μ : Mu) (x : Int32) {b : Bool} {T : Nat → Nat} {S : Nat} (hT : W1 T) (hN : NOW μ T) (hV : b = true → sT T < S ∧ CV μ T S) (hn : 1000 < n) :
    Ok (X10_goByDraws n 53 x (b2i b) μ) (fun _ μ' => W1 (plF b 100 T x).2 ∧ GE μ' (plF b 100 T x).2 ∧ SC μ' 153 (plF b 100 T x).2 ∧ μ'.1 22 2 = nI (plF b 100 T x).1) := by
  unfold X10_goByDraws
  rw [kd_of (by decide)]
  refine Ok_b (begin_s n μ hN) ?_
  rintro _ μ1 ⟨b1, b2, _, b4⟩
  dsimp only
  unfold X10_goByDraws_11
  rw [i_0]
  refine Ok_lp2 (fun f x4 x5 μ' => ∃ i Tc, i ≤ 100 ∧ f = 100 - i ∧ x5 = nI i ∧ W1 Tc ∧ GA μ' Tc ∧ SC μ' 153 Tc ∧ μ'.1 22 2 = nI i ∧ (b = true → sT Tc < S ∧ CV μ' Tc S) ∧ i + (plF b (100 - i) Tc x4).1 = (plF b 100 T x).1 ∧ (plF b (100 - i) Tc x4).2 = (plF b 100 T x).2) ?_ 100 (by omega) ⟨0, T, by omega, rfl, rfl, hT, GA_kg hN.1 b4, b1, b2, fun q => ⟨(hV q).1, CV_kg (hV q).2 b4⟩, Nat.zero_add _, rfl⟩
  rintro K f x4 x5 μ2 ⟨i, Tc, hi, rfl, rfl, hTc, hGc, hSc, h22, hVc, hf1, hf2⟩ hK
  have hWc := hTc.1
  unfold X10_goByDraws_11b
  rw [i_100, ifLe (by decide) (by omega)]
  by_cases c : 100 ≤ i
  · obtain rfl : i = 100 := by omega
    rw [if_pos c]
    have e0 : plF b (100 - 100) Tc x4 = (0, Tc) := rfl
    rw [e0] at hf1 hf2
    have hf2' : Tc = (plF b 100 T x).2 := hf2
    have hf1' : 100 = (plF b 100 T x).1 := hf1
    refine Ok_r ?_
    rw [← hf2', ← hf1']
    exact ⟨hTc, hGc.1.1, hSc, h22⟩
  · obtain ⟨c', hc'⟩ : ∃ c', 100 - i = c' + 1 := ⟨100 - i - 1, by omega⟩
    rw [if_neg c]
    rw [hc'] at hf1 hf2
    -- what follows the choice of a pit
    have nxt : ∀ μ3, GA μ3 Tc → SC μ3 153 Tc → μ3.1 22 = μ2.1 22 → (b = true → CV μ3 Tc S) → Ok (X10_goByDraws_81 n 53 x (b2i b) K (spX b Tc x4) (nI i) (oI (spP b Tc x4)) μ3) (fun _ μ' => W1 (plF b 100 T x).2 ∧ GE μ' (plF b 100 T x).2 ∧ SC μ' 153 (plF b 100 T x).2 ∧ μ'.1 22 2 = nI (plF b 100 T x).1) := by
      intro μ3 g3 s3 e22 v3
      unfold X10_goByDraws_81
      cases hp : spP b Tc x4 with
      | none =>
        rw [pl_n hp] at hf1 hf2
        have hf2' : Tc = (plF b 100 T x).2 := hf2
        have hf1' : i = (plF b 100 T x).1 := hf1
        rw [i_1, if_pos (show oI none = -nI 1 from rfl)]
        refine Ok_r ?_
        rw [← hf2', ← hf1']
        exact ⟨hTc, g3.1.1, s3, by rw [e22]; exact h22⟩
      | some p =>
        obtain ⟨n2, n3⟩ := sp_t hWc hp
        obtain ⟨_, _, _, _, _, _, _, _, _, _, _, w1, re, _⟩ := nxB_d hTc n2
        rw [pl_s hp] at hf1 hf2
        rw [i_1, oI_s, if_neg (fun z => (eq_m1 (by omega)).mp z)]
        refine Ok_b (go_s n μ3 hTc g3.1.1 s3 n2 (by rw [e22]; exact h22) (by omega) hn) ?_
        rintro _ μ5 ⟨q1, q2, _, _, _, q6⟩
        dsimp only
        rw [nI_add]
        have sn := sT_nx hTc n2
        refine hK (100 - (i + 1)) _ _ _ (by omega) ⟨i + 1, nxB Tc p, by omega, rfl, rfl, w1, GA_re re (GA_kg g3 q6), q1, q2, fun q => ⟨by have := (hVc q).1; omega, CV_re re.sy w1.1 (CV_kg (v3 q) q6)⟩, ?_, ?_⟩
        · rw [← hf1, show 100 - (i + 1) = c' by omega]
          dsimp only
          omega
        · rw [← hf2, show 100 - (i + 1) = c' by omega]
    have drw : ¬ (b = true ∧ Tc 2 = 1) → Ok (X10_goByDraws_49 n 53 x (b2i b) K x4 (nI i) μ2) (fun _ μ' => W1 (plF b 100 T x).2 ∧ GE μ' (plF b 100 T x).2 ∧ SC μ' 153 (plF b 100 T x).2 ∧ μ'.1 22 2 = nI (plF b 100 T x).1) := by
      intro no
      unfold X10_goByDraws_49
      refine Ok_b (choices_s n μ2 os153 hWc hGc.1.1 hSc hn) ?_
      rintro _ μ3 ⟨k3, B, rfl, cb⟩
      dsimp only
      have e1 : ((1103515245 : Int32) * x4) + (12345 : Int32) = drX x4 := rfl
      rw [e1, dr_e]
      have hlt := dr_lt (drX x4)
      refine Ok_b (pick_s n μ3 (dr := drN (drX x4)) cb (by omega) hn) ?_
      rintro _ μ4 ⟨rfl, rfl⟩
      dsimp only
      have := nxt μ4 (GA_rs hGc k3) (SC_o hSc (k3.1 153 (by unfold RS; omega)) (k3.1 154 (by unfold RS; omega))) (k3.1 22 (by unfold RS; omega)) (fun q => CV_rs (hVc q).2 k3)
      rw [show spX b Tc x4 = drX x4 from if_neg no, show spP b Tc x4 = pkP Tc (drN (drX x4)) from if_neg no] at this
      exact this
    cases b with
    | false =>
      rw [if_pos (show b2i false = 0 from rfl)]
      exact drw (fun q => nomatch q.1)
    | true =>
      rw [if_neg (show ¬ b2i true = 0 by decide), hSc.1, i_1, ifEq (by have := hWc.2.1; omega) (by decide)]
      by_cases z : Tc 2 = 1
      · rw [if_pos z]
        obtain ⟨v1, v2⟩ := hVc rfl
        obtain ⟨a, μ3, e3, rfl⟩ := bestAt_s n μ2 os153 hWc hGc hSc v2 v1 hn
        obtain ⟨g1, g2, g3, _, _, g6⟩ := gb_ag (Fr_ag (fr_X7_bestAt n _ μ2 _ e3) (by decide +kernel)) hGc hSc
        rw [bS e3]
        dsimp only
        rw [bsI_P]
        have := nxt μ3 g1 g2 g3 (fun _ => g6 _ _ v2)
        rw [show spX true Tc x4 = x4 from if_pos ⟨rfl, z⟩, show spP true Tc x4 = bsP Tc from if_pos ⟨rfl, z⟩] at this
        exact this
      · rw [if_neg z]
        exact drw (fun q => z q.2)
theorem told_s (n : Nat) (μ : Mu) {b : Bool} {T : Nat → Nat} {x : Int32} {w : Nat} (hw : w ≤ 2) (hT : W1 (plF b 100 T x).2) (hG : GE μ (plF b 100 T x).2) (hS : SC μ 153 (plF b 100 T x).2) (h22 : μ.1 22 2 = nI (plF b 100 T x).1) (hn : 1000 < n) : Ok (X11_toldOfPlay n (nI w) μ) (fun a _ => a = plA b T x w) := by
  unfold X11_toldOfPlay X11_toldOfPlay_73 plA
  rw [i_0, i_1, ifEq (by omega) (by decide), ifEq (by omega) (by decide)]
  by_cases z0 : w = 0
  · rw [if_pos z0, if_pos z0]
    refine Ok_b (scoreOf_s n μ os153 hT.1 hG hS hn) ?_
    rintro _ μ1 ⟨_, rfl⟩
    exact Ok_r rfl
  · rw [if_neg z0, if_neg z0]
    by_cases z1 : w = 1
    · rw [if_pos z1, if_pos z1]
      exact Ok_r h22
    · rw [if_neg z1, if_neg z1]
      refine Ok_b (isOverC_s n μ os153 hT.1 hG hS hn) ?_
      rintro _ μ1 ⟨_, rfl⟩
      dsimp only
      cases overT (plF b 100 T x).2 with
      | false => rw [if_pos (show b2i false = nI 0 from rfl)]; exact Ok_r rfl
      | true => rw [if_neg (show ¬ b2i true = nI 0 by decide)]; exact Ok_r rfl
