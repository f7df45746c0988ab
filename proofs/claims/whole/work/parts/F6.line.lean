/-! the line of best moves -/
def bdF (T : Nat → Nat) : Nat → Nat → Nat
  | 0 => T
  | i + 1 => nxB (bdF T i) ((bsP (bdF T i)).getD 0)
def mkN (T : Nat → Nat) : Nat := 2 * (bhS T (sT T) + kT T) + T 2
def stN (T : Nat → Nat) : Nat := xS T (T 2) (sT T) (kT T)
def rgB (m : Nat → Nat) (i : Nat) : Bool := decide (∃ j, j < i ∧ m j = m i)
theorem rg_t {m : Nat → Nat} {i : Nat} : rgB m i = true ↔ ∃ j, j < i ∧ m j = m i := decide_eq_true_iff
theorem rg_f {m : Nat → Nat} {i : Nat} : rgB m i = false ↔ ∀ j, j < i → m j ≠ m i := by
  constructor
  · intro h j hj e
    rw [rg_t.mpr ⟨j, hj, e⟩] at h
    exact nomatch h
  · intro h
    cases e : rgB m i with
    | false => rfl
    | true =>
      obtain ⟨j, hj, q⟩ := rg_t.mp e
      exact absurd q (h j hj)
/-- a board of the line: good, solved -/
def LB (S : Nat) (T : Nat → Nat) : Prop := W1 T ∧ sT T < S ∧ bhS T S ≤ 6000
theorem LB_b {S : Nat} {T : Nat → Nat} (h : LB S T) : bhS T (sT T + 1) ≤ 6000 ∧ bhS T (sT T) + kT T < 6000 ∧ mkN T < 12000 ∧ stN T < 12000 := by
  obtain ⟨hT, hs, h6⟩ := h
  have h1 : bhS T (sT T + 1) ≤ 6000 := Nat.le_trans (bh_mo (by omega)) h6
  have h2 := kT_lt hT.1
  have h3 := hT.1.2.1
  have h4 := h1
  rw [bh_s] at h4
  unfold mkN stN xS
  exact ⟨h1, by omega, by omega, by omega⟩
theorem mk_st {S : Nat} {T T2 : Nat → Nat} (h : LB S T) (h2 : LB S T2) : mkN T = mkN T2 ↔ stN T = stN T2 := by
  have a := LB_b h
  have b := LB_b h2
  have h3 := h.1.1.2.1
  have h4 := h2.1.1.2.1
  unfold mkN stN xS
  omega
theorem LB_nx {S : Nat} {T : Nat → Nat} {p : Nat} (h : LB S T) (hp : bsP T = some p) : LB S (nxB T p) ∧ RE T (nxB T p) := by
  obtain ⟨n2, n3⟩ := bsP_t h.1.1 hp
  obtain ⟨_, _, _, _, _, _, _, _, _, _, _, w1, re, _⟩ := nxB_d h.1 n2
  have sn := sT_nx h.1 n2
  refine ⟨⟨w1, by have := h.2.1; omega, ?_⟩, re⟩
  rw [bhS_re re]
  exact h.2.2
theorem bd_s {T : Nat → Nat} {i p : Nat} (h : bsP (bdF T i) = some p) : bdF T (i + 1) = nxB (bdF T i) p := by
  rw [bdF, h]
  rfl
theorem LB_bd {S : Nat} {T : Nat → Nat} (h : LB S T) : ∀ i, (∀ j, j < i → bsP (bdF T j) ≠ none) → LB S (bdF T i) := by
  intro i
  induction i with
  | zero => intro _; exact h
  | succ i ih =>
    intro hj
    cases e : bsP (bdF T i) with
    | none => exact absurd e (hj i (by omega))
    | some p =>
      rw [bd_s e]
      exact (LB_nx (ih (fun j q => hj j (by omega))) e).1
theorem rg_eq {S : Nat} {T : Nat → Nat} {i : Nat} (h : LB S T) (hj : ∀ j, j < i → bsP (bdF T j) ≠ none) : rgB (fun j => mkN (bdF T j)) i = rgB (fun j => stN (bdF T j)) i := by
  have hi := LB_bd h i hj
  have key : ∀ j, j < i → (mkN (bdF T j) = mkN (bdF T i) ↔ stN (bdF T j) = stN (bdF T i)) := fun j q => mk_st (LB_bd h j (fun j' q' => hj j' (by omega))) hi
  cases e : rgB (fun j => stN (bdF T j)) i with
  | true =>
    obtain ⟨j, q1, q2⟩ := rg_t.mp e
    exact rg_t.mpr ⟨j, q1, (key j q1).mpr q2⟩
  | false => exact rg_f.mpr (fun j q1 q2 => rg_f.mp e j q1 ((key j q1).mp q2))
def PRE (T : Nat → Nat) (i : Nat) : Prop := ∀ j, j < i → bsP (bdF T j) ≠ none ∧ rgB (fun j => stN (bdF T j)) j = false
def STP (T : Nat → Nat) (N : Nat) : Prop := N ≤ 60 ∧ PRE T N ∧ (N = 60 ∨ rgB (fun j => stN (bdF T j)) N = true ∨ bsP (bdF T N) = none)
theorem stp_u {T : Nat → Nat} {N M : Nat} (h : STP T N) (g : STP T M) : N = M := by
  have key : ∀ N M, STP T N → STP T M → ¬ N < M := by
    intro N M h g q
    obtain ⟨a, b⟩ := g.2.1 N q
    rcases h.2.2 with e | e | e
    · have := g.1; omega
    · rw [b] at e; exact nomatch e
    · exact a e
  have a := key N M h g
  have b := key M N g h
  omega
def lnA (T : Nat → Nat) (N : Nat) (v : Int32) : Int32 := if v = -3 then scI (bdF T N) else if v = -2 then b2i (rgB (fun j => stN (bdF T j)) N) else if v = -1 then nI N else if nI N ≤ v then -1 else oI (bsP (bdF T v.toNatClampNeg))
theorem again_s (n : Nat) (μ : Mu) {m : Nat → Nat} {i : Nat} (hi : i ≤ 60) (h22 : μ.1 22 2 = nI i) (hm : ∀ j, j ≤ i → μ.1 24 j = nI (m j) ∧ m j < 12000) (hn : 1000 < n) : Ok (X10_isMarkedAgain n μ) (fun a μ' => a = b2i (rgB m i) ∧ μ' = μ) := by
  unfold X10_isMarkedAgain X10_isMarkedAgain_2
  rw [i_0]
  refine Ok_lp1 (fun f x1 μ' => ∃ j, j ≤ i ∧ f = i - j ∧ x1 = nI j ∧ μ' = μ ∧ ∀ j', j' < j → m j' ≠ m i) ?_ i (by omega) ⟨0, by omega, rfl, rfl, rfl, fun j' q => by omega⟩
  rintro K f x1 μ1 ⟨j, hj, rfl, rfl, rfl, hno⟩ hK
  unfold X10_isMarkedAgain_2b
  rw [h22, ifLe (by omega) (by omega)]
  by_cases c : i ≤ j
  · obtain rfl : j = i := by omega
    rw [if_pos c, rg_f.mpr hno]
    exact Ok_r ⟨rfl, rfl⟩
  · obtain ⟨a1, a2⟩ := hm j (by omega)
    obtain ⟨b1, b2⟩ := hm i (by omega)
    rw [if_neg c, gd_n (by omega) (by decide), gd_n (by omega) (by decide), nI_clamp (by omega), nI_clamp (by omega), a1, b1, ifEq (by omega) (by omega)]
    by_cases z : m j = m i
    · rw [if_pos z, rg_t.mpr ⟨j, by omega, z⟩]
      exact Ok_r ⟨rfl, rfl⟩
    · rw [if_neg z, i_1, nI_add]
      refine hK (i - (j + 1)) _ _ (by omega) ⟨j + 1, by omega, rfl, rfl, rfl, fun j' q => ?_⟩
      by_cases z2 : j' = j
      · rw [z2]; exact z
      · exact hno j' (by omega)
theorem goBest_s (n : Nat) (μ : Mu) {T : Nat → Nat} {S : Nat} (hT : W1 T) (hN : NOW μ T) (hs : sT T < S) (hV : CV μ T S) (hn : 1000 < n) :
    Ok (X10_goByBest n 53 μ) (fun _ μ' => ∃ N, STP T N ∧ W1 (bdF T N) ∧ GE μ' (bdF T N) ∧ SC μ' 153 (bdF T N) ∧ μ'.1 22 2 = nI N ∧ μ'.1 22 3 = b2i (rgB (fun j => stN (bdF T j)) N) ∧ ∀ j, j < N → μ'.1 23 j = oI (bsP (bdF T j))) := by
  have hL : LB S T := ⟨hT, hs, hV.2.1⟩
  unfold X10_goByBest
  rw [kd_of (by decide)]
  refine Ok_b (begin_s n μ hN) ?_
  rintro _ μ1 ⟨b1, b2, b3, b4⟩
  dsimp only
  have g1 := GA_kg hN.1 b4
  rw [bS (markOf_s n μ1 (by decide) hT.1 g1 b1 (LB_b hL).1 hn)]
  dsimp only
  unfold X10_goByBest_24
  rw [i_0]
  refine Ok_lp1 (fun f x2 μ' => ∃ i, i ≤ 60 ∧ f = 60 - i ∧ x2 = nI i ∧ PRE T i ∧ GA μ' (bdF T i) ∧ SC μ' 153 (bdF T i) ∧ CV μ' (bdF T i) S ∧ μ'.1 22 2 = nI i ∧ μ'.1 22 3 = b2i (rgB (fun j => stN (bdF T j)) i) ∧ (∀ j, j < i → μ'.1 23 j = oI (bsP (bdF T j))) ∧ ∀ j, j ≤ i → μ'.1 24 j = nI (mkN (bdF T j))) ?_ 60 (by omega) ⟨0, by omega, rfl, rfl, fun j q => by omega, GA_o g1 (fun o a b => by rw [si_o (by omega)]), SC_o b1 (by rw [si_o (by decide)]) (by rw [si_o (by decide)]), CV_o (CV_kg hV b4) (by rw [si_b (by decide)]) (by rw [si_o (by decide)]) (by rw [si_o (by decide)]), by rw [si_b (by decide)]; exact b2, by rw [si_b (by decide), b3]; rfl, fun j q => by omega, fun j q => by
      obtain rfl : j = 0 := by omega
      exact si_a⟩
  rintro K f x2 μ2 ⟨i, hi, rfl, rfl, hP, hGc, hSc, hVc, h22, h223, h23, h24⟩ hK
  have hLi := LB_bd hL i (fun j q => (hP j q).1)
  have hTc := hLi.1
  unfold X10_goByBest_24b X10_goByBest_94
  rw [i_60, ifLe (by decide) (by omega)]
  by_cases c : 60 ≤ i
  · obtain rfl : i = 60 := by omega
    rw [if_pos c]
    exact Ok_r ⟨60, ⟨by omega, hP, Or.inl rfl⟩, hTc, hGc.1.1, hSc, h22, h223, h23⟩
  · rw [if_neg c, h223]
    cases hr : rgB (fun j => stN (bdF T j)) i with
    | true =>
      rw [if_neg (show ¬ b2i true = 0 by decide)]
      exact Ok_r ⟨i, ⟨by omega, hP, Or.inr (Or.inl hr)⟩, hTc, hGc.1.1, hSc, h22, h223, h23⟩
    | false =>
      rw [if_pos (show b2i false = 0 from rfl)]
      obtain ⟨a, μ3, e3, rfl⟩ := bestAt_s n μ2 os153 hTc.1 hGc hSc hVc hLi.2.1 hn
      obtain ⟨g3, s3, e22, e23, e24, v3⟩ := gb_ag (Fr_ag (fr_X7_bestAt n _ μ2 _ e3) (by decide +kernel)) hGc hSc
      rw [bS e3]
      dsimp only
      rw [bsI_P]
      cases hp : bsP (bdF T i) with
      | none =>
        rw [i_1, if_pos (show oI none = -nI 1 from rfl)]
        exact Ok_r ⟨i, ⟨by omega, hP, Or.inr (Or.inr hp)⟩, hTc, g3.1.1, s3, by rw [e22]; exact h22, by rw [e22]; exact h223, fun j q => by rw [e23]; exact h23 j q⟩
      | some p =>
        obtain ⟨n2, n3⟩ := bsP_t hTc.1 hp
        obtain ⟨hLn, re⟩ := LB_nx hLi hp
        rw [i_1, oI_s, if_neg (fun z => (eq_m1 (by omega)).mp z)]
        refine Ok_b (go_s n μ3 hTc g3.1.1 s3 n2 (by rw [e22]; exact h22) (by omega) hn) ?_
        rintro _ μ4 ⟨q1, q2, q3, q4, q5, q6⟩
        dsimp only
        have g4 : GA μ4 (nxB (bdF T i) p) := GA_re re (GA_kg g3 q6)
        rw [bS (markOf_s n μ4 (by decide) hLn.1.1 g4 q1 (LB_b hLn).1 hn)]
        dsimp only
        rw [q2, gd_n (by omega) (by decide), nI_clamp (by omega)]
        have hP1 : PRE T (i + 1) := fun j q => by
          by_cases z : j = i
          · rw [z]; exact ⟨by rw [hp]; exact (fun q => (nomatch q)), hr⟩
          · exact hP j (by omega)
        have e1 := bd_s hp
        have m24 : ∀ j, j ≤ i + 1 → (si μ4 24 (i + 1) (nI (2 * (bhS (nxB (bdF T i) p) (sT (nxB (bdF T i) p)) + kT (nxB (bdF T i) p)) + nxB (bdF T i) p 2))).1 24 j = nI (mkN (bdF T j)) := by
          intro j hj
          by_cases z : j = i + 1
          · rw [z, si_a, e1]; rfl
          · rw [si_c z, q6.1 24 (by unfold KG; omega), e24]
            exact h24 j (by omega)
        refine Ok_b (again_s n _ (m := fun j => mkN (bdF T j)) (i := i + 1) (by omega) (by rw [si_b (by decide)]; exact q2) (fun j hj => ⟨m24 j hj, (LB_b (LB_bd hL j (fun j' q => (hP1 j' (by omega)).1))).2.2.1⟩) hn) ?_
        rintro _ μ5 ⟨rfl, rfl⟩
        dsimp only
        rw [bz_b, nI_add]
        have rq := rg_eq hL (i := i + 1) (fun j q => (hP1 j q).1)
        refine hK (60 - (i + 1)) _ _ (by omega) ⟨i + 1, by omega, rfl, rfl, hP1, ?_, ?_, ?_, ?_, ?_, fun j hj => ?_, fun j hj => ?_⟩
        · rw [e1]; exact GA_o g4 (fun o a b => by rw [si_o (by omega), si_o (by omega)])
        · rw [e1]; exact SC_o q1 (by rw [si_o (by decide), si_o (by decide)]) (by rw [si_o (by decide), si_o (by decide)])
        · rw [e1]; exact CV_re re.sy hLn.1.1 (CV_o (CV_kg (v3 _ _ hVc) q6) (by rw [si_b (by decide), si_b (by decide)]) (by rw [si_o (by decide), si_o (by decide)]) (by rw [si_o (by decide), si_o (by decide)]))
        · rw [si_c (by decide), si_b (by decide)]; exact q2
        · rw [si_a, rq]
        · rw [si_b (by decide), si_b (by decide)]
          by_cases z : j = i
          · rw [z, q3, hp]; rfl
          · rw [q4 j z, e23]; exact h23 j (by omega)
        · rw [si_b (by decide)]; exact m24 j hj
