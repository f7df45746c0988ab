/-! open pits as a side sees them; the class's ground; the reference's sees -/
theorem sum_split {f : Nat → Nat} {a : Nat} : ∀ b, sumF f (a + b) = sumF f a + sumF (fun x => f (a + x)) b := by
  intro b
  induction b with
  | zero => rfl
  | succ b ih => rw [← Nat.add_assoc, sumF, sumF, ih]; omega
def lkS (T : Nat → Nat) (s i : Nat) : Bool := (T 3).testBit (pS (T 1) s i)
def opS (T : Nat → Nat) (s i : Nat) : Nat := sumF (fun x => if lkS T s x = true then 0 else 1) i
def sqF (T : Nat → Nat) (s : Nat) : Nat → Nat → Nat
  | 0 => fun _ => 0
  | i + 1 => if lkS T s i = true then sqF T s i else ups (sqF T s i) (opS T s i) (pS (T 1) s i)
def sqN (T : Nat → Nat) (s : Nat) : Nat → Nat := sqF T s (2 * T 1)
theorem pS_0 {sz i : Nat} (h : i < 2 * sz) : pS sz 0 i = i := by
  unfold pS
  by_cases c : i < sz
  · rw [if_pos c]
    show 0 + i = i
    omega
  · rw [if_neg c]
    show sz + (i - sz) = i
    omega
theorem pS_1a {sz i : Nat} (h : i < sz) : pS sz 1 i = sz + i := by
  unfold pS
  rw [if_pos h]
  rfl
theorem pS_1b {sz i : Nat} (h : sz ≤ i) : pS sz 1 i = i - sz := by
  unfold pS
  rw [if_neg (by omega)]
  show 0 + (i - sz) = i - sz
  omega
/-- a sum over all pits, as a side sees them -/
theorem sum_pS {sz s : Nat} (hs : s < 2) (f : Nat → Nat) : sumF (fun x => f (pS sz s x)) (2 * sz) = sumF f (2 * sz) := by
  obtain rfl | rfl : s = 0 ∨ s = 1 := by omega
  · exact sum_cg _ (fun k hk => by rw [pS_0 hk])
  · have e : 2 * sz = sz + sz := by omega
    rw [e, sum_split, sum_split (f := f)]
    have h1 : sumF (fun x => f (pS sz 1 x)) sz = sumF (fun x => f (sz + x)) sz := sum_cg _ (fun k hk => by rw [pS_1a hk])
    have h2 : sumF (fun x => f (pS sz 1 (sz + x))) sz = sumF f sz := sum_cg _ (fun k hk => by rw [pS_1b (by omega), Nat.add_sub_cancel_left])
    rw [h1, h2, Nat.add_comm]
theorem opS_all {T : Nat → Nat} {s : Nat} (hs : s < 2) : opS T s (2 * T 1) = opnN T := by
  unfold opS opnN lkS
  exact sum_pS hs (fun p => if (T 3).testBit p = true then 0 else 1)
theorem opS_le {T : Nat → Nat} {s : Nat} : ∀ i, opS T s i ≤ i := by
  intro i
  induction i with
  | zero => exact Nat.le_refl _
  | succ i ih =>
    unfold opS at *
    rw [sumF]
    split <;> omega
theorem opS_s {T : Nat → Nat} {s i : Nat} : opS T s (i + 1) = opS T s i + if lkS T s i = true then 0 else 1 := rfl
theorem pS_in {sz s i j : Nat} (hs : s < 2) (hi : i < 2 * sz) (hj : j < 2 * sz) (h : pS sz s i = pS sz s j) : i = j := by
  obtain rfl | rfl : s = 0 ∨ s = 1 := by omega
  · rw [pS_0 hi, pS_0 hj] at h; exact h
  · by_cases c : i < sz
    · by_cases d : j < sz
      · rw [pS_1a c, pS_1a d] at h; omega
      · rw [pS_1a c, pS_1b (by omega)] at h; omega
    · by_cases d : j < sz
      · rw [pS_1b (by omega), pS_1a d] at h; omega
      · rw [pS_1b (by omega), pS_1b (by omega)] at h; omega
theorem sqF_x {T : Nat → Nat} {s : Nat} : ∀ i j, j < opS T s i → ∃ x, x < i ∧ sqF T s i j = pS (T 1) s x ∧ lkS T s x = false := by
  intro i
  induction i with
  | zero => intro j h; exact absurd h (by unfold opS sumF; omega)
  | succ i ih =>
    intro j h
    rw [opS_s] at h
    rw [sqF]
    cases e : lkS T s i with
    | true =>
      rw [e, if_pos rfl, Nat.add_zero] at h
      rw [if_pos rfl]
      obtain ⟨x, a, b, c⟩ := ih j h
      exact ⟨x, by omega, b, c⟩
    | false =>
      rw [e, if_neg (by decide)] at h
      rw [if_neg (by decide)]
      by_cases q : j = opS T s i
      · rw [q, ups_a]; exact ⟨i, by omega, rfl, e⟩
      · rw [ups_b q]
        obtain ⟨x, a, b, c⟩ := ih j (by omega)
        exact ⟨x, by omega, b, c⟩
theorem sqF_in {T : Nat → Nat} {s : Nat} (hs : s < 2) : ∀ i, i ≤ 2 * T 1 → ∀ j k, j < k → k < opS T s i → sqF T s i j ≠ sqF T s i k := by
  intro i
  induction i with
  | zero => intro _ j k _ h; exact absurd h (by unfold opS sumF; omega)
  | succ i ih =>
    intro hi j k hjk h
    rw [opS_s] at h
    rw [sqF]
    cases e : lkS T s i with
    | true =>
      rw [e, if_pos rfl, Nat.add_zero] at h
      rw [if_pos rfl]
      exact ih (by omega) j k hjk h
    | false =>
      rw [e, if_neg (by decide)] at h
      rw [if_neg (by decide), ups_b (by omega)]
      by_cases q : k = opS T s i
      · rw [q, ups_a]
        obtain ⟨x, a, b, c⟩ := sqF_x (T := T) (s := s) i j (by omega)
        rw [b]
        intro z
        have := pS_in hs (by omega) (by omega) z
        omega
      · rw [ups_b q]
        exact ih (by omega) j k hjk (by omega)
theorem sqF_sum {T c : Nat → Nat} {s : Nat} : ∀ i, (∀ x, x < i → lkS T s x = true → c (pS (T 1) s x) = 0) → sumF (fun j => c (sqF T s i j)) (opS T s i) = sumF (fun x => c (pS (T 1) s x)) i := by
  intro i
  induction i with
  | zero => intro _; rfl
  | succ i ih =>
    intro h
    have ih2 := ih (fun x hx => h x (by omega))
    rw [opS_s, sqF, sumF]
    cases e : lkS T s i with
    | true => rw [if_pos rfl, if_pos rfl, Nat.add_zero, ih2, h i (by omega) e, Nat.add_zero]
    | false =>
      rw [if_neg (by decide), if_neg (by decide), sumF, ups_a, ← ih2]
      congr 1
      exact sum_cg _ (fun k hk => by rw [ups_b (by omega)])
/-- all seeds lie in open pits -/
theorem sq_sum {T c : Nat → Nat} {s : Nat} (hs : s < 2) (h : ∀ p, p < 2 * T 1 → (T 3).testBit p = true → c p = 0) : sumF (fun j => c (sqN T s j)) (opnN T) = sumF c (2 * T 1) := by
  have := sqF_sum (T := T) (c := c) (s := s) (2 * T 1) (fun x hx hl => h _ (pS_lt hs hx) hl)
  rw [opS_all hs, sum_pS hs c] at this
  exact this
theorem sq_lt {T : Nat → Nat} {s j : Nat} (hs : s < 2) (hj : j < opnN T) : sqN T s j < 2 * T 1 ∧ (T 3).testBit (sqN T s j) = false := by
  obtain ⟨x, a, b, c⟩ := sqF_x (T := T) (s := s) (2 * T 1) j (by rw [opS_all hs]; exact hj)
  unfold sqN
  rw [b]
  exact ⟨pS_lt hs a, c⟩
theorem sq_in {T : Nat → Nat} {s j k : Nat} (hs : s < 2) (hjk : j ≠ k) (hj : j < opnN T) (hk : k < opnN T) : sqN T s j ≠ sqN T s k := by
  by_cases c : j < k
  · exact sqF_in hs (2 * T 1) (Nat.le_refl _) j k c (by rw [opS_all hs]; exact hk)
  · exact fun z => sqF_in hs (2 * T 1) (Nat.le_refl _) k j (by omega) (by rw [opS_all hs]; exact hj) z.symm
theorem opn_le {T : Nat → Nat} : opnN T ≤ 2 * T 1 := by
  rw [← opS_all (s := 0) (by decide)]
  exact opS_le _
/-! the class's listSeen, build -/
def SN (μ : Mu) (T : Nat → Nat) (s : Nat) : Prop := ∀ j, j < opnN T → μ.1 4 (s * 12 + j) = nI (sqN T s j)
def alkI (T : Nat → Nat) (s i : Nat) : Bool := decide (∀ x, x < i → lkS T s x = (T 3).testBit x)
def alkT (T : Nat → Nat) : Bool := alkI T 1 (2 * T 1)
theorem alk_s {T : Nat → Nat} {s i : Nat} : alkI T s (i + 1) = (alkI T s i && decide (lkS T s i = (T 3).testBit i)) := by
  unfold alkI
  rw [← Bool.decide_and]
  refine decide_eq_decide.mpr ⟨fun h => ⟨fun x hx => h x (by omega), h i (by omega)⟩, fun h x hx => ?_⟩
  by_cases q : x = i
  · rw [q]; exact h.2
  · exact h.1 x (by omega)
theorem listSeen_s (n : Nat) (μ : Mu) {T : Nat → Nat} {s : Nat} {ak : Bool} (h1 : μ.1 1 1 = nI (T 1)) (h2 : μ.1 1 2 = nI (T 3)) (b6 : T 1 < 7) (b3 : T 3 < 4096) (hs : s < 2) (ha : μ.1 2 2 = b2i ak) (hn : 1000 < n) :
    Ok (X1_listSeen n (nI s) μ) (fun _ μ' => SN μ' T s ∧ μ'.1 2 1 = nI (opnN T) ∧ μ'.1 2 2 = b2i (ak && alkI T s (2 * T 1)) ∧ (∀ k, ¬ (s * 12 ≤ k ∧ k < s * 12 + 12) → μ'.1 4 k = μ.1 4 k) ∧ (∀ k, k ≠ 1 → k ≠ 2 → μ'.1 2 k = μ.1 2 k) ∧ KP (fun x => x = 2 ∨ x = 4) μ μ') := by
  unfold X1_listSeen X1_listSeen_7
  rw [i_0]
  refine Ok_lp1 (fun k x2 μ' => ∃ i, i ≤ 2 * T 1 ∧ k = 2 * T 1 - i ∧ x2 = nI i ∧ (∀ j, j < opS T s i → μ'.1 4 (s * 12 + j) = nI (sqF T s i j)) ∧ μ'.1 2 1 = nI (opS T s i) ∧ μ'.1 2 2 = b2i (ak && alkI T s i) ∧ (∀ k, ¬ (s * 12 ≤ k ∧ k < s * 12 + 12) → μ'.1 4 k = μ.1 4 k) ∧ (∀ k, k ≠ 1 → k ≠ 2 → μ'.1 2 k = μ.1 2 k) ∧ KP (fun x => x = 2 ∨ x = 4) μ μ') ?_ (2 * T 1) (by omega) ⟨0, by omega, by omega, rfl, fun j hj => absurd hj (by unfold opS sumF; omega), si_a, by
    rw [si_c (by decide), ha]
    have : alkI T s 0 = true := decide_eq_true (fun x hx => by omega)
    rw [this, Bool.and_true], fun k _ => by rw [si_b (by decide)], fun k k1 _ => by rw [si_c k1], KP.rf.si (Or.inl rfl)⟩
  rintro K k x2 μ' ⟨i, hi, rfl, rfl, hq, ho, hak, h4, h2k, hk⟩ hK
  have g1 : μ'.1 1 1 = nI (T 1) := by rw [hk.1 1 (by omega), h1]
  have g2 : μ'.1 1 2 = nI (T 3) := by rw [hk.1 1 (by omega), h2]
  unfold X1_listSeen_7b
  rw [g1, i_2, pk_mul, ifLe (by omega) (by omega)]
  by_cases q : 2 * T 1 ≤ i
  · obtain rfl : i = 2 * T 1 := by omega
    rw [if_pos q]
    rw [opS_all hs] at hq ho
    exact Ok_r ⟨hq, ho, hak, h4, h2k, hk⟩
  · have hp := pS_lt (sz := T 1) (i := i) hs (by omega)
    have hol := opS_le (T := T) (s := s) i
    rw [if_neg q, bS (seen_s n μ' g1 b6 hs (by omega))]
    dsimp only
    rw [bS (lackC_s n μ' g2 (by omega) (by omega))]
    dsimp only
    rw [bS (lackC_s n μ' g2 (by omega) (by omega))]
    dsimp only
    have L51 : ∀ μ2 : Mu, KP (fun x => x = 2 ∨ x = 4) μ μ2 → μ2.1 4 = μ'.1 4 → μ2.1 2 1 = nI (opS T s i) → μ2.1 2 2 = b2i (ak && alkI T s (i + 1)) → (∀ k, k ≠ 1 → k ≠ 2 → μ2.1 2 k = μ.1 2 k) → Ok (X1_listSeen_51 n (nI s) K (nI i) (nI (pS (T 1) s i)) μ2) (fun _ μ' => SN μ' T s ∧ μ'.1 2 1 = nI (opnN T) ∧ μ'.1 2 2 = b2i (ak && alkI T s (2 * T 1)) ∧ (∀ k, ¬ (s * 12 ≤ k ∧ k < s * 12 + 12) → μ'.1 4 k = μ.1 4 k) ∧ (∀ k, k ≠ 1 → k ≠ 2 → μ'.1 2 k = μ.1 2 k) ∧ KP (fun x => x = 2 ∨ x = 4) μ μ') := by
      intro μ2 k2 e4 e1 e2 e2k
      have m2 : μ2.1 1 2 = nI (T 3) := by rw [k2.1 1 (by omega), h2]
      unfold X1_listSeen_51 X1_listSeen_87
      rw [bS (lackC_s n μ2 m2 (by omega) (by omega)), i_1, nI_add]
      dsimp only
      cases e : (T 3).testBit (pS (T 1) s i) with
      | true =>
        have el : lkS T s i = true := e
        rw [if_neg (show ¬ b2i true = 0 by decide)]
        exact hK (2 * T 1 - (i + 1)) _ _ (by omega) ⟨i + 1, by omega, rfl, rfl, by
          rw [opS_s, sqF, el, if_pos rfl, if_pos rfl, Nat.add_zero, e4]; exact hq, by rw [opS_s, el, if_pos rfl, Nat.add_zero]; exact e1, e2, by rw [e4]; exact h4, e2k, k2⟩
      | false =>
        have el : lkS T s i = false := e
        rw [if_pos (show b2i false = 0 from rfl), e1, i_12, pk_mul, nI_add, gd_n (by omega) (by decide), nI_clamp (by omega), si_b (by decide), e1, nI_add]
        refine hK (2 * T 1 - (i + 1)) _ _ (by omega) ⟨i + 1, by omega, rfl, rfl, fun j hj => ?_, ?_, ?_, fun k hk => ?_, fun k k1 k2 => ?_, (k2.si (Or.inr rfl)).si (Or.inl rfl)⟩
        · rw [opS_s, el, if_neg (by decide)] at hj
          rw [sqF, el, if_neg (by decide), si_b (by decide)]
          by_cases z : j = opS T s i
          · rw [z, si_a, ups_a]
          · rw [si_c (by omega), ups_b z, e4, hq j (by omega)]
        · rw [si_a, opS_s, el, if_neg (by decide)]
        · rw [si_c (by decide), si_b (by decide), e2]
        · rw [si_b (by decide), si_c (by omega), e4, h4 k hk]
        · rw [si_c k1, si_b (by decide), e2k k k1 k2]
    by_cases z : lkS T s i = (T 3).testBit i
    · rw [if_pos (show b2i ((T 3).testBit (pS (T 1) s i)) = b2i ((T 3).testBit i) from congrArg b2i z)]
      exact L51 μ' hk rfl ho (by rw [hak, alk_s, decide_eq_true z, Bool.and_true]) h2k
    · have z' : ¬ b2i ((T 3).testBit (pS (T 1) s i)) = b2i ((T 3).testBit i) := by
        intro h
        apply z
        unfold lkS
        revert h
        cases (T 3).testBit (pS (T 1) s i) <;> cases (T 3).testBit i <;> decide
      rw [if_neg z', i_0]
      refine L51 _ (hk.si (Or.inl rfl)) (si_o (by decide)) (by rw [si_c (by decide), ho]) (by rw [si_a, alk_s, decide_eq_false z, Bool.and_false, Bool.and_false]; rfl) (fun k k1 k2 => by rw [si_c k2, h2k k k1 k2])
/-- all that the ground holds -/
def GG (μ : Mu) (T : Nat → Nat) : Prop := GE μ T ∧ SN μ T 0 ∧ SN μ T 1 ∧ μ.1 2 1 = nI (opnN T) ∧ μ.1 2 2 = b2i (alkT T)
theorem build_s (n : Nat) (μ : Mu) {T : Nat → Nat} (hR : RR μ T) (hB : BD T) (hn : 1000 < n) : Ok (X1_build n μ) (fun _ μ' => GG μ' T ∧ KP (fun x => x = 2 ∨ x = 3 ∨ x = 4) μ μ') := by
  obtain ⟨b1, b6, b3, b4, b5, bR, b7, b8, b9, b10, b87⟩ := hB
  unfold X1_build X1_build_7
  rw [i_0, i_1]
  refine Ok_lp1 (fun k x1 μ' => ∃ i, i ≤ 2 ∧ k = 2 - i ∧ x1 = nI i ∧ (∀ s, s < i → WY μ' T s ∧ SN μ' T s) ∧ (i = 0 ∨ μ'.1 2 1 = nI (opnN T)) ∧ μ'.1 2 2 = b2i (decide (i < 2) || alkT T) ∧ KP (fun x => x = 2 ∨ x = 3 ∨ x = 4) μ μ') ?_ 2 (by omega) ⟨0, by omega, by omega, rfl, fun s h => by omega, Or.inl rfl, by rw [si_a]; rfl, KP.rf.si (Or.inl rfl)⟩
  rintro K k x1 μ' ⟨i, hi, rfl, rfl, hws, ho, hak, hk⟩ hK
  have hR' : RR μ' T := RR_o hR (hk.1 1 (by omega))
  obtain ⟨r1, r2, r3, r4, r5, r6, r7, r8⟩ := id hR'
  unfold X1_build_7b X1_build_67 X1_build_71 X1_build_72
  rw [i_2, ifLe (by decide) (by omega)]
  by_cases q : 2 ≤ i
  · obtain rfl : i = 2 := by omega
    have ho' : μ'.1 2 1 = nI (opnN T) := ho.resolve_left (by decide)
    have hopl := opn_le (T := T)
    have fin : ∀ b : Bool, lonO T = b → Ok (bz (b2i b) (some ((), si μ' 2 3 (b2i b)))) (fun _ μ' => GG μ' T ∧ KP (fun x => x = 2 ∨ x = 3 ∨ x = 4) μ μ') := by
      intro b hb
      rw [bz_b]
      refine Ok_r ⟨⟨⟨RR_o hR' (si_o (by decide)), WY_o (hws 0 (by decide)).1 (si_o (by decide)), WY_o (hws 1 (by decide)).1 (si_o (by decide)), by rw [si_a, hb]⟩, fun j hj => ?_, fun j hj => ?_, ?_, ?_⟩, hk.si (Or.inl rfl)⟩
      · rw [si_b (by decide)]; exact (hws 0 (by decide)).2 j hj
      · rw [si_b (by decide)]; exact (hws 1 (by decide)).2 j hj
      · rw [si_c (by decide), ho']
      · rw [si_c (by decide), hak]; rfl
    rw [if_pos q, r3, r6, r5, ho', i_0, i_1, ifLt (by decide) (by omega), ifEq (by omega) (by decide), ifEq (by omega) (by decide), ifEq (by omega) (by decide)]
    by_cases c6 : 0 < T 6
    · rw [if_pos c6]
      exact fin true (decide_eq_true (Or.inl c6))
    · rw [if_neg c6]
      by_cases c5 : T 5 = 0
      · rw [if_pos c5]
        exact fin false (decide_eq_false (by omega))
      · rw [if_neg c5]
        by_cases c4 : T 4 = 0
        · rw [if_pos c4]
          by_cases co : opnN T = 1
          · rw [if_pos co]
            exact fin true (decide_eq_true (Or.inr ⟨by omega, c4, co⟩))
          · rw [if_neg co]
            exact fin false (decide_eq_false (by omega))
        · rw [if_neg c4]
          exact fin false (decide_eq_false (by omega))
  · rw [if_neg q]
    refine Ok_b (linkWay_s n μ' r1 r2 r5 b6 b1 b3 b4 (show i < 2 by omega) (by omega)) ?_
    rintro _ μ2 ⟨w1, w2, w3⟩
    dsimp only
    refine Ok_b (listSeen_s n μ2 (ak := true) (by rw [w3.1 1 (by decide), r1]) (by rw [w3.1 1 (by decide), r2]) b6 b3 (show i < 2 by omega) (by rw [w3.1 2 (by decide), hak, decide_eq_true (by omega), Bool.true_or]) hn) ?_
    rintro _ μ3 ⟨v1, v2, v3, v4, v5, v6⟩
    dsimp only
    rw [i_1, nI_add]
    refine hK (2 - (i + 1)) _ _ (by omega) ⟨i + 1, by omega, rfl, rfl, fun s hs => ?_, Or.inr v2, ?_, (hk.tr w3 (fun x hx => Or.inr (Or.inl hx))).tr v6 (fun x hx => by omega)⟩
    · by_cases z : s = i
      · rw [z]
        exact ⟨WY_o w1 (v6.1 3 (by omega)), v1⟩
      · obtain ⟨u1, u2⟩ := hws s (by omega)
        obtain rfl : s = 0 := by omega
        obtain rfl : i = 1 := by omega
        refine ⟨fun a j ha on hN => ?_, fun j hj => ?_⟩
        · have hcl := (cI_lt (T 1) b6 b1 0 (by decide) a ha).2.1
          rw [v6.1 3 (by omega), w2 _ (by omega)]
          exact u1 a j ha on hN
        · have hopl := opn_le (T := T)
          rw [v4 _ (by omega), w3.1 4 (by decide)]
          exact u2 j hj
    · rw [v3, Bool.true_and]
      obtain rfl | rfl : i = 0 ∨ i = 1 := by omega
      · have : alkI T 0 (2 * T 1) = true := decide_eq_true (fun x hx => by unfold lkS; rw [pS_0 hx])
        rw [this]
        rfl
      · rfl
