/-! the class: which moves can be, whether it is over, why not, the score -/
def RS (x : Nat) : Prop := x = 6 ∨ x = 8 ∨ (57 ≤ x ∧ x ≤ 68)
/-- a scene that trying doesn't touch -/
def OS (o : Nat) : Prop := oK o = 6 ∧ 40 < o ∧ o % 2 = 1 ∧ (o < 57 ∨ 68 < o)
theorem aft_k : ∀ w, w < 6 → oK (57 + 2 * w) = 6 := by decide
theorem sowT_s (n : Nat) (μ : Mu) {T : Nat → Nat} {o w : Nat} (ho : oK o = 6) (ho2 : 40 < o) (hW : WF T) (hG : GE μ T) (hS : SC μ o T) (hw : w < T 1) (hf : fulW T w = true) (hn : 1000 < n) :
    Ok (X8_sow n o (nI (offN (T 1) (T 2) + w)) μ) (fun a μ' => KP (fun x => x = o ∨ x = o + 1 ∨ x = 6) μ μ' ∧ (mvW T w = none → a = nI 0) ∧ (∀ l k t c', mvW T w = some (l, k, t, c') → a = nI 1 ∧ SC μ' o (upT T c' (thN T (T 2) l)) ∧ μ'.1 6 0 = nI (cI (T 1) (T 2) l) ∧ μ'.1 6 1 = nI k ∧ μ'.1 6 2 = nI t ∧ μ'.1 6 3 = nI (c' (12 + T 2) - cT T (12 + T 2)))) := by
  obtain ⟨on, hne⟩ := ful_t.mp hf
  rw [← cI_own2 (s := T 2) hw]
  refine Ok_m (sow_s n μ ho ho2 hW.1 hG.1 hW.2.1 (GE_w hG hW.2.1) hS.1 hS.2 hw on (WF_b hW) hn) ?_
  rintro a μ' ⟨q1, q2, q3⟩
  refine ⟨q1, q2, fun l k t c' hm => ?_⟩
  obtain ⟨g1, g2, g3, g4, g5, g6, g7⟩ := q3 l k t c' hm
  exact ⟨g1, SC_up g3 g2, g4, g5, g6, g7⟩
theorem ful_0 {T : Nat → Nat} {w : Nat} (hW : WF T) (hw : w < T 1) : fulW T w = true ↔ cT T (offN (T 1) (T 2) + w) ≠ 0 := by
  have ec := cI_own2 (s := T 2) hw
  have hoff := off_le (T 1) (T 2)
  have b6 := hW.1.2.1
  rw [ful_t, ec]
  constructor
  · intro h; omega
  · intro h
    refine ⟨?_, by omega⟩
    unfold onI
    rw [if_neg (by omega), ec]
    cases e : (T 3).testBit (offN (T 1) (T 2) + w) with
    | false => rfl
    | true => exact absurd (WF_z hW _ (by omega) e) h
theorem isLong_s (n : Nat) (μ : Mu) {T : Nat → Nat} {o w : Nat} (ho : OS o) (hW : WF T) (hG : GE μ T) (hS : SC μ o T) (hw : w < T 1) (hf : fulW T w = true) (hn : 1000 < n) :
    Ok (X8_isLong n o (nI w) μ) (fun a μ' => KP RS μ μ' ∧ a = b2i (mvW T w).isNone) := by
  obtain ⟨o1, o2, o3, o4⟩ := ho
  have b6 := hW.1.2.1
  have hs := hW.2.1
  have ha := aft_k w (by omega)
  unfold X8_isLong X8_isLong_42
  rw [kd_of o1, gd_n (by omega) (by decide), nI_clamp (by omega)]
  refine Ok_b (copy_s n μ ha o1 (by omega) o3 (by omega) hS.1 hS.2) ?_
  rintro _ μ1 ⟨q1, q2, q3⟩
  dsimp only
  have hG1 : GE μ1 T := GE_o hG (q3.1 1 (by omega)) (q3.1 2 (by omega)) (q3.1 3 (by omega))
  have e1 : μ1.1 o 1 = nI (T 2) := by rw [q3.1 o (by omega)]; exact hS.1
  rw [e1, hG1.1.1, pk_mul, mul_off hs, nI_add]
  refine Ok_b (sowT_s n μ1 ha (by omega) hW hG1 ⟨q1, q2⟩ hw hf hn) ?_
  rintro a μ2 ⟨r1, r2, r3⟩
  dsimp only
  have hk : KP RS μ μ2 := KP.tr (q3.up (fun x hx => Or.inr (Or.inr (by omega)))) r1 (fun x hx => by unfold RS; omega)
  rcases mvW_c (T := T) w with hm | ⟨l, k, t, c', hm⟩
  · rw [r2 hm, if_pos (show nI 0 = 0 from rfl), hm]
    exact Ok_r ⟨hk, rfl⟩
  · rw [(r3 l k t c' hm).1, if_neg (show ¬ nI 1 = 0 by decide), hm]
    exact Ok_r ⟨hk, rfl⟩
theorem isOverC_s (n : Nat) (μ : Mu) {T : Nat → Nat} {o : Nat} (ho : OS o) (hW : WF T) (hG : GE μ T) (hS : SC μ o T) (hn : 1000 < n) :
    Ok (X8_isOver n o μ) (fun a μ' => KP RS μ μ' ∧ a = b2i (overT T)) := by
  have ho' := ho
  obtain ⟨o1, o2, o3, o4⟩ := ho'
  have b6 := hW.1.2.1
  have hs := hW.2.1
  have hoff := off_le (T 1) (T 2)
  have hb := WF_b hW
  unfold X8_isOver X8_isOver_15
  rw [kd_of o1, hS.1, hG.1.1, pk_mul, mul_off hs, i_0]
  refine Ok_lp2 (fun k x2 x3 μ' => ∃ i, i ≤ T 1 ∧ k = T 1 - i ∧ x2 = nI (offN (T 1) (T 2)) ∧ x3 = nI i ∧ KP RS μ μ' ∧ ∀ w, w < i → fulW T w = true → (mvW T w).isNone = true) ?_ (T 1) (by omega) ⟨0, by omega, by omega, rfl, rfl, KP.rf, fun w h => by omega⟩
  rintro K k x2 x3 μ' ⟨i, hi, rfl, rfl, rfl, hk, hall⟩ hK
  have kR : ∀ x, x = 1 ∨ x = 2 ∨ x = 3 ∨ x = o ∨ x = o + 1 → μ'.1 x = μ.1 x := fun x hx => hk.1 x (by unfold RS; omega)
  have hG' : GE μ' T := GE_o hG (kR 1 (by omega)) (kR 2 (by omega)) (kR 3 (by omega))
  have hS' : SC μ' o T := SC_o hS (kR o (by omega)) (kR (o + 1) (by omega))
  unfold X8_isOver_15b X8_isOver_56 X8_isOver_58
  rw [hG'.1.1, ifLe (by omega) (by omega), hG'.2.2.2]
  by_cases q : T 1 ≤ i
  · obtain rfl : i = T 1 := by omega
    rw [if_pos q]
    have : overT T = true := by
      unfold overT
      rw [decide_eq_true_iff]
      exact hall
    rw [this]
    exact Ok_r ⟨hk, rfl⟩
  · have hle := sum_le (c := cT T) 14 (offN (T 1) (T 2) + i) (by omega)
    have notover : ∀ μ2, KP RS μ μ2 → fulW T i = true → (∃ l k t c', mvW T i = some (l, k, t, c')) → Ok (some (nI 0, μ2)) (fun a μ' => KP RS μ μ' ∧ a = b2i (overT T)) := by
      rintro μ2 hk2 hf ⟨l, kk, t, c', hm⟩
      have : overT T = false := by
        unfold overT
        rw [decide_eq_false_iff_not]
        intro h
        have := h i (by omega) hf
        rw [hm] at this
        exact nomatch this
      rw [this]
      exact Ok_r ⟨hk2, rfl⟩
    rw [if_neg q, nI_add, gd_n (by omega) (by decide), nI_clamp (by omega), hS'.2 _ (by omega), i_0, ifLe (by omega) (by decide), i_1, nI_add]
    have next : ∀ μ2, KP RS μ μ2 → (fulW T i = true → (mvW T i).isNone = true) → Ok (K (nI (offN (T 1) (T 2))) (nI (i + 1)) μ2) (fun a μ' => KP RS μ μ' ∧ a = b2i (overT T)) := by
      intro μ2 hk2 h2
      refine hK (T 1 - (i + 1)) _ _ _ (by omega) ⟨i + 1, by omega, rfl, rfl, rfl, hk2, fun w hw hf => ?_⟩
      by_cases z : w = i
      · rw [z] at hf ⊢; exact h2 hf
      · exact hall w (by omega) hf
    by_cases c0 : cT T (offN (T 1) (T 2) + i) ≤ 0
    · rw [if_pos c0]
      exact next μ' hk (fun hf => absurd ((ful_0 hW (by omega)).mp hf) (by omega))
    · rw [if_neg c0]
      have hf : fulW T i = true := (ful_0 hW (by omega)).mpr (by omega)
      cases hl : lonO T with
      | false =>
        rw [if_pos (show b2i false = nI 0 from rfl)]
        exact notover μ' hk hf (nolong hW hl (by omega) hf)
      | true =>
        rw [if_neg (show ¬ b2i true = nI 0 by decide)]
        refine Ok_b (isLong_s n μ' ho hW hG' hS' (by omega) hf hn) ?_
        rintro a μ2 ⟨k2, rfl⟩
        dsimp only
        rcases mvW_c (T := T) i with hm | ⟨l, kk, t, c', hm⟩
        · rw [hm, if_neg (show ¬ b2i (none : Option (Nat × Nat × Nat × (Nat → Nat))).isNone = nI 0 by decide)]
          exact next μ2 (hk.tr k2 (fun _ h => h)) (fun _ => by rw [hm]; rfl)
        · rw [hm, if_pos (show b2i (some (l, kk, t, c')).isNone = nI 0 from rfl)]
          exact notover μ2 (hk.tr k2 (fun _ h => h)) hf ⟨l, kk, t, c', hm⟩
def canW (T : Nat → Nat) (w : Nat) : Bool := fulW T w && (mvW T w).isSome && (!(decide (T 10 = 1) && canFd T) || fedW T w)
/-- the bits of the moves that can be -/
def CB (T : Nat → Nat) (B : Nat) : Prop := B < 4096 ∧ ∀ p, B.testBit p = true ↔ ∃ w, w < T 1 ∧ p = offN (T 1) (T 2) + w ∧ canW T w = true
def AF (μ : Mu) (T : Nat → Nat) (i : Nat) : Prop := ∀ w, w < i → fulW T w = true → ∀ l k t c', mvW T w = some (l, k, t, c') → SC μ (57 + 2 * w) (upT T c' (thN T (T 2) l)) ∧ μ.1 8 w = nI (c' (12 + T 2) - cT T (12 + T 2))
theorem or_bits {S p i off : Nat} {P : Nat → Prop} (h : ∀ x, S.testBit x = true ↔ ∃ w, w < i ∧ x = off + w ∧ P w) (hp : p = off + i) (hP : P i) : ∀ x, (S ||| 2 ^ p).testBit x = true ↔ ∃ w, w < i + 1 ∧ x = off + w ∧ P w := by
  intro x
  rw [Nat.testBit_or, Bool.or_eq_true, h x, Nat.testBit_two_pow, decide_eq_true_iff]
  constructor
  · rintro (⟨w, a, b, c⟩ | z)
    · exact ⟨w, by omega, b, c⟩
    · exact ⟨i, by omega, by omega, hP⟩
  · rintro ⟨w, a, b, c⟩
    by_cases z : w = i
    · exact Or.inr (by omega)
    · exact Or.inl ⟨w, by omega, b, c⟩
theorem no_bits {S i off : Nat} {P : Nat → Prop} (h : ∀ x, S.testBit x = true ↔ ∃ w, w < i ∧ x = off + w ∧ P w) (hP : ¬ P i) : ∀ x, S.testBit x = true ↔ ∃ w, w < i + 1 ∧ x = off + w ∧ P w := by
  intro x
  rw [h x]
  constructor
  · rintro ⟨w, a, b, c⟩; exact ⟨w, by omega, b, c⟩
  · rintro ⟨w, a, b, c⟩
    by_cases z : w = i
    · rw [z] at c; exact absurd c hP
    · exact ⟨w, by omega, b, c⟩
theorem fed_some {T : Nat → Nat} {w : Nat} (h : fedW T w = true) : (mvW T w).isSome = true := by
  unfold fedW at h
  cases e : mvW T w with
  | none => rw [e] at h; exact Bool.noConfusion h
  | some x => rfl
theorem row_lt {T c' : Nat → Nat} {w l k t : Nat} (hW : WF T) (hw : w < T 1) (hf : fulW T w = true) (hm : mvW T w = some (l, k, t, c')) (s : Nat) : rowN c' (offN (T 1) s) (T 1) < 1000 := by
  have b6 := hW.1.2.1
  obtain ⟨on, hne⟩ := ful_t.mp hf
  have hsum := (mv_p b6 hW.1.1 hW.2.1 hw on hne hm).2.2.1
  have q0 := off_le (T 1) s
  have q1 := row_b (c := c') (b := offN (T 1) s) (T 1)
  have q2 := sum_mo (c := c') 14 (show offN (T 1) s + T 1 ≤ 14 by omega)
  have q3 := WF_b hW
  omega
theorem tryAll_s (n : Nat) (μ : Mu) {T : Nat → Nat} {o : Nat} (ho : OS o) (hW : WF T) (hG : GE μ T) (hS : SC μ o T) (hn : 1000 < n) :
    Ok (X8_tryAll n o μ) (fun a μ' => KP RS μ μ' ∧ AF μ' T (T 1) ∧ ∃ B, a = nI B ∧ CB T B) := by
  obtain ⟨o1, o2, o3, o4⟩ := ho
  have b6 := hW.1.2.1
  have hs := hW.2.1
  have h10 : T 10 < 2 := hW.1.2.2.2.2.2.2.2.2.2.1
  have hoff := off_le (T 1) (T 2)
  have hb := WF_b hW
  unfold X8_tryAll X8_tryAll_21
  rw [kd_of o1, hS.1, hG.1.1, pk_mul, mul_off hs, i_0]
  refine Ok_lp4 (fun k x2 x3 x4 x5 μ' => ∃ i B F, i ≤ T 1 ∧ k = T 1 - i ∧ x2 = nI (offN (T 1) (T 2)) ∧ x3 = nI B ∧ x4 = nI F ∧ x5 = nI i ∧ KP RS μ μ' ∧ B < 4096 ∧ F < 4096 ∧ AF μ' T i ∧ (∀ p, B.testBit p = true ↔ ∃ w, w < i ∧ p = offN (T 1) (T 2) + w ∧ (fulW T w = true ∧ (mvW T w).isSome = true)) ∧ (∀ p, F.testBit p = true ↔ ∃ w, w < i ∧ p = offN (T 1) (T 2) + w ∧ (fulW T w = true ∧ fedW T w = true))) ?_ (T 1) (by omega) ⟨0, 0, 0, by omega, by omega, rfl, rfl, rfl, rfl, KP.rf, by decide, by decide, fun w h => by omega, fun p => ⟨fun h => by simp at h, fun ⟨w, h, _⟩ => by omega⟩, fun p => ⟨fun h => by simp at h, fun ⟨w, h, _⟩ => by omega⟩⟩
  rintro K k x2 x3 x4 x5 μ' ⟨i, B, F, hi, rfl, rfl, rfl, rfl, rfl, hk, hB, hF, hA, bB, bF⟩ hK
  have kR : ∀ x, x = 1 ∨ x = 2 ∨ x = 3 ∨ x = o ∨ x = o + 1 → μ'.1 x = μ.1 x := fun x hx => hk.1 x (by unfold RS; omega)
  have hG' : GE μ' T := GE_o hG (kR 1 (by omega)) (kR 2 (by omega)) (kR 3 (by omega))
  have hS' : SC μ' o T := SC_o hS (kR o (by omega)) (kR (o + 1) (by omega))
  unfold X8_tryAll_21b X8_tryAll_134 X8_tryAll_160 X8_tryAll_161
  rw [hG'.1.1, ifLe (by omega) (by omega), hG'.1.2.2.2.2.2.2.2, i_0, ifEq (by omega) (by decide), ifEq (by omega) (by decide)]
  by_cases q : T 1 ≤ i
  · obtain rfl : i = T 1 := by omega
    rw [if_pos q]
    have hcf : canFd T = true ↔ F ≠ 0 := by
      unfold canFd
      rw [decide_eq_true_iff]
      constructor
      · rintro ⟨w, a, b, c⟩ z
        have := (bF (offN (T 1) (T 2) + w)).mpr ⟨w, a, rfl, b, c⟩
        rw [z] at this
        simp at this
      · intro hF0
        obtain ⟨p, hp⟩ : ∃ p, F.testBit p = true := by
          refine Classical.byContradiction (fun z => hF0 (Nat.eq_of_testBit_eq (fun p => ?_)))
          rw [Nat.zero_testBit]
          cases e : F.testBit p with
          | false => rfl
          | true => exact absurd ⟨p, e⟩ z
        obtain ⟨w, a, b, c, d⟩ := (bF p).mp hp
        exact ⟨w, a, c, d⟩
    have resB : ¬ (T 10 = 1 ∧ canFd T = true) → Ok (some (nI B, μ')) (fun a μ' => KP RS μ μ' ∧ AF μ' T (T 1) ∧ ∃ B, a = nI B ∧ CB T B) := by
      intro hno
      refine Ok_r ⟨hk, hA, B, rfl, hB, fun p => ?_⟩
      rw [bB p]
      have e : ∀ w, canW T w = true ↔ (fulW T w = true ∧ (mvW T w).isSome = true) := by
        intro w
        unfold canW
        have : (decide (T 10 = 1) && canFd T) = false := by
          cases e2 : (decide (T 10 = 1) && canFd T) with
          | false => rfl
          | true =>
            rw [Bool.and_eq_true, decide_eq_true_iff] at e2
            exact absurd e2 hno
        rw [this]
        simp
      simp only [e]
    by_cases c10 : T 10 = 0
    · rw [if_pos c10]
      exact resB (fun z => by omega)
    · rw [if_neg c10]
      by_cases cF : F = 0
      · rw [if_pos cF]
        exact resB (fun z => hcf.mp z.2 cF)
      · rw [if_neg cF]
        refine Ok_r ⟨hk, hA, F, rfl, hF, fun p => ?_⟩
        rw [bF p]
        have e : ∀ w, canW T w = true ↔ (fulW T w = true ∧ fedW T w = true) := by
          intro w
          unfold canW
          rw [decide_eq_true (show T 10 = 1 by omega), hcf.mpr cF]
          simp only [Bool.and_self, Bool.not_true, Bool.false_or, Bool.and_eq_true]
          exact ⟨fun z => ⟨z.1.1, z.2⟩, fun z => ⟨⟨z.1, fed_some z.2⟩, z.2⟩⟩
        simp only [e]
  · have hle := sum_le (c := cT T) 14 (offN (T 1) (T 2) + i) (by omega)
    have ha := aft_k i (by omega)
    have hpl : 2 ^ (offN (T 1) (T 2) + i) < 2 ^ 12 := Nat.pow_lt_pow_right (by decide) (by omega)
    rw [if_neg q, nI_add, gd_n (by omega) (by decide), nI_clamp (by omega), hS'.2 _ (by omega), ifEq (by omega) (by decide), i_1, nI_add, gd_n (by omega) (by decide), nI_clamp (by omega)]
    by_cases c0 : cT T (offN (T 1) (T 2) + i) = 0
    · have hf : ¬ fulW T i = true := fun z => (ful_0 hW (by omega)).mp z c0
      rw [if_pos c0]
      refine hK (T 1 - (i + 1)) _ _ _ _ _ (by omega) ⟨i + 1, B, F, by omega, rfl, rfl, rfl, rfl, rfl, hk, hB, hF, fun w hw hfw => ?_, no_bits bB (fun z => hf z.1), no_bits bF (fun z => hf z.1)⟩
      by_cases z : w = i
      · rw [z] at hfw; exact absurd hfw hf
      · exact hA w (by omega) hfw
    · have hf : fulW T i = true := (ful_0 hW (by omega)).mpr c0
      rw [if_neg c0]
      refine Ok_b (copy_s n μ' ha o1 (by omega) o3 (by omega) hS'.1 hS'.2) ?_
      rintro _ μ1 ⟨q1, q2, q3⟩
      dsimp only
      have hG1 : GE μ1 T := GE_o hG' (q3.1 1 (by omega)) (q3.1 2 (by omega)) (q3.1 3 (by omega))
      refine Ok_b (sowT_s n μ1 ha (by omega) hW hG1 ⟨q1, q2⟩ (by omega) hf hn) ?_
      rintro a μ2 ⟨r1, r2, r3⟩
      dsimp only
      have hk1 : KP (fun x => x = 6 ∨ x = 57 + 2 * i ∨ x = 57 + 2 * i + 1) μ' μ2 := KP.tr (q3.up (fun x hx => by omega)) r1 (fun x hx => by omega)
      have hk2 : KP RS μ μ2 := hk.tr hk1 (fun x hx => by unfold RS; omega)
      have keepA : ∀ μ3, (∀ x, ¬ (x = 6 ∨ x = 8 ∨ x = 57 + 2 * i ∨ x = 57 + 2 * i + 1) → μ3.1 x = μ'.1 x) → (∀ w, w < i → μ3.1 8 w = μ'.1 8 w) → AF μ3 T i := by
        intro μ3 h3 h8 w hw hfw l k t c' hm
        obtain ⟨z1, z2⟩ := hA w hw hfw l k t c' hm
        exact ⟨SC_o z1 (h3 _ (by omega)) (h3 _ (by omega)), by rw [h8 w hw]; exact z2⟩
      rcases mvW_c (T := T) i with hm | ⟨l, kk, t, c', hm⟩
      · rw [r2 hm, if_pos (show nI 0 = nI 0 from rfl)]
        have hno : ¬ (mvW T i).isSome = true := by rw [hm]; decide
        refine hK (T 1 - (i + 1)) _ _ _ _ _ (by omega) ⟨i + 1, B, F, by omega, rfl, rfl, rfl, rfl, rfl, hk2, hB, hF, fun w hw hfw l k t c' hm' => ?_, no_bits bB (fun z => hno z.2), no_bits bF (fun z => hno (fed_some z.2))⟩
        by_cases z : w = i
        · rw [z, hm] at hm'; exact nomatch hm'
        · exact keepA μ2 (fun x hx => hk1.1 x (by omega)) (fun w _ => by rw [hk1.1 8 (by omega)]) w (by omega) hfw l k t c' hm'
      · obtain ⟨g1, g2, g3, g4, g5, g6⟩ := r3 l kk t c' hm
        have hS3 : ∀ v, SC (si μ2 8 i v) (57 + 2 * i) (upT T c' (thN T (T 2) l)) := fun v => SC_o g2 (si_o (by omega)) (si_o (by omega))
        have e1 : ∀ v, (si μ2 8 i v).1 o 1 = nI (T 2) := fun v => by rw [si_b (by omega), hk2.1 o (by unfold RS; omega)]; exact hS.1
        have e2 : ∀ v, (si μ2 8 i v).1 1 1 = nI (T 1) := fun v => by rw [si_b (by omega), hk2.1 1 (by unfold RS; omega)]; exact hG.1.1
        have hrl := row_lt hW (by omega) hf hm (1 - T 2)
        have efed : fedW T i = decide (0 < rowN c' (offN (T 1) (1 - T 2)) (T 1)) := by unfold fedW; rw [hm]
        have hk3 : ∀ v, KP RS μ (si μ2 8 i v) := fun v => hk2.si (Or.inr (Or.inl rfl))
        have hA3 : AF (si μ2 8 i (nI (c' (12 + T 2) - cT T (12 + T 2)))) T (i + 1) := by
          intro w hw hfw l' k' t' c'' hm'
          by_cases z : w = i
          · subst z
            rw [hm] at hm'
            injection hm' with z1
            injection z1 with z1 z2
            injection z2 with z2 z3
            injection z3 with z3 z4
            subst z1 z2 z3 z4
            exact ⟨hS3 _, si_a⟩
          · exact keepA _ (fun x hx => by rw [si_o (by omega), hk1.1 x (by omega)]) (fun w hw2 => by rw [si_c (by omega), hk1.1 8 (by omega)]) w (by omega) hfw l' k' t' c'' hm'
        rw [g1, if_neg (show ¬ nI 1 = nI 0 by decide), e1, e2, pk_sub (by omega), bS (inRow_s n _ (c := c') ha b6 (by omega) (fun k hk => by rw [(hS3 _).2 k hk, cT_up hk]) (by omega))]
        dsimp only
        rw [ifLe (by omega) (by decide), set_bit (by omega), set_bit (by omega), g6]
        have hBo : B ||| 2 ^ (offN (T 1) (T 2) + i) < 4096 := Nat.or_lt_two_pow (n := 12) hB hpl
        have hFo : F ||| 2 ^ (offN (T 1) (T 2) + i) < 4096 := Nat.or_lt_two_pow (n := 12) hF hpl
        have bB2 := or_bits bB rfl ⟨hf, by rw [hm]; rfl⟩
        by_cases cr : rowN c' (offN (T 1) (1 - T 2)) (T 1) ≤ 0
        · rw [if_pos cr]
          exact hK (T 1 - (i + 1)) _ _ _ _ _ (by omega) ⟨i + 1, _, F, by omega, rfl, rfl, rfl, rfl, rfl, hk3 _, hBo, hF, hA3, bB2, no_bits bF (fun z => by rw [efed, decide_eq_true_iff] at z; omega)⟩
        · rw [if_neg cr]
          exact hK (T 1 - (i + 1)) _ _ _ _ _ (by omega) ⟨i + 1, _, _, by omega, rfl, rfl, rfl, rfl, rfl, hk3 _, hBo, hFo, hA3, bB2, or_bits bF rfl ⟨hf, by rw [efed, decide_eq_true_iff]; omega⟩⟩
