/-! positions laid by their numbers -/
def bhF (r n : Nat) : Nat → Nat → Nat
  | 0, b => b
  | f + 1, b => if sumF (Wn r) (b + 1) ≤ n then bhF r n f (b + 1) else b
def bhN (r n rest : Nat) : Nat := bhF r n rest 0
def laR (q : Nat → Nat) (m : Nat) : Nat → Nat → Nat → (Nat → Nat) → (Nat → Nat)
  | 0, _, _, c => c
  | r + 1, rest, n, c => laR q m r (bhN r n rest) (n - sumF (Wn r) (bhN r n rest)) (ups c (q (m - (r + 1))) (rest - bhN r n rest))
def laC (T : Nat → Nat) (sd s k : Nat) : Nat → Nat := laR (sqN T sd) (opnN T) (opnN T) s k (fun _ => 0)
theorem bhF_p {r n : Nat} : ∀ f b, sumF (Wn r) b ≤ n → n < sumF (Wn r) (b + f + 1) → b ≤ bhF r n f b ∧ bhF r n f b ≤ b + f ∧ sumF (Wn r) (bhF r n f b) ≤ n ∧ n < sumF (Wn r) (bhF r n f b + 1) := by
  intro f
  induction f with
  | zero => intro b h1 h2; exact ⟨Nat.le_refl _, Nat.le_refl _, h1, h2⟩
  | succ f ih =>
    intro b h1 h2
    rw [bhF]
    by_cases c : sumF (Wn r) (b + 1) ≤ n
    · rw [if_pos c]
      obtain ⟨i1, i2, i3, i4⟩ := ih (b + 1) c (by rw [show b + 1 + f + 1 = b + (f + 1) + 1 by omega]; exact h2)
      exact ⟨by omega, by omega, i3, i4⟩
    · rw [if_neg c]
      exact ⟨Nat.le_refl _, by omega, h1, by omega⟩
theorem bh_p {r n rest : Nat} (h : n < Wn (r + 1) rest) : bhN r n rest ≤ rest ∧ sumF (Wn r) (bhN r n rest) ≤ n ∧ n < sumF (Wn r) (bhN r n rest + 1) ∧ n - sumF (Wn r) (bhN r n rest) < Wn r (bhN r n rest) := by
  obtain ⟨i1, i2, i3, i4⟩ := bhF_p (r := r) (n := n) rest 0 (Nat.zero_le _) (by rw [Nat.zero_add]; exact h)
  have e : sumF (Wn r) (bhF r n rest 0 + 1) = sumF (Wn r) (bhF r n rest 0) + Wn r (bhF r n rest 0) := rfl
  unfold bhN
  exact ⟨by omega, i3, i4, by omega⟩
theorem bh_0 {r n : Nat} : bhN r n 0 = 0 := rfl
theorem la_0 {q : Nat → Nat} {m : Nat} : ∀ r n c, (∀ i, m - r ≤ i → i < m → c (q i) = 0) → r ≤ m → ∀ x, laR q m r 0 n c x = c x := by
  intro r
  induction r with
  | zero => intro n c _ _ x; rfl
  | succ r ih =>
    intro n c h hr x
    have e : ups c (q (m - (r + 1))) (0 - 0) = c := by
      funext y
      by_cases z : y = q (m - (r + 1))
      · rw [z, ups_a, h (m - (r + 1)) (Nat.le_refl _) (by omega)]
      · rw [ups_b z]
    rw [laR, bh_0, e]
    exact ih _ c (fun i h1 h2 => h i (by omega) h2) (by omega) x
theorem la_p {q : Nat → Nat} {m : Nat} (hq : ∀ i j, i < m → j < m → i ≠ j → q i ≠ q j) : ∀ r rest n c, r ≤ m → n < Wn r rest → (∀ i, i < m - r → laR q m r rest n c (q i) = c (q i)) ∧ sumF (fun i => laR q m r rest n c (q i)) m = sumF (fun i => c (q i)) (m - r) + rest ∧ (∀ x, (∀ i, i < m → x ≠ q i) → laR q m r rest n c x = c x) := by
  intro r
  induction r with
  | zero =>
    intro rest n c _ h
    have h0 : rest = 0 := by
      refine Decidable.byContradiction (fun z => ?_)
      rw [Wn_00 z] at h
      omega
    subst h0
    exact ⟨fun i _ => rfl, by rw [Nat.sub_zero]; rfl, fun x _ => rfl⟩
  | succ r ih =>
    intro rest n c hr h
    obtain ⟨b1, b2, b3, b4⟩ := bh_p h
    obtain ⟨i1, i2, i3⟩ := ih (bhN r n rest) (n - sumF (Wn r) (bhN r n rest)) (ups c (q (m - (r + 1))) (rest - bhN r n rest)) (by omega) b4
    rw [laR]
    refine ⟨fun i hi => ?_, ?_, fun x hx => ?_⟩
    · rw [i1 i (by omega), ups_b (hq i (m - (r + 1)) (by omega) (by omega) (by omega))]
    · rw [i2, show m - r = m - (r + 1) + 1 by omega, sumF, ups_a]
      have e : sumF (fun i => ups c (q (m - (r + 1))) (rest - bhN r n rest) (q i)) (m - (r + 1)) = sumF (fun i => c (q i)) (m - (r + 1)) := sum_cg _ (fun i hi => by rw [ups_b (hq i (m - (r + 1)) (by omega) (by omega) (by omega))])
      omega
    · rw [i3 x hx, ups_b (hx _ (by omega))]
theorem laC_p {T : Nat → Nat} {sd s k : Nat} (hs : sd < 2) (hk : k < Wn (opnN T) s) : sumF (laC T sd s k) (2 * T 1) = s ∧ (∀ x, (2 * T 1 ≤ x ∨ (T 3).testBit x = true) → laC T sd s k x = 0) := by
  obtain ⟨i1, i2, i3⟩ := la_p (q := sqN T sd) (m := opnN T) (fun i j h1 h2 h3 => sq_in hs h3 h1 h2) (opnN T) s k (fun _ => 0) (Nat.le_refl _) hk
  have hz : ∀ x, (2 * T 1 ≤ x ∨ (T 3).testBit x = true) → laC T sd s k x = 0 := by
    intro x hx
    refine i3 x (fun i hi e => ?_)
    obtain ⟨a, b⟩ := sq_lt (T := T) hs hi
    rw [← e] at a b
    rcases hx with h | h
    · omega
    · rw [h] at b; exact absurd b (by decide)
  refine ⟨?_, hz⟩
  rw [← sq_sum hs (fun p _ h => hz p (Or.inr h))]
  rw [Nat.sub_self] at i2
  unfold laC
  rw [i2]
  exact Nat.zero_add s
theorem clear_s (n : Nat) (μ : Mu) {o : Nat} (ho : oK o = 6) (hn : 1000 < n) : Ok (X6_clear n o μ) (fun _ μ' => μ'.1 o 1 = nI 0 ∧ CE μ' o (fun _ => 0) ∧ KP (fun x => x = o ∨ x = o + 1) μ μ') := by
  unfold X6_clear X6_clear_2
  rw [kd_of ho, i_0]
  refine Ok_lp1 (fun k x1 μ' => ∃ i, i ≤ 14 ∧ k = 14 - i ∧ x1 = nI i ∧ (∀ j, j < i → μ'.1 (o + 1) j = nI 0) ∧ KP (fun x => x = o ∨ x = o + 1) μ μ') ?_ 14 (by omega) ⟨0, by omega, rfl, rfl, fun j h => by omega, KP.rf⟩
  rintro K k x1 μ' ⟨i, hi, rfl, rfl, hj, hk⟩ hK
  unfold X6_clear_2b
  rw [i_14, ifLe (by decide) (by omega), i_0]
  by_cases q : 14 ≤ i
  · rw [if_pos q]
    exact Ok_r ⟨si_a, fun j hj2 => by rw [si_b (by omega)]; exact hj j (by omega), hk.si (Or.inl rfl)⟩
  · rw [if_neg q, gd_n (by omega) (by decide), nI_clamp (by omega), i_1, nI_add]
    refine hK (14 - (i + 1)) _ _ (by omega) ⟨i + 1, by omega, rfl, rfl, fun j hj2 => ?_, hk.si (Or.inr rfl)⟩
    by_cases z : j = i
    · rw [z, si_a]
    · rw [si_c z]; exact hj j (by omega)
theorem CE_cg {μ : Mu} {o : Nat} {c c' : Nat → Nat} (h : CE μ o c) (e : ∀ k, k < 14 → c k = c' k) : CE μ o c' := by
  intro k hk
  rw [h k hk, e k hk]
theorem lay_s (n : Nat) (μ : Mu) {T : Nat → Nat} {o sd s k : Nat} (ho : oK o = 6) (ho2 : 40 < o) (b6 : T 1 < 7) (hs : sd < 2) (hS : SN μ T sd) (hO : μ.1 2 1 = nI (opnN T)) (hw : WT μ) (h40 : s ≤ 40) (hk : k < Wn (opnN T) s) (h6 : k ≤ 6000) (hn : 1000 < n) :
    Ok (X1_lay n o (nI sd) (nI s) (nI k) μ) (fun _ μ' => μ'.1 o 1 = nI sd ∧ CE μ' o (laC T sd s k) ∧ KP (fun x => x = o ∨ x = o + 1) μ μ') := by
  have hopl := opn_le (T := T)
  unfold X1_lay
  rw [kd_of ho]
  refine Ok_b (clear_s n μ ho hn) ?_
  rintro _ μ1 ⟨c1, c2, c3⟩
  dsimp only
  unfold X1_lay_25
  rw [i_12, pk_mul, i_0]
  refine Ok_lp4 (fun f x5 x6 x7 x8 μ' => ∃ j rest num c, x5 = nI (sd * 12) ∧ x6 = nI rest ∧ x7 = nI num ∧ x8 = nI j ∧ j ≤ opnN T ∧ f = opnN T - j ∧ rest ≤ 40 ∧ num ≤ 6000 ∧ num < Wn (opnN T - j) rest ∧ μ'.1 o 1 = nI sd ∧ CE μ' o c ∧ KP (fun x => x = o ∨ x = o + 1) μ μ' ∧ (∀ i, j ≤ i → i < opnN T → c (sqN T sd i) = 0) ∧ laR (sqN T sd) (opnN T) (opnN T - j) rest num c = laC T sd s k) ?_ (opnN T) (by omega) ⟨0, s, k, fun _ => 0, rfl, rfl, rfl, rfl, by omega, rfl, h40, h6, hk, si_a, CE_so c2 (by omega), c3.si (Or.inl rfl), fun _ _ _ => rfl, rfl⟩
  rintro K f x5 x6 x7 x8 μ' ⟨j, rest, num, c, rfl, rfl, rfl, rfl, hj, rfl, hr40, hn6, hnum, hsd, hc, hkp, hz, hla⟩ hK
  have kR : ∀ x, x = 2 ∨ x = 4 ∨ x = 5 → μ'.1 x = μ.1 x := fun x hx => hkp.1 x (by omega)
  have hO' : μ'.1 2 1 = nI (opnN T) := by rw [kR 2 (by omega), hO]
  have hS' : ∀ j, j < opnN T → μ'.1 4 (sd * 12 + j) = nI (sqN T sd j) := fun j hj => by rw [kR 4 (by omega)]; exact hS j hj
  have hw' : ∀ p, p < 14 → ∀ s, s ≤ 40 → μ'.1 5 (p * 41 + s) = nI (min 6001 (Wn p s)) := fun p hp s hs => by rw [kR 5 (by omega)]; exact hw p hp s hs
  unfold X1_lay_25b X1_lay_134
  rw [hO', ifLe (by omega) (by omega), i_0, ifLe (by omega) (by decide)]
  by_cases q : opnN T ≤ j
  · rw [if_pos q]
    rw [show opnN T - j = 0 by omega] at hla
    rw [← hla]
    exact Ok_r ⟨hsd, hc, hkp⟩
  · rw [if_neg q]
    by_cases q0 : rest ≤ 0
    · rw [if_pos q0]
      rw [show rest = 0 by omega] at hla
      refine Ok_r ⟨hsd, CE_cg hc (fun x _ => ?_), hkp⟩
      rw [← hla, la_0 _ _ _ (fun i h1 h2 => hz i (by omega) h2) (by omega)]
    · obtain ⟨r, hr⟩ : ∃ r, opnN T - j = r + 1 := ⟨opnN T - j - 1, by omega⟩
      rw [hr] at hnum hla
      obtain ⟨b1, b2, b3, b4⟩ := bh_p hnum
      have hqj := sq_lt (T := T) hs (show j < opnN T by omega)
      rw [laR, show opnN T - (r + 1) = j by omega] at hla
      rw [if_neg q0, pk_sub (by omega), hr, i_41, pk_mul]
      unfold X1_lay_54
      -- the end of the inner loop
      have L104 : Ok (X1_lay_104 n o (nI sd) (nI s) (nI k) K (nI (sd * 12)) (nI rest) (nI (num - sumF (Wn r) (bhN r num rest))) (nI j) (nI (bhN r num rest)) μ') (fun _ μ' => μ'.1 o 1 = nI sd ∧ CE μ' o (laC T sd s k) ∧ KP (fun x => x = o ∨ x = o + 1) μ μ') := by
        unfold X1_lay_104
        rw [nI_add, gd_n (by omega) (by decide), nI_clamp (by omega), hS' j (by omega), gd_n (by omega) (by decide), nI_clamp (by omega), pk_sub b1, i_1, nI_add]
        refine hK (opnN T - (j + 1)) _ _ _ _ _ (by omega) ⟨j + 1, bhN r num rest, num - sumF (Wn r) (bhN r num rest), _, rfl, rfl, rfl, rfl, by omega, rfl, by omega, by omega, by rw [show opnN T - (j + 1) = r by omega]; exact b4, by rw [si_b (by omega)]; exact hsd, CE_si hc, hkp.si (Or.inr rfl), fun i h1 h2 => ?_, by rw [show opnN T - (j + 1) = r by omega]; exact hla⟩
        rw [ups_b (sq_in hs (by omega) h2 (by omega)), hz i (by omega) h2]
      have L82 : Ok (X1_lay_82 n o (nI sd) (nI s) (nI k) K (nI (sd * 12)) (nI rest) (nI num) (nI j) (nI ((r + 1) * 41)) (nI (bhN r num rest)) μ') (fun _ μ' => μ'.1 o 1 = nI sd ∧ CE μ' o (laC T sd s k) ∧ KP (fun x => x = o ∨ x = o + 1) μ μ') := by
        unfold X1_lay_82
        rw [i_0, ifLe (by omega) (by decide)]
        by_cases z : bhN r num rest ≤ 0
        · rw [if_pos z]
          have e : sumF (Wn r) (bhN r num rest) = 0 := by rw [show bhN r num rest = 0 by omega]; rfl
          rw [e, Nat.sub_zero] at L104
          exact L104
        · rw [if_neg z, nI_add, i_1, pk_sub (by omega), show (r + 1) * 41 + bhN r num rest - 1 = (r + 1) * 41 + (bhN r num rest - 1) by omega, gd_n (by omega) (by decide), nI_clamp (by omega), hw' (r + 1) (by omega) _ (by omega)]
          have e : Wn (r + 1) (bhN r num rest - 1) = sumF (Wn r) (bhN r num rest) := by
            show sumF (Wn r) (bhN r num rest - 1 + 1) = _
            rw [show bhN r num rest - 1 + 1 = bhN r num rest by omega]
          rw [e, Nat.min_eq_right (by omega), pk_sub b2]
          exact L104
      refine Ok_lp6 (fun f x5 x6 x7 x8 x9 x10 μ2 => ∃ b, x5 = nI (sd * 12) ∧ x6 = nI rest ∧ x7 = nI num ∧ x8 = nI j ∧ x9 = nI ((r + 1) * 41) ∧ x10 = nI b ∧ μ2 = μ' ∧ b ≤ rest ∧ f = rest - b ∧ bhF r num (rest - b) b = bhN r num rest) ?_ rest (by omega) ⟨0, rfl, rfl, rfl, rfl, rfl, rfl, rfl, by omega, rfl, rfl⟩
      rintro K2 f x5 x6 x7 x8 x9 x10 μ2 ⟨b, rfl, rfl, rfl, rfl, rfl, rfl, rfl, hb, rfl, hbh⟩ hK2
      unfold X1_lay_54b
      rw [ifLe (by omega) (by omega)]
      by_cases z : rest ≤ b
      · rw [if_pos z]
        rw [show rest - b = 0 by omega, bhF] at hbh
        rw [hbh]
        exact L82
      · obtain ⟨g, hg⟩ : ∃ g, rest - b = g + 1 := ⟨rest - b - 1, by omega⟩
        rw [hg, bhF] at hbh
        have e : Wn (r + 1) b = sumF (Wn r) (b + 1) := rfl
        rw [if_neg z, nI_add, gd_n (by omega) (by decide), nI_clamp (by omega), hw' (r + 1) (by omega) b (by omega), ifLt (by omega) (by omega)]
        by_cases z2 : sumF (Wn r) (b + 1) ≤ num
        · rw [if_pos z2] at hbh
          rw [if_neg (by omega), i_1, nI_add]
          exact hK2 (rest - (b + 1)) _ _ _ _ _ _ _ (by omega) ⟨b + 1, rfl, rfl, rfl, rfl, rfl, rfl, rfl, by omega, rfl, by rw [show rest - (b + 1) = g by omega]; exact hbh⟩
        · rw [if_neg z2] at hbh
          rw [if_pos (by omega), hbh]
          exact L82
/-! the reference -/
def KL (μ μ' : Mu) : Prop := (∀ o, o ≠ 171 → o ≠ 178 → o ≠ 183 → μ'.1 o = μ.1 o) ∧ μ'.2 = μ.2 ∧ (∀ k, k ≠ 31 → μ'.1 171 k = μ.1 171 k)
def HA (μ : Mu) (c : Nat → Nat) : Prop := ∀ p, p < 12 → μ.1 178 p = nI (c p)
theorem HA_si {μ : Mu} {k v : Nat} {c : Nat → Nat} (h : HA μ c) : HA (si μ 178 k (nI v)) (ups c k v) := by
  intro x hx
  by_cases q : x = k
  · rw [q, si_a, ups_a]
  · rw [si_c q, ups_b q, h x hx]
theorem KL.h {μ μ' : Mu} (h : KL μ μ') {k : Nat} {v : Int32} : KL μ (si μ' 178 k v) := ⟨fun o o1 o2 o3 => by rw [si_o o2, h.1 o o1 o2 o3], h.2.1, fun k hk => by rw [si_b (by decide), h.2.2 k hk]⟩
theorem lays_s (n : Nat) (μ : Mu) {T : Nat → Nat} {sd s k : Nat} (hB : BD T) (hT : TD μ T) (hs : sd < 2) (h40 : s ≤ 40) (hk : k < Wn (opnN T) s) (h6 : k ≤ 6000) (hn : 1000 < n) :
    Ok (X12_lays n (nI sd) (nI s) (nI k) μ) (fun _ μ' => HA μ' (laC T sd s k) ∧ KL μ μ') := by
  have b6 := hB.2.1
  have hopl := opn_le (T := T)
  unfold X12_lays
  refine Ok_b (sees_s n μ hB hT hs hn) ?_
  rintro _ μ1 ⟨⟨ho, hq⟩, k1, k2, k3⟩
  dsimp only
  unfold X12_lays_8
  rw [i_0]
  refine Ok_lp1 (fun f x4 μ' => ∃ i, i ≤ 12 ∧ f = 12 - i ∧ x4 = nI i ∧ (∀ p, p < i → μ'.1 178 p = nI 0) ∧ KL μ μ' ∧ μ'.1 171 31 = nI (opnN T) ∧ μ'.1 183 = μ1.1 183) ?_ 12 (by omega) ⟨0, by omega, rfl, rfl, fun p h => by omega, ⟨fun o o1 o2 o3 => k1 o o1 o3, k2, k3⟩, ho, rfl⟩
  rintro K f x4 μ' ⟨i, hi, rfl, rfl, hp, hkl, hO, e183⟩ hK
  unfold X12_lays_8b
  rw [i_12, ifLe (by decide) (by omega)]
  by_cases q : 12 ≤ i
  · obtain rfl : i = 12 := by omega
    rw [if_pos q]
    unfold X12_lays_39
    rw [nI_l (by omega), i_0]
    refine Ok_lp3 (fun f x4 x5 x7 μ' => ∃ j rest num c, x4 = nI rest ∧ x5 = lN num ∧ x7 = nI j ∧ j ≤ opnN T ∧ f = opnN T - j ∧ rest ≤ 40 ∧ num ≤ 6000 ∧ num < Wn (opnN T - j) rest ∧ HA μ' c ∧ KL μ μ' ∧ μ'.1 171 31 = nI (opnN T) ∧ μ'.1 183 = μ1.1 183 ∧ laR (sqN T sd) (opnN T) (opnN T - j) rest num c = laC T sd s k) ?_ (opnN T) (by omega) ⟨0, s, k, fun _ => 0, rfl, rfl, rfl, by omega, rfl, h40, h6, hk, hp, hkl, hO, e183, rfl⟩
    rintro K2 f x4 x5 x7 μ2 ⟨j, rest, num, c, rfl, rfl, rfl, hj, rfl, hr40, hn6, hnum, hc, hkl2, hO2, e2, hla⟩ hK2
    unfold X12_lays_39b
    rw [hO2, ifLe (by omega) (by omega)]
    by_cases q : opnN T ≤ j
    · rw [if_pos q]
      rw [show opnN T - j = 0 by omega] at hla
      rw [← hla]
      exact Ok_r ⟨hc, hkl2⟩
    · rw [if_neg q]
      obtain ⟨r, hr⟩ : ∃ r, opnN T - j = r + 1 := ⟨opnN T - j - 1, by omega⟩
      rw [hr] at hnum hla
      obtain ⟨b1, b2, b3, b4⟩ := bh_p hnum
      have hqj := sq_lt (T := T) hs (show j < opnN T by omega)
      rw [laR, show opnN T - (r + 1) = j by omega] at hla
      unfold X12_lays_52
      refine Ok_lp4 (fun f x4 x5 x7 x8 μ3 => ∃ b, x4 = nI rest ∧ x5 = lN (num - sumF (Wn r) b) ∧ x7 = nI j ∧ x8 = nI (rest - b) ∧ μ3 = μ2 ∧ b ≤ bhN r num rest ∧ f = bhN r num rest - b ∧ bhF r num (rest - b) b = bhN r num rest ∧ sumF (Wn r) b ≤ num) ?_ (bhN r num rest) (by omega) ⟨0, rfl, rfl, rfl, rfl, rfl, by omega, rfl, rfl, Nat.zero_le _⟩
      rintro K3 f x4 x5 x7 x8 μ3 ⟨b, rfl, rfl, rfl, rfl, rfl, hb, rfl, hbh, hsb⟩ hK3
      have es : sumF (Wn r) (b + 1) = sumF (Wn r) b + Wn r b := rfl
      have hW : Wn r b < 2 ^ 31 ∨ 2 ^ 31 ≤ Wn r b := by omega
      have hWb : Wn r b < 2 ^ 63 := by
        cases r with
        | zero =>
          show (if b = 0 then 1 else 0) < 2 ^ 63
          split <;> decide
        | succ r =>
          have h1 := Wn_b r b
          have h2 : (b + 1) ^ r ≤ 41 ^ r := Nat.pow_le_pow_left (by omega) _
          have h3 : 41 ^ r ≤ 41 ^ 11 := Nat.pow_le_pow_right (by decide) (by omega)
          have h4 : 41 ^ 11 < 2 ^ 63 := by decide
          omega
      unfold X12_lays_52b
      rw [hO2, i_1, pk_sub (by omega), pk_sub (by omega), pk_sub (by omega), show rest - (rest - b) = b by omega, show opnN T - j - 1 = r by omega, bS (ways_s n μ3 (by omega) (by omega) hn)]
      dsimp only
      by_cases z2 : sumF (Wn r) (b + 1) ≤ num
      · have hb2 : b < bhN r num rest := by
          refine Decidable.byContradiction (fun z => ?_)
          obtain rfl : b = bhN r num rest := by omega
          omega
        obtain ⟨g, hg⟩ : ∃ g, rest - b = g + 1 := ⟨rest - b - 1, by omega⟩
        rw [hg, bhF, if_pos z2] at hbh
        rw [if_neg (fun z => absurd ((pk_lLT (by omega) hWb).mp (lg_lt.mp z)) (by omega)), hO2, pk_sub (by omega), pk_sub (by omega), show opnN T - j - 1 = r by omega, bS (ways_s n μ3 (by omega) (by omega) hn)]
        dsimp only
        rw [lN_sub (by omega), m1_add (by omega)]
        exact hK3 (bhN r num rest - (b + 1)) _ _ _ _ _ (by omega) ⟨b + 1, rfl, by rw [es, Nat.sub_sub], rfl, by rw [Nat.sub_sub], rfl, by omega, rfl, by rw [show rest - (b + 1) = g by omega]; exact hbh, z2⟩
      · have hbe : b = bhN r num rest := by
          by_cases z : rest - b = 0
          · rw [z, bhF] at hbh; exact hbh
          · obtain ⟨g, hg⟩ : ∃ g, rest - b = g + 1 := ⟨rest - b - 1, by omega⟩
            rw [hg, bhF, if_neg z2] at hbh
            exact hbh
        subst hbe
        rw [if_pos (lg_lt.mpr ((pk_lLT (by omega) hWb).mpr (by omega))), gd_n (by omega) (by decide), nI_clamp (by omega), e2, hq j (by omega), gd_n (by omega) (by decide), nI_clamp (by omega), nI_add]
        exact hK2 (opnN T - (j + 1)) _ _ _ _ (by omega) ⟨j + 1, bhN r num rest, num - sumF (Wn r) (bhN r num rest), _, rfl, rfl, rfl, by omega, rfl, by omega, by omega, by rw [show opnN T - (j + 1) = r by omega]; exact b4, HA_si hc, hkl2.h, by rw [si_b (by decide)]; exact hO2, by rw [si_o (by decide), e2], by rw [show opnN T - (j + 1) = r by omega]; exact hla⟩
  · rw [if_neg q, gd_n (by omega) (by decide), nI_clamp (by omega), i_0, i_1, nI_add]
    refine hK (12 - (i + 1)) _ _ (by omega) ⟨i + 1, by omega, rfl, rfl, fun p hp2 => ?_, hkl.h, by rw [si_b (by decide)]; exact hO, by rw [si_o (by decide), e183]⟩
    by_cases z : p = i
    · rw [z, si_a]
    · rw [si_c z]; exact hp p (by omega)
