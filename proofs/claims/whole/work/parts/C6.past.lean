/-! the past of both sides -/
def CPS (μ : Mu) (d u st : Nat) (B : Nat → Nat → Nat) (m : Nat → Nat) : Prop := μ.1 9 0 = nI d ∧ μ.1 9 1 = nI u ∧ μ.1 9 2 = nI st ∧ ∀ i, i < d + u → μ.1 10 (slN st i) = nI (m i) ∧ SC μ (69 + 2 * slN st i) (B i)
def RPS (μ : Mu) (d u : Nat) (B : Nat → Nat → Nat) (m : Nat → Nat) : Prop := μ.1 171 28 = nI d ∧ μ.1 171 29 = nI u ∧ (∀ i, i < d → (∀ k, k < 25 → μ.1 179 (25 * i + k) = nI (B i k)) ∧ μ.1 180 i = nI (m i)) ∧ (∀ j, j < u → (∀ k, k < 25 → μ.1 181 (25 * j + k) = nI (B (d + u - j) k)) ∧ μ.1 182 j = nI (m (d + u - 1 - j)))
def CHN (T : Nat → Nat) (d u : Nat) (B : Nat → Nat → Nat) (m : Nat → Nat) : Prop := d + u ≤ 40 ∧ B d = T ∧ ∀ i, i < d + u → W1 (B i) ∧ stepP (B i) (m i) (B (i + 1))
theorem PST_i {μ : Mu} {T : Nat → Nat} {d u st : Nat} {B : Nat → Nat → Nat} {m : Nat → Nat} : PST μ T d u st B m ↔ st < 40 ∧ CHN T d u B m ∧ CPS μ d u st B m ∧ RPS μ d u B m := by
  constructor
  · rintro ⟨h1, h2, h3, h4, h5, h6, h7, h8, h9, h10, h11⟩
    exact ⟨h2, ⟨h1, h8, fun i hi => ⟨(h9 i hi).1, (h9 i hi).2.1⟩⟩, ⟨h3, h4, h5, fun i hi => (h9 i hi).2.2⟩, h6, h7, h10, h11⟩
  · rintro ⟨h2, ⟨h1, h8, a⟩, ⟨h3, h4, h5, b⟩, h6, h7, h10, h11⟩
    exact ⟨h1, h2, h3, h4, h5, h6, h7, h8, fun i hi => ⟨(a i hi).1, (a i hi).2, b i hi⟩, h10, h11⟩
def D_cps : List (Nat × Nat × Nat) := [(9, 9, 0), (9, 9, 1), (9, 9, 2), (10, 10, 9999), (69, 148, 9999)]
def D_rps : List (Nat × Nat × Nat) := [(171, 171, 28), (171, 171, 29), (179, 182, 9999)]
theorem CPS_ag {μ μ' : Mu} {d u st : Nat} {B : Nat → Nat → Nat} {m : Nat → Nat} (hst : st < 40) (hdu : d + u ≤ 40) (h : CPS μ d u st B m) (g : AG D_cps μ μ') : CPS μ' d u st B m := by
  obtain ⟨h3, h4, h5, b⟩ := h
  refine ⟨by rw [(g.f 9 0 (by decide)).1]; exact h3, by rw [(g.f 9 1 (by decide)).1]; exact h4, by rw [(g.f 9 2 (by decide)).1]; exact h5, fun i hi => ?_⟩
  obtain ⟨c, e⟩ := b i hi
  have := slN_lt hst (show i < 40 by omega)
  exact ⟨by rw [(g.o 10 10 10 (by decide) (by decide) (by decide)).1]; exact c, SC_o e (g.o _ 69 148 (by decide) (by omega) (by omega)).1 (g.o _ 69 148 (by decide) (by omega) (by omega)).1⟩
theorem RPS_ag {μ μ' : Mu} {d u : Nat} {B : Nat → Nat → Nat} {m : Nat → Nat} (h : RPS μ d u B m) (g : AG D_rps μ μ') : RPS μ' d u B m := by
  obtain ⟨h6, h7, h10, h11⟩ := h
  have e : ∀ o, 179 ≤ o → o ≤ 182 → μ'.1 o = μ.1 o := fun o a b => (g.o o 179 182 (by decide) a b).1
  exact ⟨by rw [(g.f 171 28 (by decide)).1]; exact h6, by rw [(g.f 171 29 (by decide)).1]; exact h7, fun i hi => by rw [e 179 (by decide) (by decide), e 180 (by decide) (by decide)]; exact h10 i hi, fun j hj => by rw [e 181 (by decide) (by decide), e 182 (by decide) (by decide)]; exact h11 j hj⟩
/-! one move more -/
def doB (d : Nat) (B : Nat → Nat → Nat) (T' : Nat → Nat) : Nat → Nat → Nat := fun i => if d = 40 then (if i = 40 then T' else B (i + 1)) else if i = d + 1 then T' else B i
def doM (d : Nat) (m : Nat → Nat) (p : Nat) : Nat → Nat := fun i => if d = 40 then (if i = 39 then p else m (i + 1)) else if i = d then p else m i
def doD (d : Nat) : Nat := if d = 40 then 40 else d + 1
def doS (st d : Nat) : Nat := if d = 40 then slN st 1 else st
theorem doS_lt {st d : Nat} (h : st < 40) : doS st d < 40 := by
  unfold doS
  split
  · exact slN_lt h (by decide)
  · exact h
theorem slN_s {st i : Nat} (h : st < 40) (hi : i < 39) : slN (slN st 1) i = slN st (i + 1) := by
  unfold slN
  split <;> split <;> split <;> omega
theorem slN_39 {st : Nat} (h : st < 40) : slN (slN st 1) 39 = slN st 0 := by
  unfold slN
  split <;> split <;> split <;> omega
theorem slN_in {st i j : Nat} (h : st < 40) (hi : i < 40) (hj : j < 40) (e : slN st i = slN st j) : i = j := by
  unfold slN at e
  split at e <;> split at e <;> omega
theorem doB_40 {B : Nat → Nat → Nat} {T' : Nat → Nat} {i : Nat} : doB 40 B T' i = if i = 40 then T' else B (i + 1) := if_pos rfl
theorem doB_n {d : Nat} {B : Nat → Nat → Nat} {T' : Nat → Nat} {i : Nat} (h : d ≠ 40) : doB d B T' i = if i = d + 1 then T' else B i := if_neg h
theorem doM_40 {m : Nat → Nat} {p i : Nat} : doM 40 m p i = if i = 39 then p else m (i + 1) := if_pos rfl
theorem doM_n {d : Nat} {m : Nat → Nat} {p i : Nat} (h : d ≠ 40) : doM d m p i = if i = d then p else m i := if_neg h
theorem CHN_do {T T' : Nat → Nat} {d u : Nat} {B : Nat → Nat → Nat} {m : Nat → Nat} {w : Nat} (h : CHN T d u B m) (hT : W1 T) (hw : w < T 1) (e : mvR T w = some T') : CHN T' (doD d) 0 (doB d B T') (doM d m (offN (T 1) (T 2) + w)) := by
  obtain ⟨h1, rfl, h3⟩ := h
  by_cases z : d = 40
  · subst z
    refine ⟨by decide, by rw [show doD 40 = 40 from rfl, doB_40, if_pos rfl], fun i hi => ?_⟩
    rw [show doD 40 = 40 from rfl] at hi
    rw [doB_40, doB_40, doM_40]
    by_cases z2 : i = 39
    · subst z2
      rw [if_neg (by decide), if_pos rfl, if_pos rfl]
      exact ⟨hT, w, hw, rfl, e⟩
    · rw [if_neg (by omega), if_neg z2, if_neg (by omega)]
      exact h3 (i + 1) (by omega)
  · have hd : doD d = d + 1 := if_neg z
    refine ⟨by omega, by rw [hd, doB_n z, if_pos rfl], fun i hi => ?_⟩
    rw [doB_n z, doB_n z, doM_n z, if_neg (by omega)]
    by_cases z2 : i = d
    · subst z2
      rw [if_pos rfl, if_pos rfl]
      exact ⟨hT, w, hw, rfl, e⟩
    · rw [if_neg z2, if_neg (by omega)]
      exact h3 i (by omega)
theorem slot_s (n : Nat) (μ : Mu) {st i : Nat} (h : μ.1 9 2 = nI st) (hst : st < 40) (hi : i ≤ 40) : X3_slot n (nI i) μ = some (nI (slN st i), μ) := by
  unfold X3_slot X3_slot_21 slN
  rw [h, nI_add, i_40, ifLe (by decide) (by omega)]
  by_cases z : 40 ≤ st + i
  · rw [if_pos z, if_neg (by omega), pk_sub z]
  · rw [if_neg z, if_pos (by omega)]
theorem bf_k : ∀ i, i < 40 → oK (69 + 2 * i) = 6 := by decide
theorem keep_28 (n : Nat) (μ : Mu) {T : Nat → Nat} {d st p : Nat} (hd : μ.1 9 0 = nI d) (hd40 : d < 40) (hst : st < 40) (h2 : μ.1 9 2 = nI st) (hS : SC μ 53 T) :
    Ok (X3_keep_28 n 53 (nI p) μ) (fun _ μ' => μ'.1 9 0 = nI (d + 1) ∧ μ'.1 9 1 = nI 0 ∧ μ'.1 9 2 = nI st ∧ μ'.1 10 (slN st d) = nI p ∧ (∀ x, x ≠ slN st d → μ'.1 10 x = μ.1 10 x) ∧ SC μ' (69 + 2 * slN st d) T ∧ KP (fun x => x = 9 ∨ x = 10 ∨ x = 69 + 2 * slN st d ∨ x = 69 + 2 * slN st d + 1) μ μ') := by
  have hsl := slN_lt hst hd40
  unfold X3_keep_28
  rw [hd, bS (slot_s n μ h2 hst (by omega))]
  dsimp only
  rw [gd_n hsl (by decide), nI_clamp (by omega)]
  have hS1 : SC (si μ 10 (slN st d) (nI p)) 53 T := SC_o hS (by rw [si_o (by decide)]) (by rw [si_o (by decide)])
  refine Ok_b (copy_s n (si μ 10 (slN st d) (nI p)) (o := 69 + 2 * slN st d) (o1 := 53) (bf_k _ hsl) (by decide) (by omega) (by decide) (by omega) hS1.1 hS1.2) ?_
  rintro _ μ2 ⟨c1, c2, c3⟩
  dsimp only
  have k2 : KP (fun x => x = 9 ∨ x = 10 ∨ x = 69 + 2 * slN st d ∨ x = 69 + 2 * slN st d + 1) μ μ2 := (KP.si KP.rf (Or.inr (Or.inl rfl))).tr c3 (fun o q => by omega)
  have e9 : μ2.1 9 = μ.1 9 := by rw [c3.1 9 (by omega), si_o (by decide)]
  have e10 : μ2.1 10 = (si μ 10 (slN st d) (nI p)).1 10 := c3.1 10 (by omega)
  rw [show μ2.1 9 0 = nI d by rw [e9]; exact hd, i_1, nI_add, i_0]
  refine Ok_r ⟨by rw [si_c (by decide), si_a], si_a, by rw [si_c (by decide), si_c (by decide), e9]; exact h2, by rw [si_b (by decide), si_b (by decide), e10, si_a], fun x hx => by rw [si_b (by decide), si_b (by decide), e10, si_c hx], ⟨by rw [si_b (by omega), si_b (by omega)]; exact c1, fun k hk => by rw [si_b (by omega), si_b (by omega)]; exact c2 k hk⟩, (k2.si (Or.inl rfl)).si (Or.inl rfl)⟩
theorem keep_s (n : Nat) (μ : Mu) {T T' : Nat → Nat} {d u st p : Nat} {B : Nat → Nat → Nat} {m : Nat → Nat} (hst : st < 40) (hC : CHN T d u B m) (hP : CPS μ d u st B m) (hS : SC μ 53 T) :
    Ok (X3_keep n 53 (nI p) μ) (fun _ μ' => CPS μ' (doD d) 0 (doS st d) (doB d B T') (doM d m p) ∧ KP (fun x => x = 9 ∨ x = 10 ∨ (69 ≤ x ∧ x ≤ 148)) μ μ') := by
  obtain ⟨h1, hBd, _⟩ := hC
  obtain ⟨p0, p1, p2, p3⟩ := hP
  unfold X3_keep
  rw [kd_of (by decide), p0, i_40, ifEq (by omega) (by decide)]
  by_cases z : d = 40
  · subst z
    rw [if_pos rfl, i_1, bS (slot_s n μ p2 hst (by omega))]
    dsimp only
    have hs1 := slN_lt hst (show 1 < 40 by decide)
    rw [si_c (by decide), p0, pk_sub (by omega), show 40 - 1 = 39 from rfl]
    refine Ok_m (keep_28 n _ (T := T) (d := 39) (st := slN st 1) si_a (by decide) hs1 (by rw [si_c (by decide), si_a]) (SC_o hS (by rw [si_o (by decide), si_o (by decide)]) (by rw [si_o (by decide), si_o (by decide)]))) ?_
    rintro _ μ2 ⟨q1, q2, q3, q4, q5, q6, q7⟩
    have h39 := slN_39 hst
    have hs0 := slN_lt hst (show 0 < 40 by decide)
    refine ⟨⟨q1, q2, q3, fun i hi => ?_⟩, ((KP.rf.si (Or.inl rfl)).si (Or.inl rfl)).tr q7 (fun o q => by omega)⟩
    rw [show doD 40 + 0 = 40 from rfl] at hi
    rw [show doS st 40 = slN st 1 from rfl, doM_40, doB_40]
    by_cases z2 : i = 39
    · subst z2
      rw [if_pos rfl, if_neg (by decide)]
      exact ⟨q4, by rw [hBd]; exact q6⟩
    · rw [if_neg z2, if_neg (by omega)]
      have ne : slN (slN st 1) i ≠ slN (slN st 1) 39 := fun e => z2 (slN_in hs1 (by omega) (by decide) e)
      obtain ⟨a, b⟩ := p3 (i + 1) (by omega)
      have hi2 := slN_lt hs1 (show i < 40 by omega)
      rw [← slN_s hst (by omega)] at a b
      refine ⟨by rw [q5 _ ne, si_b (by decide), si_b (by decide)]; exact a, SC_o b ?_ ?_⟩
      · rw [q7.1 _ (by omega), si_o (by omega), si_o (by omega)]
      · rw [q7.1 _ (by omega), si_o (by omega), si_o (by omega)]
  · rw [if_neg z]
    refine Ok_m (keep_28 n μ (T := T) (d := d) (st := st) p0 (by omega) hst p2 hS) ?_
    rintro _ μ2 ⟨q1, q2, q3, q4, q5, q6, q7⟩
    have hd : doD d = d + 1 := if_neg z
    have hs : doS st d = st := if_neg z
    have hsd := slN_lt hst (show d < 40 by omega)
    rw [hd, hs]
    refine ⟨⟨q1, q2, q3, fun i hi => ?_⟩, q7.up (fun o q => by omega)⟩
    rw [doM_n z, doB_n z, if_neg (show ¬ i = d + 1 by omega)]
    by_cases z2 : i = d
    · subst z2
      rw [if_pos rfl]
      exact ⟨q4, by rw [hBd]; exact q6⟩
    · rw [if_neg z2]
      have ne : slN st i ≠ slN st d := fun e => z2 (slN_in hst (by omega) (by omega) e)
      obtain ⟨a, b⟩ := p3 i (by omega)
      have hi2 := slN_lt hst (show i < 40 by omega)
      exact ⟨by rw [q5 _ ne]; exact a, SC_o b (q7.1 _ (by omega)) (q7.1 _ (by omega))⟩
/-! the reference keeps -/
def KK (μ μ' : Mu) : Prop := (∀ o, o ≠ 171 → o ≠ 179 → o ≠ 180 → μ'.1 o = μ.1 o) ∧ μ'.2 = μ.2 ∧ (∀ k, k ≠ 28 → μ'.1 171 k = μ.1 171 k)
theorem keeps_78 (n : Nat) (μ : Mu) {T : Nat → Nat} {d p : Nat} (hd : μ.1 171 28 = nI d) (hd40 : d < 40) (hT : TD μ T) (hn : 1000 < n) :
    Ok (X12_keeps_78 n (nI p) μ) (fun _ μ' => μ'.1 171 28 = nI (d + 1) ∧ (∀ k, k < 25 → μ'.1 179 (25 * d + k) = nI (T k)) ∧ (∀ x, ¬ (25 * d ≤ x ∧ x < 25 * d + 25) → μ'.1 179 x = μ.1 179 x) ∧ μ'.1 180 d = nI p ∧ (∀ x, x ≠ d → μ'.1 180 x = μ.1 180 x) ∧ KK μ μ') := by
  unfold X12_keeps_78
  rw [hd, bS (puts_s n μ (by decide) (by decide) (show 25 * d + 25 ≤ 1000 by omega) (by decide) (by decide) (by decide) (by decide) (by omega))]
  dsimp only
  have e171 : ∀ k, (mvF μ 172 0 179 (25 * d) 25).1 171 k = μ.1 171 k := fun k => mvF_o μ (by decide) 25
  rw [e171 28, hd, gd_n hd40 (by decide), nI_clamp (by omega), si_b (by decide), e171 28, hd, i_1, nI_add]
  refine Ok_r ⟨si_a, fun k hk => ?_, fun x hx => ?_, by rw [si_b (by decide), si_a], fun x hx => ?_, fun o a b c => ?_, ?_, fun k hk => ?_⟩
  · rw [si_b (by decide), si_b (by decide), mvF_d, if_pos ⟨by omega, by omega⟩, Nat.add_sub_cancel_left, Nat.zero_add]
    exact hT k hk
  · rw [si_b (by decide), si_b (by decide), mvF_d, if_neg (by omega)]
  · rw [si_b (by decide), si_c hx, mvF_o μ (by decide)]
  · rw [si_o a, si_o c]; exact funext (fun k => mvF_o μ b 25)
  · show (mvF μ 172 0 179 (25 * d) 25).2 = μ.2
    exact mvF_2 μ 25
  · rw [si_c hk, si_b (by decide), e171 k]
theorem keeps_s (n : Nat) (μ : Mu) {T T' : Nat → Nat} {d u p : Nat} {B : Nat → Nat → Nat} {m : Nat → Nat} (hC : CHN T d u B m) (r0 : μ.1 171 28 = nI d) (r2 : ∀ i, i < d → (∀ k, k < 25 → μ.1 179 (25 * i + k) = nI (B i k)) ∧ μ.1 180 i = nI (m i)) (hT : TD μ T) (hn : 2000 < n) :
    Ok (X12_keeps n (nI p) μ) (fun _ μ' => μ'.1 171 28 = nI (doD d) ∧ (∀ i, i < doD d → (∀ k, k < 25 → μ'.1 179 (25 * i + k) = nI (doB d B T' i k)) ∧ μ'.1 180 i = nI (doM d m p i)) ∧ KK μ μ') := by
  obtain ⟨h1, hBd, _⟩ := hC
  unfold X12_keeps
  rw [r0, i_40, ifEq (by omega) (by decide)]
  by_cases z : d = 40
  · subst z
    rw [if_pos rfl]
    unfold X12_keeps_12
    rw [i_25]
    refine Ok_lp1 (fun f x2 μ' => ∃ j, 25 ≤ j ∧ j ≤ 1000 ∧ f = 1000 - j ∧ x2 = nI j ∧ (∀ x, x < 1000 → μ'.1 179 x = if x + 25 < j then μ.1 179 (x + 25) else μ.1 179 x) ∧ (∀ o, o ≠ 179 → μ'.1 o = μ.1 o) ∧ μ'.2 = μ.2) ?_ 975 (by omega) ⟨25, by omega, by omega, rfl, rfl, fun x _ => by rw [if_neg (by omega)], fun _ _ => rfl, rfl⟩
    rintro K f x2 μ1 ⟨j, hj1, hj2, rfl, rfl, ha, ho, h2⟩ hK
    unfold X12_keeps_12b
    rw [i_1000, ifLe (by decide) (by omega)]
    by_cases c : 1000 ≤ j
    · obtain rfl : j = 1000 := by omega
      rw [if_pos c]
      unfold X12_keeps_42
      rw [i_1]
      refine Ok_lp1 (fun f x2 μ' => ∃ j, 1 ≤ j ∧ j ≤ 40 ∧ f = 40 - j ∧ x2 = nI j ∧ (∀ x, x < 40 → μ'.1 180 x = if x + 1 < j then μ.1 180 (x + 1) else μ.1 180 x) ∧ (∀ o, o ≠ 180 → μ'.1 o = μ1.1 o) ∧ μ'.2 = μ.2) ?_ 39 (by omega) ⟨1, by omega, by omega, rfl, rfl, fun x _ => by rw [if_neg (by omega), ho 180 (by decide)], fun _ _ => rfl, h2⟩
      rintro K2 f x2 μ2 ⟨j, hj1, hj2, rfl, rfl, hb, ho2, h22⟩ hK2
      unfold X12_keeps_42b
      rw [i_40, ifLe (by decide) (by omega)]
      by_cases c2 : 40 ≤ j
      · obtain rfl : j = 40 := by omega
        rw [if_pos c2, ho2 171 (by decide), ho 171 (by decide), r0, i_1, pk_sub (by omega), show 40 - 1 = 39 from rfl]
        refine Ok_m (keeps_78 n _ (T := T) (d := 39) si_a (by decide) (TD_o hT (by rw [si_o (by decide), ho2 172 (by decide), ho 172 (by decide)])) (by omega)) ?_
        rintro _ μ3 ⟨q1, q2, q3, q4, q5, q6, q7, q8⟩
        refine ⟨q1, fun i hi => ?_, fun o a b c => ?_, by rw [q7]; exact h22, fun k hk => ?_⟩
        · rw [show doD 40 = 40 from rfl] at hi
          rw [doM_40]
          by_cases z2 : i = 39
          · subst z2
            rw [if_pos rfl]
            exact ⟨fun k hk => by rw [q2 k hk, doB_40, if_neg (by decide), hBd], q4⟩
          · rw [if_neg z2]
            refine ⟨fun k hk => ?_, ?_⟩
            · rw [doB_40, if_neg (by omega), q3 _ (by omega), si_b (by decide), ho2 179 (by decide), ha _ (by omega), if_pos (by omega), show 25 * i + k + 25 = 25 * (i + 1) + k by omega]
              exact (r2 (i + 1) (by omega)).1 k hk
            · rw [q5 _ z2, si_b (by decide), hb _ (by omega), if_pos (by omega)]
              exact (r2 (i + 1) (by omega)).2
        · rw [q6 o a b c, si_o a, ho2 o c, ho o b]
        · rw [q8 k hk, si_c hk, ho2 171 (by decide), ho 171 (by decide)]
      · rw [if_neg c2, gd_n (by omega) (by decide), i_1, pk_sub (by omega), gd_n (by omega) (by decide), nI_clamp (by omega), nI_clamp (by omega), nI_add, hb j (by omega), if_neg (by omega)]
        refine hK2 (40 - (j + 1)) _ _ (by omega) ⟨j + 1, by omega, by omega, rfl, rfl, fun x hx => ?_, fun o a => by rw [si_o a]; exact ho2 o a, h22⟩
        by_cases z2 : x = j - 1
        · rw [z2, si_a, if_pos (by omega), show j - 1 + 1 = j by omega]
        · rw [si_c z2, hb x hx]
          by_cases z3 : x + 1 < j
          · rw [if_pos z3, if_pos (by omega)]
          · rw [if_neg z3, if_neg (by omega)]
    · rw [if_neg c, gd_n (by omega) (by decide), i_25, pk_sub (by omega), gd_n (by omega) (by decide), nI_clamp (by omega), nI_clamp (by omega), i_1, nI_add, ha j (by omega), if_neg (by omega)]
      refine hK (1000 - (j + 1)) _ _ (by omega) ⟨j + 1, by omega, by omega, rfl, rfl, fun x hx => ?_, fun o a => by rw [si_o a]; exact ho o a, h2⟩
      by_cases z2 : x = j - 25
      · rw [z2, si_a, if_pos (by omega), show j - 25 + 25 = j by omega]
      · rw [si_c z2, ha x hx]
        by_cases z3 : x + 25 < j
        · rw [if_pos z3, if_pos (by omega)]
        · rw [if_neg z3, if_neg (by omega)]
  · rw [if_neg z]
    refine Ok_m (keeps_78 n μ (T := T) (d := d) r0 (by omega) hT (by omega)) ?_
    rintro _ μ3 ⟨q1, q2, q3, q4, q5, q6⟩
    have hd : doD d = d + 1 := if_neg z
    rw [hd]
    refine ⟨q1, fun i hi => ?_, q6⟩
    rw [doM_n z]
    by_cases z2 : i = d
    · subst z2
      rw [if_pos rfl]
      exact ⟨fun k hk => by rw [q2 k hk, doB_n z, if_neg (by omega), hBd], q4⟩
    · rw [if_neg z2]
      exact ⟨fun k hk => by rw [doB_n z, if_neg (by omega), q3 _ (by omega)]; exact (r2 i (by omega)).1 k hk, by rw [q5 _ z2]; exact (r2 i (by omega)).2⟩
