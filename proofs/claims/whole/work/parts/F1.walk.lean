/-! walking on from a scene; call: forced -/
def nxB (T : Nat → Nat) (p : Nat) : Nat → Nat := (mvR T (p - offN (T 1) (T 2))).getD T
theorem nxB_d {T : Nat → Nat} {p : Nat} (hT : W1 T) (hp : canP T p = true) : ∃ w l k t c', w < T 1 ∧ p = offN (T 1) (T 2) + w ∧ canW T w = true ∧ fulW T w = true ∧ mvW T w = some (l, k, t, c') ∧ nxB T p = upT T c' (thN T (T 2) l) ∧ W1 (nxB T p) ∧ RE T (nxB T p) ∧ mvR T w = some (nxB T p) := by
  obtain ⟨w, hw, rfl, hc⟩ := canP_t.mp hp
  obtain ⟨hf, l, k, t, c', hm⟩ := can_fs hc
  have e : nxB T (offN (T 1) (T 2) + w) = upT T c' (thN T (T 2) l) := by
    unfold nxB
    rw [Nat.add_sub_cancel_left, mvR_i hc hm]
    rfl
  refine ⟨w, l, k, t, c', hw, rfl, hc, hf, hm, e, ?_, ?_, ?_⟩
  · rw [e]; exact (W1_mv hT hw (mvR_i hc hm)).1
  · rw [e]; exact RE_up
  · rw [e]; exact mvR_i hc hm
theorem fn_f {g : Nat → Bool} {q : Nat} : ∀ c i, i ≤ q → q < i + c → g q = true → (∀ x, i ≤ x → x < q → g x = false) → fnF g c i 0 = some q := by
  intro c
  induction c with
  | zero => intro i h1 h2; omega
  | succ c ih =>
    intro i h1 h2 h3 h4
    by_cases z : i = q
    · rw [z, fn_y h3, if_pos rfl]
    · rw [fn_n (by rw [h4 i (Nat.le_refl _) (by omega)]; decide)]
      exact ih (i + 1) (by omega) (by omega) h3 (fun x a b => h4 x (by omega) b)
theorem fn_some {g : Nat → Bool} {q : Nat} : ∀ c i l, fnF g c i l = some q → i ≤ q ∧ q < i + c ∧ g q = true := by
  intro c
  induction c with
  | zero => intro i l h; exact nomatch h
  | succ c ih =>
    intro i l h
    by_cases z : g i = true
    · rw [fn_y z] at h
      by_cases zl : l = 0
      · rw [if_pos zl] at h
        rw [← Option.some.inj h]
        exact ⟨Nat.le_refl _, by omega, z⟩
      · rw [if_neg zl] at h
        obtain ⟨a, b, d⟩ := ih _ _ h
        exact ⟨by omega, by omega, d⟩
    · rw [fn_n z] at h
      obtain ⟨a, b, d⟩ := ih _ _ h
      exact ⟨by omega, by omega, d⟩
/-- as many as there are: the search finds one -/
theorem fn_ex {g : Nat → Bool} : ∀ c i l, l < sumF (fun x => if g (i + x) = true then 1 else 0) c → ∃ q, fnF g c i l = some q := by
  intro c
  induction c with
  | zero => intro i l h; exact absurd h (by unfold sumF; omega)
  | succ c ih =>
    intro i l h
    rw [show c + 1 = 1 + c by omega, sum_split] at h
    have e1 : sumF (fun x => if g (i + x) = true then 1 else 0) 1 = if g i = true then 1 else 0 := by
      show 0 + (if g (i + 0) = true then 1 else 0) = _
      rw [Nat.zero_add, Nat.add_zero]
    have e2 : sumF (fun x => if g (i + (1 + x)) = true then 1 else 0) c = sumF (fun x => if g (i + 1 + x) = true then 1 else 0) c := sum_cg _ (fun x _ => by rw [← Nat.add_assoc])
    rw [e1, e2] at h
    by_cases z : g i = true
    · rw [if_pos z] at h
      rw [fn_y z]
      by_cases zl : l = 0
      · exact ⟨i, by rw [if_pos zl]⟩
      · rw [if_neg zl]
        exact ih (i + 1) (l - 1) (by omega)
    · rw [if_neg z] at h
      rw [fn_n z]
      exact ih (i + 1) l (by omega)
def ncP (T : Nat → Nat) : Nat := sumF (fun p => if canP T p = true then 1 else 0) 12
theorem pc_nc {T : Nat → Nat} {B : Nat} (h : CB T B) : pcN B = ncP T := sum_cg _ (fun p _ => by rw [CB_p h])
theorem sum_1 {f : Nat → Nat} {q : Nat} : ∀ n, q < n → (∀ x, x < n → x ≠ q → f x = 0) → sumF f n = f q := by
  intro n
  induction n with
  | zero => intro h; omega
  | succ n ih =>
    intro h h2
    rw [sumF]
    by_cases z : q = n
    · rw [z, sum0 n (fun x hx => h2 x (by omega) (by omega)), Nat.zero_add]
    · rw [ih (by omega) (fun x hx => h2 x (by omega)), h2 n (by omega) (fun e => z e.symm), Nat.add_zero]
theorem sum_2 {f : Nat → Nat} {q r : Nat} : ∀ n, q < r → r < n → f q + f r ≤ sumF f n := by
  intro n
  induction n with
  | zero => intro _ h; omega
  | succ n ih =>
    intro h1 h2
    rw [sumF]
    by_cases z : r = n
    · have := sum_le (c := f) n q (by omega)
      rw [z]; omega
    · have := ih h1 (by omega)
      omega
theorem nc_no {T : Nat → Nat} (h : ∀ p, p < 12 → canP T p = false) : ncP T = 0 := sum0 12 (fun x hx => by rw [h x hx, if_neg (by decide)])
theorem nc_one {T : Nat → Nat} {q : Nat} (hq : q < 12) (h : canP T q = true) (h2 : ∀ p, p < 12 → p ≠ q → canP T p = false) : ncP T = 1 ∧ fnF (canP T) 12 0 0 = some q := by
  refine ⟨?_, fn_f 12 0 (by omega) (by omega) h (fun x _ hx => h2 x (by omega) (by omega))⟩
  unfold ncP
  rw [sum_1 12 hq (fun x hx hne => by rw [h2 x hx hne, if_neg (by decide)]), h, if_pos rfl]
theorem nc_two {T : Nat → Nat} {q r : Nat} (hqr : q < r) (hr : r < 12) (h1 : canP T q = true) (h2 : canP T r = true) : ncP T ≠ 1 := by
  have := sum_2 (f := fun p => if canP T p = true then 1 else 0) 12 hqr hr
  rw [h1, h2, if_pos rfl] at this
  unfold ncP
  omega
theorem oI_s (q : Nat) : oI (some q) = nI q := rfl
theorem pick_lp (n : Nat) (μ : Mu) {T : Nat → Nat} {B l : Nat} (v1 : Int32) (cb : CB T B) (hl : l < 2 ^ 31) (hn : 1000 < n) : Ok (X10_pick_16 n (nI B) v1 (nI l) μ) (fun a μ' => a = oI (fnF (canP T) 12 0 l) ∧ μ' = μ) := by
  unfold X10_pick_16 X10_pick_20
  rw [i_0]
  refine Ok_lp2 (fun f x3 x4 μ' => ∃ p l', p ≤ 12 ∧ f = 12 - p ∧ l' < 2 ^ 31 ∧ x3 = nI l' ∧ x4 = nI p ∧ μ' = μ ∧ fnF (canP T) (12 - p) p l' = fnF (canP T) 12 0 l) ?_ 12 (by omega) ⟨0, l, by omega, rfl, hl, rfl, rfl, rfl, rfl⟩
  rintro K f x3 x4 μ1 ⟨p, l', hp, rfl, hl', rfl, rfl, rfl, hf⟩ hK
  unfold X10_pick_20b X10_pick_46
  rw [i_12, ifLe (by decide) (by omega)]
  by_cases c : 12 ≤ p
  · obtain rfl : p = 12 := by omega
    rw [if_pos c, ← hf]
    exact Ok_r ⟨rfl, rfl⟩
  · obtain ⟨c', hc'⟩ : ∃ c', 12 - p = c' + 1 := ⟨12 - p - 1, by omega⟩
    rw [if_neg c, bS (has_s n μ1 (Nat.lt_trans cb.1 (by decide)) (by omega)), CB_p cb]
    dsimp only
    rw [i_1, nI_add]
    cases hc : canP T p with
    | false =>
      rw [if_pos (show b2i false = 0 from rfl)]
      rw [hc', fn_n (by rw [hc]; decide)] at hf
      exact hK (12 - (p + 1)) _ _ _ (by omega) ⟨p + 1, l', by omega, rfl, hl', rfl, rfl, rfl, by rw [← hf, show 12 - (p + 1) = c' by omega]⟩
    | true =>
      rw [if_neg (show ¬ b2i true = 0 by decide)]
      rw [hc', fn_y hc] at hf
      by_cases zl : l' = 0
      · rw [if_pos zl] at hf
        rw [zl, if_pos (show nI 0 = 0 from rfl), ← hf]
        exact Ok_r ⟨rfl, rfl⟩
      · rw [if_neg zl] at hf
        rw [if_neg (nI_ne0 (by omega) hl'), m1_add (by omega)]
        exact hK (12 - (p + 1)) _ _ _ (by omega) ⟨p + 1, l' - 1, by omega, rfl, by omega, rfl, rfl, rfl, by rw [← hf, show 12 - (p + 1) = c' by omega]⟩
/-- the pit that a draw falls on -/
def pkP (T : Nat → Nat) (dr : Nat) : Option Nat := fnF (canP T) 12 0 (if ncP T = 0 then 0 else dr % ncP T)
theorem nc_le (T : Nat → Nat) : ncP T ≤ 12 := by
  have := (sum_gr (f := fun p => if canP T p = true then 1 else 0) (g := fun _ => 1) 12 (fun k _ => by split <;> omega)).1
  exact this
theorem pick_s (n : Nat) (μ : Mu) {T : Nat → Nat} {B dr : Nat} (cb : CB T B) (hd : dr < 2 ^ 31) (hn : 1000 < n) : Ok (X10_pick n (nI B) (nI dr) μ) (fun a μ' => a = oI (pkP T dr) ∧ μ' = μ) := by
  have hle := nc_le T
  unfold X10_pick pkP
  rw [bS (bitCount_s n μ cb.1), pc_nc cb]
  dsimp only
  by_cases z : ncP T = 0
  · rw [z, if_pos (show nI 0 = 0 from rfl), if_pos rfl, i_0]
    exact pick_lp n μ _ cb (by decide) hn
  · have := Nat.mod_lt dr (show 0 < ncP T by omega)
    rw [if_neg (nI_ne0 (by omega) (by omega)), dv_of (nI_ne0 (by omega) (by omega)), pk_rem hd (by omega) (by omega), if_neg z]
    exact pick_lp n μ _ cb (by omega) hn
theorem pk_t {T : Nat → Nat} {dr p : Nat} (h : pkP T dr = some p) : canP T p = true ∧ p < 12 := by
  obtain ⟨a, b, c⟩ := fn_some _ _ _ h
  exact ⟨c, by omega⟩
theorem fn_none {g : Nat → Bool} : ∀ c i l, (∀ x, i ≤ x → x < i + c → g x = false) → fnF g c i l = none := by
  intro c
  induction c with
  | zero => intro i l _; rfl
  | succ c ih =>
    intro i l h
    rw [fn_n (by rw [h i (Nat.le_refl _) (by omega)]; decide)]
    exact ih (i + 1) l (fun x a b => h x (by omega) (by omega))
theorem ov_nc {T : Nat → Nat} (b6 : T 1 < 7) : overT T = true ↔ ncP T = 0 := by
  have hol := off_le (T 1) (T 2)
  rw [over_no]
  constructor
  · intro h
    refine nc_no (fun p _ => ?_)
    cases e : canP T p with
    | false => rfl
    | true =>
      obtain ⟨w, hw, _, hc⟩ := canP_t.mp e
      rw [h w hw] at hc
      exact Bool.noConfusion hc
  · intro h w hw
    cases e : canW T w with
    | false => rfl
    | true =>
      exfalso
      have hp : canP T (offN (T 1) (T 2) + w) = true := canP_t.mpr ⟨w, hw, rfl, e⟩
      have := sum_le (c := fun p => if canP T p = true then 1 else 0) 12 (offN (T 1) (T 2) + w) (by omega)
      rw [hp, if_pos rfl] at this
      unfold ncP at h
      omega
theorem pk_n {T : Nat → Nat} {dr : Nat} (b6 : T 1 < 7) : pkP T dr = none ↔ overT T = true := by
  rw [ov_nc b6]
  unfold pkP
  by_cases z : ncP T = 0
  · rw [if_pos z]
    refine ⟨fun _ => z, fun _ => fn_none 12 0 0 (fun x _ hx => ?_)⟩
    cases e : canP T x with
    | false => rfl
    | true =>
      have := sum_le (c := fun p => if canP T p = true then 1 else 0) 12 x (by omega)
      rw [e, if_pos rfl] at this
      unfold ncP at z
      omega
  · rw [if_neg z]
    refine ⟨fun h => ?_, fun h => absurd h z⟩
    have hlt := Nat.mod_lt dr (show 0 < ncP T by omega)
    obtain ⟨q, e⟩ := fn_ex (g := canP T) 12 0 (dr % ncP T) (by
      rw [show sumF (fun x => if canP T (0 + x) = true then 1 else 0) 12 = ncP T from sum_cg _ (fun x _ => by rw [Nat.zero_add])]
      exact hlt)
    rw [e] at h
    exact nomatch h
/-! the walker's steps -/
def KG (x : Nat) : Prop := x = 6 ∨ x = 22 ∨ x = 23 ∨ x = 153 ∨ x = 154
theorem begin_s (n : Nat) (μ : Mu) {T : Nat → Nat} (hN : NOW μ T) : Ok (X10_begin n 53 μ) (fun _ μ' => SC μ' 153 T ∧ μ'.1 22 2 = nI 0 ∧ μ'.1 22 3 = nI 0 ∧ KP KG μ μ') := by
  unfold X10_begin
  rw [kd_of (by decide)]
  refine Ok_b (copy_s n μ (o := 153) (o1 := 53) (by decide) (by decide) (by decide) (by decide) (by decide) hN.2.2.1 hN.2.2.2) ?_
  rintro _ μ1 ⟨q1, q2, q3⟩
  refine Ok_r ⟨SC_o ⟨q1, q2⟩ (by rw [si_o (by decide), si_o (by decide)]) (by rw [si_o (by decide), si_o (by decide)]), by rw [si_c (by decide), si_a]; rfl, si_a, ?_⟩
  exact ((q3.up (R' := KG) (fun o q => by unfold KG; omega)).si (Or.inr (Or.inl rfl))).si (Or.inr (Or.inl rfl))
theorem go_s (n : Nat) (μ : Mu) {T : Nat → Nat} {p k : Nat} (hT : W1 T) (hG : GE μ T) (hS : SC μ 153 T) (hp : canP T p = true) (hk : μ.1 22 2 = nI k) (hk1 : k < 100) (hn : 1000 < n) :
    Ok (X10_go n (nI p) μ) (fun _ μ' => SC μ' 153 (nxB T p) ∧ μ'.1 22 2 = nI (k + 1) ∧ μ'.1 23 k = nI p ∧ (∀ j, j ≠ k → μ'.1 23 j = μ.1 23 j) ∧ μ'.1 22 3 = μ.1 22 3 ∧ KP KG μ μ') := by
  obtain ⟨w, l, kk, t, c', hw, rfl, hc, hf, hm, e, _⟩ := nxB_d hT hp
  unfold X10_go
  refine Ok_b (sowT_s n μ (T := T) (o := 153) (by decide) (by decide) hT.1 hG hS hw hf hn) ?_
  rintro a μ1 ⟨k1, _, q⟩
  obtain ⟨_, q2, _⟩ := q l kk t c' hm
  dsimp only
  rw [e]
  have e22 : μ1.1 22 = μ.1 22 := k1.1 22 (by omega)
  have e23 : μ1.1 23 = μ.1 23 := k1.1 23 (by omega)
  rw [show μ1.1 22 2 = nI k by rw [e22]; exact hk, gd_n hk1 (by decide), nI_clamp (by omega), si_b (by decide), show μ1.1 22 2 = nI k by rw [e22]; exact hk, i_1, nI_add]
  refine Ok_r ⟨SC_o q2 (by rw [si_o (by decide), si_o (by decide)]) (by rw [si_o (by decide), si_o (by decide)]), si_a, by rw [si_b (by decide), si_a], fun j hj => by rw [si_b (by decide), si_c hj, e23], by rw [si_c (by decide), si_b (by decide), e22], ?_⟩
  exact ((k1.up (R' := KG) (fun o q => by unfold KG; omega)).si (Or.inr (Or.inr (Or.inl rfl)))).si (Or.inr (Or.inl rfl))
theorem GE_kg {μ μ' : Mu} {T : Nat → Nat} (h : GE μ T) (k : KP KG μ μ') : GE μ' T := GE_o h (k.1 1 (by unfold KG; omega)) (k.1 2 (by unfold KG; omega)) (k.1 3 (by unfold KG; omega))
theorem GE_rs {μ μ' : Mu} {T : Nat → Nat} (h : GE μ T) (k : KP RS μ μ') : GE μ' T := GE_o h (k.1 1 (by unfold RS; omega)) (k.1 2 (by unfold RS; omega)) (k.1 3 (by unfold RS; omega))
/-! forced -/
def onP (T : Nat → Nat) : Option Nat := if ncP T = 1 then fnF (canP T) 12 0 0 else none
def fcF : Nat → (Nat → Nat) → Nat
  | 0, _ => 0
  | c + 1, T => match onP T with
    | none => 0
    | some p => fcF c (nxB T p) + 1
theorem on_t {T : Nat → Nat} {p : Nat} (h : onP T = some p) : ncP T = 1 ∧ canP T p = true ∧ p < 12 ∧ pkP T 0 = some p := by
  unfold onP at h
  by_cases z : ncP T = 1
  · rw [if_pos z] at h
    obtain ⟨_, a, b⟩ := fn_some _ _ _ h
    refine ⟨z, b, by omega, ?_⟩
    unfold pkP
    rw [if_neg (by omega), Nat.zero_mod]
    exact h
  · rw [if_neg z] at h; exact nomatch h
theorem on_n {T : Nat → Nat} (h : onP T = none) : ncP T ≠ 1 := by
  intro z
  unfold onP at h
  rw [if_pos z] at h
  obtain ⟨q, e⟩ := fn_ex (g := canP T) 12 0 0 (by
    rw [show sumF (fun x => if canP T (0 + x) = true then 1 else 0) 12 = ncP T from sum_cg _ (fun x _ => by rw [Nat.zero_add])]
    omega)
  rw [e] at h
  exact nomatch h
theorem forcedC_s (n : Nat) (μ : Mu) {T : Nat → Nat} (hT : W1 T) (hN : NOW μ T) (hn : 1000 < n) : Ok (X11_forced n μ) (fun a _ => a = nI (fcF 60 T)) := by
  unfold X11_forced X10_goWhileForced
  rw [kd_of (by decide)]
  refine Ok_b (P := fun _ μ' => μ'.1 22 2 = nI (fcF 60 T)) ?_ (fun _ μ1 q => Ok_r q)
  refine Ok_b (begin_s n μ hN) ?_
  rintro _ μ1 ⟨b1, b2, _, b4⟩
  dsimp only
  unfold X10_goWhileForced_7
  rw [i_0]
  refine Ok_lp1 (fun f x2 μ' => ∃ i Tc, i ≤ 60 ∧ f = 60 - i ∧ x2 = nI i ∧ W1 Tc ∧ GE μ' Tc ∧ SC μ' 153 Tc ∧ μ'.1 22 2 = nI i ∧ i + fcF (60 - i) Tc = fcF 60 T) ?_ 60 (by omega) ⟨0, T, by omega, rfl, rfl, hT, GE_kg hN.1.1.1 b4, b1, b2, Nat.zero_add _⟩
  rintro K f x2 μ2 ⟨i, Tc, hi, rfl, rfl, hTc, hGc, hSc, h22, hf⟩ hK
  unfold X10_goWhileForced_7b
  rw [i_60, ifLe (by decide) (by omega)]
  by_cases c : 60 ≤ i
  · obtain rfl : i = 60 := by omega
    rw [if_pos c]
    refine Ok_r ?_
    rw [h22, ← hf]
    rfl
  · obtain ⟨c', hc'⟩ : ∃ c', 60 - i = c' + 1 := ⟨60 - i - 1, by omega⟩
    rw [if_neg c]
    refine Ok_b (choices_s n μ2 os153 hTc.1 hGc hSc hn) ?_
    rintro _ μ3 ⟨k3, B, rfl, cb⟩
    dsimp only
    have hle := nc_le Tc
    rw [bS (bitCount_s n μ3 cb.1), pc_nc cb]
    dsimp only
    rw [i_1, ifEq (by omega) (by decide)]
    have e22 : μ3.1 22 2 = nI i := by rw [k3.1 22 (by unfold RS; omega)]; exact h22
    cases ho : onP Tc with
    | none =>
      rw [if_neg (on_n ho)]
      refine Ok_r ?_
      rw [e22, ← hf, hc', fcF, ho]
      rfl
    | some p =>
      obtain ⟨n1, n2, n3, n4⟩ := on_t ho
      obtain ⟨_, _, _, _, _, _, _, _, _, _, _, w1, re, _⟩ := nxB_d hTc n2
      rw [if_pos n1, i_0]
      refine Ok_b (pick_s n μ3 (dr := 0) cb (by decide) hn) ?_
      rintro _ μ4 ⟨rfl, rfl⟩
      dsimp only
      rw [n4, oI_s]
      have s4 : SC μ4 153 Tc := SC_o hSc (k3.1 153 (by unfold RS; omega)) (k3.1 154 (by unfold RS; omega))
      refine Ok_b (go_s n μ4 hTc (GE_rs hGc k3) s4 n2 e22 (by omega) hn) ?_
      rintro _ μ5 ⟨q1, q2, _, _, _, q6⟩
      dsimp only
      rw [nI_add]
      refine hK (60 - (i + 1)) _ _ (by omega) ⟨i + 1, nxB Tc p, by omega, rfl, rfl, w1, GE_re re (GE_kg (GE_rs hGc k3) q6), q1, q2, ?_⟩
      rw [← hf, hc', fcF, ho, show 60 - (i + 1) = c' by omega]
      dsimp only
      omega
