/-! the model of a move, on fourteen cells: pits 0 .. 11, stores 12, 13; where it stands: a place of the way -/
def ups (c : Nat → Nat) (j v : Nat) : Nat → Nat := fun x => if x = j then v else c x
theorem ups_a {c : Nat → Nat} {j v : Nat} : ups c j v j = v := if_pos rfl
theorem ups_b {c : Nat → Nat} {j v x : Nat} (h : x ≠ j) : ups c j v x = c x := if_neg h
theorem sum_ups {c : Nat → Nat} {j v : Nat} : ∀ n, j < n → sumF (ups c j v) n + c j = sumF c n + v := by
  have h0 : ∀ n, n ≤ j → sumF (ups c j v) n = sumF c n := by
    intro n
    induction n with
    | zero => intro _; rfl
    | succ n ih => intro h; rw [sumF, sumF, ih (by omega), ups_b (by omega)]
  intro n
  induction n with
  | zero => intro h; omega
  | succ n ih =>
    intro h
    rw [sumF, sumF]
    by_cases q : j = n
    · subst q
      rw [h0 j (Nat.le_refl _), ups_a]
      omega
    · rw [ups_b (by omega)]
      have := ih (by omega)
      omega
theorem sum_le {c : Nat → Nat} : ∀ n k, k < n → c k ≤ sumF c n := by
  intro n
  induction n with
  | zero => intro k h; omega
  | succ n ih =>
    intro k h
    rw [sumF]
    by_cases q : k = n
    · subst q; omega
    · have := ih k (by omega)
      omega
theorem sum_cg {c d : Nat → Nat} : ∀ n, (∀ k, k < n → c k = d k) → sumF c n = sumF d n := by
  intro n
  induction n with
  | zero => intro _; rfl
  | succ n ih => intro h; rw [sumF, sumF, ih (fun k hk => h k (by omega)), h n (by omega)]
def Pw (T : Nat → Nat) (s w : Nat) : Nat → Bool := if T 5 = 1 then pw (onI T s) w else onI T s
def nxR (T : Nat → Nat) (s w i : Nat) : Nat := (fd (Pw T s w) (2 * T 1 + 1) i (2 * T 1 + 1) 1).getD i
def stk (T : Nat → Nat) (s w : Nat) : Bool := decide (T 5 = 1 ∧ fd (Pw T s w) (2 * T 1 + 1) w (2 * T 1 + 1) 1 = none)
def scC (T : Nat → Nat) (s w : Nat) : Nat → Nat → (Nat → Nat) → Nat × (Nat → Nat)
  | 0, i, c => (i, c)
  | k + 1, i, c => scC T s w k (nxR T s w i) (ups c (cI (T 1) s (nxR T s w i)) (c (cI (T 1) s (nxR T s w i)) + 1))
def scW (T : Nat → Nat) (s w : Nat) (c : Nat → Nat) : Nat × (Nat → Nat) := scC T s w (c (cI (T 1) s w)) w (ups c (cI (T 1) s w) 0)
def sowC (T : Nat → Nat) (s : Nat) : Nat → Nat → Nat → (Nat → Nat) → Option (Nat × Nat × (Nat → Nat))
  | 0, _, _, _ => none
  | f + 1, k, w, c => if stk T s w = true then none else if T 6 = 0 ∨ (scW T s w c).1 = T 1 ∨ (scW T s w c).2 (cI (T 1) s (scW T s w c).1) = 1 then some ((scW T s w c).1, k, (scW T s w c).2) else sowC T s f (k + 1) (scW T s w c).1 (scW T s w c).2
def gok (T : Nat → Nat) (c : Nat → Nat) (x : Nat) : Bool := (T 3).testBit x || decide (c x = 2) || decide (c x = 3)
def gnd (ok : Nat → Bool) (lo : Nat) : Nat → Nat
  | 0 => 0
  | e + 1 => if lo ≤ e ∧ ok e = true then gnd ok lo e else e + 1
def gsm (ok : Nat → Bool) (c : Nat → Nat) (lo : Nat) : Nat → Nat
  | 0 => 0
  | e + 1 => if lo ≤ e ∧ ok e = true then c e + gsm ok c lo e else 0
def clr (c : Nat → Nat) (e l : Nat) : Nat → Nat := fun x => if e ≤ x ∧ x ≤ l then 0 else c x
def tkO (T : Nat → Nat) (s : Nat) (c : Nat → Nat) (l : Nat) : Nat × (Nat → Nat) :=
  if T 7 = 1 ∧ c l = 1 ∧ c (2 * T 1 - 1 - l) ≠ 0 then (c (2 * T 1 - 1 - l) + 1, ups (ups (ups c (2 * T 1 - 1 - l) 0) l 0) (12 + s) (c (12 + s) + (c (2 * T 1 - 1 - l) + 1))) else (0, c)
def tkG (T : Nat → Nat) (s : Nat) (c : Nat → Nat) (l : Nat) : Nat × (Nat → Nat) :=
  if T 7 = 2 then (if T 8 = 1 ∧ gsm (gok T c) c (offN (T 1) (1 - s)) (l + 1) = rowN c (offN (T 1) (1 - s)) (T 1) then (0, c) else (gsm (gok T c) c (offN (T 1) (1 - s)) (l + 1), ups (clr c (gnd (gok T c) (offN (T 1) (1 - s)) (l + 1)) l) (12 + s) (c (12 + s) + gsm (gok T c) c (offN (T 1) (1 - s)) (l + 1)))) else (0, c)
def tkR (T : Nat → Nat) (s : Nat) (c : Nat → Nat) (l : Nat) : Nat × (Nat → Nat) :=
  if l = T 1 then (0, c) else if l < T 1 then tkO T s c (cI (T 1) s l) else tkG T s c (cI (T 1) s l)
theorem Pw_0 {T : Nat → Nat} {s w : Nat} (h : T 5 ≠ 1) : Pw T s w = onI T s := if_neg h
theorem Pw_1 {T : Nat → Nat} {s w : Nat} (h : T 5 = 1) : Pw T s w = pw (onI T s) w := if_pos h
theorem nxR_of {T : Nat → Nat} {s w i j : Nat} (h : NX (Pw T s w) (2 * T 1 + 1) i j) : nxR T s w i = j := by
  unfold nxR
  rw [NX_fd h]
  rfl
/-- it isn't stuck: where sowing goes on to, from a place on the way -/
theorem stk_f {T : Nat → Nat} {s w : Nat} (hw : w < 2 * T 1 + 1) (on : onI T s w = true) : stk T s w = false ↔ (T 5 = 1 → ∃ j, NX (onI T s) (2 * T 1 + 1) w j ∧ j ≠ w) := by
  unfold stk
  rw [decide_eq_false_iff_not]
  constructor
  · intro h h5
    obtain ⟨j, hj⟩ := NX_ex hw hw on
    refine ⟨j, hj, fun q => h ⟨h5, ?_⟩⟩
    subst q
    have k3 := NX_k3 hw hj
    cases e : fd (Pw T s j) (2 * T 1 + 1) j (2 * T 1 + 1) 1 with
    | none => rfl
    | some x =>
      have hx := fd_NX e
      have := NX_on hx
      rw [Pw_1 h5, k3 x (NX_lt hx (by omega))] at this
      exact absurd this (by decide)
  · intro h ⟨h5, e⟩
    obtain ⟨j, hj, hne⟩ := h h5
    rw [Pw_1 h5, NX_fd (NX_k1 hj hne)] at e
    exact nomatch e
theorem nx_step {T : Nat → Nat} {s w i : Nat} (hw : w < 2 * T 1 + 1) (onw : onI T s w = true) (hi : i < 2 * T 1 + 1) (hs : stk T s w = false) : ∃ j, NX (Pw T s w) (2 * T 1 + 1) i j ∧ nxR T s w i = j ∧ j < 2 * T 1 + 1 ∧ onI T s j = true ∧ (¬ (T 5 = 1 ∧ NX (onI T s) (2 * T 1 + 1) i w) → NX (onI T s) (2 * T 1 + 1) i j ∧ (T 5 = 1 → j ≠ w)) ∧ (T 5 = 1 ∧ NX (onI T s) (2 * T 1 + 1) i w → NX (onI T s) (2 * T 1 + 1) w j) := by
  obtain ⟨j1, h1⟩ := NX_ex hi hw onw
  by_cases c : T 5 = 1 ∧ NX (onI T s) (2 * T 1 + 1) i w
  · obtain ⟨j, hj, hne⟩ := (stk_f hw onw).mp hs c.1
    have hN : NX (Pw T s w) (2 * T 1 + 1) i j := by rw [Pw_1 c.1]; exact NX_k2 c.2 hj hne
    exact ⟨j, hN, nxR_of hN, NX_lt hj (by omega), NX_on hj, fun q => absurd c q, fun _ => hj⟩
  · have hne : T 5 = 1 → j1 ≠ w := fun h5 q => c ⟨h5, q ▸ h1⟩
    have hN : NX (Pw T s w) (2 * T 1 + 1) i j1 := by
      by_cases h5 : T 5 = 1
      · rw [Pw_1 h5]; exact NX_k1 h1 (hne h5)
      · rw [Pw_0 h5]; exact h1
    exact ⟨j1, hN, nxR_of hN, NX_lt h1 (by omega), NX_on h1, fun _ => ⟨h1, hne⟩, fun q => absurd q c⟩
/-- scattering ends on the way, and no seed goes -/
theorem scC_p {T : Nat → Nat} {s w : Nat} (h6 : T 1 < 7) (h1 : 1 ≤ T 1) (hs : s < 2) (hw : w < 2 * T 1 + 1) (onw : onI T s w = true) (hst : stk T s w = false) : ∀ k i c, i < 2 * T 1 + 1 → onI T s i = true → (scC T s w k i c).1 < 2 * T 1 + 1 ∧ onI T s (scC T s w k i c).1 = true ∧ sumF (scC T s w k i c).2 14 = sumF c 14 + k ∧ (∀ x, c x ≤ (scC T s w k i c).2 x) ∧ (∀ x, (∀ j, j < 2 * T 1 + 1 → onI T s j = true → x ≠ cI (T 1) s j) → (scC T s w k i c).2 x = c x) ∧ (k ≠ 0 → 1 ≤ (scC T s w k i c).2 (cI (T 1) s (scC T s w k i c).1)) := by
  intro k
  induction k with
  | zero => intro i c hi on; exact ⟨hi, on, rfl, fun x => Nat.le_refl _, fun _ _ => rfl, fun q => absurd rfl q⟩
  | succ k ih =>
    intro i c hi on
    obtain ⟨j, hN, e, hj, onj, -, -⟩ := nx_step hw onw hi hst
    rw [scC, e]
    have hc := (cI_lt (T 1) h6 h1 s hs j hj).2.1
    obtain ⟨g1, g2, g3, g4, g5, g6⟩ := ih j (ups c (cI (T 1) s j) (c (cI (T 1) s j) + 1)) hj onj
    refine ⟨g1, g2, ?_, fun x => ?_, fun x hx => ?_, fun _ => ?_⟩
    · rw [g3]
      have := sum_ups (c := c) (j := cI (T 1) s j) (v := c (cI (T 1) s j) + 1) 14 hc
      omega
    · refine Nat.le_trans ?_ (g4 x)
      by_cases q : x = cI (T 1) s j
      · rw [q, ups_a]; omega
      · rw [ups_b q]; exact Nat.le_refl _
    · rw [g5 x hx, ups_b (hx j hj onj)]
    · by_cases q : k = 0
      · subst q
        rw [scC]
        dsimp only
        rw [ups_a]
        omega
      · exact g6 q
