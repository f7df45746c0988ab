/-! laying and numbering are inverse; what is true of a position as told -/
theorem bh_u {r n rest b : Nat} (hb : b ≤ rest) (h1 : sumF (Wn r) b ≤ n) (h2 : n < sumF (Wn r) (b + 1)) (hn : n < Wn (r + 1) rest) : bhN r n rest = b := by
  obtain ⟨p1, p2, p3, _⟩ := bh_p hn
  rcases Nat.lt_trichotomy (bhN r n rest) b with h | h | h
  · have := sum_mo (c := Wn r) b (show bhN r n rest + 1 ≤ b by omega)
    omega
  · exact h
  · have := sum_mo (c := Wn r) (bhN r n rest) (show b + 1 ≤ bhN r n rest by omega)
    omega
theorem nb_st {a : Nat → Nat} {m r rest : Nat} : nbR a m (r + 1) rest = sumF (Wn r) (rest - a (m - (r + 1))) + nbR a m r (rest - a (m - (r + 1))) := by
  rw [nbR]
  congr 1
  by_cases z : 0 < rest - a (m - (r + 1))
  · obtain ⟨x, hx⟩ : ∃ x, rest - a (m - (r + 1)) = x + 1 := ⟨rest - a (m - (r + 1)) - 1, by omega⟩
    rw [if_pos z, hx, Nat.add_sub_cancel]
    rfl
  · rw [if_neg z, show rest - a (m - (r + 1)) = 0 by omega]
    rfl
theorem la_nb {q a : Nat → Nat} {m : Nat} (hq : ∀ i j, i < m → j < m → i ≠ j → q i ≠ q j) : ∀ r rest c, r ≤ m → sumF a (m - r) + rest = sumF a m → ∀ j, m - r ≤ j → j < m → laR q m r rest (nbR a m r rest) c (q j) = a j := by
  intro r
  induction r with
  | zero => intro rest c _ _ j h1 h2; omega
  | succ r ih =>
    intro rest c hr hs j h1 h2
    have e1 : m - (r + 1) + 1 = m - r := by omega
    have hs2 : sumF a (m - r) = sumF a (m - (r + 1)) + a (m - (r + 1)) := by rw [← e1, sumF]
    have hle := sum_mo (c := a) m (show m - r ≤ m by omega)
    have ha : a (m - (r + 1)) ≤ rest := by omega
    have hlt := nb_lt (a := a) (m := m) r (rest - a (m - (r + 1))) (by omega) (by omega)
    have hlt2 := nb_lt (a := a) (m := m) (r + 1) rest hr hs
    have eb : bhN r (nbR a m (r + 1) rest) rest = rest - a (m - (r + 1)) := by
      refine bh_u (by omega) ?_ ?_ hlt2
      · rw [nb_st]; omega
      · rw [nb_st, sumF]; omega
    rw [laR, eb, nb_st, Nat.add_sub_cancel_left, show rest - (rest - a (m - (r + 1))) = a (m - (r + 1)) by omega]
    by_cases z : j = m - (r + 1)
    · rw [(la_p hq r _ _ _ (by omega) hlt).1 j (by omega), z, ups_a]
    · exact ih _ _ (by omega) (by omega) j (by omega) h2
theorem nb_la {q : Nat → Nat} {m : Nat} (hq : ∀ i j, i < m → j < m → i ≠ j → q i ≠ q j) : ∀ r rest n c, r ≤ m → n < Wn r rest → nbR (fun j => laR q m r rest n c (q j)) m r rest = n := by
  intro r
  induction r with
  | zero =>
    intro rest n c _ h
    rw [Wn] at h
    have : n = 0 := by
      by_cases z : rest = 0
      · rw [if_pos z] at h; omega
      · rw [if_neg z] at h; omega
    rw [this]; rfl
  | succ r ih =>
    intro rest n c hr hn
    obtain ⟨p1, p2, p3, p4⟩ := bh_p hn
    have e : (fun j => laR q m (r + 1) rest n c (q j)) = fun j => laR q m r (bhN r n rest) (n - sumF (Wn r) (bhN r n rest)) (ups c (q (m - (r + 1))) (rest - bhN r n rest)) (q j) := rfl
    have e2 := congrFun e (m - (r + 1))
    rw [nb_st, e, e2]
    rw [(la_p hq r _ _ _ (by omega) p4).1 (m - (r + 1)) (by omega), ups_a, show rest - (rest - bhN r n rest) = bhN r n rest by omega, ih _ _ _ (by omega) p4]
    omega
theorem sqF_sur {T : Nat → Nat} {s : Nat} : ∀ i x, x < i → lkS T s x = false → ∃ j, j < opS T s i ∧ sqF T s i j = pS (T 1) s x := by
  intro i
  induction i with
  | zero => intro x h; omega
  | succ i ih =>
    intro x hx hl
    by_cases z : x = i
    · subst z
      refine ⟨opS T s x, ?_, ?_⟩
      · rw [opS_s, hl, if_neg (by decide)]; omega
      · rw [sqF, hl, if_neg (by decide), ups_a]
    · obtain ⟨j, h1, h2⟩ := ih x (by omega) hl
      refine ⟨j, by rw [opS_s]; omega, ?_⟩
      rw [sqF]
      by_cases c : lkS T s i = true
      · rw [if_pos c]; exact h2
      · rw [if_neg c, ups_b (by omega)]; exact h2
theorem sq_sur {T : Nat → Nat} {s p : Nat} (hs : s < 2) (hp : p < 2 * T 1) (hl : (T 3).testBit p = false) : ∃ j, j < opnN T ∧ sqN T s j = p := by
  have : ∃ x, x < 2 * T 1 ∧ pS (T 1) s x = p := by
    obtain rfl | rfl : s = 0 ∨ s = 1 := by omega
    · exact ⟨p, hp, pS_0 hp⟩
    · exact ⟨pS (T 1) 1 p, pS_lt (by decide) hp, pS_pS hp⟩
  obtain ⟨x, hx, e⟩ := this
  obtain ⟨j, h1, h2⟩ := sqF_sur (T := T) (s := s) (2 * T 1) x hx (by unfold lkS; rw [e]; exact hl)
  rw [opS_all hs] at h1
  exact ⟨j, h1, by unfold sqN; rw [h2, e]⟩
/-- a position laid by its own number is itself -/
theorem laC_nb {T c : Nat → Nat} {sd : Nat} (b6 : T 1 < 7) (hs : sd < 2) (hz : ∀ p, p < 12 → ((T 3).testBit p = true ∨ 2 * T 1 ≤ p) → c p = 0) : ∀ x, x < 12 → laC T sd (sumF c (2 * T 1)) (nbT T c sd) x = c x := by
  have hq : ∀ i j, i < opnN T → j < opnN T → i ≠ j → sqN T sd i ≠ sqN T sd j := fun i j a b e => sq_in hs e a b
  have hz' : ∀ p, p < 2 * T 1 → (T 3).testBit p = true → c p = 0 := fun p a b => hz p (by omega) (Or.inl b)
  have hsum := sq_sum (c := c) hs hz'
  have hlt : nbT T c sd < Wn (opnN T) (sumF c (2 * T 1)) := by
    unfold nbT
    exact nb_lt (a := fun j => c (sqN T sd j)) (opnN T) _ (Nat.le_refl _) (by rw [Nat.sub_self, hsum]; exact Nat.zero_add _)
  intro x hx
  by_cases h : (T 3).testBit x = true ∨ 2 * T 1 ≤ x
  · rw [hz x hx h]
    exact (laC_p hs hlt).2 x h.symm
  · have h1 : x < 2 * T 1 := by omega
    have h2 : (T 3).testBit x = false := by
      cases e : (T 3).testBit x with
      | false => rfl
      | true => exact absurd (Or.inl e) h
    obtain ⟨j, j1, j2⟩ := sq_sur hs h1 h2
    have := la_nb (q := sqN T sd) (a := fun j => c (sqN T sd j)) (m := opnN T) hq (opnN T) (sumF c (2 * T 1)) (fun _ => 0) (Nat.le_refl _) (by rw [Nat.sub_self, hsum]; exact Nat.zero_add _) j (by omega) j1
    rw [j2] at this
    exact this
theorem nbT_la {T : Nat → Nat} {sd s k : Nat} (hs : sd < 2) (hk : k < Wn (opnN T) s) : nbT T (laC T sd s k) sd = k := by
  have hq : ∀ i j, i < opnN T → j < opnN T → i ≠ j → sqN T sd i ≠ sqN T sd j := fun i j a b e => sq_in hs e a b
  unfold nbT
  rw [(laC_p hs hk).1]
  exact nb_la hq (opnN T) s k (fun _ => 0) (Nat.le_refl _) hk
/-! a board's own position: seeds and number -/
def sT (T : Nat → Nat) : Nat := sumF (cT T) 12
def kT (T : Nat → Nat) : Nat := nbT T (cT T) (T 2)
theorem cT_z {T : Nat → Nat} (hW : WF T) : ∀ p, p < 12 → ((T 3).testBit p = true ∨ 2 * T 1 ≤ p) → cT T p = 0 := by
  intro p hp h
  unfold cT
  rw [if_pos hp]
  exact hW.2.2.2.2.2.2 p hp h
theorem sT_2 {T : Nat → Nat} (hW : WF T) : sumF (cT T) (2 * T 1) = sT T := by
  unfold sT
  exact (sum_12 hW.1.2.1 (fun x h1 h2 => cT_z hW x h2 (Or.inr h1))).symm
theorem sT_40 {T : Nat → Nat} (hW : WF T) : sT T ≤ 40 := hW.2.2.2.1
theorem nb_now {T c : Nat → Nat} {sd s : Nat} (hs : sd < 2) (hz : ∀ p, p < 2 * T 1 → (T 3).testBit p = true → c p = 0) (hsum : sumF c (2 * T 1) = s) : nbT T c sd < Wn (opnN T) s := by
  unfold nbT
  rw [hsum]
  exact nb_lt (a := fun j => c (sqN T sd j)) (opnN T) _ (Nat.le_refl _) (by rw [Nat.sub_self, sq_sum (c := c) hs hz, hsum]; exact Nat.zero_add _)
theorem kT_lt {T : Nat → Nat} (hW : WF T) : kT T < Wn (opnN T) (sT T) := nb_now hW.2.1 (fun p a b => cT_z hW p (by have := hW.1.2.1; omega) (Or.inl b)) (sT_2 hW)
/-- the board is alike to its position laid, but for the stores -/
theorem la_SB {T : Nat → Nat} (hW : WF T) : SB (laT T (T 2) (sT T) (kT T)) T := by
  refine ⟨la_re.sy, rfl, fun p hp => ?_⟩
  rw [la_ct (by omega)]
  have := laC_nb (T := T) (c := cT T) hW.1.2.1 hW.2.1 (cT_z hW) p hp
  rw [sT_2 hW] at this
  exact this.symm
theorem nbT_cg {T c c2 : Nat → Nat} {sd : Nat} (hs : sd < 2) (h : ∀ x, x < 2 * T 1 → c2 x = c x) : nbT T c2 sd = nbT T c sd := by
  unfold nbT
  rw [sum_cg _ h]
  exact nb_cg _ _ (Nat.le_refl _) (fun j hj => h _ (sq_lt hs hj).1)
theorem WF_lan {T : Nat → Nat} (hW : WF T) : WF (laT T (T 2) (sT T) (kT T)) := WF_la hW hW.2.1 (sT_40 hW) (kT_lt hW)
theorem en_now {T : Nat → Nat} (hW : WF T) : enD T (T 2) (sT T) (kT T) = overT T := (SB_o (WF_lan hW) (la_SB hW)).symm
theorem can_now {T : Nat → Nat} (hW : WF T) {w : Nat} (hw : w < T 1) : canW (laT T (T 2) (sT T) (kT T)) w = canW T w := (SB_c (WF_lan hW) (la_SB hW) (show w < laT T (T 2) (sT T) (kT T) 1 from hw)).symm
theorem mvD_now {T : Nat → Nat} (hW : WF T) {w l k t : Nat} {c' : Nat → Nat} (hw : w < T 1) (hc : canW T w = true) (hm : mvW T w = some (l, k, t, c')) : mvD T (T 2) (sT T) (kT T) w = some (c' (12 + T 2) - cT T (12 + T 2), decide (thN T (T 2) l = T 2), nbT T c' (thN T (T 2) l)) := by
  have hc2 := hc
  rw [← can_now hW hw] at hc2
  have hf2 := (can_fs hc2).1
  rcases SB_w (WF_lan hW) (la_SB hW) (show w < laT T (T 2) (sT T) (kT T) 1 from hw) hf2 with ⟨_, h2⟩ | ⟨l', k', t', c1, c3, h1, h2, h3, h4⟩
  · rw [hm] at h2; exact nomatch h2
  · rw [hm] at h2
    have h5 := Option.some.inj h2
    simp only [Prod.mk.injEq] at h5
    obtain ⟨rfl, rfl, rfl, rfl⟩ := h5
    have b6 := hW.1.2.1
    have hs := hW.2.1
    have e0 : cT (laT T (T 2) (sT T) (kT T)) (12 + T 2) = 0 := by
      rw [la_ct (by omega)]
      exact (laC_p hs (kT_lt hW)).2 _ (Or.inl (by omega))
    rw [show laT T (T 2) (sT T) (kT T) 2 = T 2 from rfl, e0, Nat.sub_zero] at h4
    unfold mvD
    rw [if_pos hc2, h1]
    show some (c1 (12 + T 2), _, nbT T c1 (thN T (T 2) l)) = _
    rw [h4, nbT_cg (thN_lt hs) (fun x hx => h3 x (by omega))]
theorem mvD_nno {T : Nat → Nat} (hW : WF T) {w : Nat} (hw : w < T 1) (hc : canW T w = false) : mvD T (T 2) (sT T) (kT T) w = none := mvD_no (by rw [can_now hW hw]; exact hc)
/-! the worth of a move, and the rank behind it -/
def woX (T : Nat → Nat) (s sd : Nat) (x : Nat × Bool × Nat) : Int := woV s (VL T 41) (fun a b => VL T 41 a s b) sd x
def rkX (T : Nat → Nat) (s sd : Nat) (x : Nat × Bool × Nat) : Nat := if 0 < x.1 then 0 else RK T 41 (1 - sd) s x.2.2
def bsF (T : Nat → Nat) (sd s k : Nat) : Nat → Option (Nat × Nat)
  | 0 => none
  | i + 1 => match mvD T sd s k i with
    | none => bsF T sd s k i
    | some x => if woX T s sd x = VL T 41 sd s k then (match bsF T sd s k i with
      | none => some (i, rkX T s sd x)
      | some y => if rkX T s sd x < y.2 then some (i, rkX T s sd x) else some y) else bsF T sd s k i
def mbF (T : Nat → Nat) (sd s k : Nat) : Nat → Nat
  | 0 => 0
  | i + 1 => mbF T sd s k i + match mvD T sd s k i with
    | none => 0
    | some x => if woX T s sd x = VL T 41 sd s k then 1 else 0
def mcF (T : Nat → Nat) (sd s k : Nat) : Nat → Nat
  | 0 => 0
  | i + 1 => mcF T sd s k i + match mvD T sd s k i with
    | none => 0
    | some _ => 1
theorem bs_no {T : Nat → Nat} {sd s k i : Nat} (h : mvD T sd s k i = none) : bsF T sd s k (i + 1) = bsF T sd s k i ∧ mbF T sd s k (i + 1) = mbF T sd s k i ∧ mcF T sd s k (i + 1) = mcF T sd s k i := by
  refine ⟨?_, ?_, ?_⟩
  · rw [bsF, h]
  · rw [mbF, h]; rfl
  · rw [mcF, h]; rfl
theorem bs_ne {T : Nat → Nat} {sd s k i : Nat} {x : Nat × Bool × Nat} (h : mvD T sd s k i = some x) (hv : woX T s sd x ≠ VL T 41 sd s k) : bsF T sd s k (i + 1) = bsF T sd s k i ∧ mbF T sd s k (i + 1) = mbF T sd s k i := by
  refine ⟨?_, ?_⟩
  · rw [bsF, h]; exact if_neg hv
  · rw [mbF, h]; show _ + (if _ then 1 else 0) = _; rw [if_neg hv]; rfl
theorem bs_e0 {T : Nat → Nat} {sd s k i : Nat} {x : Nat × Bool × Nat} (h : mvD T sd s k i = some x) (hv : woX T s sd x = VL T 41 sd s k) (hb : bsF T sd s k i = none) : bsF T sd s k (i + 1) = some (i, rkX T s sd x) := by
  rw [bsF, h]
  show (if _ then _ else _) = _
  rw [if_pos hv, hb]
theorem bs_e1 {T : Nat → Nat} {sd s k i : Nat} {x : Nat × Bool × Nat} {y : Nat × Nat} (h : mvD T sd s k i = some x) (hv : woX T s sd x = VL T 41 sd s k) (hb : bsF T sd s k i = some y) : bsF T sd s k (i + 1) = if rkX T s sd x < y.2 then some (i, rkX T s sd x) else some y := by
  rw [bsF, h]
  show (if _ then _ else _) = _
  rw [if_pos hv, hb]
theorem mb_e {T : Nat → Nat} {sd s k i : Nat} {x : Nat × Bool × Nat} (h : mvD T sd s k i = some x) (hv : woX T s sd x = VL T 41 sd s k) : mbF T sd s k (i + 1) = mbF T sd s k i + 1 := by
  rw [mbF, h]; show _ + (if _ then 1 else 0) = _; rw [if_pos hv]
theorem mc_e {T : Nat → Nat} {sd s k i : Nat} {x : Nat × Bool × Nat} (h : mvD T sd s k i = some x) : mcF T sd s k (i + 1) = mcF T sd s k i + 1 := by
  rw [mcF, h]
theorem bs_lt {T : Nat → Nat} {sd s k : Nat} : ∀ i y, bsF T sd s k i = some y → y.1 < i ∧ ∃ x, mvD T sd s k y.1 = some x ∧ y.2 = rkX T s sd x := by
  intro i
  induction i with
  | zero => intro y h; exact nomatch h
  | succ i ih =>
    intro y h
    cases hm : mvD T sd s k i with
    | none =>
      rw [(bs_no hm).1] at h
      obtain ⟨a, b⟩ := ih y h
      exact ⟨by omega, b⟩
    | some x =>
      by_cases hv : woX T s sd x = VL T 41 sd s k
      · cases hb : bsF T sd s k i with
        | none =>
          rw [bs_e0 hm hv hb] at h
          rw [← Option.some.inj h]
          exact ⟨Nat.lt_succ_self i, x, hm, rfl⟩
        | some z =>
          rw [bs_e1 hm hv hb] at h
          by_cases c : rkX T s sd x < z.2
          · rw [if_pos c] at h
            rw [← Option.some.inj h]
            exact ⟨Nat.lt_succ_self i, x, hm, rfl⟩
          · rw [if_neg c] at h
            obtain ⟨a, b⟩ := ih z hb
            rw [← Option.some.inj h]
            exact ⟨by omega, b⟩
      · rw [(bs_ne hm hv).1] at h
        obtain ⟨a, b⟩ := ih y h
        exact ⟨by omega, b⟩
def bsI (T : Nat → Nat) (sd s k off : Nat) : Int32 := match bsF T sd s k (T 1) with
  | none => -nI 1
  | some y => nI (off + y.1)
theorem RK_lt {T : Nat → Nat} {sd s k : Nat} (hs : s < 41) : RK T 41 sd s k ≤ 6007 := by
  rw [(VL_lo (s + 1) 41 (Nat.lt_succ_self s) (by omega)).2, RK_e]
  exact itR_le _
theorem rkX_lt {T : Nat → Nat} {s sd : Nat} {x : Nat × Bool × Nat} (hs : s < 41) : rkX T s sd x ≤ 6007 := by
  unfold rkX
  split
  · omega
  · exact RK_lt hs
