/-! call: row -/
theorem wo_re {T T0 : Nat → Nat} (r : RE T T0) (hW : WF T) {sd s k i : Nat} {x : Nat × Bool × Nat} (hsd : sd < 2) (h40 : s ≤ 40) (hk : k < Wn (opnN T) s) (hi : i < T 1) (hm : mvD T sd s k i = some x) : woX T0 s sd x = woX T s sd x ∧ rkX T0 s sd x = rkX T s sd x := by
  obtain ⟨g, st, k'⟩ := x
  obtain ⟨p1, p2, _⟩ := mvD_p hW hsd h40 hk hi hm
  have q1 := VL_re r hW 41 (by omega) sd (s - g) k' hsd (by omega) p2
  have q2 := VL_re r hW 41 (by omega) (1 - sd) (s - g) k' (by omega) (by omega) p2
  refine ⟨wo_cg (fun _ => ⟨q1.1, q2.1⟩) (fun e => ?_), ?_⟩
  · rw [e, Nat.sub_zero] at q2
    exact q2.1
  · unfold rkX
    dsimp only
    by_cases z : 0 < g
    · rw [if_pos z, if_pos z]
    · rw [if_neg z, if_neg z]
      rw [show s - g = s by omega] at q2
      exact q2.2
theorem bs_re {T T0 : Nat → Nat} (r : RE T T0) (hW : WF T) {sd s k : Nat} (hsd : sd < 2) (h40 : s ≤ 40) (hk : k < Wn (opnN T) s) : ∀ i, i ≤ T 1 → bsF T0 sd s k i = bsF T sd s k i ∧ mbF T0 sd s k i = mbF T sd s k i ∧ mcF T0 sd s k i = mcF T sd s k i := by
  intro i
  induction i with
  | zero => intro _; exact ⟨rfl, rfl, rfl⟩
  | succ i ih =>
    intro hi
    obtain ⟨i1, i2, i3⟩ := ih (by omega)
    have e1 := mvD_re r hW hsd h40 hk (show i < T 1 by omega)
    have ev := (VL_re r hW 41 (by omega) sd s k hsd (by omega) hk).1
    cases hm : mvD T sd s k i with
    | none =>
      rw [hm] at e1
      obtain ⟨a1, a2, a3⟩ := bs_no e1
      obtain ⟨b1, b2, b3⟩ := bs_no hm
      exact ⟨by rw [a1, b1, i1], by rw [a2, b2, i2], by rw [a3, b3, i3]⟩
    | some x =>
      rw [hm] at e1
      obtain ⟨w1, w2⟩ := wo_re r hW hsd h40 hk (by omega) hm
      refine ⟨?_, ?_, by rw [mc_e e1, mc_e hm, i3]⟩
      · by_cases z : woX T s sd x = VL T 41 sd s k
        · have z0 : woX T0 s sd x = VL T0 41 sd s k := by rw [w1, ev]; exact z
          cases hb : bsF T sd s k i with
          | none => rw [bs_e0 hm z hb, bs_e0 e1 z0 (by rw [i1]; exact hb), w2]
          | some y => rw [bs_e1 hm z hb, bs_e1 e1 z0 (by rw [i1]; exact hb), w2]
        · rw [(bs_ne hm z).1, (bs_ne e1 (by rw [w1, ev]; exact z)).1, i1]
      · by_cases z : woX T s sd x = VL T 41 sd s k
        · rw [mb_e hm z, mb_e e1 (by rw [w1, ev]; exact z), i2]
        · rw [(bs_ne hm z).2, (bs_ne e1 (by rw [w1, ev]; exact z)).2, i2]
theorem sum0 {f : Nat → Nat} : ∀ n, (∀ x, x < n → f x = 0) → sumF f n = 0 := by
  intro n
  induction n with
  | zero => intro _; rfl
  | succ n ih => intro h; rw [sumF, ih (fun x hx => h x (by omega)), h n (by omega)]
def ncW (T : Nat → Nat) : Nat := sumF (fun w => if canW T w = true then 1 else 0) (T 1)
theorem CB_pc {T : Nat → Nat} {B : Nat} (b6 : T 1 < 7) (h : CB T B) : pcN B = ncW T := by
  have hol := off_le (T 1) (T 2)
  unfold pcN ncW
  rw [show 12 = offN (T 1) (T 2) + (T 1 + (12 - offN (T 1) (T 2) - T 1)) by omega, sum_split, sum_split]
  have no : ∀ p, (¬ ∃ w, w < T 1 ∧ p = offN (T 1) (T 2) + w) → (if B.testBit p = true then 1 else 0) = 0 := fun p q => if_neg (fun e => by
    obtain ⟨w, a, b, _⟩ := (h.2 p).mp e
    exact q ⟨w, a, b⟩)
  rw [sum0 (offN (T 1) (T 2)) (fun x hx => no x (fun ⟨w, a, b⟩ => by omega)), sum0 (12 - offN (T 1) (T 2) - T 1) (fun x hx => no _ (fun ⟨w, a, b⟩ => by omega)), Nat.zero_add, Nat.add_zero]
  exact sum_cg _ (fun w hw => by rw [CB_w h hw])
theorem mc_nc {T : Nat → Nat} {sd s k : Nat} : ∀ i, mcF T sd s k i = sumF (fun w => if canW (laT T sd s k) w = true then 1 else 0) i := by
  intro i
  induction i with
  | zero => rfl
  | succ i ih =>
    rw [sumF, ← ih]
    cases hc : canW (laT T sd s k) i with
    | false => rw [(bs_no (mvD_no hc)).2.2, if_neg (by decide), Nat.add_zero]
    | true =>
      obtain ⟨g, st, k', hm⟩ := mvD_yes hc
      rw [mc_e hm, if_pos rfl]
def rwV (T : Nat → Nat) (a b c j : Nat) : Int32 := if j < 10 then (if j = 0 then nI (RK T 41 a b c) else if j = 1 then bsI T a b c 0 else if j = 2 then nI (mcF T a b c (T 1)) else nI (mbF T a b c (T 1))) else (match mvD T a b c (j - 10) with
  | none => iv (-1000)
  | some x => iv (woX T b a x))
theorem bsI_sub {T : Nat → Nat} {sd s k off : Nat} (b6 : T 1 < 7) (ho : off < 100) : (bsI T sd s k off = -nI 1 ↔ bsI T sd s k 0 = -nI 1) ∧ (bsI T sd s k off ≠ -nI 1 → bsI T sd s k off - nI off = bsI T sd s k 0) := by
  unfold bsI
  cases e : bsF T sd s k (T 1) with
  | none => exact ⟨Iff.rfl, fun q => absurd rfl q⟩
  | some y =>
    dsimp only
    have := (bs_lt _ y e).1
    refine ⟨⟨fun q => absurd ((eq_m1 (by omega)).mp q) id, fun q => absurd ((eq_m1 (by omega)).mp q) id⟩, fun _ => ?_⟩
    rw [pk_sub (by omega), Nat.add_sub_cancel_left, Nat.zero_add]
/-- an int that row knows -/
def rwJ (T : Nat → Nat) (v : Int32) : Prop := ∃ j, v = nI j ∧ (j ≤ 3 ∨ (10 ≤ j ∧ j < 10 + T 1))
