/-! how many rounds it takes -/
theorem fm_e {T : Nat → Nat} {s : Nat} {lo : Nat → Nat → Nat → Int} {v : Nat → Nat → Int} {sd k w : Nat} {y : Int} (h : fmV T s lo v sd k w = some y) : ∃ g st k', mvD T sd s k w = some (g, st, k') ∧ y = woV s lo v sd (g, st, k') := by
  unfold fmV at h
  cases hm : mvD T sd s k w with
  | none => rw [hm] at h; exact nomatch h
  | some x =>
    obtain ⟨g, st, k'⟩ := x
    rw [hm] at h
    injection h with h
    exact ⟨g, st, k', rfl, h.symm⟩
theorem fm_i {T : Nat → Nat} {s : Nat} {lo : Nat → Nat → Nat → Int} {v : Nat → Nat → Int} {sd k w : Nat} {x : Nat × Bool × Nat} (h : mvD T sd s k w = some x) : fmV T s lo v sd k w = some (woV s lo v sd x) := by
  unfold fmV
  rw [h]
  rfl
theorem wo_g {s g k' : Nat} {st : Bool} {lo : Nat → Nat → Nat → Int} {v v2 : Nat → Nat → Int} {sd : Nat} (h : 0 < g) : woV s lo v sd (g, st, k') = woV s lo v2 sd (g, st, k') := by
  unfold woV
  rw [if_pos h, if_pos h]
theorem wo_0 {s k' : Nat} {st : Bool} {lo : Nat → Nat → Nat → Int} {v : Nat → Nat → Int} {sd : Nat} : woV s lo v sd (0, st, k') = - v (1 - sd) k' := by
  unfold woV
  exact if_neg (Nat.lt_irrefl 0)
section RD9
variable {T : Nat → Nat} {s : Nat} {lo : Nat → Nat → Nat → Int} (hW : WF T) (h40 : s ≤ 40) (hlo : loB T s lo)
/-- a value's sign stays, and it grows away from 0 -/
theorem it_mo (hW : WF T) (h40 : s ≤ 40) (hlo : loB T s lo) : ∀ r sd k, sd < 2 → k < Wn (opnN T) s → (1 ≤ itV T s lo r sd k → itV T s lo r sd k ≤ itV T s lo (r + 1) sd k) ∧ (itV T s lo r sd k ≤ -1 → itV T s lo (r + 1) sd k ≤ itV T s lo r sd k) := by
  intro r
  induction r with
  | zero =>
    intro sd k hs hk
    cases he : enD T sd s k with
    | true =>
      have : itV T s lo (0 + 1) sd k = itV T s lo 0 sd k := by
        rw [itV, itV, stV, he, if_pos rfl]
        dsimp only
        rw [he, if_pos rfl]
      rw [this]
      exact ⟨fun _ => Int.le_refl _, fun _ => Int.le_refl _⟩
    | false =>
      have : itV T s lo 0 sd k = 0 := by
        rw [itV]
        dsimp only
        rw [he, if_neg (by decide)]
      rw [this]
      exact ⟨fun h => by omega, fun h => by omega⟩
  | succ r ih =>
    intro sd k hs hk
    cases he : enD T sd s k with
    | true =>
      have : ∀ v, stV T s lo v sd k = edV T sd s k := fun v => by unfold stV; rw [he, if_pos rfl]
      rw [itV, itV, this, this]
      exact ⟨fun _ => Int.le_refl _, fun _ => Int.le_refl _⟩
    | false =>
      have e : ∀ v, stV T s lo v sd k = mxV (fmV T s lo v sd k) (T 1) := fun v => by unfold stV; rw [he, if_neg (by decide)]
      have e1 : itV T s lo (r + 1) sd k = mxV (fmV T s lo (itV T s lo r) sd k) (T 1) := e _
      have e2 : itV T s lo (r + 1 + 1) sd k = mxV (fmV T s lo (itV T s lo (r + 1)) sd k) (T 1) := e _
      constructor
      · intro h1
        rw [e2]
        rw [e1] at h1 ⊢
        obtain ⟨w, hw, y, hy, hle⟩ := (mx_ge (f := fmV T s lo (itV T s lo r) sd k) (z := mxV (fmV T s lo (itV T s lo r) sd k) (T 1)) (by omega) (T 1)).mp (Int.le_refl _)
        obtain ⟨g, st, k', hm, hyw⟩ := fm_e hy
        obtain ⟨p1, p2, p3, -⟩ := mvD_p hW hs h40 hk hw hm
        refine (mx_ge (by omega) _).mpr ⟨w, hw, _, fm_i hm, ?_⟩
        by_cases c : 0 < g
        · rw [wo_g (v2 := itV T s lo r) c, ← hyw]; exact hle
        · obtain rfl : g = 0 := by omega
          rw [wo_0] at hyw ⊢
          have := (ih (1 - sd) k' (by omega) p2).2 (by omega)
          omega
      · intro h1
        rw [e2]
        refine (mx_le _).mpr ⟨by have := (it_b hW h40 hlo (r + 1) sd k hs hk).1; omega, fun w hw y hy => ?_⟩
        obtain ⟨g, st, k', hm, hyw⟩ := fm_e hy
        obtain ⟨p1, p2, p3, -⟩ := mvD_p hW hs h40 hk hw hm
        have hall := ((mx_le (f := fmV T s lo (itV T s lo r) sd k) (z := itV T s lo (r + 1) sd k) (T 1)).mp (by rw [e1]; exact Int.le_refl _)).2 w hw _ (fm_i hm)
        by_cases c : 0 < g
        · rw [hyw, wo_g (v2 := itV T s lo r) c]; exact hall
        · obtain rfl : g = 0 := by omega
          rw [wo_0] at hyw hall
          have := (ih (1 - sd) k' (by omega) p2).1 (by omega)
          omega
/-- at a threshold: what didn't change in one round doesn't change in the next -/
theorem it_th (hW : WF T) (h40 : s ≤ 40) {c : Int} (hc1 : 1 ≤ c) (hc2 : c ≤ 40) (r : Nat) (h : ∀ sd k, sd < 2 → k < Wn (opnN T) s → (c ≤ itV T s lo (r + 1) sd k ↔ c ≤ itV T s lo r sd k) ∧ (itV T s lo (r + 1) sd k ≤ -c ↔ itV T s lo r sd k ≤ -c)) : ∀ sd k, sd < 2 → k < Wn (opnN T) s → (c ≤ itV T s lo (r + 1 + 1) sd k ↔ c ≤ itV T s lo (r + 1) sd k) ∧ (itV T s lo (r + 1 + 1) sd k ≤ -c ↔ itV T s lo (r + 1) sd k ≤ -c) := by
  intro sd k hs hk
  cases he : enD T sd s k with
  | true =>
    have : ∀ v, stV T s lo v sd k = edV T sd s k := fun v => by unfold stV; rw [he, if_pos rfl]
    rw [itV, itV, this, this]
    exact ⟨Iff.rfl, Iff.rfl⟩
  | false =>
    have e : ∀ v, stV T s lo v sd k = mxV (fmV T s lo v sd k) (T 1) := fun v => by unfold stV; rw [he, if_neg (by decide)]
    have e1 : itV T s lo (r + 1) sd k = mxV (fmV T s lo (itV T s lo r) sd k) (T 1) := e _
    have e2 : itV T s lo (r + 1 + 1) sd k = mxV (fmV T s lo (itV T s lo (r + 1)) sd k) (T 1) := e _
    rw [e1, e2, mx_ge (by omega), mx_ge (by omega), mx_le, mx_le]
    have step : ∀ w, w < T 1 → ∀ x, mvD T sd s k w = some x → (c ≤ woV s lo (itV T s lo (r + 1)) sd x ↔ c ≤ woV s lo (itV T s lo r) sd x) ∧ (woV s lo (itV T s lo (r + 1)) sd x ≤ -c ↔ woV s lo (itV T s lo r) sd x ≤ -c) := by
      intro w hw x hm
      obtain ⟨g, st, k'⟩ := x
      obtain ⟨p1, p2, p3, -⟩ := mvD_p hW hs h40 hk hw hm
      by_cases q : 0 < g
      · rw [wo_g (v2 := itV T s lo r) q]
        exact ⟨Iff.rfl, Iff.rfl⟩
      · obtain rfl : g = 0 := by omega
        rw [wo_0, wo_0]
        have := h (1 - sd) k' (by omega) p2
        omega
    constructor
    · constructor
      · rintro ⟨w, hw, y, hy, hle⟩
        obtain ⟨g, st, k', hm, hyw⟩ := fm_e hy
        exact ⟨w, hw, _, fm_i hm, (step w hw _ hm).1.mp (by rw [← hyw]; exact hle)⟩
      · rintro ⟨w, hw, y, hy, hle⟩
        obtain ⟨g, st, k', hm, hyw⟩ := fm_e hy
        exact ⟨w, hw, _, fm_i hm, (step w hw _ hm).1.mpr (by rw [← hyw]; exact hle)⟩
    · constructor
      · rintro ⟨h0, h1⟩
        refine ⟨h0, fun w hw y hy => ?_⟩
        obtain ⟨g, st, k', hm, hyw⟩ := fm_e hy
        rw [hyw]
        exact (step w hw _ hm).2.mp (h1 w hw _ (fm_i hm))
      · rintro ⟨h0, h1⟩
        refine ⟨h0, fun w hw y hy => ?_⟩
        obtain ⟨g, st, k', hm, hyw⟩ := fm_e hy
        rw [hyw]
        exact (step w hw _ hm).2.mpr (h1 w hw _ (fm_i hm))
/-- how many values are c or more, or -c or less -/
def ctV (T : Nat → Nat) (s : Nat) (lo : Nat → Nat → Nat → Int) (c : Int) (r sd : Nat) : Nat := sumF (fun k => if c ≤ itV T s lo r sd k ∨ itV T s lo r sd k ≤ -c then 1 else 0) (Wn (opnN T) s)
theorem ct_b {c : Int} {r sd : Nat} : ctV T s lo c r sd ≤ Wn (opnN T) s := by
  have : ∀ n, sumF (fun k => if c ≤ itV T s lo r sd k ∨ itV T s lo r sd k ≤ -c then 1 else 0) n ≤ n := by
    intro n
    induction n with
    | zero => exact Nat.le_refl _
    | succ n ih => rw [sumF]; split <;> omega
  exact this _
theorem sum_gr {f g : Nat → Nat} : ∀ n, (∀ k, k < n → f k ≤ g k) → sumF f n ≤ sumF g n ∧ ((∃ k, k < n ∧ f k < g k) → sumF f n < sumF g n) := by
  intro n
  induction n with
  | zero => intro _; exact ⟨Nat.le_refl _, fun ⟨k, h, _⟩ => by omega⟩
  | succ n ih =>
    intro h
    obtain ⟨i1, i2⟩ := ih (fun k hk => h k (by omega))
    have hn := h n (by omega)
    rw [sumF, sumF]
    refine ⟨by omega, fun ⟨k, hk, hlt⟩ => ?_⟩
    by_cases q : k = n
    · rw [q] at hlt; omega
    · have := i2 ⟨k, by omega, hlt⟩
      omega
/-- a change at a threshold in round r + 1: so many are there -/
theorem it_ct (hW : WF T) (h40 : s ≤ 40) (hlo : loB T s lo) {c : Int} (hc1 : 1 ≤ c) (hc2 : c ≤ 40) : ∀ r, ¬ (∀ sd k, sd < 2 → k < Wn (opnN T) s → (c ≤ itV T s lo (r + 1) sd k ↔ c ≤ itV T s lo r sd k) ∧ (itV T s lo (r + 1) sd k ≤ -c ↔ itV T s lo r sd k ≤ -c)) → r + 1 ≤ ctV T s lo c (r + 1) 0 + ctV T s lo c (r + 1) 1 := by
  have grow : ∀ r, ¬ (∀ sd k, sd < 2 → k < Wn (opnN T) s → (c ≤ itV T s lo (r + 1) sd k ↔ c ≤ itV T s lo r sd k) ∧ (itV T s lo (r + 1) sd k ≤ -c ↔ itV T s lo r sd k ≤ -c)) → ctV T s lo c r 0 + ctV T s lo c r 1 < ctV T s lo c (r + 1) 0 + ctV T s lo c (r + 1) 1 := by
    intro r hne
    have le : ∀ sd, sd < 2 → ∀ k, k < Wn (opnN T) s → (if c ≤ itV T s lo r sd k ∨ itV T s lo r sd k ≤ -c then 1 else 0) ≤ (if c ≤ itV T s lo (r + 1) sd k ∨ itV T s lo (r + 1) sd k ≤ -c then 1 else 0) := by
      intro sd hs k hk
      obtain ⟨m1, m2⟩ := it_mo hW h40 hlo r sd k hs hk
      by_cases q : c ≤ itV T s lo r sd k ∨ itV T s lo r sd k ≤ -c
      · rw [if_pos q, if_pos]
        · exact Nat.le_refl _
        · rcases q with q | q
          · have := m1 (by omega); omega
          · have := m2 (by omega); omega
      · rw [if_neg q]; exact Nat.zero_le _
    obtain ⟨a1, a2⟩ := sum_gr (Wn (opnN T) s) (le 0 (by decide))
    obtain ⟨b1, b2⟩ := sum_gr (Wn (opnN T) s) (le 1 (by decide))
    have ex : ∃ sd k, sd < 2 ∧ k < Wn (opnN T) s ∧ ¬ ((c ≤ itV T s lo (r + 1) sd k ↔ c ≤ itV T s lo r sd k) ∧ (itV T s lo (r + 1) sd k ≤ -c ↔ itV T s lo r sd k ≤ -c)) := by
      refine Classical.byContradiction (fun z => hne (fun sd k hs hk => Classical.byContradiction (fun z2 => z ⟨sd, k, hs, hk, z2⟩)))
    obtain ⟨sd, k, hs, hk, hd⟩ := ex
    obtain ⟨m1, m2⟩ := it_mo hW h40 hlo r sd k hs hk
    have lt : (if c ≤ itV T s lo r sd k ∨ itV T s lo r sd k ≤ -c then 1 else 0) < (if c ≤ itV T s lo (r + 1) sd k ∨ itV T s lo (r + 1) sd k ≤ -c then 1 else 0) := by
      have q1 : ¬ (c ≤ itV T s lo r sd k ∨ itV T s lo r sd k ≤ -c) := by
        rintro (q | q)
        · have := m1 (by omega)
          apply hd
          omega
        · have := m2 (by omega)
          apply hd
          omega
      rw [if_neg q1, if_pos]
      · decide
      · omega
    unfold ctV
    obtain rfl | rfl : sd = 0 ∨ sd = 1 := by omega
    · have := a2 ⟨k, hk, lt⟩; omega
    · have := b2 ⟨k, hk, lt⟩; omega
  intro r
  induction r with
  | zero => intro hne; have := grow 0 hne; omega
  | succ r ih =>
    intro hne
    have h1 := grow (r + 1) hne
    have h2 := ih (fun z => hne (it_th hW h40 hc1 hc2 r z))
    omega
/-- two rounds alike: all later ones are -/
theorem it_st (hW : WF T) (h40 : s ≤ 40) {r : Nat} (h : ∀ sd k, sd < 2 → k < Wn (opnN T) s → itV T s lo (r + 1) sd k = itV T s lo r sd k) : ∀ j sd k, sd < 2 → k < Wn (opnN T) s → itV T s lo (r + j) sd k = itV T s lo r sd k ∧ itR T s lo (r + j) sd k = itR T s lo r sd k := by
  have cg : ∀ v v2 : Nat → Nat → Int, (∀ sd k, sd < 2 → k < Wn (opnN T) s → v sd k = v2 sd k) → ∀ sd k, sd < 2 → k < Wn (opnN T) s → stV T s lo v sd k = stV T s lo v2 sd k := by
    intro v v2 hv sd k hs hk
    unfold stV
    cases enD T sd s k with
    | true => rfl
    | false =>
      rw [if_neg (by decide), if_neg (by decide)]
      have : ∀ n, n ≤ T 1 → mxV (fmV T s lo v sd k) n = mxV (fmV T s lo v2 sd k) n := by
        intro n
        induction n with
        | zero => intro _; rfl
        | succ n ih =>
          intro hn
          have e : fmV T s lo v sd k n = fmV T s lo v2 sd k n := by
            unfold fmV
            cases hm : mvD T sd s k n with
            | none => rfl
            | some x =>
              obtain ⟨g, st, k'⟩ := x
              obtain ⟨p1, p2, p3, -⟩ := mvD_p hW hs h40 hk (by omega) hm
              show some _ = some _
              by_cases q : 0 < g
              · rw [wo_g (v2 := v2) q]
              · obtain rfl : g = 0 := by omega
                rw [wo_0, wo_0, hv (1 - sd) k' (by omega) p2]
          rw [mxV, mxV, e, ih (by omega)]
      exact this _ (Nat.le_refl _)
  have nx : ∀ j, (∀ sd k, sd < 2 → k < Wn (opnN T) s → itV T s lo (r + j + 1) sd k = itV T s lo (r + j) sd k) := by
    intro j
    induction j with
    | zero => exact h
    | succ j ih => exact cg _ _ ih
  intro j
  induction j with
  | zero => intro sd k _ _; exact ⟨rfl, rfl⟩
  | succ j ih =>
    intro sd k hs hk
    obtain ⟨i1, i2⟩ := ih sd k hs hk
    have e := nx j sd k hs hk
    refine ⟨by rw [← Nat.add_assoc, e, i1], ?_⟩
    rw [← Nat.add_assoc, itR]
    dsimp only
    rw [if_pos e, i2]
/-- a round behind which nothing changes comes soon -/
theorem it_end (hW : WF T) (h40 : s ≤ 40) (hlo : loB T s lo) {r : Nat} (hr : 2 * Wn (opnN T) s ≤ r) : ∀ sd k, sd < 2 → k < Wn (opnN T) s → itV T s lo (r + 1) sd k = itV T s lo r sd k := by
  intro sd k hs hk
  have key : ∀ c : Int, 1 ≤ c → c ≤ 40 → (c ≤ itV T s lo (r + 1) sd k ↔ c ≤ itV T s lo r sd k) ∧ (itV T s lo (r + 1) sd k ≤ -c ↔ itV T s lo r sd k ≤ -c) := by
    intro c c1 c2
    refine Classical.byContradiction (fun z => ?_)
    have := it_ct hW h40 hlo c1 c2 r (fun z2 => z (z2 sd k hs hk))
    have h0 := ct_b (T := T) (s := s) (lo := lo) (c := c) (r := r + 1) (sd := 0)
    have h1 := ct_b (T := T) (s := s) (lo := lo) (c := c) (r := r + 1) (sd := 1)
    omega
  have b1 := it_b hW h40 hlo r sd k hs hk
  have b2 := it_b hW h40 hlo (r + 1) sd k hs hk
  have m := it_mo hW h40 hlo r sd k hs hk
  by_cases q1 : 1 ≤ itV T s lo (r + 1) sd k
  · have k1 := (key (itV T s lo (r + 1) sd k) q1 (by omega)).1.mp (Int.le_refl _)
    have := m.1 (by omega)
    omega
  · by_cases q2 : itV T s lo (r + 1) sd k ≤ -1
    · have k1 := (key (-itV T s lo (r + 1) sd k) (by omega) (by omega)).2.mp (by omega)
      have := m.2 (by omega)
      omega
    · have q3 : itV T s lo (r + 1) sd k = 0 := by omega
      by_cases q4 : 1 ≤ itV T s lo r sd k
      · have := m.1 q4; omega
      · by_cases q5 : itV T s lo r sd k ≤ -1
        · have := m.2 q5; omega
        · omega
end RD9
