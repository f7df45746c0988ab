/-! the class's solver: the key of the rules, halves, indices -/
def GA (μ : Mu) (T : Nat → Nat) : Prop := GG μ T ∧ WT μ
theorem GA_o {μ μ' : Mu} {T : Nat → Nat} (h : GA μ T) (e : ∀ o, 1 ≤ o → o ≤ 5 → μ'.1 o = μ.1 o) : GA μ' T := by
  obtain ⟨⟨g1, g2, g3, g4, g5⟩, w⟩ := h
  refine ⟨⟨GE_o g1 (e 1 (by omega) (by omega)) (e 2 (by omega) (by omega)) (e 3 (by omega) (by omega)), fun j hj => by rw [e 4 (by omega) (by omega)]; exact g2 j hj, fun j hj => by rw [e 4 (by omega) (by omega)]; exact g3 j hj, by rw [e 2 (by omega) (by omega)]; exact g4, by rw [e 2 (by omega) (by omega)]; exact g5⟩, fun p hp s hs => by rw [e 5 (by omega) (by omega)]; exact w p hp s hs⟩
theorem alk_re {T T0 : Nat → Nat} (r : RE T T0) : alkT T0 = alkT T := by
  unfold alkT alkI lkS
  rw [r 1 (by decide) (by decide), r 3 (by decide) (by decide)]
theorem GA_re {μ : Mu} {T T0 : Nat → Nat} (r : RE T T0) (h : GA μ T) : GA μ T0 := by
  obtain ⟨⟨g1, g2, g3, g4, g5⟩, w⟩ := h
  exact ⟨⟨GE_re r g1, fun j hj => by rw [sq_re r]; exact g2 j (by rw [← opn_re r]; exact hj), fun j hj => by rw [sq_re r]; exact g3 j (by rw [← opn_re r]; exact hj), by rw [opn_re r]; exact g4, by rw [alk_re r]; exact g5⟩, w⟩
theorem GA_sn {μ : Mu} {T : Nat → Nat} {sd : Nat} (h : GA μ T) (hs : sd < 2) : SN μ T sd := by
  obtain rfl | rfl : sd = 0 ∨ sd = 1 := by omega
  · exact h.1.2.1
  · exact h.1.2.2.1
def keyA (T : Nat → Nat) : Nat := (((T 3 * 8 + T 1) * 32 + T 6) * 64 + tkC T * 16) + (T 4 + 2 * T 5 + 4 * T 9 + 8 * T 10)
theorem or_add (i a b : Nat) (h : b < 2 ^ i) : a * 2 ^ i ||| b = a * 2 ^ i + b := by
  rw [Nat.mul_comm]
  exact (Nat.two_pow_add_eq_or_of_lt h a).symm
theorem tkC_lt {T : Nat → Nat} (hB : BD T) : tkC T < 4 := by
  unfold tkC
  have := hB.2.2.2.2.2.2.1
  split <;> omega
theorem key_s (n : Nat) (μ : Mu) {T : Nat → Nat} (hB : BD T) (hR : RR μ T) : X5_key n 1 μ = some (nI (keyA T), μ) := by
  have ht := tkC_lt hB
  obtain ⟨a1, a2, a3, a4, a5, a6, a7, a8, a9, a10, _⟩ := hB
  obtain ⟨r1, r2, r3, r4, r5, r6, r7, r8⟩ := hR
  have e1 : ∀ f, f < 16 → ((((((nI (T 3) <<< ((3 : Int32) &&& 31)) ||| nI (T 1)) <<< ((5 : Int32) &&& 31)) ||| nI (T 6)) <<< ((6 : Int32) &&& 31)) ||| (nI (tkC T) <<< ((4 : Int32) &&& 31))) ||| nI f = nI ((((T 3 * 8 + T 1) * 32 + T 6) * 64 + tkC T * 16) + f) := by
    intro f hf
    rw [pk_shlN _ 3 (by decide) (by omega), fa_or, or_add 3 _ _ (by omega), pk_shlN _ 5 (by decide) (by omega), fa_or, or_add 5 _ _ (by omega), pk_shlN _ 6 (by decide) (by omega), pk_shlN _ 4 (by decide) (by omega), fa_or, or_add 6 _ _ (by omega), fa_or, show ((T 3 * 2 ^ 3 + T 1) * 2 ^ 5 + T 6) * 2 ^ 6 + tkC T * 2 ^ 4 = (((T 3 * 2 ^ 3 + T 1) * 2 ^ 5 + T 6) * 4 + tkC T) * 2 ^ 4 by omega, or_add 4 _ _ (by omega)]
  have e2 : ∀ (x : Int32) f, x = nI f → f < 16 → ((((((nI (T 3) <<< ((3 : Int32) &&& 31)) ||| nI (T 1)) <<< ((5 : Int32) &&& 31)) ||| nI (T 6)) <<< ((6 : Int32) &&& 31)) ||| (nI (tkC T) <<< ((4 : Int32) &&& 31))) ||| x = nI ((((T 3 * 8 + T 1) * 32 + T 6) * 64 + tkC T * 16) + f) := fun x f a b => by rw [a]; exact e1 f b
  unfold X5_key X5_key_12 X5_key_24 X5_key_37 X5_key_51 keyA
  rw [kd_of (by decide), r1, r2, r3, r4, r5, r6, r7, r8]
  obtain z4 | z4 : T 4 = 0 ∨ T 4 = 1 := by omega
  all_goals obtain z5 | z5 : T 5 = 0 ∨ T 5 = 1 := by omega
  all_goals obtain z9 | z9 : T 9 = 0 ∨ T 9 = 1 := by omega
  all_goals obtain z10 | z10 : T 10 = 0 ∨ T 10 = 1 := by omega
  all_goals
    rw [z4, z5, z9, z10]
    exact congrArg (fun x => some (x, μ)) (e2 _ _ (by decide) (by decide))
theorem key_re {T T0 : Nat → Nat} (hB : BD T) (hB0 : BD T0) (h : keyA T0 = keyA T) : RE T T0 := by
  have t1 := tkC_lt hB
  have t2 := tkC_lt hB0
  obtain ⟨a1, a2, a3, a4, a5, a6, a7, a8, a9, a10, a11⟩ := hB
  obtain ⟨c1, c2, c3, c4, c5, c6, c7, c8, c9, c10, c11⟩ := hB0
  unfold keyA at h
  have k : T0 1 = T 1 ∧ T0 3 = T 3 ∧ T0 4 = T 4 ∧ T0 5 = T 5 ∧ T0 6 = T 6 ∧ T0 9 = T 9 ∧ T0 10 = T 10 ∧ tkC T0 = tkC T := by omega
  obtain ⟨k1, k3, k4, k5, k6, k9, k10, kt⟩ := k
  have k78 : T0 7 = T 7 ∧ T0 8 = T 8 := by
    unfold tkC at kt
    by_cases z : T 8 = 1
    · by_cases z0 : T0 8 = 1
      · have := a11 z; have := c11 z0; omega
      · rw [if_pos z, if_neg z0] at kt; omega
    · by_cases z0 : T0 8 = 1
      · rw [if_neg z, if_pos z0] at kt; omega
      · rw [if_neg z, if_neg z0] at kt; omega
  intro k a b
  obtain rfl | rfl | rfl | rfl | rfl | rfl | rfl | rfl | rfl : k = 1 ∨ k = 3 ∨ k = 4 ∨ k = 5 ∨ k = 6 ∨ k = 7 ∨ k = 8 ∨ k = 9 ∨ k = 10 := by omega
  · exact k1
  · exact k3
  · exact k4
  · exact k5
  · exact k6
  · exact k78.1
  · exact k78.2
  · exact k9
  · exact k10
theorem key_of {T T0 : Nat → Nat} (r : RE T T0) : keyA T0 = keyA T := by
  unfold keyA tkC
  rw [r 1 (by decide) (by decide), r 3 (by decide) (by decide), r 4 (by decide) (by decide), r 5 (by decide) (by decide), r 6 (by decide) (by decide), r 7 (by decide) (by decide), r 8 (by decide) (by decide), r 9 (by decide) (by decide), r 10 (by decide) (by decide)]
theorem keyA_lt {T : Nat → Nat} (hB : BD T) : keyA T < 2 ^ 31 := by
  have t1 := tkC_lt hB
  obtain ⟨a1, a2, a3, a4, a5, a6, a7, a8, a9, a10, a11⟩ := hB
  unfold keyA
  omega
/-! halves -/
def hlf (T : Nat → Nat) (sd : Nat) : Nat := if alkT T = true then 0 else sd
theorem hlf_0 {T : Nat → Nat} : hlf T 0 = 0 := by unfold hlf; split <;> rfl
theorem hlf_lt {T : Nat → Nat} {sd : Nat} (h : sd < 2) : hlf T sd < 2 := by unfold hlf; split <;> omega
theorem hlf_le {T : Nat → Nat} {sd : Nat} (h : sd < 2) : hlf T sd ≤ hlf T 1 := by unfold hlf; split <;> omega
theorem hlf_id {T : Nat → Nat} {h : Nat} (hh : h ≤ hlf T 1) : hlf T h = h := by
  unfold hlf at *
  split at hh
  · rename_i e; rw [if_pos e]; omega
  · rename_i e; rw [if_neg e]
theorem hlf_alk {T : Nat → Nat} {sd : Nat} (h : sd < 2) : hlf T sd = sd ∨ (ALK T ∧ hlf T sd = 0 ∧ sd = 1) := by
  unfold hlf
  by_cases e : alkT T = true
  · rw [if_pos e]
    obtain rfl | rfl : sd = 0 ∨ sd = 1 := by omega
    · exact Or.inl rfl
    · exact Or.inr ⟨alk_t.mp e, rfl, rfl⟩
  · rw [if_neg e]; exact Or.inl rfl
theorem halfOf_s (n : Nat) (μ : Mu) {T : Nat → Nat} {sd : Nat} (h : GA μ T) : X7_halfOf n (nI sd) μ = some (nI (hlf T sd), μ) := by
  unfold X7_halfOf X7_halfOf_15 hlf
  rw [h.1.2.2.2.2]
  cases alkT T with
  | false => rfl
  | true => rfl
def ixC (T : Nat → Nat) (sd s k : Nat) : Nat := hlf T sd * 6000 + bhS T s + k
theorem posC_s (n : Nat) (μ : Mu) {T : Nat → Nat} {s : Nat} (hB : BD T) (h : GA μ T) (hs : s ≤ 40) : X1_positionsOf n (nI s) μ = some (nI (min 6001 (Wn (opnN T) s)), μ) := by
  have h1 := opn_le (T := T)
  have h2 := hB.2.1
  unfold X1_positionsOf
  rw [h.1.2.2.2.1, i_41, pk_mul, nI_add, gd_n (by omega) (by decide), nI_clamp (by omega), h.2 _ (by omega) _ hs]
theorem bh_W {T : Nat → Nat} {s : Nat} : Wn (opnN T + 1) s = bhS T (s + 1) := rfl
theorem upTo_s (n : Nat) (μ : Mu) {T : Nat → Nat} {s : Nat} (hB : BD T) (h : GA μ T) (hs : s ≤ 40) : X1_positionsUpTo n (nI s) μ = some (nI (min 6001 (bhS T (s + 1))), μ) := by
  have h1 := opn_le (T := T)
  have h2 := hB.2.1
  unfold X1_positionsUpTo X1_positionsUpTo_24
  rw [h.1.2.2.2.1, if_pos (nI_pos' (by omega)), i_41, i_1, nI_add, pk_mul, nI_add, gd_n (by omega) (by decide), nI_clamp (by omega), h.2 _ (by omega) _ hs, bh_W]
theorem upTo_1 (n : Nat) (μ : Mu) {T : Nat → Nat} {s : Nat} (hB : BD T) (h : GA μ T) (hs : s ≤ 41) : X1_positionsUpTo n (nI s - nI 1) μ = some (nI (min 6001 (bhS T s)), μ) := by
  cases s with
  | zero =>
    unfold X1_positionsUpTo X1_positionsUpTo_24
    rw [if_neg (show ¬ (0 : Int32) ≤ nI 0 - nI 1 by decide)]
    rfl
  | succ s =>
    rw [pk_sub (by omega), Nat.add_sub_cancel]
    exact upTo_s n μ hB h (by omega)
theorem indexOf_s (n : Nat) (μ : Mu) {T : Nat → Nat} {sd s k : Nat} (hB : BD T) (h : GA μ T) (hs : s ≤ 41) (h6 : bhS T s ≤ 6000) : X7_indexOf n (nI sd) (nI s) (nI k) μ = some (nI (ixC T sd s k), μ) := by
  unfold X7_indexOf
  rw [bS (halfOf_s n μ h)]
  dsimp only
  rw [i_1, bS (upTo_1 n μ hB h hs)]
  dsimp only
  rw [i_6000, pk_mul, nI_add, nI_add, Nat.min_eq_right (by omega)]
  rfl
theorem indexAt_s (n : Nat) (μ : Mu) {T c : Nat → Nat} {o sd s : Nat} (ho : oK o = 6) (hB : BD T) (h : GA μ T) (hs : sd < 2) (hsd : μ.1 o 1 = nI sd) (hc : CE μ o c) (hz : ∀ p, p < 2 * T 1 → (T 3).testBit p = true → c p = 0) (hsum : sumF c (2 * T 1) = s) (h40 : s ≤ 40) (h6 : bhS T (s + 1) ≤ 6000) (hn : 1000 < n) :
    X7_indexAt n o (nI s) μ = some (nI (ixC T sd s (nbT T c sd)), μ) := by
  subst hsum
  rw [bh_s] at h6
  unfold X7_indexAt
  rw [kd_of ho, bS (numberOf_s n μ ho hB.2.1 hs hsd hc (GA_sn h hs) h.1.2.2.2.1 h.2 hz h40 (by omega) hn)]
  dsimp only
  rw [hsd, bS (indexOf_s n μ hB h (by omega) (by omega))]
theorem ix_lt {T : Nat → Nat} {sd s k : Nat} (hs : sd < 2) (h6 : bhS T (s + 1) ≤ 6000) (hk : k < Wn (opnN T) s) : ixC T sd s k < 12000 := by
  have := hlf_lt (T := T) hs
  rw [bh_s] at h6
  unfold ixC
  omega
theorem ix_in {T : Nat → Nat} {s h k h' k' : Nat} (h6 : bhS T (s + 1) ≤ 6000) (hh : h ≤ hlf T 1) (hh' : h' ≤ hlf T 1) (hk : k < Wn (opnN T) s) (hk' : k' < Wn (opnN T) s) (e : ixC T h s k = ixC T h' s k') : h = h' ∧ k = k' := by
  rw [bh_s] at h6
  unfold ixC at e
  rw [hlf_id hh, hlf_id hh'] at e
  have := hlf_lt (T := T) (show 1 < 2 by decide)
  omega
theorem ix_h {T : Nat → Nat} {sd s k : Nat} (hs : sd < 2) : ixC T (hlf T sd) s k = ixC T sd s k := by
  unfold ixC
  rw [hlf_id (hlf_le hs)]
theorem ix_low {T : Nat → Nat} {s h k h' s' k' : Nat} (h6 : bhS T (s + 1) ≤ 6000) (hh : h < 2) (hh' : h' < 2) (hk : k < Wn (opnN T) s) (hs : s' < s) (hk' : k' < Wn (opnN T) s') : ixC T h' s' k' ≠ ixC T h s k := by
  intro e
  have q := bh_mo (T := T) (show s' + 1 ≤ s by omega)
  rw [bh_s] at q h6
  have := hlf_lt (T := T) hh
  have := hlf_lt (T := T) hh'
  unfold ixC at e
  omega
/-! what the class has solved -/
def rkC (T : Nat → Nat) (sd s k : Nat) : Int32 := if enD T sd s k = true then -nI 1 else nI (RK T 41 sd s k)
def CV (μ : Mu) (T : Nat → Nat) (S : Nat) : Prop := S ≤ 41 ∧ bhS T S ≤ 6000 ∧ μ.1 15 7 = iv ((S : Int) - 1) ∧ ∀ sd s k, sd < 2 → s < S → k < Wn (opnN T) s → μ.1 16 (ixC T sd s k) = iv (VL T 41 sd s k) ∧ μ.1 17 (ixC T sd s k) = rkC T sd s k
def CI (μ : Mu) : Prop := μ.1 15 7 = iv (-1) ∨ ∃ T0 S, WF T0 ∧ μ.1 15 6 = nI (keyA T0) ∧ CV μ T0 S
theorem ixC_re {T T0 : Nat → Nat} (r : RE T T0) (sd s k : Nat) : ixC T0 sd s k = ixC T sd s k := by unfold ixC hlf; rw [bhS_re r, alk_re r]
theorem CV_re {μ : Mu} {T T0 : Nat → Nat} {S : Nat} (r : RE T T0) (hW : WF T) (h : CV μ T0 S) : CV μ T S := by
  obtain ⟨h1, h2, h3, h5⟩ := h
  rw [bhS_re r] at h2
  refine ⟨h1, h2, h3, fun sd s k a b c => ?_⟩
  obtain ⟨v1, v2⟩ := h5 sd s k a b (by rw [opn_re r]; exact c)
  obtain ⟨e1, e2⟩ := VL_re r hW 41 (by omega) sd s k a (by omega) c
  rw [ixC_re r, e1] at v1
  rw [ixC_re r] at v2
  refine ⟨v1, ?_⟩
  rw [v2]
  unfold rkC
  rw [e2, enD_re r hW a (by omega) c]
theorem CV_o {μ μ' : Mu} {T : Nat → Nat} {S : Nat} (h : CV μ T S) (e0 : μ'.1 15 7 = μ.1 15 7) (e1 : μ'.1 16 = μ.1 16) (e2 : μ'.1 17 = μ.1 17) : CV μ' T S := by
  obtain ⟨h1, h2, h3, h5⟩ := h
  exact ⟨h1, h2, by rw [e0]; exact h3, fun sd s k a b c => by rw [e1, e2]; exact h5 sd s k a b c⟩
theorem CI_o {μ μ' : Mu} (h : CI μ) (e : μ'.1 15 6 = μ.1 15 6) (e0 : μ'.1 15 7 = μ.1 15 7) (e1 : μ'.1 16 = μ.1 16) (e2 : μ'.1 17 = μ.1 17) : CI μ' := by
  rcases h with h | ⟨T0, S, w, u, v⟩
  · exact Or.inl (by rw [e0]; exact h)
  · exact Or.inr ⟨T0, S, w, by rw [e]; exact u, CV_o v e0 e1 e2⟩
/-- ended positions keep their value -/
theorem it_en {T : Nat → Nat} {s : Nat} {lo : Nat → Nat → Nat → Int} {sd k : Nat} (h : enD T sd s k = true) : ∀ r, itV T s lo r sd k = edV T sd s k ∧ itR T s lo r sd k = 0 := by
  have hV : ∀ r, itV T s lo r sd k = edV T sd s k := by
    intro r
    cases r with
    | zero => show (if enD T sd s k = true then edV T sd s k else 0) = _; rw [if_pos h]
    | succ r => show stV T s lo (itV T s lo r) sd k = _; unfold stV; rw [if_pos h]
  intro r
  induction r with
  | zero => exact ⟨hV 0, rfl⟩
  | succ r ih =>
    refine ⟨hV _, ?_⟩
    show (if itV T s lo (r + 1) sd k = itV T s lo r sd k then itR T s lo r sd k else r + 1) = 0
    rw [if_pos (by rw [hV, hV])]
    exact ih.2
theorem RK_en {T : Nat → Nat} {sd s k : Nat} (hs : s < 41) (h : enD T sd s k = true) : RK T 41 sd s k = 0 := by
  rw [(VL_lo (s + 1) 41 (Nat.lt_succ_self s) (by omega)).2, RK_e]
  exact (it_en h _).2
/-- sides that see alike share values -/
theorem hv_it {T : Nat → Nat} {s : Nat} {lo : Nat → Nat → Nat → Int} (hW : WF T) (h40 : s ≤ 40) (hl : ALK T → ∀ s' k, s' < s → k < Wn (opnN T) s' → lo 1 s' k = lo 0 s' k) {sd k : Nat} (hs : sd < 2) (hk : k < Wn (opnN T) s) (r : Nat) : itV T s lo r (hlf T sd) k = itV T s lo r sd k ∧ itR T s lo r (hlf T sd) k = itR T s lo r sd k := by
  rcases hlf_alk (T := T) hs with e | ⟨hA, e, rfl⟩
  · rw [e]; exact ⟨rfl, rfl⟩
  · rw [e]
    obtain ⟨a, b⟩ := it_sy hA hW h40 (hl hA) r k hk
    exact ⟨a.symm, b.symm⟩
theorem hv_en {T : Nat → Nat} {s : Nat} (hW : WF T) {sd k : Nat} (hs : sd < 2) (hk : k < Wn (opnN T) s) : enD T (hlf T sd) s k = enD T sd s k := by
  rcases hlf_alk (T := T) hs with e | ⟨hA, e, rfl⟩
  · rw [e]
  · rw [e, la_o hA hW hk]
