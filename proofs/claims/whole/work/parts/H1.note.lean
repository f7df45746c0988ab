/-! boards noted in a table -/
def hasB (S : Nat × (Nat → Nat → Nat)) (T : Nat → Nat) : Bool := decide (∃ j, j < S.1 ∧ (kyA (S.2 j) = kyA T ∧ kyB (S.2 j) = kyB T))
theorem hasB_t {S : Nat × (Nat → Nat → Nat)} {T : Nat → Nat} : hasB S T = true ↔ ∃ j, j < S.1 ∧ (kyA (S.2 j) = kyA T ∧ kyB (S.2 j) = kyB T) := decide_eq_true_iff
def addB (S : Nat × (Nat → Nat → Nat)) (T : Nat → Nat) : Nat × (Nat → Nat → Nat) := (S.1 + 1, fun j => if j = S.1 then T else S.2 j)
def insB (S : Nat × (Nat → Nat → Nat)) (T : Nat → Nat) : Nat × (Nat → Nat → Nat) := if hasB S T = true then S else addB S T
def hsB (T : Nat → Nat) : Nat := hsN (kyA T) (kyB T)
def HT (μ : Mu) (S : Nat × (Nat → Nat → Nat)) : Prop := μ.1 25 11 = nI S.1 ∧ S.1 ≤ 1296 ∧ (∀ j, j < S.1 → W1 (S.2 j) ∧ μ.2 28 j = lN (kyA (S.2 j)) ∧ μ.2 29 j = lN (kyB (S.2 j))) ∧ sumF (fun s => if μ.1 30 s = 0 then 0 else 1) 4096 = S.1 ∧ (∀ s, s < 4096 → μ.1 30 s = 0 ∨ ∃ j, j < S.1 ∧ μ.1 30 s = nI (j + 1)) ∧ ∀ j, j < S.1 → ∃ t, t < 4096 ∧ μ.1 30 ((hsB (S.2 j) + t) % 4096) = nI (j + 1) ∧ ∀ t', t' < t → ¬ μ.1 30 ((hsB (S.2 j) + t') % 4096) = 0
theorem HT_o {μ μ' : Mu} {S : Nat × (Nat → Nat → Nat)} (h : HT μ S) (e1 : μ'.1 25 = μ.1 25) (e2 : μ'.1 30 = μ.1 30) (e3 : μ'.2 = μ.2) : HT μ' S := by
  unfold HT
  rw [e1, e2, e3]
  exact h
theorem HT_add {μ : Mu} {S : Nat × (Nat → Nat → Nat)} {T : Nat → Nat} {t : Nat} (h : HT μ S) (hT : W1 T) (hm : S.1 < 1296) (ht : t < 4096) (h0 : μ.1 30 ((hsB T + t) % 4096) = 0) (hpre : ∀ t', t' < t → ¬ μ.1 30 ((hsB T + t') % 4096) = 0) (μ' : Mu) (e11 : μ'.1 25 11 = nI (S.1 + 1)) (e28 : μ'.2 28 S.1 = lN (kyA T)) (e28' : ∀ j, j ≠ S.1 → μ'.2 28 j = μ.2 28 j) (e29 : μ'.2 29 S.1 = lN (kyB T)) (e29' : ∀ j, j ≠ S.1 → μ'.2 29 j = μ.2 29 j) (e30 : μ'.1 30 ((hsB T + t) % 4096) = nI (S.1 + 1)) (e30' : ∀ s, s ≠ (hsB T + t) % 4096 → μ'.1 30 s = μ.1 30 s) : HT μ' (addB S T) := by
  obtain ⟨a1, a2, a3, a4, a5, a6⟩ := h
  have nz : ∀ s, ¬ μ.1 30 s = 0 → ¬ μ'.1 30 s = 0 := fun s q => by
    by_cases z : s = (hsB T + t) % 4096
    · rw [z, h0] at q; exact absurd rfl q
    · rw [e30' s z]; exact q
  refine ⟨e11, by show S.1 + 1 ≤ 1296; omega, fun j hj => ?_, ?_, fun s hs => ?_, fun j hj => ?_⟩
  · have hj' : j < S.1 + 1 := hj
    show W1 (if j = S.1 then T else S.2 j) ∧ μ'.2 28 j = lN (kyA (if j = S.1 then T else S.2 j)) ∧ μ'.2 29 j = lN (kyB (if j = S.1 then T else S.2 j))
    by_cases z : j = S.1
    · rw [if_pos z, z]; exact ⟨hT, e28, e29⟩
    · rw [if_neg z, e28' j z, e29' j z]; exact a3 j (by omega)
  · have e : sumF (fun s => if μ'.1 30 s = 0 then 0 else 1) 4096 = sumF (ups (fun s => if μ.1 30 s = 0 then 0 else 1) ((hsB T + t) % 4096) 1) 4096 := by
      refine sum_cg _ (fun s _ => ?_)
      by_cases z : s = (hsB T + t) % 4096
      · rw [z, ups_a, e30, if_neg (nI_ne0 (by omega) (by omega))]
      · rw [ups_b z, e30' s z]
    have e2 := sum_ups (c := fun s => if μ.1 30 s = 0 then 0 else 1) (j := (hsB T + t) % 4096) (v := 1) 4096 (Nat.mod_lt _ (by decide))
    rw [h0, if_pos rfl, a4, Nat.add_zero] at e2
    rw [e, e2]
    rfl
  · by_cases z : s = (hsB T + t) % 4096
    · exact Or.inr ⟨S.1, Nat.lt_succ_self _, by rw [z]; exact e30⟩
    · rw [e30' s z]
      rcases a5 s hs with q | ⟨j, hj, q⟩
      · exact Or.inl q
      · exact Or.inr ⟨j, Nat.lt_succ_of_lt hj, q⟩
  · have hj' : j < S.1 + 1 := hj
    show ∃ t, t < 4096 ∧ μ'.1 30 ((hsB (if j = S.1 then T else S.2 j) + t) % 4096) = nI (j + 1) ∧ ∀ t', t' < t → ¬ μ'.1 30 ((hsB (if j = S.1 then T else S.2 j) + t') % 4096) = 0
    by_cases z : j = S.1
    · rw [if_pos z, z]
      exact ⟨t, ht, e30, fun t' q => nz _ (hpre t' q)⟩
    · rw [if_neg z]
      obtain ⟨t2, b1, b2, b3⟩ := a6 j (by omega)
      refine ⟨t2, b1, ?_, fun t' q => nz _ (b3 t' q)⟩
      rw [e30' _ (fun q => ?_)]
      · exact b2
      · rw [q, h0] at b2
        exact nI_ne0 (by omega) (by omega) b2.symm
theorem full_no {μ : Mu} {S : Nat × (Nat → Nat → Nat)} {h0 : Nat} (h : HT μ S) (hh : h0 < 4096) (ha : ∀ t, t < 4096 → ¬ μ.1 30 ((h0 + t) % 4096) = 0) : False := by
  have e : sumF (fun s => if μ.1 30 s = 0 then 0 else 1) 4096 = sumF (fun _ => 1) 4096 := by
    refine sum_cg _ (fun s hs => ?_)
    have := ha ((s + 4096 - h0) % 4096) (Nat.mod_lt _ (by decide))
    rw [show (h0 + (s + 4096 - h0) % 4096) % 4096 = s by omega] at this
    rw [if_neg this]
  have e2 : ∀ k, sumF (fun _ => 1) k = k := by
    intro k
    induction k with
    | zero => rfl
    | succ k ih => rw [sumF, ih]
  have h1 := h.2.2.2.1
  have h2 := h.2.1
  rw [e, e2] at h1
  omega
theorem note_s (n : Nat) (μ : Mu) {T : Nat → Nat} {S : Nat × (Nat → Nat → Nat)} {i : Nat} (hi : i < 7) (hT : W1 T) (hS : SC μ (155 + 2 * i) T) (h : HT μ S) (hm : S.1 < 1296) (hn : 20000 < n) : Ok (X0_note n (155 + 2 * i) μ) (fun _ μ' => HT μ' (insB S T) ∧ ∀ o, o ≠ 25 → o ≠ 30 → μ'.1 o = μ.1 o) := by
  have k20 : ∀ i, i < 7 → oK (155 + 2 * i + 1) = 20 := by decide
  have k14 : ∀ i, i < 7 → oN (155 + 2 * i + 1) = 14 := by decide
  have hc : ∀ k, k < 14 → μ.1 (155 + 2 * i + 1) k = nI (cT T k) ∧ cT T k < 256 := fun k hk => ⟨hS.2 k hk, cT_256 hT hk⟩
  obtain ⟨kl1, kl2⟩ := ky_lt hT
  unfold X0_note
  rw [kd_of (osr i hi).1, i_0, i_7, i_14, bS (packed_s n μ (k20 i hi) (k14 i hi) (by decide) (by decide) (by decide) hc (by omega))]
  dsimp only
  rw [bS (packed_s n μ (k20 i hi) (k14 i hi) (by decide) (by decide) (by decide) hc (by omega))]
  dsimp only
  have eB : lN (paN (cT T) 7 (14 - 7)) * (2 : Int64) + ((μ.1 (155 + 2 * i) 1).toInt64) = lN (kyB T) := by
    rw [hS.1, nI_lN (by have := hT.1.2.1; omega), show (2 : Int64) = lN 2 from rfl, lN_mul, lN_add]
    rfl
  rw [eB]
  have eA : lN (paN (cT T) 0 (7 - 0)) = lN (kyA T) := rfl
  rw [eA, hs_e]
  show Ok (X0_note_59 n (155 + 2 * i) (lN (kyA T)) (lN (kyB T)) (nI (hsB T)) (nI 0) μ) _
  have hh := hs_lt (kyA T) (kyB T)
  have hh' : hsB T < 4096 := hh
  unfold X0_note_59
  refine Ok_lp4 (fun f x2 x4 x8 x9 μ' => ∃ t, t ≤ 4096 ∧ f = 4096 - t ∧ x2 = lN (kyA T) ∧ x4 = lN (kyB T) ∧ x8 = nI ((hsB T + t) % 4096) ∧ x9 = nI t ∧ μ' = μ ∧ ∀ t', t' < t → ∃ j, j < S.1 ∧ μ.1 30 ((hsB T + t') % 4096) = nI (j + 1) ∧ ¬ (kyA (S.2 j) = kyA T ∧ kyB (S.2 j) = kyB T)) ?_ 4096 (by omega) ⟨0, by omega, rfl, rfl, rfl, by rw [Nat.add_zero, Nat.mod_eq_of_lt hh'], rfl, rfl, fun t' q => by omega⟩
  rintro K f x2 x4 x8 x9 μ1 ⟨t, ht, rfl, rfl, rfl, rfl, rfl, rfl, hpre⟩ hK
  have hnz : ∀ t', t' < t → ¬ μ1.1 30 ((hsB T + t') % 4096) = 0 := fun t' q => by
    obtain ⟨j, hj, e, _⟩ := hpre t' q
    rw [e]
    exact nI_ne0 (by omega) (by omega)
  unfold X0_note_59b X0_note_164
  rw [i_4096, ifLe (by decide) (by omega)]
  by_cases c : 4096 ≤ t
  · exact (full_no h hh' (fun t' q => hnz t' (by omega))).elim
  · have hsl := Nat.mod_lt (hsB T + t) (show 0 < 4096 by decide)
    rw [if_neg c, h.1, i_1296, ifLe (by decide) (by omega), if_neg (by omega), gd_n hsl (by decide), nI_clamp (by omega)]
    by_cases z : μ1.1 30 ((hsB T + t) % 4096) = 0
    · have hno : ¬ hasB S T = true := by
        intro q
        obtain ⟨j, hj, kj⟩ := hasB_t.mp q
        obtain ⟨t2, b1, b2, b3⟩ := h.2.2.2.2.2 j hj
        have eh : hsB (S.2 j) = hsB T := by unfold hsB; rw [kj.1, kj.2]
        rw [eh] at b2 b3
        rcases Nat.lt_trichotomy t2 t with q | q | q
        · obtain ⟨j', hj', e', n'⟩ := hpre t2 q
          rw [b2] at e'
          have := (nI_eq (by omega) (by omega)).mp e'
          obtain rfl : j = j' := by omega
          exact n' kj
        · rw [q, z] at b2
          exact nI_ne0 (by omega) (by omega) b2.symm
        · exact b3 t q z
      have sj1 : ∀ (ν : Mu) o k (v : Int64), (sj ν o k v).1 = ν.1 := fun _ _ _ _ => rfl
      have si2 : ∀ (ν : Mu) o k (v : Int32), (si ν o k v).2 = ν.2 := fun _ _ _ _ => rfl
      rw [if_pos z, gd_n (by omega) (by decide), sj1, h.1, gd_n (by omega) (by decide), nI_clamp (by omega), sj1, sj1, h.1, i_1, nI_add, si_a]
      refine Ok_r ⟨?_, fun o a b => by rw [si_o b, si_o a]; rfl⟩
      rw [show insB S T = addB S T from if_neg hno]
      refine HT_add h hT hm (by omega) z hnz _ ?_ ?_ ?_ ?_ ?_ ?_ ?_
      · rw [si_b (by decide), si_a]
      · rw [si2, si2, sj_b (by decide), sj_a]
      · intro j hj; rw [si2, si2, sj_b (by decide), sj_c hj]
      · rw [si2, si2, sj_a]
      · intro j hj; rw [si2, si2, sj_c hj, sj_b (by decide)]
      · rw [si_a]
      · intro s hs; rw [si_c hs, si_b (by decide), sj1, sj1]
    · rcases h.2.2.2.2.1 _ hsl with q | ⟨j, hj, q⟩
      · exact absurd q z
      · obtain ⟨w1, p1, p2⟩ := h.2.2.1 j hj
        obtain ⟨l1, l2⟩ := ky_lt w1
        rw [if_neg z, q, i_1, pk_sub (by omega), Nat.add_sub_cancel, gd_n (by omega) (by decide), nI_clamp (by omega), p1, p2, ifIff lg_eq, ifIff lg_eq, ifIff (pk_lEQ (by omega) (by omega)), ifIff (pk_lEQ (by omega) (by omega))]
        have nxt : ¬ (kyA (S.2 j) = kyA T ∧ kyB (S.2 j) = kyB T) → Ok (K (lN (kyA T)) (lN (kyB T)) ((nI ((hsB T + t) % 4096) + nI 1) &&& (4095 : Int32)) (nI t + nI 1) μ1) (fun _ μ' => HT μ' (insB S T) ∧ ∀ o, o ≠ 25 → o ≠ 30 → μ'.1 o = μ1.1 o) := by
          intro no
          rw [nI_add, nI_add, pk_andN (by omega) 12 (by decide), show ((hsB T + t) % 4096 + 1) % 2 ^ 12 = (hsB T + (t + 1)) % 4096 by omega]
          refine hK (4096 - (t + 1)) _ _ _ _ _ (by omega) ⟨t + 1, by omega, rfl, rfl, rfl, rfl, rfl, rfl, fun t' q' => ?_⟩
          by_cases zz : t' = t
          · rw [zz]; exact ⟨j, hj, q, no⟩
          · exact hpre t' (by omega)
        by_cases c1 : kyA (S.2 j) = kyA T
        · rw [if_pos c1]
          by_cases c2 : kyB (S.2 j) = kyB T
          · rw [if_pos c2, show insB S T = S from if_pos (hasB_t.mpr ⟨j, hj, c1, c2⟩)]
            exact Ok_r ⟨h, fun _ _ _ => rfl⟩
          · rw [if_neg c2]; exact nxt (fun q => c2 q.2)
        · rw [if_neg c1]; exact nxt (fun q => c1 q.1)
