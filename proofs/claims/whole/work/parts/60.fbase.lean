def inL (L : List (Nat × Nat × Nat)) (o k : Nat) : Prop := ∃ q ∈ L, q.1 ≤ o ∧ o ≤ q.2.1 ∧ (q.2.2 = 9999 ∨ q.2.2 = k)
theorem inL_mk {L : List (Nat × Nat × Nat)} {o k : Nat} (lo hi kk : Nat) (hq : (lo, hi, kk) ∈ L) (h1 : lo ≤ o) (h2 : o ≤ hi) (h3 : kk = 9999 ∨ kk = k) : inL L o k := ⟨(lo, hi, kk), hq, h1, h2, h3⟩
theorem subL_of {L1 L2 : List (Nat × Nat × Nat)} {o k : Nat} (h : L1.all (fun q => L2.any (fun p => decide (p.1 ≤ q.1) && decide (q.2.1 ≤ p.2.1) && (decide (p.2.2 = 9999) || decide (p.2.2 = q.2.2)))) = true) (hS : inL L1 o k) : inL L2 o k := by
  obtain ⟨q, hq, h1, h2, h3⟩ := hS
  obtain ⟨p, hp, hc⟩ := List.any_eq_true.mp (List.all_eq_true.mp h q hq)
  simp only [Bool.and_eq_true, Bool.or_eq_true, decide_eq_true_eq] at hc
  exact ⟨p, hp, Nat.le_trans hc.1.1 h1, Nat.le_trans h2 hc.1.2, by omega⟩
/-- outside S the memory is the same -/
def Fr (S : Nat → Nat → Prop) (μ μ' : Mu) : Prop := ∀ o k, ¬ S o k → μ'.1 o k = μ.1 o k ∧ μ'.2 o k = μ.2 o k
theorem Fr.rf {S : Nat → Nat → Prop} {μ : Mu} : Fr S μ μ := fun _ _ _ => ⟨rfl, rfl⟩
theorem Fr.tr {S S' : Nat → Nat → Prop} {μ μ1 μ2 : Mu} (h : Fr S μ μ1) (h2 : Fr S' μ1 μ2) (hs : ∀ o k, S' o k → S o k) : Fr S μ μ2 := fun o k hn => by
  obtain ⟨a1, a2⟩ := h o k hn
  obtain ⟨b1, b2⟩ := h2 o k (fun q => hn (hs o k q))
  exact ⟨b1.trans a1, b2.trans a2⟩
theorem Fr.si {S : Nat → Nat → Prop} {μ μ1 : Mu} (h : Fr S μ μ1) {o k : Nat} {v : Int32} (hs : S o k) : Fr S μ (si μ1 o k v) := fun o' k' hn => by
  obtain ⟨a1, a2⟩ := h o' k' hn
  refine ⟨?_, a2⟩
  show (if o' = o then upd (μ1.1 o) k v else μ1.1 o') k' = _
  by_cases e : o' = o
  · subst e
    rw [if_pos rfl]
    by_cases e2 : k' = k
    · subst e2; exact absurd hs hn
    · rw [pk_un e2]; exact a1
  · rw [if_neg e]; exact a1
theorem Fr.sj {S : Nat → Nat → Prop} {μ μ1 : Mu} (h : Fr S μ μ1) {o k : Nat} {v : Int64} (hs : S o k) : Fr S μ (sj μ1 o k v) := fun o' k' hn => by
  obtain ⟨a1, a2⟩ := h o' k' hn
  refine ⟨a1, ?_⟩
  show (if o' = o then vp_updL (μ1.2 o) k v else μ1.2 o') k' = _
  by_cases e : o' = o
  · subst e
    rw [if_pos rfl]
    by_cases e2 : k' = k
    · subst e2; exact absurd hs hn
    · rw [pk_uLn e2]; exact a2
  · rw [if_neg e]; exact a2
theorem Fr.cp {S : Nat → Nat → Prop} {μ μ1 : Mu} (h : Fr S μ μ1) {a o : Nat} (hs : ∀ k, S o k) : Fr S μ (cp14 μ1 a o) := fun o' k' hn => by
  obtain ⟨a1, a2⟩ := h o' k' hn
  refine ⟨?_, a2⟩
  show (if o' = o then va_cpy (μ1.1 a) (μ1.1 o) 0 0 14 else μ1.1 o') k' = _
  by_cases e : o' = o
  · subst e; exact absurd (hs k') hn
  · rw [if_neg e]; exact a1
theorem kd_all : ∀ o, o < NN → (oK o = 9 → 33 ≤ o ∧ o + 1 ≤ 40) ∧ (oK o = 2 → 41 ≤ o ∧ o + 3 ≤ 52) ∧ (oK o = 6 → 43 ≤ o ∧ o + 1 ≤ 170) := by decide +kernel
theorem kdI {o k : Nat} (h : oK o = k) : (k = 9 → 33 ≤ o ∧ o + 1 ≤ 40) ∧ (k = 2 → 41 ≤ o ∧ o + 3 ≤ 52) ∧ (k = 6 → 43 ≤ o ∧ o + 1 ≤ 170) := by
  refine ⟨fun e => ?_, fun e => ?_, fun e => ?_⟩
  · exact (kd_all o (oK_lt (by omega))).1 (by omega)
  · exact (kd_all o (oK_lt (by omega))).2.1 (by omega)
  · exact (kd_all o (oK_lt (by omega))).2.2 (by omega)
def S_J0_length_8abf5 (v0 : Nat) : Nat → Nat → Prop := fun o k => inL [] o k
theorem fr_J0_length_8abf5 (n : Nat) (v0 : Nat) (μ : Mu) (r : Int32 × Mu) (h : J0_length_8abf5 n v0 μ = some r) : Fr (S_J0_length_8abf5 v0) μ r.2 := by
  rw [J0_length_8abf5] at h
  obtain ⟨_, h⟩ := kd_some h
  rw [← Option.some.inj h]
  exact Fr.rf
def S_J0_charAt_5068e (v0 : Nat) (v1 : Int32) : Nat → Nat → Prop := fun o k => inL [] o k
theorem fr_J0_charAt_5068e (n : Nat) (v0 : Nat) (v1 : Int32) (μ : Mu) (r : Int32 × Mu) (h : J0_charAt_5068e n v0 v1 μ = some r) : Fr (S_J0_charAt_5068e v0 v1) μ r.2 := by
  rw [J0_charAt_5068e] at h
  obtain ⟨_, h⟩ := kd_some h
  obtain ⟨_, h⟩ := gd_some h
  rw [← Option.some.inj h]
  exact Fr.rf
def S_X0_packed (v0 : Nat) (v1 : Int32) (v2 : Int32) : Nat → Nat → Prop := fun o k => inL [] o k
def S_X1_countWays : Nat → Nat → Prop := fun o k => inL [(5, 5, 9999)] o k
def S_X1_pitAsSeen (v1 : Int32) (v2 : Int32) : Nat → Nat → Prop := fun o k => inL [] o k
def S_X1_positionsOf (v1 : Int32) : Nat → Nat → Prop := fun o k => inL [] o k
def S_X1_positionsUpTo (v1 : Int32) : Nat → Nat → Prop := fun o k => inL [] o k
def S_X1_numberOf (v1 : Nat) (v2 : Int32) : Nat → Nat → Prop := fun o k => inL [] o k
def S_X3_forget : Nat → Nat → Prop := fun o k => inL [(9, 9, 0), (9, 9, 1)] o k
def S_X3_slot (v1 : Int32) : Nat → Nat → Prop := fun o k => inL [] o k
def S_X3_moveAt (v1 : Int32) : Nat → Nat → Prop := fun o k => inL [] o k
def S_X3_again : Nat → Nat → Prop := fun o k => inL [(9, 9, 0), (9, 9, 1)] o k
def S_X4_append (v1 : Int32) : Nat → Nat → Prop := fun o k => inL [(12, 12, 4), (14, 14, 9999)] o k
def S_X4_refuse (v1 : Int32) : Nat → Nat → Prop := fun o k => inL [(12, 12, 2), (12, 12, 3)] o k
def S_X4_checkedNumber (v1 : Int32) (v2 : Int32) : Nat → Nat → Prop := fun o k => inL [(12, 12, 2), (12, 12, 3)] o k
def S_X4_isWord (v1 : Nat) : Nat → Nat → Prop := fun o k => inL [] o k
def S_X4_isDigit (v1 : Int32) : Nat → Nat → Prop := fun o k => inL [] o k
def S_X4_isLetter (v1 : Int32) : Nat → Nat → Prop := fun o k => inL [] o k
def S_X5_clear (v0 : Nat) : Nat → Nat → Prop := fun o k => inL [] o k ∨ (o = v0 ∧ k = 0) ∨ (o = v0 ∧ k = 1) ∨ (o = v0 ∧ k = 2) ∨ (o = v0 ∧ k = 3) ∨ (o = v0 ∧ k = 4) ∨ (o = v0 ∧ k = 5) ∨ (o = v0 ∧ k = 6) ∨ (o = v0 ∧ k = 7) ∨ (o = v0 ∧ k = 8)
def S_X5_copy (v0 : Nat) (v1 : Nat) : Nat → Nat → Prop := fun o k => inL [] o k ∨ (o = v0 ∧ k = 0) ∨ (o = v0 ∧ k = 1) ∨ (o = v0 ∧ k = 2) ∨ (o = v0 ∧ k = 3) ∨ (o = v0 ∧ k = 4) ∨ (o = v0 ∧ k = 5) ∨ (o = v0 ∧ k = 6) ∨ (o = v0 ∧ k = 7) ∨ (o = v0 ∧ k = 8)
def S_X5_isLacking (v0 : Nat) (v1 : Int32) : Nat → Nat → Prop := fun o k => inL [] o k
def S_X5_key (v0 : Nat) : Nat → Nat → Prop := fun o k => inL [] o k
def S_X6_clear (v0 : Nat) : Nat → Nat → Prop := fun o k => inL [] o k ∨ (o = v0 ∧ k = 1) ∨ (o = v0 + 1)
def S_X6_copy (v0 : Nat) (v1 : Nat) : Nat → Nat → Prop := fun o k => inL [] o k ∨ (o = v0 ∧ k = 1) ∨ (o = v0 + 1)
def S_X6_isLike (v0 : Nat) (v1 : Nat) : Nat → Nat → Prop := fun o k => inL [] o k
def S_X6_inPits (v0 : Nat) : Nat → Nat → Prop := fun o k => inL [] o k
def S_X6_filled (v0 : Nat) (v1 : Int32) : Nat → Nat → Prop := fun o k => inL [] o k
def S_X6_inRow (v0 : Nat) (v1 : Int32) (v2 : Int32) : Nat → Nat → Prop := fun o k => inL [] o k
def S_X7_halfOf (v1 : Int32) : Nat → Nat → Prop := fun o k => inL [] o k
def S_X7_indexOf (v1 : Int32) (v2 : Int32) (v3 : Int32) : Nat → Nat → Prop := fun o k => inL [] o k
def S_X7_indexAt (v1 : Nat) (v2 : Int32) : Nat → Nat → Prop := fun o k => inL [] o k
def S_X7_readMove (v1 : Int32) (v2 : Int32) (v3 : Int32) : Nat → Nat → Prop := fun o k => inL [(18, 18, 9999), (20, 20, 9999), (21, 21, 9999)] o k
def S_X7_weighAll (v1 : Int32) (v2 : Int32) : Nat → Nat → Prop := fun o k => inL [(19, 19, 9999)] o k
def S_X7_settleAll (v1 : Int32) (v2 : Int32) (v3 : Int32) : Nat → Nat → Prop := fun o k => inL [(16, 16, 9999), (17, 17, 9999)] o k
def S_X7_valueAt (v1 : Nat) : Nat → Nat → Prop := fun o k => inL [] o k
def S_X7_rankOf (v1 : Int32) : Nat → Nat → Prop := fun o k => inL [] o k
def S_X7_markOf (v1 : Nat) : Nat → Nat → Prop := fun o k => inL [] o k
def S_X7_isOfKind (v1 : Int32) (v2 : Int32) : Nat → Nat → Prop := fun o k => inL [] o k
def S_X7_measure (v1 : Int32) (v2 : Int32) : Nat → Nat → Prop := fun o k => inL [] o k
def S_X7_worthOfTried (v1 : Nat) (v2 : Int32) : Nat → Nat → Prop := fun o k => inL [(15, 15, 8)] o k
def S_X8_isOwn (v1 : Nat) (v2 : Int64) : Nat → Nat → Prop := fun o k => inL [] o k
def S_X8_scatter (v1 : Nat) (v2 : Int32) : Nat → Nat → Prop := fun o k => inL [] o k ∨ (o = v1 + 1)
def S_X8_takeOpposite (v1 : Nat) : Nat → Nat → Prop := fun o k => inL [] o k ∨ (o = v1 + 1)
def S_X8_takeGrand (v1 : Nat) : Nat → Nat → Prop := fun o k => inL [] o k ∨ (o = v1 + 1)
def S_X9_lay (v0 : Nat) (v1 : Int32) (v2 : Int32) : Nat → Nat → Prop := fun o k => inL [] o k ∨ (o = v0 ∧ k = 1) ∨ (o = v0 ∧ k = 2) ∨ (o = v0 + 1)
def S_X9_cut (v0 : Nat) (v1 : Int64) : Nat → Nat → Prop := fun o k => inL [] o k
def S_X10_begin (v1 : Nat) : Nat → Nat → Prop := fun o k => inL [(22, 22, 2), (22, 22, 3), (153, 153, 1), (154, 154, 9999)] o k
def S_X10_isMarkedAgain : Nat → Nat → Prop := fun o k => inL [] o k
def S_X11_feed (v1 : Int32) (v2 : Int32) (v3 : Int32) (v4 : Int32) (v5 : Int32) : Nat → Nat → Prop := fun o k => inL [(12, 12, 4), (14, 14, 9999)] o k
def S_X11_fault (v1 : Int32) : Nat → Nat → Prop := fun o k => inL [] o k
def S_X11_mover : Nat → Nat → Prop := fun o k => inL [] o k
def S_X11_place : Nat → Nat → Prop := fun o k => inL [] o k
def S_X11_has (v0 : Int32) (v1 : Int32) : Nat → Nat → Prop := fun o k => inL [] o k
def S_X11_needSide (v0 : Int32) : Nat → Nat → Prop := fun o k => inL [] o k
def S_X11_needSeeds (v0 : Int32) : Nat → Nat → Prop := fun o k => inL [] o k
def S_X11_needPosition (v0 : Int32) (v1 : Int32) : Nat → Nat → Prop := fun o k => inL [] o k
def S_X11_anyTray (v1 : Int32) : Nat → Nat → Prop := fun o k => inL [] o k
def S_X11_laidTray (v1 : Int32) : Nat → Nat → Prop := fun o k => inL [] o k
def S_X11_anyImage (v1 : Int32) : Nat → Nat → Prop := fun o k => inL [] o k
def S_X11_seedsOrLacking (v1 : Nat) (v2 : Int32) : Nat → Nat → Prop := fun o k => inL [] o k
def S_X12_thrown : Nat → Nat → Prop := fun o k => inL [] o k
def S_X12_fails (v1 : Int32) : Nat → Nat → Prop := fun o k => inL [(171, 171, 5)] o k
def S_X12_within (v0 : Int64) (v2 : Int64) (v4 : Int64) : Nat → Nat → Prop := fun o k => inL [] o k
def S_X12_copies (v0 : Nat) (v1 : Nat) : Nat → Nat → Prop := fun o k => inL [] o k ∨ (o = v1)
def S_X12_feed (v1 : Int32) (v2 : Int32) (v3 : Int32) (v4 : Int32) (v5 : Int32) : Nat → Nat → Prop := fun o k => inL [(171, 171, 5), (171, 171, 7), (177, 177, 9999)] o k
def S_X12_see (v1 : Int32) : Nat → Nat → Prop := fun o k => inL [] o k
def S_X12_isLetter (v0 : Int32) : Nat → Nat → Prop := fun o k => inL [] o k
def S_X12_isDigit (v0 : Int32) : Nat → Nat → Prop := fun o k => inL [] o k
def S_X12_reads : Nat → Nat → Prop := fun o k => inL [(171, 171, 9), (171, 171, 10), (171, 171, 11), (171, 171, 12)] o k
def S_X12_blames (v1 : Int32) : Nat → Nat → Prop := fun o k => inL [(171, 171, 13), (171, 171, 14)] o k
def S_X12_isWord (v1 : Nat) : Nat → Nat → Prop := fun o k => inL [] o k
def S_X12_took (v1 : Nat) : Nat → Nat → Prop := fun o k => inL [(171, 171, 9), (171, 171, 10), (171, 171, 11), (171, 171, 12)] o k
def S_X12_number (v1 : Int32) (v2 : Int32) : Nat → Nat → Prop := fun o k => inL [(171, 171, 9), (171, 171, 10), (171, 171, 11), (171, 171, 12), (171, 171, 13), (171, 171, 14)] o k
def S_X12_readLay : Nat → Nat → Prop := fun o k => inL [(171, 171, 9), (171, 171, 10), (171, 171, 11), (171, 171, 12), (171, 171, 13), (171, 171, 14), (173, 173, 9999)] o k
def S_X12_readTake : Nat → Nat → Prop := fun o k => inL [(171, 171, 9), (171, 171, 10), (171, 171, 11), (171, 171, 12), (171, 171, 13), (171, 171, 14), (173, 173, 9999)] o k
def S_X12_readStored : Nat → Nat → Prop := fun o k => inL [(171, 171, 9), (171, 171, 10), (171, 171, 11), (171, 171, 12), (171, 171, 13), (171, 171, 14), (173, 173, 9999)] o k
def S_X12_lacks (v1 : Int32) : Nat → Nat → Prop := fun o k => inL [(173, 173, 9999)] o k
def S_X12_isWrong : Nat → Nat → Prop := fun o k => inL [] o k
def S_X12_fault (v1 : Int32) : Nat → Nat → Prop := fun o k => inL [(171, 171, 5)] o k
def S_X12_pitMany : Nat → Nat → Prop := fun o k => inL [] o k
def S_X12_isPit (v1 : Int32) : Nat → Nat → Prop := fun o k => inL [] o k
def S_X12_isLacking (v1 : Int32) : Nat → Nat → Prop := fun o k => inL [] o k
def S_X12_sideOf (v1 : Int32) : Nat → Nat → Prop := fun o k => inL [] o k
def S_X12_pit (v1 : Int32) : Nat → Nat → Prop := fun o k => inL [(171, 171, 5)] o k
def S_X12_isSide (v0 : Int32) : Nat → Nat → Prop := fun o k => inL [] o k
def S_X12_store (v1 : Int32) : Nat → Nat → Prop := fun o k => inL [(171, 171, 5)] o k
def S_X12_mover : Nat → Nat → Prop := fun o k => inL [(171, 171, 5)] o k
def S_X12_takesUp : Nat → Nat → Prop := fun o k => inL [(178, 178, 9999)] o k
def S_X12_next (v1 : Int32) (v2 : Int32) (v3 : Int32) : Nat → Nat → Prop := fun o k => inL [] o k
def S_X12_sum (v1 : Int32) : Nat → Nat → Prop := fun o k => inL [] o k
def S_X12_ahead (v1 : Int32) : Nat → Nat → Prop := fun o k => inL [] o k
def S_X12_isFull (v1 : Int32) : Nat → Nat → Prop := fun o k => inL [] o k
def S_X12_puts (v0 : Nat) (v1 : Int32) (v2 : Nat) : Nat → Nat → Prop := fun o k => inL [] o k ∨ (o = v0)
def S_X12_gets (v0 : Nat) (v1 : Int32) (v2 : Nat) : Nat → Nat → Prop := fun o k => inL [] o k ∨ (o = v2)
def S_X12_keeps (v1 : Int32) : Nat → Nat → Prop := fun o k => inL [(171, 171, 28), (179, 179, 9999), (180, 180, 9999)] o k
def S_X12_undo : Nat → Nat → Prop := fun o k => inL [(171, 171, 5), (171, 171, 28), (171, 171, 29), (172, 172, 9999), (181, 181, 9999), (182, 182, 9999)] o k
def S_X12_redo : Nat → Nat → Prop := fun o k => inL [(171, 171, 5), (171, 171, 28), (171, 171, 29), (172, 172, 9999), (179, 179, 9999), (180, 180, 9999)] o k
def S_X12_sees (v1 : Int32) : Nat → Nat → Prop := fun o k => inL [(171, 171, 31), (183, 183, 9999)] o k
def S_X12_ways (v0 : Int32) (v1 : Int32) : Nat → Nat → Prop := fun o k => inL [] o k
def S_X12_positionsOf (v1 : Int32) : Nat → Nat → Prop := fun o k => inL [(171, 171, 31), (183, 183, 9999)] o k
def S_X12_numberOf (v1 : Int32) : Nat → Nat → Prop := fun o k => inL [(171, 171, 31), (183, 183, 9999)] o k
def S_X12_lays (v1 : Int32) (v2 : Int32) (v3 : Int32) : Nat → Nat → Prop := fun o k => inL [(171, 171, 31), (178, 178, 9999), (183, 183, 9999)] o k
def S_X12_seedsNow : Nat → Nat → Prop := fun o k => inL [] o k
def S_X12_positions (v1 : Int32) (v2 : Int32) : Nat → Nat → Prop := fun o k => inL [(171, 171, 5), (171, 171, 31), (183, 183, 9999)] o k
def S_X12_place : Nat → Nat → Prop := fun o k => inL [(171, 171, 5), (171, 171, 31), (178, 178, 9999), (183, 183, 9999)] o k
def S_X12_ofPlace (v1 : Int32) (v2 : Int32) (v3 : Int32) (v4 : Int32) : Nat → Nat → Prop := fun o k => inL [(171, 171, 5), (171, 171, 31), (178, 178, 9999), (183, 183, 9999)] o k
def S_X12_areRules : Nat → Nat → Prop := fun o k => inL [] o k
def S_X12_seat (v1 : Int32) (v2 : Int32) (v3 : Int32) : Nat → Nat → Prop := fun o k => inL [] o k
def S_X12_worthOf (v1 : Int32) (v2 : Int32) (v3 : Nat) : Nat → Nat → Prop := fun o k => inL [] o k
def S_X12_ownLess (v1 : Int32) (v2 : Int32) (v3 : Int32) : Nat → Nat → Prop := fun o k => inL [(171, 171, 31), (178, 178, 9999), (183, 183, 9999)] o k
def S_X12_betters (v1 : Int32) (v2 : Int32) (v3 : Int32) : Nat → Nat → Prop := fun o k => inL [(184, 184, 9999), (185, 185, 9999)] o k
def S_X12_seatNow : Nat → Nat → Prop := fun o k => inL [(171, 171, 31), (178, 178, 9999), (183, 183, 9999)] o k
def S_X12_bestAt (v1 : Int32) : Nat → Nat → Prop := fun o k => inL [] o k
def S_X12_bestNow : Nat → Nat → Prop := fun o k => inL [(171, 171, 31), (178, 178, 9999), (183, 183, 9999)] o k
def S_X12_canAt (v1 : Int32) (v2 : Int32) : Nat → Nat → Prop := fun o k => inL [] o k
def S_X12_isBoard (v1 : Int32) : Nat → Nat → Prop := fun o k => inL [] o k
def S_X12_draw (v1 : Int32) : Nat → Nat → Prop := fun o k => inL [(171, 171, 49)] o k
def S_X12_isTray (v0 : Int32) : Nat → Nat → Prop := fun o k => inL [] o k
def S_X12_tray (v1 : Int32) (v2 : Int32) (v3 : Int32) : Nat → Nat → Prop := fun o k => inL [(171, 171, 5), (198, 198, 9999), (199, 199, 9999), (200, 200, 9999)] o k
def S_X12_cut (v1 : Int32) (v2 : Int32) (v3 : Int64) : Nat → Nat → Prop := fun o k => inL [(200, 200, 9999)] o k
def S_X12_image (v1 : Int32) : Nat → Nat → Prop := fun o k => inL [(171, 171, 5), (174, 174, 9999), (176, 176, 9999)] o k
def S_X12_restore (v1 : Int32) : Nat → Nat → Prop := fun o k => inL [(171, 171, 5), (171, 171, 28), (171, 171, 29), (172, 172, 9999)] o k
def S_X12_count (v1 : Int32) : Nat → Nat → Prop := fun o k => inL [(171, 171, 5)] o k
def S_J6_bitCount_0f7a4 (v0 : Int32) : Nat → Nat → Prop := fun o k => inL [] o k
def S_X0_note (v1 : Nat) : Nat → Nat → Prop := fun o k => inL [(25, 25, 11), (28, 28, 9999), (29, 29, 9999), (30, 30, 9999)] o k
def S_X1_cellOnWay (v1 : Int32) (v2 : Int32) : Nat → Nat → Prop := fun o k => inL [] o k
def S_X1_listSeen (v1 : Int32) : Nat → Nat → Prop := fun o k => inL [(2, 2, 1), (2, 2, 2), (4, 4, 9999)] o k
def S_X1_lay (v1 : Nat) (v2 : Int32) (v3 : Int32) (v4 : Int32) : Nat → Nat → Prop := fun o k => inL [] o k ∨ (o = v1 ∧ k = 1) ∨ (o = v1 + 1)
def S_X3_keep (v1 : Nat) (v2 : Int32) : Nat → Nat → Prop := fun o k => inL [(9, 9, 0), (9, 9, 1), (9, 9, 2), (10, 10, 9999), (69, 148, 1), (69, 148, 9999)] o k
def S_X3_back (v1 : Nat) : Nat → Nat → Prop := fun o k => inL [(9, 9, 0), (9, 9, 1)] o k ∨ (o = v1 ∧ k = 1) ∨ (o = v1 + 1)
def S_X4_isSound : Nat → Nat → Prop := fun o k => inL [] o k
def S_X4_stepNumber : Nat → Nat → Prop := fun o k => inL [(12, 12, 2), (12, 12, 3), (12, 12, 7), (12, 12, 9), (12, 12, 10)] o k
def S_X4_stepWord : Nat → Nat → Prop := fun o k => inL [(12, 12, 7), (12, 12, 9)] o k
def S_X7_weighLevel (v1 : Int32) : Nat → Nat → Prop := fun o k => inL [(16, 16, 9999), (17, 17, 9999), (19, 19, 9999)] o k
def S_X7_rankAt (v1 : Nat) : Nat → Nat → Prop := fun o k => inL [] o k
def S_X8_sow (v1 : Nat) (v2 : Int32) : Nat → Nat → Prop := fun o k => inL [(6, 6, 0), (6, 6, 1), (6, 6, 2), (6, 6, 3)] o k ∨ (o = v1 ∧ k = 1) ∨ (o = v1 + 1)
def S_X8_tryAll (v1 : Nat) : Nat → Nat → Prop := fun o k => inL [(6, 6, 0), (6, 6, 1), (6, 6, 2), (6, 6, 3), (8, 8, 9999), (57, 68, 1), (57, 68, 9999)] o k
def S_X8_isLong (v1 : Nat) (v2 : Int32) : Nat → Nat → Prop := fun o k => inL [(6, 6, 0), (6, 6, 1), (6, 6, 2), (6, 6, 3), (57, 68, 1), (57, 68, 9999)] o k
def S_X8_isOver (v1 : Nat) : Nat → Nat → Prop := fun o k => inL [(6, 6, 0), (6, 6, 1), (6, 6, 2), (6, 6, 3), (57, 68, 1), (57, 68, 9999)] o k
def S_X8_scoreOf (v1 : Nat) : Nat → Nat → Prop := fun o k => inL [(6, 6, 0), (6, 6, 1), (6, 6, 2), (6, 6, 3), (57, 68, 1), (57, 68, 9999)] o k
def S_X10_go (v1 : Int32) : Nat → Nat → Prop := fun o k => inL [(6, 6, 0), (6, 6, 1), (6, 6, 2), (6, 6, 3), (22, 22, 2), (23, 23, 9999), (153, 153, 1), (154, 154, 9999)] o k
def S_X10_pick (v0 : Int32) (v1 : Int32) : Nat → Nat → Prop := fun o k => inL [] o k
def S_X11_pit (v1 : Int32) : Nat → Nat → Prop := fun o k => inL [] o k
def S_X11_store (v1 : Int32) : Nat → Nat → Prop := fun o k => inL [] o k
def S_X11_sown (v1 : Int32) (v2 : Int32) : Nat → Nat → Prop := fun o k => inL [(6, 6, 0), (6, 6, 1), (6, 6, 2), (6, 6, 3), (55, 55, 1), (56, 56, 9999)] o k
def S_X11_undo : Nat → Nat → Prop := fun o k => inL [(9, 9, 0), (9, 9, 1), (53, 53, 1), (54, 54, 9999)] o k
def S_X11_redo : Nat → Nat → Prop := fun o k => inL [(6, 6, 0), (6, 6, 1), (6, 6, 2), (6, 6, 3), (9, 9, 0), (9, 9, 1), (53, 53, 1), (54, 54, 9999)] o k
def S_X11_over : Nat → Nat → Prop := fun o k => inL [(6, 6, 0), (6, 6, 1), (6, 6, 2), (6, 6, 3), (57, 68, 1), (57, 68, 9999)] o k
def S_X11_score : Nat → Nat → Prop := fun o k => inL [(6, 6, 0), (6, 6, 1), (6, 6, 2), (6, 6, 3), (57, 68, 1), (57, 68, 9999)] o k
def S_X11_positions (v1 : Int32) (v2 : Int32) : Nat → Nat → Prop := fun o k => inL [] o k
def S_X11_ofPlace (v1 : Int32) (v2 : Int32) (v3 : Int32) (v4 : Int32) : Nat → Nat → Prop := fun o k => inL [(55, 55, 1), (56, 56, 9999)] o k
def S_X11_tray (v1 : Int32) (v2 : Int32) (v3 : Int32) : Nat → Nat → Prop := fun o k => inL [(33, 52, 1), (33, 52, 2), (33, 52, 9999)] o k
def S_X11_write (v1 : Int32) (v2 : Int32) (v3 : Int64) : Nat → Nat → Prop := fun o k => inL [(33, 52, 9999)] o k
def S_X11_pour (v1 : Int32) : Nat → Nat → Prop := fun o k => inL [(0, 170, 9999)] o k
def S_X11_image (v1 : Int32) : Nat → Nat → Prop := fun o k => inL [(33, 52, 0), (33, 52, 1), (33, 52, 2), (33, 52, 3), (33, 52, 4), (33, 52, 5), (33, 52, 6), (33, 52, 7), (33, 52, 8), (33, 52, 9999)] o k
def S_X11_count (v1 : Int32) : Nat → Nat → Prop := fun o k => inL [] o k
def S_X11_isNotable (v1 : Int32) (v2 : Int32) : Nat → Nat → Prop := fun o k => inL [(6, 6, 0), (6, 6, 1), (6, 6, 2), (6, 6, 3), (55, 55, 1), (56, 56, 9999)] o k
def S_X11_toldOfPlay (v1 : Int32) : Nat → Nat → Prop := fun o k => inL [(6, 6, 0), (6, 6, 1), (6, 6, 2), (6, 6, 3), (57, 68, 1), (57, 68, 9999)] o k
def S_X12_readLine (v1 : Int32) : Nat → Nat → Prop := fun o k => inL [(171, 171, 9), (171, 171, 10), (171, 171, 11), (171, 171, 12), (171, 171, 13), (171, 171, 14), (173, 173, 9999)] o k
def S_X12_board (v1 : Int32) : Nat → Nat → Prop := fun o k => inL [(171, 171, 5), (171, 171, 7), (171, 171, 8), (171, 171, 9), (171, 171, 10), (171, 171, 11), (171, 171, 12), (171, 171, 13), (171, 171, 14), (171, 171, 15), (171, 171, 16), (171, 171, 28), (171, 171, 29), (172, 172, 9999), (173, 173, 9999)] o k
def S_X12_takes (v1 : Int32) (v2 : Int32) : Nat → Nat → Prop := fun o k => inL [(171, 171, 20), (178, 178, 9999)] o k
def S_X12_trayFault (v1 : Int32) : Nat → Nat → Prop := fun o k => inL [] o k
def S_X12_settles (v1 : Int32) : Nat → Nat → Prop := fun o k => inL [(171, 171, 31), (178, 178, 9999), (183, 183, 9999), (184, 184, 9999), (185, 185, 9999), (186, 186, 9999)] o k
def S_X12_write (v1 : Int32) (v2 : Int32) (v3 : Int64) : Nat → Nat → Prop := fun o k => inL [(171, 171, 5), (200, 200, 9999)] o k
def S_X12_pour (v1 : Int32) : Nat → Nat → Prop := fun o k => inL [(171, 171, 5), (200, 200, 9999)] o k
def S_X0_goDown (v1 : Int32) (v2 : Int32) : Nat → Nat → Prop := fun o k => inL [(6, 6, 0), (6, 6, 1), (6, 6, 2), (6, 6, 3), (155, 168, 1), (155, 168, 9999)] o k
def S_X1_linkWay (v1 : Int32) : Nat → Nat → Prop := fun o k => inL [(3, 3, 9999)] o k
def S_X4_step : Nat → Nat → Prop := fun o k => inL [(12, 12, 2), (12, 12, 3), (12, 12, 7), (12, 12, 8), (12, 12, 9), (12, 12, 10)] o k
def S_X7_readPosition (v1 : Int32) (v2 : Int32) (v3 : Int32) : Nat → Nat → Prop := fun o k => inL [(6, 6, 0), (6, 6, 1), (6, 6, 2), (6, 6, 3), (8, 8, 9999), (16, 16, 9999), (17, 17, 9999), (18, 18, 9999), (20, 20, 9999), (21, 21, 9999), (57, 68, 1), (57, 68, 9999), (151, 151, 1), (152, 152, 9999)] o k
def S_X7_worthBy (v1 : Nat) (v2 : Int32) : Nat → Nat → Prop := fun o k => inL [(6, 6, 0), (6, 6, 1), (6, 6, 2), (6, 6, 3), (8, 8, 9999), (15, 15, 8), (57, 68, 1), (57, 68, 9999)] o k
def S_X7_bestAt (v1 : Nat) : Nat → Nat → Prop := fun o k => inL [(6, 6, 0), (6, 6, 1), (6, 6, 2), (6, 6, 3), (8, 8, 9999), (15, 15, 8), (57, 68, 1), (57, 68, 9999)] o k
def S_X7_manyBest (v1 : Nat) : Nat → Nat → Prop := fun o k => inL [(6, 6, 0), (6, 6, 1), (6, 6, 2), (6, 6, 3), (8, 8, 9999), (15, 15, 8), (57, 68, 1), (57, 68, 9999)] o k
def S_X8_choices (v1 : Nat) : Nat → Nat → Prop := fun o k => inL [(6, 6, 0), (6, 6, 1), (6, 6, 2), (6, 6, 3), (8, 8, 9999), (57, 68, 1), (57, 68, 9999)] o k
def S_X8_reason (v1 : Nat) (v2 : Int64) : Nat → Nat → Prop := fun o k => inL [(6, 6, 0), (6, 6, 1), (6, 6, 2), (6, 6, 3), (8, 8, 9999), (57, 68, 1), (57, 68, 9999)] o k
def S_X10_goByBest (v1 : Nat) : Nat → Nat → Prop := fun o k => inL [(6, 6, 0), (6, 6, 1), (6, 6, 2), (6, 6, 3), (8, 8, 9999), (15, 15, 8), (22, 22, 2), (22, 22, 3), (23, 23, 9999), (24, 24, 9999), (57, 68, 1), (57, 68, 9999), (153, 153, 1), (154, 154, 9999)] o k
def S_X10_goWhileForced (v1 : Nat) : Nat → Nat → Prop := fun o k => inL [(6, 6, 0), (6, 6, 1), (6, 6, 2), (6, 6, 3), (8, 8, 9999), (22, 22, 2), (22, 22, 3), (23, 23, 9999), (57, 68, 1), (57, 68, 9999), (153, 153, 1), (154, 154, 9999)] o k
def S_X10_goByDraws (v1 : Nat) (v2 : Int32) (v3 : Int32) : Nat → Nat → Prop := fun o k => inL [(6, 6, 0), (6, 6, 1), (6, 6, 2), (6, 6, 3), (8, 8, 9999), (15, 15, 8), (22, 22, 2), (22, 22, 3), (23, 23, 9999), (57, 68, 1), (57, 68, 9999), (153, 153, 1), (154, 154, 9999)] o k
def S_X11_may (v1 : Int32) : Nat → Nat → Prop := fun o k => inL [(6, 6, 0), (6, 6, 1), (6, 6, 2), (6, 6, 3), (8, 8, 9999), (57, 68, 1), (57, 68, 9999)] o k
def S_X11_move (v1 : Int32) : Nat → Nat → Prop := fun o k => inL [(6, 6, 0), (6, 6, 1), (6, 6, 2), (6, 6, 3), (8, 8, 9999), (9, 9, 0), (9, 9, 1), (9, 9, 2), (10, 10, 9999), (53, 53, 1), (54, 54, 9999), (57, 68, 1), (57, 68, 9999), (69, 148, 1), (69, 148, 9999)] o k
def S_X11_judge (v1 : Int32) (v2 : Int32) : Nat → Nat → Prop := fun o k => inL [(6, 6, 0), (6, 6, 1), (6, 6, 2), (6, 6, 3), (8, 8, 9999), (55, 55, 1), (56, 56, 9999), (57, 68, 1), (57, 68, 9999)] o k
def S_X11_perform (v1 : Int32) : Nat → Nat → Prop := fun o k => inL [(6, 6, 0), (6, 6, 1), (6, 6, 2), (6, 6, 3), (8, 8, 9999), (9, 9, 0), (9, 9, 1), (9, 9, 2), (10, 10, 9999), (53, 53, 1), (54, 54, 9999), (57, 68, 1), (57, 68, 9999), (69, 148, 1), (69, 148, 9999)] o k
def S_X11_pits (v1 : Int32) : Nat → Nat → Prop := fun o k => inL [(6, 6, 0), (6, 6, 1), (6, 6, 2), (6, 6, 3), (8, 8, 9999), (55, 55, 1), (56, 56, 9999), (57, 68, 1), (57, 68, 9999)] o k
def S_X11_forced : Nat → Nat → Prop := fun o k => inL [(6, 6, 0), (6, 6, 1), (6, 6, 2), (6, 6, 3), (8, 8, 9999), (22, 22, 2), (22, 22, 3), (23, 23, 9999), (57, 68, 1), (57, 68, 9999), (153, 153, 1), (154, 154, 9999)] o k
def S_X11_play (v1 : Int32) (v2 : Int32) : Nat → Nat → Prop := fun o k => inL [(6, 6, 0), (6, 6, 1), (6, 6, 2), (6, 6, 3), (8, 8, 9999), (15, 15, 8), (22, 22, 2), (22, 22, 3), (23, 23, 9999), (57, 68, 1), (57, 68, 9999), (153, 153, 1), (154, 154, 9999)] o k
def S_X12_sows (v1 : Int32) (v2 : Int32) : Nat → Nat → Prop := fun o k => inL [(171, 171, 18), (171, 171, 19), (171, 171, 20), (171, 171, 21), (171, 171, 22), (171, 171, 23), (178, 178, 9999)] o k
def S_X12_triesFrom (v1 : Int32) : Nat → Nat → Prop := fun o k => inL [(171, 171, 18), (171, 171, 19), (171, 171, 20), (171, 171, 21), (171, 171, 22), (171, 171, 23), (178, 178, 9999)] o k
def S_X12_isOver : Nat → Nat → Prop := fun o k => inL [(171, 171, 18), (171, 171, 19), (171, 171, 20), (171, 171, 21), (171, 171, 22), (171, 171, 23), (178, 178, 9999)] o k
def S_X12_canFeed : Nat → Nat → Prop := fun o k => inL [(171, 171, 18), (171, 171, 19), (171, 171, 20), (171, 171, 21), (171, 171, 22), (171, 171, 23), (178, 178, 9999)] o k
def S_X12_whyNot (v1 : Int32) : Nat → Nat → Prop := fun o k => inL [(171, 171, 18), (171, 171, 19), (171, 171, 20), (171, 171, 21), (171, 171, 22), (171, 171, 23), (178, 178, 9999)] o k
def S_X12_moves (v1 : Int32) : Nat → Nat → Prop := fun o k => inL [(171, 171, 18), (171, 171, 19), (171, 171, 20), (171, 171, 21), (171, 171, 22), (171, 171, 23), (172, 172, 9999), (178, 178, 9999)] o k
def S_X12_may (v1 : Int32) : Nat → Nat → Prop := fun o k => inL [(171, 171, 5), (171, 171, 18), (171, 171, 19), (171, 171, 20), (171, 171, 21), (171, 171, 22), (171, 171, 23), (178, 178, 9999)] o k
def S_X12_sown (v1 : Int32) (v2 : Int32) : Nat → Nat → Prop := fun o k => inL [(171, 171, 5), (171, 171, 18), (171, 171, 19), (171, 171, 20), (171, 171, 21), (171, 171, 22), (171, 171, 23), (178, 178, 9999)] o k
def S_X12_over : Nat → Nat → Prop := fun o k => inL [(171, 171, 5), (171, 171, 18), (171, 171, 19), (171, 171, 20), (171, 171, 21), (171, 171, 22), (171, 171, 23), (178, 178, 9999)] o k
def S_X12_scoreNow : Nat → Nat → Prop := fun o k => inL [(171, 171, 18), (171, 171, 19), (171, 171, 20), (171, 171, 21), (171, 171, 22), (171, 171, 23), (178, 178, 9999)] o k
def S_X12_score : Nat → Nat → Prop := fun o k => inL [(171, 171, 5), (171, 171, 18), (171, 171, 19), (171, 171, 20), (171, 171, 21), (171, 171, 22), (171, 171, 23), (178, 178, 9999)] o k
def S_X12_does (v1 : Int32) : Nat → Nat → Prop := fun o k => inL [(171, 171, 18), (171, 171, 19), (171, 171, 20), (171, 171, 21), (171, 171, 22), (171, 171, 23), (171, 171, 28), (171, 171, 29), (172, 172, 9999), (178, 178, 9999), (179, 179, 9999), (180, 180, 9999)] o k
def S_X12_move (v1 : Int32) : Nat → Nat → Prop := fun o k => inL [(171, 171, 5), (171, 171, 18), (171, 171, 19), (171, 171, 20), (171, 171, 21), (171, 171, 22), (171, 171, 23), (171, 171, 28), (171, 171, 29), (172, 172, 9999), (178, 178, 9999), (179, 179, 9999), (180, 180, 9999)] o k
def S_X12_whyTold (v1 : Int64) : Nat → Nat → Prop := fun o k => inL [(171, 171, 18), (171, 171, 19), (171, 171, 20), (171, 171, 21), (171, 171, 22), (171, 171, 23), (178, 178, 9999)] o k
def S_X12_judge (v1 : Int32) (v2 : Int32) : Nat → Nat → Prop := fun o k => inL [(171, 171, 5), (171, 171, 18), (171, 171, 19), (171, 171, 20), (171, 171, 21), (171, 171, 22), (171, 171, 23), (172, 172, 9999), (175, 175, 9999), (178, 178, 9999)] o k
def S_X12_perform (v1 : Int32) : Nat → Nat → Prop := fun o k => inL [(171, 171, 5), (171, 171, 18), (171, 171, 19), (171, 171, 20), (171, 171, 21), (171, 171, 22), (171, 171, 23), (171, 171, 28), (171, 171, 29), (172, 172, 9999), (178, 178, 9999), (179, 179, 9999), (180, 180, 9999)] o k
def S_X12_laysMove (v1 : Int32) (v2 : Int32) (v3 : Int32) (v4 : Int32) : Nat → Nat → Prop := fun o k => inL [(171, 171, 18), (171, 171, 19), (171, 171, 20), (171, 171, 21), (171, 171, 22), (171, 171, 23), (171, 171, 31), (178, 178, 9999), (183, 183, 9999), (187, 187, 9999), (188, 188, 9999)] o k
def S_X12_goesOn : Nat → Nat → Prop := fun o k => inL [(171, 171, 18), (171, 171, 19), (171, 171, 20), (171, 171, 21), (171, 171, 22), (171, 171, 23), (171, 171, 31), (171, 171, 44), (172, 172, 9999), (178, 178, 9999), (183, 183, 9999), (193, 193, 9999), (194, 194, 9999)] o k
def S_X12_playsOf (v1 : Int32) : Nat → Nat → Prop := fun o k => inL [(171, 171, 18), (171, 171, 19), (171, 171, 20), (171, 171, 21), (171, 171, 22), (171, 171, 23), (172, 172, 9999), (178, 178, 9999), (195, 195, 9999)] o k
def S_X12_plays (v1 : Int32) : Nat → Nat → Prop := fun o k => inL [(171, 171, 5), (171, 171, 18), (171, 171, 19), (171, 171, 20), (171, 171, 21), (171, 171, 22), (171, 171, 23), (172, 172, 9999), (178, 178, 9999), (195, 195, 9999)] o k
def S_X12_reaches (v1 : Int32) : Nat → Nat → Prop := fun o k => inL [(171, 171, 18), (171, 171, 19), (171, 171, 20), (171, 171, 21), (171, 171, 22), (171, 171, 23), (171, 171, 47), (172, 172, 9999), (178, 178, 9999), (195, 195, 9999), (196, 196, 9999)] o k
def S_X12_reached (v1 : Int32) : Nat → Nat → Prop := fun o k => inL [(171, 171, 5), (171, 171, 18), (171, 171, 19), (171, 171, 20), (171, 171, 21), (171, 171, 22), (171, 171, 23), (171, 171, 47), (172, 172, 9999), (178, 178, 9999), (195, 195, 9999), (196, 196, 9999)] o k
def S_X12_ends (v1 : Int32) : Nat → Nat → Prop := fun o k => inL [(171, 171, 18), (171, 171, 19), (171, 171, 20), (171, 171, 21), (171, 171, 22), (171, 171, 23), (172, 172, 9999), (178, 178, 9999), (195, 195, 9999), (197, 197, 9999)] o k
def S_X12_soonest (v1 : Int32) : Nat → Nat → Prop := fun o k => inL [(171, 171, 5), (171, 171, 18), (171, 171, 19), (171, 171, 20), (171, 171, 21), (171, 171, 22), (171, 171, 23), (172, 172, 9999), (178, 178, 9999), (195, 195, 9999), (197, 197, 9999)] o k
def S_X12_pits (v1 : Int32) : Nat → Nat → Prop := fun o k => inL [(171, 171, 5), (171, 171, 18), (171, 171, 19), (171, 171, 20), (171, 171, 21), (171, 171, 22), (171, 171, 23), (178, 178, 9999)] o k
def S_X12_only : Nat → Nat → Prop := fun o k => inL [(171, 171, 18), (171, 171, 19), (171, 171, 20), (171, 171, 21), (171, 171, 22), (171, 171, 23), (178, 178, 9999)] o k
def S_X12_drawn : Nat → Nat → Prop := fun o k => inL [(171, 171, 18), (171, 171, 19), (171, 171, 20), (171, 171, 21), (171, 171, 22), (171, 171, 23), (171, 171, 49), (178, 178, 9999)] o k
def S_X12_playOf (v1 : Int32) (v2 : Int32) (v3 : Int32) : Nat → Nat → Prop := fun o k => inL [(171, 171, 18), (171, 171, 19), (171, 171, 20), (171, 171, 21), (171, 171, 22), (171, 171, 23), (171, 171, 31), (171, 171, 49), (171, 171, 50), (172, 172, 9999), (175, 175, 9999), (178, 178, 9999), (183, 183, 9999)] o k
def S_X12_play (v1 : Int32) (v2 : Int32) : Nat → Nat → Prop := fun o k => inL [(171, 171, 5), (171, 171, 18), (171, 171, 19), (171, 171, 20), (171, 171, 21), (171, 171, 22), (171, 171, 23), (171, 171, 31), (171, 171, 49), (171, 171, 50), (172, 172, 9999), (175, 175, 9999), (178, 178, 9999), (183, 183, 9999)] o k
def S_X0_countRows (v1 : Int32) (v2 : Int32) : Nat → Nat → Prop := fun o k => inL [(6, 6, 0), (6, 6, 1), (6, 6, 2), (6, 6, 3), (8, 8, 9999), (57, 68, 1), (57, 68, 9999), (155, 168, 1), (155, 168, 9999)] o k
def S_X0_gather (v1 : Int32) (v2 : Int32) : Nat → Nat → Prop := fun o k => inL [(6, 6, 0), (6, 6, 1), (6, 6, 2), (6, 6, 3), (8, 8, 9999), (25, 25, 11), (28, 28, 9999), (29, 29, 9999), (30, 30, 9999), (57, 68, 1), (57, 68, 9999), (155, 168, 1), (155, 168, 9999)] o k
def S_X0_endsWithin (v1 : Int32) (v2 : Int32) : Nat → Nat → Prop := fun o k => inL [(6, 6, 0), (6, 6, 1), (6, 6, 2), (6, 6, 3), (8, 8, 9999), (26, 26, 9999), (57, 68, 1), (57, 68, 9999), (155, 168, 1), (155, 168, 9999)] o k
def S_X1_build : Nat → Nat → Prop := fun o k => inL [(2, 2, 1), (2, 2, 2), (2, 2, 3), (3, 3, 9999), (4, 4, 9999)] o k
def S_X4_readSeeds : Nat → Nat → Prop := fun o k => inL [(12, 12, 2), (12, 12, 3), (12, 12, 7), (12, 12, 8), (12, 12, 9), (12, 12, 10), (150, 150, 9999)] o k
def S_X4_readTake : Nat → Nat → Prop := fun o k => inL [(12, 12, 2), (12, 12, 3), (12, 12, 7), (12, 12, 8), (12, 12, 9), (12, 12, 10), (13, 13, 4)] o k
def S_X4_readFlag : Nat → Nat → Prop := fun o k => inL [(12, 12, 2), (12, 12, 3), (12, 12, 7), (12, 12, 8), (12, 12, 9), (12, 12, 10), (13, 13, 5), (13, 13, 6), (13, 13, 7), (13, 13, 8)] o k
def S_X4_readNumber (v1 : Int32) (v2 : Int32) : Nat → Nat → Prop := fun o k => inL [(12, 12, 2), (12, 12, 3), (12, 12, 7), (12, 12, 8), (12, 12, 9), (12, 12, 10)] o k
def S_X7_reach (v1 : Int32) : Nat → Nat → Prop := fun o k => inL [(6, 6, 0), (6, 6, 1), (6, 6, 2), (6, 6, 3), (8, 8, 9999), (15, 15, 6), (15, 15, 7), (16, 16, 9999), (17, 17, 9999), (18, 18, 9999), (19, 19, 9999), (20, 20, 9999), (21, 21, 9999), (57, 68, 1), (57, 68, 9999), (151, 151, 1), (152, 152, 9999)] o k
def S_X11_value : Nat → Nat → Prop := fun o k => inL [(6, 6, 0), (6, 6, 1), (6, 6, 2), (6, 6, 3), (8, 8, 9999), (15, 15, 6), (15, 15, 7), (16, 16, 9999), (17, 17, 9999), (18, 18, 9999), (19, 19, 9999), (20, 20, 9999), (21, 21, 9999), (57, 68, 1), (57, 68, 9999), (151, 151, 1), (152, 152, 9999)] o k
def S_X11_rank : Nat → Nat → Prop := fun o k => inL [(6, 6, 0), (6, 6, 1), (6, 6, 2), (6, 6, 3), (8, 8, 9999), (15, 15, 6), (15, 15, 7), (16, 16, 9999), (17, 17, 9999), (18, 18, 9999), (19, 19, 9999), (20, 20, 9999), (21, 21, 9999), (57, 68, 1), (57, 68, 9999), (151, 151, 1), (152, 152, 9999)] o k
def S_X11_best : Nat → Nat → Prop := fun o k => inL [(6, 6, 0), (6, 6, 1), (6, 6, 2), (6, 6, 3), (8, 8, 9999), (15, 15, 6), (15, 15, 7), (15, 15, 8), (16, 16, 9999), (17, 17, 9999), (18, 18, 9999), (19, 19, 9999), (20, 20, 9999), (21, 21, 9999), (57, 68, 1), (57, 68, 9999), (151, 151, 1), (152, 152, 9999)] o k
def S_X11_worth (v1 : Int32) : Nat → Nat → Prop := fun o k => inL [(6, 6, 0), (6, 6, 1), (6, 6, 2), (6, 6, 3), (8, 8, 9999), (15, 15, 6), (15, 15, 7), (15, 15, 8), (16, 16, 9999), (17, 17, 9999), (18, 18, 9999), (19, 19, 9999), (20, 20, 9999), (21, 21, 9999), (57, 68, 1), (57, 68, 9999), (151, 151, 1), (152, 152, 9999)] o k
def S_X11_swapped : Nat → Nat → Prop := fun o k => inL [(6, 6, 0), (6, 6, 1), (6, 6, 2), (6, 6, 3), (8, 8, 9999), (15, 15, 6), (15, 15, 7), (16, 16, 9999), (17, 17, 9999), (18, 18, 9999), (19, 19, 9999), (20, 20, 9999), (21, 21, 9999), (55, 55, 1), (56, 56, 9999), (57, 68, 1), (57, 68, 9999), (151, 151, 1), (152, 152, 9999)] o k
def S_X11_needSolved (v1 : Int32) : Nat → Nat → Prop := fun o k => inL [(6, 6, 0), (6, 6, 1), (6, 6, 2), (6, 6, 3), (8, 8, 9999), (15, 15, 6), (15, 15, 7), (16, 16, 9999), (17, 17, 9999), (18, 18, 9999), (19, 19, 9999), (20, 20, 9999), (21, 21, 9999), (57, 68, 1), (57, 68, 9999), (151, 151, 1), (152, 152, 9999)] o k
def S_X11_laySolved (v1 : Int32) (v2 : Int32) (v3 : Int32) : Nat → Nat → Prop := fun o k => inL [(6, 6, 0), (6, 6, 1), (6, 6, 2), (6, 6, 3), (8, 8, 9999), (15, 15, 6), (15, 15, 7), (16, 16, 9999), (17, 17, 9999), (18, 18, 9999), (19, 19, 9999), (20, 20, 9999), (21, 21, 9999), (55, 55, 1), (56, 56, 9999), (57, 68, 1), (57, 68, 9999), (151, 151, 1), (152, 152, 9999)] o k
def S_X11_settle (v1 : Nat) (v2 : Nat) : Nat → Nat → Prop := fun o k => inL [(1, 1, 0), (1, 1, 1), (1, 1, 2), (1, 1, 3), (1, 1, 4), (1, 1, 5), (1, 1, 6), (1, 1, 7), (1, 1, 8), (2, 2, 1), (2, 2, 2), (2, 2, 3), (3, 3, 9999), (4, 4, 9999), (9, 9, 0), (9, 9, 1), (53, 53, 1), (54, 54, 9999)] o k
def S_X12_laysMoves (v1 : Int32) : Nat → Nat → Prop := fun o k => inL [(171, 171, 18), (171, 171, 19), (171, 171, 20), (171, 171, 21), (171, 171, 22), (171, 171, 23), (171, 171, 31), (172, 172, 9999), (178, 178, 9999), (183, 183, 9999), (187, 187, 9999), (188, 188, 9999), (190, 190, 9999)] o k
def S_X12_forced : Nat → Nat → Prop := fun o k => inL [(171, 171, 5), (171, 171, 18), (171, 171, 19), (171, 171, 20), (171, 171, 21), (171, 171, 22), (171, 171, 23), (172, 172, 9999), (175, 175, 9999), (178, 178, 9999)] o k
def S_X0_countFrom (v1 : Nat) (v2 : Int32) : Nat → Nat → Prop := fun o k => inL [(6, 6, 0), (6, 6, 1), (6, 6, 2), (6, 6, 3), (8, 8, 9999), (57, 68, 1), (57, 68, 9999), (155, 155, 1), (155, 168, 1), (155, 168, 9999), (156, 156, 9999)] o k
def S_X0_countUnlike (v1 : Nat) (v2 : Int32) : Nat → Nat → Prop := fun o k => inL [(6, 6, 0), (6, 6, 1), (6, 6, 2), (6, 6, 3), (8, 8, 9999), (25, 25, 11), (28, 28, 9999), (29, 29, 9999), (30, 30, 9999), (57, 68, 1), (57, 68, 9999), (155, 155, 1), (155, 168, 1), (155, 168, 9999), (156, 156, 9999)] o k
def S_X0_seekEnd (v1 : Nat) : Nat → Nat → Prop := fun o k => inL [(6, 6, 0), (6, 6, 1), (6, 6, 2), (6, 6, 3), (8, 8, 9999), (25, 25, 5), (25, 25, 6), (25, 25, 7), (26, 26, 9999), (57, 68, 1), (57, 68, 9999), (155, 155, 1), (155, 168, 1), (155, 168, 9999), (156, 156, 9999), (169, 169, 1), (170, 170, 9999)] o k
def S_X4_readPerSide : Nat → Nat → Prop := fun o k => inL [(12, 12, 2), (12, 12, 3), (12, 12, 7), (12, 12, 8), (12, 12, 9), (12, 12, 10), (13, 13, 1)] o k
def S_X11_valueOf (v1 : Int32) (v2 : Int32) (v3 : Int32) : Nat → Nat → Prop := fun o k => inL [(6, 6, 0), (6, 6, 1), (6, 6, 2), (6, 6, 3), (8, 8, 9999), (15, 15, 6), (15, 15, 7), (16, 16, 9999), (17, 17, 9999), (18, 18, 9999), (19, 19, 9999), (20, 20, 9999), (21, 21, 9999), (55, 55, 1), (56, 56, 9999), (57, 68, 1), (57, 68, 9999), (151, 151, 1), (152, 152, 9999)] o k
def S_X11_tally (v1 : Int32) (v2 : Int32) (v3 : Int32) : Nat → Nat → Prop := fun o k => inL [(6, 6, 0), (6, 6, 1), (6, 6, 2), (6, 6, 3), (8, 8, 9999), (15, 15, 6), (15, 15, 7), (16, 16, 9999), (17, 17, 9999), (18, 18, 9999), (19, 19, 9999), (20, 20, 9999), (21, 21, 9999), (57, 68, 1), (57, 68, 9999), (151, 151, 1), (152, 152, 9999)] o k
def S_X11_row (v1 : Int32) (v2 : Int32) (v3 : Int32) (v4 : Int32) : Nat → Nat → Prop := fun o k => inL [(6, 6, 0), (6, 6, 1), (6, 6, 2), (6, 6, 3), (8, 8, 9999), (15, 15, 6), (15, 15, 7), (15, 15, 8), (16, 16, 9999), (17, 17, 9999), (18, 18, 9999), (19, 19, 9999), (20, 20, 9999), (21, 21, 9999), (55, 55, 1), (56, 56, 9999), (57, 68, 1), (57, 68, 9999), (151, 151, 1), (152, 152, 9999)] o k
def S_X11_find (v1 : Int32) (v2 : Int32) (v3 : Int32) (v4 : Int32) : Nat → Nat → Prop := fun o k => inL [(6, 6, 0), (6, 6, 1), (6, 6, 2), (6, 6, 3), (8, 8, 9999), (15, 15, 6), (15, 15, 7), (16, 16, 9999), (17, 17, 9999), (18, 18, 9999), (19, 19, 9999), (20, 20, 9999), (21, 21, 9999), (57, 68, 1), (57, 68, 9999), (151, 151, 1), (152, 152, 9999)] o k
def S_X11_most (v1 : Int32) (v2 : Int32) (v3 : Int32) : Nat → Nat → Prop := fun o k => inL [(6, 6, 0), (6, 6, 1), (6, 6, 2), (6, 6, 3), (8, 8, 9999), (15, 15, 6), (15, 15, 7), (16, 16, 9999), (17, 17, 9999), (18, 18, 9999), (19, 19, 9999), (20, 20, 9999), (21, 21, 9999), (57, 68, 1), (57, 68, 9999), (151, 151, 1), (152, 152, 9999)] o k
def S_X11_line (v1 : Int32) : Nat → Nat → Prop := fun o k => inL [(6, 6, 0), (6, 6, 1), (6, 6, 2), (6, 6, 3), (8, 8, 9999), (15, 15, 6), (15, 15, 7), (15, 15, 8), (16, 16, 9999), (17, 17, 9999), (18, 18, 9999), (19, 19, 9999), (20, 20, 9999), (21, 21, 9999), (22, 22, 2), (22, 22, 3), (23, 23, 9999), (24, 24, 9999), (57, 68, 1), (57, 68, 9999), (151, 151, 1), (152, 152, 9999), (153, 153, 1), (154, 154, 9999)] o k
def S_X11_plays (v1 : Int32) : Nat → Nat → Prop := fun o k => inL [(6, 6, 0), (6, 6, 1), (6, 6, 2), (6, 6, 3), (8, 8, 9999), (57, 68, 1), (57, 68, 9999), (155, 155, 1), (155, 168, 1), (155, 168, 9999), (156, 156, 9999)] o k
def S_X11_reached (v1 : Int32) : Nat → Nat → Prop := fun o k => inL [(6, 6, 0), (6, 6, 1), (6, 6, 2), (6, 6, 3), (8, 8, 9999), (25, 25, 11), (28, 28, 9999), (29, 29, 9999), (30, 30, 9999), (57, 68, 1), (57, 68, 9999), (155, 155, 1), (155, 168, 1), (155, 168, 9999), (156, 156, 9999)] o k
def S_X11_soonest (v1 : Int32) : Nat → Nat → Prop := fun o k => inL [(6, 6, 0), (6, 6, 1), (6, 6, 2), (6, 6, 3), (8, 8, 9999), (25, 25, 5), (25, 25, 6), (25, 25, 7), (26, 26, 9999), (57, 68, 1), (57, 68, 9999), (155, 155, 1), (155, 168, 1), (155, 168, 9999), (156, 156, 9999), (169, 169, 1), (170, 170, 9999)] o k
def S_X11_against (v1 : Int32) (v2 : Int32) : Nat → Nat → Prop := fun o k => inL [(6, 6, 0), (6, 6, 1), (6, 6, 2), (6, 6, 3), (8, 8, 9999), (15, 15, 6), (15, 15, 7), (15, 15, 8), (16, 16, 9999), (17, 17, 9999), (18, 18, 9999), (19, 19, 9999), (20, 20, 9999), (21, 21, 9999), (22, 22, 2), (22, 22, 3), (23, 23, 9999), (57, 68, 1), (57, 68, 9999), (151, 151, 1), (152, 152, 9999), (153, 153, 1), (154, 154, 9999)] o k
def S_X11_restore (v1 : Int32) : Nat → Nat → Prop := fun o k => inL [(1, 1, 0), (1, 1, 1), (1, 1, 2), (1, 1, 3), (1, 1, 4), (1, 1, 5), (1, 1, 6), (1, 1, 7), (1, 1, 8), (2, 2, 1), (2, 2, 2), (2, 2, 3), (3, 3, 9999), (4, 4, 9999), (9, 9, 0), (9, 9, 1), (53, 53, 1), (54, 54, 9999)] o k
def S_X12_solves (v1 : Int32) : Nat → Nat → Prop := fun o k => inL [(171, 171, 18), (171, 171, 19), (171, 171, 20), (171, 171, 21), (171, 171, 22), (171, 171, 23), (171, 171, 31), (171, 171, 40), (172, 172, 9999), (178, 178, 9999), (183, 183, 9999), (184, 184, 9999), (185, 185, 9999), (186, 186, 9999), (187, 187, 9999), (188, 188, 9999), (189, 189, 9999), (190, 190, 9999), (191, 191, 9999), (192, 192, 9999)] o k
def S_X12_value : Nat → Nat → Prop := fun o k => inL [(171, 171, 5), (171, 171, 18), (171, 171, 19), (171, 171, 20), (171, 171, 21), (171, 171, 22), (171, 171, 23), (171, 171, 31), (171, 171, 40), (172, 172, 9999), (178, 178, 9999), (183, 183, 9999), (184, 184, 9999), (185, 185, 9999), (186, 186, 9999), (187, 187, 9999), (188, 188, 9999), (189, 189, 9999), (190, 190, 9999), (191, 191, 9999), (192, 192, 9999)] o k
def S_X12_rank : Nat → Nat → Prop := fun o k => inL [(171, 171, 5), (171, 171, 18), (171, 171, 19), (171, 171, 20), (171, 171, 21), (171, 171, 22), (171, 171, 23), (171, 171, 31), (171, 171, 40), (172, 172, 9999), (178, 178, 9999), (183, 183, 9999), (184, 184, 9999), (185, 185, 9999), (186, 186, 9999), (187, 187, 9999), (188, 188, 9999), (189, 189, 9999), (190, 190, 9999), (191, 191, 9999), (192, 192, 9999)] o k
def S_X12_best : Nat → Nat → Prop := fun o k => inL [(171, 171, 5), (171, 171, 18), (171, 171, 19), (171, 171, 20), (171, 171, 21), (171, 171, 22), (171, 171, 23), (171, 171, 31), (171, 171, 40), (172, 172, 9999), (178, 178, 9999), (183, 183, 9999), (184, 184, 9999), (185, 185, 9999), (186, 186, 9999), (187, 187, 9999), (188, 188, 9999), (189, 189, 9999), (190, 190, 9999), (191, 191, 9999), (192, 192, 9999)] o k
def S_X12_worth (v1 : Int32) : Nat → Nat → Prop := fun o k => inL [(171, 171, 5), (171, 171, 18), (171, 171, 19), (171, 171, 20), (171, 171, 21), (171, 171, 22), (171, 171, 23), (171, 171, 31), (171, 171, 40), (172, 172, 9999), (178, 178, 9999), (183, 183, 9999), (184, 184, 9999), (185, 185, 9999), (186, 186, 9999), (187, 187, 9999), (188, 188, 9999), (189, 189, 9999), (190, 190, 9999), (191, 191, 9999), (192, 192, 9999)] o k
def S_X12_valueOf (v1 : Int32) (v2 : Int32) (v3 : Int32) : Nat → Nat → Prop := fun o k => inL [(171, 171, 5), (171, 171, 18), (171, 171, 19), (171, 171, 20), (171, 171, 21), (171, 171, 22), (171, 171, 23), (171, 171, 31), (171, 171, 40), (172, 172, 9999), (178, 178, 9999), (183, 183, 9999), (184, 184, 9999), (185, 185, 9999), (186, 186, 9999), (187, 187, 9999), (188, 188, 9999), (189, 189, 9999), (190, 190, 9999), (191, 191, 9999), (192, 192, 9999)] o k
def S_X12_tally (v1 : Int32) (v2 : Int32) (v3 : Int32) : Nat → Nat → Prop := fun o k => inL [(171, 171, 5), (171, 171, 18), (171, 171, 19), (171, 171, 20), (171, 171, 21), (171, 171, 22), (171, 171, 23), (171, 171, 31), (171, 171, 40), (172, 172, 9999), (178, 178, 9999), (183, 183, 9999), (184, 184, 9999), (185, 185, 9999), (186, 186, 9999), (187, 187, 9999), (188, 188, 9999), (189, 189, 9999), (190, 190, 9999), (191, 191, 9999), (192, 192, 9999)] o k
def S_X12_row (v1 : Int32) (v2 : Int32) (v3 : Int32) (v4 : Int32) : Nat → Nat → Prop := fun o k => inL [(171, 171, 5), (171, 171, 18), (171, 171, 19), (171, 171, 20), (171, 171, 21), (171, 171, 22), (171, 171, 23), (171, 171, 31), (171, 171, 40), (172, 172, 9999), (178, 178, 9999), (183, 183, 9999), (184, 184, 9999), (185, 185, 9999), (186, 186, 9999), (187, 187, 9999), (188, 188, 9999), (189, 189, 9999), (190, 190, 9999), (191, 191, 9999), (192, 192, 9999)] o k
def S_X12_find (v1 : Int32) (v2 : Int32) (v3 : Int32) (v4 : Int32) : Nat → Nat → Prop := fun o k => inL [(171, 171, 5), (171, 171, 18), (171, 171, 19), (171, 171, 20), (171, 171, 21), (171, 171, 22), (171, 171, 23), (171, 171, 31), (171, 171, 40), (172, 172, 9999), (178, 178, 9999), (183, 183, 9999), (184, 184, 9999), (185, 185, 9999), (186, 186, 9999), (187, 187, 9999), (188, 188, 9999), (189, 189, 9999), (190, 190, 9999), (191, 191, 9999), (192, 192, 9999)] o k
def S_X12_most (v1 : Int32) (v2 : Int32) (v3 : Int32) : Nat → Nat → Prop := fun o k => inL [(171, 171, 5), (171, 171, 18), (171, 171, 19), (171, 171, 20), (171, 171, 21), (171, 171, 22), (171, 171, 23), (171, 171, 31), (171, 171, 40), (172, 172, 9999), (178, 178, 9999), (183, 183, 9999), (184, 184, 9999), (185, 185, 9999), (186, 186, 9999), (187, 187, 9999), (188, 188, 9999), (189, 189, 9999), (190, 190, 9999), (191, 191, 9999), (192, 192, 9999)] o k
def S_X12_swapped : Nat → Nat → Prop := fun o k => inL [(171, 171, 5), (171, 171, 18), (171, 171, 19), (171, 171, 20), (171, 171, 21), (171, 171, 22), (171, 171, 23), (171, 171, 31), (171, 171, 40), (172, 172, 9999), (178, 178, 9999), (183, 183, 9999), (184, 184, 9999), (185, 185, 9999), (186, 186, 9999), (187, 187, 9999), (188, 188, 9999), (189, 189, 9999), (190, 190, 9999), (191, 191, 9999), (192, 192, 9999)] o k
def S_X12_line (v1 : Int32) : Nat → Nat → Prop := fun o k => inL [(171, 171, 5), (171, 171, 18), (171, 171, 19), (171, 171, 20), (171, 171, 21), (171, 171, 22), (171, 171, 23), (171, 171, 31), (171, 171, 40), (171, 171, 44), (172, 172, 9999), (175, 175, 9999), (178, 178, 9999), (183, 183, 9999), (184, 184, 9999), (185, 185, 9999), (186, 186, 9999), (187, 187, 9999), (188, 188, 9999), (189, 189, 9999), (190, 190, 9999), (191, 191, 9999), (192, 192, 9999), (193, 193, 9999), (194, 194, 9999)] o k
def S_X12_against (v1 : Int32) (v2 : Int32) : Nat → Nat → Prop := fun o k => inL [(171, 171, 5), (171, 171, 18), (171, 171, 19), (171, 171, 20), (171, 171, 21), (171, 171, 22), (171, 171, 23), (171, 171, 31), (171, 171, 40), (171, 171, 49), (171, 171, 50), (172, 172, 9999), (175, 175, 9999), (178, 178, 9999), (183, 183, 9999), (184, 184, 9999), (185, 185, 9999), (186, 186, 9999), (187, 187, 9999), (188, 188, 9999), (189, 189, 9999), (190, 190, 9999), (191, 191, 9999), (192, 192, 9999)] o k
def S_X4_readLine : Nat → Nat → Prop := fun o k => inL [(12, 12, 2), (12, 12, 3), (12, 12, 7), (12, 12, 8), (12, 12, 9), (12, 12, 10), (13, 13, 0), (13, 13, 1), (13, 13, 2), (13, 13, 3), (13, 13, 4), (13, 13, 5), (13, 13, 6), (13, 13, 7), (13, 13, 8), (149, 149, 1), (150, 150, 9999)] o k
def S_X4_read (v1 : Int32) : Nat → Nat → Prop := fun o k => inL [(12, 12, 2), (12, 12, 3), (12, 12, 6), (12, 12, 7), (12, 12, 8), (12, 12, 9), (12, 12, 10), (13, 13, 0), (13, 13, 1), (13, 13, 2), (13, 13, 3), (13, 13, 4), (13, 13, 5), (13, 13, 6), (13, 13, 7), (13, 13, 8), (149, 149, 1), (150, 150, 9999)] o k
def S_X11_board (v1 : Int32) : Nat → Nat → Prop := fun o k => inL [(1, 1, 0), (1, 1, 1), (1, 1, 2), (1, 1, 3), (1, 1, 4), (1, 1, 5), (1, 1, 6), (1, 1, 7), (1, 1, 8), (2, 2, 1), (2, 2, 2), (2, 2, 3), (3, 3, 9999), (4, 4, 9999), (9, 9, 0), (9, 9, 1), (12, 12, 2), (12, 12, 3), (12, 12, 4), (12, 12, 6), (12, 12, 7), (12, 12, 8), (12, 12, 9), (12, 12, 10), (13, 13, 0), (13, 13, 1), (13, 13, 2), (13, 13, 3), (13, 13, 4), (13, 13, 5), (13, 13, 6), (13, 13, 7), (13, 13, 8), (53, 53, 1), (54, 54, 9999), (149, 149, 1), (150, 150, 9999)] o k
