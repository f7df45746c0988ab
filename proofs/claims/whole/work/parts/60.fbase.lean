/-- outside S the memory is the same -/
def Fr (S : Nat → Nat → Prop) (μ μ' : Mu) : Prop := ∀ o k, ¬ S o k → μ'.1 o k = μ.1 o k ∧ μ'.2 o k = μ.2 o k
theorem Fr.rf {S : Nat → Nat → Prop} {μ : Mu} : Fr S μ μ := fun _ _ _ => ⟨rfl, rfl⟩
theorem Fr.tr {S S' : Nat → Nat → Prop} {μ μ1 μ2 : Mu} (h : Fr S μ μ1) (h2 : Fr S' μ1 μ2) (hs : ∀ o k, S' o k → S o k) : Fr S μ μ2 := fun o k hn => by
  obtain ⟨a1, a2⟩ := h o k hn
  obtain ⟨b1, b2⟩ := h2 o k (fun q => hn (hs o k q))
  exact ⟨b1.trans a1, b2.trans a2⟩
theorem Fr.si {S : Nat → Nat → Prop} {μ μ1 : Mu} (h : Fr S μ μ1) {o k : Nat} {v : Int32} (hs : S o k) : Fr S μ (si μ1 o k v) := fun o' k' hn => by
  obtain ⟨a1, a2⟩ := h o' k' hn
  refine ⟨?_, a2⟩
  show (if o' = o then upd (μ1.1 o) k v else μ1.1 o') k' = _
  by_cases e : o' = o
  · subst e
    rw [if_pos rfl]
    by_cases e2 : k' = k
    · subst e2; exact absurd hs hn
    · rw [pk_un e2]; exact a1
  · rw [if_neg e]; exact a1
theorem Fr.sj {S : Nat → Nat → Prop} {μ μ1 : Mu} (h : Fr S μ μ1) {o k : Nat} {v : Int64} (hs : S o k) : Fr S μ (sj μ1 o k v) := fun o' k' hn => by
  obtain ⟨a1, a2⟩ := h o' k' hn
  refine ⟨a1, ?_⟩
  show (if o' = o then vp_updL (μ1.2 o) k v else μ1.2 o') k' = _
  by_cases e : o' = o
  · subst e
    rw [if_pos rfl]
    by_cases e2 : k' = k
    · subst e2; exact absurd hs hn
    · rw [pk_uLn e2]; exact a2
  · rw [if_neg e]; exact a2
theorem Fr.cp {S : Nat → Nat → Prop} {μ μ1 : Mu} (h : Fr S μ μ1) {a o : Nat} (hs : ∀ k, S o k) : Fr S μ (cp14 μ1 a o) := fun o' k' hn => by
  obtain ⟨a1, a2⟩ := h o' k' hn
  refine ⟨?_, a2⟩
  show (if o' = o then va_cpy (μ1.1 a) (μ1.1 o) 0 0 14 else μ1.1 o') k' = _
  by_cases e : o' = o
  · subst e; exact absurd (hs k') hn
  · rw [if_neg e]; exact a1
theorem kd_all : ∀ o, o < NN → (oK o = 9 → 33 ≤ o ∧ o + 1 ≤ 40) ∧ (oK o = 2 → 41 ≤ o ∧ o + 3 ≤ 52) ∧ (oK o = 6 → 43 ≤ o ∧ o + 1 ≤ 170) := by decide +kernel
theorem kdI {o k : Nat} (h : oK o = k) : (k = 9 → 33 ≤ o ∧ o + 1 ≤ 40) ∧ (k = 2 → 41 ≤ o ∧ o + 3 ≤ 52) ∧ (k = 6 → 43 ≤ o ∧ o + 1 ≤ 170) := by
  refine ⟨fun e => ?_, fun e => ?_, fun e => ?_⟩
  · exact (kd_all o (oK_lt (by omega))).1 (by omega)
  · exact (kd_all o (oK_lt (by omega))).2.1 (by omega)
  · exact (kd_all o (oK_lt (by omega))).2.2 (by omega)
def S_J0_length_8abf5 (v0 : Nat) : Nat → Nat → Prop := fun _ _ => False
theorem fr_J0_length_8abf5 (n : Nat) (v0 : Nat) (μ : Mu) (r : Int32 × Mu) (h : J0_length_8abf5 n v0 μ = some r) : Fr (S_J0_length_8abf5 v0) μ r.2 := by
  rw [J0_length_8abf5] at h
  obtain ⟨_, h⟩ := kd_some h
  rw [← Option.some.inj h]
  exact Fr.rf
def S_J0_charAt_5068e (v0 : Nat) (v1 : Int32) : Nat → Nat → Prop := fun _ _ => False
theorem fr_J0_charAt_5068e (n : Nat) (v0 : Nat) (v1 : Int32) (μ : Mu) (r : Int32 × Mu) (h : J0_charAt_5068e n v0 v1 μ = some r) : Fr (S_J0_charAt_5068e v0 v1) μ r.2 := by
  rw [J0_charAt_5068e] at h
  obtain ⟨_, h⟩ := kd_some h
  obtain ⟨_, h⟩ := gd_some h
  rw [← Option.some.inj h]
  exact Fr.rf
def S_X0_packed (v0 : Nat) (v1 : Int32) (v2 : Int32) : Nat → Nat → Prop := fun o k => False
def S_X1_countWays : Nat → Nat → Prop := fun o k => (o = 5)
def S_X1_pitAsSeen (v1 : Int32) (v2 : Int32) : Nat → Nat → Prop := fun o k => False
def S_X1_positionsOf (v1 : Int32) : Nat → Nat → Prop := fun o k => False
def S_X1_positionsUpTo (v1 : Int32) : Nat → Nat → Prop := fun o k => False
def S_X1_numberOf (v1 : Nat) (v2 : Int32) : Nat → Nat → Prop := fun o k => False
def S_X3_forget : Nat → Nat → Prop := fun o k => (o = 9 ∧ (k = 0 ∨ k = 1))
def S_X3_slot (v1 : Int32) : Nat → Nat → Prop := fun o k => False
def S_X3_moveAt (v1 : Int32) : Nat → Nat → Prop := fun o k => False
def S_X3_again : Nat → Nat → Prop := fun o k => (o = 9 ∧ (k = 0 ∨ k = 1))
def S_X4_append (v1 : Int32) : Nat → Nat → Prop := fun o k => (o = 12 ∧ (k = 4)) ∨ (o = 14)
def S_X4_refuse (v1 : Int32) : Nat → Nat → Prop := fun o k => (o = 12 ∧ (k = 2 ∨ k = 3))
def S_X4_checkedNumber (v1 : Int32) (v2 : Int32) : Nat → Nat → Prop := fun o k => (o = 12 ∧ (k = 2 ∨ k = 3))
def S_X4_isWord (v1 : Nat) : Nat → Nat → Prop := fun o k => False
def S_X4_isDigit (v1 : Int32) : Nat → Nat → Prop := fun o k => False
def S_X4_isLetter (v1 : Int32) : Nat → Nat → Prop := fun o k => False
def S_X5_clear (v0 : Nat) : Nat → Nat → Prop := fun o k => (o = v0 ∧ (k = 0 ∨ k = 1 ∨ k = 2 ∨ k = 3 ∨ k = 4 ∨ k = 5 ∨ k = 6 ∨ k = 7 ∨ k = 8))
def S_X5_copy (v0 : Nat) (v1 : Nat) : Nat → Nat → Prop := fun o k => (o = v0 ∧ (k = 0 ∨ k = 1 ∨ k = 2 ∨ k = 3 ∨ k = 4 ∨ k = 5 ∨ k = 6 ∨ k = 7 ∨ k = 8))
def S_X5_isLacking (v0 : Nat) (v1 : Int32) : Nat → Nat → Prop := fun o k => False
def S_X5_key (v0 : Nat) : Nat → Nat → Prop := fun o k => False
def S_X6_clear (v0 : Nat) : Nat → Nat → Prop := fun o k => (o = v0 ∧ (k = 1)) ∨ (o = v0 + 1)
def S_X6_copy (v0 : Nat) (v1 : Nat) : Nat → Nat → Prop := fun o k => (o = v0 ∧ (k = 1)) ∨ (o = v0 + 1)
def S_X6_isLike (v0 : Nat) (v1 : Nat) : Nat → Nat → Prop := fun o k => False
def S_X6_inPits (v0 : Nat) : Nat → Nat → Prop := fun o k => False
def S_X6_filled (v0 : Nat) (v1 : Int32) : Nat → Nat → Prop := fun o k => False
def S_X6_inRow (v0 : Nat) (v1 : Int32) (v2 : Int32) : Nat → Nat → Prop := fun o k => False
def S_X7_halfOf (v1 : Int32) : Nat → Nat → Prop := fun o k => False
def S_X7_indexOf (v1 : Int32) (v2 : Int32) (v3 : Int32) : Nat → Nat → Prop := fun o k => False
def S_X7_indexAt (v1 : Nat) (v2 : Int32) : Nat → Nat → Prop := fun o k => False
def S_X7_readMove (v1 : Int32) (v2 : Int32) (v3 : Int32) : Nat → Nat → Prop := fun o k => (o = 18) ∨ (o = 20) ∨ (o = 21)
def S_X7_weighAll (v1 : Int32) (v2 : Int32) : Nat → Nat → Prop := fun o k => (o = 19)
def S_X7_settleAll (v1 : Int32) (v2 : Int32) (v3 : Int32) : Nat → Nat → Prop := fun o k => (o = 16) ∨ (o = 17)
def S_X7_valueAt (v1 : Nat) : Nat → Nat → Prop := fun o k => False
def S_X7_rankOf (v1 : Int32) : Nat → Nat → Prop := fun o k => False
def S_X7_markOf (v1 : Nat) : Nat → Nat → Prop := fun o k => False
def S_X7_isOfKind (v1 : Int32) (v2 : Int32) : Nat → Nat → Prop := fun o k => False
def S_X7_measure (v1 : Int32) (v2 : Int32) : Nat → Nat → Prop := fun o k => False
def S_X7_worthOfTried (v1 : Nat) (v2 : Int32) : Nat → Nat → Prop := fun o k => (o = 15 ∧ (k = 8))
def S_X8_isOwn (v1 : Nat) (v2 : Int64) : Nat → Nat → Prop := fun o k => False
def S_X8_scatter (v1 : Nat) (v2 : Int32) : Nat → Nat → Prop := fun o k => (o = v1 + 1)
def S_X8_takeOpposite (v1 : Nat) : Nat → Nat → Prop := fun o k => (o = v1 + 1)
def S_X8_takeGrand (v1 : Nat) : Nat → Nat → Prop := fun o k => (o = v1 + 1)
def S_X9_lay (v0 : Nat) (v1 : Int32) (v2 : Int32) : Nat → Nat → Prop := fun o k => (o = v0 ∧ (k = 1 ∨ k = 2)) ∨ (o = v0 + 1)
def S_X9_cut (v0 : Nat) (v1 : Int64) : Nat → Nat → Prop := fun o k => False
def S_X10_begin (v1 : Nat) : Nat → Nat → Prop := fun o k => (o = 153 ∧ (k = 1)) ∨ (o = 154) ∨ (o = 22 ∧ (k = 2 ∨ k = 3))
def S_X10_isMarkedAgain : Nat → Nat → Prop := fun o k => False
def S_X11_feed (v1 : Int32) (v2 : Int32) (v3 : Int32) (v4 : Int32) (v5 : Int32) : Nat → Nat → Prop := fun o k => (o = 12 ∧ (k = 4)) ∨ (o = 14)
def S_X11_fault (v1 : Int32) : Nat → Nat → Prop := fun o k => False
def S_X11_mover : Nat → Nat → Prop := fun o k => False
def S_X11_place : Nat → Nat → Prop := fun o k => False
def S_X11_has (v0 : Int32) (v1 : Int32) : Nat → Nat → Prop := fun o k => False
def S_X11_needSide (v0 : Int32) : Nat → Nat → Prop := fun o k => False
def S_X11_needSeeds (v0 : Int32) : Nat → Nat → Prop := fun o k => False
def S_X11_needPosition (v0 : Int32) (v1 : Int32) : Nat → Nat → Prop := fun o k => False
def S_X11_anyTray (v1 : Int32) : Nat → Nat → Prop := fun o k => False
def S_X11_laidTray (v1 : Int32) : Nat → Nat → Prop := fun o k => False
def S_X11_anyImage (v1 : Int32) : Nat → Nat → Prop := fun o k => False
def S_X11_seedsOrLacking (v1 : Nat) (v2 : Int32) : Nat → Nat → Prop := fun o k => False
def S_X12_thrown : Nat → Nat → Prop := fun o k => False
def S_X12_fails (v1 : Int32) : Nat → Nat → Prop := fun o k => (o = 171 ∧ (k = 5))
def S_X12_within (v0 : Int64) (v2 : Int64) (v4 : Int64) : Nat → Nat → Prop := fun o k => False
def S_X12_copies (v0 : Nat) (v1 : Nat) : Nat → Nat → Prop := fun o k => (o = v1)
def S_X12_feed (v1 : Int32) (v2 : Int32) (v3 : Int32) (v4 : Int32) (v5 : Int32) : Nat → Nat → Prop := fun o k => (o = 171 ∧ (k = 5 ∨ k = 7)) ∨ (o = 177)
def S_X12_see (v1 : Int32) : Nat → Nat → Prop := fun o k => False
def S_X12_isLetter (v0 : Int32) : Nat → Nat → Prop := fun o k => False
def S_X12_isDigit (v0 : Int32) : Nat → Nat → Prop := fun o k => False
def S_X12_reads : Nat → Nat → Prop := fun o k => (o = 171 ∧ (k = 9 ∨ k = 10 ∨ k = 11 ∨ k = 12))
def S_X12_blames (v1 : Int32) : Nat → Nat → Prop := fun o k => (o = 171 ∧ (k = 13 ∨ k = 14))
def S_X12_isWord (v1 : Nat) : Nat → Nat → Prop := fun o k => False
def S_X12_took (v1 : Nat) : Nat → Nat → Prop := fun o k => (o = 171 ∧ (k = 9 ∨ k = 10 ∨ k = 11 ∨ k = 12))
def S_X12_number (v1 : Int32) (v2 : Int32) : Nat → Nat → Prop := fun o k => (o = 171 ∧ (k = 9 ∨ k = 10 ∨ k = 11 ∨ k = 12 ∨ k = 13 ∨ k = 14))
def S_X12_readLay : Nat → Nat → Prop := fun o k => (o = 171 ∧ (k = 9 ∨ k = 10 ∨ k = 11 ∨ k = 12 ∨ k = 13 ∨ k = 14)) ∨ (o = 173)
def S_X12_readTake : Nat → Nat → Prop := fun o k => (o = 171 ∧ (k = 9 ∨ k = 10 ∨ k = 11 ∨ k = 12 ∨ k = 13 ∨ k = 14)) ∨ (o = 173)
def S_X12_readStored : Nat → Nat → Prop := fun o k => (o = 171 ∧ (k = 9 ∨ k = 10 ∨ k = 11 ∨ k = 12 ∨ k = 13 ∨ k = 14)) ∨ (o = 173)
def S_X12_lacks (v1 : Int32) : Nat → Nat → Prop := fun o k => (o = 173)
def S_X12_isWrong : Nat → Nat → Prop := fun o k => False
def S_X12_fault (v1 : Int32) : Nat → Nat → Prop := fun o k => (o = 171 ∧ (k = 5))
def S_X12_pitMany : Nat → Nat → Prop := fun o k => False
def S_X12_isPit (v1 : Int32) : Nat → Nat → Prop := fun o k => False
def S_X12_isLacking (v1 : Int32) : Nat → Nat → Prop := fun o k => False
def S_X12_sideOf (v1 : Int32) : Nat → Nat → Prop := fun o k => False
def S_X12_pit (v1 : Int32) : Nat → Nat → Prop := fun o k => (o = 171 ∧ (k = 5))
def S_X12_isSide (v0 : Int32) : Nat → Nat → Prop := fun o k => False
def S_X12_store (v1 : Int32) : Nat → Nat → Prop := fun o k => (o = 171 ∧ (k = 5))
def S_X12_mover : Nat → Nat → Prop := fun o k => (o = 171 ∧ (k = 5))
def S_X12_takesUp : Nat → Nat → Prop := fun o k => (o = 178)
def S_X12_next (v1 : Int32) (v2 : Int32) (v3 : Int32) : Nat → Nat → Prop := fun o k => False
def S_X12_sum (v1 : Int32) : Nat → Nat → Prop := fun o k => False
def S_X12_ahead (v1 : Int32) : Nat → Nat → Prop := fun o k => False
def S_X12_isFull (v1 : Int32) : Nat → Nat → Prop := fun o k => False
def S_X12_puts (v0 : Nat) (v1 : Int32) (v2 : Nat) : Nat → Nat → Prop := fun o k => (o = v0)
def S_X12_gets (v0 : Nat) (v1 : Int32) (v2 : Nat) : Nat → Nat → Prop := fun o k => (o = v2)
def S_X12_keeps (v1 : Int32) : Nat → Nat → Prop := fun o k => (o = 171 ∧ (k = 28)) ∨ (o = 179) ∨ (o = 180)
def S_X12_undo : Nat → Nat → Prop := fun o k => (o = 171 ∧ (k = 5 ∨ k = 28 ∨ k = 29)) ∨ (o = 172) ∨ (o = 181) ∨ (o = 182)
def S_X12_redo : Nat → Nat → Prop := fun o k => (o = 171 ∧ (k = 5 ∨ k = 28 ∨ k = 29)) ∨ (o = 172) ∨ (o = 179) ∨ (o = 180)
def S_X12_sees (v1 : Int32) : Nat → Nat → Prop := fun o k => (o = 171 ∧ (k = 31)) ∨ (o = 183)
def S_X12_ways (v0 : Int32) (v1 : Int32) : Nat → Nat → Prop := fun o k => False
def S_X12_positionsOf (v1 : Int32) : Nat → Nat → Prop := fun o k => (o = 171 ∧ (k = 31)) ∨ (o = 183)
def S_X12_numberOf (v1 : Int32) : Nat → Nat → Prop := fun o k => (o = 171 ∧ (k = 31)) ∨ (o = 183)
def S_X12_lays (v1 : Int32) (v2 : Int32) (v3 : Int32) : Nat → Nat → Prop := fun o k => (o = 171 ∧ (k = 31)) ∨ (o = 178) ∨ (o = 183)
def S_X12_seedsNow : Nat → Nat → Prop := fun o k => False
def S_X12_positions (v1 : Int32) (v2 : Int32) : Nat → Nat → Prop := fun o k => (o = 171 ∧ (k = 5 ∨ k = 31)) ∨ (o = 183)
def S_X12_place : Nat → Nat → Prop := fun o k => (o = 171 ∧ (k = 5 ∨ k = 31)) ∨ (o = 178) ∨ (o = 183)
def S_X12_ofPlace (v1 : Int32) (v2 : Int32) (v3 : Int32) (v4 : Int32) : Nat → Nat → Prop := fun o k => (o = 171 ∧ (k = 5 ∨ k = 31)) ∨ (o = 178) ∨ (o = 183)
def S_X12_areRules : Nat → Nat → Prop := fun o k => False
def S_X12_seat (v1 : Int32) (v2 : Int32) (v3 : Int32) : Nat → Nat → Prop := fun o k => False
def S_X12_worthOf (v1 : Int32) (v2 : Int32) (v3 : Nat) : Nat → Nat → Prop := fun o k => False
def S_X12_ownLess (v1 : Int32) (v2 : Int32) (v3 : Int32) : Nat → Nat → Prop := fun o k => (o = 171 ∧ (k = 31)) ∨ (o = 178) ∨ (o = 183)
def S_X12_betters (v1 : Int32) (v2 : Int32) (v3 : Int32) : Nat → Nat → Prop := fun o k => (o = 184) ∨ (o = 185)
def S_X12_seatNow : Nat → Nat → Prop := fun o k => (o = 171 ∧ (k = 31)) ∨ (o = 178) ∨ (o = 183)
def S_X12_bestAt (v1 : Int32) : Nat → Nat → Prop := fun o k => False
def S_X12_bestNow : Nat → Nat → Prop := fun o k => (o = 171 ∧ (k = 31)) ∨ (o = 178) ∨ (o = 183)
def S_X12_canAt (v1 : Int32) (v2 : Int32) : Nat → Nat → Prop := fun o k => False
def S_X12_isBoard (v1 : Int32) : Nat → Nat → Prop := fun o k => False
def S_X12_draw (v1 : Int32) : Nat → Nat → Prop := fun o k => (o = 171 ∧ (k = 49))
def S_X12_isTray (v0 : Int32) : Nat → Nat → Prop := fun o k => False
def S_X12_tray (v1 : Int32) (v2 : Int32) (v3 : Int32) : Nat → Nat → Prop := fun o k => (o = 171 ∧ (k = 5)) ∨ (o = 198) ∨ (o = 199) ∨ (o = 200)
def S_X12_cut (v1 : Int32) (v2 : Int32) (v3 : Int64) : Nat → Nat → Prop := fun o k => (o = 200)
def S_X12_image (v1 : Int32) : Nat → Nat → Prop := fun o k => (o = 171 ∧ (k = 5)) ∨ (o = 174) ∨ (o = 176)
def S_X12_restore (v1 : Int32) : Nat → Nat → Prop := fun o k => (o = 171 ∧ (k = 5 ∨ k = 28 ∨ k = 29)) ∨ (o = 172)
def S_X12_count (v1 : Int32) : Nat → Nat → Prop := fun o k => (o = 171 ∧ (k = 5))
def S_J6_bitCount_0f7a4 (v0 : Int32) : Nat → Nat → Prop := fun o k => False
def S_X0_note (v1 : Nat) : Nat → Nat → Prop := fun o k => (o = 25 ∧ (k = 11)) ∨ (o = 28) ∨ (o = 29) ∨ (o = 30)
def S_X1_cellOnWay (v1 : Int32) (v2 : Int32) : Nat → Nat → Prop := fun o k => False
def S_X1_listSeen (v1 : Int32) : Nat → Nat → Prop := fun o k => (o = 2 ∧ (k = 1 ∨ k = 2)) ∨ (o = 4)
def S_X1_lay (v1 : Nat) (v2 : Int32) (v3 : Int32) (v4 : Int32) : Nat → Nat → Prop := fun o k => (o = v1 ∧ (k = 1)) ∨ (o = v1 + 1)
def S_X3_keep (v1 : Nat) (v2 : Int32) : Nat → Nat → Prop := fun o k => ((69 ≤ o ∧ o ≤ 148)) ∨ (o = 10) ∨ (o = 9 ∧ (k = 0 ∨ k = 1 ∨ k = 2))
def S_X3_back (v1 : Nat) : Nat → Nat → Prop := fun o k => (o = 9 ∧ (k = 0 ∨ k = 1)) ∨ (o = v1 ∧ (k = 1)) ∨ (o = v1 + 1)
def S_X4_isSound : Nat → Nat → Prop := fun o k => False
def S_X4_stepNumber : Nat → Nat → Prop := fun o k => (o = 12 ∧ (k = 2 ∨ k = 3 ∨ k = 7 ∨ k = 9 ∨ k = 10))
def S_X4_stepWord : Nat → Nat → Prop := fun o k => (o = 12 ∧ (k = 7 ∨ k = 9))
def S_X7_weighLevel (v1 : Int32) : Nat → Nat → Prop := fun o k => (o = 16) ∨ (o = 17) ∨ (o = 19)
def S_X7_rankAt (v1 : Nat) : Nat → Nat → Prop := fun o k => False
def S_X8_sow (v1 : Nat) (v2 : Int32) : Nat → Nat → Prop := fun o k => (o = 6 ∧ (k = 0 ∨ k = 1 ∨ k = 2 ∨ k = 3)) ∨ (o = v1 ∧ (k = 1)) ∨ (o = v1 + 1)
def S_X8_tryAll (v1 : Nat) : Nat → Nat → Prop := fun o k => ((57 ≤ o ∧ o ≤ 68)) ∨ (o = 6 ∧ (k = 0 ∨ k = 1 ∨ k = 2 ∨ k = 3)) ∨ (o = 8)
def S_X8_isLong (v1 : Nat) (v2 : Int32) : Nat → Nat → Prop := fun o k => ((57 ≤ o ∧ o ≤ 68)) ∨ (o = 6 ∧ (k = 0 ∨ k = 1 ∨ k = 2 ∨ k = 3))
def S_X8_isOver (v1 : Nat) : Nat → Nat → Prop := fun o k => ((57 ≤ o ∧ o ≤ 68)) ∨ (o = 6 ∧ (k = 0 ∨ k = 1 ∨ k = 2 ∨ k = 3))
def S_X8_scoreOf (v1 : Nat) : Nat → Nat → Prop := fun o k => ((57 ≤ o ∧ o ≤ 68)) ∨ (o = 6 ∧ (k = 0 ∨ k = 1 ∨ k = 2 ∨ k = 3))
def S_X10_go (v1 : Int32) : Nat → Nat → Prop := fun o k => (o = 153 ∧ (k = 1)) ∨ (o = 154) ∨ (o = 22 ∧ (k = 2)) ∨ (o = 23) ∨ (o = 6 ∧ (k = 0 ∨ k = 1 ∨ k = 2 ∨ k = 3))
def S_X10_pick (v0 : Int32) (v1 : Int32) : Nat → Nat → Prop := fun o k => False
def S_X11_pit (v1 : Int32) : Nat → Nat → Prop := fun o k => False
def S_X11_store (v1 : Int32) : Nat → Nat → Prop := fun o k => False
def S_X11_sown (v1 : Int32) (v2 : Int32) : Nat → Nat → Prop := fun o k => (o = 55 ∧ (k = 1)) ∨ (o = 56) ∨ (o = 6 ∧ (k = 0 ∨ k = 1 ∨ k = 2 ∨ k = 3))
def S_X11_undo : Nat → Nat → Prop := fun o k => (o = 53 ∧ (k = 1)) ∨ (o = 54) ∨ (o = 9 ∧ (k = 0 ∨ k = 1))
def S_X11_redo : Nat → Nat → Prop := fun o k => (o = 53 ∧ (k = 1)) ∨ (o = 54) ∨ (o = 6 ∧ (k = 0 ∨ k = 1 ∨ k = 2 ∨ k = 3)) ∨ (o = 9 ∧ (k = 0 ∨ k = 1))
def S_X11_over : Nat → Nat → Prop := fun o k => ((57 ≤ o ∧ o ≤ 68)) ∨ (o = 6 ∧ (k = 0 ∨ k = 1 ∨ k = 2 ∨ k = 3))
def S_X11_score : Nat → Nat → Prop := fun o k => ((57 ≤ o ∧ o ≤ 68)) ∨ (o = 6 ∧ (k = 0 ∨ k = 1 ∨ k = 2 ∨ k = 3))
def S_X11_positions (v1 : Int32) (v2 : Int32) : Nat → Nat → Prop := fun o k => False
def S_X11_ofPlace (v1 : Int32) (v2 : Int32) (v3 : Int32) (v4 : Int32) : Nat → Nat → Prop := fun o k => (o = 55 ∧ (k = 1)) ∨ (o = 56)
def S_X11_tray (v1 : Int32) (v2 : Int32) (v3 : Int32) : Nat → Nat → Prop := fun o k => ((33 ≤ o ∧ o ≤ 52))
def S_X11_write (v1 : Int32) (v2 : Int32) (v3 : Int64) : Nat → Nat → Prop := fun o k => ((33 ≤ o ∧ o ≤ 52))
def S_X11_pour (v1 : Int32) : Nat → Nat → Prop := fun o k => ((0 ≤ o ∧ o ≤ 170))
def S_X11_image (v1 : Int32) : Nat → Nat → Prop := fun o k => ((33 ≤ o ∧ o ≤ 52))
def S_X11_count (v1 : Int32) : Nat → Nat → Prop := fun o k => False
def S_X11_isNotable (v1 : Int32) (v2 : Int32) : Nat → Nat → Prop := fun o k => (o = 55 ∧ (k = 1)) ∨ (o = 56) ∨ (o = 6 ∧ (k = 0 ∨ k = 1 ∨ k = 2 ∨ k = 3))
def S_X11_toldOfPlay (v1 : Int32) : Nat → Nat → Prop := fun o k => ((57 ≤ o ∧ o ≤ 68)) ∨ (o = 6 ∧ (k = 0 ∨ k = 1 ∨ k = 2 ∨ k = 3))
def S_X12_readLine (v1 : Int32) : Nat → Nat → Prop := fun o k => (o = 171 ∧ (k = 9 ∨ k = 10 ∨ k = 11 ∨ k = 12 ∨ k = 13 ∨ k = 14)) ∨ (o = 173)
def S_X12_board (v1 : Int32) : Nat → Nat → Prop := fun o k => (o = 171 ∧ (k = 5 ∨ k = 7 ∨ k = 8 ∨ k = 9 ∨ k = 10 ∨ k = 11 ∨ k = 12 ∨ k = 13 ∨ k = 14 ∨ k = 15 ∨ k = 16 ∨ k = 28 ∨ k = 29)) ∨ (o = 172) ∨ (o = 173)
def S_X12_takes (v1 : Int32) (v2 : Int32) : Nat → Nat → Prop := fun o k => (o = 171 ∧ (k = 20)) ∨ (o = 178)
def S_X12_trayFault (v1 : Int32) : Nat → Nat → Prop := fun o k => False
def S_X12_settles (v1 : Int32) : Nat → Nat → Prop := fun o k => (o = 171 ∧ (k = 31)) ∨ (o = 178) ∨ (o = 183) ∨ (o = 184) ∨ (o = 185) ∨ (o = 186)
def S_X12_write (v1 : Int32) (v2 : Int32) (v3 : Int64) : Nat → Nat → Prop := fun o k => (o = 171 ∧ (k = 5)) ∨ (o = 200)
def S_X12_pour (v1 : Int32) : Nat → Nat → Prop := fun o k => (o = 171 ∧ (k = 5)) ∨ (o = 200)
def S_X0_goDown (v1 : Int32) (v2 : Int32) : Nat → Nat → Prop := fun o k => ((155 ≤ o ∧ o ≤ 168)) ∨ (o = 6 ∧ (k = 0 ∨ k = 1 ∨ k = 2 ∨ k = 3))
def S_X1_linkWay (v1 : Int32) : Nat → Nat → Prop := fun o k => (o = 3)
def S_X4_step : Nat → Nat → Prop := fun o k => (o = 12 ∧ (k = 2 ∨ k = 3 ∨ k = 7 ∨ k = 8 ∨ k = 9 ∨ k = 10))
def S_X7_readPosition (v1 : Int32) (v2 : Int32) (v3 : Int32) : Nat → Nat → Prop := fun o k => ((57 ≤ o ∧ o ≤ 68)) ∨ (o = 151 ∧ (k = 1)) ∨ (o = 152) ∨ (o = 16) ∨ (o = 17) ∨ (o = 18) ∨ (o = 20) ∨ (o = 21) ∨ (o = 6 ∧ (k = 0 ∨ k = 1 ∨ k = 2 ∨ k = 3)) ∨ (o = 8)
def S_X7_worthBy (v1 : Nat) (v2 : Int32) : Nat → Nat → Prop := fun o k => ((57 ≤ o ∧ o ≤ 68)) ∨ (o = 15 ∧ (k = 8)) ∨ (o = 6 ∧ (k = 0 ∨ k = 1 ∨ k = 2 ∨ k = 3)) ∨ (o = 8)
def S_X7_bestAt (v1 : Nat) : Nat → Nat → Prop := fun o k => ((57 ≤ o ∧ o ≤ 68)) ∨ (o = 15 ∧ (k = 8)) ∨ (o = 6 ∧ (k = 0 ∨ k = 1 ∨ k = 2 ∨ k = 3)) ∨ (o = 8)
def S_X7_manyBest (v1 : Nat) : Nat → Nat → Prop := fun o k => ((57 ≤ o ∧ o ≤ 68)) ∨ (o = 15 ∧ (k = 8)) ∨ (o = 6 ∧ (k = 0 ∨ k = 1 ∨ k = 2 ∨ k = 3)) ∨ (o = 8)
def S_X8_choices (v1 : Nat) : Nat → Nat → Prop := fun o k => ((57 ≤ o ∧ o ≤ 68)) ∨ (o = 6 ∧ (k = 0 ∨ k = 1 ∨ k = 2 ∨ k = 3)) ∨ (o = 8)
def S_X8_reason (v1 : Nat) (v2 : Int64) : Nat → Nat → Prop := fun o k => ((57 ≤ o ∧ o ≤ 68)) ∨ (o = 6 ∧ (k = 0 ∨ k = 1 ∨ k = 2 ∨ k = 3)) ∨ (o = 8)
def S_X10_goByBest (v1 : Nat) : Nat → Nat → Prop := fun o k => ((57 ≤ o ∧ o ≤ 68)) ∨ (o = 15 ∧ (k = 8)) ∨ (o = 153 ∧ (k = 1)) ∨ (o = 154) ∨ (o = 22 ∧ (k = 2 ∨ k = 3)) ∨ (o = 23) ∨ (o = 24) ∨ (o = 6 ∧ (k = 0 ∨ k = 1 ∨ k = 2 ∨ k = 3)) ∨ (o = 8)
def S_X10_goWhileForced (v1 : Nat) : Nat → Nat → Prop := fun o k => ((57 ≤ o ∧ o ≤ 68)) ∨ (o = 153 ∧ (k = 1)) ∨ (o = 154) ∨ (o = 22 ∧ (k = 2 ∨ k = 3)) ∨ (o = 23) ∨ (o = 6 ∧ (k = 0 ∨ k = 1 ∨ k = 2 ∨ k = 3)) ∨ (o = 8)
def S_X10_goByDraws (v1 : Nat) (v2 : Int32) (v3 : Int32) : Nat → Nat → Prop := fun o k => ((57 ≤ o ∧ o ≤ 68)) ∨ (o = 15 ∧ (k = 8)) ∨ (o = 153 ∧ (k = 1)) ∨ (o = 154) ∨ (o = 22 ∧ (k = 2 ∨ k = 3)) ∨ (o = 23) ∨ (o = 6 ∧ (k = 0 ∨ k = 1 ∨ k = 2 ∨ k = 3)) ∨ (o = 8)
def S_X11_may (v1 : Int32) : Nat → Nat → Prop := fun o k => ((57 ≤ o ∧ o ≤ 68)) ∨ (o = 6 ∧ (k = 0 ∨ k = 1 ∨ k = 2 ∨ k = 3)) ∨ (o = 8)
def S_X11_move (v1 : Int32) : Nat → Nat → Prop := fun o k => ((57 ≤ o ∧ o ≤ 68)) ∨ ((69 ≤ o ∧ o ≤ 148)) ∨ (o = 10) ∨ (o = 53 ∧ (k = 1)) ∨ (o = 54) ∨ (o = 6 ∧ (k = 0 ∨ k = 1 ∨ k = 2 ∨ k = 3)) ∨ (o = 8) ∨ (o = 9 ∧ (k = 0 ∨ k = 1 ∨ k = 2))
def S_X11_judge (v1 : Int32) (v2 : Int32) : Nat → Nat → Prop := fun o k => ((57 ≤ o ∧ o ≤ 68)) ∨ (o = 55 ∧ (k = 1)) ∨ (o = 56) ∨ (o = 6 ∧ (k = 0 ∨ k = 1 ∨ k = 2 ∨ k = 3)) ∨ (o = 8)
def S_X11_perform (v1 : Int32) : Nat → Nat → Prop := fun o k => ((57 ≤ o ∧ o ≤ 68)) ∨ ((69 ≤ o ∧ o ≤ 148)) ∨ (o = 10) ∨ (o = 53 ∧ (k = 1)) ∨ (o = 54) ∨ (o = 6 ∧ (k = 0 ∨ k = 1 ∨ k = 2 ∨ k = 3)) ∨ (o = 8) ∨ (o = 9 ∧ (k = 0 ∨ k = 1 ∨ k = 2))
def S_X11_pits (v1 : Int32) : Nat → Nat → Prop := fun o k => ((57 ≤ o ∧ o ≤ 68)) ∨ (o = 55 ∧ (k = 1)) ∨ (o = 56) ∨ (o = 6 ∧ (k = 0 ∨ k = 1 ∨ k = 2 ∨ k = 3)) ∨ (o = 8)
def S_X11_forced : Nat → Nat → Prop := fun o k => ((57 ≤ o ∧ o ≤ 68)) ∨ (o = 153 ∧ (k = 1)) ∨ (o = 154) ∨ (o = 22 ∧ (k = 2 ∨ k = 3)) ∨ (o = 23) ∨ (o = 6 ∧ (k = 0 ∨ k = 1 ∨ k = 2 ∨ k = 3)) ∨ (o = 8)
def S_X11_play (v1 : Int32) (v2 : Int32) : Nat → Nat → Prop := fun o k => ((57 ≤ o ∧ o ≤ 68)) ∨ (o = 15 ∧ (k = 8)) ∨ (o = 153 ∧ (k = 1)) ∨ (o = 154) ∨ (o = 22 ∧ (k = 2 ∨ k = 3)) ∨ (o = 23) ∨ (o = 6 ∧ (k = 0 ∨ k = 1 ∨ k = 2 ∨ k = 3)) ∨ (o = 8)
def S_X12_sows (v1 : Int32) (v2 : Int32) : Nat → Nat → Prop := fun o k => (o = 171 ∧ (k = 18 ∨ k = 19 ∨ k = 20 ∨ k = 21 ∨ k = 22 ∨ k = 23)) ∨ (o = 178)
def S_X12_triesFrom (v1 : Int32) : Nat → Nat → Prop := fun o k => (o = 171 ∧ (k = 18 ∨ k = 19 ∨ k = 20 ∨ k = 21 ∨ k = 22 ∨ k = 23)) ∨ (o = 178)
def S_X12_isOver : Nat → Nat → Prop := fun o k => (o = 171 ∧ (k = 18 ∨ k = 19 ∨ k = 20 ∨ k = 21 ∨ k = 22 ∨ k = 23)) ∨ (o = 178)
def S_X12_canFeed : Nat → Nat → Prop := fun o k => (o = 171 ∧ (k = 18 ∨ k = 19 ∨ k = 20 ∨ k = 21 ∨ k = 22 ∨ k = 23)) ∨ (o = 178)
def S_X12_whyNot (v1 : Int32) : Nat → Nat → Prop := fun o k => (o = 171 ∧ (k = 18 ∨ k = 19 ∨ k = 20 ∨ k = 21 ∨ k = 22 ∨ k = 23)) ∨ (o = 178)
def S_X12_moves (v1 : Int32) : Nat → Nat → Prop := fun o k => (o = 171 ∧ (k = 18 ∨ k = 19 ∨ k = 20 ∨ k = 21 ∨ k = 22 ∨ k = 23)) ∨ (o = 172) ∨ (o = 178)
def S_X12_may (v1 : Int32) : Nat → Nat → Prop := fun o k => (o = 171 ∧ (k = 5 ∨ k = 18 ∨ k = 19 ∨ k = 20 ∨ k = 21 ∨ k = 22 ∨ k = 23)) ∨ (o = 178)
def S_X12_sown (v1 : Int32) (v2 : Int32) : Nat → Nat → Prop := fun o k => (o = 171 ∧ (k = 5 ∨ k = 18 ∨ k = 19 ∨ k = 20 ∨ k = 21 ∨ k = 22 ∨ k = 23)) ∨ (o = 178)
def S_X12_over : Nat → Nat → Prop := fun o k => (o = 171 ∧ (k = 5 ∨ k = 18 ∨ k = 19 ∨ k = 20 ∨ k = 21 ∨ k = 22 ∨ k = 23)) ∨ (o = 178)
def S_X12_scoreNow : Nat → Nat → Prop := fun o k => (o = 171 ∧ (k = 18 ∨ k = 19 ∨ k = 20 ∨ k = 21 ∨ k = 22 ∨ k = 23)) ∨ (o = 178)
def S_X12_score : Nat → Nat → Prop := fun o k => (o = 171 ∧ (k = 5 ∨ k = 18 ∨ k = 19 ∨ k = 20 ∨ k = 21 ∨ k = 22 ∨ k = 23)) ∨ (o = 178)
def S_X12_does (v1 : Int32) : Nat → Nat → Prop := fun o k => (o = 171 ∧ (k = 18 ∨ k = 19 ∨ k = 20 ∨ k = 21 ∨ k = 22 ∨ k = 23 ∨ k = 28 ∨ k = 29)) ∨ (o = 172) ∨ (o = 178) ∨ (o = 179) ∨ (o = 180)
def S_X12_move (v1 : Int32) : Nat → Nat → Prop := fun o k => (o = 171 ∧ (k = 5 ∨ k = 18 ∨ k = 19 ∨ k = 20 ∨ k = 21 ∨ k = 22 ∨ k = 23 ∨ k = 28 ∨ k = 29)) ∨ (o = 172) ∨ (o = 178) ∨ (o = 179) ∨ (o = 180)
def S_X12_whyTold (v1 : Int64) : Nat → Nat → Prop := fun o k => (o = 171 ∧ (k = 18 ∨ k = 19 ∨ k = 20 ∨ k = 21 ∨ k = 22 ∨ k = 23)) ∨ (o = 178)
def S_X12_judge (v1 : Int32) (v2 : Int32) : Nat → Nat → Prop := fun o k => (o = 171 ∧ (k = 5 ∨ k = 18 ∨ k = 19 ∨ k = 20 ∨ k = 21 ∨ k = 22 ∨ k = 23)) ∨ (o = 172) ∨ (o = 175) ∨ (o = 178)
def S_X12_perform (v1 : Int32) : Nat → Nat → Prop := fun o k => (o = 171 ∧ (k = 5 ∨ k = 18 ∨ k = 19 ∨ k = 20 ∨ k = 21 ∨ k = 22 ∨ k = 23 ∨ k = 28 ∨ k = 29)) ∨ (o = 172) ∨ (o = 178) ∨ (o = 179) ∨ (o = 180)
def S_X12_laysMove (v1 : Int32) (v2 : Int32) (v3 : Int32) (v4 : Int32) : Nat → Nat → Prop := fun o k => (o = 171 ∧ (k = 18 ∨ k = 19 ∨ k = 20 ∨ k = 21 ∨ k = 22 ∨ k = 23 ∨ k = 31)) ∨ (o = 178) ∨ (o = 183) ∨ (o = 187) ∨ (o = 188)
def S_X12_goesOn : Nat → Nat → Prop := fun o k => (o = 171 ∧ (k = 18 ∨ k = 19 ∨ k = 20 ∨ k = 21 ∨ k = 22 ∨ k = 23 ∨ k = 31 ∨ k = 44)) ∨ (o = 172) ∨ (o = 178) ∨ (o = 183) ∨ (o = 193) ∨ (o = 194)
def S_X12_playsOf (v1 : Int32) : Nat → Nat → Prop := fun o k => (o = 171 ∧ (k = 18 ∨ k = 19 ∨ k = 20 ∨ k = 21 ∨ k = 22 ∨ k = 23)) ∨ (o = 172) ∨ (o = 178) ∨ (o = 195)
def S_X12_plays (v1 : Int32) : Nat → Nat → Prop := fun o k => (o = 171 ∧ (k = 5 ∨ k = 18 ∨ k = 19 ∨ k = 20 ∨ k = 21 ∨ k = 22 ∨ k = 23)) ∨ (o = 172) ∨ (o = 178) ∨ (o = 195)
def S_X12_reaches (v1 : Int32) : Nat → Nat → Prop := fun o k => (o = 171 ∧ (k = 18 ∨ k = 19 ∨ k = 20 ∨ k = 21 ∨ k = 22 ∨ k = 23 ∨ k = 47)) ∨ (o = 172) ∨ (o = 178) ∨ (o = 195) ∨ (o = 196)
def S_X12_reached (v1 : Int32) : Nat → Nat → Prop := fun o k => (o = 171 ∧ (k = 5 ∨ k = 18 ∨ k = 19 ∨ k = 20 ∨ k = 21 ∨ k = 22 ∨ k = 23 ∨ k = 47)) ∨ (o = 172) ∨ (o = 178) ∨ (o = 195) ∨ (o = 196)
def S_X12_ends (v1 : Int32) : Nat → Nat → Prop := fun o k => (o = 171 ∧ (k = 18 ∨ k = 19 ∨ k = 20 ∨ k = 21 ∨ k = 22 ∨ k = 23)) ∨ (o = 172) ∨ (o = 178) ∨ (o = 195) ∨ (o = 197)
def S_X12_soonest (v1 : Int32) : Nat → Nat → Prop := fun o k => (o = 171 ∧ (k = 5 ∨ k = 18 ∨ k = 19 ∨ k = 20 ∨ k = 21 ∨ k = 22 ∨ k = 23)) ∨ (o = 172) ∨ (o = 178) ∨ (o = 195) ∨ (o = 197)
def S_X12_pits (v1 : Int32) : Nat → Nat → Prop := fun o k => (o = 171 ∧ (k = 5 ∨ k = 18 ∨ k = 19 ∨ k = 20 ∨ k = 21 ∨ k = 22 ∨ k = 23)) ∨ (o = 178)
def S_X12_only : Nat → Nat → Prop := fun o k => (o = 171 ∧ (k = 18 ∨ k = 19 ∨ k = 20 ∨ k = 21 ∨ k = 22 ∨ k = 23)) ∨ (o = 178)
def S_X12_drawn : Nat → Nat → Prop := fun o k => (o = 171 ∧ (k = 18 ∨ k = 19 ∨ k = 20 ∨ k = 21 ∨ k = 22 ∨ k = 23 ∨ k = 49)) ∨ (o = 178)
def S_X12_playOf (v1 : Int32) (v2 : Int32) (v3 : Int32) : Nat → Nat → Prop := fun o k => (o = 171 ∧ (k = 18 ∨ k = 19 ∨ k = 20 ∨ k = 21 ∨ k = 22 ∨ k = 23 ∨ k = 31 ∨ k = 49 ∨ k = 50)) ∨ (o = 172) ∨ (o = 175) ∨ (o = 178) ∨ (o = 183)
def S_X12_play (v1 : Int32) (v2 : Int32) : Nat → Nat → Prop := fun o k => (o = 171 ∧ (k = 5 ∨ k = 18 ∨ k = 19 ∨ k = 20 ∨ k = 21 ∨ k = 22 ∨ k = 23 ∨ k = 31 ∨ k = 49 ∨ k = 50)) ∨ (o = 172) ∨ (o = 175) ∨ (o = 178) ∨ (o = 183)
def S_X0_countRows (v1 : Int32) (v2 : Int32) : Nat → Nat → Prop := fun o k => ((155 ≤ o ∧ o ≤ 168)) ∨ ((57 ≤ o ∧ o ≤ 68)) ∨ (o = 6 ∧ (k = 0 ∨ k = 1 ∨ k = 2 ∨ k = 3)) ∨ (o = 8)
def S_X0_gather (v1 : Int32) (v2 : Int32) : Nat → Nat → Prop := fun o k => ((155 ≤ o ∧ o ≤ 168)) ∨ ((57 ≤ o ∧ o ≤ 68)) ∨ (o = 25 ∧ (k = 11)) ∨ (o = 28) ∨ (o = 29) ∨ (o = 30) ∨ (o = 6 ∧ (k = 0 ∨ k = 1 ∨ k = 2 ∨ k = 3)) ∨ (o = 8)
def S_X0_endsWithin (v1 : Int32) (v2 : Int32) : Nat → Nat → Prop := fun o k => ((155 ≤ o ∧ o ≤ 168)) ∨ ((57 ≤ o ∧ o ≤ 68)) ∨ (o = 26) ∨ (o = 6 ∧ (k = 0 ∨ k = 1 ∨ k = 2 ∨ k = 3)) ∨ (o = 8)
def S_X1_build : Nat → Nat → Prop := fun o k => (o = 2 ∧ (k = 1 ∨ k = 2 ∨ k = 3)) ∨ (o = 3) ∨ (o = 4)
def S_X4_readSeeds : Nat → Nat → Prop := fun o k => (o = 12 ∧ (k = 2 ∨ k = 3 ∨ k = 7 ∨ k = 8 ∨ k = 9 ∨ k = 10)) ∨ (o = 150)
def S_X4_readTake : Nat → Nat → Prop := fun o k => (o = 12 ∧ (k = 2 ∨ k = 3 ∨ k = 7 ∨ k = 8 ∨ k = 9 ∨ k = 10)) ∨ (o = 13 ∧ (k = 4))
def S_X4_readFlag : Nat → Nat → Prop := fun o k => (o = 12 ∧ (k = 2 ∨ k = 3 ∨ k = 7 ∨ k = 8 ∨ k = 9 ∨ k = 10)) ∨ (o = 13 ∧ (k = 5 ∨ k = 6 ∨ k = 7 ∨ k = 8))
def S_X4_readNumber (v1 : Int32) (v2 : Int32) : Nat → Nat → Prop := fun o k => (o = 12 ∧ (k = 2 ∨ k = 3 ∨ k = 7 ∨ k = 8 ∨ k = 9 ∨ k = 10))
def S_X7_reach (v1 : Int32) : Nat → Nat → Prop := fun o k => ((57 ≤ o ∧ o ≤ 68)) ∨ (o = 15 ∧ (k = 6 ∨ k = 7)) ∨ (o = 151 ∧ (k = 1)) ∨ (o = 152) ∨ (o = 16) ∨ (o = 17) ∨ (o = 18) ∨ (o = 19) ∨ (o = 20) ∨ (o = 21) ∨ (o = 6 ∧ (k = 0 ∨ k = 1 ∨ k = 2 ∨ k = 3)) ∨ (o = 8)
def S_X11_value : Nat → Nat → Prop := fun o k => ((57 ≤ o ∧ o ≤ 68)) ∨ (o = 15 ∧ (k = 6 ∨ k = 7)) ∨ (o = 151 ∧ (k = 1)) ∨ (o = 152) ∨ (o = 16) ∨ (o = 17) ∨ (o = 18) ∨ (o = 19) ∨ (o = 20) ∨ (o = 21) ∨ (o = 6 ∧ (k = 0 ∨ k = 1 ∨ k = 2 ∨ k = 3)) ∨ (o = 8)
def S_X11_rank : Nat → Nat → Prop := fun o k => ((57 ≤ o ∧ o ≤ 68)) ∨ (o = 15 ∧ (k = 6 ∨ k = 7)) ∨ (o = 151 ∧ (k = 1)) ∨ (o = 152) ∨ (o = 16) ∨ (o = 17) ∨ (o = 18) ∨ (o = 19) ∨ (o = 20) ∨ (o = 21) ∨ (o = 6 ∧ (k = 0 ∨ k = 1 ∨ k = 2 ∨ k = 3)) ∨ (o = 8)
def S_X11_best : Nat → Nat → Prop := fun o k => ((57 ≤ o ∧ o ≤ 68)) ∨ (o = 15 ∧ (k = 6 ∨ k = 7 ∨ k = 8)) ∨ (o = 151 ∧ (k = 1)) ∨ (o = 152) ∨ (o = 16) ∨ (o = 17) ∨ (o = 18) ∨ (o = 19) ∨ (o = 20) ∨ (o = 21) ∨ (o = 6 ∧ (k = 0 ∨ k = 1 ∨ k = 2 ∨ k = 3)) ∨ (o = 8)
def S_X11_worth (v1 : Int32) : Nat → Nat → Prop := fun o k => ((57 ≤ o ∧ o ≤ 68)) ∨ (o = 15 ∧ (k = 6 ∨ k = 7 ∨ k = 8)) ∨ (o = 151 ∧ (k = 1)) ∨ (o = 152) ∨ (o = 16) ∨ (o = 17) ∨ (o = 18) ∨ (o = 19) ∨ (o = 20) ∨ (o = 21) ∨ (o = 6 ∧ (k = 0 ∨ k = 1 ∨ k = 2 ∨ k = 3)) ∨ (o = 8)
def S_X11_swapped : Nat → Nat → Prop := fun o k => ((57 ≤ o ∧ o ≤ 68)) ∨ (o = 15 ∧ (k = 6 ∨ k = 7)) ∨ (o = 151 ∧ (k = 1)) ∨ (o = 152) ∨ (o = 16) ∨ (o = 17) ∨ (o = 18) ∨ (o = 19) ∨ (o = 20) ∨ (o = 21) ∨ (o = 55 ∧ (k = 1)) ∨ (o = 56) ∨ (o = 6 ∧ (k = 0 ∨ k = 1 ∨ k = 2 ∨ k = 3)) ∨ (o = 8)
def S_X11_needSolved (v1 : Int32) : Nat → Nat → Prop := fun o k => ((57 ≤ o ∧ o ≤ 68)) ∨ (o = 15 ∧ (k = 6 ∨ k = 7)) ∨ (o = 151 ∧ (k = 1)) ∨ (o = 152) ∨ (o = 16) ∨ (o = 17) ∨ (o = 18) ∨ (o = 19) ∨ (o = 20) ∨ (o = 21) ∨ (o = 6 ∧ (k = 0 ∨ k = 1 ∨ k = 2 ∨ k = 3)) ∨ (o = 8)
def S_X11_laySolved (v1 : Int32) (v2 : Int32) (v3 : Int32) : Nat → Nat → Prop := fun o k => ((57 ≤ o ∧ o ≤ 68)) ∨ (o = 15 ∧ (k = 6 ∨ k = 7)) ∨ (o = 151 ∧ (k = 1)) ∨ (o = 152) ∨ (o = 16) ∨ (o = 17) ∨ (o = 18) ∨ (o = 19) ∨ (o = 20) ∨ (o = 21) ∨ (o = 55 ∧ (k = 1)) ∨ (o = 56) ∨ (o = 6 ∧ (k = 0 ∨ k = 1 ∨ k = 2 ∨ k = 3)) ∨ (o = 8)
def S_X11_settle (v1 : Nat) (v2 : Nat) : Nat → Nat → Prop := fun o k => (o = 1 ∧ (k = 0 ∨ k = 1 ∨ k = 2 ∨ k = 3 ∨ k = 4 ∨ k = 5 ∨ k = 6 ∨ k = 7 ∨ k = 8)) ∨ (o = 2 ∧ (k = 1 ∨ k = 2 ∨ k = 3)) ∨ (o = 3) ∨ (o = 4) ∨ (o = 53 ∧ (k = 1)) ∨ (o = 54) ∨ (o = 9 ∧ (k = 0 ∨ k = 1))
def S_X12_laysMoves (v1 : Int32) : Nat → Nat → Prop := fun o k => (o = 171 ∧ (k = 18 ∨ k = 19 ∨ k = 20 ∨ k = 21 ∨ k = 22 ∨ k = 23 ∨ k = 31)) ∨ (o = 172) ∨ (o = 178) ∨ (o = 183) ∨ (o = 187) ∨ (o = 188) ∨ (o = 190)
def S_X12_forced : Nat → Nat → Prop := fun o k => (o = 171 ∧ (k = 5 ∨ k = 18 ∨ k = 19 ∨ k = 20 ∨ k = 21 ∨ k = 22 ∨ k = 23)) ∨ (o = 172) ∨ (o = 175) ∨ (o = 178)
def S_X0_countFrom (v1 : Nat) (v2 : Int32) : Nat → Nat → Prop := fun o k => ((155 ≤ o ∧ o ≤ 168)) ∨ ((57 ≤ o ∧ o ≤ 68)) ∨ (o = 155 ∧ (k = 1)) ∨ (o = 156) ∨ (o = 6 ∧ (k = 0 ∨ k = 1 ∨ k = 2 ∨ k = 3)) ∨ (o = 8)
def S_X0_countUnlike (v1 : Nat) (v2 : Int32) : Nat → Nat → Prop := fun o k => ((155 ≤ o ∧ o ≤ 168)) ∨ ((57 ≤ o ∧ o ≤ 68)) ∨ (o = 155 ∧ (k = 1)) ∨ (o = 156) ∨ (o = 25 ∧ (k = 11)) ∨ (o = 28) ∨ (o = 29) ∨ (o = 30) ∨ (o = 6 ∧ (k = 0 ∨ k = 1 ∨ k = 2 ∨ k = 3)) ∨ (o = 8)
def S_X0_seekEnd (v1 : Nat) : Nat → Nat → Prop := fun o k => ((155 ≤ o ∧ o ≤ 168)) ∨ ((57 ≤ o ∧ o ≤ 68)) ∨ (o = 155 ∧ (k = 1)) ∨ (o = 156) ∨ (o = 169 ∧ (k = 1)) ∨ (o = 170) ∨ (o = 25 ∧ (k = 5 ∨ k = 6 ∨ k = 7)) ∨ (o = 26) ∨ (o = 6 ∧ (k = 0 ∨ k = 1 ∨ k = 2 ∨ k = 3)) ∨ (o = 8)
def S_X4_readPerSide : Nat → Nat → Prop := fun o k => (o = 12 ∧ (k = 2 ∨ k = 3 ∨ k = 7 ∨ k = 8 ∨ k = 9 ∨ k = 10)) ∨ (o = 13 ∧ (k = 1))
def S_X11_valueOf (v1 : Int32) (v2 : Int32) (v3 : Int32) : Nat → Nat → Prop := fun o k => ((57 ≤ o ∧ o ≤ 68)) ∨ (o = 15 ∧ (k = 6 ∨ k = 7)) ∨ (o = 151 ∧ (k = 1)) ∨ (o = 152) ∨ (o = 16) ∨ (o = 17) ∨ (o = 18) ∨ (o = 19) ∨ (o = 20) ∨ (o = 21) ∨ (o = 55 ∧ (k = 1)) ∨ (o = 56) ∨ (o = 6 ∧ (k = 0 ∨ k = 1 ∨ k = 2 ∨ k = 3)) ∨ (o = 8)
def S_X11_tally (v1 : Int32) (v2 : Int32) (v3 : Int32) : Nat → Nat → Prop := fun o k => ((57 ≤ o ∧ o ≤ 68)) ∨ (o = 15 ∧ (k = 6 ∨ k = 7)) ∨ (o = 151 ∧ (k = 1)) ∨ (o = 152) ∨ (o = 16) ∨ (o = 17) ∨ (o = 18) ∨ (o = 19) ∨ (o = 20) ∨ (o = 21) ∨ (o = 6 ∧ (k = 0 ∨ k = 1 ∨ k = 2 ∨ k = 3)) ∨ (o = 8)
def S_X11_row (v1 : Int32) (v2 : Int32) (v3 : Int32) (v4 : Int32) : Nat → Nat → Prop := fun o k => ((57 ≤ o ∧ o ≤ 68)) ∨ (o = 15 ∧ (k = 6 ∨ k = 7 ∨ k = 8)) ∨ (o = 151 ∧ (k = 1)) ∨ (o = 152) ∨ (o = 16) ∨ (o = 17) ∨ (o = 18) ∨ (o = 19) ∨ (o = 20) ∨ (o = 21) ∨ (o = 55 ∧ (k = 1)) ∨ (o = 56) ∨ (o = 6 ∧ (k = 0 ∨ k = 1 ∨ k = 2 ∨ k = 3)) ∨ (o = 8)
def S_X11_find (v1 : Int32) (v2 : Int32) (v3 : Int32) (v4 : Int32) : Nat → Nat → Prop := fun o k => ((57 ≤ o ∧ o ≤ 68)) ∨ (o = 15 ∧ (k = 6 ∨ k = 7)) ∨ (o = 151 ∧ (k = 1)) ∨ (o = 152) ∨ (o = 16) ∨ (o = 17) ∨ (o = 18) ∨ (o = 19) ∨ (o = 20) ∨ (o = 21) ∨ (o = 6 ∧ (k = 0 ∨ k = 1 ∨ k = 2 ∨ k = 3)) ∨ (o = 8)
def S_X11_most (v1 : Int32) (v2 : Int32) (v3 : Int32) : Nat → Nat → Prop := fun o k => ((57 ≤ o ∧ o ≤ 68)) ∨ (o = 15 ∧ (k = 6 ∨ k = 7)) ∨ (o = 151 ∧ (k = 1)) ∨ (o = 152) ∨ (o = 16) ∨ (o = 17) ∨ (o = 18) ∨ (o = 19) ∨ (o = 20) ∨ (o = 21) ∨ (o = 6 ∧ (k = 0 ∨ k = 1 ∨ k = 2 ∨ k = 3)) ∨ (o = 8)
def S_X11_line (v1 : Int32) : Nat → Nat → Prop := fun o k => ((57 ≤ o ∧ o ≤ 68)) ∨ (o = 15 ∧ (k = 6 ∨ k = 7 ∨ k = 8)) ∨ (o = 151 ∧ (k = 1)) ∨ (o = 152) ∨ (o = 153 ∧ (k = 1)) ∨ (o = 154) ∨ (o = 16) ∨ (o = 17) ∨ (o = 18) ∨ (o = 19) ∨ (o = 20) ∨ (o = 21) ∨ (o = 22 ∧ (k = 2 ∨ k = 3)) ∨ (o = 23) ∨ (o = 24) ∨ (o = 6 ∧ (k = 0 ∨ k = 1 ∨ k = 2 ∨ k = 3)) ∨ (o = 8)
def S_X11_plays (v1 : Int32) : Nat → Nat → Prop := fun o k => ((155 ≤ o ∧ o ≤ 168)) ∨ ((57 ≤ o ∧ o ≤ 68)) ∨ (o = 155 ∧ (k = 1)) ∨ (o = 156) ∨ (o = 6 ∧ (k = 0 ∨ k = 1 ∨ k = 2 ∨ k = 3)) ∨ (o = 8)
def S_X11_reached (v1 : Int32) : Nat → Nat → Prop := fun o k => ((155 ≤ o ∧ o ≤ 168)) ∨ ((57 ≤ o ∧ o ≤ 68)) ∨ (o = 155 ∧ (k = 1)) ∨ (o = 156) ∨ (o = 25 ∧ (k = 11)) ∨ (o = 28) ∨ (o = 29) ∨ (o = 30) ∨ (o = 6 ∧ (k = 0 ∨ k = 1 ∨ k = 2 ∨ k = 3)) ∨ (o = 8)
def S_X11_soonest (v1 : Int32) : Nat → Nat → Prop := fun o k => ((155 ≤ o ∧ o ≤ 168)) ∨ ((57 ≤ o ∧ o ≤ 68)) ∨ (o = 155 ∧ (k = 1)) ∨ (o = 156) ∨ (o = 169 ∧ (k = 1)) ∨ (o = 170) ∨ (o = 25 ∧ (k = 5 ∨ k = 6 ∨ k = 7)) ∨ (o = 26) ∨ (o = 6 ∧ (k = 0 ∨ k = 1 ∨ k = 2 ∨ k = 3)) ∨ (o = 8)
def S_X11_against (v1 : Int32) (v2 : Int32) : Nat → Nat → Prop := fun o k => ((57 ≤ o ∧ o ≤ 68)) ∨ (o = 15 ∧ (k = 6 ∨ k = 7 ∨ k = 8)) ∨ (o = 151 ∧ (k = 1)) ∨ (o = 152) ∨ (o = 153 ∧ (k = 1)) ∨ (o = 154) ∨ (o = 16) ∨ (o = 17) ∨ (o = 18) ∨ (o = 19) ∨ (o = 20) ∨ (o = 21) ∨ (o = 22 ∧ (k = 2 ∨ k = 3)) ∨ (o = 23) ∨ (o = 6 ∧ (k = 0 ∨ k = 1 ∨ k = 2 ∨ k = 3)) ∨ (o = 8)
def S_X11_restore (v1 : Int32) : Nat → Nat → Prop := fun o k => (o = 1 ∧ (k = 0 ∨ k = 1 ∨ k = 2 ∨ k = 3 ∨ k = 4 ∨ k = 5 ∨ k = 6 ∨ k = 7 ∨ k = 8)) ∨ (o = 2 ∧ (k = 1 ∨ k = 2 ∨ k = 3)) ∨ (o = 3) ∨ (o = 4) ∨ (o = 53 ∧ (k = 1)) ∨ (o = 54) ∨ (o = 9 ∧ (k = 0 ∨ k = 1))
def S_X12_solves (v1 : Int32) : Nat → Nat → Prop := fun o k => (o = 171 ∧ (k = 18 ∨ k = 19 ∨ k = 20 ∨ k = 21 ∨ k = 22 ∨ k = 23 ∨ k = 31 ∨ k = 40)) ∨ (o = 172) ∨ (o = 178) ∨ (o = 183) ∨ (o = 184) ∨ (o = 185) ∨ (o = 186) ∨ (o = 187) ∨ (o = 188) ∨ (o = 189) ∨ (o = 190) ∨ (o = 191) ∨ (o = 192)
def S_X12_value : Nat → Nat → Prop := fun o k => (o = 171 ∧ (k = 5 ∨ k = 18 ∨ k = 19 ∨ k = 20 ∨ k = 21 ∨ k = 22 ∨ k = 23 ∨ k = 31 ∨ k = 40)) ∨ (o = 172) ∨ (o = 178) ∨ (o = 183) ∨ (o = 184) ∨ (o = 185) ∨ (o = 186) ∨ (o = 187) ∨ (o = 188) ∨ (o = 189) ∨ (o = 190) ∨ (o = 191) ∨ (o = 192)
def S_X12_rank : Nat → Nat → Prop := fun o k => (o = 171 ∧ (k = 5 ∨ k = 18 ∨ k = 19 ∨ k = 20 ∨ k = 21 ∨ k = 22 ∨ k = 23 ∨ k = 31 ∨ k = 40)) ∨ (o = 172) ∨ (o = 178) ∨ (o = 183) ∨ (o = 184) ∨ (o = 185) ∨ (o = 186) ∨ (o = 187) ∨ (o = 188) ∨ (o = 189) ∨ (o = 190) ∨ (o = 191) ∨ (o = 192)
def S_X12_best : Nat → Nat → Prop := fun o k => (o = 171 ∧ (k = 5 ∨ k = 18 ∨ k = 19 ∨ k = 20 ∨ k = 21 ∨ k = 22 ∨ k = 23 ∨ k = 31 ∨ k = 40)) ∨ (o = 172) ∨ (o = 178) ∨ (o = 183) ∨ (o = 184) ∨ (o = 185) ∨ (o = 186) ∨ (o = 187) ∨ (o = 188) ∨ (o = 189) ∨ (o = 190) ∨ (o = 191) ∨ (o = 192)
def S_X12_worth (v1 : Int32) : Nat → Nat → Prop := fun o k => (o = 171 ∧ (k = 5 ∨ k = 18 ∨ k = 19 ∨ k = 20 ∨ k = 21 ∨ k = 22 ∨ k = 23 ∨ k = 31 ∨ k = 40)) ∨ (o = 172) ∨ (o = 178) ∨ (o = 183) ∨ (o = 184) ∨ (o = 185) ∨ (o = 186) ∨ (o = 187) ∨ (o = 188) ∨ (o = 189) ∨ (o = 190) ∨ (o = 191) ∨ (o = 192)
def S_X12_valueOf (v1 : Int32) (v2 : Int32) (v3 : Int32) : Nat → Nat → Prop := fun o k => (o = 171 ∧ (k = 5 ∨ k = 18 ∨ k = 19 ∨ k = 20 ∨ k = 21 ∨ k = 22 ∨ k = 23 ∨ k = 31 ∨ k = 40)) ∨ (o = 172) ∨ (o = 178) ∨ (o = 183) ∨ (o = 184) ∨ (o = 185) ∨ (o = 186) ∨ (o = 187) ∨ (o = 188) ∨ (o = 189) ∨ (o = 190) ∨ (o = 191) ∨ (o = 192)
def S_X12_tally (v1 : Int32) (v2 : Int32) (v3 : Int32) : Nat → Nat → Prop := fun o k => (o = 171 ∧ (k = 5 ∨ k = 18 ∨ k = 19 ∨ k = 20 ∨ k = 21 ∨ k = 22 ∨ k = 23 ∨ k = 31 ∨ k = 40)) ∨ (o = 172) ∨ (o = 178) ∨ (o = 183) ∨ (o = 184) ∨ (o = 185) ∨ (o = 186) ∨ (o = 187) ∨ (o = 188) ∨ (o = 189) ∨ (o = 190) ∨ (o = 191) ∨ (o = 192)
def S_X12_row (v1 : Int32) (v2 : Int32) (v3 : Int32) (v4 : Int32) : Nat → Nat → Prop := fun o k => (o = 171 ∧ (k = 5 ∨ k = 18 ∨ k = 19 ∨ k = 20 ∨ k = 21 ∨ k = 22 ∨ k = 23 ∨ k = 31 ∨ k = 40)) ∨ (o = 172) ∨ (o = 178) ∨ (o = 183) ∨ (o = 184) ∨ (o = 185) ∨ (o = 186) ∨ (o = 187) ∨ (o = 188) ∨ (o = 189) ∨ (o = 190) ∨ (o = 191) ∨ (o = 192)
def S_X12_find (v1 : Int32) (v2 : Int32) (v3 : Int32) (v4 : Int32) : Nat → Nat → Prop := fun o k => (o = 171 ∧ (k = 5 ∨ k = 18 ∨ k = 19 ∨ k = 20 ∨ k = 21 ∨ k = 22 ∨ k = 23 ∨ k = 31 ∨ k = 40)) ∨ (o = 172) ∨ (o = 178) ∨ (o = 183) ∨ (o = 184) ∨ (o = 185) ∨ (o = 186) ∨ (o = 187) ∨ (o = 188) ∨ (o = 189) ∨ (o = 190) ∨ (o = 191) ∨ (o = 192)
def S_X12_most (v1 : Int32) (v2 : Int32) (v3 : Int32) : Nat → Nat → Prop := fun o k => (o = 171 ∧ (k = 5 ∨ k = 18 ∨ k = 19 ∨ k = 20 ∨ k = 21 ∨ k = 22 ∨ k = 23 ∨ k = 31 ∨ k = 40)) ∨ (o = 172) ∨ (o = 178) ∨ (o = 183) ∨ (o = 184) ∨ (o = 185) ∨ (o = 186) ∨ (o = 187) ∨ (o = 188) ∨ (o = 189) ∨ (o = 190) ∨ (o = 191) ∨ (o = 192)
def S_X12_swapped : Nat → Nat → Prop := fun o k => (o = 171 ∧ (k = 5 ∨ k = 18 ∨ k = 19 ∨ k = 20 ∨ k = 21 ∨ k = 22 ∨ k = 23 ∨ k = 31 ∨ k = 40)) ∨ (o = 172) ∨ (o = 178) ∨ (o = 183) ∨ (o = 184) ∨ (o = 185) ∨ (o = 186) ∨ (o = 187) ∨ (o = 188) ∨ (o = 189) ∨ (o = 190) ∨ (o = 191) ∨ (o = 192)
def S_X12_line (v1 : Int32) : Nat → Nat → Prop := fun o k => (o = 171 ∧ (k = 5 ∨ k = 18 ∨ k = 19 ∨ k = 20 ∨ k = 21 ∨ k = 22 ∨ k = 23 ∨ k = 31 ∨ k = 40 ∨ k = 44)) ∨ (o = 172) ∨ (o = 175) ∨ (o = 178) ∨ (o = 183) ∨ (o = 184) ∨ (o = 185) ∨ (o = 186) ∨ (o = 187) ∨ (o = 188) ∨ (o = 189) ∨ (o = 190) ∨ (o = 191) ∨ (o = 192) ∨ (o = 193) ∨ (o = 194)
def S_X12_against (v1 : Int32) (v2 : Int32) : Nat → Nat → Prop := fun o k => (o = 171 ∧ (k = 5 ∨ k = 18 ∨ k = 19 ∨ k = 20 ∨ k = 21 ∨ k = 22 ∨ k = 23 ∨ k = 31 ∨ k = 40 ∨ k = 49 ∨ k = 50)) ∨ (o = 172) ∨ (o = 175) ∨ (o = 178) ∨ (o = 183) ∨ (o = 184) ∨ (o = 185) ∨ (o = 186) ∨ (o = 187) ∨ (o = 188) ∨ (o = 189) ∨ (o = 190) ∨ (o = 191) ∨ (o = 192)
def S_X4_readLine : Nat → Nat → Prop := fun o k => (o = 12 ∧ (k = 2 ∨ k = 3 ∨ k = 7 ∨ k = 8 ∨ k = 9 ∨ k = 10)) ∨ (o = 13 ∧ (k = 0 ∨ k = 1 ∨ k = 2 ∨ k = 3 ∨ k = 4 ∨ k = 5 ∨ k = 6 ∨ k = 7 ∨ k = 8)) ∨ (o = 149 ∧ (k = 1)) ∨ (o = 150)
def S_X4_read (v1 : Int32) : Nat → Nat → Prop := fun o k => (o = 12 ∧ (k = 2 ∨ k = 3 ∨ k = 6 ∨ k = 7 ∨ k = 8 ∨ k = 9 ∨ k = 10)) ∨ (o = 13 ∧ (k = 0 ∨ k = 1 ∨ k = 2 ∨ k = 3 ∨ k = 4 ∨ k = 5 ∨ k = 6 ∨ k = 7 ∨ k = 8)) ∨ (o = 149 ∧ (k = 1)) ∨ (o = 150)
def S_X11_board (v1 : Int32) : Nat → Nat → Prop := fun o k => (o = 1 ∧ (k = 0 ∨ k = 1 ∨ k = 2 ∨ k = 3 ∨ k = 4 ∨ k = 5 ∨ k = 6 ∨ k = 7 ∨ k = 8)) ∨ (o = 12 ∧ (k = 2 ∨ k = 3 ∨ k = 4 ∨ k = 6 ∨ k = 7 ∨ k = 8 ∨ k = 9 ∨ k = 10)) ∨ (o = 13 ∧ (k = 0 ∨ k = 1 ∨ k = 2 ∨ k = 3 ∨ k = 4 ∨ k = 5 ∨ k = 6 ∨ k = 7 ∨ k = 8)) ∨ (o = 149 ∧ (k = 1)) ∨ (o = 150) ∨ (o = 2 ∧ (k = 1 ∨ k = 2 ∨ k = 3)) ∨ (o = 3) ∨ (o = 4) ∨ (o = 53 ∧ (k = 1)) ∨ (o = 54) ∨ (o = 9 ∧ (k = 0 ∨ k = 1))
