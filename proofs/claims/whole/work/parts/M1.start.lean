/-! the start of the law: what the tables and the premises give -/
theorem ti1 {w : Cond} (i : Nat) (h0 : tables_1_1[i]? = some w) : w ∈ lw_tbl := by
  have h : w ∈ tables_1_1 := List.mem_of_getElem? h0
  exact List.mem_append_right _ (show w ∈ tables_1 from List.mem_append_left _ h)
theorem ti2 {w : Cond} (i : Nat) (h0 : tables_1_2[i]? = some w) : w ∈ lw_tbl := by
  have h : w ∈ tables_1_2 := List.mem_of_getElem? h0
  exact List.mem_append_right _ (show w ∈ tables_1 from List.mem_append_right _ (List.mem_append_left _ h))
theorem ti3 {w : Cond} (i : Nat) (h0 : tables_1_3[i]? = some w) : w ∈ lw_tbl := by
  have h : w ∈ tables_1_3 := List.mem_of_getElem? h0
  exact List.mem_append_right _ (show w ∈ tables_1 from List.mem_append_right _ (List.mem_append_right _ (List.mem_append_left _ h)))
theorem ti4 {w : Cond} (i : Nat) (h0 : tables_1_4[i]? = some w) : w ∈ lw_tbl := by
  have h : w ∈ tables_1_4 := List.mem_of_getElem? h0
  exact List.mem_append_right _ (show w ∈ tables_1 from List.mem_append_right _ (List.mem_append_right _ (List.mem_append_right _ (List.mem_append_left _ h))))
theorem ti5 {w : Cond} (i : Nat) (h0 : tables_1_5[i]? = some w) : w ∈ lw_tbl := by
  have h : w ∈ tables_1_5 := List.mem_of_getElem? h0
  exact List.mem_append_right _ (show w ∈ tables_1 from List.mem_append_right _ (List.mem_append_right _ (List.mem_append_right _ (List.mem_append_right _ (List.mem_append_left _ h)))))
theorem ti6 {w : Cond} (i : Nat) (h0 : tables_1_6[i]? = some w) : w ∈ lw_tbl := by
  have h : w ∈ tables_1_6 := List.mem_of_getElem? h0
  exact List.mem_append_right _ (show w ∈ tables_1 from List.mem_append_right _ (List.mem_append_right _ (List.mem_append_right _ (List.mem_append_right _ (List.mem_append_right _ (List.mem_append_left _ h))))))
theorem ti7 {w : Cond} (i : Nat) (h0 : tables_1_7[i]? = some w) : w ∈ lw_tbl := by
  have h : w ∈ tables_1_7 := List.mem_of_getElem? h0
  exact List.mem_append_right _ (show w ∈ tables_1 from List.mem_append_right _ (List.mem_append_right _ (List.mem_append_right _ (List.mem_append_right _ (List.mem_append_right _ (List.mem_append_right _ (List.mem_append_left _ h)))))))
theorem ti8 {w : Cond} (i : Nat) (h0 : tables_1_8[i]? = some w) : w ∈ lw_tbl := by
  have h : w ∈ tables_1_8 := List.mem_of_getElem? h0
  exact List.mem_append_right _ (show w ∈ tables_1 from List.mem_append_right _ (List.mem_append_right _ (List.mem_append_right _ (List.mem_append_right _ (List.mem_append_right _ (List.mem_append_right _ (List.mem_append_right _ (List.mem_append_left _ h))))))))
theorem ti9 {w : Cond} (i : Nat) (h0 : tables_1_9[i]? = some w) : w ∈ lw_tbl := by
  have h : w ∈ tables_1_9 := List.mem_of_getElem? h0
  exact List.mem_append_right _ (show w ∈ tables_1 from List.mem_append_right _ (List.mem_append_right _ (List.mem_append_right _ (List.mem_append_right _ (List.mem_append_right _ (List.mem_append_right _ (List.mem_append_right _ (List.mem_append_right _ (h)))))))))
def subL : List Cond → List Cond → Bool
  | [], _ => true
  | _ :: _, [] => false
  | a :: r, b :: l => if a = b then subL r l else subL (a :: r) l
theorem subL_in : ∀ l r, subL r l = true → ∀ w ∈ r, w ∈ l := by
  intro l
  induction l with
  | nil =>
    intro r h w hw
    cases r with
    | nil => exact absurd hw List.not_mem_nil
    | cons a r => exact Bool.noConfusion h
  | cons b l ih =>
    intro r h w hw
    cases r with
    | nil => exact absurd hw List.not_mem_nil
    | cons a r =>
      rw [subL] at h
      by_cases c : a = b
      · rw [if_pos c] at h
        rcases List.mem_cons.mp hw with q | q
        · rw [q, c]; exact List.mem_cons_self
        · exact List.mem_cons_of_mem _ (ih r h w q)
      · rw [if_neg c] at h
        exact List.mem_cons_of_mem _ (ih (a :: r) h w hw)
def tmS (i : Nat) : Term := .string (sOwn.getD i "") (sIdx.getD i 0)
def tmV (i : Nat) : Term := .field (tmS i) "java/lang/String" "value" "[B"
def strR (i : Nat) : List Cond := [.exactly (tmS i) "java/lang/String", .eq (.field (tmS i) "java/lang/String" "coder" "B") (.int 0), .arrayOf (tmV i) .byte, .eq (.length (tmV i)) (.int (Int32.ofNat (sL i)))] ++ (List.range (sL i)).map (fun j => .eq (.elem (tmV i) (.int (Int32.ofNat j))) (.int (sB i j)))
set_option maxRecDepth 100000 in
theorem str_ok : subL ((List.range 47).flatMap strR) (flatC (Jvm.Cond.and given_1 narrow_1)) = true := by decide +kernel
def refR (i : Nat) : Cond := .stringRef (sOwn.getD i "") (sIdx.getD i 0) (sTxt.getD i "")
set_option maxRecDepth 100000 in
theorem ref_ok : subL ((List.range 47).map refR) tables_1 = true := by decide +kernel
def oneL : List Cond := [.isRef (.static "java/lang/Throwable" "UNASSIGNED_STACK" "[Ljava/lang/StackTraceElement;"), .isRef (.static "java/lang/Throwable" "SUPPRESSED_SENTINEL" "Ljava/util/List;"), .eq (.static "java/lang/String" "COMPACT_STRINGS" "Z") (.int 1), .isRef (.static "jdk/internal/util/Preconditions" "SIOOBE_FORMATTER" "Ljava/util/function/BiFunction;"), .not (.castable "java/util/NoSuchElementException" "java/lang/IllegalArgumentException"), .not (.castable "java/lang/IllegalStateException" "java/lang/IllegalArgumentException"), .not (.castable "java/lang/IndexOutOfBoundsException" "java/lang/IllegalArgumentException"), .not (.castable "java/lang/IllegalArgumentException" "java/util/NoSuchElementException"), .not (.castable "java/lang/IllegalStateException" "java/util/NoSuchElementException"), .not (.castable "java/lang/IndexOutOfBoundsException" "java/util/NoSuchElementException"), .not (.castable "java/lang/IllegalArgumentException" "java/lang/IllegalStateException"), .not (.castable "java/util/NoSuchElementException" "java/lang/IllegalStateException"), .not (.castable "java/lang/IndexOutOfBoundsException" "java/lang/IllegalStateException"), .not (.castable "java/lang/IllegalArgumentException" "java/lang/IndexOutOfBoundsException"), .not (.castable "java/util/NoSuchElementException" "java/lang/IndexOutOfBoundsException"), .not (.castable "java/lang/IllegalStateException" "java/lang/IndexOutOfBoundsException")]
set_option maxRecDepth 100000 in
theorem one_ok : subL oneL (flatC (Jvm.Cond.and given_1 narrow_1)) = true := by decide +kernel
theorem cls_ok : ∀ (c : Nat) (q : vw_C), vwCl[c]? = some q → (∀ w ∈ u_ws q.1 q.2.1 q.2.2, w ∈ gt) ∧ Cond.instantiable q.1 q.2.2 ∈ gt := by
  intro c q h
  have hc : c < 13 := (List.getElem?_eq_some_iff.mp h).1
  obtain rfl | rfl | rfl | rfl | rfl | rfl | rfl | rfl | rfl | rfl | rfl | rfl | rfl : c = 0 ∨ c = 1 ∨ c = 2 ∨ c = 3 ∨ c = 4 ∨ c = 5 ∨ c = 6 ∨ c = 7 ∨ c = 8 ∨ c = 9 ∨ c = 10 ∨ c = 11 ∨ c = 12 := by omega
  · cases h; exact ⟨inG0, is_X0⟩
  · cases h; exact ⟨inG1, is_X1⟩
  · cases h; exact ⟨inG2, is_X2⟩
  · cases h; exact ⟨inG3, is_X3⟩
  · cases h; exact ⟨inG4, is_X4⟩
  · cases h; exact ⟨inG5, is_X5⟩
  · cases h; exact ⟨inG6, is_X6⟩
  · cases h; exact ⟨inG7, is_X7⟩
  · cases h; exact ⟨inG8, is_X8⟩
  · cases h; exact ⟨inG9, is_X9⟩
  · cases h; exact ⟨inG10, is_X10⟩
  · cases h; exact ⟨inG11, is_X11⟩
  · cases h; exact ⟨inG12, is_X12⟩
theorem arr_ok {s : State} {a : Array Value} {t : FieldType} (h : (Cond.arrayClass t).before a s = true) : ∃ c : ClassId, ArrOfT s c t ∧ s.vm.findClass ("[" ++ t.toString) = some c := by
  obtain ⟨c, k, comp, h1, h2, h3⟩ := Cond.arrayClass_spec (args := a) (first := s) (o := none) (s := s) (idx := []) h
  exact ⟨c, fun n z => ⟨fun k h => (by cases h), k, h2, comp, h3⟩, h1⟩
theorem ovr_ok {s : State} {a : Array Value} {C : String} (h : (Cond.arrayOver (.object C)).before a s = true) : ∃ c : ClassId, ArrOfT s c (.object C) ∧ va_RA s c (.object C) := by
  obtain ⟨comp, c, k, h1, h2, h3, h4, h5⟩ := Cond.arrayOver_spec (args := a) (first := s) (o := none) (s := s) (idx := []) h
  exact ⟨c, fun n z => ⟨fun k h => (by cases h), k, h3, comp, h4⟩, k, comp, h3, h4, h1, h5⟩
def adB (B : Nat) (aK aV : Nat → Nat) (i : Nat) : Nat := if i < 202 then B + pi i else if i < 2000 then aK (i - 1000) else aV (i - 2000)
theorem start_ok {s : State} {b : Nat} (hts : ∀ w ∈ lw_tbl, w.before #[Value.ref b] s = true) (hgv : (Jvm.Cond.and given_1 narrow_1).before #[Value.ref b] s = true) : ∃ g : Gw, GB g s.heap.size ∧ Kn g s ∧ AOs s ∧ Sx g (fun q => s.heap.size ≤ q) s s.heap := by
  have hs := flat_of_before _ hgv
  have hA : ∀ a : Nat, a < s.heap.size → ¬ (fun q : Nat => s.heap.size ≤ q) a := fun a h q => Nat.not_le.mpr h q
  have hgt : ∀ w ∈ gt, w.before #[Value.ref b] s = true := fun w h => hts w (List.mem_filter.mp h).1
  have hstr : ∀ i, i < 47 → ∀ w ∈ strR i, w.before #[Value.ref b] s = true := fun i hi w hw => hs w (subL_in _ _ str_ok w (List.mem_flatMap.mpr ⟨i, List.mem_range.mpr hi, hw⟩))
  have hone : ∀ (k : Nat) (w : Cond), oneL[k]? = some w → w.before #[Value.ref b] s = true := fun k w h => hs w (subL_in _ _ one_ok w (List.mem_of_getElem? h))
  have href : ∀ i, i < 47 → (refR i).before #[Value.ref b] s = true := fun i hi => hts _ (List.mem_append_right _ (subL_in _ _ ref_ok _ (List.mem_map.mpr ⟨i, List.mem_range.mpr hi, rfl⟩)))
  have hlen : ∀ i, i < 47 → sL i < 2 ^ 31 := by decide +kernel
  -- the classes
  have hcl : ∀ c : Nat, ∃ d : ClassId × (Nat → Nat), ∀ q : vw_C, vwCl[c]? = some q → u_Kn s q.1 q.2.1 q.2.2 d.1 d.2 := fun c => by
    cases h : vwCl[c]? with
    | none => exact ⟨(default, fun _ => 0), fun q e => by cases e⟩
    | some q =>
      obtain ⟨h1, h2⟩ := cls_ok c q h
      obtain ⟨cC, iS, hk⟩ := u_known hgt h1 (hgt _ h2)
      exact ⟨(cC, iS), fun q' e => by cases e; exact hk⟩
  obtain ⟨D, hD⟩ := Classical.axiomOfChoice hcl
  -- the arrays' classes
  obtain ⟨cI, i1, i2⟩ := arr_ok (t := .int) (hgt _ aw_int)
  obtain ⟨cJ, j1, j2⟩ := arr_ok (t := .long) (hgt _ aw_long)
  obtain ⟨cZ, z1, z2⟩ := arr_ok (t := .boolean) (hgt _ aw_boolean)
  have o3 := hts (.arrayOver (.object "SowingHouse$Scene")) (ti1 163 rfl)
  have o4 := hts (.arrayOver (.object "SowingHouse$Tray")) (ti2 188 rfl)
  have o5 := hts (.arrayOver (.object "SowingHouse$Image")) (ti2 190 rfl)
  obtain ⟨cS, s1, s2⟩ := ovr_ok o3
  obtain ⟨cT, t1, t2⟩ := ovr_ok o4
  obtain ⟨cM, m1, m2⟩ := ovr_ok o5
  -- the Strings
  have h0 : ∀ i : Nat, ∃ q : Nat × Nat, i < 47 → (tmS i).eval #[Value.ref b] s none [] s = some (.ref q.1) ∧ va_O "java/lang/String" q.1 (fun q => s.heap.size ≤ q) s s.heap ∧ va_OF "java/lang/String" "coder" "B" (.int 0) q.1 (fun q => s.heap.size ≤ q) s s.heap ∧ va_OF "java/lang/String" "value" "[B" (.ref q.2) q.1 (fun q => s.heap.size ≤ q) s s.heap ∧ va_T .byte q.2 (sL i) (fun j => .int (sB i j)) (fun q => s.heap.size ≤ q) s s.heap := by
    intro i
    by_cases hi : i < 47
    · have e0 := hstr i hi _ (List.mem_append_left _ (List.mem_of_getElem? (i := 0) rfl))
      have e1 := hstr i hi _ (List.mem_append_left _ (List.mem_of_getElem? (i := 1) rfl))
      have e2 := hstr i hi _ (List.mem_append_left _ (List.mem_of_getElem? (i := 2) rfl))
      have e3 := hstr i hi _ (List.mem_append_left _ (List.mem_of_getElem? (i := 3) rfl))
      obtain ⟨a, c, cA, kA, q1, q2, q3, q4, q5, q6, -⟩ := Cond.exactly_spec (args := #[Value.ref b]) (first := s) (o := none) (s := s) (idx := []) (t := tmS i) (cls := "java/lang/String") e0
      obtain ⟨t, ht, hT⟩ := va_Tof (f := fun j => .int (sB i j)) (A := fun q => s.heap.size ≤ q) (hlen i hi) e2 (va_eqt e3) (fun j hj => va_eqt (hstr i hi _ (List.mem_append_right _ (List.mem_map.mpr ⟨j, List.mem_range.mpr hj, rfl⟩)))) hA
      exact ⟨(a, t), fun _ => ⟨q1, ⟨cA, q3, q5, by rw [q6]; exact q2, hA a (Array.getElem?_eq_some_iff.mp q3).1⟩, vk_OFof q1 (va_eqt e1) hA, vk_OFof q1 ht hA, hT⟩⟩
    · exact ⟨(0, 0), fun h => absurd h hi⟩
  obtain ⟨ad, had⟩ := Classical.axiomOfChoice h0
  refine ⟨((fun c => (D c).1, fun c => (D c).2), fun k => if k = 0 then cI else if k = 1 then cJ else if k = 2 then cZ else if k = 3 then cS else if k = 4 then cT else cM, adB s.heap.size (fun i => (ad i).1) (fun i => (ad i).2)), fun i hi => if_pos hi, ⟨⟨fun c q h => hD c q h, fun k q h => ?_⟩, ⟨fun w hw => ?_, fun i j hi hj hij => ?_⟩, fun i j hi hj h => ?_⟩, ⟨va_AO.of o3, va_AO.of o4, va_AO.of o5⟩, fun i hi => ?_, ?_, ?_, ?_, ?_⟩
  · have hk : k < 6 := (List.getElem?_eq_some_iff.mp h).1
    obtain rfl | rfl | rfl | rfl | rfl | rfl : k = 0 ∨ k = 1 ∨ k = 2 ∨ k = 3 ∨ k = 4 ∨ k = 5 := by omega
    · cases h; exact ⟨i1, i2⟩
    · cases h; exact ⟨j1, j2⟩
    · cases h; exact ⟨z1, z2⟩
    · cases h; exact ⟨s1, s2⟩
    · cases h; exact ⟨t1, t2⟩
    · cases h; exact ⟨m1, m2⟩
  · have h1 := (List.mem_filter.mp hw).2
    have h2 := hts w (List.mem_filter.mp hw).1
    cases w <;> simp [isNest] at h1
    · exact va_Nw.of rfl h2
    · exact va_Nw.of rfl h2
    · exact va_Nw.of rfl h2
  · obtain rfl | rfl | rfl | rfl : i = 0 ∨ i = 1 ∨ i = 2 ∨ i = 3 := by omega
    all_goals obtain rfl | rfl | rfl | rfl : j = 0 ∨ j = 1 ∨ j = 2 ∨ j = 3 := by omega
    · exact absurd rfl hij
    · exact va_Nc.of (hone 4 _ rfl)
    · exact va_Nc.of (hone 11 _ rfl)
    · exact va_Nc.of (hone 14 _ rfl)
    · exact va_Nc.of (hone 7 _ rfl)
    · exact absurd rfl hij
    · exact va_Nc.of (hone 10 _ rfl)
    · exact va_Nc.of (hone 13 _ rfl)
    · exact va_Nc.of (hone 8 _ rfl)
    · exact va_Nc.of (hone 5 _ rfl)
    · exact absurd rfl hij
    · exact va_Nc.of (hone 15 _ rfl)
    · exact va_Nc.of (hone 9 _ rfl)
    · exact va_Nc.of (hone 6 _ rfl)
    · exact va_Nc.of (hone 12 _ rfl)
    · exact absurd rfl hij
  · have e1 : adB s.heap.size (fun i => (ad i).1) (fun i => (ad i).2) i = s.heap.size + pi i := if_pos hi
    have e2 : adB s.heap.size (fun i => (ad i).1) (fun i => (ad i).2) j = s.heap.size + pi j := if_pos hj
    have h3 : adB s.heap.size (fun i => (ad i).1) (fun i => (ad i).2) i = adB s.heap.size (fun i => (ad i).1) (fun i => (ad i).2) j := h
    rw [e1, e2] at h3
    exact pi_inj hi hj (by omega)
  · have e1 : adB s.heap.size (fun i => (ad i).1) (fun i => (ad i).2) (1000 + i) = (ad i).1 := by
      unfold adB
      rw [if_neg (by omega), if_pos (by omega), Nat.add_sub_cancel_left]
    have e2 : adB s.heap.size (fun i => (ad i).1) (fun i => (ad i).2) (2000 + i) = (ad i).2 := by
      unfold adB
      rw [if_neg (by omega), if_neg (by omega), Nat.add_sub_cancel_left]
    obtain ⟨h1, h2, h3, h4, h5⟩ := had i hi
    dsimp only
    rw [e1, e2]
    exact ⟨h2, h3, h4, h5, vk_R.of (href i hi) h1⟩
  · exact va_Zof (hts (.laysStatic "java/lang/String" "COMPACT_STRINGS" "Z") (ti4 221 rfl)) (hts (.initialized "java/lang/String") (ti1 19 rfl)) (va_eqi (hone 2 _ rfl)) hA
  · exact va_Zqof (hts (.laysStatic "jdk/internal/util/Preconditions" "SIOOBE_FORMATTER" "Ljava/util/function/BiFunction;") (ti4 237 rfl)) (hts (.initialized "jdk/internal/util/Preconditions") (ti1 21 rfl)) (hone 3 _ rfl) hA
  · exact vx_Zqof (hts (.laysStatic "java/lang/Throwable" "UNASSIGNED_STACK" "[Ljava/lang/StackTraceElement;") (ti4 128 rfl)) (hts (.initialized "java/lang/Throwable") (ti1 15 rfl)) (hone 0 _ rfl) hA
  · exact vx_Zqof (hts (.laysStatic "java/lang/Throwable" "SUPPRESSED_SENTINEL" "Ljava/util/List;") (ti4 130 rfl)) (hts (.initialized "java/lang/Throwable") (ti1 15 rfl)) (hone 1 _ rfl) hA
