/-! the law's loop answers 1 -/
theorem lawA {F : Option (Int32 × Mu)} {g : Mu → Option (Int32 × Mu)} {K : Mu → Option (Int32 × Mu)} {Q : Int32 → Mu → Prop} (h : CAx F g) (hK : ∀ μ2, INV μ2 → Ok (K μ2) Q) : Ok (F.bind (fun r => (g r.2).bind (fun q => if r.1 = q.1 then K q.2 else some ((0 : Int32), q.2)))) Q := by
  obtain ⟨a, μ1, μ2, e1, e2, h2⟩ := h
  rw [bS e1]
  dsimp only
  rw [bS e2]
  dsimp only
  rw [if_pos rfl]
  exact hK μ2 h2
theorem thrown_s (n : Nat) (μ : Mu) : X12_thrown n μ = some (μ.1 171 5, μ) := rfl
theorem lawB {F : Option (Int32 × Mu)} {g : Mu → Option (Int32 × Mu)} {K : Mu → Option (Int32 × Mu)} {Q : Int32 → Mu → Prop} (n : Nat) (h : CBx F g) (hK : ∀ μ2, INV μ2 → Ok (K μ2) Q) : Ok (F.bind (fun r => (g r.2).bind (fun q => (X12_thrown n q.2).bind (fun t => if t.1 = r.1 then (if r.1 = 0 then (if lg_cmp (t.2.2 201 0) (q.1.toInt64) = 0 then K t.2 else some ((0 : Int32), t.2)) else K t.2) else some ((0 : Int32), t.2))))) Q := by
  obtain ⟨k, μ1, b, μ2, e1, e2, e3, e4, h2⟩ := h
  rw [bS e1]
  dsimp only
  rw [bS e2]
  dsimp only
  rw [bS (thrown_s n μ2)]
  dsimp only
  rw [if_pos e3]
  by_cases z : k = 0
  · rw [if_pos z, if_pos (lg_eq.mpr (e4 z))]
    exact hK μ2 h2
  · rw [if_neg z]
    exact hK μ2 h2
theorem lawV {F : Option (Int32 × Mu)} {g : Mu → Option (Unit × Mu)} {K : Mu → Option (Int32 × Mu)} {Q : Int32 → Mu → Prop} (n : Nat) (h : CVx F g) (hK : ∀ μ2, INV μ2 → Ok (K μ2) Q) : Ok (F.bind (fun r => (g r.2).bind (fun q => (X12_thrown n q.2).bind (fun t => if t.1 = r.1 then K t.2 else some ((0 : Int32), t.2))))) Q := by
  obtain ⟨k, μ1, μ2, e1, e2, e3, h2⟩ := h
  rw [bS e1]
  dsimp only
  rw [bS e2]
  dsimp only
  rw [bS (thrown_s n μ2)]
  dsimp only
  rw [if_pos e3]
  exact hK μ2 h2
theorem lawW {F : Option (Int32 × Mu)} {g : Mu → Option (Int64 × Mu)} {K : Mu → Option (Int32 × Mu)} {Q : Int32 → Mu → Prop} (n : Nat) (h : CWx F g) (hK : ∀ μ2, INV μ2 → Ok (K μ2) Q) : Ok (F.bind (fun r => (g r.2).bind (fun q => (X12_thrown n q.2).bind (fun t => if t.1 = r.1 then (if r.1 = 0 then (if lg_cmp (t.2.2 201 0) q.1 = 0 then K t.2 else some ((0 : Int32), t.2)) else K t.2) else some ((0 : Int32), t.2))))) Q := by
  obtain ⟨k, μ1, b, μ2, e1, e2, e3, e4, h2⟩ := h
  rw [bS e1]
  dsimp only
  rw [bS e2]
  dsimp only
  rw [bS (thrown_s n μ2)]
  dsimp only
  rw [if_pos e3]
  by_cases z : k = 0
  · rw [if_pos z, if_pos (lg_eq.mpr (e4 z))]
    exact hK μ2 h2
  · rw [if_neg z]
    exact hK μ2 h2
/-- the board call, as the composition wants it -/
def BRD (n : Nat) : Prop := ∀ (μ : Mu) (v : Int32), INV μ → CBx (L_board n v μ) (X12_board n v)
def GDL (L : Nat) (v4 : Int32) : Prop := ∀ (R : Type) (k : Int32), 0 < k → k ≤ 5 → ∀ x : Option R, gd (v4 + k) L x = x
theorem K_feed (n L : Nat) (xs : Nat → Int32) (K : Int32 → Mu → Option (Int32 × Mu)) (v4 : Int32) (μ : Mu) {Q : Int32 → Mu → Prop} (hn : 20000 < n) (hI : INV μ) (hB : BRD n) (hg : GDL L v4) (hK : ∀ μ2, INV μ2 → Ok (law_2193 n L xs K v4 μ2) Q) : Ok (law_224 n L xs K v4 μ) Q := by
  unfold law_224
  rw [hg _ 1 (by decide) (by decide), hg _ 2 (by decide) (by decide), hg _ 3 (by decide) (by decide), hg _ 4 (by decide) (by decide), hg _ 5 (by decide) (by decide)]
  refine lawA ?_ hK
  apply call_feed
  · exact hI
  all_goals omega
theorem K_board (n L : Nat) (xs : Nat → Int32) (K : Int32 → Mu → Option (Int32 × Mu)) (v4 : Int32) (μ : Mu) {Q : Int32 → Mu → Prop} (hn : 20000 < n) (hI : INV μ) (hB : BRD n) (hg : GDL L v4) (hK : ∀ μ2, INV μ2 → Ok (law_2193 n L xs K v4 μ2) Q) : Ok (law_297 n L xs K v4 μ) Q := by
  unfold law_297 law_350
  rw [hg _ 1 (by decide) (by decide)]
  refine lawB n ?_ hK
  exact hB _ _ hI
theorem K_fault (n L : Nat) (xs : Nat → Int32) (K : Int32 → Mu → Option (Int32 × Mu)) (v4 : Int32) (μ : Mu) {Q : Int32 → Mu → Prop} (hn : 20000 < n) (hI : INV μ) (hB : BRD n) (hg : GDL L v4) (hK : ∀ μ2, INV μ2 → Ok (law_2193 n L xs K v4 μ2) Q) : Ok (law_353 n L xs K v4 μ) Q := by
  unfold law_353
  rw [hg _ 1 (by decide) (by decide)]
  refine lawA ?_ hK
  apply call_fault
  · exact hI
  all_goals omega
theorem K_pit (n L : Nat) (xs : Nat → Int32) (K : Int32 → Mu → Option (Int32 × Mu)) (v4 : Int32) (μ : Mu) {Q : Int32 → Mu → Prop} (hn : 20000 < n) (hI : INV μ) (hB : BRD n) (hg : GDL L v4) (hK : ∀ μ2, INV μ2 → Ok (law_2193 n L xs K v4 μ2) Q) : Ok (law_378 n L xs K v4 μ) Q := by
  unfold law_378 law_431
  rw [hg _ 1 (by decide) (by decide)]
  refine lawB n ?_ hK
  apply call_pit
  · exact hI
  all_goals omega
theorem K_store (n L : Nat) (xs : Nat → Int32) (K : Int32 → Mu → Option (Int32 × Mu)) (v4 : Int32) (μ : Mu) {Q : Int32 → Mu → Prop} (hn : 20000 < n) (hI : INV μ) (hB : BRD n) (hg : GDL L v4) (hK : ∀ μ2, INV μ2 → Ok (law_2193 n L xs K v4 μ2) Q) : Ok (law_434 n L xs K v4 μ) Q := by
  unfold law_434 law_487
  rw [hg _ 1 (by decide) (by decide)]
  refine lawB n ?_ hK
  apply call_store
  · exact hI
  all_goals omega
theorem K_mover (n L : Nat) (xs : Nat → Int32) (K : Int32 → Mu → Option (Int32 × Mu)) (v4 : Int32) (μ : Mu) {Q : Int32 → Mu → Prop} (hn : 20000 < n) (hI : INV μ) (hB : BRD n) (hg : GDL L v4) (hK : ∀ μ2, INV μ2 → Ok (law_2193 n L xs K v4 μ2) Q) : Ok (law_490 n L xs K v4 μ) Q := by
  unfold law_490
  refine lawA ?_ hK
  apply call_mover
  · exact hI
  all_goals omega
theorem K_may (n L : Nat) (xs : Nat → Int32) (K : Int32 → Mu → Option (Int32 × Mu)) (v4 : Int32) (μ : Mu) {Q : Int32 → Mu → Prop} (hn : 20000 < n) (hI : INV μ) (hB : BRD n) (hg : GDL L v4) (hK : ∀ μ2, INV μ2 → Ok (law_2193 n L xs K v4 μ2) Q) : Ok (law_503 n L xs K v4 μ) Q := by
  unfold law_503
  rw [hg _ 1 (by decide) (by decide)]
  refine lawA ?_ hK
  apply call_may
  · exact hI
  all_goals omega
theorem K_move (n L : Nat) (xs : Nat → Int32) (K : Int32 → Mu → Option (Int32 × Mu)) (v4 : Int32) (μ : Mu) {Q : Int32 → Mu → Prop} (hn : 20000 < n) (hI : INV μ) (hB : BRD n) (hg : GDL L v4) (hK : ∀ μ2, INV μ2 → Ok (law_2193 n L xs K v4 μ2) Q) : Ok (law_528 n L xs K v4 μ) Q := by
  unfold law_528
  rw [hg _ 1 (by decide) (by decide)]
  refine lawA ?_ hK
  apply call_move
  · exact hI
  all_goals omega
theorem K_sown (n L : Nat) (xs : Nat → Int32) (K : Int32 → Mu → Option (Int32 × Mu)) (v4 : Int32) (μ : Mu) {Q : Int32 → Mu → Prop} (hn : 20000 < n) (hI : INV μ) (hB : BRD n) (hg : GDL L v4) (hK : ∀ μ2, INV μ2 → Ok (law_2193 n L xs K v4 μ2) Q) : Ok (law_553 n L xs K v4 μ) Q := by
  unfold law_553 law_618
  rw [hg _ 1 (by decide) (by decide), hg _ 2 (by decide) (by decide)]
  refine lawB n ?_ hK
  apply call_sown
  · exact hI
  all_goals omega
theorem K_undo (n L : Nat) (xs : Nat → Int32) (K : Int32 → Mu → Option (Int32 × Mu)) (v4 : Int32) (μ : Mu) {Q : Int32 → Mu → Prop} (hn : 20000 < n) (hI : INV μ) (hB : BRD n) (hg : GDL L v4) (hK : ∀ μ2, INV μ2 → Ok (law_2193 n L xs K v4 μ2) Q) : Ok (law_621 n L xs K v4 μ) Q := by
  unfold law_621
  refine lawA ?_ hK
  apply call_undo
  · exact hI
  all_goals omega
theorem K_redo (n L : Nat) (xs : Nat → Int32) (K : Int32 → Mu → Option (Int32 × Mu)) (v4 : Int32) (μ : Mu) {Q : Int32 → Mu → Prop} (hn : 20000 < n) (hI : INV μ) (hB : BRD n) (hg : GDL L v4) (hK : ∀ μ2, INV μ2 → Ok (law_2193 n L xs K v4 μ2) Q) : Ok (law_634 n L xs K v4 μ) Q := by
  unfold law_634
  refine lawA ?_ hK
  apply call_redo
  · exact hI
  all_goals omega
theorem K_over (n L : Nat) (xs : Nat → Int32) (K : Int32 → Mu → Option (Int32 × Mu)) (v4 : Int32) (μ : Mu) {Q : Int32 → Mu → Prop} (hn : 20000 < n) (hI : INV μ) (hB : BRD n) (hg : GDL L v4) (hK : ∀ μ2, INV μ2 → Ok (law_2193 n L xs K v4 μ2) Q) : Ok (law_647 n L xs K v4 μ) Q := by
  unfold law_647
  refine lawA ?_ hK
  apply call_over
  · exact hI
  all_goals omega
theorem K_score (n L : Nat) (xs : Nat → Int32) (K : Int32 → Mu → Option (Int32 × Mu)) (v4 : Int32) (μ : Mu) {Q : Int32 → Mu → Prop} (hn : 20000 < n) (hI : INV μ) (hB : BRD n) (hg : GDL L v4) (hK : ∀ μ2, INV μ2 → Ok (law_2193 n L xs K v4 μ2) Q) : Ok (law_660 n L xs K v4 μ) Q := by
  unfold law_660
  refine lawA ?_ hK
  apply call_score
  · exact hI
  all_goals omega
theorem K_judge (n L : Nat) (xs : Nat → Int32) (K : Int32 → Mu → Option (Int32 × Mu)) (v4 : Int32) (μ : Mu) {Q : Int32 → Mu → Prop} (hn : 20000 < n) (hI : INV μ) (hB : BRD n) (hg : GDL L v4) (hK : ∀ μ2, INV μ2 → Ok (law_2193 n L xs K v4 μ2) Q) : Ok (law_673 n L xs K v4 μ) Q := by
  unfold law_673 law_738
  rw [hg _ 1 (by decide) (by decide), hg _ 2 (by decide) (by decide)]
  refine lawB n ?_ hK
  apply call_judge
  · exact hI
  all_goals omega
theorem K_perform (n L : Nat) (xs : Nat → Int32) (K : Int32 → Mu → Option (Int32 × Mu)) (v4 : Int32) (μ : Mu) {Q : Int32 → Mu → Prop} (hn : 20000 < n) (hI : INV μ) (hB : BRD n) (hg : GDL L v4) (hK : ∀ μ2, INV μ2 → Ok (law_2193 n L xs K v4 μ2) Q) : Ok (law_741 n L xs K v4 μ) Q := by
  unfold law_741 law_794
  rw [hg _ 1 (by decide) (by decide)]
  refine lawB n ?_ hK
  apply call_perform
  · exact hI
  all_goals omega
theorem K_positions (n L : Nat) (xs : Nat → Int32) (K : Int32 → Mu → Option (Int32 × Mu)) (v4 : Int32) (μ : Mu) {Q : Int32 → Mu → Prop} (hn : 20000 < n) (hI : INV μ) (hB : BRD n) (hg : GDL L v4) (hK : ∀ μ2, INV μ2 → Ok (law_2193 n L xs K v4 μ2) Q) : Ok (law_797 n L xs K v4 μ) Q := by
  unfold law_797 law_862
  rw [hg _ 1 (by decide) (by decide), hg _ 2 (by decide) (by decide)]
  refine lawB n ?_ hK
  apply call_positions
  · exact hI
  all_goals omega
theorem K_place (n L : Nat) (xs : Nat → Int32) (K : Int32 → Mu → Option (Int32 × Mu)) (v4 : Int32) (μ : Mu) {Q : Int32 → Mu → Prop} (hn : 20000 < n) (hI : INV μ) (hB : BRD n) (hg : GDL L v4) (hK : ∀ μ2, INV μ2 → Ok (law_2193 n L xs K v4 μ2) Q) : Ok (law_865 n L xs K v4 μ) Q := by
  unfold law_865
  refine lawA ?_ hK
  apply call_place
  · exact hI
  all_goals omega
theorem K_ofPlace (n L : Nat) (xs : Nat → Int32) (K : Int32 → Mu → Option (Int32 × Mu)) (v4 : Int32) (μ : Mu) {Q : Int32 → Mu → Prop} (hn : 20000 < n) (hI : INV μ) (hB : BRD n) (hg : GDL L v4) (hK : ∀ μ2, INV μ2 → Ok (law_2193 n L xs K v4 μ2) Q) : Ok (law_878 n L xs K v4 μ) Q := by
  unfold law_878 law_967
  rw [hg _ 1 (by decide) (by decide), hg _ 2 (by decide) (by decide), hg _ 3 (by decide) (by decide), hg _ 4 (by decide) (by decide)]
  refine lawB n ?_ hK
  apply call_ofPlace
  · exact hI
  all_goals omega
theorem K_value (n L : Nat) (xs : Nat → Int32) (K : Int32 → Mu → Option (Int32 × Mu)) (v4 : Int32) (μ : Mu) {Q : Int32 → Mu → Prop} (hn : 20000 < n) (hI : INV μ) (hB : BRD n) (hg : GDL L v4) (hK : ∀ μ2, INV μ2 → Ok (law_2193 n L xs K v4 μ2) Q) : Ok (law_970 n L xs K v4 μ) Q := by
  unfold law_970
  refine lawA ?_ hK
  apply call_value
  · exact hI
  all_goals omega
theorem K_rank (n L : Nat) (xs : Nat → Int32) (K : Int32 → Mu → Option (Int32 × Mu)) (v4 : Int32) (μ : Mu) {Q : Int32 → Mu → Prop} (hn : 20000 < n) (hI : INV μ) (hB : BRD n) (hg : GDL L v4) (hK : ∀ μ2, INV μ2 → Ok (law_2193 n L xs K v4 μ2) Q) : Ok (law_983 n L xs K v4 μ) Q := by
  unfold law_983
  refine lawA ?_ hK
  apply call_rank
  · exact hI
  all_goals omega
theorem K_best (n L : Nat) (xs : Nat → Int32) (K : Int32 → Mu → Option (Int32 × Mu)) (v4 : Int32) (μ : Mu) {Q : Int32 → Mu → Prop} (hn : 20000 < n) (hI : INV μ) (hB : BRD n) (hg : GDL L v4) (hK : ∀ μ2, INV μ2 → Ok (law_2193 n L xs K v4 μ2) Q) : Ok (law_996 n L xs K v4 μ) Q := by
  unfold law_996
  refine lawA ?_ hK
  apply call_best
  · exact hI
  all_goals omega
theorem K_worth (n L : Nat) (xs : Nat → Int32) (K : Int32 → Mu → Option (Int32 × Mu)) (v4 : Int32) (μ : Mu) {Q : Int32 → Mu → Prop} (hn : 20000 < n) (hI : INV μ) (hB : BRD n) (hg : GDL L v4) (hK : ∀ μ2, INV μ2 → Ok (law_2193 n L xs K v4 μ2) Q) : Ok (law_1009 n L xs K v4 μ) Q := by
  unfold law_1009
  rw [hg _ 1 (by decide) (by decide)]
  refine lawA ?_ hK
  apply call_worth
  · exact hI
  all_goals omega
theorem K_valueOf (n L : Nat) (xs : Nat → Int32) (K : Int32 → Mu → Option (Int32 × Mu)) (v4 : Int32) (μ : Mu) {Q : Int32 → Mu → Prop} (hn : 20000 < n) (hI : INV μ) (hB : BRD n) (hg : GDL L v4) (hK : ∀ μ2, INV μ2 → Ok (law_2193 n L xs K v4 μ2) Q) : Ok (law_1034 n L xs K v4 μ) Q := by
  unfold law_1034 law_1111
  rw [hg _ 1 (by decide) (by decide), hg _ 2 (by decide) (by decide), hg _ 3 (by decide) (by decide)]
  refine lawB n ?_ hK
  apply call_valueOf
  · exact hI
  all_goals omega
theorem K_tally (n L : Nat) (xs : Nat → Int32) (K : Int32 → Mu → Option (Int32 × Mu)) (v4 : Int32) (μ : Mu) {Q : Int32 → Mu → Prop} (hn : 20000 < n) (hI : INV μ) (hB : BRD n) (hg : GDL L v4) (hK : ∀ μ2, INV μ2 → Ok (law_2193 n L xs K v4 μ2) Q) : Ok (law_1114 n L xs K v4 μ) Q := by
  unfold law_1114 law_1191
  rw [hg _ 1 (by decide) (by decide), hg _ 2 (by decide) (by decide), hg _ 3 (by decide) (by decide)]
  refine lawB n ?_ hK
  apply call_tally
  · exact hI
  all_goals omega
theorem K_row (n L : Nat) (xs : Nat → Int32) (K : Int32 → Mu → Option (Int32 × Mu)) (v4 : Int32) (μ : Mu) {Q : Int32 → Mu → Prop} (hn : 20000 < n) (hI : INV μ) (hB : BRD n) (hg : GDL L v4) (hK : ∀ μ2, INV μ2 → Ok (law_2193 n L xs K v4 μ2) Q) : Ok (law_1194 n L xs K v4 μ) Q := by
  unfold law_1194 law_1283
  rw [hg _ 1 (by decide) (by decide), hg _ 2 (by decide) (by decide), hg _ 3 (by decide) (by decide), hg _ 4 (by decide) (by decide)]
  refine lawB n ?_ hK
  apply call_row
  · exact hI
  all_goals omega
theorem K_find (n L : Nat) (xs : Nat → Int32) (K : Int32 → Mu → Option (Int32 × Mu)) (v4 : Int32) (μ : Mu) {Q : Int32 → Mu → Prop} (hn : 20000 < n) (hI : INV μ) (hB : BRD n) (hg : GDL L v4) (hK : ∀ μ2, INV μ2 → Ok (law_2193 n L xs K v4 μ2) Q) : Ok (law_1286 n L xs K v4 μ) Q := by
  unfold law_1286 law_1375
  rw [hg _ 1 (by decide) (by decide), hg _ 2 (by decide) (by decide), hg _ 3 (by decide) (by decide), hg _ 4 (by decide) (by decide)]
  refine lawB n ?_ hK
  apply call_find
  · exact hI
  all_goals omega
theorem K_most (n L : Nat) (xs : Nat → Int32) (K : Int32 → Mu → Option (Int32 × Mu)) (v4 : Int32) (μ : Mu) {Q : Int32 → Mu → Prop} (hn : 20000 < n) (hI : INV μ) (hB : BRD n) (hg : GDL L v4) (hK : ∀ μ2, INV μ2 → Ok (law_2193 n L xs K v4 μ2) Q) : Ok (law_1378 n L xs K v4 μ) Q := by
  unfold law_1378 law_1455
  rw [hg _ 1 (by decide) (by decide), hg _ 2 (by decide) (by decide), hg _ 3 (by decide) (by decide)]
  refine lawB n ?_ hK
  apply call_most
  · exact hI
  all_goals omega
theorem K_swapped (n L : Nat) (xs : Nat → Int32) (K : Int32 → Mu → Option (Int32 × Mu)) (v4 : Int32) (μ : Mu) {Q : Int32 → Mu → Prop} (hn : 20000 < n) (hI : INV μ) (hB : BRD n) (hg : GDL L v4) (hK : ∀ μ2, INV μ2 → Ok (law_2193 n L xs K v4 μ2) Q) : Ok (law_1458 n L xs K v4 μ) Q := by
  unfold law_1458
  refine lawA ?_ hK
  apply call_swapped
  · exact hI
  all_goals omega
theorem K_line (n L : Nat) (xs : Nat → Int32) (K : Int32 → Mu → Option (Int32 × Mu)) (v4 : Int32) (μ : Mu) {Q : Int32 → Mu → Prop} (hn : 20000 < n) (hI : INV μ) (hB : BRD n) (hg : GDL L v4) (hK : ∀ μ2, INV μ2 → Ok (law_2193 n L xs K v4 μ2) Q) : Ok (law_1471 n L xs K v4 μ) Q := by
  unfold law_1471 law_1524
  rw [hg _ 1 (by decide) (by decide)]
  refine lawB n ?_ hK
  apply call_line
  · exact hI
  all_goals omega
theorem K_plays (n L : Nat) (xs : Nat → Int32) (K : Int32 → Mu → Option (Int32 × Mu)) (v4 : Int32) (μ : Mu) {Q : Int32 → Mu → Prop} (hn : 20000 < n) (hI : INV μ) (hB : BRD n) (hg : GDL L v4) (hK : ∀ μ2, INV μ2 → Ok (law_2193 n L xs K v4 μ2) Q) : Ok (law_1527 n L xs K v4 μ) Q := by
  unfold law_1527 law_1580
  rw [hg _ 1 (by decide) (by decide)]
  refine lawB n ?_ hK
  apply call_plays
  · exact hI
  all_goals omega
theorem K_reached (n L : Nat) (xs : Nat → Int32) (K : Int32 → Mu → Option (Int32 × Mu)) (v4 : Int32) (μ : Mu) {Q : Int32 → Mu → Prop} (hn : 20000 < n) (hI : INV μ) (hB : BRD n) (hg : GDL L v4) (hK : ∀ μ2, INV μ2 → Ok (law_2193 n L xs K v4 μ2) Q) : Ok (law_1583 n L xs K v4 μ) Q := by
  unfold law_1583 law_1636
  rw [hg _ 1 (by decide) (by decide)]
  refine lawB n ?_ hK
  apply call_reached
  · exact hI
  all_goals omega
theorem K_soonest (n L : Nat) (xs : Nat → Int32) (K : Int32 → Mu → Option (Int32 × Mu)) (v4 : Int32) (μ : Mu) {Q : Int32 → Mu → Prop} (hn : 20000 < n) (hI : INV μ) (hB : BRD n) (hg : GDL L v4) (hK : ∀ μ2, INV μ2 → Ok (law_2193 n L xs K v4 μ2) Q) : Ok (law_1639 n L xs K v4 μ) Q := by
  unfold law_1639
  rw [hg _ 1 (by decide) (by decide)]
  refine lawA ?_ hK
  apply call_soonest
  · exact hI
  all_goals omega
theorem K_pits (n L : Nat) (xs : Nat → Int32) (K : Int32 → Mu → Option (Int32 × Mu)) (v4 : Int32) (μ : Mu) {Q : Int32 → Mu → Prop} (hn : 20000 < n) (hI : INV μ) (hB : BRD n) (hg : GDL L v4) (hK : ∀ μ2, INV μ2 → Ok (law_2193 n L xs K v4 μ2) Q) : Ok (law_1664 n L xs K v4 μ) Q := by
  unfold law_1664 law_1717
  rw [hg _ 1 (by decide) (by decide)]
  refine lawB n ?_ hK
  apply call_pits
  · exact hI
  all_goals omega
theorem K_forced (n L : Nat) (xs : Nat → Int32) (K : Int32 → Mu → Option (Int32 × Mu)) (v4 : Int32) (μ : Mu) {Q : Int32 → Mu → Prop} (hn : 20000 < n) (hI : INV μ) (hB : BRD n) (hg : GDL L v4) (hK : ∀ μ2, INV μ2 → Ok (law_2193 n L xs K v4 μ2) Q) : Ok (law_1720 n L xs K v4 μ) Q := by
  unfold law_1720
  refine lawA ?_ hK
  apply call_forced
  · exact hI
  all_goals omega
theorem K_play (n L : Nat) (xs : Nat → Int32) (K : Int32 → Mu → Option (Int32 × Mu)) (v4 : Int32) (μ : Mu) {Q : Int32 → Mu → Prop} (hn : 20000 < n) (hI : INV μ) (hB : BRD n) (hg : GDL L v4) (hK : ∀ μ2, INV μ2 → Ok (law_2193 n L xs K v4 μ2) Q) : Ok (law_1733 n L xs K v4 μ) Q := by
  unfold law_1733 law_1798
  rw [hg _ 1 (by decide) (by decide), hg _ 2 (by decide) (by decide)]
  refine lawB n ?_ hK
  apply call_play
  · exact hI
  all_goals omega
theorem K_against (n L : Nat) (xs : Nat → Int32) (K : Int32 → Mu → Option (Int32 × Mu)) (v4 : Int32) (μ : Mu) {Q : Int32 → Mu → Prop} (hn : 20000 < n) (hI : INV μ) (hB : BRD n) (hg : GDL L v4) (hK : ∀ μ2, INV μ2 → Ok (law_2193 n L xs K v4 μ2) Q) : Ok (law_1801 n L xs K v4 μ) Q := by
  unfold law_1801 law_1866
  rw [hg _ 1 (by decide) (by decide), hg _ 2 (by decide) (by decide)]
  refine lawB n ?_ hK
  apply call_against
  · exact hI
  all_goals omega
theorem K_tray (n L : Nat) (xs : Nat → Int32) (K : Int32 → Mu → Option (Int32 × Mu)) (v4 : Int32) (μ : Mu) {Q : Int32 → Mu → Prop} (hn : 20000 < n) (hI : INV μ) (hB : BRD n) (hg : GDL L v4) (hK : ∀ μ2, INV μ2 → Ok (law_2193 n L xs K v4 μ2) Q) : Ok (law_1869 n L xs K v4 μ) Q := by
  unfold law_1869
  rw [hg _ 1 (by decide) (by decide), hg _ 2 (by decide) (by decide), hg _ 3 (by decide) (by decide)]
  refine lawV n ?_ hK
  apply call_tray
  · exact hI
  all_goals omega
theorem K_write (n L : Nat) (xs : Nat → Int32) (K : Int32 → Mu → Option (Int32 × Mu)) (v4 : Int32) (μ : Mu) {Q : Int32 → Mu → Prop} (hn : 20000 < n) (hI : INV μ) (hB : BRD n) (hg : GDL L v4) (hK : ∀ μ2, INV μ2 → Ok (law_2193 n L xs K v4 μ2) Q) : Ok (law_1929 n L xs K v4 μ) Q := by
  unfold law_1929 law_2037
  rw [hg _ 1 (by decide) (by decide), hg _ 2 (by decide) (by decide), hg _ 3 (by decide) (by decide), hg _ 4 (by decide) (by decide)]
  refine lawW n ?_ hK
  apply call_write
  · exact hI
  all_goals omega
theorem K_pour (n L : Nat) (xs : Nat → Int32) (K : Int32 → Mu → Option (Int32 × Mu)) (v4 : Int32) (μ : Mu) {Q : Int32 → Mu → Prop} (hn : 20000 < n) (hI : INV μ) (hB : BRD n) (hg : GDL L v4) (hK : ∀ μ2, INV μ2 → Ok (law_2193 n L xs K v4 μ2) Q) : Ok (law_2040 n L xs K v4 μ) Q := by
  unfold law_2040 law_2093
  rw [hg _ 1 (by decide) (by decide)]
  refine lawB n ?_ hK
  apply call_pour
  · exact hI
  all_goals omega
theorem K_image (n L : Nat) (xs : Nat → Int32) (K : Int32 → Mu → Option (Int32 × Mu)) (v4 : Int32) (μ : Mu) {Q : Int32 → Mu → Prop} (hn : 20000 < n) (hI : INV μ) (hB : BRD n) (hg : GDL L v4) (hK : ∀ μ2, INV μ2 → Ok (law_2193 n L xs K v4 μ2) Q) : Ok (law_2096 n L xs K v4 μ) Q := by
  unfold law_2096
  rw [hg _ 1 (by decide) (by decide)]
  refine lawV n ?_ hK
  apply call_image
  · exact hI
  all_goals omega
theorem K_restore (n L : Nat) (xs : Nat → Int32) (K : Int32 → Mu → Option (Int32 × Mu)) (v4 : Int32) (μ : Mu) {Q : Int32 → Mu → Prop} (hn : 20000 < n) (hI : INV μ) (hB : BRD n) (hg : GDL L v4) (hK : ∀ μ2, INV μ2 → Ok (law_2193 n L xs K v4 μ2) Q) : Ok (law_2132 n L xs K v4 μ) Q := by
  unfold law_2132
  rw [hg _ 1 (by decide) (by decide)]
  refine lawV n ?_ hK
  apply call_restore
  · exact hI
  all_goals omega
theorem K_count (n L : Nat) (xs : Nat → Int32) (K : Int32 → Mu → Option (Int32 × Mu)) (v4 : Int32) (μ : Mu) {Q : Int32 → Mu → Prop} (hn : 20000 < n) (hI : INV μ) (hB : BRD n) (hg : GDL L v4) (hK : ∀ μ2, INV μ2 → Ok (law_2193 n L xs K v4 μ2) Q) : Ok (law_2168 n L xs K v4 μ) Q := by
  unfold law_2168
  rw [hg _ 1 (by decide) (by decide)]
  refine lawA ?_ hK
  apply call_count
  · exact hI
  all_goals omega
theorem law_body (n L : Nat) (xs : Nat → Int32) (K : Int32 → Mu → Option (Int32 × Mu)) (v4 : Int32) (μ : Mu) {Q : Int32 → Mu → Prop} (hn : 20000 < n) (hI : INV μ) (hB : BRD n) (hg : GDL L v4) (hg0 : ∀ (R : Type) (x : Option R), gd v4 L x = x) (hlt : ¬ Int32.ofNat L - (6 : Int32) < v4) (hK : ∀ μ2, INV μ2 → Ok (law_2193 n L xs K v4 μ2) Q) : Ok (law_23b n L xs K v4 μ) Q := by
  unfold law_23b
  rw [if_neg hlt, hg0]
  refine if_ok (fun _ => K_feed n L xs K v4 μ hn hI hB hg hK) (fun _ => ?_)
  refine if_ok (fun _ => K_board n L xs K v4 μ hn hI hB hg hK) (fun _ => ?_)
  refine if_ok (fun _ => K_fault n L xs K v4 μ hn hI hB hg hK) (fun _ => ?_)
  refine if_ok (fun _ => K_pit n L xs K v4 μ hn hI hB hg hK) (fun _ => ?_)
  refine if_ok (fun _ => K_store n L xs K v4 μ hn hI hB hg hK) (fun _ => ?_)
  refine if_ok (fun _ => K_mover n L xs K v4 μ hn hI hB hg hK) (fun _ => ?_)
  refine if_ok (fun _ => K_may n L xs K v4 μ hn hI hB hg hK) (fun _ => ?_)
  refine if_ok (fun _ => K_move n L xs K v4 μ hn hI hB hg hK) (fun _ => ?_)
  refine if_ok (fun _ => K_sown n L xs K v4 μ hn hI hB hg hK) (fun _ => ?_)
  refine if_ok (fun _ => K_undo n L xs K v4 μ hn hI hB hg hK) (fun _ => ?_)
  refine if_ok (fun _ => K_redo n L xs K v4 μ hn hI hB hg hK) (fun _ => ?_)
  refine if_ok (fun _ => K_over n L xs K v4 μ hn hI hB hg hK) (fun _ => ?_)
  refine if_ok (fun _ => K_score n L xs K v4 μ hn hI hB hg hK) (fun _ => ?_)
  refine if_ok (fun _ => K_judge n L xs K v4 μ hn hI hB hg hK) (fun _ => ?_)
  refine if_ok (fun _ => K_perform n L xs K v4 μ hn hI hB hg hK) (fun _ => ?_)
  refine if_ok (fun _ => K_positions n L xs K v4 μ hn hI hB hg hK) (fun _ => ?_)
  refine if_ok (fun _ => K_place n L xs K v4 μ hn hI hB hg hK) (fun _ => ?_)
  refine if_ok (fun _ => K_ofPlace n L xs K v4 μ hn hI hB hg hK) (fun _ => ?_)
  refine if_ok (fun _ => K_value n L xs K v4 μ hn hI hB hg hK) (fun _ => ?_)
  refine if_ok (fun _ => K_rank n L xs K v4 μ hn hI hB hg hK) (fun _ => ?_)
  refine if_ok (fun _ => K_best n L xs K v4 μ hn hI hB hg hK) (fun _ => ?_)
  refine if_ok (fun _ => K_worth n L xs K v4 μ hn hI hB hg hK) (fun _ => ?_)
  refine if_ok (fun _ => K_valueOf n L xs K v4 μ hn hI hB hg hK) (fun _ => ?_)
  refine if_ok (fun _ => K_tally n L xs K v4 μ hn hI hB hg hK) (fun _ => ?_)
  refine if_ok (fun _ => K_row n L xs K v4 μ hn hI hB hg hK) (fun _ => ?_)
  refine if_ok (fun _ => K_find n L xs K v4 μ hn hI hB hg hK) (fun _ => ?_)
  refine if_ok (fun _ => K_most n L xs K v4 μ hn hI hB hg hK) (fun _ => ?_)
  refine if_ok (fun _ => K_swapped n L xs K v4 μ hn hI hB hg hK) (fun _ => ?_)
  refine if_ok (fun _ => K_line n L xs K v4 μ hn hI hB hg hK) (fun _ => ?_)
  refine if_ok (fun _ => K_plays n L xs K v4 μ hn hI hB hg hK) (fun _ => ?_)
  refine if_ok (fun _ => K_reached n L xs K v4 μ hn hI hB hg hK) (fun _ => ?_)
  refine if_ok (fun _ => K_soonest n L xs K v4 μ hn hI hB hg hK) (fun _ => ?_)
  refine if_ok (fun _ => K_pits n L xs K v4 μ hn hI hB hg hK) (fun _ => ?_)
  refine if_ok (fun _ => K_forced n L xs K v4 μ hn hI hB hg hK) (fun _ => ?_)
  refine if_ok (fun _ => K_play n L xs K v4 μ hn hI hB hg hK) (fun _ => ?_)
  refine if_ok (fun _ => K_against n L xs K v4 μ hn hI hB hg hK) (fun _ => ?_)
  refine if_ok (fun _ => K_tray n L xs K v4 μ hn hI hB hg hK) (fun _ => ?_)
  refine if_ok (fun _ => K_write n L xs K v4 μ hn hI hB hg hK) (fun _ => ?_)
  refine if_ok (fun _ => K_pour n L xs K v4 μ hn hI hB hg hK) (fun _ => ?_)
  refine if_ok (fun _ => K_image n L xs K v4 μ hn hI hB hg hK) (fun _ => ?_)
  refine if_ok (fun _ => K_restore n L xs K v4 μ hn hI hB hg hK) (fun _ => ?_)
  refine if_ok (fun _ => K_count n L xs K v4 μ hn hI hB hg hK) (fun _ => ?_)
  exact hK μ hI
