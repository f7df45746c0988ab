
/-! the flat memory: what every cell of the one world holds, by the cell's number -/
abbrev Mu : Type := (Nat → Nat → Int32) × (Nat → Nat → Int64)
def si (μ : Mu) (o k : Nat) (v : Int32) : Mu := (fun a => if a = o then upd (μ.1 o) k v else μ.1 a, μ.2)
def sj (μ : Mu) (o k : Nat) (v : Int64) : Mu := (μ.1, fun a => if a = o then vp_updL (μ.2 o) k v else μ.2 a)
def NN : Nat := 202
def oKl : List Nat := [11, 5, 1, 20, 20, 20, 8, 23, 20, 3, 20, 23, 4, 5, 20, 7, 20, 20, 20, 20, 20, 20, 10, 20, 20, 0, 20, 23, 21, 21, 20, 24, 25, 9, 21, 9, 21, 9, 21, 9, 21, 2, 5, 6, 20, 2, 5, 6, 20, 2, 5, 6, 20, 6, 20, 6, 20, 6, 20, 6, 20, 6, 20, 6, 20, 6, 20, 6, 20, 6, 20, 6, 20, 6, 20, 6, 20, 6, 20, 6, 20, 6, 20, 6, 20, 6, 20, 6, 20, 6, 20, 6, 20, 6, 20, 6, 20, 6, 20, 6, 20, 6, 20, 6, 20, 6, 20, 6, 20, 6, 20, 6, 20, 6, 20, 6, 20, 6, 20, 6, 20, 6, 20, 6, 20, 6, 20, 6, 20, 6, 20, 6, 20, 6, 20, 6, 20, 6, 20, 6, 20, 6, 20, 6, 20, 6, 20, 6, 20, 6, 20, 6, 20, 6, 20, 6, 20, 6, 20, 6, 20, 6, 20, 6, 20, 6, 20, 6, 20, 6, 20, 12, 20, 20, 20, 20, 22, 20, 20, 20, 20, 20, 20, 20, 20, 20, 20, 20, 20, 20, 22, 20, 20, 20, 20, 20, 20, 20, 20, 20, 21, 21]
def oNl : List Nat := [0, 0, 0, 28, 24, 574, 0, 6, 6, 0, 40, 40, 0, 0, 500, 0, 12000, 12000, 6006, 6006, 6006, 36036, 0, 100, 61, 0, 6, 7, 1296, 1296, 4096, 4, 3, 0, 40, 0, 40, 0, 40, 0, 40, 0, 0, 0, 14, 0, 0, 0, 14, 0, 0, 0, 14, 0, 14, 0, 14, 0, 14, 0, 14, 0, 14, 0, 14, 0, 14, 0, 14, 0, 14, 0, 14, 0, 14, 0, 14, 0, 14, 0, 14, 0, 14, 0, 14, 0, 14, 0, 14, 0, 14, 0, 14, 0, 14, 0, 14, 0, 14, 0, 14, 0, 14, 0, 14, 0, 14, 0, 14, 0, 14, 0, 14, 0, 14, 0, 14, 0, 14, 0, 14, 0, 14, 0, 14, 0, 14, 0, 14, 0, 14, 0, 14, 0, 14, 0, 14, 0, 14, 0, 14, 0, 14, 0, 14, 0, 14, 0, 14, 0, 14, 0, 14, 0, 14, 0, 14, 0, 14, 0, 14, 0, 14, 0, 14, 0, 14, 0, 14, 0, 14, 0, 25, 25, 75, 25, 3, 500, 12, 1000, 40, 1000, 40, 12, 12000, 12000, 12000, 72000, 72000, 42, 12000, 12, 25, 60, 61, 175, 32500, 7, 4, 4, 160, 1]
def oTl : List (List Nat) := [[1, 2, 6, 53, 55, 9, 12, 15, 22, 25, 31, 32], [], [3, 0, 0, 0, 1, 4, 5], [], [], [], [0, 0, 0, 0, 7, 8, 1, 2], [57, 59, 61, 63, 65, 67], [], [0, 0, 0, 10, 11], [], [69, 71, 73, 75, 77, 79, 81, 83, 85, 87, 89, 91, 93, 95, 97, 99, 101, 103, 105, 107, 109, 111, 113, 115, 117, 119, 121, 123, 125, 127, 129, 131, 133, 135, 137, 139, 141, 143, 145, 147], [13, 149, 0, 0, 0, 14], [], [], [16, 17, 1, 2, 6, 151, 0, 0, 0, 18, 19, 20, 21], [], [], [], [], [], [], [153, 23, 0, 0, 6, 15, 24], [], [], [26, 1, 6, 27, 169, 0, 0, 0, 28, 29, 30], [], [155, 157, 159, 161, 163, 165, 167], [], [], [], [33, 35, 37, 39], [41, 45, 49], [34], [], [36], [], [38], [], [40], [], [0, 42, 43], [], [44], [], [0, 46, 47], [], [48], [], [0, 50, 51], [], [52], [], [54], [], [56], [], [58], [], [60], [], [62], [], [64], [], [66], [], [68], [], [70], [], [72], [], [74], [], [76], [], [78], [], [80], [], [82], [], [84], [], [86], [], [88], [], [90], [], [92], [], [94], [], [96], [], [98], [], [100], [], [102], [], [104], [], [106], [], [108], [], [110], [], [112], [], [114], [], [116], [], [118], [], [120], [], [122], [], [124], [], [126], [], [128], [], [130], [], [132], [], [134], [], [136], [], [138], [], [140], [], [142], [], [144], [], [146], [], [148], [], [150], [], [152], [], [154], [], [156], [], [158], [], [160], [], [162], [], [164], [], [166], [], [168], [], [170], [], [172, 173, 174, 175, 176, 0, 177, 0, 0, 0, 0, 0, 0, 0, 0, 0, 0, 178, 0, 0, 0, 0, 0, 0, 179, 180, 181, 182, 0, 0, 183, 0, 184, 185, 186, 187, 188, 189, 190, 191, 0, 192, 193, 194, 0, 195, 196, 0, 197, 0, 0, 198, 199, 200], [], [], [], [], [], [], [], [], [], [], [], [], [], [], [], [], [], [], [], [], [], [], [], [], [], [], [], [], [], []]
def fRl : List (List Bool) := [[true, true, true, true, true, false, false, false, true, true, true, false], [true, false, false, false, true, true, true], [false, true, true], [false, false, false, true, true], [true, true, false, false, false, true, false, false, false, false, false], [false, false, false, false, false, false, false, false, false], [true, false], [true, true, true, true, true, true, false, false, false, true, true, true, true], [false, false, false, false, true, true, true, true], [true, false, false], [true, true, false, false, true, true, true], [true, true, true, true, true, true, true, true, true, true, true, true], [true, true, true, true, true, false, true, false, false, false, false, false, false, false, false, false, false, true, false, false, false, false, false, false, true, true, true, true, false, false, true, false, true, true, true, true, true, true, true, true, false, true, true, true, false, true, true, false, true, false, false, true, true, true]]
def oK (i : Nat) : Nat := if i < 1000 then oKl.getD i 99 else if i < 1047 then 130 else 99
def oN (i : Nat) : Nat := oNl.getD i 0
def oT (i k : Nat) : Nat := (oTl.getD i []).getD k 0
def fR (c k : Nat) : Bool := (fRl.getD c []).getD k false
def fN (c : Nat) : Nat := (fRl.getD c []).length
/-- the numbers of the launch: classes and slots, the arrays' classes, the cells' addresses -/
abbrev Gw : Type := va_G × (Nat → ClassId) × (Nat → Nat)
def fvl (g : Gw) (μ : Mu) (o ci : Nat) : List Value := (List.range (fN ci)).map (fun k => if fR ci k = true then .ref (g.2.2 (oT o k)) else .int (μ.1 o k))
def ce (g : Gw) (μ : Mu) (i : Nat) : va_E :=
  if oK i < 13 then .inr (oK i, fvl g μ i (oK i)) else if oK i = 21 then .inl (g.2.1 1, oN i, .inr (.inl (μ.2 i))) else if oK i < 23 then .inl (g.2.1 (oK i - 20), oN i, .inl (μ.1 i)) else .inl (g.2.1 (oK i - 20), oN i, .inr (.inr (.inr (.inr (fun j => some (g.2.2 (oT i j)))))))
def wl (g : Gw) (μ : Mu) : va_W := (List.range NN).map (fun i => (g.2.2 i, ce g μ i))
def tyL (g : Gw) : List (ClassId × FieldType) := [(g.2.1 0, .int), (g.2.1 1, .long), (g.2.1 2, .boolean), (g.2.1 3, .object "SowingHouse$Scene"), (g.2.1 4, .object "SowingHouse$Tray"), (g.2.1 5, .object "SowingHouse$Image")]
theorem wl_get {g : Gw} {μ : Mu} {i : Nat} (h : i < NN) : (wl g μ)[i]? = some (g.2.2 i, ce g μ i) := by
  simp [wl, h]
theorem wl_inv {g : Gw} {μ : Mu} {i : Nat} {q : Nat × va_E} (h : (wl g μ)[i]? = some q) : i < NN ∧ q = (g.2.2 i, ce g μ i) := by
  have hi : i < NN := by
    have := (List.getElem?_eq_some_iff.mp h).1
    simpa [wl] using this
  rw [wl_get hi] at h
  exact ⟨hi, (Option.some.inj h).symm⟩
theorem wl_D {g : Gw} {μ : Mu} {A : Nat → Prop} (hi : ∀ i j, i < NN → j < NN → g.2.2 i = g.2.2 j → i = j) (hA : ∀ i, i < NN → A (g.2.2 i)) : va_D A (wl g μ) := by
  refine ⟨fun i j p q hp hq e => ?_, fun k q h => ?_⟩
  · obtain ⟨h1, rfl⟩ := wl_inv hp
    obtain ⟨h2, rfl⟩ := wl_inv hq
    exact hi i j h1 h2 e
  · obtain ⟨h1, rfl⟩ := wl_inv h
    exact hA k h1
theorem wl_set {g : Gw} {μ μ' : Mu} {i : Nat} {x : va_E} (hi : i < NN) (hx : ce g μ' i = x) (ho : ∀ j, j ≠ i → ce g μ' j = ce g μ j) : (wl g μ).set i (g.2.2 i, x) = wl g μ' := by
  apply List.ext_getElem?
  intro j
  by_cases hj : j < NN
  · by_cases e : i = j
    · subst e
      rw [List.getElem?_set_self (by simpa [wl] using hi), wl_get hi, hx]
    · rw [List.getElem?_set_ne e, wl_get hj, wl_get hj, ho j (fun h => e h.symm)]
  · have h1 : NN ≤ j := Nat.le_of_not_lt hj
    rw [List.getElem?_eq_none (by simpa [wl] using h1), List.getElem?_eq_none (by simpa [wl] using h1)]
theorem oK_lt {o : Nat} (h : oK o < 99) : o < NN := by
  by_cases h1 : o < NN
  · exact h1
  · have h2 : oKl.length ≤ o := by
      have : oKl.length = NN := by decide +kernel
      omega
    unfold oK at h
    by_cases h3 : o < 1000
    · rw [if_pos h3, List.getD, List.getElem?_eq_none h2] at h
      exact absurd h (by decide)
    · rw [if_neg h3] at h
      by_cases h4 : o < 1047
      · rw [if_pos h4] at h
        omega
      · rw [if_neg h4] at h
        omega
theorem ce_si {g : Gw} {μ : Mu} {o k j : Nat} {v : Int32} (h : j ≠ o) : ce g (si μ o k v) j = ce g μ j := by
  simp [ce, fvl, si, h]
theorem ce_sj {g : Gw} {μ : Mu} {o k j : Nat} {v : Int64} (h : j ≠ o) : ce g (sj μ o k v) j = ce g μ j := by
  simp [ce, fvl, sj, h]
theorem ce_obj {g : Gw} {μ : Mu} {o ci : Nat} (h : oK o = ci) (hc : ci < 13) : ce g μ o = .inr (ci, fvl g μ o ci) := by
  subst h
  simp [ce, hc]
theorem ce_int {g : Gw} {μ : Mu} {o : Nat} (h : oK o = 20) : ce g μ o = .inl (g.2.1 0, oN o, .inl (μ.1 o)) := by
  simp [ce, h]
theorem ce_boo {g : Gw} {μ : Mu} {o : Nat} (h : oK o = 22) : ce g μ o = .inl (g.2.1 2, oN o, .inl (μ.1 o)) := by
  simp [ce, h]
theorem ce_lon {g : Gw} {μ : Mu} {o : Nat} (h : oK o = 21) : ce g μ o = .inl (g.2.1 1, oN o, .inr (.inl (μ.2 o))) := by
  simp [ce, h]
theorem ce_refs {g : Gw} {μ : Mu} {o kk : Nat} (h : oK o = kk) (hk : 23 ≤ kk) : ce g μ o = .inl (g.2.1 (kk - 20), oN o, .inr (.inr (.inr (.inr (fun j => some (g.2.2 (oT o j))))))) := by
  subst h
  have h1 : ¬ oK o < 13 := by omega
  have h2 : ¬ oK o = 21 := by omega
  have h3 : ¬ oK o < 23 := by omega
  simp [ce, h1, h2, h3]
theorem fvl_get {g : Gw} {μ : Mu} {o ci k : Nat} (hk : k < fN ci) (hr : fR ci k = false) : (fvl g μ o ci)[k]? = some (.int (μ.1 o k)) := by
  simp [fvl, hk, hr]
theorem fvl_ref {g : Gw} {μ : Mu} {o ci k : Nat} (hk : k < fN ci) (hr : fR ci k = true) : (fvl g μ o ci)[k]? = some (.ref (g.2.2 (oT o k))) := by
  simp [fvl, hk, hr]
theorem fvl_len {g : Gw} {μ : Mu} {o ci : Nat} : (fvl g μ o ci).length = fN ci := by
  simp [fvl]
theorem fvl_set {g : Gw} {μ : Mu} {o ci k : Nat} {v : Int32} (hk : k < fN ci) (hr : fR ci k = false) : (fvl g μ o ci).set k (.int v) = fvl g (si μ o k v) o ci := by
  apply List.ext_getElem?
  intro j
  by_cases hj : j < fN ci
  · by_cases e : k = j
    · subst e
      rw [List.getElem?_set_self (by rw [fvl_len]; exact hk), fvl_get hk hr]
      simp [si, upd]
    · rw [List.getElem?_set_ne e]
      have e' : ¬ j = k := fun h => e h.symm
      by_cases hq : fR ci j = true
      · rw [fvl_ref hj hq, fvl_ref hj hq]
      · have hq : fR ci j = false := by simpa using hq
        rw [fvl_get hj hq, fvl_get hj hq]
        simp [si, upd, e']
  · have h1 : fN ci ≤ j := Nat.le_of_not_lt hj
    rw [List.getElem?_eq_none (by rw [List.length_set, fvl_len]; exact h1), List.getElem?_eq_none (by rw [fvl_len]; exact h1)]
/-! words -/
def gt : List Cond := lw_tbl.filter goodWord
theorem gt_of {w : Cond} (h : w ∈ lw_tbl) (hg : goodWord w = true) : w ∈ gt := List.mem_filter.mpr ⟨h, hg⟩
theorem gt_good {w : Cond} (h : w ∈ gt) : (w.onTables && w.keeps) = true ∨ ∃ ty, w = .arrayClass ty := good_of_word (List.mem_filter.mp h).2
def isNest : Cond → Bool
  | .methodLinkNest _ _ _ _ => true
  | .castable _ _ => true
  | .declares _ => true
  | _ => false
def nestW : List Cond := lw_tbl.filter isNest
theorem gi1 {w : Cond} (i : Nat) (h : tables_1_1[i]? = some w) (hg : goodWord w = true) : w ∈ gt := by
  have hm : w ∈ tables_1_1 := List.mem_of_getElem? h
  exact gt_of (List.mem_append_right _ (show w ∈ tables_1 from List.mem_append_left _ hm)) hg
theorem gn1 {w : Cond} (i : Nat) (h : tables_1_1[i]? = some w) (hg : isNest w = true) : w ∈ nestW := by
  have hm : w ∈ tables_1_1 := List.mem_of_getElem? h
  exact List.mem_filter.mpr ⟨List.mem_append_right _ (show w ∈ tables_1 from List.mem_append_left _ hm), hg⟩
theorem gi2 {w : Cond} (i : Nat) (h : tables_1_2[i]? = some w) (hg : goodWord w = true) : w ∈ gt := by
  have hm : w ∈ tables_1_2 := List.mem_of_getElem? h
  exact gt_of (List.mem_append_right _ (show w ∈ tables_1 from List.mem_append_right _ (List.mem_append_left _ hm))) hg
theorem gn2 {w : Cond} (i : Nat) (h : tables_1_2[i]? = some w) (hg : isNest w = true) : w ∈ nestW := by
  have hm : w ∈ tables_1_2 := List.mem_of_getElem? h
  exact List.mem_filter.mpr ⟨List.mem_append_right _ (show w ∈ tables_1 from List.mem_append_right _ (List.mem_append_left _ hm)), hg⟩
theorem gi3 {w : Cond} (i : Nat) (h : tables_1_3[i]? = some w) (hg : goodWord w = true) : w ∈ gt := by
  have hm : w ∈ tables_1_3 := List.mem_of_getElem? h
  exact gt_of (List.mem_append_right _ (show w ∈ tables_1 from List.mem_append_right _ (List.mem_append_right _ (List.mem_append_left _ hm)))) hg
theorem gn3 {w : Cond} (i : Nat) (h : tables_1_3[i]? = some w) (hg : isNest w = true) : w ∈ nestW := by
  have hm : w ∈ tables_1_3 := List.mem_of_getElem? h
  exact List.mem_filter.mpr ⟨List.mem_append_right _ (show w ∈ tables_1 from List.mem_append_right _ (List.mem_append_right _ (List.mem_append_left _ hm))), hg⟩
theorem gi4 {w : Cond} (i : Nat) (h : tables_1_4[i]? = some w) (hg : goodWord w = true) : w ∈ gt := by
  have hm : w ∈ tables_1_4 := List.mem_of_getElem? h
  exact gt_of (List.mem_append_right _ (show w ∈ tables_1 from List.mem_append_right _ (List.mem_append_right _ (List.mem_append_right _ (List.mem_append_left _ hm))))) hg
theorem gn4 {w : Cond} (i : Nat) (h : tables_1_4[i]? = some w) (hg : isNest w = true) : w ∈ nestW := by
  have hm : w ∈ tables_1_4 := List.mem_of_getElem? h
  exact List.mem_filter.mpr ⟨List.mem_append_right _ (show w ∈ tables_1 from List.mem_append_right _ (List.mem_append_right _ (List.mem_append_right _ (List.mem_append_left _ hm)))), hg⟩
theorem gi5 {w : Cond} (i : Nat) (h : tables_1_5[i]? = some w) (hg : goodWord w = true) : w ∈ gt := by
  have hm : w ∈ tables_1_5 := List.mem_of_getElem? h
  exact gt_of (List.mem_append_right _ (show w ∈ tables_1 from List.mem_append_right _ (List.mem_append_right _ (List.mem_append_right _ (List.mem_append_right _ (List.mem_append_left _ hm)))))) hg
theorem gn5 {w : Cond} (i : Nat) (h : tables_1_5[i]? = some w) (hg : isNest w = true) : w ∈ nestW := by
  have hm : w ∈ tables_1_5 := List.mem_of_getElem? h
  exact List.mem_filter.mpr ⟨List.mem_append_right _ (show w ∈ tables_1 from List.mem_append_right _ (List.mem_append_right _ (List.mem_append_right _ (List.mem_append_right _ (List.mem_append_left _ hm))))), hg⟩
theorem gi6 {w : Cond} (i : Nat) (h : tables_1_6[i]? = some w) (hg : goodWord w = true) : w ∈ gt := by
  have hm : w ∈ tables_1_6 := List.mem_of_getElem? h
  exact gt_of (List.mem_append_right _ (show w ∈ tables_1 from List.mem_append_right _ (List.mem_append_right _ (List.mem_append_right _ (List.mem_append_right _ (List.mem_append_right _ (List.mem_append_left _ hm))))))) hg
theorem gn6 {w : Cond} (i : Nat) (h : tables_1_6[i]? = some w) (hg : isNest w = true) : w ∈ nestW := by
  have hm : w ∈ tables_1_6 := List.mem_of_getElem? h
  exact List.mem_filter.mpr ⟨List.mem_append_right _ (show w ∈ tables_1 from List.mem_append_right _ (List.mem_append_right _ (List.mem_append_right _ (List.mem_append_right _ (List.mem_append_right _ (List.mem_append_left _ hm)))))), hg⟩
theorem gi7 {w : Cond} (i : Nat) (h : tables_1_7[i]? = some w) (hg : goodWord w = true) : w ∈ gt := by
  have hm : w ∈ tables_1_7 := List.mem_of_getElem? h
  exact gt_of (List.mem_append_right _ (show w ∈ tables_1 from List.mem_append_right _ (List.mem_append_right _ (List.mem_append_right _ (List.mem_append_right _ (List.mem_append_right _ (List.mem_append_right _ (List.mem_append_left _ hm)))))))) hg
theorem gn7 {w : Cond} (i : Nat) (h : tables_1_7[i]? = some w) (hg : isNest w = true) : w ∈ nestW := by
  have hm : w ∈ tables_1_7 := List.mem_of_getElem? h
  exact List.mem_filter.mpr ⟨List.mem_append_right _ (show w ∈ tables_1 from List.mem_append_right _ (List.mem_append_right _ (List.mem_append_right _ (List.mem_append_right _ (List.mem_append_right _ (List.mem_append_right _ (List.mem_append_left _ hm))))))), hg⟩
theorem gi8 {w : Cond} (i : Nat) (h : tables_1_8[i]? = some w) (hg : goodWord w = true) : w ∈ gt := by
  have hm : w ∈ tables_1_8 := List.mem_of_getElem? h
  exact gt_of (List.mem_append_right _ (show w ∈ tables_1 from List.mem_append_right _ (List.mem_append_right _ (List.mem_append_right _ (List.mem_append_right _ (List.mem_append_right _ (List.mem_append_right _ (List.mem_append_right _ (List.mem_append_left _ hm))))))))) hg
theorem gn8 {w : Cond} (i : Nat) (h : tables_1_8[i]? = some w) (hg : isNest w = true) : w ∈ nestW := by
  have hm : w ∈ tables_1_8 := List.mem_of_getElem? h
  exact List.mem_filter.mpr ⟨List.mem_append_right _ (show w ∈ tables_1 from List.mem_append_right _ (List.mem_append_right _ (List.mem_append_right _ (List.mem_append_right _ (List.mem_append_right _ (List.mem_append_right _ (List.mem_append_right _ (List.mem_append_left _ hm)))))))), hg⟩
theorem gi9 {w : Cond} (i : Nat) (h : tables_1_9[i]? = some w) (hg : goodWord w = true) : w ∈ gt := by
  have hm : w ∈ tables_1_9 := List.mem_of_getElem? h
  exact gt_of (List.mem_append_right _ (show w ∈ tables_1 from List.mem_append_right _ (List.mem_append_right _ (List.mem_append_right _ (List.mem_append_right _ (List.mem_append_right _ (List.mem_append_right _ (List.mem_append_right _ (List.mem_append_right _ (hm)))))))))) hg
theorem gn9 {w : Cond} (i : Nat) (h : tables_1_9[i]? = some w) (hg : isNest w = true) : w ∈ nestW := by
  have hm : w ∈ tables_1_9 := List.mem_of_getElem? h
  exact List.mem_filter.mpr ⟨List.mem_append_right _ (show w ∈ tables_1 from List.mem_append_right _ (List.mem_append_right _ (List.mem_append_right _ (List.mem_append_right _ (List.mem_append_right _ (List.mem_append_right _ (List.mem_append_right _ (List.mem_append_right _ (hm))))))))), hg⟩
theorem gs1 {y : MethodName} {q : Nat} (i : Nat) (h : lw_privs_1[i]? = some (y, q)) : Cond.selects y.cls y y ∈ gt := by
  have hm : (y, q) ∈ lw_privs_1 := List.mem_of_getElem? h
  exact gt_of (List.mem_append_left _ (List.mem_map.mpr ⟨(y, q), (show (y, q) ∈ lw_privs from List.mem_append_left _ hm), rfl⟩)) rfl
theorem gs2 {y : MethodName} {q : Nat} (i : Nat) (h : lw_privs_2[i]? = some (y, q)) : Cond.selects y.cls y y ∈ gt := by
  have hm : (y, q) ∈ lw_privs_2 := List.mem_of_getElem? h
  exact gt_of (List.mem_append_left _ (List.mem_map.mpr ⟨(y, q), (show (y, q) ∈ lw_privs from List.mem_append_right _ (List.mem_append_left _ hm)), rfl⟩)) rfl
theorem gs3 {y : MethodName} {q : Nat} (i : Nat) (h : lw_privs_3[i]? = some (y, q)) : Cond.selects y.cls y y ∈ gt := by
  have hm : (y, q) ∈ lw_privs_3 := List.mem_of_getElem? h
  exact gt_of (List.mem_append_left _ (List.mem_map.mpr ⟨(y, q), (show (y, q) ∈ lw_privs from List.mem_append_right _ (List.mem_append_right _ (List.mem_append_left _ hm))), rfl⟩)) rfl
theorem gs4 {y : MethodName} {q : Nat} (i : Nat) (h : lw_privs_4[i]? = some (y, q)) : Cond.selects y.cls y y ∈ gt := by
  have hm : (y, q) ∈ lw_privs_4 := List.mem_of_getElem? h
  exact gt_of (List.mem_append_left _ (List.mem_map.mpr ⟨(y, q), (show (y, q) ∈ lw_privs from List.mem_append_right _ (List.mem_append_right _ (List.mem_append_right _ (List.mem_append_left _ hm)))), rfl⟩)) rfl
theorem gs5 {y : MethodName} {q : Nat} (i : Nat) (h : lw_privs_5[i]? = some (y, q)) : Cond.selects y.cls y y ∈ gt := by
  have hm : (y, q) ∈ lw_privs_5 := List.mem_of_getElem? h
  exact gt_of (List.mem_append_left _ (List.mem_map.mpr ⟨(y, q), (show (y, q) ∈ lw_privs from List.mem_append_right _ (List.mem_append_right _ (List.mem_append_right _ (List.mem_append_right _ (List.mem_append_left _ hm))))), rfl⟩)) rfl
theorem gs6 {y : MethodName} {q : Nat} (i : Nat) (h : lw_privs_6[i]? = some (y, q)) : Cond.selects y.cls y y ∈ gt := by
  have hm : (y, q) ∈ lw_privs_6 := List.mem_of_getElem? h
  exact gt_of (List.mem_append_left _ (List.mem_map.mpr ⟨(y, q), (show (y, q) ∈ lw_privs from List.mem_append_right _ (List.mem_append_right _ (List.mem_append_right _ (List.mem_append_right _ (List.mem_append_right _ (List.mem_append_left _ hm)))))), rfl⟩)) rfl
theorem gs7 {y : MethodName} {q : Nat} (i : Nat) (h : lw_privs_7[i]? = some (y, q)) : Cond.selects y.cls y y ∈ gt := by
  have hm : (y, q) ∈ lw_privs_7 := List.mem_of_getElem? h
  exact gt_of (List.mem_append_left _ (List.mem_map.mpr ⟨(y, q), (show (y, q) ∈ lw_privs from List.mem_append_right _ (List.mem_append_right _ (List.mem_append_right _ (List.mem_append_right _ (List.mem_append_right _ (List.mem_append_right _ (List.mem_append_left _ hm))))))), rfl⟩)) rfl
theorem gs8 {y : MethodName} {q : Nat} (i : Nat) (h : lw_privs_8[i]? = some (y, q)) : Cond.selects y.cls y y ∈ gt := by
  have hm : (y, q) ∈ lw_privs_8 := List.mem_of_getElem? h
  exact gt_of (List.mem_append_left _ (List.mem_map.mpr ⟨(y, q), (show (y, q) ∈ lw_privs from List.mem_append_right _ (List.mem_append_right _ (List.mem_append_right _ (List.mem_append_right _ (List.mem_append_right _ (List.mem_append_right _ (List.mem_append_right _ (hm)))))))), rfl⟩)) rfl
theorem nest_moved {w : Cond} (h : w ∈ nestW) {s U : State} (hW : s.WarmedH U.vm) (hn : va_Nw w s) : va_Nw w U := by
  have h1 := (List.mem_filter.mp h).2
  cases w <;> simp [isNest] at h1
  · exact va_Nw.warmM hW hn
  · exact va_tabs rfl (rfl : (s.setVm U.vm).vm = U.vm) (by rw [Cond.declares_setVm hW.alike]; exact hn)
  · exact va_Nw.warmC hW hn
theorem nest_same {w : Cond} (h : w ∈ nestW) {s U : State} (hW : s.vm = U.vm) (hn : va_Nw w s) : va_Nw w U := by
  have h1 := (List.mem_filter.mp h).2
  cases w <;> simp [isNest] at h1
  · exact va_Nw.same rfl hW hn
  · exact va_Nw.same rfl hW hn
  · exact va_Nw.same rfl hW hn
def rmD (d : Nat) : Room := { frames := d, cells := 0, slots := 0, locals := 40 * d }
/-- what stays: classes, array classes, nest words, the cells' addresses apart -/
def exN : List String := ["java/util/NoSuchElementException", "java/lang/IllegalArgumentException", "java/lang/IllegalStateException", "java/lang/IndexOutOfBoundsException"]
def ncA (U : State) : Prop := ∀ i j, i < 4 → j < 4 → i ≠ j → va_Nc (exN.getD i "") (exN.getD j "") U
theorem ncA.moved {s U : State} (hvm : s.vm.Alike U.vm) (h : ncA s) : ncA U := fun i j hi hj hij => va_Nc.moved hvm (h i j hi hj hij)
def Kn (g : Gw) (U : State) : Prop := va_K g.1 vwCl (tyL g) U ∧ ((∀ w ∈ nestW, va_Nw w U) ∧ ncA U) ∧ ∀ i j, i < NN → j < NN → g.2.2 i = g.2.2 j → i = j
theorem Kn.moved {g : Gw} {s U : State} (hW : s.WarmedH U.vm) (h : Kn g s) : Kn g U := ⟨va_K.moved hW.alike h.1, ⟨fun w hw => nest_moved hw hW (h.2.1.1 w hw), ncA.moved hW.alike h.2.1.2⟩, h.2.2⟩
theorem Kn.same {g : Gw} {s U : State} (hW : s.vm = U.vm) (h : Kn g s) : Kn g U := ⟨va_K.moved (by rw [hW]; exact Vm.Alike.refl _) h.1, ⟨fun w hw => nest_same hw hW (h.2.1.1 w hw), ncA.moved (by rw [hW]; exact Vm.Alike.refl _) h.2.1.2⟩, h.2.2⟩
def Aw (g : Gw) (sz : Nat) : Nat → Prop := fun q => (∃ i, i < NN ∧ q = g.2.2 i) ∨ sz ≤ q
/-! the String constants: constant i is the cell 1000 + i, its bytes the cell 2000 + i -/
def sOwn : List String := ["SowingHouse", "SowingHouse$Reader", "SowingHouse$Reader", "SowingHouse$Reader", "SowingHouse$Reader", "SowingHouse$Reader", "SowingHouse$Reader", "SowingHouse$Reader", "SowingHouse$Reader", "SowingHouse$Reader", "SowingHouse$Reader", "SowingHouse$Reader", "SowingHouse$Reader", "SowingHouse$Reader", "SowingHouse$Reader", "SowingHouse$Reader", "SowingHouse", "SowingHouse", "SowingHouse", "SowingHouse", "SowingHouse", "SowingHouse", "SowingHouse", "SowingHouse", "SowingHouse", "SowingHouse", "SowingHouse", "SowingHouse", "SowingHouse", "SowingHouse", "SowingHouse", "SowingHouse", "SowingHouseModel", "SowingHouseModel", "SowingHouseModel", "SowingHouseModel", "SowingHouseModel", "SowingHouseModel", "SowingHouseModel", "SowingHouseModel", "SowingHouseModel", "SowingHouseModel", "SowingHouseModel", "SowingHouseModel", "SowingHouseModel", "SowingHouseModel", "SowingHouseModel"]
def sIdx : List Nat := [109, 76, 85, 90, 130, 134, 136, 138, 95, 101, 108, 113, 140, 145, 149, 153, 139, 390, 175, 183, 195, 396, 401, 392, 242, 394, 307, 323, 356, 360, 403, 385, 187, 189, 194, 199, 204, 206, 208, 210, 212, 176, 178, 180, 182, 217, 219]
def sTxt : List String := ["not so many bytes on the tape", "pits", "lay", "take", "none", "opposite", "grand", "starve", "stored", "lacking", "first", "relay", "stores", "skip", "again", "feed", "no such pit", "no such side", "no seeds of who is to move there", "the move is long", "no such what", "no such tray", "the tray is missing", "not 0 to 40 seeds", "too many positions", "no such position", "no such k", "no such d", "no such sort or size", "no such place", "no such image", "no image was made", "pits", "lay", "stored", "lacking", "first", "stores", "skip", "relay", "take", "none", "opposite", "grand", "starve", "again", "feed"]
def sByt : List (List Int32) := [[110, 111, 116, 32, 115, 111, 32, 109, 97, 110, 121, 32, 98, 121, 116, 101, 115, 32, 111, 110, 32, 116, 104, 101, 32, 116, 97, 112, 101], [112, 105, 116, 115], [108, 97, 121], [116, 97, 107, 101], [110, 111, 110, 101], [111, 112, 112, 111, 115, 105, 116, 101], [103, 114, 97, 110, 100], [115, 116, 97, 114, 118, 101], [115, 116, 111, 114, 101, 100], [108, 97, 99, 107, 105, 110, 103], [102, 105, 114, 115, 116], [114, 101, 108, 97, 121], [115, 116, 111, 114, 101, 115], [115, 107, 105, 112], [97, 103, 97, 105, 110], [102, 101, 101, 100], [110, 111, 32, 115, 117, 99, 104, 32, 112, 105, 116], [110, 111, 32, 115, 117, 99, 104, 32, 115, 105, 100, 101], [110, 111, 32, 115, 101, 101, 100, 115, 32, 111, 102, 32, 119, 104, 111, 32, 105, 115, 32, 116, 111, 32, 109, 111, 118, 101, 32, 116, 104, 101, 114, 101], [116, 104, 101, 32, 109, 111, 118, 101, 32, 105, 115, 32, 108, 111, 110, 103], [110, 111, 32, 115, 117, 99, 104, 32, 119, 104, 97, 116], [110, 111, 32, 115, 117, 99, 104, 32, 116, 114, 97, 121], [116, 104, 101, 32, 116, 114, 97, 121, 32, 105, 115, 32, 109, 105, 115, 115, 105, 110, 103], [110, 111, 116, 32, 48, 32, 116, 111, 32, 52, 48, 32, 115, 101, 101, 100, 115], [116, 111, 111, 32, 109, 97, 110, 121, 32, 112, 111, 115, 105, 116, 105, 111, 110, 115], [110, 111, 32, 115, 117, 99, 104, 32, 112, 111, 115, 105, 116, 105, 111, 110], [110, 111, 32, 115, 117, 99, 104, 32, 107], [110, 111, 32, 115, 117, 99, 104, 32, 100], [110, 111, 32, 115, 117, 99, 104, 32, 115, 111, 114, 116, 32, 111, 114, 32, 115, 105, 122, 101], [110, 111, 32, 115, 117, 99, 104, 32, 112, 108, 97, 99, 101], [110, 111, 32, 115, 117, 99, 104, 32, 105, 109, 97, 103, 101], [110, 111, 32, 105, 109, 97, 103, 101, 32, 119, 97, 115, 32, 109, 97, 100, 101], [112, 105, 116, 115], [108, 97, 121], [115, 116, 111, 114, 101, 100], [108, 97, 99, 107, 105, 110, 103], [102, 105, 114, 115, 116], [115, 116, 111, 114, 101, 115], [115, 107, 105, 112], [114, 101, 108, 97, 121], [116, 97, 107, 101], [110, 111, 110, 101], [111, 112, 112, 111, 115, 105, 116, 101], [103, 114, 97, 110, 100], [115, 116, 97, 114, 118, 101], [97, 103, 97, 105, 110], [102, 101, 101, 100]]
def sL (i : Nat) : Nat := (sByt.getD i []).length
def sB (i j : Nat) : Int32 := (sByt.getD i []).getD j 0
def Sx (g : Gw) (A : Nat → Prop) (U : State) (H : Heap) : Prop :=
  (∀ i : Nat, i < 47 → va_O "java/lang/String" (g.2.2 (1000 + i)) A U H ∧ va_OF "java/lang/String" "coder" "B" (.int 0) (g.2.2 (1000 + i)) A U H ∧ va_OF "java/lang/String" "value" "[B" (.ref (g.2.2 (2000 + i))) (g.2.2 (1000 + i)) A U H ∧ va_T .byte (g.2.2 (2000 + i)) (sL i) (fun j => .int (sB i j)) A U H ∧ vk_R (sOwn.getD i "") (sIdx.getD i 0) (sTxt.getD i "") (g.2.2 (1000 + i)) U)
  ∧ va_Z "java/lang/String" "COMPACT_STRINGS" "Z" (.int 1) A U H ∧ va_Zq "jdk/internal/util/Preconditions" "SIOOBE_FORMATTER" "Ljava/util/function/BiFunction;" A U H
  ∧ vx_Zq Bundle.tN "UNASSIGNED_STACK" Bundle.steD A U H ∧ vx_Zq Bundle.tN "SUPPRESSED_SENTINEL" Bundle.listD A U H
theorem Sx.warm {g : Gw} {A : Nat → Prop} {s U : State} {H : Heap} (hW : s.WarmedH U.vm) (h : Sx g A s H) : Sx g A U H :=
  ⟨fun i hi => ⟨va_O.moved hW.alike (h.1 i hi).1, va_OF.moved hW.alike (h.1 i hi).2.1, va_OF.moved hW.alike (h.1 i hi).2.2.1, va_T.moved hW.alike (h.1 i hi).2.2.2.1, vk_R.warm hW (h.1 i hi).2.2.2.2⟩,
    va_Z.moved hW.alike h.2.1, va_Zq.moved hW.alike h.2.2.1, vx_Zq.moved hW.alike h.2.2.2.1, vx_Zq.moved hW.alike h.2.2.2.2⟩
theorem Sx.same {g : Gw} {A : Nat → Prop} {s U : State} {H : Heap} (hv : U.vm = s.vm) (h : Sx g A s H) : Sx g A U H := by
  have ha : s.vm.Alike U.vm := by rw [hv]; exact Vm.Alike.refl _
  exact ⟨fun i hi => ⟨va_O.moved ha (h.1 i hi).1, va_OF.moved ha (h.1 i hi).2.1, va_OF.moved ha (h.1 i hi).2.2.1, va_T.moved ha (h.1 i hi).2.2.2.1, vk_R.same hv (h.1 i hi).2.2.2.2⟩,
    va_Z.moved ha h.2.1, va_Zq.moved ha h.2.2.1, vx_Zq.moved ha h.2.2.2.1, vx_Zq.moved ha h.2.2.2.2⟩
theorem Sx.kept {g : Gw} {A : Nat → Prop} {U : State} {H H1 : Heap} (h : Sx g A U H) (hq : ∀ a : Nat, a < H.size → ¬ A a → H1[a]? = H[a]?) : Sx g A U H1 :=
  ⟨fun i hi => ⟨(h.1 i hi).1.kept hq, (h.1 i hi).2.1.kept hq, (h.1 i hi).2.2.1.kept hq, (h.1 i hi).2.2.2.1.kept hq, (h.1 i hi).2.2.2.2⟩,
    va_Z.kept h.2.1 hq, va_Zq.kept h.2.2.1 hq, vx_Zq.kept h.2.2.2.1 hq, vx_Zq.kept h.2.2.2.2 hq⟩
theorem Sx.narrow {g : Gw} {A B : Nat → Prop} {U : State} {H : Heap} (h : Sx g A U H) (hAB : ∀ q, B q → A q) : Sx g B U H :=
  ⟨fun i hi => ⟨(h.1 i hi).1.narrow hAB, (h.1 i hi).2.1.narrow hAB, (h.1 i hi).2.2.1.narrow hAB, (h.1 i hi).2.2.2.1.narrow hAB, (h.1 i hi).2.2.2.2⟩,
    va_Z.narrow h.2.1 hAB, va_Zq.narrow h.2.2.1 hAB, vx_Zq.narrow h.2.2.2.1 hAB, vx_Zq.narrow h.2.2.2.2 hAB⟩
/-- the fixed things of a walk -/
def Cx (p : Program) (s : State) (m : MethodId) (args : Array Value) (c : Code) (cc : ByteArray) (nL : Nat) (own : String) (g : Gw) (A : Nat → Prop) : Prop :=
  p.tables.exec = Jvm.exec ∧ c.code = cc ∧ c.maxLocals = nL ∧ s.vm.findClass own = some m.cls ∧ (∀ w ∈ gt, w.before args s = true) ∧ Kn g s ∧ (∀ i, i < NN → A (g.2.2 i)) ∧ (∀ q, s.heap.size ≤ q → A q) ∧ Sx g A s s.heap
def wd (g : Gw) (μ : Mu) (s : State) (A : Nat → Prop) (H : Heap) (locs : List Loc) : Prop := va_P g.1 vwCl (wl g μ) H ∧ va_S A s.heap H locs
/-- a field by its place in a class's pool -/
def FL (own : String) (idx ci k : Nat) (CN : String) (T : u_T) (NF : Nat) : Prop := vwCl[ci]? = some (CN, T, NF) ∧ ci < 13 ∧ k < fN ci ∧ NF = fN ci ∧ (∀ w ∈ u_ws CN T NF, w ∈ gt) ∧ Cond.fieldLink own idx (T k).1 (T k).2.1 (T k).2.2.1 ∈ gt
/-- a field that is written: it isn't final, names and types of its class -/
def FP (ci k : Nat) (T : u_T) (NF : Nat) (ty : Nat → FieldType) (t : FieldType) : Prop := (T k).2.2.2 = false ∧ (∀ k, k < NF → parseFieldDescriptor (T k).2.2.1 = some (ty k)) ∧ (∀ a, a < NF → ∀ b, b < NF → a ≠ b → (T a).2.1 ≠ (T b).2.1) ∧ parseFieldDescriptor (T k).2.2.1 = some t ∧ fR ci k = false
/-- guards of the functions that are read off the code: an index within, a divisor, a truth value, a cell of a kind -/
def gd {R : Type} (i : Int32) (n : Nat) (x : Option R) : Option R := if i < 0 ∨ n ≤ i.toNatClampNeg then none else x
def dv {R : Type} (y : Int32) (x : Option R) : Option R := if y = 0 then none else x
def dvl {R : Type} (y : Int64) (x : Option R) : Option R := if y = 0 then none else x
def bz {R : Type} (v : Int32) (x : Option R) : Option R := if v = 0 ∨ v = 1 then x else none
def kd {R : Type} (o k : Nat) (x : Option R) : Option R := if oK o = k then x else none
theorem gd_some {R : Type} {i : Int32} {n : Nat} {x : Option R} {r : R} (h : gd i n x = some r) : vp_in i n ∧ x = some r := by
  unfold gd at h
  by_cases c : i < 0 ∨ n ≤ i.toNatClampNeg
  · rw [if_pos c] at h; cases h
  · rw [if_neg c] at h; exact ⟨c, h⟩
theorem dv_some {R : Type} {y : Int32} {x : Option R} {r : R} (h : dv y x = some r) : ¬ y = 0 ∧ x = some r := by
  unfold dv at h
  by_cases c : y = 0
  · rw [if_pos c] at h; cases h
  · rw [if_neg c] at h; exact ⟨c, h⟩
theorem dvl_some {R : Type} {y : Int64} {x : Option R} {r : R} (h : dvl y x = some r) : ¬ y = 0 ∧ x = some r := by
  unfold dvl at h
  by_cases c : y = 0
  · rw [if_pos c] at h; cases h
  · rw [if_neg c] at h; exact ⟨c, h⟩
theorem bz_some {R : Type} {v : Int32} {x : Option R} {r : R} (h : bz v x = some r) : (v = 0 ∨ v = 1) ∧ x = some r := by
  unfold bz at h
  by_cases c : v = 0 ∨ v = 1
  · rw [if_pos c] at h; exact ⟨c, h⟩
  · rw [if_neg c] at h; cases h
theorem kd_some {R : Type} {o k : Nat} {x : Option R} {r : R} (h : kd o k x = some r) : oK o = k ∧ x = some r := by
  unfold kd at h
  by_cases c : oK o = k
  · rw [if_pos c] at h; exact ⟨c, h⟩
  · rw [if_neg c] at h; cases h
/-- turns of a loop: n of them at most -/
def lpF {F : Type} (z : F) (b : F → F) : Nat → F
  | 0 => z
  | n + 1 => b (lpF z b n)
theorem lpF_s {F : Type} (z : F) (b : F → F) (n : Nat) : lpF z b (n + 1) = b (lpF z b n) := rfl
section FW
variable {p : Program} {l : Launch} {e : Env} {R : Room} {s : State} {m : MethodId} {args : Array Value} {below : List Frame} {meth : Method} {c : Code} {H : Heap} {locs : List Loc} {cells slots : Nat} {Q : State → Prop}
variable {cc : ByteArray} {pc nL : Nat} {ls : Array Slot} {rest : List Value} {own : String} {g : Gw} {A : Nat → Prop} {μ : Mu}
theorem gI (C : Cx p s m args c cc nL own g A) (hw : wd g μ s A H locs) {o ci k idx NF : Nat} {CN : String} {T : u_T} (fl : FL own idx ci k CN T NF) (ho : oK o = ci) (hr : fR ci k = false) (dec : decode cc pc = .ok (.getfield idx, 3))
    (kk : W p l e R s m args below meth c H locs cells slots Q (F0 m (pc + 3) ls (.int (μ.1 o k) :: rest))) : W p l e R s m args below meth c H locs cells slots Q (F0 m pc ls (.ref (g.2.2 o) :: rest)) := by
  obtain ⟨h1, h2, h3, h4, h5, h6⟩ := fl
  have hN : o < NN := oK_lt (by omega)
  refine va_get (D := g.1) (cl := vwCl) (tys := tyL g) (ws := wl g μ) (ci := ci) (v := .int (μ.1 o k)) (C := CN) (T := T) (N := NF) C.1 C.2.1 C.2.2.2.2.1 h5 C.2.2.2.1 C.2.2.2.2.2.1.1 hw.1 o (fs := fvl g μ o ci) ?_ h1 k (by omega) (C.2.2.2.2.1 _ h6) (fun _ h9 => h9) (fvl_get h3 hr) dec kk
  rw [wl_get hN, ce_obj ho h2]
theorem gR (C : Cx p s m args c cc nL own g A) (hw : wd g μ s A H locs) {o ci k idx NF t : Nat} {CN : String} {T : u_T} (fl : FL own idx ci k CN T NF) (ho : oK o = ci) (hr : fR ci k = true) (ht : oT o k = t) (dec : decode cc pc = .ok (.getfield idx, 3))
    (kk : W p l e R s m args below meth c H locs cells slots Q (F0 m (pc + 3) ls (.ref (g.2.2 t) :: rest))) : W p l e R s m args below meth c H locs cells slots Q (F0 m pc ls (.ref (g.2.2 o) :: rest)) := by
  obtain ⟨h1, h2, h3, h4, h5, h6⟩ := fl
  have hN : o < NN := oK_lt (by omega)
  subst ht
  refine va_get (D := g.1) (cl := vwCl) (tys := tyL g) (ws := wl g μ) (ci := ci) (v := .ref (g.2.2 (oT o k))) (C := CN) (T := T) (N := NF) C.1 C.2.1 C.2.2.2.2.1 h5 C.2.2.2.1 C.2.2.2.2.2.1.1 hw.1 o (fs := fvl g μ o ci) ?_ h1 k (by omega) (C.2.2.2.2.1 _ h6) (fun _ h9 => h9) (fvl_ref h3 hr) dec kk
  rw [wl_get hN, ce_obj ho h2]
theorem Cx.D (C : Cx p s m args c cc nL own g A) : va_D A (wl g μ) := wl_D C.2.2.2.2.2.1.2.2 C.2.2.2.2.2.2.1
theorem pV (C : Cx p s m args c cc nL own g A) (hw : wd g μ s A H locs) {o ci k idx NF : Nat} {CN : String} {T : u_T} {ty : Nat → FieldType} {t : FieldType} {v : Int32} (fl : FL own idx ci k CN T NF) (fp : FP ci k T NF ty t) (ho : oK o = ci) (hn : narrow t (.int v) = .int v) (hf : fits t (.int v) = true) (dec : decode cc pc = .ok (.putfield idx, 3))
    (kk : ∀ (H1 : Heap) (locs1 : List Loc), wd g (si μ o k v) s A H1 locs1 → W p l e R s m args below meth c H1 locs1 cells slots Q (F0 m (pc + 3) ls rest)) : W p l e R s m args below meth c H locs cells slots Q (F0 m pc ls (.int v :: .ref (g.2.2 o) :: rest)) := by
  obtain ⟨h1, h2, h3, h4, h5, h6⟩ := fl
  obtain ⟨f1, f2, f3, f4, f5⟩ := fp
  have hN : o < NN := oK_lt (by omega)
  refine va_put (D := g.1) (cl := vwCl) (tys := tyL g) (ws := wl g μ) (ci := ci) (v := .int v) (ty := t) (C := CN) (T := T) (N := NF) C.1 C.2.1 C.2.2.2.2.1 h5 ty f2 f3 C.2.2.2.1 C.2.2.2.2.2.1.1 hw.1 C.D hw.2 o (fs := fvl g μ o ci) ?_ h1 k (by omega) (C.2.2.2.2.1 _ h6) (fun _ h9 => h9) f1 f4 hn hf (by rw [fvl_len]; exact h3) dec (fun H1 locs1 hP hD hS => kk H1 locs1 ⟨?_, hS⟩)
  · rw [wl_get hN, ce_obj ho h2]
  · rw [fvl_set h3 f5, wl_set (μ' := si μ o k v) hN (ce_obj ho h2) (fun j hj => ce_si hj)] at hP
    exact hP
theorem pI (C : Cx p s m args c cc nL own g A) (hw : wd g μ s A H locs) {o ci k idx NF : Nat} {CN : String} {T : u_T} {ty : Nat → FieldType} {v : Int32} (fl : FL own idx ci k CN T NF) (fp : FP ci k T NF ty .int) (ho : oK o = ci) (dec : decode cc pc = .ok (.putfield idx, 3))
    (kk : ∀ (H1 : Heap) (locs1 : List Loc), wd g (si μ o k v) s A H1 locs1 → W p l e R s m args below meth c H1 locs1 cells slots Q (F0 m (pc + 3) ls rest)) : W p l e R s m args below meth c H locs cells slots Q (F0 m pc ls (.int v :: .ref (g.2.2 o) :: rest)) := pV C hw fl fp ho rfl rfl dec kk
theorem pZ (C : Cx p s m args c cc nL own g A) (hw : wd g μ s A H locs) {o ci k idx NF : Nat} {CN : String} {T : u_T} {ty : Nat → FieldType} {v : Int32} (fl : FL own idx ci k CN T NF) (fp : FP ci k T NF ty .boolean) (ho : oK o = ci) (hv : v = 0 ∨ v = 1) (dec : decode cc pc = .ok (.putfield idx, 3))
    (kk : ∀ (H1 : Heap) (locs1 : List Loc), wd g (si μ o k v) s A H1 locs1 → W p l e R s m args below meth c H1 locs1 cells slots Q (F0 m (pc + 3) ls rest)) : W p l e R s m args below meth c H locs cells slots Q (F0 m pc ls (.int v :: .ref (g.2.2 o) :: rest)) := by
  refine pV C hw fl fp ho ?_ ?_ dec kk <;> rcases hv with rfl | rfl <;> rfl
theorem lI (C : Cx p s m args c cc nL own g A) (hw : wd g μ s A H locs) {o n j : Nat} {i : Int32} (ho : oK o = 20) (hn : oN o = n) (hi : vp_in i n) (hj : i.toNatClampNeg = j) (dec : decode cc pc = .ok (.iaload, 1))
    (kk : W p l e R s m args below meth c H locs cells slots Q (F0 m (pc + 1) ls (.int (μ.1 o j) :: rest))) : W p l e R s m args below meth c H locs cells slots Q (F0 m pc ls (.int i :: .ref (g.2.2 o) :: rest)) := by
  subst hj
  have hN : o < NN := oK_lt (by omega)
  subst hn
  exact va_iald (D := g.1) (cl := vwCl) (tys := tyL g) (ws := wl g μ) C.1 C.2.1 C.2.2.2.2.2.1.1 hw.1 o 0 (by rw [wl_get hN, ce_int ho]) rfl hi dec kk
theorem lZ (C : Cx p s m args c cc nL own g A) (hw : wd g μ s A H locs) {o n j : Nat} {i : Int32} (ho : oK o = 22) (hn : oN o = n) (hi : vp_in i n) (hj : i.toNatClampNeg = j) (dec : decode cc pc = .ok (.baload, 1))
    (kk : W p l e R s m args below meth c H locs cells slots Q (F0 m (pc + 1) ls (.int (μ.1 o j) :: rest))) : W p l e R s m args below meth c H locs cells slots Q (F0 m pc ls (.int i :: .ref (g.2.2 o) :: rest)) := by
  subst hj
  have hN : o < NN := oK_lt (by omega)
  subst hn
  exact va_zald (D := g.1) (cl := vwCl) (tys := tyL g) (ws := wl g μ) C.1 C.2.1 C.2.2.2.2.2.1.1 hw.1 o 2 (by rw [wl_get hN, ce_boo ho]) rfl hi dec kk
theorem lJ (C : Cx p s m args c cc nL own g A) (hw : wd g μ s A H locs) {o n j : Nat} {i : Int32} (ho : oK o = 21) (hn : oN o = n) (hi : vp_in i n) (hj : i.toNatClampNeg = j) (dec : decode cc pc = .ok (.laload, 1))
    (kk : W p l e R s m args below meth c H locs cells slots Q (F0 m (pc + 1) ls (.long (μ.2 o j) :: rest))) : W p l e R s m args below meth c H locs cells slots Q (F0 m pc ls (.int i :: .ref (g.2.2 o) :: rest)) := by
  subst hj
  have hN : o < NN := oK_lt (by omega)
  subst hn
  exact va_lald (D := g.1) (cl := vwCl) (tys := tyL g) (ws := wl g μ) C.1 C.2.1 C.2.2.2.2.2.1.1 hw.1 o 1 (by rw [wl_get hN, ce_lon ho]) rfl hi dec kk
theorem sI (C : Cx p s m args c cc nL own g A) (hw : wd g μ s A H locs) {o n j : Nat} {i x : Int32} (ho : oK o = 20) (hn : oN o = n) (hi : vp_in i n) (hj : i.toNatClampNeg = j) (dec : decode cc pc = .ok (.iastore, 1))
    (kk : ∀ (H1 : Heap) (locs1 : List Loc), wd g (si μ o j x) s A H1 locs1 → W p l e R s m args below meth c H1 locs1 cells slots Q (F0 m (pc + 1) ls rest)) : W p l e R s m args below meth c H locs cells slots Q (F0 m pc ls (.int x :: .int i :: .ref (g.2.2 o) :: rest)) := by
  subst hj
  have hN : o < NN := oK_lt (by omega)
  subst hn
  refine va_iast (D := g.1) (cl := vwCl) (tys := tyL g) (ws := wl g μ) C.1 C.2.1 C.2.2.2.2.2.1.1 hw.1 C.D hw.2 o 0 (by rw [wl_get hN, ce_int ho]) rfl hi dec (fun H1 locs1 hP hD hS => kk H1 locs1 ⟨?_, hS⟩)
  rw [wl_set (μ' := si μ o i.toNatClampNeg x) hN (by rw [ce_int ho]; simp [si]) (fun j hj => ce_si hj)] at hP
  exact hP
theorem sJ (C : Cx p s m args c cc nL own g A) (hw : wd g μ s A H locs) {o n j : Nat} {i : Int32} {x : Int64} (ho : oK o = 21) (hn : oN o = n) (hi : vp_in i n) (hj : i.toNatClampNeg = j) (dec : decode cc pc = .ok (.lastore, 1))
    (kk : ∀ (H1 : Heap) (locs1 : List Loc), wd g (sj μ o j x) s A H1 locs1 → W p l e R s m args below meth c H1 locs1 cells slots Q (F0 m (pc + 1) ls rest)) : W p l e R s m args below meth c H locs cells slots Q (F0 m pc ls (.long x :: .int i :: .ref (g.2.2 o) :: rest)) := by
  subst hj
  have hN : o < NN := oK_lt (by omega)
  subst hn
  refine va_last (D := g.1) (cl := vwCl) (tys := tyL g) (ws := wl g μ) C.1 C.2.1 C.2.2.2.2.2.1.1 hw.1 C.D hw.2 o 1 (by rw [wl_get hN, ce_lon ho]) rfl hi dec (fun H1 locs1 hP hD hS => kk H1 locs1 ⟨?_, hS⟩)
  rw [wl_set (μ' := sj μ o i.toNatClampNeg x) hN (by rw [ce_lon ho]; simp [sj]) (fun j hj => ce_sj hj)] at hP
  exact hP
theorem sZ (C : Cx p s m args c cc nL own g A) (hw : wd g μ s A H locs) {o n j : Nat} {i x : Int32} (ho : oK o = 22) (hn : oN o = n) (hi : vp_in i n) (hj : i.toNatClampNeg = j) (hv : x = 0 ∨ x = 1) (dec : decode cc pc = .ok (.bastore, 1))
    (kk : ∀ (H1 : Heap) (locs1 : List Loc), wd g (si μ o j x) s A H1 locs1 → W p l e R s m args below meth c H1 locs1 cells slots Q (F0 m (pc + 1) ls rest)) : W p l e R s m args below meth c H locs cells slots Q (F0 m pc ls (.int x :: .int i :: .ref (g.2.2 o) :: rest)) := by
  subst hj
  have hN : o < NN := oK_lt (by omega)
  subst hn
  have hx : vp_nar .boolean x = x := by rcases hv with rfl | rfl <;> rfl
  refine va_zast (D := g.1) (cl := vwCl) (tys := tyL g) (ws := wl g μ) C.1 C.2.1 C.2.2.2.2.2.1.1 hw.1 C.D hw.2 o 2 (by rw [wl_get hN, ce_boo ho]) rfl hi dec (fun H1 locs1 hP hD hS => kk H1 locs1 ⟨?_, hS⟩)
  rw [wl_set (μ' := si μ o i.toNatClampNeg x) hN (by rw [ce_boo ho, hx]; simp [si]) (fun j hj => ce_si hj)] at hP
  exact hP
theorem lA (C : Cx p s m args c cc nL own g A) (hw : wd g μ s A H locs) {o n kk0 t : Nat} {CN : String} {i : Int32} (ho : oK o = kk0) (hk : 23 ≤ kk0) (hty : (tyL g)[kk0 - 20]? = some (g.2.1 (kk0 - 20), .object CN)) (hn : oN o = n) (hi : vp_in i n) (ht : oT o i.toNatClampNeg = t) (dec : decode cc pc = .ok (.aaload, 1)) (h99 : kk0 < 99)
    (kk : W p l e R s m args below meth c H locs cells slots Q (F0 m (pc + 1) ls (.ref (g.2.2 t) :: rest))) : W p l e R s m args below meth c H locs cells slots Q (F0 m pc ls (.int i :: .ref (g.2.2 o) :: rest)) := by
  have hN : o < NN := oK_lt (by omega)
  subst hn
  subst ht
  exact va_aldq (D := g.1) (cl := vwCl) (tys := tyL g) (ws := wl g μ) C.1 C.2.1 C.2.2.2.2.2.1.1 hw.1 o (kk0 - 20) (f := fun j => some (g.2.2 (oT o j))) (by rw [wl_get hN, ce_refs ho hk]) hty hi dec kk
end FW
/-- a contract: from the world μ the method ends with the outcome o and the world μ' -/
def Ct (l : Launch) (g : Gw) (y : MethodName) (cc : ByteArray) (nL : Nat) (rt : Option FieldType) (d : Nat) (av : List Value) (μ : Mu) (o : Option Value) (μ' : Mu) : Prop :=
  ∀ sz : Nat, Met l y (Cond.code y cc nL rt :: gt) (rmD d) (va_Pc av (fun U => U.heap.size = sz ∧ va_P g.1 vwCl (wl g μ) U.heap ∧ Kn g U ∧ Sx g (Aw g sz) U U.heap)) (fun _ st oc t => oc = .returned o ∧ va_P g.1 vwCl (wl g μ') t.heap ∧ va_F (Aw g sz) st t) 0 0 (Aw g sz)
def Qf (g : Gw) (sz : Nat) (o : Option Value) (μ' : Mu) : Array Value → State → Outcome → State → Prop := fun _ st oc t => oc = .returned o ∧ va_P g.1 vwCl (wl g μ') t.heap ∧ va_F (Aw g sz) st t
abbrev WQ (p : Program) (l : Launch) (e : Env) (R : Room) (s : State) (m : MethodId) (args : Array Value) (below : List Frame) (meth : Method) (c : Code) (g : Gw) (o : Option Value) (μ' : Mu) (H : Heap) (locs : List Loc) (fr : JFrame) : Prop := W p l e R s m args below meth c H locs 0 0 (MQ below (Qf g s.heap.size o μ') args s 0 0 (Aw g s.heap.size)) fr
theorem Ct.of {l : Launch} {g : Gw} {y : MethodName} {cc : ByteArray} {nL : Nat} {rt : Option FieldType} {d : Nat} {av : List Value} {μ : Mu} {o : Option Value} {μ' : Mu} (hy : plainName y.cls = true) (hlen : (lg_sl av).length ≤ nL)
    (body : ∀ (p : Program) (e : Env) (s : State) (m : MethodId) (args : Array Value) (below : List Frame) (meth : Method) (c : Code) (ls : Array Slot), Cx p s m args c cc nL y.cls g (Aw g s.heap.size) → wd g μ s (Aw g s.heap.size) s.heap [] → meth.sig.returnType = rt → meth.locks = false → lv_has ls nL (lv_args 0 av) →
      WQ p l e (rmD d) s m args below meth c g o μ' s.heap [] (F0 m 0 ls [])) : Ct l g y cc nL rt d av μ o μ' := by
  intro sz
  refine Met.ofW (cc := cc) (maxL := nL) (ret := rt) hy rfl ?_
  intro p e s m args below meth c s₁ B hml hv
  obtain ⟨rfl, hsz, hP, hK, hSx⟩ := hv
  subst hsz
  have hts := atoms_spec (ws := Cond.code y cc nL rt :: gt) B.pre
  have hown : s.vm.findClass y.cls = some m.cls := findClass_of_methodNamed B.named
  have hl := lv_entry av (n := nL) hlen
  rw [lg_entry_eq]
  refine body p e s m _ below meth c _ ⟨B.exec, B.bytes, hml, hown, fun w hw => hts w (List.mem_cons_of_mem _ hw), hK, fun i hi => Or.inl ⟨i, hi, rfl⟩, fun q hq => Or.inr hq, hSx⟩ ⟨hP, va_S.rf⟩ B.returns B.notSynchronized hl
section FR
variable {p : Program} {l : Launch} {e : Env} {R : Room} {s : State} {m : MethodId} {args : Array Value} {below : List Frame} {meth : Method} {c : Code} {H : Heap} {locs : List Loc} {cells slots : Nat}
variable {cc : ByteArray} {pc nL : Nat} {ls : Array Slot} {own : String} {g : Gw} {μ μ' : Mu} {sz : Nat} {o : Option Value}
theorem rI (C : Cx p s m args c cc nL own g (Aw g sz)) (hw : wd g μ s (Aw g sz) H locs) (hr : meth.sig.returnType = some .int) (hlocks : meth.locks = false) {v : Int32} (ho : some (.int v) = o) (hμ : μ = μ') (dec : decode cc pc = .ok (.ireturn, 1)) : W p l e R s m args below meth c H locs cells slots (MQ below (Qf g sz o μ') args s cells slots (Aw g sz)) (F0 m pc ls [.int v]) := by
  subst hμ; subst ho
  exact W.iret (v := v) C.1 C.2.1 hr (fun t ht hW => ⟨rfl, by rw [ht]; exact hw.1, hw.2.F ht⟩) hw.2.2.2 dec
theorem rZ (C : Cx p s m args c cc nL own g (Aw g sz)) (hw : wd g μ s (Aw g sz) H locs) (hr : meth.sig.returnType = some .boolean) (hlocks : meth.locks = false) {v : Int32} (hv : v = 0 ∨ v = 1) (ho : some (.int v) = o) (hμ : μ = μ') (dec : decode cc pc = .ok (.ireturn, 1)) : W p l e R s m args below meth c H locs cells slots (MQ below (Qf g sz o μ') args s cells slots (Aw g sz)) (F0 m pc ls [.int v]) := by
  subst hμ; subst ho
  exact W.zret (v := v) (ty := .boolean) C.1 C.2.1 hr (by rcases hv with rfl | rfl <;> rfl) (fun t ht hW => ⟨rfl, by rw [ht]; exact hw.1, hw.2.F ht⟩) hw.2.2.2 dec
theorem rV (C : Cx p s m args c cc nL own g (Aw g sz)) (hw : wd g μ s (Aw g sz) H locs) (hr : meth.sig.returnType = none) (hlocks : meth.locks = false) (ho : none = o) (hμ : μ = μ') (dec : decode cc pc = .ok (.return_, 1)) : W p l e R s m args below meth c H locs cells slots (MQ below (Qf g sz o μ') args s cells slots (Aw g sz)) (F0 m pc ls []) := by
  subst hμ; subst ho
  exact W.vret C.1 C.2.1 hr (fun t ht hW => ⟨rfl, by rw [ht]; exact hw.1, hw.2.F ht⟩) hw.2.2.2 dec
theorem rL (C : Cx p s m args c cc nL own g (Aw g sz)) (hw : wd g μ s (Aw g sz) H locs) (hr : meth.sig.returnType = some .long) (hlocks : meth.locks = false) {v : Int64} (ho : some (.long v) = o) (hμ : μ = μ') (dec : decode cc pc = .ok (.lreturn, 1)) : W p l e R s m args below meth c H locs cells slots (MQ below (Qf g sz o μ') args s cells slots (Aw g sz)) (F0 m pc ls [.long v]) := by
  subst hμ; subst ho
  exact W.lret (v := v) C.1 C.2.1 hr (fun t ht hW => ⟨rfl, by rw [ht]; exact hw.1, hw.2.F ht⟩) hw.2.2.2 dec
theorem rA (C : Cx p s m args c cc nL own g (Aw g sz)) (hw : wd g μ s (Aw g sz) H locs) {CN : String} (hr : meth.sig.returnType = some (.object CN)) (hlocks : meth.locks = false) {q : Nat} (ho : some (.ref q) = o) (hμ : μ = μ') (dec : decode cc pc = .ok (.areturn, 1)) : W p l e R s m args below meth c H locs cells slots (MQ below (Qf g sz o μ') args s cells slots (Aw g sz)) (F0 m pc ls [.ref q]) := by
  subst hμ; subst ho
  exact W.aret (v := .ref q) C.1 C.2.1 hr (Or.inl ⟨_, rfl⟩) (Or.inr ⟨_, rfl⟩) (fun t ht hW => ⟨rfl, by rw [ht]; exact hw.1, hw.2.F ht⟩) hw.2.2.2 dec
end FR
/-- a call's words: the link, the method's code, how many arguments -/
def ML (own : String) (idx : Nat) (y : MethodName) (cc : ByteArray) (nL : Nat) (rt : Option FieldType) (n : Nat) : Prop :=
  Cond.methodLink own idx y ∈ gt ∧ Cond.code y cc nL rt ∈ gt ∧ Cond.initialized y.cls ∈ gt ∧ (y.cls ≠ "java/lang/invoke/MethodHandle" ∧ y.cls ≠ "java/lang/invoke/VarHandle" ∧ (parseMethodDescriptor y.desc).map (fun d => d.parameters.length) = some n)
/-- a nest mate's static method -/
def MLN (own : String) (idx : Nat) (y : MethodName) (host : String) (cc : ByteArray) (nL : Nat) (rt : Option FieldType) (n : Nat) : Prop :=
  Cond.methodLinkNest own idx y host ∈ nestW ∧ Cond.code y cc nL rt ∈ gt ∧ Cond.initialized y.cls ∈ gt ∧ (y.cls ≠ "java/lang/invoke/MethodHandle" ∧ y.cls ≠ "java/lang/invoke/VarHandle" ∧ (parseMethodDescriptor y.desc).map (fun d => d.parameters.length) = some n)
/-- fourteen ints copied from one row into another -/
def cp14 (μ : Mu) (a b : Nat) : Mu := (fun q => if q = b then va_cpy (μ.1 a) (μ.1 b) 0 0 14 else μ.1 q, μ.2)
section FC
variable {p : Program} {l : Launch} {e : Env} {R : Room} {s : State} {m : MethodId} {args : Array Value} {below : List Frame} {meth : Method} {c : Code} {H : Heap} {locs : List Loc} {cells slots : Nat} {Q : State → Prop}
variable {cc : ByteArray} {pc nL : Nat} {ls : Array Slot} {rest : List Value} {own : String} {g : Gw} {A : Nat → Prop} {μ μ' : Mu} {o : Option Value}
theorem Ct.blind {sz : Nat} {av : List Value} : FrameBlind (va_Pc av (fun U => U.heap.size = sz ∧ va_P g.1 vwCl (wl g μ) U.heap ∧ Kn g U ∧ Sx g (Aw g sz) U U.heap)) := fun a U g9 mk h => ⟨h.1, h.2.1, h.2.2.1, Kn.same (s := U) (U := U.calling g9 mk a) rfl h.2.2.2.1, Sx.same (s := U) (U := U.calling g9 mk a) rfl h.2.2.2.2⟩
theorem gt_in {y : MethodName} {cc' : ByteArray} {nL' : Nat} {rt : Option FieldType} (h : Cond.code y cc' nL' rt ∈ gt) : GoodIn gt (Cond.code y cc' nL' rt :: gt) := fun w hw => by
  rcases List.mem_cons.mp hw with rfl | h1
  · exact ⟨h, gt_good h⟩
  · exact ⟨h1, gt_good h1⟩
theorem Cx.free (C : Cx p s m args c cc nL own g A) (hS : va_S A s.heap H locs) : ∀ q, Aw g H.size q → A q := fun q h => by
  rcases h with ⟨i, hi, rfl⟩ | h
  · exact C.2.2.2.2.2.2.1 i hi
  · exact C.2.2.2.2.2.2.2.1 q (Nat.le_trans hS.1 h)
theorem Cx.S (C : Cx p s m args c cc nL own g A) (hS : va_S A s.heap H locs) {U : State} (hU : U.heap = H) (hW : s.WarmedH U.vm) : Sx g (Aw g H.size) U U.heap := by
  rw [hU]
  exact Sx.warm hW (Sx.narrow (Sx.kept C.2.2.2.2.2.2.2.2 hS.2.1) (C.free hS))
theorem cl_go (C : Cx p s m args c cc nL own g A) (hw : wd g μ s A H locs) {a : Array Value} {st0 : List Value} (hr : va_Run p l e R s m args below meth c H locs cells slots 0 0 (F0 m pc ls st0) rest (Qf g H.size o μ' a) (Aw g H.size))
    (kk : ∀ (H1 : Heap) (locs1 : List Loc), wd g μ' s A H1 locs1 → W p l e R s m args below meth c H1 locs1 cells slots Q (F0 m (pc + 3) ls (o.toList ++ rest))) : W p l e R s m args below meth c H locs cells slots Q (F0 m pc ls st0) := by
  intro T hT X
  obtain ⟨v, st₀, t, T', L, h0, X', hL, e1, e2, ⟨hv, hP, hz, hk⟩, st⟩ := hr T hT X
  cases hv
  rw [h0] at hz hk
  have hF := C.free hw.2
  obtain ⟨t2, a1, b1⟩ := kk T'.heap (locs ++ L) ⟨by rw [e1]; exact hP, ⟨Nat.le_trans hw.2.1 (by rw [e1]; exact hz), fun q h1 h2 => by rw [e1, hk q (Nat.lt_of_lt_of_le h1 hw.2.1) (fun z => h2 (hF q z))]; exact hw.2.2.1 q h1 h2, fun q hq => by
      rcases List.mem_append.mp hq with h | h
      · exact hw.2.2.2 q h
      · exact hF _ (hL q h)⟩⟩ T' rfl X'
  exact ⟨t2, st t2 a1, b1⟩
theorem cV (C : Cx p s m args c cc nL own g A) (hw : wd g μ s A H locs) {y : MethodName} {cc' : ByteArray} {nL' idx n b ci d NF : Nat} {rt : Option FieldType} {CN : String} {T : u_T} {As st1 : List Value} (hM : Ct l g y cc' nL' rt d (.ref (g.2.2 b) :: As) μ o μ') (ml : ML own idx y cc' nL' rt n) (hi : Cond.instanceMethod y ∈ gt) (hs : Cond.selects y.cls y y ∈ gt)
    (hb : oK b = ci) (hc : vwCl[ci]? = some (CN, T, NF)) (hcn : CN = y.cls) (hci : ci < 13) (hn : As.length = n) (hsz : ls.size = nL) (hR : d + 1 ≤ R.frames ∧ 8 + (nL' + 11) + 40 * d ≤ R.locals) (hrm : (rest.map fun v => v.category).sum ≤ 8) (hcs : cells ≤ R.cells ∧ slots ≤ R.slots) (hst : o.toList ++ rest = st1) (dec : decode cc pc = .ok (.invokevirtual idx, 3))
    (kk : ∀ (H1 : Heap) (locs1 : List Loc), wd g μ' s A H1 locs1 → W p l e R s m args below meth c H1 locs1 cells slots Q (F0 m (pc + 3) ls st1)) : W p l e R s m args below meth c H locs cells slots Q (F0 m pc ls (As.reverse ++ .ref (g.2.2 b) :: rest)) := by
  subst hst
  have hts := C.2.2.2.2.1
  subst hcn
  have hN : b < NN := oK_lt (by omega)
  have hcell := hw.1 b _ (wl_get hN)
  rw [ce_obj hb hci] at hcell
  obtain ⟨r, h1, cell, q1, q2, q3, q4⟩ := hcell
  have hr : r = (y.cls, T, NF) := Option.some.inj (h1.symm.trans hc)
  subst hr
  obtain ⟨hS, hfc, kC, hkC, hkind⟩ := C.2.2.2.2.2.1.1.1 ci _ hc
  refine cl_go C hw (va_runV (C := y.cls) (b := g.2.2 b) (As := As) (rest := rest) ⟨C.1, C.2.1, C.2.2.1, C.2.2.2.1, hts⟩ (hM H.size) ⟨callB_of n hts (gt_in ml.2.1) rfl rfl rfl (hts _ ml.2.2.1) (hts _ ml.1) ml.2.2.2 hR, hts _ hi, hts _ hs⟩ ⟨Ct.blind, ⟨cell, q1, by rw [q3]; rfl, by rw [q2]; exact hfc⟩, fun U hU hW => ⟨rfl, by rw [hU], by rw [hU]; exact hw.1, Kn.moved hW C.2.2.2.2.2.1, C.S hw.2 hU hW⟩⟩ rfl hn hsz rfl (lv_room hrm) dec hcs) kk
theorem sc1 {b : Nat} (h : oK b = 130) : ∃ i, i < 47 ∧ b = 1000 + i := by
  by_cases h1 : b < 1000
  · exfalso
    by_cases h2 : b < NN
    · have h3 : ∀ o, o < NN → ¬ oK o = 130 := by decide +kernel
      exact h3 b h2 h
    · have h2 : oKl.length ≤ b := by
        have : oKl.length = NN := by decide +kernel
        omega
      unfold oK at h
      rw [if_pos h1, List.getD, List.getElem?_eq_none h2] at h
      exact absurd h (by decide)
  · unfold oK at h
    rw [if_neg h1] at h
    by_cases h4 : b < 1047
    · exact ⟨b - 1000, by omega, by omega⟩
    · rw [if_neg h4] at h
      omega
theorem cVS (C : Cx p s m args c cc nL own g A) (hw : wd g μ s A H locs) {y : MethodName} {cc' : ByteArray} {nL' idx n b d : Nat} {rt : Option FieldType} {As st1 : List Value} (hM : Ct l g y cc' nL' rt d (.ref (g.2.2 b) :: As) μ o μ') (ml : ML own idx y cc' nL' rt n) (hi : Cond.instanceMethod y ∈ gt) (hs : Cond.selects y.cls y y ∈ gt)
    (hb : oK b = 130) (hcn : y.cls = "java/lang/String") (hn : As.length = n) (hsz : ls.size = nL) (hR : d + 1 ≤ R.frames ∧ 8 + (nL' + 11) + 40 * d ≤ R.locals) (hrm : (rest.map fun v => v.category).sum ≤ 8) (hcs : cells ≤ R.cells ∧ slots ≤ R.slots) (hst : o.toList ++ rest = st1) (dec : decode cc pc = .ok (.invokevirtual idx, 3))
    (kk : ∀ (H1 : Heap) (locs1 : List Loc), wd g μ' s A H1 locs1 → W p l e R s m args below meth c H1 locs1 cells slots Q (F0 m (pc + 3) ls st1)) : W p l e R s m args below meth c H locs cells slots Q (F0 m pc ls (As.reverse ++ .ref (g.2.2 b) :: rest)) := by
  subst hst
  have hts := C.2.2.2.2.1
  obtain ⟨i, hi47, rfl⟩ := sc1 hb
  obtain ⟨cell, h1, h2, h3, -⟩ := (C.2.2.2.2.2.2.2.2.1 i hi47).1.kept hw.2.2.1
  refine cl_go C hw (va_runV (C := y.cls) (b := g.2.2 (1000 + i)) (As := As) (rest := rest) ⟨C.1, C.2.1, C.2.2.1, C.2.2.2.1, hts⟩ (hM H.size) ⟨callB_of n hts (gt_in ml.2.1) rfl rfl rfl (hts _ ml.2.2.1) (hts _ ml.1) ml.2.2.2 hR, hts _ hi, hts _ hs⟩ ⟨Ct.blind, ⟨cell, h1, h2, by rw [hcn]; exact h3⟩, fun U hU hW => ⟨rfl, by rw [hU], by rw [hU]; exact hw.1, Kn.moved hW C.2.2.2.2.2.1, C.S hw.2 hU hW⟩⟩ rfl hn hsz rfl (lv_room hrm) dec hcs) kk
theorem cS (C : Cx p s m args c cc nL own g A) (hw : wd g μ s A H locs) {y : MethodName} {cc' : ByteArray} {nL' idx n d : Nat} {rt : Option FieldType} {As st1 : List Value} (hM : Ct l g y cc' nL' rt d As μ o μ') (ml : ML own idx y cc' nL' rt n) (hi : Cond.static y ∈ gt)
    (hn : As.length = n) (hsz : ls.size = nL) (hR : d + 1 ≤ R.frames ∧ 8 + (nL' + 11) + 40 * d ≤ R.locals) (hrm : (rest.map fun v => v.category).sum ≤ 8) (hcs : cells ≤ R.cells ∧ slots ≤ R.slots) (hst : o.toList ++ rest = st1) (dec : decode cc pc = .ok (.invokestatic idx, 3))
    (kk : ∀ (H1 : Heap) (locs1 : List Loc), wd g μ' s A H1 locs1 → W p l e R s m args below meth c H1 locs1 cells slots Q (F0 m (pc + 3) ls st1)) : W p l e R s m args below meth c H locs cells slots Q (F0 m pc ls (As.reverse ++ rest)) := by
  subst hst
  have hts := C.2.2.2.2.1
  refine cl_go C hw (va_runS (As := As) (rest := rest) ⟨C.1, C.2.1, C.2.2.1, C.2.2.2.1, hts⟩ (hM H.size) ⟨callB_of n hts (gt_in ml.2.1) rfl rfl rfl (hts _ ml.2.2.1) (hts _ ml.1) ml.2.2.2 hR, hts _ hi⟩ ⟨Ct.blind, fun U hU hW => ⟨rfl, by rw [hU], by rw [hU]; exact hw.1, Kn.moved hW C.2.2.2.2.2.1, C.S hw.2 hU hW⟩⟩ rfl hn hsz rfl (lv_room hrm) dec hcs) kk
theorem cSN (C : Cx p s m args c cc nL own g A) (hw : wd g μ s A H locs) {y : MethodName} {cc' : ByteArray} {nL' idx n d : Nat} {rt : Option FieldType} {host : String} {As st1 : List Value} (hM : Ct l g y cc' nL' rt d As μ o μ') (ml : MLN own idx y host cc' nL' rt n) (hi : Cond.static y ∈ gt)
    (hn : As.length = n) (hsz : ls.size = nL) (hR : d + 1 ≤ R.frames ∧ 8 + (nL' + 11) + 40 * d ≤ R.locals) (hrm : (rest.map fun v => v.category).sum ≤ 8) (hcs : cells ≤ R.cells ∧ slots ≤ R.slots) (hst : o.toList ++ rest = st1) (dec : decode cc pc = .ok (.invokestatic idx, 3))
    (kk : ∀ (H1 : Heap) (locs1 : List Loc), wd g μ' s A H1 locs1 → W p l e R s m args below meth c H1 locs1 cells slots Q (F0 m (pc + 3) ls st1)) : W p l e R s m args below meth c H locs cells slots Q (F0 m pc ls (As.reverse ++ rest)) := by
  subst hst
  have hts := C.2.2.2.2.1
  refine cl_go C hw (va_runSN (As := As) (rest := rest) ⟨C.1, C.2.1, C.2.2.1, C.2.2.2.1, hts⟩ (hM H.size) ⟨va_cnB n hts (gt_in ml.2.1) rfl rfl rfl (C.2.2.2.2.2.1.2.1.1 _ ml.1) (hts _ ml.2.2.1) ml.2.2.2 hR, hts _ hi, trivial⟩ ⟨Ct.blind, fun U hU hW => ⟨rfl, by rw [hU], by rw [hU]; exact hw.1, Kn.moved hW C.2.2.2.2.2.1, C.S hw.2 hU hW⟩⟩ rfl hn hsz rfl (lv_room hrm) dec hcs) kk
theorem cpI (C : Cx p s m args c cc nL own g A) (hw : wd g μ s A H locs) {o1 o2 idx : Nat} (ml : Cond.methodLink own idx arraycopyName ∈ gt) (aw : Cond.native arraycopyName ∈ gt ∧ Cond.static arraycopyName ∈ gt ∧ Cond.initialized "java/lang/System" ∈ gt) (h1 : oK o1 = 20) (n1 : oN o1 = 14) (h2 : oK o2 = 20) (n2 : oN o2 = 14) (hsz : ls.size = nL)
    (hfr : 1 ≤ R.frames) (hlo : (rest.map fun v => v.category).sum + (nativeFrameWords "java/lang/System" "arraycopy" 5 + 11) ≤ R.locals) (dec : decode cc pc = .ok (.invokestatic idx, 3))
    (kk : ∀ (H1 : Heap) (locs1 : List Loc), wd g (cp14 μ o1 o2) s A H1 locs1 → W p l e R s m args below meth c H1 locs1 cells slots Q (F0 m (pc + 3) ls rest)) : W p l e R s m args below meth c H locs cells slots Q (F0 m pc ls (.int 14 :: .int 0 :: .ref (g.2.2 o2) :: .int 0 :: .ref (g.2.2 o1) :: rest)) := by
  have hts := C.2.2.2.2.1
  have hN1 : o1 < NN := oK_lt (by omega)
  have hN2 : o2 < NN := oK_lt (by omega)
  refine va_copyi (D := g.1) (cl := vwCl) (tys := tyL g) (ws := wl g μ) (ty := .int) C.1 C.2.1 (by rw [C.2.2.1, hsz]) C.2.2.2.1 (hts _ ml) (hts _ aw.1) (hts _ aw.2.1) (hts _ aw.2.2) C.2.2.2.2.2.1.1 hw.1 C.D hw.2 o1 o2 0 0 (f := μ.1 o1) (g := μ.1 o2) (by rw [wl_get hN1, ce_int h1]) (by rw [wl_get hN2, ce_int h2]) rfl rfl rfl (by decide) (by decide) (by decide) (by rw [n1]; decide) (by rw [n2]; decide) (fun i _ => rfl) hfr hlo dec (fun H1 locs1 hP hD hS => kk H1 locs1 ⟨?_, hS⟩)
  rw [wl_set (μ' := cp14 μ o1 o2) hN2 (by rw [ce_int h2]; simp [cp14]) (fun j hj => by simp [ce, fvl, cp14, hj])] at hP
  exact hP
end FC
theorem bnd {α β : Type} {x : Option α} {f : α → Option β} {b : β} (h : x.bind f = some b) : ∃ a, x = some a ∧ f a = some b := by
  cases x with
  | none => cases h
  | some a => exact ⟨a, rfl, h⟩
theorem vin {i : Int32} {n : Nat} (h : 0 ≤ i.toInt ∧ i.toInt < (n : Int)) : vp_in i n := vp_in_iff.mpr h
theorem vin_lt {i : Int32} {n j : Nat} (h : vp_in i n) (hj : i.toNatClampNeg = j) : j < n := by
  subst hj
  exact Nat.not_le.mp fun q => h (Or.inr q)
theorem sc_all : ∀ o, o < NN → oK o = 6 → oT o 0 = o + 1 ∧ oK (o + 1) = 20 ∧ oN (o + 1) = 14 := by decide +kernel
theorem sc_T {o : Nat} (h : oK o = 6) : oT o 0 = o + 1 := (sc_all o (oK_lt (by omega)) h).1
theorem sc_K {o : Nat} (h : oK o = 6) : oK (o + 1) = 20 := (sc_all o (oK_lt (by omega)) h).2.1
theorem sc_N {o : Nat} (h : oK o = 6) : oN (o + 1) = 14 := (sc_all o (oK_lt (by omega)) h).2.2
theorem tr_all : ∀ o, o < NN → oK o = 9 → oT o 0 = o + 1 ∧ oK (o + 1) = 21 ∧ oN (o + 1) = 40 := by decide +kernel
theorem tr_T {o : Nat} (h : oK o = 9) : oT o 0 = o + 1 := (tr_all o (oK_lt (by omega)) h).1
theorem tr_K {o : Nat} (h : oK o = 9) : oK (o + 1) = 21 := (tr_all o (oK_lt (by omega)) h).2.1
theorem tr_N {o : Nat} (h : oK o = 9) : oN (o + 1) = 40 := (tr_all o (oK_lt (by omega)) h).2.2
theorem im_all : ∀ o, o < NN → oK o = 2 → oT o 1 = o + 1 ∧ oK (o + 1) = 5 ∧ oT o 2 = o + 2 ∧ oK (o + 2) = 6 := by decide +kernel
theorem im_T1 {o : Nat} (h : oK o = 2) : oT o 1 = o + 1 := (im_all o (oK_lt (by omega)) h).1
theorem im_K1 {o : Nat} (h : oK o = 2) : oK (o + 1) = 5 := (im_all o (oK_lt (by omega)) h).2.1
theorem im_T2 {o : Nat} (h : oK o = 2) : oT o 2 = o + 2 := (im_all o (oK_lt (by omega)) h).2.2.1
theorem im_K2 {o : Nat} (h : oK o = 2) : oK (o + 2) = 6 := (im_all o (oK_lt (by omega)) h).2.2.2
theorem a7_all : ∀ j, j < 6 → oT 7 j = 57 + 2 * j ∧ oK (57 + 2 * j) = 6 := by decide +kernel
theorem aT7 {i : Int32} {j : Nat} (h : vp_in i 6) (hj : i.toNatClampNeg = j) : oT 7 i.toNatClampNeg = 57 + 2 * j := by
  subst hj
  exact (a7_all _ (vin_lt h rfl)).1
theorem aK7 {i : Int32} {j : Nat} (h : vp_in i 6) (hj : i.toNatClampNeg = j) : oK (57 + 2 * j) = 6 := (a7_all _ (vin_lt h hj)).2
theorem a11_all : ∀ j, j < 40 → oT 11 j = 69 + 2 * j ∧ oK (69 + 2 * j) = 6 := by decide +kernel
theorem aT11 {i : Int32} {j : Nat} (h : vp_in i 40) (hj : i.toNatClampNeg = j) : oT 11 i.toNatClampNeg = 69 + 2 * j := by
  subst hj
  exact (a11_all _ (vin_lt h rfl)).1
theorem aK11 {i : Int32} {j : Nat} (h : vp_in i 40) (hj : i.toNatClampNeg = j) : oK (69 + 2 * j) = 6 := (a11_all _ (vin_lt h hj)).2
theorem a27_all : ∀ j, j < 7 → oT 27 j = 155 + 2 * j ∧ oK (155 + 2 * j) = 6 := by decide +kernel
theorem aT27 {i : Int32} {j : Nat} (h : vp_in i 7) (hj : i.toNatClampNeg = j) : oT 27 i.toNatClampNeg = 155 + 2 * j := by
  subst hj
  exact (a27_all _ (vin_lt h rfl)).1
theorem aK27 {i : Int32} {j : Nat} (h : vp_in i 7) (hj : i.toNatClampNeg = j) : oK (155 + 2 * j) = 6 := (a27_all _ (vin_lt h hj)).2
theorem a31_all : ∀ j, j < 4 → oT 31 j = 33 + 2 * j ∧ oK (33 + 2 * j) = 9 := by decide +kernel
theorem aT31 {i : Int32} {j : Nat} (h : vp_in i 4) (hj : i.toNatClampNeg = j) : oT 31 i.toNatClampNeg = 33 + 2 * j := by
  subst hj
  exact (a31_all _ (vin_lt h rfl)).1
theorem aK31 {i : Int32} {j : Nat} (h : vp_in i 4) (hj : i.toNatClampNeg = j) : oK (33 + 2 * j) = 9 := (a31_all _ (vin_lt h hj)).2
theorem a32_all : ∀ j, j < 3 → oT 32 j = 41 + 4 * j ∧ oK (41 + 4 * j) = 2 := by decide +kernel
theorem aT32 {i : Int32} {j : Nat} (h : vp_in i 3) (hj : i.toNatClampNeg = j) : oT 32 i.toNatClampNeg = 41 + 4 * j := by
  subst hj
  exact (a32_all _ (vin_lt h rfl)).1
theorem aK32 {i : Int32} {j : Nat} (h : vp_in i 3) (hj : i.toNatClampNeg = j) : oK (41 + 4 * j) = 2 := (a32_all _ (vin_lt h hj)).2
