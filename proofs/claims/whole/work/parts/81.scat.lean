/-! the class's scattering -/
def CE (μ : Mu) (o : Nat) (c : Nat → Nat) : Prop := ∀ k, k < 14 → μ.1 (o + 1) k = nI (c k)
theorem CE_si {μ : Mu} {o k v : Nat} {c : Nat → Nat} (h : CE μ o c) : CE (si μ (o + 1) k (nI v)) o (ups c k v) := by
  intro x hx
  by_cases q : x = k
  · rw [q, si_a, ups_a]
  · rw [si_c q, ups_b q, h x hx]
theorem CE_so {μ : Mu} {o o' k : Nat} {v : Int32} {c : Nat → Nat} (h : CE μ o c) (ho : o + 1 ≠ o') : CE (si μ o' k v) o c := by
  intro x hx
  rw [si_b ho, h x hx]
theorem WY_o {μ μ' : Mu} {T : Nat → Nat} {s : Nat} (h : WY μ T s) (e : μ'.1 3 = μ.1 3) : WY μ' T s := by
  intro i j hi on hN
  rw [e]
  exact h i j hi on hN
theorem scat_s (n : Nat) (μ : Mu) {T c : Nat → Nat} {o s w : Nat} (ho : oK o = 6) (ho2 : 40 < o) (b6 : T 1 < 7) (b1 : 1 ≤ T 1) (hs : s < 2) (b5 : T 5 < 2) (hway : WY μ T s) (hsd : μ.1 o 1 = nI s) (hsk : μ.1 1 6 = nI (T 5)) (hc : CE μ o c) (hw : w < 2 * T 1 + 1) (on : onI T s w = true) (hst : stk T s w = false) (hb : sumF c 14 < 1000) (hn : 1000 < n) :
    Ok (X8_scatter n o (nI (cI (T 1) s w)) μ) (fun a μ' => a = nI (cI (T 1) s (scW T s w c).1) ∧ CE μ' o (scW T s w c).2 ∧ KP (fun x => x = o + 1) μ μ') := by
  have clt : ∀ i, i < 2 * T 1 + 1 → cI (T 1) s i < 14 := fun i hi => (cI_lt (T 1) b6 b1 s hs i hi).2.1
  have inj := cI_in (T 1) b6 b1 s hs
  have hcw := clt w hw
  have hbw := sum_le (c := c) 14 _ hcw
  unfold X8_scatter X8_scatter_35
  rw [kd_of ho, gd_n (by omega) (by decide), nI_clamp (by omega), hsd, i_14, i_0, pk_mul, hc _ hcw]
  refine Ok_lp3 (fun k x5 x6 x7 μ' => ∃ i c', x5 = nI (s * 14) ∧ x6 = nI (cI (T 1) s i) ∧ x7 = nI k ∧ k < 1000 ∧ i < 2 * T 1 + 1 ∧ onI T s i = true ∧ CE μ' o c' ∧ KP (fun x => x = o + 1) μ μ' ∧ scC T s w k i c' = scW T s w c) ?_ (c (cI (T 1) s w)) (by omega) ⟨w, ups c (cI (T 1) s w) 0, rfl, rfl, rfl, by omega, hw, on, CE_si hc, KP.rf.si rfl, rfl⟩
  rintro K k x5 x6 x7 μ' ⟨i, c', rfl, rfl, rfl, hk, hi, oni, hc', hkp, hsc⟩ hK
  unfold X8_scatter_35b X8_scatter_76
  rw [i_0, ifLe (by omega) (by omega)]
  cases k with
  | zero =>
    rw [if_pos (Nat.le_refl _)]
    rw [scC] at hsc
    rw [← hsc]
    exact Ok_r ⟨rfl, hc', hkp⟩
  | succ k =>
    have hci := clt i hi
    have way := WY_o hway (hkp.1 3 (by omega))
    have hsk' : μ'.1 1 6 = nI (T 5) := by rw [hkp.1 1 (by omega), hsk]
    obtain ⟨j, hN, e, hj, onj, n1, n2⟩ := nx_step hw on hi hst
    have hcj := clt j hj
    rw [scC, e] at hsc
    have fin : Ok (gd (nI (cI (T 1) s j)) 14 (K (nI (s * 14)) (nI (cI (T 1) s j)) (nI (k + 1) + (-1 : Int32)) (si μ' (o + 1) (nI (cI (T 1) s j)).toNatClampNeg ((μ'.1 (o + 1) (nI (cI (T 1) s j)).toNatClampNeg) + (1 : Int32))))) (fun a μ' => a = nI (cI (T 1) s (scW T s w c).1) ∧ CE μ' o (scW T s w c).2 ∧ KP (fun x => x = o + 1) μ μ') := by
      rw [gd_n hcj (by decide), nI_clamp (by omega), pk_m1, hc' _ hcj, nI_1]
      exact hK k _ _ _ _ (by omega) ⟨j, _, rfl, rfl, rfl, by omega, hj, onj, CE_si hc', hkp.si rfl, hsc⟩
    rw [if_neg (by omega), nI_add, gd_n (by omega) (by decide), nI_clamp (by omega), hsk']
    obtain ⟨j1, hN1⟩ := NX_ex hi hw on
    rw [way i j1 hi oni hN1]
    by_cases q : j1 = w
    · rw [if_pos (by rw [q])]
      by_cases h5 : T 5 = 0
      · rw [if_pos (by rw [h5])]
        rw [NX_u hN1 (n1 (by omega)).1]
        exact fin
      · have hNw : NX (onI T s) (2 * T 1 + 1) i w := q ▸ hN1
        rw [if_neg (fun z => h5 ((nI_eq (by omega) (by decide)).mp z)), q, nI_add, gd_n (by omega) (by decide), nI_clamp (by omega), way w j hw on (n2 ⟨by omega, hNw⟩)]
        exact fin
    · rw [if_neg (fun z => q (inj j1 (NX_lt hN1 (by omega)) w hw ((nI_eq (by have := clt j1 (NX_lt hN1 (by omega)); omega) (by omega)).mp z)))]
      rw [NX_u hN1 (n1 (fun z => q (NX_u hN1 z.2))).1]
      exact fin
