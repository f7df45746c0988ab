/-! the law's loop: it answers 1, from a good world, if the board call is right -/
theorem law_ok (n L : Nat) (xs : Nat → Int32) (hL : L ≤ 3072) (hn : 20000 < n) (hB : BRD n) (μ : Mu) (hI : INV μ) : ∃ μ9, lawF n L xs (0 : Int32) μ = some (1, μ9) := by
  have key : Ok (lawF n L xs (0 : Int32) μ) (fun a _ => a = 1) := by
    unfold lawF
    rw [i_0]
    refine Ok_lp1 (fun f v4 μ' => ∃ i, i ≤ 512 ∧ f = 512 - i ∧ v4 = nI (6 * i) ∧ 6 * i ≤ L + 6 ∧ INV μ') ?_ 512 (by omega) ⟨0, by omega, rfl, rfl, by omega, hI⟩
    rintro K f v4 μ1 ⟨i, hi, rfl, rfl, hiL, hI1⟩ hK
    have eL : (Int32.ofNat L - (6 : Int32)).toInt = (L : Int) - 6 := by
      have e : Int32.ofNat L - (6 : Int32) = iv ((L : Int) - 6) := by
        show nI L - (6 : Int32) = _
        rw [iv_n, show (6 : Int32) = iv 6 by decide, iv_sub]
      rw [e, iv_t (by omega) (by omega)]
    have hcmp : Int32.ofNat L - (6 : Int32) < nI (6 * i) ↔ (L : Int) - 6 < (6 * i : Nat) := by
      rw [Int32.lt_iff_toInt_lt, eL, nI_toInt (by omega)]
    by_cases c : (L : Int) - 6 < (6 * i : Nat)
    · unfold law_23b
      rw [if_pos (hcmp.mpr c)]
      exact Ok_r rfl
    · have h6 : 6 * i + 6 ≤ L := by omega
      refine law_body n L xs K (nI (6 * i)) μ1 hn hI1 hB ?_ ?_ (fun q => c (hcmp.mp q)) ?_
      · intro R k k1 k2 x
        have hk : ∃ m, m ≤ 5 ∧ k = nI m := by
          obtain ⟨m, _, h2, e⟩ := inR_d (v := k) (a := 0) (b := 5) (by decide) (by decide) ⟨Int32.le_of_lt k1, k2⟩
          exact ⟨m, h2, e⟩
        obtain ⟨m, hm, rfl⟩ := hk
        rw [nI_add, gd_n (by omega) (by omega)]
      · intro R x
        rw [gd_n (by omega) (by omega)]
      · intro μ2 hI2
        unfold law_2193
        rw [i_6, nI_add, show 6 * i + 6 = 6 * (i + 1) by omega]
        exact hK (512 - (i + 1)) _ _ (by omega) ⟨i + 1, by omega, rfl, rfl, by omega, hI2⟩
  obtain ⟨a, μ9, e, rfl⟩ := key
  exact ⟨μ9, e⟩
theorem law_all (n L : Nat) (xs : Nat → Int32) (hL : L ≤ 3072) (hn : 20000 < n) (μ : Mu) (hI : INV μ) : ∃ μ9, lawF n L xs (0 : Int32) μ = some (1, μ9) := law_ok n L xs hL hn (fun μ v h => call_board n μ v h (by omega)) μ hI
