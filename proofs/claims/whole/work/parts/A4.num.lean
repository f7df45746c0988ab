/-! numbers: a number of seeds has at most 3003 positions, if all up to it are at most 6000 -/
theorem w_1_1 : Wn 1 1 = 1 := by
  have h : 1 * Wn 1 0 = 1 * Wn 1 1 := (Wn_AB 1 (by decide)).1 0
  rw [Wn_0 1] at h
  omega
theorem w_2_1 : Wn 2 1 = 2 := by
  have h : 2 * Wn 2 0 = 1 * Wn 2 1 := (Wn_AB 2 (by decide)).1 0
  rw [Wn_0 2] at h
  omega
theorem w_2_2 : Wn 2 2 = 3 := by
  have h : 3 * Wn 2 1 = 2 * Wn 2 2 := (Wn_AB 2 (by decide)).1 1
  rw [w_2_1] at h
  omega
theorem w_3_1 : Wn 3 1 = 3 := by
  have h : 3 * Wn 3 0 = 1 * Wn 3 1 := (Wn_AB 3 (by decide)).1 0
  rw [Wn_0 3] at h
  omega
theorem w_3_2 : Wn 3 2 = 6 := by
  have h : 4 * Wn 3 1 = 2 * Wn 3 2 := (Wn_AB 3 (by decide)).1 1
  rw [w_3_1] at h
  omega
theorem w_3_3 : Wn 3 3 = 10 := by
  have h : 5 * Wn 3 2 = 3 * Wn 3 3 := (Wn_AB 3 (by decide)).1 2
  rw [w_3_2] at h
  omega
theorem w_4_1 : Wn 4 1 = 4 := by
  have h : 4 * Wn 4 0 = 1 * Wn 4 1 := (Wn_AB 4 (by decide)).1 0
  rw [Wn_0 4] at h
  omega
theorem w_4_2 : Wn 4 2 = 10 := by
  have h : 5 * Wn 4 1 = 2 * Wn 4 2 := (Wn_AB 4 (by decide)).1 1
  rw [w_4_1] at h
  omega
theorem w_4_3 : Wn 4 3 = 20 := by
  have h : 6 * Wn 4 2 = 3 * Wn 4 3 := (Wn_AB 4 (by decide)).1 2
  rw [w_4_2] at h
  omega
theorem w_4_4 : Wn 4 4 = 35 := by
  have h : 7 * Wn 4 3 = 4 * Wn 4 4 := (Wn_AB 4 (by decide)).1 3
  rw [w_4_3] at h
  omega
theorem w_5_1 : Wn 5 1 = 5 := by
  have h : 5 * Wn 5 0 = 1 * Wn 5 1 := (Wn_AB 5 (by decide)).1 0
  rw [Wn_0 5] at h
  omega
theorem w_5_2 : Wn 5 2 = 15 := by
  have h : 6 * Wn 5 1 = 2 * Wn 5 2 := (Wn_AB 5 (by decide)).1 1
  rw [w_5_1] at h
  omega
theorem w_5_3 : Wn 5 3 = 35 := by
  have h : 7 * Wn 5 2 = 3 * Wn 5 3 := (Wn_AB 5 (by decide)).1 2
  rw [w_5_2] at h
  omega
theorem w_5_4 : Wn 5 4 = 70 := by
  have h : 8 * Wn 5 3 = 4 * Wn 5 4 := (Wn_AB 5 (by decide)).1 3
  rw [w_5_3] at h
  omega
theorem w_5_5 : Wn 5 5 = 126 := by
  have h : 9 * Wn 5 4 = 5 * Wn 5 5 := (Wn_AB 5 (by decide)).1 4
  rw [w_5_4] at h
  omega
theorem w_6_1 : Wn 6 1 = 6 := by
  have h : 6 * Wn 6 0 = 1 * Wn 6 1 := (Wn_AB 6 (by decide)).1 0
  rw [Wn_0 6] at h
  omega
theorem w_6_2 : Wn 6 2 = 21 := by
  have h : 7 * Wn 6 1 = 2 * Wn 6 2 := (Wn_AB 6 (by decide)).1 1
  rw [w_6_1] at h
  omega
theorem w_6_3 : Wn 6 3 = 56 := by
  have h : 8 * Wn 6 2 = 3 * Wn 6 3 := (Wn_AB 6 (by decide)).1 2
  rw [w_6_2] at h
  omega
theorem w_6_4 : Wn 6 4 = 126 := by
  have h : 9 * Wn 6 3 = 4 * Wn 6 4 := (Wn_AB 6 (by decide)).1 3
  rw [w_6_3] at h
  omega
theorem w_6_5 : Wn 6 5 = 252 := by
  have h : 10 * Wn 6 4 = 5 * Wn 6 5 := (Wn_AB 6 (by decide)).1 4
  rw [w_6_4] at h
  omega
theorem w_6_6 : Wn 6 6 = 462 := by
  have h : 11 * Wn 6 5 = 6 * Wn 6 6 := (Wn_AB 6 (by decide)).1 5
  rw [w_6_5] at h
  omega
theorem w_7_1 : Wn 7 1 = 7 := by
  have h : 7 * Wn 7 0 = 1 * Wn 7 1 := (Wn_AB 7 (by decide)).1 0
  rw [Wn_0 7] at h
  omega
theorem w_7_2 : Wn 7 2 = 28 := by
  have h : 8 * Wn 7 1 = 2 * Wn 7 2 := (Wn_AB 7 (by decide)).1 1
  rw [w_7_1] at h
  omega
theorem w_7_3 : Wn 7 3 = 84 := by
  have h : 9 * Wn 7 2 = 3 * Wn 7 3 := (Wn_AB 7 (by decide)).1 2
  rw [w_7_2] at h
  omega
theorem w_7_4 : Wn 7 4 = 210 := by
  have h : 10 * Wn 7 3 = 4 * Wn 7 4 := (Wn_AB 7 (by decide)).1 3
  rw [w_7_3] at h
  omega
theorem w_7_5 : Wn 7 5 = 462 := by
  have h : 11 * Wn 7 4 = 5 * Wn 7 5 := (Wn_AB 7 (by decide)).1 4
  rw [w_7_4] at h
  omega
theorem w_7_6 : Wn 7 6 = 924 := by
  have h : 12 * Wn 7 5 = 6 * Wn 7 6 := (Wn_AB 7 (by decide)).1 5
  rw [w_7_5] at h
  omega
theorem w_7_7 : Wn 7 7 = 1716 := by
  have h : 13 * Wn 7 6 = 7 * Wn 7 7 := (Wn_AB 7 (by decide)).1 6
  rw [w_7_6] at h
  omega
theorem w_8_1 : Wn 8 1 = 8 := by
  have h : 8 * Wn 8 0 = 1 * Wn 8 1 := (Wn_AB 8 (by decide)).1 0
  rw [Wn_0 8] at h
  omega
theorem w_8_2 : Wn 8 2 = 36 := by
  have h : 9 * Wn 8 1 = 2 * Wn 8 2 := (Wn_AB 8 (by decide)).1 1
  rw [w_8_1] at h
  omega
theorem w_8_3 : Wn 8 3 = 120 := by
  have h : 10 * Wn 8 2 = 3 * Wn 8 3 := (Wn_AB 8 (by decide)).1 2
  rw [w_8_2] at h
  omega
theorem w_8_4 : Wn 8 4 = 330 := by
  have h : 11 * Wn 8 3 = 4 * Wn 8 4 := (Wn_AB 8 (by decide)).1 3
  rw [w_8_3] at h
  omega
theorem w_8_5 : Wn 8 5 = 792 := by
  have h : 12 * Wn 8 4 = 5 * Wn 8 5 := (Wn_AB 8 (by decide)).1 4
  rw [w_8_4] at h
  omega
theorem w_8_6 : Wn 8 6 = 1716 := by
  have h : 13 * Wn 8 5 = 6 * Wn 8 6 := (Wn_AB 8 (by decide)).1 5
  rw [w_8_5] at h
  omega
theorem w_8_7 : Wn 8 7 = 3432 := by
  have h : 14 * Wn 8 6 = 7 * Wn 8 7 := (Wn_AB 8 (by decide)).1 6
  rw [w_8_6] at h
  omega
theorem w_8_8 : Wn 8 8 = 6435 := by
  have h : 15 * Wn 8 7 = 8 * Wn 8 8 := (Wn_AB 8 (by decide)).1 7
  rw [w_8_7] at h
  omega
theorem w_9_1 : Wn 9 1 = 9 := by
  have h : 9 * Wn 9 0 = 1 * Wn 9 1 := (Wn_AB 9 (by decide)).1 0
  rw [Wn_0 9] at h
  omega
theorem w_9_2 : Wn 9 2 = 45 := by
  have h : 10 * Wn 9 1 = 2 * Wn 9 2 := (Wn_AB 9 (by decide)).1 1
  rw [w_9_1] at h
  omega
theorem w_9_3 : Wn 9 3 = 165 := by
  have h : 11 * Wn 9 2 = 3 * Wn 9 3 := (Wn_AB 9 (by decide)).1 2
  rw [w_9_2] at h
  omega
theorem w_9_4 : Wn 9 4 = 495 := by
  have h : 12 * Wn 9 3 = 4 * Wn 9 4 := (Wn_AB 9 (by decide)).1 3
  rw [w_9_3] at h
  omega
theorem w_9_5 : Wn 9 5 = 1287 := by
  have h : 13 * Wn 9 4 = 5 * Wn 9 5 := (Wn_AB 9 (by decide)).1 4
  rw [w_9_4] at h
  omega
theorem w_9_6 : Wn 9 6 = 3003 := by
  have h : 14 * Wn 9 5 = 6 * Wn 9 6 := (Wn_AB 9 (by decide)).1 5
  rw [w_9_5] at h
  omega
theorem w_9_7 : Wn 9 7 = 6435 := by
  have h : 15 * Wn 9 6 = 7 * Wn 9 7 := (Wn_AB 9 (by decide)).1 6
  rw [w_9_6] at h
  omega
theorem w_9_8 : Wn 9 8 = 12870 := by
  have h : 16 * Wn 9 7 = 8 * Wn 9 8 := (Wn_AB 9 (by decide)).1 7
  rw [w_9_7] at h
  omega
theorem w_9_9 : Wn 9 9 = 24310 := by
  have h : 17 * Wn 9 8 = 9 * Wn 9 9 := (Wn_AB 9 (by decide)).1 8
  rw [w_9_8] at h
  omega
theorem w_10_1 : Wn 10 1 = 10 := by
  have h : 10 * Wn 10 0 = 1 * Wn 10 1 := (Wn_AB 10 (by decide)).1 0
  rw [Wn_0 10] at h
  omega
theorem w_10_2 : Wn 10 2 = 55 := by
  have h : 11 * Wn 10 1 = 2 * Wn 10 2 := (Wn_AB 10 (by decide)).1 1
  rw [w_10_1] at h
  omega
theorem w_10_3 : Wn 10 3 = 220 := by
  have h : 12 * Wn 10 2 = 3 * Wn 10 3 := (Wn_AB 10 (by decide)).1 2
  rw [w_10_2] at h
  omega
theorem w_10_4 : Wn 10 4 = 715 := by
  have h : 13 * Wn 10 3 = 4 * Wn 10 4 := (Wn_AB 10 (by decide)).1 3
  rw [w_10_3] at h
  omega
theorem w_10_5 : Wn 10 5 = 2002 := by
  have h : 14 * Wn 10 4 = 5 * Wn 10 5 := (Wn_AB 10 (by decide)).1 4
  rw [w_10_4] at h
  omega
theorem w_10_6 : Wn 10 6 = 5005 := by
  have h : 15 * Wn 10 5 = 6 * Wn 10 6 := (Wn_AB 10 (by decide)).1 5
  rw [w_10_5] at h
  omega
theorem w_10_7 : Wn 10 7 = 11440 := by
  have h : 16 * Wn 10 6 = 7 * Wn 10 7 := (Wn_AB 10 (by decide)).1 6
  rw [w_10_6] at h
  omega
theorem w_10_8 : Wn 10 8 = 24310 := by
  have h : 17 * Wn 10 7 = 8 * Wn 10 8 := (Wn_AB 10 (by decide)).1 7
  rw [w_10_7] at h
  omega
theorem w_10_9 : Wn 10 9 = 48620 := by
  have h : 18 * Wn 10 8 = 9 * Wn 10 9 := (Wn_AB 10 (by decide)).1 8
  rw [w_10_8] at h
  omega
theorem w_10_10 : Wn 10 10 = 92378 := by
  have h : 19 * Wn 10 9 = 10 * Wn 10 10 := (Wn_AB 10 (by decide)).1 9
  rw [w_10_9] at h
  omega
theorem w_11_1 : Wn 11 1 = 11 := by
  have h : 11 * Wn 11 0 = 1 * Wn 11 1 := (Wn_AB 11 (by decide)).1 0
  rw [Wn_0 11] at h
  omega
theorem w_11_2 : Wn 11 2 = 66 := by
  have h : 12 * Wn 11 1 = 2 * Wn 11 2 := (Wn_AB 11 (by decide)).1 1
  rw [w_11_1] at h
  omega
theorem w_11_3 : Wn 11 3 = 286 := by
  have h : 13 * Wn 11 2 = 3 * Wn 11 3 := (Wn_AB 11 (by decide)).1 2
  rw [w_11_2] at h
  omega
theorem w_11_4 : Wn 11 4 = 1001 := by
  have h : 14 * Wn 11 3 = 4 * Wn 11 4 := (Wn_AB 11 (by decide)).1 3
  rw [w_11_3] at h
  omega
theorem w_11_5 : Wn 11 5 = 3003 := by
  have h : 15 * Wn 11 4 = 5 * Wn 11 5 := (Wn_AB 11 (by decide)).1 4
  rw [w_11_4] at h
  omega
theorem w_11_6 : Wn 11 6 = 8008 := by
  have h : 16 * Wn 11 5 = 6 * Wn 11 6 := (Wn_AB 11 (by decide)).1 5
  rw [w_11_5] at h
  omega
theorem w_11_7 : Wn 11 7 = 19448 := by
  have h : 17 * Wn 11 6 = 7 * Wn 11 7 := (Wn_AB 11 (by decide)).1 6
  rw [w_11_6] at h
  omega
theorem w_11_8 : Wn 11 8 = 43758 := by
  have h : 18 * Wn 11 7 = 8 * Wn 11 8 := (Wn_AB 11 (by decide)).1 7
  rw [w_11_7] at h
  omega
theorem w_11_9 : Wn 11 9 = 92378 := by
  have h : 19 * Wn 11 8 = 9 * Wn 11 9 := (Wn_AB 11 (by decide)).1 8
  rw [w_11_8] at h
  omega
theorem w_11_10 : Wn 11 10 = 184756 := by
  have h : 20 * Wn 11 9 = 10 * Wn 11 10 := (Wn_AB 11 (by decide)).1 9
  rw [w_11_9] at h
  omega
theorem w_11_11 : Wn 11 11 = 352716 := by
  have h : 21 * Wn 11 10 = 11 * Wn 11 11 := (Wn_AB 11 (by decide)).1 10
  rw [w_11_10] at h
  omega
theorem w_12_1 : Wn 12 1 = 12 := by
  have h : 12 * Wn 12 0 = 1 * Wn 12 1 := (Wn_AB 12 (by decide)).1 0
  rw [Wn_0 12] at h
  omega
theorem w_12_2 : Wn 12 2 = 78 := by
  have h : 13 * Wn 12 1 = 2 * Wn 12 2 := (Wn_AB 12 (by decide)).1 1
  rw [w_12_1] at h
  omega
theorem w_12_3 : Wn 12 3 = 364 := by
  have h : 14 * Wn 12 2 = 3 * Wn 12 3 := (Wn_AB 12 (by decide)).1 2
  rw [w_12_2] at h
  omega
theorem w_12_4 : Wn 12 4 = 1365 := by
  have h : 15 * Wn 12 3 = 4 * Wn 12 4 := (Wn_AB 12 (by decide)).1 3
  rw [w_12_3] at h
  omega
theorem w_12_5 : Wn 12 5 = 4368 := by
  have h : 16 * Wn 12 4 = 5 * Wn 12 5 := (Wn_AB 12 (by decide)).1 4
  rw [w_12_4] at h
  omega
theorem w_12_6 : Wn 12 6 = 12376 := by
  have h : 17 * Wn 12 5 = 6 * Wn 12 6 := (Wn_AB 12 (by decide)).1 5
  rw [w_12_5] at h
  omega
theorem w_12_7 : Wn 12 7 = 31824 := by
  have h : 18 * Wn 12 6 = 7 * Wn 12 7 := (Wn_AB 12 (by decide)).1 6
  rw [w_12_6] at h
  omega
theorem w_12_8 : Wn 12 8 = 75582 := by
  have h : 19 * Wn 12 7 = 8 * Wn 12 8 := (Wn_AB 12 (by decide)).1 7
  rw [w_12_7] at h
  omega
theorem w_12_9 : Wn 12 9 = 167960 := by
  have h : 20 * Wn 12 8 = 9 * Wn 12 9 := (Wn_AB 12 (by decide)).1 8
  rw [w_12_8] at h
  omega
theorem w_12_10 : Wn 12 10 = 352716 := by
  have h : 21 * Wn 12 9 = 10 * Wn 12 10 := (Wn_AB 12 (by decide)).1 9
  rw [w_12_9] at h
  omega
theorem w_12_11 : Wn 12 11 = 705432 := by
  have h : 22 * Wn 12 10 = 11 * Wn 12 11 := (Wn_AB 12 (by decide)).1 10
  rw [w_12_10] at h
  omega
theorem w_13_1 : Wn 13 1 = 13 := by
  have h : 13 * Wn 13 0 = 1 * Wn 13 1 := (Wn_AB 13 (by decide)).1 0
  rw [Wn_0 13] at h
  omega
theorem w_13_2 : Wn 13 2 = 91 := by
  have h : 14 * Wn 13 1 = 2 * Wn 13 2 := (Wn_AB 13 (by decide)).1 1
  rw [w_13_1] at h
  omega
theorem w_13_3 : Wn 13 3 = 455 := by
  have h : 15 * Wn 13 2 = 3 * Wn 13 3 := (Wn_AB 13 (by decide)).1 2
  rw [w_13_2] at h
  omega
theorem w_13_4 : Wn 13 4 = 1820 := by
  have h : 16 * Wn 13 3 = 4 * Wn 13 4 := (Wn_AB 13 (by decide)).1 3
  rw [w_13_3] at h
  omega
theorem w_13_5 : Wn 13 5 = 6188 := by
  have h : 17 * Wn 13 4 = 5 * Wn 13 5 := (Wn_AB 13 (by decide)).1 4
  rw [w_13_4] at h
  omega
theorem w_13_6 : Wn 13 6 = 18564 := by
  have h : 18 * Wn 13 5 = 6 * Wn 13 6 := (Wn_AB 13 (by decide)).1 5
  rw [w_13_5] at h
  omega
theorem w_13_7 : Wn 13 7 = 50388 := by
  have h : 19 * Wn 13 6 = 7 * Wn 13 7 := (Wn_AB 13 (by decide)).1 6
  rw [w_13_6] at h
  omega
theorem w_13_8 : Wn 13 8 = 125970 := by
  have h : 20 * Wn 13 7 = 8 * Wn 13 8 := (Wn_AB 13 (by decide)).1 7
  rw [w_13_7] at h
  omega
theorem w_13_9 : Wn 13 9 = 293930 := by
  have h : 21 * Wn 13 8 = 9 * Wn 13 9 := (Wn_AB 13 (by decide)).1 8
  rw [w_13_8] at h
  omega
theorem w_13_10 : Wn 13 10 = 646646 := by
  have h : 22 * Wn 13 9 = 10 * Wn 13 10 := (Wn_AB 13 (by decide)).1 9
  rw [w_13_9] at h
  omega
theorem w_13_11 : Wn 13 11 = 1352078 := by
  have h : 23 * Wn 13 10 = 11 * Wn 13 11 := (Wn_AB 13 (by decide)).1 10
  rw [w_13_10] at h
  omega
theorem W_3003 {m s : Nat} (hm : m ≤ 12) (h : Wn (m + 1) s ≤ 6000) : Wn m s ≤ 3003 := by
  by_cases c : m ≤ s
  · by_cases c0 : m = 0
    · subst c0
      show (if s = 0 then 1 else 0) ≤ 3003
      split <;> omega
    · have hA := (Wn_AB m (by omega)).2 s
      refine Decidable.byContradiction (fun z => ?_)
      have h1 : (s + m) * 3004 ≤ (s + m) * Wn m s := Nat.mul_le_mul_left _ (by omega)
      have h2 : m * Wn (m + 1) s ≤ m * 6000 := Nat.mul_le_mul_left _ h
      omega
  · by_cases c0 : s = 0
    · rw [c0, Wn_0]; decide
    · have hs : s < 12 := by omega
      obtain rfl | rfl | rfl | rfl | rfl | rfl | rfl | rfl | rfl | rfl | rfl : s = 1 ∨ s = 2 ∨ s = 3 ∨ s = 4 ∨ s = 5 ∨ s = 6 ∨ s = 7 ∨ s = 8 ∨ s = 9 ∨ s = 10 ∨ s = 11 := by omega
      · obtain rfl | rfl | rfl | rfl | rfl | rfl | rfl | rfl | rfl | rfl | rfl : m = 2 ∨ m = 3 ∨ m = 4 ∨ m = 5 ∨ m = 6 ∨ m = 7 ∨ m = 8 ∨ m = 9 ∨ m = 10 ∨ m = 11 ∨ m = 12 := by omega
        · rw [w_2_1]; decide
        · rw [w_3_1]; decide
        · rw [w_4_1]; decide
        · rw [w_5_1]; decide
        · rw [w_6_1]; decide
        · rw [w_7_1]; decide
        · rw [w_8_1]; decide
        · rw [w_9_1]; decide
        · rw [w_10_1]; decide
        · rw [w_11_1]; decide
        · rw [w_12_1]; decide
      · obtain rfl | rfl | rfl | rfl | rfl | rfl | rfl | rfl | rfl | rfl : m = 3 ∨ m = 4 ∨ m = 5 ∨ m = 6 ∨ m = 7 ∨ m = 8 ∨ m = 9 ∨ m = 10 ∨ m = 11 ∨ m = 12 := by omega
        · rw [w_3_2]; decide
        · rw [w_4_2]; decide
        · rw [w_5_2]; decide
        · rw [w_6_2]; decide
        · rw [w_7_2]; decide
        · rw [w_8_2]; decide
        · rw [w_9_2]; decide
        · rw [w_10_2]; decide
        · rw [w_11_2]; decide
        · rw [w_12_2]; decide
      · obtain rfl | rfl | rfl | rfl | rfl | rfl | rfl | rfl | rfl : m = 4 ∨ m = 5 ∨ m = 6 ∨ m = 7 ∨ m = 8 ∨ m = 9 ∨ m = 10 ∨ m = 11 ∨ m = 12 := by omega
        · rw [w_4_3]; decide
        · rw [w_5_3]; decide
        · rw [w_6_3]; decide
        · rw [w_7_3]; decide
        · rw [w_8_3]; decide
        · rw [w_9_3]; decide
        · rw [w_10_3]; decide
        · rw [w_11_3]; decide
        · rw [w_12_3]; decide
      · obtain rfl | rfl | rfl | rfl | rfl | rfl | rfl | rfl : m = 5 ∨ m = 6 ∨ m = 7 ∨ m = 8 ∨ m = 9 ∨ m = 10 ∨ m = 11 ∨ m = 12 := by omega
        · rw [w_5_4]; decide
        · rw [w_6_4]; decide
        · rw [w_7_4]; decide
        · rw [w_8_4]; decide
        · rw [w_9_4]; decide
        · rw [w_10_4]; decide
        · rw [w_11_4]; decide
        · rw [w_12_4]; decide
      · obtain rfl | rfl | rfl | rfl | rfl | rfl | rfl : m = 6 ∨ m = 7 ∨ m = 8 ∨ m = 9 ∨ m = 10 ∨ m = 11 ∨ m = 12 := by omega
        · rw [w_6_5]; decide
        · rw [w_7_5]; decide
        · rw [w_8_5]; decide
        · rw [w_9_5]; decide
        · rw [w_10_5]; decide
        · rw [w_11_5]; decide
        · rw [w_13_5] at h; omega
      · obtain rfl | rfl | rfl | rfl | rfl | rfl : m = 7 ∨ m = 8 ∨ m = 9 ∨ m = 10 ∨ m = 11 ∨ m = 12 := by omega
        · rw [w_7_6]; decide
        · rw [w_8_6]; decide
        · rw [w_9_6]; decide
        · rw [w_11_6] at h; omega
        · rw [w_12_6] at h; omega
        · rw [w_13_6] at h; omega
      · obtain rfl | rfl | rfl | rfl | rfl : m = 8 ∨ m = 9 ∨ m = 10 ∨ m = 11 ∨ m = 12 := by omega
        · rw [w_9_7] at h; omega
        · rw [w_10_7] at h; omega
        · rw [w_11_7] at h; omega
        · rw [w_12_7] at h; omega
        · rw [w_13_7] at h; omega
      · obtain rfl | rfl | rfl | rfl : m = 9 ∨ m = 10 ∨ m = 11 ∨ m = 12 := by omega
        · rw [w_10_8] at h; omega
        · rw [w_11_8] at h; omega
        · rw [w_12_8] at h; omega
        · rw [w_13_8] at h; omega
      · obtain rfl | rfl | rfl : m = 10 ∨ m = 11 ∨ m = 12 := by omega
        · rw [w_11_9] at h; omega
        · rw [w_12_9] at h; omega
        · rw [w_13_9] at h; omega
      · obtain rfl | rfl : m = 11 ∨ m = 12 := by omega
        · rw [w_12_10] at h; omega
        · rw [w_13_10] at h; omega
      · obtain rfl : m = 12 := by omega
        rw [w_13_11] at h; omega
