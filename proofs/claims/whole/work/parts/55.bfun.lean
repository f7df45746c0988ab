def X11_needSide_9 (n : Nat) (v0 : Int32) (μ : Mu) : Option ((Unit ⊕ Nat) × Mu) :=
  some (Sum.inr 0, μ)
def X11_needSide (n : Nat) (v0 : Int32) (μ : Mu) : Option ((Unit ⊕ Nat) × Mu) :=
  (if v0 < 0 then
  X11_needSide_9 n v0 μ
  else
  (if v0 ≤ (1 : Int32) then
  some (Sum.inl (), μ)
  else
  X11_needSide_9 n v0 μ))
def X11_needSeeds_10 (n : Nat) (v0 : Int32) (μ : Mu) : Option ((Unit ⊕ Nat) × Mu) :=
  some (Sum.inr 1, μ)
def X11_needSeeds (n : Nat) (v0 : Int32) (μ : Mu) : Option ((Unit ⊕ Nat) × Mu) :=
  (if v0 < 0 then
  X11_needSeeds_10 n v0 μ
  else
  (if v0 ≤ (40 : Int32) then
  some (Sum.inl (), μ)
  else
  X11_needSeeds_10 n v0 μ))
def X11_needPosition_9 (n : Nat) (v0 : Int32) (v1 : Int32) (μ : Mu) : Option ((Unit ⊕ Nat) × Mu) :=
  some (Sum.inr 0, μ)
def X11_needPosition (n : Nat) (v0 : Int32) (v1 : Int32) (μ : Mu) : Option ((Unit ⊕ Nat) × Mu) :=
  (if v0 < 0 then
  X11_needPosition_9 n v0 v1 μ
  else
  (if v0 < v1 then
  some (Sum.inl (), μ)
  else
  X11_needPosition_9 n v0 v1 μ))
def X11_anyTray_9 (n : Nat) (v1 : Int32) (μ : Mu) : Option ((Nat ⊕ Nat) × Mu) :=
  some (Sum.inr 0, μ)
def X11_anyTray (n : Nat) (v1 : Int32) (μ : Mu) : Option ((Nat ⊕ Nat) × Mu) :=
  (if v1 < 0 then
  X11_anyTray_9 n v1 μ
  else
  (if v1 < (4 : Int32) then
  gd v1 4 (some (Sum.inl (33 + 2 * v1.toNatClampNeg), μ))
  else
  X11_anyTray_9 n v1 μ))
def X11_laidTray (n : Nat) (v1 : Int32) (μ : Mu) : Option ((Nat ⊕ Nat) × Mu) :=
  thr (X11_anyTray n v1 μ) (fun r2 m2 =>
  kd r2 9 ((if (m2.1 r2 1) = ((-1) : Int32) then
  some (Sum.inr 2, m2)
  else
  some (Sum.inl r2, m2))))
def X11_anyImage_9 (n : Nat) (v1 : Int32) (μ : Mu) : Option ((Nat ⊕ Nat) × Mu) :=
  some (Sum.inr 0, μ)
def X11_anyImage (n : Nat) (v1 : Int32) (μ : Mu) : Option ((Nat ⊕ Nat) × Mu) :=
  (if v1 < 0 then
  X11_anyImage_9 n v1 μ
  else
  (if v1 < (3 : Int32) then
  gd v1 3 (some (Sum.inl (41 + 4 * v1.toNatClampNeg), μ))
  else
  X11_anyImage_9 n v1 μ))
def X11_pit_17 (n : Nat) (v1 : Int32) (μ : Mu) : Option ((Int32 ⊕ Nat) × Mu) :=
  some (Sum.inr 0, μ)
def X11_pit (n : Nat) (v1 : Int32) (μ : Mu) : Option ((Int32 ⊕ Nat) × Mu) :=
  (if v1 < 0 then
  X11_pit_17 n v1 μ
  else
  (if v1 < ((2 : Int32) * (μ.1 1 1)) then
  (X11_seedsOrLacking n 53 v1 μ).bind (fun r33 =>
  some (Sum.inl r33.1, r33.2))
  else
  X11_pit_17 n v1 μ))
def X11_store (n : Nat) (v1 : Int32) (μ : Mu) : Option ((Int32 ⊕ Nat) × Mu) :=
  thr (X11_needSide n v1 μ) (fun r1 m1 =>
  gd ((12 : Int32) + v1) 14 (some (Sum.inl (m1.1 54 ((12 : Int32) + v1).toNatClampNeg), m1)))
def X11_sown_28 (n : Nat) (v1 : Int32) (v2 : Int32) (μ : Mu) : Option ((Int32 ⊕ Nat) × Mu) :=
  some (Sum.inr 0, μ)
def X11_sown_127 (n : Nat) (v1 : Int32) (v2 : Int32) (s0 : Int32) (μ : Mu) : Option ((Int32 ⊕ Nat) × Mu) :=
  some (Sum.inl s0, μ)
def X11_sown (n : Nat) (v1 : Int32) (v2 : Int32) (μ : Mu) : Option ((Int32 ⊕ Nat) × Mu) :=
  (X8_isOwn n 53 (v1.toInt64) μ).bind (fun r10 =>
  (if r10.1 = 0 then
  X11_sown_28 n v1 v2 r10.2
  else
  gd v1 14 ((if (r10.2.1 54 v1.toNatClampNeg) = 0 then
  X11_sown_28 n v1 v2 r10.2
  else
  (X6_copy n 55 53 r10.2).bind (fun r46 =>
  (X8_sow n 55 v1 r46.2).bind (fun r58 =>
  (if r58.1 = 0 then
  some (Sum.inr 2, r58.2)
  else
  (if v2 = (0 : Int32) then
  (if (12 : Int32) ≤ (r58.2.1 6 0) then
  X11_sown_127 n v1 v2 ((-1) : Int32) r58.2
  else
  X11_sown_127 n v1 v2 (r58.2.1 6 0) r58.2)
  else
  (if v2 = (1 : Int32) then
  some (Sum.inl (r58.2.1 6 1), r58.2)
  else
  (if v2 = (2 : Int32) then
  some (Sum.inl (r58.2.1 6 2), r58.2)
  else
  (if v2 = (3 : Int32) then
  some (Sum.inl (r58.2.1 55 1), r58.2)
  else
  some (Sum.inr 1, r58.2))))))))))))
def X11_positions_31 (n : Nat) (v1 : Int32) (v2 : Int32) (s0 : Int32) (μ : Mu) : Option ((Int32 ⊕ Nat) × Mu) :=
  some (Sum.inl s0, μ)
def X11_positions (n : Nat) (v1 : Int32) (v2 : Int32) (μ : Mu) : Option ((Int32 ⊕ Nat) × Mu) :=
  thr (X11_needSide n v1 μ) (fun r1 m1 =>
  thr (X11_needSeeds n v2 m1) (fun r5 m5 =>
  (X1_positionsOf n v2 m5).bind (fun r13 =>
  (if r13.1 ≤ (6000 : Int32) then
  X11_positions_31 n v1 v2 r13.1 r13.2
  else
  X11_positions_31 n v1 v2 ((-1000) : Int32) r13.2))))
def X11_ofPlace_61 (n : Nat) (v1 : Int32) (v2 : Int32) (v3 : Int32) (v4 : Int32) (μ : Mu) : Option ((Int32 ⊕ Nat) × Mu) :=
  some (Sum.inr 3, μ)
def X11_ofPlace (n : Nat) (v1 : Int32) (v2 : Int32) (v3 : Int32) (v4 : Int32) (μ : Mu) : Option ((Int32 ⊕ Nat) × Mu) :=
  thr (X11_needSide n v1 μ) (fun r1 m1 =>
  thr (X11_needSeeds n v2 m1) (fun r5 m5 =>
  (X1_positionsOf n v2 m5).bind (fun r13 =>
  (if r13.1 ≤ (6000 : Int32) then
  thr (X11_needPosition n v3 r13.1 r13.2) (fun r39 m39 =>
  (if v4 < 0 then
  X11_ofPlace_61 n v1 v2 v3 v4 m39
  else
  (if v4 < ((2 : Int32) * (m39.1 1 1)) then
  (X1_lay n 55 v1 v2 v3 m39).bind (fun r82 =>
  (X1_pitAsSeen n v1 v4 r82.2).bind (fun r97 =>
  (X11_seedsOrLacking n 55 r97.1 r97.2).bind (fun r100 =>
  some (Sum.inl r100.1, r100.2))))
  else
  X11_ofPlace_61 n v1 v2 v3 v4 m39)))
  else
  some (Sum.inr 2, r13.2)))))
def X11_tray_26 (n : Nat) (v1 : Int32) (v2 : Int32) (v3 : Int32) (μ : Mu) : Option ((Unit ⊕ Nat) × Mu) :=
  some (Sum.inr 1, μ)
def X11_tray (n : Nat) (v1 : Int32) (v2 : Int32) (v3 : Int32) (μ : Mu) : Option ((Unit ⊕ Nat) × Mu) :=
  thr (X11_anyTray n v1 μ) (fun r2 m2 =>
  kd r2 9 ((if v2 < 0 then
  X11_tray_26 n v1 v2 v3 m2
  else
  (if (3 : Int32) < v2 then
  X11_tray_26 n v1 v2 v3 m2
  else
  (if v3 < 0 then
  X11_tray_26 n v1 v2 v3 m2
  else
  (if v3 ≤ (40 : Int32) then
  (X9_lay n r2 v2 v3 m2).bind (fun r41 =>
  some (Sum.inl (), r41.2))
  else
  X11_tray_26 n v1 v2 v3 m2))))))
def X11_write_20 (n : Nat) (v1 : Int32) (v2 : Int32) (v3 : Int64) (μ : Mu) : Option ((Int64 ⊕ Nat) × Mu) :=
  some (Sum.inr 3, μ)
def X11_write (n : Nat) (v1 : Int32) (v2 : Int32) (v3 : Int64) (μ : Mu) : Option ((Int64 ⊕ Nat) × Mu) :=
  thr (X11_laidTray n v1 μ) (fun r2 m2 =>
  kd r2 9 ((if v2 < 0 then
  X11_write_20 n v1 v2 v3 m2
  else
  (if v2 < (m2.1 r2 2) then
  (X9_cut n r2 v3 m2).bind (fun r40 =>
  gd v2 40 (some (Sum.inl ((sj r40.2 (r2 + 1) v2.toNatClampNeg r40.1).2 (r2 + 1) v2.toNatClampNeg), (sj r40.2 (r2 + 1) v2.toNatClampNeg r40.1))))
  else
  X11_write_20 n v1 v2 v3 m2))))
def X11_pour_24b (n : Nat) (v1 : Int32) (k24 : Nat → Int32 → Int32 → Mu → Option ((Int32 ⊕ Nat) × Mu)) (v2 : Nat) (v3 : Int32) (v4 : Int32) (μ : Mu) : Option ((Int32 ⊕ Nat) × Mu) :=
  kd v2 9 ((if v3 ≤ v4 then
  some (Sum.inl v3, μ)
  else
  (X3_moveAt n v4 μ).bind (fun r42 =>
  gd v4 40 (k24 v2 v3 (v4 + (1 : Int32)) (sj r42.2 (v2 + 1) v4.toNatClampNeg (r42.1.toInt64))))))
def X11_pour_24 (n : Nat) (v1 : Int32) (v2 : Nat) (v3 : Int32) (v4 : Int32) (μ : Mu) : Option ((Int32 ⊕ Nat) × Mu) := lpF (fun _ _ _ _ => none) (X11_pour_24b n v1) n v2 v3 v4 μ
def X11_pour (n : Nat) (v1 : Int32) (μ : Mu) : Option ((Int32 ⊕ Nat) × Mu) :=
  thr (X11_laidTray n v1 μ) (fun r2 m2 =>
  kd r2 9 (X11_pour_24 n v1 r2 (if (m2.1 r2 2) < (m2.1 9 0) then (m2.1 r2 2) else (m2.1 9 0)) (0 : Int32) m2))
def X11_image (n : Nat) (v1 : Int32) (μ : Mu) : Option ((Unit ⊕ Nat) × Mu) :=
  thr (X11_anyImage n v1 μ) (fun r2 m2 =>
  kd r2 2 ((X5_copy n (r2 + 1) 1 (si m2 r2 0 (1 : Int32))).bind (fun r19 =>
  (X6_copy n (r2 + 2) 53 r19.2).bind (fun r30 =>
  some (Sum.inl (), r30.2)))))
def X11_judge_15 (n : Nat) (v1 : Int32) (v2 : Int32) (μ : Mu) : Option ((Int32 ⊕ Nat) × Mu) :=
  some (Sum.inr 1, μ)
def X11_judge_112 (n : Nat) (v1 : Int32) (v2 : Int32) (k45 : Nat → Int32 → Int32 → Int32 → Mu → Option ((Int32 ⊕ Nat) × Mu)) (v3 : Nat) (v4 : Int32) (v5 : Int32) (v6 : Int32) (μ : Mu) : Option ((Int32 ⊕ Nat) × Mu) :=
  kd v3 9 (k45 v3 v4 v5 (v6 + (1 : Int32)) μ)
def X11_judge_118 (n : Nat) (v1 : Int32) (v2 : Int32) (v4 : Int32) (v5 : Int32) (μ : Mu) : Option ((Int32 ⊕ Nat) × Mu) :=
  (if v2 = (0 : Int32) then
  some (Sum.inl v4, μ)
  else
  (if v2 = (1 : Int32) then
  some (Sum.inl v5, μ)
  else
  (if v2 = (2 : Int32) then
  (X8_scoreOf n 55 μ).bind (fun r158 =>
  some (Sum.inl r158.1, r158.2))
  else
  some (Sum.inl (μ.1 55 1), μ))))
def X11_judge_45b (n : Nat) (v1 : Int32) (v2 : Int32) (k45 : Nat → Int32 → Int32 → Int32 → Mu → Option ((Int32 ⊕ Nat) × Mu)) (v3 : Nat) (v4 : Int32) (v5 : Int32) (v6 : Int32) (μ : Mu) : Option ((Int32 ⊕ Nat) × Mu) :=
  kd v3 9 ((if (μ.1 v3 2) ≤ v6 then
  X11_judge_118 n v1 v2 v4 v5 μ
  else
  (if v4 = ((-1) : Int32) then
  gd v6 40 ((X8_reason n 55 (μ.2 (v3 + 1) v6.toNatClampNeg) μ).bind (fun r75 =>
  (if r75.1 = 0 then
  (X8_sow n 55 ((r75.2.2 (v3 + 1) v6.toNatClampNeg).toInt32) r75.2).bind (fun r101 =>
  X11_judge_112 n v1 v2 k45 v3 v4 r75.1 v6 r101.2)
  else
  X11_judge_112 n v1 v2 k45 v3 v6 r75.1 v6 r75.2)))
  else
  X11_judge_118 n v1 v2 v4 v5 μ)))
def X11_judge_45 (n : Nat) (v1 : Int32) (v2 : Int32) (v3 : Nat) (v4 : Int32) (v5 : Int32) (v6 : Int32) (μ : Mu) : Option ((Int32 ⊕ Nat) × Mu) := lpF (fun _ _ _ _ _ => none) (X11_judge_45b n v1 v2) n v3 v4 v5 v6 μ
def X11_judge (n : Nat) (v1 : Int32) (v2 : Int32) (μ : Mu) : Option ((Int32 ⊕ Nat) × Mu) :=
  thr (X11_laidTray n v1 μ) (fun r2 m2 =>
  kd r2 9 ((if v2 < 0 then
  X11_judge_15 n v1 v2 m2
  else
  (if v2 ≤ (3 : Int32) then
  (X6_copy n 55 53 m2).bind (fun r33 =>
  X11_judge_45 n v1 v2 r2 ((-1) : Int32) (0 : Int32) (0 : Int32) r33.2)
  else
  X11_judge_15 n v1 v2 m2))))
def X11_perform_78 (n : Nat) (v1 : Int32) (v3 : Int32) (μ : Mu) : Option ((Int32 ⊕ Nat) × Mu) :=
  some (Sum.inl v3, μ)
def X11_perform_8b (n : Nat) (v1 : Int32) (k8 : Nat → Int32 → Mu → Option ((Int32 ⊕ Nat) × Mu)) (v2 : Nat) (v3 : Int32) (μ : Mu) : Option ((Int32 ⊕ Nat) × Mu) :=
  kd v2 9 ((if (μ.1 v2 2) ≤ v3 then
  X11_perform_78 n v1 v3 μ
  else
  gd v3 40 ((X8_reason n 53 (μ.2 (v2 + 1) v3.toNatClampNeg) μ).bind (fun r30 =>
  (if r30.1 = 0 then
  (X3_keep n 53 ((r30.2.2 (v2 + 1) v3.toNatClampNeg).toInt32) r30.2).bind (fun r55 =>
  (X8_sow n 53 ((r30.2.2 (v2 + 1) v3.toNatClampNeg).toInt32) r55.2).bind (fun r68 =>
  k8 v2 (v3 + (1 : Int32)) r68.2))
  else
  X11_perform_78 n v1 v3 r30.2)))))
def X11_perform_8 (n : Nat) (v1 : Int32) (v2 : Nat) (v3 : Int32) (μ : Mu) : Option ((Int32 ⊕ Nat) × Mu) := lpF (fun _ _ _ => none) (X11_perform_8b n v1) n v2 v3 μ
def X11_perform (n : Nat) (v1 : Int32) (μ : Mu) : Option ((Int32 ⊕ Nat) × Mu) :=
  thr (X11_laidTray n v1 μ) (fun r2 m2 =>
  kd r2 9 (X11_perform_8 n v1 r2 (0 : Int32) m2))
def X11_pits_9 (n : Nat) (v1 : Int32) (μ : Mu) : Option ((Int32 ⊕ Nat) × Mu) :=
  some (Sum.inr 1, μ)
def X11_pits_69 (n : Nat) (v1 : Int32) (k36 : Int32 → Int32 → Int32 → Mu → Option ((Int32 ⊕ Nat) × Mu)) (v2 : Int32) (v3 : Int32) (v4 : Int32) (μ : Mu) : Option ((Int32 ⊕ Nat) × Mu) :=
  k36 v2 v3 (v4 + (1 : Int32)) μ
def X11_pits_36b (n : Nat) (v1 : Int32) (k36 : Int32 → Int32 → Int32 → Mu → Option ((Int32 ⊕ Nat) × Mu)) (v2 : Int32) (v3 : Int32) (v4 : Int32) (μ : Mu) : Option ((Int32 ⊕ Nat) × Mu) :=
  (if (12 : Int32) ≤ v4 then
  some (Sum.inl v3, μ)
  else
  (X11_has n v2 v4 μ).bind (fun r46 =>
  (if r46.1 = 0 then
  X11_pits_69 n v1 k36 v2 v3 v4 r46.2
  else
  (X11_isNotable n v4 v1 r46.2).bind (fun r56 =>
  (if r56.1 = 0 then
  X11_pits_69 n v1 k36 v2 v3 v4 r56.2
  else
  X11_pits_69 n v1 k36 v2 (v3 ||| ((1 : Int32) <<< (v4 &&& 31))) v4 r56.2)))))
def X11_pits_36 (n : Nat) (v1 : Int32) (v2 : Int32) (v3 : Int32) (v4 : Int32) (μ : Mu) : Option ((Int32 ⊕ Nat) × Mu) := lpF (fun _ _ _ _ => none) (X11_pits_36b n v1) n v2 v3 v4 μ
def X11_pits (n : Nat) (v1 : Int32) (μ : Mu) : Option ((Int32 ⊕ Nat) × Mu) :=
  (if v1 < 0 then
  X11_pits_9 n v1 μ
  else
  (if v1 ≤ (2 : Int32) then
  (X8_choices n 53 μ).bind (fun r27 =>
  X11_pits_36 n v1 r27.1 (0 : Int32) (0 : Int32) r27.2)
  else
  X11_pits_9 n v1 μ))
def X11_play_9 (n : Nat) (v1 : Int32) (v2 : Int32) (μ : Mu) : Option ((Int32 ⊕ Nat) × Mu) :=
  some (Sum.inr 1, μ)
def X11_play (n : Nat) (v1 : Int32) (v2 : Int32) (μ : Mu) : Option ((Int32 ⊕ Nat) × Mu) :=
  (if v2 < 0 then
  X11_play_9 n v1 v2 μ
  else
  (if v2 ≤ (2 : Int32) then
  (X10_goByDraws n 53 v1 (0 : Int32) μ).bind (fun r29 =>
  (X11_toldOfPlay n v2 r29.2).bind (fun r34 =>
  some (Sum.inl r34.1, r34.2)))
  else
  X11_play_9 n v1 v2 μ))
def X11_needSolved (n : Nat) (v1 : Int32) (μ : Mu) : Option ((Unit ⊕ Nat) × Mu) :=
  (X7_reach n v1 μ).bind (fun r5 =>
  (if r5.1 = 0 then
  some (Sum.inr 2, r5.2)
  else
  some (Sum.inl (), r5.2)))
def X11_laySolved (n : Nat) (v1 : Int32) (v2 : Int32) (v3 : Int32) (μ : Mu) : Option ((Unit ⊕ Nat) × Mu) :=
  thr (X11_needSide n v1 μ) (fun r1 m1 =>
  thr (X11_needSeeds n v2 m1) (fun r5 m5 =>
  (X7_reach n v2 m5).bind (fun r13 =>
  (if r13.1 = 0 then
  some (Sum.inr 2, r13.2)
  else
  (X1_positionsOf n v2 r13.2).bind (fun r35 =>
  thr (X11_needPosition n v3 r35.1 r35.2) (fun r38 m38 =>
  (X1_lay n 55 v1 v2 v3 m38).bind (fun r52 =>
  some (Sum.inl (), r52.2))))))))
def X11_valueOf (n : Nat) (v1 : Int32) (v2 : Int32) (v3 : Int32) (μ : Mu) : Option ((Int32 ⊕ Nat) × Mu) :=
  thr (X11_laySolved n v1 v2 v3 μ) (fun r4 m4 =>
  (X7_valueAt n 55 m4).bind (fun r15 =>
  some (Sum.inl r15.1, r15.2)))
def X11_tally_17 (n : Nat) (v1 : Int32) (v2 : Int32) (v3 : Int32) (μ : Mu) : Option ((Int32 ⊕ Nat) × Mu) :=
  some (Sum.inr 1, μ)
def X11_tally_76 (n : Nat) (v1 : Int32) (v2 : Int32) (v3 : Int32) (k38 : Int32 → Int32 → Mu → Option ((Int32 ⊕ Nat) × Mu)) (v4 : Int32) (v5 : Int32) (μ : Mu) : Option ((Int32 ⊕ Nat) × Mu) :=
  k38 v4 (v5 + (1 : Int32)) μ
def X11_tally_38b (n : Nat) (v1 : Int32) (v2 : Int32) (v3 : Int32) (k38 : Int32 → Int32 → Mu → Option ((Int32 ⊕ Nat) × Mu)) (v4 : Int32) (v5 : Int32) (μ : Mu) : Option ((Int32 ⊕ Nat) × Mu) :=
  (X1_positionsOf n v2 μ).bind (fun r45 =>
  (if r45.1 ≤ v5 then
  some (Sum.inl v4, r45.2)
  else
  (X7_indexOf n v1 v2 v5 r45.2).bind (fun r63 =>
  (X7_isOfKind n r63.1 v3 r63.2).bind (fun r67 =>
  (if r67.1 = 0 then
  X11_tally_76 n v1 v2 v3 k38 v4 v5 r67.2
  else
  X11_tally_76 n v1 v2 v3 k38 (v4 + (1 : Int32)) v5 r67.2)))))
def X11_tally_38 (n : Nat) (v1 : Int32) (v2 : Int32) (v3 : Int32) (v4 : Int32) (v5 : Int32) (μ : Mu) : Option ((Int32 ⊕ Nat) × Mu) := lpF (fun _ _ _ => none) (X11_tally_38b n v1 v2 v3) n v4 v5 μ
def X11_tally (n : Nat) (v1 : Int32) (v2 : Int32) (v3 : Int32) (μ : Mu) : Option ((Int32 ⊕ Nat) × Mu) :=
  thr (X11_needSide n v1 μ) (fun r1 m1 =>
  thr (X11_needSeeds n v2 m1) (fun r5 m5 =>
  (if v3 < 0 then
  X11_tally_17 n v1 v2 v3 m5
  else
  (if v3 ≤ (3 : Int32) then
  thr (X11_needSolved n v2 m5) (fun r29 m29 =>
  X11_tally_38 n v1 v2 v3 (0 : Int32) (0 : Int32) m29)
  else
  X11_tally_17 n v1 v2 v3 m5))))
def X11_row_132 (n : Nat) (v1 : Int32) (v2 : Int32) (v3 : Int32) (v4 : Int32) (s0 : Int32) (μ : Mu) : Option ((Int32 ⊕ Nat) × Mu) :=
  some (Sum.inl s0, μ)
def X11_row_60 (n : Nat) (v1 : Int32) (v2 : Int32) (v3 : Int32) (v4 : Int32) (v5 : Int32) (μ : Mu) : Option ((Int32 ⊕ Nat) × Mu) :=
  (if v4 = (0 : Int32) then
  (X7_rankAt n 55 μ).bind (fun r100 =>
  some (Sum.inl r100.1, r100.2))
  else
  (if v4 = (1 : Int32) then
  (X7_bestAt n 55 μ).bind (fun r112 =>
  (if r112.1 = ((-1) : Int32) then
  X11_row_132 n v1 v2 v3 v4 ((-1) : Int32) r112.2
  else
  X11_row_132 n v1 v2 v3 v4 (r112.1 - v5) r112.2))
  else
  (if v4 = (2 : Int32) then
  (X8_choices n 55 μ).bind (fun r141 =>
  (J6_bitCount_0f7a4 n r141.1 r141.2).bind (fun r144 =>
  some (Sum.inl r144.1, r144.2)))
  else
  (if v4 = (3 : Int32) then
  (X7_manyBest n 55 μ).bind (fun r156 =>
  some (Sum.inl r156.1, r156.2))
  else
  some (Sum.inr 1, μ)))))
def X11_row (n : Nat) (v1 : Int32) (v2 : Int32) (v3 : Int32) (v4 : Int32) (μ : Mu) : Option ((Int32 ⊕ Nat) × Mu) :=
  thr (X11_laySolved n v1 v2 v3 μ) (fun r4 m4 =>
  (if v4 < (10 : Int32) then
  X11_row_60 n v1 v2 v3 v4 (v1 * (m4.1 1 1)) m4
  else
  (if ((10 : Int32) + (m4.1 1 1)) ≤ v4 then
  X11_row_60 n v1 v2 v3 v4 (v1 * (m4.1 1 1)) m4
  else
  (X7_worthBy n 55 (((v1 * (m4.1 1 1)) + v4) - (10 : Int32)) m4).bind (fun r56 =>
  some (Sum.inl r56.1, r56.2)))))
def X11_find_72 (n : Nat) (v1 : Int32) (v2 : Int32) (v3 : Int32) (v4 : Int32) (k20 : Int32 → Int32 → Mu → Option ((Int32 ⊕ Nat) × Mu)) (v5 : Int32) (v6 : Int32) (μ : Mu) : Option ((Int32 ⊕ Nat) × Mu) :=
  k20 v5 (v6 + (1 : Int32)) μ
def X11_find_78 (n : Nat) (v1 : Int32) (v2 : Int32) (v3 : Int32) (v4 : Int32) (μ : Mu) : Option ((Int32 ⊕ Nat) × Mu) :=
  some (Sum.inl ((-1) : Int32), μ)
def X11_find_20b (n : Nat) (v1 : Int32) (v2 : Int32) (v3 : Int32) (v4 : Int32) (k20 : Int32 → Int32 → Mu → Option ((Int32 ⊕ Nat) × Mu)) (v5 : Int32) (v6 : Int32) (μ : Mu) : Option ((Int32 ⊕ Nat) × Mu) :=
  (X1_positionsOf n v2 μ).bind (fun r27 =>
  (if r27.1 ≤ v6 then
  X11_find_78 n v1 v2 v3 v4 r27.2
  else
  (if v5 < 0 then
  X11_find_78 n v1 v2 v3 v4 r27.2
  else
  (X7_indexOf n v1 v2 v6 r27.2).bind (fun r53 =>
  gd r53.1 12000 ((if (r53.2.1 16 r53.1.toNatClampNeg) = v3 then
  (if v5 = 0 then
  some (Sum.inl v6, r53.2)
  else
  X11_find_72 n v1 v2 v3 v4 k20 (v5 + ((-1) : Int32)) v6 r53.2)
  else
  X11_find_72 n v1 v2 v3 v4 k20 v5 v6 r53.2))))))
def X11_find_20 (n : Nat) (v1 : Int32) (v2 : Int32) (v3 : Int32) (v4 : Int32) (v5 : Int32) (v6 : Int32) (μ : Mu) : Option ((Int32 ⊕ Nat) × Mu) := lpF (fun _ _ _ => none) (X11_find_20b n v1 v2 v3 v4) n v5 v6 μ
def X11_find (n : Nat) (v1 : Int32) (v2 : Int32) (v3 : Int32) (v4 : Int32) (μ : Mu) : Option ((Int32 ⊕ Nat) × Mu) :=
  thr (X11_needSide n v1 μ) (fun r1 m1 =>
  thr (X11_needSeeds n v2 m1) (fun r5 m5 =>
  thr (X11_needSolved n v2 m5) (fun r10 m10 =>
  X11_find_20 n v1 v2 v3 v4 v4 (0 : Int32) m10)))
def X11_most_17 (n : Nat) (v1 : Int32) (v2 : Int32) (v3 : Int32) (μ : Mu) : Option ((Int32 ⊕ Nat) × Mu) :=
  some (Sum.inr 1, μ)
def X11_most_98 (n : Nat) (v1 : Int32) (v2 : Int32) (v3 : Int32) (k41 : Int32 → Int32 → Int32 → Mu → Option ((Int32 ⊕ Nat) × Mu)) (v4 : Int32) (v5 : Int32) (v6 : Int32) (μ : Mu) : Option ((Int32 ⊕ Nat) × Mu) :=
  k41 v4 v5 (v6 + (1 : Int32)) μ
def X11_most_90 (n : Nat) (v1 : Int32) (v2 : Int32) (v3 : Int32) (k41 : Int32 → Int32 → Int32 → Mu → Option ((Int32 ⊕ Nat) × Mu)) (v6 : Int32) (v7 : Int32) (μ : Mu) : Option ((Int32 ⊕ Nat) × Mu) :=
  X11_most_98 n v1 v2 v3 k41 v6 v7 v6 μ
def X11_most_117 (n : Nat) (v1 : Int32) (v2 : Int32) (v3 : Int32) (v4 : Int32) (μ : Mu) : Option ((Int32 ⊕ Nat) × Mu) :=
  some (Sum.inl v4, μ)
def X11_most_133 (n : Nat) (v1 : Int32) (v2 : Int32) (v3 : Int32) (s0 : Int32) (μ : Mu) : Option ((Int32 ⊕ Nat) × Mu) :=
  some (Sum.inl s0, μ)
def X11_most_41b (n : Nat) (v1 : Int32) (v2 : Int32) (v3 : Int32) (k41 : Int32 → Int32 → Int32 → Mu → Option ((Int32 ⊕ Nat) × Mu)) (v4 : Int32) (v5 : Int32) (v6 : Int32) (μ : Mu) : Option ((Int32 ⊕ Nat) × Mu) :=
  (X1_positionsOf n v2 μ).bind (fun r48 =>
  (if r48.1 ≤ v6 then
  (if v4 = ((-1) : Int32) then
  X11_most_117 n v1 v2 v3 v4 r48.2
  else
  (if (v3 - v3 / (2 : Int32) * (2 : Int32)) = (1 : Int32) then
  X11_most_117 n v1 v2 v3 v4 r48.2
  else
  (if v3 = (2 : Int32) then
  X11_most_133 n v1 v2 v3 (-v5) r48.2
  else
  X11_most_133 n v1 v2 v3 v5 r48.2)))
  else
  (X7_indexOf n v1 v2 v6 r48.2).bind (fun r66 =>
  (X7_measure n r66.1 (v3 / (2 : Int32)) r66.2).bind (fun r72 =>
  (if v4 = ((-1) : Int32) then
  X11_most_90 n v1 v2 v3 k41 v6 r72.1 r72.2
  else
  (if r72.1 ≤ v5 then
  X11_most_98 n v1 v2 v3 k41 v4 v5 v6 r72.2
  else
  X11_most_90 n v1 v2 v3 k41 v6 r72.1 r72.2))))))
def X11_most_41 (n : Nat) (v1 : Int32) (v2 : Int32) (v3 : Int32) (v4 : Int32) (v5 : Int32) (v6 : Int32) (μ : Mu) : Option ((Int32 ⊕ Nat) × Mu) := lpF (fun _ _ _ _ => none) (X11_most_41b n v1 v2 v3) n v4 v5 v6 μ
def X11_most (n : Nat) (v1 : Int32) (v2 : Int32) (v3 : Int32) (μ : Mu) : Option ((Int32 ⊕ Nat) × Mu) :=
  thr (X11_needSide n v1 μ) (fun r1 m1 =>
  thr (X11_needSeeds n v2 m1) (fun r5 m5 =>
  (if v3 < 0 then
  X11_most_17 n v1 v2 v3 m5
  else
  (if v3 ≤ (5 : Int32) then
  thr (X11_needSolved n v2 m5) (fun r29 m29 =>
  X11_most_41 n v1 v2 v3 ((-1) : Int32) ((-1) : Int32) (0 : Int32) m29)
  else
  X11_most_17 n v1 v2 v3 m5))))
def X11_line_98 (n : Nat) (v1 : Int32) (s0 : Int32) (μ : Mu) : Option ((Int32 ⊕ Nat) × Mu) :=
  some (Sum.inl s0, μ)
def X11_line_131 (n : Nat) (v1 : Int32) (s0 : Int32) (μ : Mu) : Option ((Int32 ⊕ Nat) × Mu) :=
  some (Sum.inl s0, μ)
def X11_line (n : Nat) (v1 : Int32) (μ : Mu) : Option ((Int32 ⊕ Nat) × Mu) :=
  (if ((-3) : Int32) ≤ v1 then
  (X6_inPits n 53 μ).bind (fun r22 =>
  thr (X11_needSolved n r22.1 r22.2) (fun r25 m25 =>
  (X10_goByBest n 53 m25).bind (fun r36 =>
  (if v1 = ((-3) : Int32) then
  (X8_scoreOf n 153 r36.2).bind (fun r79 =>
  some (Sum.inl r79.1, r79.2))
  else
  (if v1 = ((-2) : Int32) then
  (if (r36.2.1 22 3) = 0 then
  X11_line_98 n v1 (0 : Int32) r36.2
  else
  X11_line_98 n v1 (1 : Int32) r36.2)
  else
  (if v1 = ((-1) : Int32) then
  some (Sum.inl (r36.2.1 22 2), r36.2)
  else
  (if (r36.2.1 22 2) ≤ v1 then
  X11_line_131 n v1 ((-1) : Int32) r36.2
  else
  gd v1 100 (X11_line_131 n v1 (r36.2.1 23 v1.toNatClampNeg) r36.2))))))))
  else
  some (Sum.inr 1, μ))
def X11_plays_9 (n : Nat) (v1 : Int32) (μ : Mu) : Option ((Int32 ⊕ Nat) × Mu) :=
  some (Sum.inr 1, μ)
def X11_plays (n : Nat) (v1 : Int32) (μ : Mu) : Option ((Int32 ⊕ Nat) × Mu) :=
  (if v1 < 0 then
  X11_plays_9 n v1 μ
  else
  (if v1 ≤ (5 : Int32) then
  (X0_countFrom n 53 v1 μ).bind (fun r29 =>
  some (Sum.inl r29.1, r29.2))
  else
  X11_plays_9 n v1 μ))
def X11_reached_9 (n : Nat) (v1 : Int32) (μ : Mu) : Option ((Int32 ⊕ Nat) × Mu) :=
  some (Sum.inr 1, μ)
def X11_reached (n : Nat) (v1 : Int32) (μ : Mu) : Option ((Int32 ⊕ Nat) × Mu) :=
  (if v1 < 0 then
  X11_reached_9 n v1 μ
  else
  (if v1 ≤ (4 : Int32) then
  (X0_countUnlike n 53 v1 μ).bind (fun r29 =>
  some (Sum.inl r29.1, r29.2))
  else
  X11_reached_9 n v1 μ))
def X11_against_20 (n : Nat) (v1 : Int32) (v2 : Int32) (μ : Mu) : Option ((Int32 ⊕ Nat) × Mu) :=
  some (Sum.inr 1, μ)
def X11_against (n : Nat) (v1 : Int32) (v2 : Int32) (μ : Mu) : Option ((Int32 ⊕ Nat) × Mu) :=
  (X6_inPits n 53 μ).bind (fun r5 =>
  thr (X11_needSolved n r5.1 r5.2) (fun r8 m8 =>
  (if v2 < 0 then
  X11_against_20 n v1 v2 m8
  else
  (if v2 ≤ (2 : Int32) then
  (X10_goByDraws n 53 v1 (1 : Int32) m8).bind (fun r40 =>
  (X11_toldOfPlay n v2 r40.2).bind (fun r45 =>
  some (Sum.inl r45.1, r45.2)))
  else
  X11_against_20 n v1 v2 m8))))
def X11_restore (n : Nat) (v1 : Int32) (μ : Mu) : Option ((Unit ⊕ Nat) × Mu) :=
  thr (X11_anyImage n v1 μ) (fun r2 m2 =>
  kd r2 2 ((if (m2.1 r2 0) = 0 then
  some (Sum.inr 2, m2)
  else
  (X11_settle n (r2 + 1) (r2 + 2) m2).bind (fun r33 =>
  some (Sum.inl (), r33.2)))))
def X11_board_15 (n : Nat) (v1 : Int32) (μ : Mu) : Option ((Int32 ⊕ Nat) × Mu) :=
  some (Sum.inr 1, μ)
def X11_board (n : Nat) (v1 : Int32) (μ : Mu) : Option ((Int32 ⊕ Nat) × Mu) :=
  (if v1 < 0 then
  X11_board_15 n v1 μ
  else
  (if v1 ≤ (μ.1 12 4) then
  (X4_read n v1 μ).bind (fun r30 =>
  (if ((si r30.2 12 4 (0 : Int32)).1 12 2) = 0 then
  (X11_settle n 13 149 (si r30.2 12 4 (0 : Int32))).bind (fun r77 =>
  some (Sum.inl (r77.2.1 1 0), r77.2))
  else
  some (Sum.inl (((-10) : Int32) - ((si r30.2 12 4 (0 : Int32)).1 12 2)), (si r30.2 12 4 (0 : Int32)))))
  else
  X11_board_15 n v1 μ))
