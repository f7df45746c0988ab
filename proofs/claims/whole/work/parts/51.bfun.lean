def X12_playsOf_69 (n : Nat) (kself : Int32 → Mu → Option (Int32 × Mu)) (v1 : Int32) (k22 : Int32 → Int32 → Mu → Option (Int32 × Mu)) (v2 : Int32) (v3 : Int32) (μ : Mu) : Option (Int32 × Mu) :=
  k22 v2 (v3 + (1 : Int32)) μ
def X12_playsOf_22b (n : Nat) (kself : Int32 → Mu → Option (Int32 × Mu)) (v1 : Int32) (k22 : Int32 → Int32 → Mu → Option (Int32 × Mu)) (v2 : Int32) (v3 : Int32) (μ : Mu) : Option (Int32 × Mu) :=
  (X12_pitMany n μ).bind (fun r24 =>
  (if r24.1 ≤ v3 then
  some (v2, r24.2)
  else
  (X12_whyNot n v3 r24.2).bind (fun r32 =>
  (if r32.1 = 0 then
  (X12_moves n v3 r32.2).bind (fun r43 =>
  (kself (v1 - (1 : Int32)) r43.2).bind (fun r52 =>
  (X12_gets n 195 v1 172 r52.2).bind (fun r66 =>
  X12_playsOf_69 n kself v1 k22 (v2 + r52.1) v3 r66.2)))
  else
  X12_playsOf_69 n kself v1 k22 v2 v3 r32.2))))
def X12_playsOf_22 (n : Nat) (kself : Int32 → Mu → Option (Int32 × Mu)) (v1 : Int32) (v2 : Int32) (v3 : Int32) (μ : Mu) : Option (Int32 × Mu) := lpF (fun _ _ _ => none) (X12_playsOf_22b n kself v1) n v2 v3 μ
def X12_playsOf_body (n : Nat) (kself : Int32 → Mu → Option (Int32 × Mu)) (v1 : Int32) (μ : Mu) : Option (Int32 × Mu) :=
  (if v1 = 0 then
  some ((1 : Int32), μ)
  else
  (X12_puts n 195 v1 172 μ).bind (fun r17 =>
  X12_playsOf_22 n kself v1 (0 : Int32) (0 : Int32) r17.2))
def X12_playsOf (n : Nat) (v1 : Int32) (μ : Mu) : Option (Int32 × Mu) := lpF (fun _ _ => none) (X12_playsOf_body n) 8 v1 μ
def X12_plays_37 (n : Nat) (v1 : Int32) (s0 : Int32) (μ : Mu) : Option (Int32 × Mu) :=
  some (s0, μ)
def X12_plays_18 (n : Nat) (v1 : Int32) (s1 : Int32) (μ : Mu) : Option (Int32 × Mu) :=
  (if ((si μ 171 5 s1).1 171 5) ≤ 0 then
  (X12_playsOf n v1 (si μ 171 5 s1)).bind (fun r34 =>
  X12_plays_37 n v1 r34.1 r34.2)
  else
  X12_plays_37 n v1 (0 : Int32) (si μ 171 5 s1))
def X12_plays (n : Nat) (v1 : Int32) (μ : Mu) : Option (Int32 × Mu) :=
  (X12_within n (v1.toInt64) (0 : Int64) (5 : Int64) μ).bind (fun r7 =>
  (if r7.1 = 0 then
  X12_plays_18 n v1 (1 : Int32) r7.2
  else
  X12_plays_18 n v1 (0 : Int32) r7.2))
def X12_reaches_6b (n : Nat) (kself : Int32 → Mu → Option (Unit × Mu)) (v1 : Int32) (k6 : Int32 → Mu → Option (Unit × Mu)) (v2 : Int32) (μ : Mu) : Option (Unit × Mu) :=
  (if (μ.1 171 47) ≤ v2 then
  (X12_puts n 196 (μ.1 171 47) 172 μ).bind (fun r41 =>
  some ((), (si r41.2 171 47 ((r41.2.1 171 47) + (1 : Int32)))))
  else
  (X12_isBoard n v2 μ).bind (fun r16 =>
  (if r16.1 = 0 then
  k6 (v2 + (1 : Int32)) r16.2
  else
  some ((), r16.2))))
def X12_reaches_6 (n : Nat) (kself : Int32 → Mu → Option (Unit × Mu)) (v1 : Int32) (v2 : Int32) (μ : Mu) : Option (Unit × Mu) := lpF (fun _ _ => none) (X12_reaches_6b n kself v1) n v2 μ
def X12_reaches_113 (n : Nat) (kself : Int32 → Mu → Option (Unit × Mu)) (v1 : Int32) (k69 : Int32 → Mu → Option (Unit × Mu)) (v2 : Int32) (μ : Mu) : Option (Unit × Mu) :=
  k69 (v2 + (1 : Int32)) μ
def X12_reaches_69b (n : Nat) (kself : Int32 → Mu → Option (Unit × Mu)) (v1 : Int32) (k69 : Int32 → Mu → Option (Unit × Mu)) (v2 : Int32) (μ : Mu) : Option (Unit × Mu) :=
  (X12_pitMany n μ).bind (fun r71 =>
  (if r71.1 ≤ v2 then
  some ((), r71.2)
  else
  (X12_whyNot n v2 r71.2).bind (fun r79 =>
  (if r79.1 = 0 then
  (X12_moves n v2 r79.2).bind (fun r90 =>
  (kself (v1 - (1 : Int32)) r90.2).bind (fun r98 =>
  (X12_gets n 195 v1 172 r98.2).bind (fun r110 =>
  X12_reaches_113 n kself v1 k69 v2 r110.2)))
  else
  X12_reaches_113 n kself v1 k69 v2 r79.2))))
def X12_reaches_69 (n : Nat) (kself : Int32 → Mu → Option (Unit × Mu)) (v1 : Int32) (v2 : Int32) (μ : Mu) : Option (Unit × Mu) := lpF (fun _ _ => none) (X12_reaches_69b n kself v1) n v2 μ
def X12_reaches_body (n : Nat) (kself : Int32 → Mu → Option (Unit × Mu)) (v1 : Int32) (μ : Mu) : Option (Unit × Mu) :=
  (if v1 = 0 then
  X12_reaches_6 n kself v1 (0 : Int32) μ
  else
  (X12_puts n 195 v1 172 μ).bind (fun r64 =>
  X12_reaches_69 n kself v1 (0 : Int32) r64.2))
def X12_reaches (n : Nat) (v1 : Int32) (μ : Mu) : Option (Unit × Mu) := lpF (fun _ _ => none) (X12_reaches_body n) 8 v1 μ
def X12_reached_18 (n : Nat) (v1 : Int32) (s1 : Int32) (μ : Mu) : Option (Int32 × Mu) :=
  (if ((si μ 171 5 s1).1 171 5) ≤ 0 then
  (X12_reaches n v1 (si (si μ 171 5 s1) 171 47 (0 : Int32))).bind (fun r37 =>
  some ((r37.2.1 171 47), r37.2))
  else
  some ((0 : Int32), (si μ 171 5 s1)))
def X12_reached (n : Nat) (v1 : Int32) (μ : Mu) : Option (Int32 × Mu) :=
  (X12_within n (v1.toInt64) (0 : Int64) (4 : Int64) μ).bind (fun r7 =>
  (if r7.1 = 0 then
  X12_reached_18 n v1 (1 : Int32) r7.2
  else
  X12_reached_18 n v1 (0 : Int32) r7.2))
def X12_ends_27 (n : Nat) (kself : Int32 → Mu → Option (Int32 × Mu)) (v1 : Int32) (s0 : Int32) (μ : Mu) : Option (Int32 × Mu) :=
  bz s0 (some (s0, μ))
def X12_ends_26 (n : Nat) (kself : Int32 → Mu → Option (Int32 × Mu)) (v1 : Int32) (μ : Mu) : Option (Int32 × Mu) :=
  X12_ends_27 n kself v1 (0 : Int32) μ
def X12_ends_11 (n : Nat) (kself : Int32 → Mu → Option (Int32 × Mu)) (v1 : Int32) (μ : Mu) : Option (Int32 × Mu) :=
  (if v1 = 0 then
  (X12_isOver n μ).bind (fun r16 =>
  (if r16.1 = 0 then
  X12_ends_26 n kself v1 r16.2
  else
  X12_ends_27 n kself v1 (1 : Int32) r16.2))
  else
  X12_ends_26 n kself v1 μ)
def X12_ends_100 (n : Nat) (kself : Int32 → Mu → Option (Int32 × Mu)) (v1 : Int32) (k42 : Int32 → Mu → Option (Int32 × Mu)) (v2 : Int32) (μ : Mu) : Option (Int32 × Mu) :=
  k42 (v2 + (1 : Int32)) μ
def X12_ends_42b (n : Nat) (kself : Int32 → Mu → Option (Int32 × Mu)) (v1 : Int32) (k42 : Int32 → Mu → Option (Int32 × Mu)) (v2 : Int32) (μ : Mu) : Option (Int32 × Mu) :=
  (X12_pitMany n μ).bind (fun r44 =>
  (if r44.1 ≤ v2 then
  some ((0 : Int32), r44.2)
  else
  (X12_whyNot n v2 r44.2).bind (fun r52 =>
  (if r52.1 = 0 then
  (X12_moves n v2 r52.2).bind (fun r63 =>
  (kself (v1 - (1 : Int32)) r63.2).bind (fun r71 =>
  (X12_gets n 195 v1 172 r71.2).bind (fun r84 =>
  gd v1 7 ((if r71.1 = 0 then
  X12_ends_100 n kself v1 k42 v2 (si r84.2 197 v1.toNatClampNeg v2)
  else
  some ((1 : Int32), (si r84.2 197 v1.toNatClampNeg v2)))))))
  else
  X12_ends_100 n kself v1 k42 v2 r52.2))))
def X12_ends_42 (n : Nat) (kself : Int32 → Mu → Option (Int32 × Mu)) (v1 : Int32) (v2 : Int32) (μ : Mu) : Option (Int32 × Mu) := lpF (fun _ _ => none) (X12_ends_42b n kself v1) n v2 μ
def X12_ends_body (n : Nat) (kself : Int32 → Mu → Option (Int32 × Mu)) (v1 : Int32) (μ : Mu) : Option (Int32 × Mu) :=
  (if v1 = 0 then
  X12_ends_11 n kself v1 μ
  else
  (X12_isOver n μ).bind (fun r5 =>
  (if r5.1 = 0 then
  (X12_puts n 195 v1 172 r5.2).bind (fun r37 =>
  X12_ends_42 n kself v1 (0 : Int32) r37.2)
  else
  X12_ends_11 n kself v1 r5.2)))
def X12_ends (n : Nat) (v1 : Int32) (μ : Mu) : Option (Int32 × Mu) := lpF (fun _ _ => none) (X12_ends_body n) 8 v1 μ
def X12_soonest_55 (n : Nat) (v1 : Int32) (s0 : Int32) (μ : Mu) : Option (Int32 × Mu) :=
  some (s0, μ)
def X12_soonest_7b (n : Nat) (v1 : Int32) (k7 : Int32 → Mu → Option (Int32 × Mu)) (v2 : Int32) (μ : Mu) : Option (Int32 × Mu) :=
  (if (6 : Int32) < v2 then
  some (((-1) : Int32), μ)
  else
  (X12_ends n v2 μ).bind (fun r15 =>
  (if r15.1 = 0 then
  k7 (v2 + (1 : Int32)) r15.2
  else
  (if v1 = ((-1) : Int32) then
  X12_soonest_55 n v1 v2 r15.2
  else
  (X12_within n (v1.toInt64) (0 : Int64) ((v2 - (1 : Int32)).toInt64) r15.2).bind (fun r37 =>
  (if r37.1 = 0 then
  X12_soonest_55 n v1 ((-1) : Int32) r37.2
  else
  gd (v2 - v1) 7 (X12_soonest_55 n v1 (r37.2.1 197 (v2 - v1).toNatClampNeg) r37.2)))))))
def X12_soonest_7 (n : Nat) (v1 : Int32) (v2 : Int32) (μ : Mu) : Option (Int32 × Mu) := lpF (fun _ _ => none) (X12_soonest_7b n v1) n v2 μ
def X12_soonest (n : Nat) (v1 : Int32) (μ : Mu) : Option (Int32 × Mu) :=
  X12_soonest_7 n v1 (0 : Int32) (si μ 171 5 (0 : Int32))
def X0_countRows_11 (n : Nat) (kself : Int32 → Int32 → Mu → Option (Int32 × Mu)) (v1 : Int32) (v2 : Int32) (μ : Mu) : Option (Int32 × Mu) :=
  some ((1 : Int32), μ)
def X0_countRows_81 (n : Nat) (kself : Int32 → Int32 → Mu → Option (Int32 × Mu)) (v1 : Int32) (v2 : Int32) (k45 : Int32 → Int32 → Int32 → Mu → Option (Int32 × Mu)) (v3 : Int32) (v4 : Int32) (v5 : Int32) (μ : Mu) : Option (Int32 × Mu) :=
  k45 v3 v4 (v5 + (1 : Int32)) μ
def X0_countRows_45b (n : Nat) (kself : Int32 → Int32 → Mu → Option (Int32 × Mu)) (v1 : Int32) (v2 : Int32) (k45 : Int32 → Int32 → Int32 → Mu → Option (Int32 × Mu)) (v3 : Int32) (v4 : Int32) (v5 : Int32) (μ : Mu) : Option (Int32 × Mu) :=
  (if (12 : Int32) ≤ v5 then
  some (v4, μ)
  else
  (X11_has n v3 v5 μ).bind (fun r55 =>
  (if r55.1 = 0 then
  X0_countRows_81 n kself v1 v2 k45 v3 v4 v5 r55.2
  else
  (X0_goDown n v1 v5 r55.2).bind (fun r65 =>
  (kself (v1 + (1 : Int32)) v2 r65.2).bind (fun r75 =>
  X0_countRows_81 n kself v1 v2 k45 v3 (v4 + r75.1) v5 r75.2)))))
def X0_countRows_45 (n : Nat) (kself : Int32 → Int32 → Mu → Option (Int32 × Mu)) (v1 : Int32) (v2 : Int32) (v3 : Int32) (v4 : Int32) (v5 : Int32) (μ : Mu) : Option (Int32 × Mu) := lpF (fun _ _ _ _ => none) (X0_countRows_45b n kself v1 v2) n v3 v4 v5 μ
def X0_countRows_body (n : Nat) (kself : Int32 → Int32 → Mu → Option (Int32 × Mu)) (v1 : Int32) (v2 : Int32) (μ : Mu) : Option (Int32 × Mu) :=
  (if v2 ≤ v1 then
  X0_countRows_11 n kself v1 v2 μ
  else
  (if v1 < (6 : Int32) then
  gd v1 7 ((X8_choices n (155 + 2 * v1.toNatClampNeg) μ).bind (fun r23 =>
  (if v1 = (v2 - (1 : Int32)) then
  (J6_bitCount_0f7a4 n r23.1 r23.2).bind (fun r35 =>
  some (r35.1, r35.2))
  else
  X0_countRows_45 n kself v1 v2 r23.1 (0 : Int32) (0 : Int32) r23.2)))
  else
  X0_countRows_11 n kself v1 v2 μ))
def X0_countRows (n : Nat) (v1 : Int32) (v2 : Int32) (μ : Mu) : Option (Int32 × Mu) := lpF (fun _ _ _ => none) (X0_countRows_body n) 8 v1 v2 μ
def X0_gather_11 (n : Nat) (kself : Int32 → Int32 → Mu → Option (Unit × Mu)) (v1 : Int32) (v2 : Int32) (μ : Mu) : Option (Unit × Mu) :=
  gd v1 7 ((X0_note n (155 + 2 * v1.toNatClampNeg) μ).bind (fun r18 =>
  some ((), r18.2)))
def X0_gather_70 (n : Nat) (kself : Int32 → Int32 → Mu → Option (Unit × Mu)) (v1 : Int32) (v2 : Int32) (k39 : Int32 → Int32 → Mu → Option (Unit × Mu)) (v3 : Int32) (v4 : Int32) (μ : Mu) : Option (Unit × Mu) :=
  k39 v3 (v4 + (1 : Int32)) μ
def X0_gather_39b (n : Nat) (kself : Int32 → Int32 → Mu → Option (Unit × Mu)) (v1 : Int32) (v2 : Int32) (k39 : Int32 → Int32 → Mu → Option (Unit × Mu)) (v3 : Int32) (v4 : Int32) (μ : Mu) : Option (Unit × Mu) :=
  (if (12 : Int32) ≤ v4 then
  some ((), μ)
  else
  (X11_has n v3 v4 μ).bind (fun r49 =>
  (if r49.1 = 0 then
  X0_gather_70 n kself v1 v2 k39 v3 v4 r49.2
  else
  (X0_goDown n v1 v4 r49.2).bind (fun r59 =>
  (kself (v1 + (1 : Int32)) v2 r59.2).bind (fun r67 =>
  X0_gather_70 n kself v1 v2 k39 v3 v4 r67.2)))))
def X0_gather_39 (n : Nat) (kself : Int32 → Int32 → Mu → Option (Unit × Mu)) (v1 : Int32) (v2 : Int32) (v3 : Int32) (v4 : Int32) (μ : Mu) : Option (Unit × Mu) := lpF (fun _ _ _ => none) (X0_gather_39b n kself v1 v2) n v3 v4 μ
def X0_gather_body (n : Nat) (kself : Int32 → Int32 → Mu → Option (Unit × Mu)) (v1 : Int32) (v2 : Int32) (μ : Mu) : Option (Unit × Mu) :=
  (if v2 ≤ v1 then
  X0_gather_11 n kself v1 v2 μ
  else
  (if v1 < (6 : Int32) then
  gd v1 7 ((X8_choices n (155 + 2 * v1.toNatClampNeg) μ).bind (fun r32 =>
  X0_gather_39 n kself v1 v2 r32.1 (0 : Int32) r32.2))
  else
  X0_gather_11 n kself v1 v2 μ))
def X0_gather (n : Nat) (v1 : Int32) (v2 : Int32) (μ : Mu) : Option (Unit × Mu) := lpF (fun _ _ _ => none) (X0_gather_body n) 8 v1 v2 μ
def X0_endsWithin_11 (n : Nat) (kself : Int32 → Int32 → Mu → Option (Int32 × Mu)) (v1 : Int32) (v2 : Int32) (μ : Mu) : Option (Int32 × Mu) :=
  gd v1 7 ((X8_isOver n (155 + 2 * v1.toNatClampNeg) μ).bind (fun r21 =>
  bz r21.1 (some (r21.1, r21.2))))
def X0_endsWithin_86 (n : Nat) (kself : Int32 → Int32 → Mu → Option (Int32 × Mu)) (v1 : Int32) (v2 : Int32) (k42 : Int32 → Int32 → Mu → Option (Int32 × Mu)) (v3 : Int32) (v4 : Int32) (μ : Mu) : Option (Int32 × Mu) :=
  k42 v3 (v4 + (1 : Int32)) μ
def X0_endsWithin_42b (n : Nat) (kself : Int32 → Int32 → Mu → Option (Int32 × Mu)) (v1 : Int32) (v2 : Int32) (k42 : Int32 → Int32 → Mu → Option (Int32 × Mu)) (v3 : Int32) (v4 : Int32) (μ : Mu) : Option (Int32 × Mu) :=
  (if (12 : Int32) ≤ v4 then
  some ((0 : Int32), μ)
  else
  (X11_has n v3 v4 μ).bind (fun r52 =>
  (if r52.1 = 0 then
  X0_endsWithin_86 n kself v1 v2 k42 v3 v4 r52.2
  else
  gd v1 6 ((X0_goDown n v1 v4 (si r52.2 26 v1.toNatClampNeg v4)).bind (fun r70 =>
  (kself (v1 + (1 : Int32)) v2 r70.2).bind (fun r78 =>
  (if r78.1 = 0 then
  X0_endsWithin_86 n kself v1 v2 k42 v3 v4 r78.2
  else
  some ((1 : Int32), r78.2))))))))
def X0_endsWithin_42 (n : Nat) (kself : Int32 → Int32 → Mu → Option (Int32 × Mu)) (v1 : Int32) (v2 : Int32) (v3 : Int32) (v4 : Int32) (μ : Mu) : Option (Int32 × Mu) := lpF (fun _ _ _ => none) (X0_endsWithin_42b n kself v1 v2) n v3 v4 μ
def X0_endsWithin_body (n : Nat) (kself : Int32 → Int32 → Mu → Option (Int32 × Mu)) (v1 : Int32) (v2 : Int32) (μ : Mu) : Option (Int32 × Mu) :=
  (if v2 ≤ v1 then
  X0_endsWithin_11 n kself v1 v2 μ
  else
  (if v1 < (6 : Int32) then
  gd v1 7 ((X8_choices n (155 + 2 * v1.toNatClampNeg) μ).bind (fun r35 =>
  X0_endsWithin_42 n kself v1 v2 r35.1 (0 : Int32) r35.2))
  else
  X0_endsWithin_11 n kself v1 v2 μ))
def X0_endsWithin (n : Nat) (v1 : Int32) (v2 : Int32) (μ : Mu) : Option (Int32 × Mu) := lpF (fun _ _ _ => none) (X0_endsWithin_body n) 8 v1 v2 μ
def X0_countFrom (n : Nat) (v1 : Nat) (v2 : Int32) (μ : Mu) : Option (Int32 × Mu) :=
  kd v1 6 ((X6_copy n 155 v1 μ).bind (fun r7 =>
  (X0_countRows n (0 : Int32) v2 r7.2).bind (fun r13 =>
  some (r13.1, r13.2))))
def X0_countUnlike_17b (n : Nat) (v1 : Nat) (v2 : Int32) (k17 : Int32 → Mu → Option (Int32 × Mu)) (v3 : Int32) (μ : Mu) : Option (Int32 × Mu) :=
  (if (4096 : Int32) ≤ v3 then
  (X0_gather n (0 : Int32) v2 μ).bind (fun r40 =>
  some ((r40.2.1 25 11), r40.2))
  else
  gd v3 4096 (k17 (v3 + (1 : Int32)) (si μ 30 v3.toNatClampNeg (0 : Int32))))
def X0_countUnlike_17 (n : Nat) (v1 : Nat) (v2 : Int32) (v3 : Int32) (μ : Mu) : Option (Int32 × Mu) := lpF (fun _ _ => none) (X0_countUnlike_17b n v1 v2) n v3 μ
def X0_countUnlike (n : Nat) (v1 : Nat) (v2 : Int32) (μ : Mu) : Option (Int32 × Mu) :=
  kd v1 6 ((X6_copy n 155 v1 μ).bind (fun r7 =>
  X0_countUnlike_17 n v1 v2 (0 : Int32) (si r7.2 25 11 (0 : Int32))))
def X0_seekEnd_106 (n : Nat) (v1 : Nat) (k78 : Int32 → Mu → Option (Int32 × Mu)) (v2 : Int32) (μ : Mu) : Option (Int32 × Mu) :=
  k78 (v2 + (1 : Int32)) μ
def X0_seekEnd_112 (n : Nat) (v1 : Nat) (μ : Mu) : Option (Int32 × Mu) :=
  some ((μ.1 25 6), μ)
def X0_seekEnd_78b (n : Nat) (v1 : Nat) (k78 : Int32 → Mu → Option (Int32 × Mu)) (v2 : Int32) (μ : Mu) : Option (Int32 × Mu) :=
  (if (6 : Int32) < v2 then
  X0_seekEnd_112 n v1 μ
  else
  (if (μ.1 25 6) = ((-1) : Int32) then
  (X0_endsWithin n (0 : Int32) v2 μ).bind (fun r95 =>
  (if r95.1 = 0 then
  X0_seekEnd_106 n v1 k78 v2 r95.2
  else
  X0_seekEnd_106 n v1 k78 v2 (si r95.2 25 6 v2)))
  else
  X0_seekEnd_112 n v1 μ))
def X0_seekEnd_78 (n : Nat) (v1 : Nat) (v2 : Int32) (μ : Mu) : Option (Int32 × Mu) := lpF (fun _ _ => none) (X0_seekEnd_78b n v1) n v2 μ
def X0_seekEnd_37 (n : Nat) (v1 : Nat) (μ : Mu) : Option (Int32 × Mu) :=
  (X5_key n 1 (si μ 25 7 (1 : Int32))).bind (fun r47 =>
  (X6_copy n 169 v1 (si r47.2 25 5 r47.1)).bind (fun r58 =>
  (X6_copy n 155 v1 r58.2).bind (fun r68 =>
  X0_seekEnd_78 n v1 (0 : Int32) (si r68.2 25 6 ((-1) : Int32)))))
def X0_seekEnd (n : Nat) (v1 : Nat) (μ : Mu) : Option (Int32 × Mu) :=
  kd v1 6 ((if (μ.1 25 7) = 0 then
  X0_seekEnd_37 n v1 μ
  else
  (X5_key n 1 μ).bind (fun r15 =>
  (if (μ.1 25 5) = r15.1 then
  (X6_isLike n 169 v1 r15.2).bind (fun r26 =>
  (if r26.1 = 0 then
  X0_seekEnd_37 n v1 r26.2
  else
  some ((r26.2.1 25 6), r26.2)))
  else
  X0_seekEnd_37 n v1 r15.2))))
def X11_soonest_41 (n : Nat) (v1 : Int32) (s0 : Int32) (μ : Mu) : Option (Int32 × Mu) :=
  some (s0, μ)
def X11_soonest_40 (n : Nat) (v1 : Int32) (μ : Mu) : Option (Int32 × Mu) :=
  X11_soonest_41 n v1 ((-1) : Int32) μ
def X11_soonest (n : Nat) (v1 : Int32) (μ : Mu) : Option (Int32 × Mu) :=
  (X0_seekEnd n 53 μ).bind (fun r8 =>
  (if v1 = ((-1) : Int32) then
  some (r8.1, r8.2)
  else
  (if v1 < 0 then
  X11_soonest_40 n v1 r8.2
  else
  (if r8.1 ≤ v1 then
  X11_soonest_40 n v1 r8.2
  else
  gd v1 6 (X11_soonest_41 n v1 (r8.2.1 26 v1.toNatClampNeg) r8.2)))))
