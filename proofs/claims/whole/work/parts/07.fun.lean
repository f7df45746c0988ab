def X0_packed_5b (n : Nat) (v0 : Nat) (v1 : Int32) (v2 : Int32) (k5 : Int64 → Int32 → Mu → Option (Int64 × Mu)) (v3 : Int64) (v5 : Int32) (μ : Mu) : Option (Int64 × Mu) :=
  (if v2 ≤ v5 then
  some (v3, μ)
  else
  gd v5 (oN v0) (k5 ((v3 <<< ((8 : Int32).toInt64 &&& 63)) ||| ((μ.1 v0 v5.toNatClampNeg).toInt64)) (v5 + (1 : Int32)) μ))
def X0_packed_5 (n : Nat) (v0 : Nat) (v1 : Int32) (v2 : Int32) (v3 : Int64) (v5 : Int32) (μ : Mu) : Option (Int64 × Mu) := lpF (fun _ _ _ => none) (X0_packed_5b n v0 v1 v2) n v3 v5 μ
def X0_packed (n : Nat) (v0 : Nat) (v1 : Int32) (v2 : Int32) (μ : Mu) : Option (Int64 × Mu) :=
  kd v0 20 (X0_packed_5 n v0 v1 v2 (0 : Int64) v1 μ)
def X1_countWays_58 (n : Nat) (k9 : Int32 → Mu → Option (Unit × Mu)) (k17 : Int32 → Int32 → Mu → Option (Unit × Mu)) (v1 : Int32) (v2 : Int32) (v3 : Int32) (s0 : Int32) (μ : Mu) : Option (Unit × Mu) :=
  gd ((v1 * (41 : Int32)) + v2) 574 (k17 v1 (v2 + (1 : Int32)) (si μ 5 ((v1 * (41 : Int32)) + v2).toNatClampNeg (if (v3 + s0) < (6001 : Int32) then (v3 + s0) else (6001 : Int32))))
def X1_countWays_17b (n : Nat) (k9 : Int32 → Mu → Option (Unit × Mu)) (k17 : Int32 → Int32 → Mu → Option (Unit × Mu)) (v1 : Int32) (v2 : Int32) (μ : Mu) : Option (Unit × Mu) :=
  (if (40 : Int32) < v2 then
  k9 (v1 + (1 : Int32)) μ
  else
  gd (((v1 - (1 : Int32)) * (41 : Int32)) + v2) 574 ((if v2 = 0 then
  X1_countWays_58 n k9 k17 v1 v2 (μ.1 5 (((v1 - (1 : Int32)) * (41 : Int32)) + v2).toNatClampNeg) (0 : Int32) μ
  else
  gd (((v1 * (41 : Int32)) + v2) - (1 : Int32)) 574 (X1_countWays_58 n k9 k17 v1 v2 (μ.1 5 (((v1 - (1 : Int32)) * (41 : Int32)) + v2).toNatClampNeg) (μ.1 5 (((v1 * (41 : Int32)) + v2) - (1 : Int32)).toNatClampNeg) μ))))
def X1_countWays_17 (n : Nat) (k9 : Int32 → Mu → Option (Unit × Mu)) (v1 : Int32) (v2 : Int32) (μ : Mu) : Option (Unit × Mu) := lpF (fun _ _ _ => none) (X1_countWays_17b n k9) n v1 v2 μ
def X1_countWays_9b (n : Nat) (k9 : Int32 → Mu → Option (Unit × Mu)) (v1 : Int32) (μ : Mu) : Option (Unit × Mu) :=
  (if (14 : Int32) ≤ v1 then
  some ((), μ)
  else
  X1_countWays_17 n k9 v1 (0 : Int32) μ)
def X1_countWays_9 (n : Nat) (v1 : Int32) (μ : Mu) : Option (Unit × Mu) := lpF (fun _ _ => none) (X1_countWays_9b n) n v1 μ
def X1_countWays (n : Nat) (μ : Mu) : Option (Unit × Mu) :=
  X1_countWays_9 n (1 : Int32) (si μ 5 0 (1 : Int32))
def X1_pitAsSeen_40 (n : Nat) (v1 : Int32) (v2 : Int32) (s0 : Int32) (μ : Mu) : Option (Int32 × Mu) :=
  some (s0, μ)
def X1_pitAsSeen (n : Nat) (v1 : Int32) (v2 : Int32) (μ : Mu) : Option (Int32 × Mu) :=
  (if ((2 : Int32) * (μ.1 1 1)) ≤ ((v1 * (μ.1 1 1)) + v2) then
  X1_pitAsSeen_40 n v1 v2 (((v1 * (μ.1 1 1)) + v2) - ((2 : Int32) * (μ.1 1 1))) μ
  else
  X1_pitAsSeen_40 n v1 v2 ((v1 * (μ.1 1 1)) + v2) μ)
def X1_positionsOf (n : Nat) (v1 : Int32) (μ : Mu) : Option (Int32 × Mu) :=
  gd (((μ.1 2 1) * (41 : Int32)) + v1) 574 (some ((μ.1 5 (((μ.1 2 1) * (41 : Int32)) + v1).toNatClampNeg), μ))
def X1_positionsUpTo_24 (n : Nat) (v1 : Int32) (s0 : Int32) (μ : Mu) : Option (Int32 × Mu) :=
  some (s0, μ)
def X1_positionsUpTo (n : Nat) (v1 : Int32) (μ : Mu) : Option (Int32 × Mu) :=
  (if 0 ≤ v1 then
  gd ((((μ.1 2 1) + (1 : Int32)) * (41 : Int32)) + v1) 574 (X1_positionsUpTo_24 n v1 (μ.1 5 ((((μ.1 2 1) + (1 : Int32)) * (41 : Int32)) + v1).toNatClampNeg) μ)
  else
  X1_positionsUpTo_24 n v1 (0 : Int32) μ)
def X1_numberOf_80 (n : Nat) (v1 : Nat) (v2 : Int32) (k17 : Int32 → Int32 → Int32 → Int32 → Mu → Option (Int32 × Mu)) (v3 : Int32) (v4 : Int32) (v5 : Int32) (v6 : Int32) (μ : Mu) : Option (Int32 × Mu) :=
  k17 v3 v4 v5 (v6 + (1 : Int32)) μ
def X1_numberOf_86 (n : Nat) (v1 : Nat) (v2 : Int32) (v5 : Int32) (μ : Mu) : Option (Int32 × Mu) :=
  some (v5, μ)
def X1_numberOf_17b (n : Nat) (v1 : Nat) (v2 : Int32) (k17 : Int32 → Int32 → Int32 → Int32 → Mu → Option (Int32 × Mu)) (v3 : Int32) (v4 : Int32) (v5 : Int32) (v6 : Int32) (μ : Mu) : Option (Int32 × Mu) :=
  (if (μ.1 2 1) ≤ v6 then
  X1_numberOf_86 n v1 v2 v5 μ
  else
  (if v4 ≤ 0 then
  X1_numberOf_86 n v1 v2 v5 μ
  else
  gd (v3 + v6) 24 (gd (μ.1 4 (v3 + v6).toNatClampNeg) 14 ((if (v4 - (μ.1 (v1 + 1) (μ.1 4 (v3 + v6).toNatClampNeg).toNatClampNeg)) ≤ 0 then
  X1_numberOf_80 n v1 v2 k17 v3 (v4 - (μ.1 (v1 + 1) (μ.1 4 (v3 + v6).toNatClampNeg).toNatClampNeg)) v5 v6 μ
  else
  gd (((((μ.1 2 1) - v6) * (41 : Int32)) + (v4 - (μ.1 (v1 + 1) (μ.1 4 (v3 + v6).toNatClampNeg).toNatClampNeg))) - (1 : Int32)) 574 (X1_numberOf_80 n v1 v2 k17 v3 (v4 - (μ.1 (v1 + 1) (μ.1 4 (v3 + v6).toNatClampNeg).toNatClampNeg)) (v5 + (μ.1 5 (((((μ.1 2 1) - v6) * (41 : Int32)) + (v4 - (μ.1 (v1 + 1) (μ.1 4 (v3 + v6).toNatClampNeg).toNatClampNeg))) - (1 : Int32)).toNatClampNeg)) v6 μ))))))
def X1_numberOf_17 (n : Nat) (v1 : Nat) (v2 : Int32) (v3 : Int32) (v4 : Int32) (v5 : Int32) (v6 : Int32) (μ : Mu) : Option (Int32 × Mu) := lpF (fun _ _ _ _ _ => none) (X1_numberOf_17b n v1 v2) n v3 v4 v5 v6 μ
def X1_numberOf (n : Nat) (v1 : Nat) (v2 : Int32) (μ : Mu) : Option (Int32 × Mu) :=
  kd v1 6 (X1_numberOf_17 n v1 v2 ((μ.1 v1 1) * (12 : Int32)) v2 (0 : Int32) (0 : Int32) μ)
def X3_forget (n : Nat) (μ : Mu) : Option (Unit × Mu) :=
  some ((), (si (si μ 9 0 (0 : Int32)) 9 1 (0 : Int32)))
def X3_slot_21 (n : Nat) (v1 : Int32) (s0 : Int32) (μ : Mu) : Option (Int32 × Mu) :=
  some (s0, μ)
def X3_slot (n : Nat) (v1 : Int32) (μ : Mu) : Option (Int32 × Mu) :=
  (if (40 : Int32) ≤ ((μ.1 9 2) + v1) then
  X3_slot_21 n v1 (((μ.1 9 2) + v1) - (40 : Int32)) μ
  else
  X3_slot_21 n v1 ((μ.1 9 2) + v1) μ)
def X3_moveAt (n : Nat) (v1 : Int32) (μ : Mu) : Option (Int32 × Mu) :=
  (X3_slot n v1 μ).bind (fun r6 =>
  gd r6.1 40 (some ((r6.2.1 10 r6.1.toNatClampNeg), r6.2)))
def X3_again (n : Nat) (μ : Mu) : Option (Int32 × Mu) :=
  (X3_slot n (((si (si μ 9 0 ((μ.1 9 0) + (1 : Int32))) 9 1 (((si μ 9 0 ((μ.1 9 0) + (1 : Int32))).1 9 1) - (1 : Int32))).1 9 0) - (1 : Int32)) (si (si μ 9 0 ((μ.1 9 0) + (1 : Int32))) 9 1 (((si μ 9 0 ((μ.1 9 0) + (1 : Int32))).1 9 1) - (1 : Int32)))).bind (fun r31 =>
  gd r31.1 40 (some ((r31.2.1 10 r31.1.toNatClampNeg), r31.2)))
def X4_append_49 (n : Nat) (v1 : Int32) (μ : Mu) : Option (Unit × Mu) :=
  some ((), μ)
def X4_append_3b (n : Nat) (v1 : Int32) (k3 : Int32 → Mu → Option (Unit × Mu)) (v2 : Int32) (μ : Mu) : Option (Unit × Mu) :=
  (if v2 < 0 then
  X4_append_49 n v1 μ
  else
  (if (500 : Int32) ≤ (μ.1 12 4) then
  X4_append_49 n v1 μ
  else
  gd (μ.1 12 4) 500 (k3 (v2 + ((-8) : Int32)) (si (si μ 14 (μ.1 12 4).toNatClampNeg (((v1.toUInt32 >>> (v2.toUInt32 &&& Int32.toUInt32 31)).toInt32) &&& (255 : Int32))) 12 4 (((si μ 14 (μ.1 12 4).toNatClampNeg (((v1.toUInt32 >>> (v2.toUInt32 &&& Int32.toUInt32 31)).toInt32) &&& (255 : Int32))).1 12 4) + (1 : Int32))))))
def X4_append_3 (n : Nat) (v1 : Int32) (v2 : Int32) (μ : Mu) : Option (Unit × Mu) := lpF (fun _ _ => none) (X4_append_3b n v1) n v2 μ
def X4_append (n : Nat) (v1 : Int32) (μ : Mu) : Option (Unit × Mu) :=
  X4_append_3 n v1 (24 : Int32) μ
def X4_refuse_20 (n : Nat) (v1 : Int32) (μ : Mu) : Option (Unit × Mu) :=
  some ((), μ)
def X4_refuse (n : Nat) (v1 : Int32) (μ : Mu) : Option (Unit × Mu) :=
  (if (μ.1 12 2) = 0 then
  X4_refuse_20 n v1 (si (si μ 12 2 v1) 12 3 ((si μ 12 2 v1).1 12 8))
  else
  X4_refuse_20 n v1 μ)
def X4_checkedNumber_31 (n : Nat) (v1 : Int32) (v2 : Int32) (μ : Mu) : Option (Int32 × Mu) :=
  (X4_refuse n (3 : Int32) μ).bind (fun r33 =>
  some (v1, r33.2))
def X4_checkedNumber (n : Nat) (v1 : Int32) (v2 : Int32) (μ : Mu) : Option (Int32 × Mu) :=
  (if (μ.1 12 7) = (2 : Int32) then
  (if (μ.1 12 10) < v1 then
  X4_checkedNumber_31 n v1 v2 μ
  else
  (if (μ.1 12 10) ≤ v2 then
  some ((μ.1 12 10), μ)
  else
  X4_checkedNumber_31 n v1 v2 μ))
  else
  (X4_refuse n (2 : Int32) μ).bind (fun r10 =>
  some (v1, r10.2)))
def X4_isDigit_27 (n : Nat) (v1 : Int32) (s0 : Int32) (μ : Mu) : Option (Int32 × Mu) :=
  bz s0 (some (s0, μ))
def X4_isDigit_26 (n : Nat) (v1 : Int32) (μ : Mu) : Option (Int32 × Mu) :=
  X4_isDigit_27 n v1 (0 : Int32) μ
def X4_isDigit (n : Nat) (v1 : Int32) (μ : Mu) : Option (Int32 × Mu) :=
  gd v1 500 ((if (μ.1 14 v1.toNatClampNeg) < (48 : Int32) then
  X4_isDigit_26 n v1 μ
  else
  (if (57 : Int32) < (μ.1 14 v1.toNatClampNeg) then
  X4_isDigit_26 n v1 μ
  else
  X4_isDigit_27 n v1 (1 : Int32) μ)))
def X4_isLetter_27 (n : Nat) (v1 : Int32) (s0 : Int32) (μ : Mu) : Option (Int32 × Mu) :=
  bz s0 (some (s0, μ))
def X4_isLetter_26 (n : Nat) (v1 : Int32) (μ : Mu) : Option (Int32 × Mu) :=
  X4_isLetter_27 n v1 (0 : Int32) μ
def X4_isLetter (n : Nat) (v1 : Int32) (μ : Mu) : Option (Int32 × Mu) :=
  gd v1 500 ((if (μ.1 14 v1.toNatClampNeg) < (97 : Int32) then
  X4_isLetter_26 n v1 μ
  else
  (if (122 : Int32) < (μ.1 14 v1.toNatClampNeg) then
  X4_isLetter_26 n v1 μ
  else
  X4_isLetter_27 n v1 (1 : Int32) μ)))
def X5_clear (n : Nat) (v0 : Nat) (μ : Mu) : Option (Unit × Mu) :=
  kd v0 5 (some ((), (si (si (si (si (si (si (si (si (si μ v0 0 (0 : Int32)) v0 1 (3 : Int32)) v0 2 (0 : Int32)) v0 3 (0 : Int32)) v0 4 (0 : Int32)) v0 5 (0 : Int32)) v0 6 (0 : Int32)) v0 7 (0 : Int32)) v0 8 (0 : Int32))))
def X5_copy (n : Nat) (v0 : Nat) (v1 : Nat) (μ : Mu) : Option (Unit × Mu) :=
  kd v0 5 (kd v1 5 (bz ((si (si (si (si (si μ v0 0 (μ.1 v1 0)) v0 1 ((si μ v0 0 (μ.1 v1 0)).1 v1 1)) v0 2 ((si (si μ v0 0 (μ.1 v1 0)) v0 1 ((si μ v0 0 (μ.1 v1 0)).1 v1 1)).1 v1 2)) v0 3 ((si (si (si μ v0 0 (μ.1 v1 0)) v0 1 ((si μ v0 0 (μ.1 v1 0)).1 v1 1)) v0 2 ((si (si μ v0 0 (μ.1 v1 0)) v0 1 ((si μ v0 0 (μ.1 v1 0)).1 v1 1)).1 v1 2)).1 v1 3)) v0 4 ((si (si (si (si μ v0 0 (μ.1 v1 0)) v0 1 ((si μ v0 0 (μ.1 v1 0)).1 v1 1)) v0 2 ((si (si μ v0 0 (μ.1 v1 0)) v0 1 ((si μ v0 0 (μ.1 v1 0)).1 v1 1)).1 v1 2)) v0 3 ((si (si (si μ v0 0 (μ.1 v1 0)) v0 1 ((si μ v0 0 (μ.1 v1 0)).1 v1 1)) v0 2 ((si (si μ v0 0 (μ.1 v1 0)) v0 1 ((si μ v0 0 (μ.1 v1 0)).1 v1 1)).1 v1 2)).1 v1 3)).1 v1 4)).1 v1 5) (bz ((si (si (si (si (si (si μ v0 0 (μ.1 v1 0)) v0 1 ((si μ v0 0 (μ.1 v1 0)).1 v1 1)) v0 2 ((si (si μ v0 0 (μ.1 v1 0)) v0 1 ((si μ v0 0 (μ.1 v1 0)).1 v1 1)).1 v1 2)) v0 3 ((si (si (si μ v0 0 (μ.1 v1 0)) v0 1 ((si μ v0 0 (μ.1 v1 0)).1 v1 1)) v0 2 ((si (si μ v0 0 (μ.1 v1 0)) v0 1 ((si μ v0 0 (μ.1 v1 0)).1 v1 1)).1 v1 2)).1 v1 3)) v0 4 ((si (si (si (si μ v0 0 (μ.1 v1 0)) v0 1 ((si μ v0 0 (μ.1 v1 0)).1 v1 1)) v0 2 ((si (si μ v0 0 (μ.1 v1 0)) v0 1 ((si μ v0 0 (μ.1 v1 0)).1 v1 1)).1 v1 2)) v0 3 ((si (si (si μ v0 0 (μ.1 v1 0)) v0 1 ((si μ v0 0 (μ.1 v1 0)).1 v1 1)) v0 2 ((si (si μ v0 0 (μ.1 v1 0)) v0 1 ((si μ v0 0 (μ.1 v1 0)).1 v1 1)).1 v1 2)).1 v1 3)).1 v1 4)) v0 5 ((si (si (si (si (si μ v0 0 (μ.1 v1 0)) v0 1 ((si μ v0 0 (μ.1 v1 0)).1 v1 1)) v0 2 ((si (si μ v0 0 (μ.1 v1 0)) v0 1 ((si μ v0 0 (μ.1 v1 0)).1 v1 1)).1 v1 2)) v0 3 ((si (si (si μ v0 0 (μ.1 v1 0)) v0 1 ((si μ v0 0 (μ.1 v1 0)).1 v1 1)) v0 2 ((si (si μ v0 0 (μ.1 v1 0)) v0 1 ((si μ v0 0 (μ.1 v1 0)).1 v1 1)).1 v1 2)).1 v1 3)) v0 4 ((si (si (si (si μ v0 0 (μ.1 v1 0)) v0 1 ((si μ v0 0 (μ.1 v1 0)).1 v1 1)) v0 2 ((si (si μ v0 0 (μ.1 v1 0)) v0 1 ((si μ v0 0 (μ.1 v1 0)).1 v1 1)).1 v1 2)) v0 3 ((si (si (si μ v0 0 (μ.1 v1 0)) v0 1 ((si μ v0 0 (μ.1 v1 0)).1 v1 1)) v0 2 ((si (si μ v0 0 (μ.1 v1 0)) v0 1 ((si μ v0 0 (μ.1 v1 0)).1 v1 1)).1 v1 2)).1 v1 3)).1 v1 4)).1 v1 5)).1 v1 6) (bz ((si (si (si (si (si (si (si μ v0 0 (μ.1 v1 0)) v0 1 ((si μ v0 0 (μ.1 v1 0)).1 v1 1)) v0 2 ((si (si μ v0 0 (μ.1 v1 0)) v0 1 ((si μ v0 0 (μ.1 v1 0)).1 v1 1)).1 v1 2)) v0 3 ((si (si (si μ v0 0 (μ.1 v1 0)) v0 1 ((si μ v0 0 (μ.1 v1 0)).1 v1 1)) v0 2 ((si (si μ v0 0 (μ.1 v1 0)) v0 1 ((si μ v0 0 (μ.1 v1 0)).1 v1 1)).1 v1 2)).1 v1 3)) v0 4 ((si (si (si (si μ v0 0 (μ.1 v1 0)) v0 1 ((si μ v0 0 (μ.1 v1 0)).1 v1 1)) v0 2 ((si (si μ v0 0 (μ.1 v1 0)) v0 1 ((si μ v0 0 (μ.1 v1 0)).1 v1 1)).1 v1 2)) v0 3 ((si (si (si μ v0 0 (μ.1 v1 0)) v0 1 ((si μ v0 0 (μ.1 v1 0)).1 v1 1)) v0 2 ((si (si μ v0 0 (μ.1 v1 0)) v0 1 ((si μ v0 0 (μ.1 v1 0)).1 v1 1)).1 v1 2)).1 v1 3)).1 v1 4)) v0 5 ((si (si (si (si (si μ v0 0 (μ.1 v1 0)) v0 1 ((si μ v0 0 (μ.1 v1 0)).1 v1 1)) v0 2 ((si (si μ v0 0 (μ.1 v1 0)) v0 1 ((si μ v0 0 (μ.1 v1 0)).1 v1 1)).1 v1 2)) v0 3 ((si (si (si μ v0 0 (μ.1 v1 0)) v0 1 ((si μ v0 0 (μ.1 v1 0)).1 v1 1)) v0 2 ((si (si μ v0 0 (μ.1 v1 0)) v0 1 ((si μ v0 0 (μ.1 v1 0)).1 v1 1)).1 v1 2)).1 v1 3)) v0 4 ((si (si (si (si μ v0 0 (μ.1 v1 0)) v0 1 ((si μ v0 0 (μ.1 v1 0)).1 v1 1)) v0 2 ((si (si μ v0 0 (μ.1 v1 0)) v0 1 ((si μ v0 0 (μ.1 v1 0)).1 v1 1)).1 v1 2)) v0 3 ((si (si (si μ v0 0 (μ.1 v1 0)) v0 1 ((si μ v0 0 (μ.1 v1 0)).1 v1 1)) v0 2 ((si (si μ v0 0 (μ.1 v1 0)) v0 1 ((si μ v0 0 (μ.1 v1 0)).1 v1 1)).1 v1 2)).1 v1 3)).1 v1 4)).1 v1 5)) v0 6 ((si (si (si (si (si (si μ v0 0 (μ.1 v1 0)) v0 1 ((si μ v0 0 (μ.1 v1 0)).1 v1 1)) v0 2 ((si (si μ v0 0 (μ.1 v1 0)) v0 1 ((si μ v0 0 (μ.1 v1 0)).1 v1 1)).1 v1 2)) v0 3 ((si (si (si μ v0 0 (μ.1 v1 0)) v0 1 ((si μ v0 0 (μ.1 v1 0)).1 v1 1)) v0 2 ((si (si μ v0 0 (μ.1 v1 0)) v0 1 ((si μ v0 0 (μ.1 v1 0)).1 v1 1)).1 v1 2)).1 v1 3)) v0 4 ((si (si (si (si μ v0 0 (μ.1 v1 0)) v0 1 ((si μ v0 0 (μ.1 v1 0)).1 v1 1)) v0 2 ((si (si μ v0 0 (μ.1 v1 0)) v0 1 ((si μ v0 0 (μ.1 v1 0)).1 v1 1)).1 v1 2)) v0 3 ((si (si (si μ v0 0 (μ.1 v1 0)) v0 1 ((si μ v0 0 (μ.1 v1 0)).1 v1 1)) v0 2 ((si (si μ v0 0 (μ.1 v1 0)) v0 1 ((si μ v0 0 (μ.1 v1 0)).1 v1 1)).1 v1 2)).1 v1 3)).1 v1 4)) v0 5 ((si (si (si (si (si μ v0 0 (μ.1 v1 0)) v0 1 ((si μ v0 0 (μ.1 v1 0)).1 v1 1)) v0 2 ((si (si μ v0 0 (μ.1 v1 0)) v0 1 ((si μ v0 0 (μ.1 v1 0)).1 v1 1)).1 v1 2)) v0 3 ((si (si (si μ v0 0 (μ.1 v1 0)) v0 1 ((si μ v0 0 (μ.1 v1 0)).1 v1 1)) v0 2 ((si (si μ v0 0 (μ.1 v1 0)) v0 1 ((si μ v0 0 (μ.1 v1 0)).1 v1 1)).1 v1 2)).1 v1 3)) v0 4 ((si (si (si (si μ v0 0 (μ.1 v1 0)) v0 1 ((si μ v0 0 (μ.1 v1 0)).1 v1 1)) v0 2 ((si (si μ v0 0 (μ.1 v1 0)) v0 1 ((si μ v0 0 (μ.1 v1 0)).1 v1 1)).1 v1 2)) v0 3 ((si (si (si μ v0 0 (μ.1 v1 0)) v0 1 ((si μ v0 0 (μ.1 v1 0)).1 v1 1)) v0 2 ((si (si μ v0 0 (μ.1 v1 0)) v0 1 ((si μ v0 0 (μ.1 v1 0)).1 v1 1)).1 v1 2)).1 v1 3)).1 v1 4)).1 v1 5)).1 v1 6)).1 v1 7) (bz ((si (si (si (si (si (si (si (si μ v0 0 (μ.1 v1 0)) v0 1 ((si μ v0 0 (μ.1 v1 0)).1 v1 1)) v0 2 ((si (si μ v0 0 (μ.1 v1 0)) v0 1 ((si μ v0 0 (μ.1 v1 0)).1 v1 1)).1 v1 2)) v0 3 ((si (si (si μ v0 0 (μ.1 v1 0)) v0 1 ((si μ v0 0 (μ.1 v1 0)).1 v1 1)) v0 2 ((si (si μ v0 0 (μ.1 v1 0)) v0 1 ((si μ v0 0 (μ.1 v1 0)).1 v1 1)).1 v1 2)).1 v1 3)) v0 4 ((si (si (si (si μ v0 0 (μ.1 v1 0)) v0 1 ((si μ v0 0 (μ.1 v1 0)).1 v1 1)) v0 2 ((si (si μ v0 0 (μ.1 v1 0)) v0 1 ((si μ v0 0 (μ.1 v1 0)).1 v1 1)).1 v1 2)) v0 3 ((si (si (si μ v0 0 (μ.1 v1 0)) v0 1 ((si μ v0 0 (μ.1 v1 0)).1 v1 1)) v0 2 ((si (si μ v0 0 (μ.1 v1 0)) v0 1 ((si μ v0 0 (μ.1 v1 0)).1 v1 1)).1 v1 2)).1 v1 3)).1 v1 4)) v0 5 ((si (si (si (si (si μ v0 0 (μ.1 v1 0)) v0 1 ((si μ v0 0 (μ.1 v1 0)).1 v1 1)) v0 2 ((si (si μ v0 0 (μ.1 v1 0)) v0 1 ((si μ v0 0 (μ.1 v1 0)).1 v1 1)).1 v1 2)) v0 3 ((si (si (si μ v0 0 (μ.1 v1 0)) v0 1 ((si μ v0 0 (μ.1 v1 0)).1 v1 1)) v0 2 ((si (si μ v0 0 (μ.1 v1 0)) v0 1 ((si μ v0 0 (μ.1 v1 0)).1 v1 1)).1 v1 2)).1 v1 3)) v0 4 ((si (si (si (si μ v0 0 (μ.1 v1 0)) v0 1 ((si μ v0 0 (μ.1 v1 0)).1 v1 1)) v0 2 ((si (si μ v0 0 (μ.1 v1 0)) v0 1 ((si μ v0 0 (μ.1 v1 0)).1 v1 1)).1 v1 2)) v0 3 ((si (si (si μ v0 0 (μ.1 v1 0)) v0 1 ((si μ v0 0 (μ.1 v1 0)).1 v1 1)) v0 2 ((si (si μ v0 0 (μ.1 v1 0)) v0 1 ((si μ v0 0 (μ.1 v1 0)).1 v1 1)).1 v1 2)).1 v1 3)).1 v1 4)).1 v1 5)) v0 6 ((si (si (si (si (si (si μ v0 0 (μ.1 v1 0)) v0 1 ((si μ v0 0 (μ.1 v1 0)).1 v1 1)) v0 2 ((si (si μ v0 0 (μ.1 v1 0)) v0 1 ((si μ v0 0 (μ.1 v1 0)).1 v1 1)).1 v1 2)) v0 3 ((si (si (si μ v0 0 (μ.1 v1 0)) v0 1 ((si μ v0 0 (μ.1 v1 0)).1 v1 1)) v0 2 ((si (si μ v0 0 (μ.1 v1 0)) v0 1 ((si μ v0 0 (μ.1 v1 0)).1 v1 1)).1 v1 2)).1 v1 3)) v0 4 ((si (si (si (si μ v0 0 (μ.1 v1 0)) v0 1 ((si μ v0 0 (μ.1 v1 0)).1 v1 1)) v0 2 ((si (si μ v0 0 (μ.1 v1 0)) v0 1 ((si μ v0 0 (μ.1 v1 0)).1 v1 1)).1 v1 2)) v0 3 ((si (si (si μ v0 0 (μ.1 v1 0)) v0 1 ((si μ v0 0 (μ.1 v1 0)).1 v1 1)) v0 2 ((si (si μ v0 0 (μ.1 v1 0)) v0 1 ((si μ v0 0 (μ.1 v1 0)).1 v1 1)).1 v1 2)).1 v1 3)).1 v1 4)) v0 5 ((si (si (si (si (si μ v0 0 (μ.1 v1 0)) v0 1 ((si μ v0 0 (μ.1 v1 0)).1 v1 1)) v0 2 ((si (si μ v0 0 (μ.1 v1 0)) v0 1 ((si μ v0 0 (μ.1 v1 0)).1 v1 1)).1 v1 2)) v0 3 ((si (si (si μ v0 0 (μ.1 v1 0)) v0 1 ((si μ v0 0 (μ.1 v1 0)).1 v1 1)) v0 2 ((si (si μ v0 0 (μ.1 v1 0)) v0 1 ((si μ v0 0 (μ.1 v1 0)).1 v1 1)).1 v1 2)).1 v1 3)) v0 4 ((si (si (si (si μ v0 0 (μ.1 v1 0)) v0 1 ((si μ v0 0 (μ.1 v1 0)).1 v1 1)) v0 2 ((si (si μ v0 0 (μ.1 v1 0)) v0 1 ((si μ v0 0 (μ.1 v1 0)).1 v1 1)).1 v1 2)) v0 3 ((si (si (si μ v0 0 (μ.1 v1 0)) v0 1 ((si μ v0 0 (μ.1 v1 0)).1 v1 1)) v0 2 ((si (si μ v0 0 (μ.1 v1 0)) v0 1 ((si μ v0 0 (μ.1 v1 0)).1 v1 1)).1 v1 2)).1 v1 3)).1 v1 4)).1 v1 5)).1 v1 6)) v0 7 ((si (si (si (si (si (si (si μ v0 0 (μ.1 v1 0)) v0 1 ((si μ v0 0 (μ.1 v1 0)).1 v1 1)) v0 2 ((si (si μ v0 0 (μ.1 v1 0)) v0 1 ((si μ v0 0 (μ.1 v1 0)).1 v1 1)).1 v1 2)) v0 3 ((si (si (si μ v0 0 (μ.1 v1 0)) v0 1 ((si μ v0 0 (μ.1 v1 0)).1 v1 1)) v0 2 ((si (si μ v0 0 (μ.1 v1 0)) v0 1 ((si μ v0 0 (μ.1 v1 0)).1 v1 1)).1 v1 2)).1 v1 3)) v0 4 ((si (si (si (si μ v0 0 (μ.1 v1 0)) v0 1 ((si μ v0 0 (μ.1 v1 0)).1 v1 1)) v0 2 ((si (si μ v0 0 (μ.1 v1 0)) v0 1 ((si μ v0 0 (μ.1 v1 0)).1 v1 1)).1 v1 2)) v0 3 ((si (si (si μ v0 0 (μ.1 v1 0)) v0 1 ((si μ v0 0 (μ.1 v1 0)).1 v1 1)) v0 2 ((si (si μ v0 0 (μ.1 v1 0)) v0 1 ((si μ v0 0 (μ.1 v1 0)).1 v1 1)).1 v1 2)).1 v1 3)).1 v1 4)) v0 5 ((si (si (si (si (si μ v0 0 (μ.1 v1 0)) v0 1 ((si μ v0 0 (μ.1 v1 0)).1 v1 1)) v0 2 ((si (si μ v0 0 (μ.1 v1 0)) v0 1 ((si μ v0 0 (μ.1 v1 0)).1 v1 1)).1 v1 2)) v0 3 ((si (si (si μ v0 0 (μ.1 v1 0)) v0 1 ((si μ v0 0 (μ.1 v1 0)).1 v1 1)) v0 2 ((si (si μ v0 0 (μ.1 v1 0)) v0 1 ((si μ v0 0 (μ.1 v1 0)).1 v1 1)).1 v1 2)).1 v1 3)) v0 4 ((si (si (si (si μ v0 0 (μ.1 v1 0)) v0 1 ((si μ v0 0 (μ.1 v1 0)).1 v1 1)) v0 2 ((si (si μ v0 0 (μ.1 v1 0)) v0 1 ((si μ v0 0 (μ.1 v1 0)).1 v1 1)).1 v1 2)) v0 3 ((si (si (si μ v0 0 (μ.1 v1 0)) v0 1 ((si μ v0 0 (μ.1 v1 0)).1 v1 1)) v0 2 ((si (si μ v0 0 (μ.1 v1 0)) v0 1 ((si μ v0 0 (μ.1 v1 0)).1 v1 1)).1 v1 2)).1 v1 3)).1 v1 4)).1 v1 5)) v0 6 ((si (si (si (si (si (si μ v0 0 (μ.1 v1 0)) v0 1 ((si μ v0 0 (μ.1 v1 0)).1 v1 1)) v0 2 ((si (si μ v0 0 (μ.1 v1 0)) v0 1 ((si μ v0 0 (μ.1 v1 0)).1 v1 1)).1 v1 2)) v0 3 ((si (si (si μ v0 0 (μ.1 v1 0)) v0 1 ((si μ v0 0 (μ.1 v1 0)).1 v1 1)) v0 2 ((si (si μ v0 0 (μ.1 v1 0)) v0 1 ((si μ v0 0 (μ.1 v1 0)).1 v1 1)).1 v1 2)).1 v1 3)) v0 4 ((si (si (si (si μ v0 0 (μ.1 v1 0)) v0 1 ((si μ v0 0 (μ.1 v1 0)).1 v1 1)) v0 2 ((si (si μ v0 0 (μ.1 v1 0)) v0 1 ((si μ v0 0 (μ.1 v1 0)).1 v1 1)).1 v1 2)) v0 3 ((si (si (si μ v0 0 (μ.1 v1 0)) v0 1 ((si μ v0 0 (μ.1 v1 0)).1 v1 1)) v0 2 ((si (si μ v0 0 (μ.1 v1 0)) v0 1 ((si μ v0 0 (μ.1 v1 0)).1 v1 1)).1 v1 2)).1 v1 3)).1 v1 4)) v0 5 ((si (si (si (si (si μ v0 0 (μ.1 v1 0)) v0 1 ((si μ v0 0 (μ.1 v1 0)).1 v1 1)) v0 2 ((si (si μ v0 0 (μ.1 v1 0)) v0 1 ((si μ v0 0 (μ.1 v1 0)).1 v1 1)).1 v1 2)) v0 3 ((si (si (si μ v0 0 (μ.1 v1 0)) v0 1 ((si μ v0 0 (μ.1 v1 0)).1 v1 1)) v0 2 ((si (si μ v0 0 (μ.1 v1 0)) v0 1 ((si μ v0 0 (μ.1 v1 0)).1 v1 1)).1 v1 2)).1 v1 3)) v0 4 ((si (si (si (si μ v0 0 (μ.1 v1 0)) v0 1 ((si μ v0 0 (μ.1 v1 0)).1 v1 1)) v0 2 ((si (si μ v0 0 (μ.1 v1 0)) v0 1 ((si μ v0 0 (μ.1 v1 0)).1 v1 1)).1 v1 2)) v0 3 ((si (si (si μ v0 0 (μ.1 v1 0)) v0 1 ((si μ v0 0 (μ.1 v1 0)).1 v1 1)) v0 2 ((si (si μ v0 0 (μ.1 v1 0)) v0 1 ((si μ v0 0 (μ.1 v1 0)).1 v1 1)).1 v1 2)).1 v1 3)).1 v1 4)).1 v1 5)).1 v1 6)).1 v1 7)).1 v1 8) (some ((), (si (si (si (si (si (si (si (si (si μ v0 0 (μ.1 v1 0)) v0 1 ((si μ v0 0 (μ.1 v1 0)).1 v1 1)) v0 2 ((si (si μ v0 0 (μ.1 v1 0)) v0 1 ((si μ v0 0 (μ.1 v1 0)).1 v1 1)).1 v1 2)) v0 3 ((si (si (si μ v0 0 (μ.1 v1 0)) v0 1 ((si μ v0 0 (μ.1 v1 0)).1 v1 1)) v0 2 ((si (si μ v0 0 (μ.1 v1 0)) v0 1 ((si μ v0 0 (μ.1 v1 0)).1 v1 1)).1 v1 2)).1 v1 3)) v0 4 ((si (si (si (si μ v0 0 (μ.1 v1 0)) v0 1 ((si μ v0 0 (μ.1 v1 0)).1 v1 1)) v0 2 ((si (si μ v0 0 (μ.1 v1 0)) v0 1 ((si μ v0 0 (μ.1 v1 0)).1 v1 1)).1 v1 2)) v0 3 ((si (si (si μ v0 0 (μ.1 v1 0)) v0 1 ((si μ v0 0 (μ.1 v1 0)).1 v1 1)) v0 2 ((si (si μ v0 0 (μ.1 v1 0)) v0 1 ((si μ v0 0 (μ.1 v1 0)).1 v1 1)).1 v1 2)).1 v1 3)).1 v1 4)) v0 5 ((si (si (si (si (si μ v0 0 (μ.1 v1 0)) v0 1 ((si μ v0 0 (μ.1 v1 0)).1 v1 1)) v0 2 ((si (si μ v0 0 (μ.1 v1 0)) v0 1 ((si μ v0 0 (μ.1 v1 0)).1 v1 1)).1 v1 2)) v0 3 ((si (si (si μ v0 0 (μ.1 v1 0)) v0 1 ((si μ v0 0 (μ.1 v1 0)).1 v1 1)) v0 2 ((si (si μ v0 0 (μ.1 v1 0)) v0 1 ((si μ v0 0 (μ.1 v1 0)).1 v1 1)).1 v1 2)).1 v1 3)) v0 4 ((si (si (si (si μ v0 0 (μ.1 v1 0)) v0 1 ((si μ v0 0 (μ.1 v1 0)).1 v1 1)) v0 2 ((si (si μ v0 0 (μ.1 v1 0)) v0 1 ((si μ v0 0 (μ.1 v1 0)).1 v1 1)).1 v1 2)) v0 3 ((si (si (si μ v0 0 (μ.1 v1 0)) v0 1 ((si μ v0 0 (μ.1 v1 0)).1 v1 1)) v0 2 ((si (si μ v0 0 (μ.1 v1 0)) v0 1 ((si μ v0 0 (μ.1 v1 0)).1 v1 1)).1 v1 2)).1 v1 3)).1 v1 4)).1 v1 5)) v0 6 ((si (si (si (si (si (si μ v0 0 (μ.1 v1 0)) v0 1 ((si μ v0 0 (μ.1 v1 0)).1 v1 1)) v0 2 ((si (si μ v0 0 (μ.1 v1 0)) v0 1 ((si μ v0 0 (μ.1 v1 0)).1 v1 1)).1 v1 2)) v0 3 ((si (si (si μ v0 0 (μ.1 v1 0)) v0 1 ((si μ v0 0 (μ.1 v1 0)).1 v1 1)) v0 2 ((si (si μ v0 0 (μ.1 v1 0)) v0 1 ((si μ v0 0 (μ.1 v1 0)).1 v1 1)).1 v1 2)).1 v1 3)) v0 4 ((si (si (si (si μ v0 0 (μ.1 v1 0)) v0 1 ((si μ v0 0 (μ.1 v1 0)).1 v1 1)) v0 2 ((si (si μ v0 0 (μ.1 v1 0)) v0 1 ((si μ v0 0 (μ.1 v1 0)).1 v1 1)).1 v1 2)) v0 3 ((si (si (si μ v0 0 (μ.1 v1 0)) v0 1 ((si μ v0 0 (μ.1 v1 0)).1 v1 1)) v0 2 ((si (si μ v0 0 (μ.1 v1 0)) v0 1 ((si μ v0 0 (μ.1 v1 0)).1 v1 1)).1 v1 2)).1 v1 3)).1 v1 4)) v0 5 ((si (si (si (si (si μ v0 0 (μ.1 v1 0)) v0 1 ((si μ v0 0 (μ.1 v1 0)).1 v1 1)) v0 2 ((si (si μ v0 0 (μ.1 v1 0)) v0 1 ((si μ v0 0 (μ.1 v1 0)).1 v1 1)).1 v1 2)) v0 3 ((si (si (si μ v0 0 (μ.1 v1 0)) v0 1 ((si μ v0 0 (μ.1 v1 0)).1 v1 1)) v0 2 ((si (si μ v0 0 (μ.1 v1 0)) v0 1 ((si μ v0 0 (μ.1 v1 0)).1 v1 1)).1 v1 2)).1 v1 3)) v0 4 ((si (si (si (si μ v0 0 (μ.1 v1 0)) v0 1 ((si μ v0 0 (μ.1 v1 0)).1 v1 1)) v0 2 ((si (si μ v0 0 (μ.1 v1 0)) v0 1 ((si μ v0 0 (μ.1 v1 0)).1 v1 1)).1 v1 2)) v0 3 ((si (si (si μ v0 0 (μ.1 v1 0)) v0 1 ((si μ v0 0 (μ.1 v1 0)).1 v1 1)) v0 2 ((si (si μ v0 0 (μ.1 v1 0)) v0 1 ((si μ v0 0 (μ.1 v1 0)).1 v1 1)).1 v1 2)).1 v1 3)).1 v1 4)).1 v1 5)).1 v1 6)) v0 7 ((si (si (si (si (si (si (si μ v0 0 (μ.1 v1 0)) v0 1 ((si μ v0 0 (μ.1 v1 0)).1 v1 1)) v0 2 ((si (si μ v0 0 (μ.1 v1 0)) v0 1 ((si μ v0 0 (μ.1 v1 0)).1 v1 1)).1 v1 2)) v0 3 ((si (si (si μ v0 0 (μ.1 v1 0)) v0 1 ((si μ v0 0 (μ.1 v1 0)).1 v1 1)) v0 2 ((si (si μ v0 0 (μ.1 v1 0)) v0 1 ((si μ v0 0 (μ.1 v1 0)).1 v1 1)).1 v1 2)).1 v1 3)) v0 4 ((si (si (si (si μ v0 0 (μ.1 v1 0)) v0 1 ((si μ v0 0 (μ.1 v1 0)).1 v1 1)) v0 2 ((si (si μ v0 0 (μ.1 v1 0)) v0 1 ((si μ v0 0 (μ.1 v1 0)).1 v1 1)).1 v1 2)) v0 3 ((si (si (si μ v0 0 (μ.1 v1 0)) v0 1 ((si μ v0 0 (μ.1 v1 0)).1 v1 1)) v0 2 ((si (si μ v0 0 (μ.1 v1 0)) v0 1 ((si μ v0 0 (μ.1 v1 0)).1 v1 1)).1 v1 2)).1 v1 3)).1 v1 4)) v0 5 ((si (si (si (si (si μ v0 0 (μ.1 v1 0)) v0 1 ((si μ v0 0 (μ.1 v1 0)).1 v1 1)) v0 2 ((si (si μ v0 0 (μ.1 v1 0)) v0 1 ((si μ v0 0 (μ.1 v1 0)).1 v1 1)).1 v1 2)) v0 3 ((si (si (si μ v0 0 (μ.1 v1 0)) v0 1 ((si μ v0 0 (μ.1 v1 0)).1 v1 1)) v0 2 ((si (si μ v0 0 (μ.1 v1 0)) v0 1 ((si μ v0 0 (μ.1 v1 0)).1 v1 1)).1 v1 2)).1 v1 3)) v0 4 ((si (si (si (si μ v0 0 (μ.1 v1 0)) v0 1 ((si μ v0 0 (μ.1 v1 0)).1 v1 1)) v0 2 ((si (si μ v0 0 (μ.1 v1 0)) v0 1 ((si μ v0 0 (μ.1 v1 0)).1 v1 1)).1 v1 2)) v0 3 ((si (si (si μ v0 0 (μ.1 v1 0)) v0 1 ((si μ v0 0 (μ.1 v1 0)).1 v1 1)) v0 2 ((si (si μ v0 0 (μ.1 v1 0)) v0 1 ((si μ v0 0 (μ.1 v1 0)).1 v1 1)).1 v1 2)).1 v1 3)).1 v1 4)).1 v1 5)) v0 6 ((si (si (si (si (si (si μ v0 0 (μ.1 v1 0)) v0 1 ((si μ v0 0 (μ.1 v1 0)).1 v1 1)) v0 2 ((si (si μ v0 0 (μ.1 v1 0)) v0 1 ((si μ v0 0 (μ.1 v1 0)).1 v1 1)).1 v1 2)) v0 3 ((si (si (si μ v0 0 (μ.1 v1 0)) v0 1 ((si μ v0 0 (μ.1 v1 0)).1 v1 1)) v0 2 ((si (si μ v0 0 (μ.1 v1 0)) v0 1 ((si μ v0 0 (μ.1 v1 0)).1 v1 1)).1 v1 2)).1 v1 3)) v0 4 ((si (si (si (si μ v0 0 (μ.1 v1 0)) v0 1 ((si μ v0 0 (μ.1 v1 0)).1 v1 1)) v0 2 ((si (si μ v0 0 (μ.1 v1 0)) v0 1 ((si μ v0 0 (μ.1 v1 0)).1 v1 1)).1 v1 2)) v0 3 ((si (si (si μ v0 0 (μ.1 v1 0)) v0 1 ((si μ v0 0 (μ.1 v1 0)).1 v1 1)) v0 2 ((si (si μ v0 0 (μ.1 v1 0)) v0 1 ((si μ v0 0 (μ.1 v1 0)).1 v1 1)).1 v1 2)).1 v1 3)).1 v1 4)) v0 5 ((si (si (si (si (si μ v0 0 (μ.1 v1 0)) v0 1 ((si μ v0 0 (μ.1 v1 0)).1 v1 1)) v0 2 ((si (si μ v0 0 (μ.1 v1 0)) v0 1 ((si μ v0 0 (μ.1 v1 0)).1 v1 1)).1 v1 2)) v0 3 ((si (si (si μ v0 0 (μ.1 v1 0)) v0 1 ((si μ v0 0 (μ.1 v1 0)).1 v1 1)) v0 2 ((si (si μ v0 0 (μ.1 v1 0)) v0 1 ((si μ v0 0 (μ.1 v1 0)).1 v1 1)).1 v1 2)).1 v1 3)) v0 4 ((si (si (si (si μ v0 0 (μ.1 v1 0)) v0 1 ((si μ v0 0 (μ.1 v1 0)).1 v1 1)) v0 2 ((si (si μ v0 0 (μ.1 v1 0)) v0 1 ((si μ v0 0 (μ.1 v1 0)).1 v1 1)).1 v1 2)) v0 3 ((si (si (si μ v0 0 (μ.1 v1 0)) v0 1 ((si μ v0 0 (μ.1 v1 0)).1 v1 1)) v0 2 ((si (si μ v0 0 (μ.1 v1 0)) v0 1 ((si μ v0 0 (μ.1 v1 0)).1 v1 1)).1 v1 2)).1 v1 3)).1 v1 4)).1 v1 5)).1 v1 6)).1 v1 7)) v0 8 ((si (si (si (si (si (si (si (si μ v0 0 (μ.1 v1 0)) v0 1 ((si μ v0 0 (μ.1 v1 0)).1 v1 1)) v0 2 ((si (si μ v0 0 (μ.1 v1 0)) v0 1 ((si μ v0 0 (μ.1 v1 0)).1 v1 1)).1 v1 2)) v0 3 ((si (si (si μ v0 0 (μ.1 v1 0)) v0 1 ((si μ v0 0 (μ.1 v1 0)).1 v1 1)) v0 2 ((si (si μ v0 0 (μ.1 v1 0)) v0 1 ((si μ v0 0 (μ.1 v1 0)).1 v1 1)).1 v1 2)).1 v1 3)) v0 4 ((si (si (si (si μ v0 0 (μ.1 v1 0)) v0 1 ((si μ v0 0 (μ.1 v1 0)).1 v1 1)) v0 2 ((si (si μ v0 0 (μ.1 v1 0)) v0 1 ((si μ v0 0 (μ.1 v1 0)).1 v1 1)).1 v1 2)) v0 3 ((si (si (si μ v0 0 (μ.1 v1 0)) v0 1 ((si μ v0 0 (μ.1 v1 0)).1 v1 1)) v0 2 ((si (si μ v0 0 (μ.1 v1 0)) v0 1 ((si μ v0 0 (μ.1 v1 0)).1 v1 1)).1 v1 2)).1 v1 3)).1 v1 4)) v0 5 ((si (si (si (si (si μ v0 0 (μ.1 v1 0)) v0 1 ((si μ v0 0 (μ.1 v1 0)).1 v1 1)) v0 2 ((si (si μ v0 0 (μ.1 v1 0)) v0 1 ((si μ v0 0 (μ.1 v1 0)).1 v1 1)).1 v1 2)) v0 3 ((si (si (si μ v0 0 (μ.1 v1 0)) v0 1 ((si μ v0 0 (μ.1 v1 0)).1 v1 1)) v0 2 ((si (si μ v0 0 (μ.1 v1 0)) v0 1 ((si μ v0 0 (μ.1 v1 0)).1 v1 1)).1 v1 2)).1 v1 3)) v0 4 ((si (si (si (si μ v0 0 (μ.1 v1 0)) v0 1 ((si μ v0 0 (μ.1 v1 0)).1 v1 1)) v0 2 ((si (si μ v0 0 (μ.1 v1 0)) v0 1 ((si μ v0 0 (μ.1 v1 0)).1 v1 1)).1 v1 2)) v0 3 ((si (si (si μ v0 0 (μ.1 v1 0)) v0 1 ((si μ v0 0 (μ.1 v1 0)).1 v1 1)) v0 2 ((si (si μ v0 0 (μ.1 v1 0)) v0 1 ((si μ v0 0 (μ.1 v1 0)).1 v1 1)).1 v1 2)).1 v1 3)).1 v1 4)).1 v1 5)) v0 6 ((si (si (si (si (si (si μ v0 0 (μ.1 v1 0)) v0 1 ((si μ v0 0 (μ.1 v1 0)).1 v1 1)) v0 2 ((si (si μ v0 0 (μ.1 v1 0)) v0 1 ((si μ v0 0 (μ.1 v1 0)).1 v1 1)).1 v1 2)) v0 3 ((si (si (si μ v0 0 (μ.1 v1 0)) v0 1 ((si μ v0 0 (μ.1 v1 0)).1 v1 1)) v0 2 ((si (si μ v0 0 (μ.1 v1 0)) v0 1 ((si μ v0 0 (μ.1 v1 0)).1 v1 1)).1 v1 2)).1 v1 3)) v0 4 ((si (si (si (si μ v0 0 (μ.1 v1 0)) v0 1 ((si μ v0 0 (μ.1 v1 0)).1 v1 1)) v0 2 ((si (si μ v0 0 (μ.1 v1 0)) v0 1 ((si μ v0 0 (μ.1 v1 0)).1 v1 1)).1 v1 2)) v0 3 ((si (si (si μ v0 0 (μ.1 v1 0)) v0 1 ((si μ v0 0 (μ.1 v1 0)).1 v1 1)) v0 2 ((si (si μ v0 0 (μ.1 v1 0)) v0 1 ((si μ v0 0 (μ.1 v1 0)).1 v1 1)).1 v1 2)).1 v1 3)).1 v1 4)) v0 5 ((si (si (si (si (si μ v0 0 (μ.1 v1 0)) v0 1 ((si μ v0 0 (μ.1 v1 0)).1 v1 1)) v0 2 ((si (si μ v0 0 (μ.1 v1 0)) v0 1 ((si μ v0 0 (μ.1 v1 0)).1 v1 1)).1 v1 2)) v0 3 ((si (si (si μ v0 0 (μ.1 v1 0)) v0 1 ((si μ v0 0 (μ.1 v1 0)).1 v1 1)) v0 2 ((si (si μ v0 0 (μ.1 v1 0)) v0 1 ((si μ v0 0 (μ.1 v1 0)).1 v1 1)).1 v1 2)).1 v1 3)) v0 4 ((si (si (si (si μ v0 0 (μ.1 v1 0)) v0 1 ((si μ v0 0 (μ.1 v1 0)).1 v1 1)) v0 2 ((si (si μ v0 0 (μ.1 v1 0)) v0 1 ((si μ v0 0 (μ.1 v1 0)).1 v1 1)).1 v1 2)) v0 3 ((si (si (si μ v0 0 (μ.1 v1 0)) v0 1 ((si μ v0 0 (μ.1 v1 0)).1 v1 1)) v0 2 ((si (si μ v0 0 (μ.1 v1 0)) v0 1 ((si μ v0 0 (μ.1 v1 0)).1 v1 1)).1 v1 2)).1 v1 3)).1 v1 4)).1 v1 5)).1 v1 6)) v0 7 ((si (si (si (si (si (si (si μ v0 0 (μ.1 v1 0)) v0 1 ((si μ v0 0 (μ.1 v1 0)).1 v1 1)) v0 2 ((si (si μ v0 0 (μ.1 v1 0)) v0 1 ((si μ v0 0 (μ.1 v1 0)).1 v1 1)).1 v1 2)) v0 3 ((si (si (si μ v0 0 (μ.1 v1 0)) v0 1 ((si μ v0 0 (μ.1 v1 0)).1 v1 1)) v0 2 ((si (si μ v0 0 (μ.1 v1 0)) v0 1 ((si μ v0 0 (μ.1 v1 0)).1 v1 1)).1 v1 2)).1 v1 3)) v0 4 ((si (si (si (si μ v0 0 (μ.1 v1 0)) v0 1 ((si μ v0 0 (μ.1 v1 0)).1 v1 1)) v0 2 ((si (si μ v0 0 (μ.1 v1 0)) v0 1 ((si μ v0 0 (μ.1 v1 0)).1 v1 1)).1 v1 2)) v0 3 ((si (si (si μ v0 0 (μ.1 v1 0)) v0 1 ((si μ v0 0 (μ.1 v1 0)).1 v1 1)) v0 2 ((si (si μ v0 0 (μ.1 v1 0)) v0 1 ((si μ v0 0 (μ.1 v1 0)).1 v1 1)).1 v1 2)).1 v1 3)).1 v1 4)) v0 5 ((si (si (si (si (si μ v0 0 (μ.1 v1 0)) v0 1 ((si μ v0 0 (μ.1 v1 0)).1 v1 1)) v0 2 ((si (si μ v0 0 (μ.1 v1 0)) v0 1 ((si μ v0 0 (μ.1 v1 0)).1 v1 1)).1 v1 2)) v0 3 ((si (si (si μ v0 0 (μ.1 v1 0)) v0 1 ((si μ v0 0 (μ.1 v1 0)).1 v1 1)) v0 2 ((si (si μ v0 0 (μ.1 v1 0)) v0 1 ((si μ v0 0 (μ.1 v1 0)).1 v1 1)).1 v1 2)).1 v1 3)) v0 4 ((si (si (si (si μ v0 0 (μ.1 v1 0)) v0 1 ((si μ v0 0 (μ.1 v1 0)).1 v1 1)) v0 2 ((si (si μ v0 0 (μ.1 v1 0)) v0 1 ((si μ v0 0 (μ.1 v1 0)).1 v1 1)).1 v1 2)) v0 3 ((si (si (si μ v0 0 (μ.1 v1 0)) v0 1 ((si μ v0 0 (μ.1 v1 0)).1 v1 1)) v0 2 ((si (si μ v0 0 (μ.1 v1 0)) v0 1 ((si μ v0 0 (μ.1 v1 0)).1 v1 1)).1 v1 2)).1 v1 3)).1 v1 4)).1 v1 5)) v0 6 ((si (si (si (si (si (si μ v0 0 (μ.1 v1 0)) v0 1 ((si μ v0 0 (μ.1 v1 0)).1 v1 1)) v0 2 ((si (si μ v0 0 (μ.1 v1 0)) v0 1 ((si μ v0 0 (μ.1 v1 0)).1 v1 1)).1 v1 2)) v0 3 ((si (si (si μ v0 0 (μ.1 v1 0)) v0 1 ((si μ v0 0 (μ.1 v1 0)).1 v1 1)) v0 2 ((si (si μ v0 0 (μ.1 v1 0)) v0 1 ((si μ v0 0 (μ.1 v1 0)).1 v1 1)).1 v1 2)).1 v1 3)) v0 4 ((si (si (si (si μ v0 0 (μ.1 v1 0)) v0 1 ((si μ v0 0 (μ.1 v1 0)).1 v1 1)) v0 2 ((si (si μ v0 0 (μ.1 v1 0)) v0 1 ((si μ v0 0 (μ.1 v1 0)).1 v1 1)).1 v1 2)) v0 3 ((si (si (si μ v0 0 (μ.1 v1 0)) v0 1 ((si μ v0 0 (μ.1 v1 0)).1 v1 1)) v0 2 ((si (si μ v0 0 (μ.1 v1 0)) v0 1 ((si μ v0 0 (μ.1 v1 0)).1 v1 1)).1 v1 2)).1 v1 3)).1 v1 4)) v0 5 ((si (si (si (si (si μ v0 0 (μ.1 v1 0)) v0 1 ((si μ v0 0 (μ.1 v1 0)).1 v1 1)) v0 2 ((si (si μ v0 0 (μ.1 v1 0)) v0 1 ((si μ v0 0 (μ.1 v1 0)).1 v1 1)).1 v1 2)) v0 3 ((si (si (si μ v0 0 (μ.1 v1 0)) v0 1 ((si μ v0 0 (μ.1 v1 0)).1 v1 1)) v0 2 ((si (si μ v0 0 (μ.1 v1 0)) v0 1 ((si μ v0 0 (μ.1 v1 0)).1 v1 1)).1 v1 2)).1 v1 3)) v0 4 ((si (si (si (si μ v0 0 (μ.1 v1 0)) v0 1 ((si μ v0 0 (μ.1 v1 0)).1 v1 1)) v0 2 ((si (si μ v0 0 (μ.1 v1 0)) v0 1 ((si μ v0 0 (μ.1 v1 0)).1 v1 1)).1 v1 2)) v0 3 ((si (si (si μ v0 0 (μ.1 v1 0)) v0 1 ((si μ v0 0 (μ.1 v1 0)).1 v1 1)) v0 2 ((si (si μ v0 0 (μ.1 v1 0)) v0 1 ((si μ v0 0 (μ.1 v1 0)).1 v1 1)).1 v1 2)).1 v1 3)).1 v1 4)).1 v1 5)).1 v1 6)).1 v1 7)).1 v1 8)))))))))
def X5_isLacking_17 (n : Nat) (v0 : Nat) (v1 : Int32) (s0 : Int32) (μ : Mu) : Option (Int32 × Mu) :=
  bz s0 (some (s0, μ))
def X5_isLacking (n : Nat) (v0 : Nat) (v1 : Int32) (μ : Mu) : Option (Int32 × Mu) :=
  kd v0 5 ((if ((((μ.1 v0 2).toUInt32 >>> (v1.toUInt32 &&& Int32.toUInt32 31)).toInt32) &&& (1 : Int32)) = (1 : Int32) then
  X5_isLacking_17 n v0 v1 (1 : Int32) μ
  else
  X5_isLacking_17 n v0 v1 (0 : Int32) μ))
def X5_key_51 (n : Nat) (v0 : Nat) (s0 : Int32) (s1 : Int32) (μ : Mu) : Option (Int32 × Mu) :=
  some (((((((((μ.1 v0 2) <<< ((3 : Int32) &&& 31)) ||| (μ.1 v0 1)) <<< ((5 : Int32) &&& 31)) ||| (μ.1 v0 3)) <<< ((6 : Int32) &&& 31)) ||| ((μ.1 v0 4) <<< ((4 : Int32) &&& 31))) ||| (s0 ||| s1)), μ)
def X5_key_37 (n : Nat) (v0 : Nat) (s0 : Int32) (s1 : Int32) (μ : Mu) : Option (Int32 × Mu) :=
  (if (μ.1 v0 8) = 0 then
  X5_key_51 n v0 (s0 ||| s1) (0 : Int32) μ
  else
  X5_key_51 n v0 (s0 ||| s1) (8 : Int32) μ)
def X5_key_24 (n : Nat) (v0 : Nat) (s0 : Int32) (s1 : Int32) (μ : Mu) : Option (Int32 × Mu) :=
  (if (μ.1 v0 7) = 0 then
  X5_key_37 n v0 (s0 ||| s1) (0 : Int32) μ
  else
  X5_key_37 n v0 (s0 ||| s1) (4 : Int32) μ)
def X5_key_12 (n : Nat) (v0 : Nat) (s0 : Int32) (μ : Mu) : Option (Int32 × Mu) :=
  (if (μ.1 v0 6) = 0 then
  X5_key_24 n v0 s0 (0 : Int32) μ
  else
  X5_key_24 n v0 s0 (2 : Int32) μ)
def X5_key (n : Nat) (v0 : Nat) (μ : Mu) : Option (Int32 × Mu) :=
  kd v0 5 ((if (μ.1 v0 5) = 0 then
  X5_key_12 n v0 (0 : Int32) μ
  else
  X5_key_12 n v0 (1 : Int32) μ))
def X6_clear_2b (n : Nat) (v0 : Nat) (k2 : Int32 → Mu → Option (Unit × Mu)) (v1 : Int32) (μ : Mu) : Option (Unit × Mu) :=
  (if (14 : Int32) ≤ v1 then
  some ((), (si μ v0 1 (0 : Int32)))
  else
  gd v1 14 (k2 (v1 + (1 : Int32)) (si μ (v0 + 1) v1.toNatClampNeg (0 : Int32))))
def X6_clear_2 (n : Nat) (v0 : Nat) (v1 : Int32) (μ : Mu) : Option (Unit × Mu) := lpF (fun _ _ => none) (X6_clear_2b n v0) n v1 μ
def X6_clear (n : Nat) (v0 : Nat) (μ : Mu) : Option (Unit × Mu) :=
  kd v0 6 (X6_clear_2 n v0 (0 : Int32) μ)
def X6_copy (n : Nat) (v0 : Nat) (v1 : Nat) (μ : Mu) : Option (Unit × Mu) :=
  kd v0 6 (kd v1 6 (some ((), (si (cp14 μ (v1 + 1) (v0 + 1)) v0 1 ((cp14 μ (v1 + 1) (v0 + 1)).1 v1 1)))))
def X6_isLike_47 (n : Nat) (v0 : Nat) (v1 : Nat) (s0 : Int32) (μ : Mu) : Option (Int32 × Mu) :=
  bz s0 (some (s0, μ))
def X6_isLike_2b (n : Nat) (v0 : Nat) (v1 : Nat) (k2 : Int32 → Mu → Option (Int32 × Mu)) (v2 : Int32) (μ : Mu) : Option (Int32 × Mu) :=
  (if (14 : Int32) ≤ v2 then
  (if (μ.1 v0 1) = (μ.1 v1 1) then
  X6_isLike_47 n v0 v1 (1 : Int32) μ
  else
  X6_isLike_47 n v0 v1 (0 : Int32) μ)
  else
  gd v2 14 ((if (μ.1 (v0 + 1) v2.toNatClampNeg) = (μ.1 (v1 + 1) v2.toNatClampNeg) then
  k2 (v2 + (1 : Int32)) μ
  else
  some ((0 : Int32), μ))))
def X6_isLike_2 (n : Nat) (v0 : Nat) (v1 : Nat) (v2 : Int32) (μ : Mu) : Option (Int32 × Mu) := lpF (fun _ _ => none) (X6_isLike_2b n v0 v1) n v2 μ
def X6_isLike (n : Nat) (v0 : Nat) (v1 : Nat) (μ : Mu) : Option (Int32 × Mu) :=
  kd v0 6 (kd v1 6 (X6_isLike_2 n v0 v1 (0 : Int32) μ))
def X6_inPits_4b (n : Nat) (v0 : Nat) (k4 : Int32 → Int32 → Mu → Option (Int32 × Mu)) (v1 : Int32) (v2 : Int32) (μ : Mu) : Option (Int32 × Mu) :=
  (if (12 : Int32) ≤ v2 then
  some (v1, μ)
  else
  gd v2 14 (k4 (v1 + (μ.1 (v0 + 1) v2.toNatClampNeg)) (v2 + (1 : Int32)) μ))
def X6_inPits_4 (n : Nat) (v0 : Nat) (v1 : Int32) (v2 : Int32) (μ : Mu) : Option (Int32 × Mu) := lpF (fun _ _ _ => none) (X6_inPits_4b n v0) n v1 v2 μ
def X6_inPits (n : Nat) (v0 : Nat) (μ : Mu) : Option (Int32 × Mu) :=
  kd v0 6 (X6_inPits_4 n v0 (0 : Int32) (0 : Int32) μ)
def X6_filled_36 (n : Nat) (v0 : Nat) (v1 : Int32) (k9 : Int32 → Int32 → Mu → Option (Int32 × Mu)) (v2 : Int32) (v3 : Int32) (μ : Mu) : Option (Int32 × Mu) :=
  k9 v2 (v3 + (1 : Int32)) μ
def X6_filled_9b (n : Nat) (v0 : Nat) (v1 : Int32) (k9 : Int32 → Int32 → Mu → Option (Int32 × Mu)) (v2 : Int32) (v3 : Int32) (μ : Mu) : Option (Int32 × Mu) :=
  (if (((μ.1 v0 1) + (1 : Int32)) * v1) ≤ v3 then
  some (v2, μ)
  else
  gd v3 14 ((if (μ.1 (v0 + 1) v3.toNatClampNeg) ≤ 0 then
  X6_filled_36 n v0 v1 k9 v2 v3 μ
  else
  X6_filled_36 n v0 v1 k9 (v2 ||| ((1 : Int32) <<< (v3 &&& 31))) v3 μ)))
def X6_filled_9 (n : Nat) (v0 : Nat) (v1 : Int32) (v2 : Int32) (v3 : Int32) (μ : Mu) : Option (Int32 × Mu) := lpF (fun _ _ _ => none) (X6_filled_9b n v0 v1) n v2 v3 μ
def X6_filled (n : Nat) (v0 : Nat) (v1 : Int32) (μ : Mu) : Option (Int32 × Mu) :=
  kd v0 6 (X6_filled_9 n v0 v1 (0 : Int32) ((μ.1 v0 1) * v1) μ)
def X6_inRow_7b (n : Nat) (v0 : Nat) (v1 : Int32) (v2 : Int32) (k7 : Int32 → Int32 → Mu → Option (Int32 × Mu)) (v3 : Int32) (v4 : Int32) (μ : Mu) : Option (Int32 × Mu) :=
  (if ((v1 + (1 : Int32)) * v2) ≤ v4 then
  some (v3, μ)
  else
  gd v4 14 (k7 (v3 + (μ.1 (v0 + 1) v4.toNatClampNeg)) (v4 + (1 : Int32)) μ))
def X6_inRow_7 (n : Nat) (v0 : Nat) (v1 : Int32) (v2 : Int32) (v3 : Int32) (v4 : Int32) (μ : Mu) : Option (Int32 × Mu) := lpF (fun _ _ _ => none) (X6_inRow_7b n v0 v1 v2) n v3 v4 μ
def X6_inRow (n : Nat) (v0 : Nat) (v1 : Int32) (v2 : Int32) (μ : Mu) : Option (Int32 × Mu) :=
  kd v0 6 (X6_inRow_7 n v0 v1 v2 (0 : Int32) (v1 * v2) μ)
def X7_halfOf_15 (n : Nat) (v1 : Int32) (s0 : Int32) (μ : Mu) : Option (Int32 × Mu) :=
  some (s0, μ)
def X7_halfOf (n : Nat) (v1 : Int32) (μ : Mu) : Option (Int32 × Mu) :=
  (if (μ.1 2 2) = 0 then
  X7_halfOf_15 n v1 v1 μ
  else
  X7_halfOf_15 n v1 (0 : Int32) μ)
def X7_indexOf (n : Nat) (v1 : Int32) (v2 : Int32) (v3 : Int32) (μ : Mu) : Option (Int32 × Mu) :=
  (X7_halfOf n v1 μ).bind (fun r2 =>
  (X1_positionsUpTo n (v2 - (1 : Int32)) r2.2).bind (fun r16 =>
  some ((((r2.1 * (6000 : Int32)) + r16.1) + v3), r16.2)))
def X7_indexAt (n : Nat) (v1 : Nat) (v2 : Int32) (μ : Mu) : Option (Int32 × Mu) :=
  kd v1 6 ((X1_numberOf n v1 v2 μ).bind (fun r12 =>
  (X7_indexOf n (μ.1 v1 1) v2 r12.1 r12.2).bind (fun r15 =>
  some (r15.1, r15.2))))
def X7_readMove_128 (n : Nat) (v1 : Int32) (v2 : Int32) (v3 : Int32) (μ : Mu) : Option (Unit × Mu) :=
  some ((), μ)
def X7_readMove_75 (n : Nat) (v1 : Int32) (v2 : Int32) (v3 : Int32) (v4 : Int32) (s0 : Int32) (μ : Mu) : Option (Unit × Mu) :=
  gd v1 6006 (X7_readMove_128 n v1 v2 v3 (si μ 18 v1.toNatClampNeg (if (μ.1 18 v1.toNatClampNeg) < (v4 + s0) then (v4 + s0) else (μ.1 18 v1.toNatClampNeg))))
def X7_readMove (n : Nat) (v1 : Int32) (v2 : Int32) (v3 : Int32) (μ : Mu) : Option (Unit × Mu) :=
  gd v3 6 ((X7_indexAt n (57 + 2 * v3.toNatClampNeg) (v2 - (μ.1 8 v3.toNatClampNeg)) μ).bind (fun r25 =>
  (if (μ.1 8 v3.toNatClampNeg) ≤ 0 then
  gd v1 6006 (gd ((v1 * (6 : Int32)) + (r25.2.1 20 v1.toNatClampNeg)) 36036 (X7_readMove_128 n v1 v2 v3 (si (si r25.2 21 ((v1 * (6 : Int32)) + (r25.2.1 20 v1.toNatClampNeg)).toNatClampNeg r25.1) 20 v1.toNatClampNeg (((si r25.2 21 ((v1 * (6 : Int32)) + (r25.2.1 20 v1.toNatClampNeg)).toNatClampNeg r25.1).1 20 v1.toNatClampNeg) + (1 : Int32)))))
  else
  (if (r25.2.1 (57 + 2 * v3.toNatClampNeg) 1) = (r25.2.1 151 1) then
  gd r25.1 12000 (X7_readMove_75 n v1 v2 v3 (μ.1 8 v3.toNatClampNeg) (r25.2.1 16 r25.1.toNatClampNeg) r25.2)
  else
  gd r25.1 12000 (X7_readMove_75 n v1 v2 v3 (μ.1 8 v3.toNatClampNeg) (-(r25.2.1 16 r25.1.toNatClampNeg)) r25.2)))))
def X7_weighAll_91 (n : Nat) (v1 : Int32) (v2 : Int32) (k22 : Int32 → Int32 → Mu → Option (Unit × Mu)) (k58 : Int32 → Int32 → Int32 → Int32 → Int32 → Mu → Option (Unit × Mu)) (v3 : Int32) (v4 : Int32) (v5 : Int32) (v6 : Int32) (v7 : Int32) (μ : Mu) : Option (Unit × Mu) :=
  k58 v3 v4 v5 v6 (v7 + ((-1) : Int32)) μ
def X7_weighAll_58b (n : Nat) (v1 : Int32) (v2 : Int32) (k22 : Int32 → Int32 → Mu → Option (Unit × Mu)) (k58 : Int32 → Int32 → Int32 → Int32 → Int32 → Mu → Option (Unit × Mu)) (v3 : Int32) (v4 : Int32) (v5 : Int32) (v6 : Int32) (v7 : Int32) (μ : Mu) : Option (Unit × Mu) :=
  (if v7 < v6 then
  gd v4 6006 (k22 v3 (v4 + (1 : Int32)) (si μ 19 v4.toNatClampNeg v5))
  else
  gd v7 36036 (gd (μ.1 21 v7.toNatClampNeg) 12000 ((if (-(μ.1 16 (μ.1 21 v7.toNatClampNeg).toNatClampNeg)) ≤ v5 then
  X7_weighAll_91 n v1 v2 k22 k58 v3 v4 v5 v6 v7 μ
  else
  X7_weighAll_91 n v1 v2 k22 k58 v3 v4 (-(μ.1 16 (μ.1 21 v7.toNatClampNeg).toNatClampNeg)) v6 v7 μ))))
def X7_weighAll_58 (n : Nat) (v1 : Int32) (v2 : Int32) (k22 : Int32 → Int32 → Mu → Option (Unit × Mu)) (v3 : Int32) (v4 : Int32) (v5 : Int32) (v6 : Int32) (v7 : Int32) (μ : Mu) : Option (Unit × Mu) := lpF (fun _ _ _ _ _ _ => none) (X7_weighAll_58b n v1 v2 k22) n v3 v4 v5 v6 v7 μ
def X7_weighAll_22b (n : Nat) (v1 : Int32) (v2 : Int32) (k22 : Int32 → Int32 → Mu → Option (Unit × Mu)) (v3 : Int32) (v4 : Int32) (μ : Mu) : Option (Unit × Mu) :=
  (if v3 ≤ v4 then
  some ((), μ)
  else
  gd v4 6006 (X7_weighAll_58 n v1 v2 k22 v3 v4 (μ.1 18 v4.toNatClampNeg) (v4 * (6 : Int32)) (((v4 * (6 : Int32)) + (μ.1 20 v4.toNatClampNeg)) - (1 : Int32)) μ))
def X7_weighAll_22 (n : Nat) (v1 : Int32) (v2 : Int32) (v3 : Int32) (v4 : Int32) (μ : Mu) : Option (Unit × Mu) := lpF (fun _ _ _ => none) (X7_weighAll_22b n v1 v2) n v3 v4 μ
def X7_weighAll (n : Nat) (v1 : Int32) (v2 : Int32) (μ : Mu) : Option (Unit × Mu) :=
  (X1_positionsOf n v2 μ).bind (fun r10 =>
  X7_weighAll_22 n v1 v2 ((v1 * (3003 : Int32)) + r10.1) (v1 * (3003 : Int32)) r10.2)
def X7_settleAll_102 (n : Nat) (v1 : Int32) (v2 : Int32) (v3 : Int32) (k25 : Int32 → Int32 → Int32 → Int32 → Mu → Option (Int32 × Mu)) (v4 : Int32) (v5 : Int32) (v6 : Int32) (v7 : Int32) (μ : Mu) : Option (Int32 × Mu) :=
  k25 v4 v5 v6 (v7 + (1 : Int32)) μ
def X7_settleAll_25b (n : Nat) (v1 : Int32) (v2 : Int32) (v3 : Int32) (k25 : Int32 → Int32 → Int32 → Int32 → Mu → Option (Int32 × Mu)) (v4 : Int32) (v5 : Int32) (v6 : Int32) (v7 : Int32) (μ : Mu) : Option (Int32 × Mu) :=
  (if v4 ≤ v7 then
  bz v6 (some (v6, μ))
  else
  gd ((v1 * (3003 : Int32)) + v7) 6006 (gd (v5 + v7) 12000 ((if (μ.1 17 (v5 + v7).toNatClampNeg) = ((-1) : Int32) then
  X7_settleAll_102 n v1 v2 v3 k25 v4 v5 v6 v7 μ
  else
  (if (μ.1 16 (v5 + v7).toNatClampNeg) = (μ.1 19 ((v1 * (3003 : Int32)) + v7).toNatClampNeg) then
  X7_settleAll_102 n v1 v2 v3 k25 v4 v5 v6 v7 μ
  else
  X7_settleAll_102 n v1 v2 v3 k25 v4 v5 (1 : Int32) v7 (si (si μ 16 (v5 + v7).toNatClampNeg (μ.1 19 ((v1 * (3003 : Int32)) + v7).toNatClampNeg)) 17 (v5 + v7).toNatClampNeg v3))))))
def X7_settleAll_25 (n : Nat) (v1 : Int32) (v2 : Int32) (v3 : Int32) (v4 : Int32) (v5 : Int32) (v6 : Int32) (v7 : Int32) (μ : Mu) : Option (Int32 × Mu) := lpF (fun _ _ _ _ _ => none) (X7_settleAll_25b n v1 v2 v3) n v4 v5 v6 v7 μ
def X7_settleAll (n : Nat) (v1 : Int32) (v2 : Int32) (v3 : Int32) (μ : Mu) : Option (Int32 × Mu) :=
  (X1_positionsOf n v2 μ).bind (fun r5 =>
  (X7_indexOf n v1 v2 (0 : Int32) r5.2).bind (fun r14 =>
  X7_settleAll_25 n v1 v2 v3 r5.1 r14.1 (0 : Int32) (0 : Int32) r14.2))
def X7_valueAt (n : Nat) (v1 : Nat) (μ : Mu) : Option (Int32 × Mu) :=
  kd v1 6 ((X6_inPits n v1 μ).bind (fun r7 =>
  (X7_indexAt n v1 r7.1 r7.2).bind (fun r10 =>
  gd r10.1 12000 (some ((r10.2.1 16 r10.1.toNatClampNeg), r10.2)))))
def X7_rankOf (n : Nat) (v1 : Int32) (μ : Mu) : Option (Int32 × Mu) :=
  gd v1 12000 (some ((if (0 : Int32) < (μ.1 17 v1.toNatClampNeg) then (μ.1 17 v1.toNatClampNeg) else (0 : Int32)), μ))
def X7_markOf (n : Nat) (v1 : Nat) (μ : Mu) : Option (Int32 × Mu) :=
  kd v1 6 ((X6_inPits n v1 μ).bind (fun r1 =>
  (X1_positionsUpTo n (r1.1 - (1 : Int32)) r1.2).bind (fun r13 =>
  (X1_numberOf n v1 r1.1 r13.2).bind (fun r22 =>
  some ((((2 : Int32) * (r13.1 + r22.1)) + (r22.2.1 v1 1)), r22.2)))))
def X7_isOfKind_42 (n : Nat) (v1 : Int32) (v2 : Int32) (s0 : Int32) (μ : Mu) : Option (Int32 × Mu) :=
  bz s0 (some (s0, μ))
def X7_isOfKind_57 (n : Nat) (v1 : Int32) (v2 : Int32) (s0 : Int32) (μ : Mu) : Option (Int32 × Mu) :=
  bz s0 (some (s0, μ))
def X7_isOfKind_72 (n : Nat) (v1 : Int32) (v2 : Int32) (s0 : Int32) (μ : Mu) : Option (Int32 × Mu) :=
  bz s0 (some (s0, μ))
def X7_isOfKind_88 (n : Nat) (v1 : Int32) (v2 : Int32) (s0 : Int32) (μ : Mu) : Option (Int32 × Mu) :=
  bz s0 (some (s0, μ))
def X7_isOfKind (n : Nat) (v1 : Int32) (v2 : Int32) (μ : Mu) : Option (Int32 × Mu) :=
  (if v2 = (0 : Int32) then
  gd v1 12000 ((if (μ.1 16 v1.toNatClampNeg) ≤ 0 then
  X7_isOfKind_42 n v1 v2 (0 : Int32) μ
  else
  X7_isOfKind_42 n v1 v2 (1 : Int32) μ))
  else
  (if v2 = (1 : Int32) then
  gd v1 12000 ((if (μ.1 16 v1.toNatClampNeg) = 0 then
  X7_isOfKind_57 n v1 v2 (1 : Int32) μ
  else
  X7_isOfKind_57 n v1 v2 (0 : Int32) μ))
  else
  (if v2 = (2 : Int32) then
  gd v1 12000 ((if 0 ≤ (μ.1 16 v1.toNatClampNeg) then
  X7_isOfKind_72 n v1 v2 (0 : Int32) μ
  else
  X7_isOfKind_72 n v1 v2 (1 : Int32) μ))
  else
  gd v1 12000 ((if (μ.1 17 v1.toNatClampNeg) = ((-1) : Int32) then
  X7_isOfKind_88 n v1 v2 (1 : Int32) μ
  else
  X7_isOfKind_88 n v1 v2 (0 : Int32) μ)))))
def X7_measure (n : Nat) (v1 : Int32) (v2 : Int32) (μ : Mu) : Option (Int32 × Mu) :=
  (if v2 = (0 : Int32) then
  gd v1 12000 (some ((μ.1 16 v1.toNatClampNeg), μ))
  else
  (if v2 = (1 : Int32) then
  gd v1 12000 (some ((-(μ.1 16 v1.toNatClampNeg)), μ))
  else
  (X7_rankOf n v1 μ).bind (fun r45 =>
  some (r45.1, r45.2))))
def X7_worthOfTried_85 (n : Nat) (v1 : Nat) (v2 : Int32) (s0 : Int32) (s1 : Int32) (μ : Mu) : Option (Int32 × Mu) :=
  some ((s0 + s1), μ)
def X7_worthOfTried_44 (n : Nat) (v1 : Nat) (v2 : Int32) (v3 : Nat) (v4 : Int32) (s1 : Int32) (μ : Mu) : Option (Int32 × Mu) :=
  kd v3 6 (gd v2 6 ((if ((si μ 15 8 s1).1 v3 1) = ((si μ 15 8 s1).1 v1 1) then
  gd v4 12000 (X7_worthOfTried_85 n v1 v2 ((si μ 15 8 s1).1 8 v2.toNatClampNeg) ((si μ 15 8 s1).1 16 v4.toNatClampNeg) (si μ 15 8 s1))
  else
  gd v4 12000 (X7_worthOfTried_85 n v1 v2 ((si μ 15 8 s1).1 8 v2.toNatClampNeg) (-((si μ 15 8 s1).1 16 v4.toNatClampNeg)) (si μ 15 8 s1)))))
def X7_worthOfTried (n : Nat) (v1 : Nat) (v2 : Int32) (μ : Mu) : Option (Int32 × Mu) :=
  kd v1 6 (gd v2 6 ((X6_inPits n (57 + 2 * v2.toNatClampNeg) μ).bind (fun r13 =>
  (X7_indexAt n (57 + 2 * v2.toNatClampNeg) r13.1 r13.2).bind (fun r16 =>
  (if (r16.2.1 8 v2.toNatClampNeg) ≤ 0 then
  (X7_rankOf n r16.1 r16.2).bind (fun r41 =>
  X7_worthOfTried_44 n v1 v2 (57 + 2 * v2.toNatClampNeg) r16.1 r41.1 r41.2)
  else
  X7_worthOfTried_44 n v1 v2 (57 + 2 * v2.toNatClampNeg) r16.1 (0 : Int32) r16.2)))))
def X8_isOwn_55 (n : Nat) (v1 : Nat) (v2 : Int64) (s0 : Int32) (μ : Mu) : Option (Int32 × Mu) :=
  bz s0 (some (s0, μ))
def X8_isOwn_54 (n : Nat) (v1 : Nat) (v2 : Int64) (μ : Mu) : Option (Int32 × Mu) :=
  X8_isOwn_55 n v1 v2 (0 : Int32) μ
def X8_isOwn (n : Nat) (v1 : Nat) (v2 : Int64) (μ : Mu) : Option (Int32 × Mu) :=
  kd v1 6 ((if (lg_cmp (v2 - (((μ.1 v1 1) * (μ.1 1 1)).toInt64)) (0 : Int64)) < 0 then
  X8_isOwn_54 n v1 v2 μ
  else
  (if 0 ≤ (lg_cmp (v2 - (((μ.1 v1 1) * (μ.1 1 1)).toInt64)) ((μ.1 1 1).toInt64)) then
  X8_isOwn_54 n v1 v2 μ
  else
  (X5_isLacking n 1 (v2.toInt32) μ).bind (fun r44 =>
  (if r44.1 = 0 then
  X8_isOwn_55 n v1 v2 (1 : Int32) r44.2
  else
  X8_isOwn_54 n v1 v2 r44.2)))))
def X8_scatter_76 (n : Nat) (v1 : Nat) (v2 : Int32) (k35 : Int32 → Int32 → Int32 → Mu → Option (Int32 × Mu)) (v5 : Int32) (v6 : Int32) (v7 : Int32) (μ : Mu) : Option (Int32 × Mu) :=
  gd v6 14 (k35 v5 v6 (v7 + ((-1) : Int32)) (si μ (v1 + 1) v6.toNatClampNeg ((μ.1 (v1 + 1) v6.toNatClampNeg) + (1 : Int32))))
def X8_scatter_35b (n : Nat) (v1 : Nat) (v2 : Int32) (k35 : Int32 → Int32 → Int32 → Mu → Option (Int32 × Mu)) (v5 : Int32) (v6 : Int32) (v7 : Int32) (μ : Mu) : Option (Int32 × Mu) :=
  (if v7 ≤ 0 then
  some (v6, μ)
  else
  gd (v5 + v6) 28 ((if (μ.1 3 (v5 + v6).toNatClampNeg) = v2 then
  (if (μ.1 1 6) = 0 then
  X8_scatter_76 n v1 v2 k35 v5 (μ.1 3 (v5 + v6).toNatClampNeg) v7 μ
  else
  gd (v5 + (μ.1 3 (v5 + v6).toNatClampNeg)) 28 (X8_scatter_76 n v1 v2 k35 v5 (μ.1 3 (v5 + (μ.1 3 (v5 + v6).toNatClampNeg)).toNatClampNeg) v7 μ))
  else
  X8_scatter_76 n v1 v2 k35 v5 (μ.1 3 (v5 + v6).toNatClampNeg) v7 μ)))
def X8_scatter_35 (n : Nat) (v1 : Nat) (v2 : Int32) (v5 : Int32) (v6 : Int32) (v7 : Int32) (μ : Mu) : Option (Int32 × Mu) := lpF (fun _ _ _ _ => none) (X8_scatter_35b n v1 v2) n v5 v6 v7 μ
def X8_scatter (n : Nat) (v1 : Nat) (v2 : Int32) (μ : Mu) : Option (Int32 × Mu) :=
  kd v1 6 (gd v2 14 (X8_scatter_35 n v1 v2 ((μ.1 v1 1) * (14 : Int32)) v2 (μ.1 (v1 + 1) v2.toNatClampNeg) (si μ (v1 + 1) v2.toNatClampNeg (0 : Int32))))
def X8_takeOpposite_50 (n : Nat) (v1 : Nat) (μ : Mu) : Option (Int32 × Mu) :=
  some ((0 : Int32), μ)
def X8_takeOpposite (n : Nat) (v1 : Nat) (μ : Mu) : Option (Int32 × Mu) :=
  kd v1 6 ((if (μ.1 1 4) = (1 : Int32) then
  gd (μ.1 6 0) 14 ((if (μ.1 (v1 + 1) (μ.1 6 0).toNatClampNeg) = (1 : Int32) then
  gd ((((2 : Int32) * (μ.1 1 1)) - (1 : Int32)) - (μ.1 6 0)) 14 ((if (μ.1 (v1 + 1) ((((2 : Int32) * (μ.1 1 1)) - (1 : Int32)) - (μ.1 6 0)).toNatClampNeg) = 0 then
  X8_takeOpposite_50 n v1 μ
  else
  gd ((si μ (v1 + 1) ((((2 : Int32) * (μ.1 1 1)) - (1 : Int32)) - (μ.1 6 0)).toNatClampNeg (0 : Int32)).1 6 0) 14 (gd ((12 : Int32) + ((si (si μ (v1 + 1) ((((2 : Int32) * (μ.1 1 1)) - (1 : Int32)) - (μ.1 6 0)).toNatClampNeg (0 : Int32)) (v1 + 1) ((si μ (v1 + 1) ((((2 : Int32) * (μ.1 1 1)) - (1 : Int32)) - (μ.1 6 0)).toNatClampNeg (0 : Int32)).1 6 0).toNatClampNeg (0 : Int32)).1 v1 1)) 14 (some (((μ.1 (v1 + 1) ((((2 : Int32) * (μ.1 1 1)) - (1 : Int32)) - (μ.1 6 0)).toNatClampNeg) + (1 : Int32)), (si (si (si μ (v1 + 1) ((((2 : Int32) * (μ.1 1 1)) - (1 : Int32)) - (μ.1 6 0)).toNatClampNeg (0 : Int32)) (v1 + 1) ((si μ (v1 + 1) ((((2 : Int32) * (μ.1 1 1)) - (1 : Int32)) - (μ.1 6 0)).toNatClampNeg (0 : Int32)).1 6 0).toNatClampNeg (0 : Int32)) (v1 + 1) ((12 : Int32) + ((si (si μ (v1 + 1) ((((2 : Int32) * (μ.1 1 1)) - (1 : Int32)) - (μ.1 6 0)).toNatClampNeg (0 : Int32)) (v1 + 1) ((si μ (v1 + 1) ((((2 : Int32) * (μ.1 1 1)) - (1 : Int32)) - (μ.1 6 0)).toNatClampNeg (0 : Int32)).1 6 0).toNatClampNeg (0 : Int32)).1 v1 1)).toNatClampNeg (((si (si μ (v1 + 1) ((((2 : Int32) * (μ.1 1 1)) - (1 : Int32)) - (μ.1 6 0)).toNatClampNeg (0 : Int32)) (v1 + 1) ((si μ (v1 + 1) ((((2 : Int32) * (μ.1 1 1)) - (1 : Int32)) - (μ.1 6 0)).toNatClampNeg (0 : Int32)).1 6 0).toNatClampNeg (0 : Int32)).1 (v1 + 1) ((12 : Int32) + ((si (si μ (v1 + 1) ((((2 : Int32) * (μ.1 1 1)) - (1 : Int32)) - (μ.1 6 0)).toNatClampNeg (0 : Int32)) (v1 + 1) ((si μ (v1 + 1) ((((2 : Int32) * (μ.1 1 1)) - (1 : Int32)) - (μ.1 6 0)).toNatClampNeg (0 : Int32)).1 6 0).toNatClampNeg (0 : Int32)).1 v1 1)).toNatClampNeg) + ((μ.1 (v1 + 1) ((((2 : Int32) * (μ.1 1 1)) - (1 : Int32)) - (μ.1 6 0)).toNatClampNeg) + (1 : Int32)))))))))
  else
  X8_takeOpposite_50 n v1 μ))
  else
  X8_takeOpposite_50 n v1 μ))
def X8_takeGrand_87 (n : Nat) (v1 : Nat) (k47 : Int32 → Int32 → Int32 → Mu → Option (Int32 × Mu)) (v2 : Int32) (v3 : Int32) (v4 : Int32) (μ : Mu) : Option (Int32 × Mu) :=
  gd v4 14 (k47 v2 (v3 + (μ.1 (v1 + 1) v4.toNatClampNeg)) (v4 + ((-1) : Int32)) μ)
def X8_takeGrand_143b (n : Nat) (v1 : Nat) (k143 : Int32 → Int32 → Mu → Option (Int32 × Mu)) (v3 : Int32) (v5 : Int32) (μ : Mu) : Option (Int32 × Mu) :=
  (if (μ.1 6 0) < v5 then
  gd ((12 : Int32) + (μ.1 v1 1)) 14 (some (v3, (si μ (v1 + 1) ((12 : Int32) + (μ.1 v1 1)).toNatClampNeg ((μ.1 (v1 + 1) ((12 : Int32) + (μ.1 v1 1)).toNatClampNeg) + v3))))
  else
  gd v5 14 (k143 v3 (v5 + (1 : Int32)) (si μ (v1 + 1) v5.toNatClampNeg (0 : Int32))))
def X8_takeGrand_143 (n : Nat) (v1 : Nat) (v3 : Int32) (v5 : Int32) (μ : Mu) : Option (Int32 × Mu) := lpF (fun _ _ _ => none) (X8_takeGrand_143b n v1) n v3 v5 μ
def X8_takeGrand_137 (n : Nat) (v1 : Nat) (v3 : Int32) (v4 : Int32) (μ : Mu) : Option (Int32 × Mu) :=
  X8_takeGrand_143 n v1 v3 (v4 + (1 : Int32)) μ
def X8_takeGrand_103 (n : Nat) (v1 : Nat) (v3 : Int32) (v4 : Int32) (μ : Mu) : Option (Int32 × Mu) :=
  (if (μ.1 1 4) = (3 : Int32) then
  (X6_inRow n v1 ((1 : Int32) - (μ.1 v1 1)) (μ.1 1 1) μ).bind (fun r129 =>
  (if v3 = r129.1 then
  some ((0 : Int32), r129.2)
  else
  X8_takeGrand_137 n v1 v3 v4 r129.2))
  else
  X8_takeGrand_137 n v1 v3 v4 μ)
def X8_takeGrand_47b (n : Nat) (v1 : Nat) (k47 : Int32 → Int32 → Int32 → Mu → Option (Int32 × Mu)) (v2 : Int32) (v3 : Int32) (v4 : Int32) (μ : Mu) : Option (Int32 × Mu) :=
  (if v4 < v2 then
  X8_takeGrand_103 n v1 v3 v4 μ
  else
  (X5_isLacking n 1 v4 μ).bind (fun r59 =>
  (if r59.1 = 0 then
  gd v4 14 ((if (r59.2.1 (v1 + 1) v4.toNatClampNeg) = (2 : Int32) then
  X8_takeGrand_87 n v1 k47 v2 v3 v4 r59.2
  else
  (if (r59.2.1 (v1 + 1) v4.toNatClampNeg) = (3 : Int32) then
  X8_takeGrand_87 n v1 k47 v2 v3 v4 r59.2
  else
  X8_takeGrand_103 n v1 v3 v4 r59.2)))
  else
  X8_takeGrand_87 n v1 k47 v2 v3 v4 r59.2)))
def X8_takeGrand_47 (n : Nat) (v1 : Nat) (v2 : Int32) (v3 : Int32) (v4 : Int32) (μ : Mu) : Option (Int32 × Mu) := lpF (fun _ _ _ _ => none) (X8_takeGrand_47b n v1) n v2 v3 v4 μ
def X8_takeGrand_24 (n : Nat) (v1 : Nat) (μ : Mu) : Option (Int32 × Mu) :=
  X8_takeGrand_47 n v1 (((1 : Int32) - (μ.1 v1 1)) * (μ.1 1 1)) (0 : Int32) (μ.1 6 0) μ
def X8_takeGrand (n : Nat) (v1 : Nat) (μ : Mu) : Option (Int32 × Mu) :=
  kd v1 6 ((if (μ.1 1 4) = (2 : Int32) then
  X8_takeGrand_24 n v1 μ
  else
  (if (μ.1 1 4) = (3 : Int32) then
  X8_takeGrand_24 n v1 μ
  else
  some ((0 : Int32), μ))))
def X9_lay_12b (n : Nat) (v0 : Nat) (v1 : Int32) (v2 : Int32) (k12 : Int32 → Mu → Option (Unit × Mu)) (v3 : Int32) (μ : Mu) : Option (Unit × Mu) :=
  (if (40 : Int32) ≤ v3 then
  some ((), μ)
  else
  gd v3 40 (k12 (v3 + (1 : Int32)) (sj μ (v0 + 1) v3.toNatClampNeg (0 : Int64))))
def X9_lay_12 (n : Nat) (v0 : Nat) (v1 : Int32) (v2 : Int32) (v3 : Int32) (μ : Mu) : Option (Unit × Mu) := lpF (fun _ _ => none) (X9_lay_12b n v0 v1 v2) n v3 μ
def X9_lay (n : Nat) (v0 : Nat) (v1 : Int32) (v2 : Int32) (μ : Mu) : Option (Unit × Mu) :=
  kd v0 9 (X9_lay_12 n v0 v1 v2 (0 : Int32) (si (si μ v0 1 v1) v0 2 v2))
def X9_cut (n : Nat) (v0 : Nat) (v1 : Int64) (μ : Mu) : Option (Int64 × Mu) :=
  kd v0 9 ((if (μ.1 v0 1) = (0 : Int32) then
  some ((((v1.toInt32).toInt8.toInt32).toInt64), μ)
  else
  (if (μ.1 v0 1) = (1 : Int32) then
  some ((((v1.toInt32).toInt16.toInt32).toInt64), μ)
  else
  (if (μ.1 v0 1) = (2 : Int32) then
  some (((v1.toInt32).toInt64), μ)
  else
  some (v1, μ)))))
def X10_begin (n : Nat) (v1 : Nat) (μ : Mu) : Option (Unit × Mu) :=
  kd v1 6 ((X6_copy n 153 v1 μ).bind (fun r5 =>
  some ((), (si (si r5.2 22 2 (0 : Int32)) 22 3 (0 : Int32)))))
def X10_isMarkedAgain_2b (n : Nat) (k2 : Int32 → Mu → Option (Int32 × Mu)) (v1 : Int32) (μ : Mu) : Option (Int32 × Mu) :=
  (if (μ.1 22 2) ≤ v1 then
  some ((0 : Int32), μ)
  else
  gd v1 61 (gd (μ.1 22 2) 61 ((if (μ.1 24 v1.toNatClampNeg) = (μ.1 24 (μ.1 22 2).toNatClampNeg) then
  some ((1 : Int32), μ)
  else
  k2 (v1 + (1 : Int32)) μ))))
def X10_isMarkedAgain_2 (n : Nat) (v1 : Int32) (μ : Mu) : Option (Int32 × Mu) := lpF (fun _ _ => none) (X10_isMarkedAgain_2b n) n v1 μ
def X10_isMarkedAgain (n : Nat) (μ : Mu) : Option (Int32 × Mu) :=
  X10_isMarkedAgain_2 n (0 : Int32) μ
def X11_feed (n : Nat) (v1 : Int32) (v2 : Int32) (v3 : Int32) (v4 : Int32) (v5 : Int32) (μ : Mu) : Option (Int32 × Mu) :=
  (if ((μ.1 12 4) + (20 : Int32)) ≤ (500 : Int32) then
  (X4_append n v1 μ).bind (fun r23 =>
  (X4_append n v2 r23.2).bind (fun r31 =>
  (X4_append n v3 r31.2).bind (fun r39 =>
  (X4_append n v4 r39.2).bind (fun r48 =>
  (X4_append n v5 r48.2).bind (fun r57 =>
  some ((r57.2.1 12 4), r57.2))))))
  else
  some (((-1) : Int32), μ))
def X11_fault (n : Nat) (v1 : Int32) (μ : Mu) : Option (Int32 × Mu) :=
  (if v1 = (0 : Int32) then
  some ((μ.1 12 2), μ)
  else
  (if v1 = (1 : Int32) then
  some ((μ.1 12 3), μ)
  else
  some (((-1) : Int32), μ)))
def X11_mover (n : Nat) (μ : Mu) : Option (Int32 × Mu) :=
  some ((μ.1 53 1), μ)
def X11_place_40 (n : Nat) (s0 : Int32) (μ : Mu) : Option (Int32 × Mu) :=
  some (s0, μ)
def X11_place (n : Nat) (μ : Mu) : Option (Int32 × Mu) :=
  (X6_inPits n 53 μ).bind (fun r4 =>
  (X1_positionsOf n r4.1 r4.2).bind (fun r13 =>
  (if r13.1 ≤ (6000 : Int32) then
  (X1_numberOf n 53 r4.1 r13.2).bind (fun r37 =>
  X11_place_40 n r37.1 r37.2)
  else
  X11_place_40 n ((-1000) : Int32) r13.2)))
def X11_has_14 (n : Nat) (v0 : Int32) (v1 : Int32) (s0 : Int32) (μ : Mu) : Option (Int32 × Mu) :=
  bz s0 (some (s0, μ))
def X11_has (n : Nat) (v0 : Int32) (v1 : Int32) (μ : Mu) : Option (Int32 × Mu) :=
  (if (((v0.toUInt32 >>> (v1.toUInt32 &&& Int32.toUInt32 31)).toInt32) &&& (1 : Int32)) = (1 : Int32) then
  X11_has_14 n v0 v1 (1 : Int32) μ
  else
  X11_has_14 n v0 v1 (0 : Int32) μ)
def X11_seedsOrLacking_21 (n : Nat) (v1 : Nat) (v2 : Int32) (s0 : Int32) (μ : Mu) : Option (Int32 × Mu) :=
  some (s0, μ)
def X11_seedsOrLacking (n : Nat) (v1 : Nat) (v2 : Int32) (μ : Mu) : Option (Int32 × Mu) :=
  kd v1 6 ((X5_isLacking n 1 v2 μ).bind (fun r5 =>
  (if r5.1 = 0 then
  gd v2 14 (X11_seedsOrLacking_21 n v1 v2 (r5.2.1 (v1 + 1) v2.toNatClampNeg) r5.2)
  else
  X11_seedsOrLacking_21 n v1 v2 ((-1) : Int32) r5.2)))
def X12_thrown (n : Nat) (μ : Mu) : Option (Int32 × Mu) :=
  some ((μ.1 171 5), μ)
def X12_fails (n : Nat) (v1 : Int32) (μ : Mu) : Option (Int32 × Mu) :=
  some ((0 : Int32), (si μ 171 5 v1))
def X12_within_18 (n : Nat) (v0 : Int64) (v2 : Int64) (v4 : Int64) (s0 : Int32) (μ : Mu) : Option (Int32 × Mu) :=
  bz s0 (some (s0, μ))
def X12_within_17 (n : Nat) (v0 : Int64) (v2 : Int64) (v4 : Int64) (μ : Mu) : Option (Int32 × Mu) :=
  X12_within_18 n v0 v2 v4 (0 : Int32) μ
def X12_within (n : Nat) (v0 : Int64) (v2 : Int64) (v4 : Int64) (μ : Mu) : Option (Int32 × Mu) :=
  (if (lg_cmp v0 v2) < 0 then
  X12_within_17 n v0 v2 v4 μ
  else
  (if 0 < (lg_cmp v0 v4) then
  X12_within_17 n v0 v2 v4 μ
  else
  X12_within_18 n v0 v2 v4 (1 : Int32) μ))
def X12_copies_2b (n : Nat) (v0 : Nat) (v1 : Nat) (k2 : Int32 → Mu → Option (Unit × Mu)) (v2 : Int32) (μ : Mu) : Option (Unit × Mu) :=
  (if (25 : Int32) ≤ v2 then
  some ((), μ)
  else
  gd v2 (oN v0) (gd v2 (oN v1) (k2 (v2 + (1 : Int32)) (si μ v1 v2.toNatClampNeg (μ.1 v0 v2.toNatClampNeg)))))
def X12_copies_2 (n : Nat) (v0 : Nat) (v1 : Nat) (v2 : Int32) (μ : Mu) : Option (Unit × Mu) := lpF (fun _ _ => none) (X12_copies_2b n v0 v1) n v2 μ
def X12_copies (n : Nat) (v0 : Nat) (v1 : Nat) (μ : Mu) : Option (Unit × Mu) :=
  kd v0 20 (kd v1 20 (X12_copies_2 n v0 v1 (0 : Int32) μ))
def X12_feed_76 (n : Nat) (v1 : Int32) (v2 : Int32) (v3 : Int32) (v4 : Int32) (v5 : Int32) (k23 : Int32 → Mu → Option (Int32 × Mu)) (v6 : Int32) (s0 : Int32) (μ : Mu) : Option (Int32 × Mu) :=
  gd (μ.1 171 7) 500 (k23 (v6 + (1 : Int32)) (si (si μ 177 (μ.1 171 7).toNatClampNeg (((s0.toUInt32 >>> (((24 : Int32) - ((8 : Int32) * (v6 &&& (3 : Int32)))).toUInt32 &&& Int32.toUInt32 31)).toInt32) &&& (255 : Int32))) 171 7 (((si μ 177 (μ.1 171 7).toNatClampNeg (((s0.toUInt32 >>> (((24 : Int32) - ((8 : Int32) * (v6 &&& (3 : Int32)))).toUInt32 &&& Int32.toUInt32 31)).toInt32) &&& (255 : Int32))).1 171 7) + (1 : Int32))))
def X12_feed_23b (n : Nat) (v1 : Int32) (v2 : Int32) (v3 : Int32) (v4 : Int32) (v5 : Int32) (k23 : Int32 → Mu → Option (Int32 × Mu)) (v6 : Int32) (μ : Mu) : Option (Int32 × Mu) :=
  (if (20 : Int32) ≤ v6 then
  some ((μ.1 171 7), μ)
  else
  (if (4 : Int32) ≤ v6 then
  (if (8 : Int32) ≤ v6 then
  (if (12 : Int32) ≤ v6 then
  (if (16 : Int32) ≤ v6 then
  X12_feed_76 n v1 v2 v3 v4 v5 k23 v6 v5 μ
  else
  X12_feed_76 n v1 v2 v3 v4 v5 k23 v6 v4 μ)
  else
  X12_feed_76 n v1 v2 v3 v4 v5 k23 v6 v3 μ)
  else
  X12_feed_76 n v1 v2 v3 v4 v5 k23 v6 v2 μ)
  else
  X12_feed_76 n v1 v2 v3 v4 v5 k23 v6 v1 μ))
def X12_feed_23 (n : Nat) (v1 : Int32) (v2 : Int32) (v3 : Int32) (v4 : Int32) (v5 : Int32) (v6 : Int32) (μ : Mu) : Option (Int32 × Mu) := lpF (fun _ _ => none) (X12_feed_23b n v1 v2 v3 v4 v5) n v6 μ
def X12_feed (n : Nat) (v1 : Int32) (v2 : Int32) (v3 : Int32) (v4 : Int32) (v5 : Int32) (μ : Mu) : Option (Int32 × Mu) :=
  (if (((si μ 171 5 (0 : Int32)).1 171 7) + (20 : Int32)) ≤ (500 : Int32) then
  X12_feed_23 n v1 v2 v3 v4 v5 (0 : Int32) (si μ 171 5 (0 : Int32))
  else
  some (((-1) : Int32), (si μ 171 5 (0 : Int32))))
def X12_see_18 (n : Nat) (v1 : Int32) (s0 : Int32) (μ : Mu) : Option (Int32 × Mu) :=
  some (s0, μ)
def X12_see (n : Nat) (v1 : Int32) (μ : Mu) : Option (Int32 × Mu) :=
  (if (μ.1 171 8) ≤ v1 then
  X12_see_18 n v1 (0 : Int32) μ
  else
  gd v1 500 (X12_see_18 n v1 (μ.1 177 v1.toNatClampNeg) μ))
def X12_isLetter_17 (n : Nat) (v0 : Int32) (s0 : Int32) (μ : Mu) : Option (Int32 × Mu) :=
  bz s0 (some (s0, μ))
def X12_isLetter_16 (n : Nat) (v0 : Int32) (μ : Mu) : Option (Int32 × Mu) :=
  X12_isLetter_17 n v0 (0 : Int32) μ
def X12_isLetter (n : Nat) (v0 : Int32) (μ : Mu) : Option (Int32 × Mu) :=
  (if v0 < (97 : Int32) then
  X12_isLetter_16 n v0 μ
  else
  (if (122 : Int32) < v0 then
  X12_isLetter_16 n v0 μ
  else
  X12_isLetter_17 n v0 (1 : Int32) μ))
def X12_isDigit_17 (n : Nat) (v0 : Int32) (s0 : Int32) (μ : Mu) : Option (Int32 × Mu) :=
  bz s0 (some (s0, μ))
def X12_isDigit_16 (n : Nat) (v0 : Int32) (μ : Mu) : Option (Int32 × Mu) :=
  X12_isDigit_17 n v0 (0 : Int32) μ
def X12_isDigit (n : Nat) (v0 : Int32) (μ : Mu) : Option (Int32 × Mu) :=
  (if v0 < (48 : Int32) then
  X12_isDigit_16 n v0 μ
  else
  (if (57 : Int32) < v0 then
  X12_isDigit_16 n v0 μ
  else
  X12_isDigit_17 n v0 (1 : Int32) μ))
def X12_reads_39 (n : Nat) (k0 : Mu → Option (Unit × Mu)) (μ : Mu) : Option (Unit × Mu) :=
  k0 (si μ 171 9 ((μ.1 171 9) + (1 : Int32)))
def X12_reads_262 (n : Nat) (μ : Mu) : Option (Unit × Mu) :=
  some ((), μ)
def X12_reads_94b (n : Nat) (k94 : Mu → Option (Unit × Mu)) (μ : Mu) : Option (Unit × Mu) :=
  (X12_see n (μ.1 171 9) μ).bind (fun r99 =>
  (X12_isLetter n r99.1 r99.2).bind (fun r102 =>
  (if r102.1 = 0 then
  X12_reads_262 n (si r102.2 171 11 (1 : Int32))
  else
  k94 (si r102.2 171 9 ((r102.2.1 171 9) + (1 : Int32))))))
def X12_reads_94 (n : Nat) (μ : Mu) : Option (Unit × Mu) := lpF (fun _ => none) (X12_reads_94b n) n  μ
def X12_reads_196 (n : Nat) (k141 : Mu → Option (Unit × Mu)) (s1 : Int32) (μ : Mu) : Option (Unit × Mu) :=
  k141 (si (si μ 171 12 s1) 171 9 (((si μ 171 12 s1).1 171 9) + (1 : Int32)))
def X12_reads_231 (n : Nat) (s1 : Int32) (μ : Mu) : Option (Unit × Mu) :=
  X12_reads_262 n (si μ 171 11 s1)
def X12_reads_141b (n : Nat) (k141 : Mu → Option (Unit × Mu)) (μ : Mu) : Option (Unit × Mu) :=
  (X12_see n (μ.1 171 9) μ).bind (fun r146 =>
  (X12_isDigit n r146.1 r146.2).bind (fun r149 =>
  (if r149.1 = 0 then
  (if ((r149.2.1 171 9) - (r149.2.1 171 10)) ≤ (3 : Int32) then
  X12_reads_231 n (2 : Int32) r149.2
  else
  X12_reads_231 n (4 : Int32) r149.2)
  else
  (if (3 : Int32) ≤ ((r149.2.1 171 9) - (r149.2.1 171 10)) then
  X12_reads_196 n k141 (r149.2.1 171 12) r149.2
  else
  gd (r149.2.1 171 9) 500 (X12_reads_196 n k141 ((((10 : Int32) * (r149.2.1 171 12)) + (r149.2.1 177 (r149.2.1 171 9).toNatClampNeg)) - (48 : Int32)) r149.2)))))
def X12_reads_141 (n : Nat) (μ : Mu) : Option (Unit × Mu) := lpF (fun _ => none) (X12_reads_141b n) n  μ
def X12_reads_249 (n : Nat) (s1 : Int32) (μ : Mu) : Option (Unit × Mu) :=
  X12_reads_262 n (si (si μ 171 11 s1) 171 9 (((si μ 171 11 s1).1 171 9) + (1 : Int32)))
def X12_reads_52 (n : Nat) (μ : Mu) : Option (Unit × Mu) :=
  (if ((si μ 171 10 (μ.1 171 9)).1 171 9) < ((si μ 171 10 (μ.1 171 9)).1 171 8) then
  gd ((si μ 171 10 (μ.1 171 9)).1 171 9) 500 ((X12_isLetter n ((si μ 171 10 (μ.1 171 9)).1 177 ((si μ 171 10 (μ.1 171 9)).1 171 9).toNatClampNeg) (si μ 171 10 (μ.1 171 9))).bind (fun r88 =>
  (if r88.1 = 0 then
  (X12_isDigit n ((si μ 171 10 (μ.1 171 9)).1 177 ((si μ 171 10 (μ.1 171 9)).1 171 9).toNatClampNeg) r88.2).bind (fun r130 =>
  (if r130.1 = 0 then
  (if ((si μ 171 10 (μ.1 171 9)).1 177 ((si μ 171 10 (μ.1 171 9)).1 171 9).toNatClampNeg) = (59 : Int32) then
  X12_reads_249 n (3 : Int32) r130.2
  else
  X12_reads_249 n (4 : Int32) r130.2)
  else
  X12_reads_141 n (si r130.2 171 12 (0 : Int32))))
  else
  X12_reads_94 n r88.2)))
  else
  some ((), (si (si μ 171 10 (μ.1 171 9)) 171 11 (0 : Int32))))
def X12_reads_0b (n : Nat) (k0 : Mu → Option (Unit × Mu)) (μ : Mu) : Option (Unit × Mu) :=
  (if (μ.1 171 8) ≤ (μ.1 171 9) then
  X12_reads_52 n μ
  else
  gd (μ.1 171 9) 500 ((if (μ.1 177 (μ.1 171 9).toNatClampNeg) = (32 : Int32) then
  X12_reads_39 n k0 μ
  else
  (if (μ.1 177 (μ.1 171 9).toNatClampNeg) = (10 : Int32) then
  X12_reads_39 n k0 μ
  else
  X12_reads_52 n μ))))
def X12_reads_0 (n : Nat) (μ : Mu) : Option (Unit × Mu) := lpF (fun _ => none) (X12_reads_0b n) n  μ
def X12_reads (n : Nat) (μ : Mu) : Option (Unit × Mu) :=
  X12_reads_0 n μ
def X12_blames_22 (n : Nat) (v1 : Int32) (s1 : Int32) (μ : Mu) : Option (Unit × Mu) :=
  some ((), (si (si μ 171 13 s1) 171 14 ((si μ 171 13 s1).1 171 10)))
def X12_blames (n : Nat) (v1 : Int32) (μ : Mu) : Option (Unit × Mu) :=
  (if (μ.1 171 13) = 0 then
  (if (μ.1 171 11) = (4 : Int32) then
  X12_blames_22 n v1 (1 : Int32) μ
  else
  X12_blames_22 n v1 v1 μ)
  else
  some ((), μ))
def X12_number_64 (n : Nat) (v1 : Int32) (v2 : Int32) (s0 : Int32) (μ : Mu) : Option (Int32 × Mu) :=
  some (s0, μ)
def X12_number_52 (n : Nat) (v1 : Int32) (v2 : Int32) (v3 : Int32) (μ : Mu) : Option (Int32 × Mu) :=
  (if (μ.1 171 13) = 0 then
  X12_number_64 n v1 v2 v3 μ
  else
  X12_number_64 n v1 v2 v1 μ)
def X12_number_36 (n : Nat) (v1 : Int32) (v2 : Int32) (μ : Mu) : Option (Int32 × Mu) :=
  (if (μ.1 171 13) = 0 then
  (X12_reads n μ).bind (fun r49 =>
  X12_number_52 n v1 v2 (μ.1 171 12) r49.2)
  else
  X12_number_52 n v1 v2 (μ.1 171 12) μ)
def X12_number (n : Nat) (v1 : Int32) (v2 : Int32) (μ : Mu) : Option (Int32 × Mu) :=
  (if (μ.1 171 11) = (2 : Int32) then
  (X12_within n ((μ.1 171 12).toInt64) (v1.toInt64) (v2.toInt64) μ).bind (fun r25 =>
  (if r25.1 = 0 then
  (X12_blames n (3 : Int32) r25.2).bind (fun r33 =>
  X12_number_36 n v1 v2 r33.2)
  else
  X12_number_36 n v1 v2 r25.2))
  else
  (X12_blames n (2 : Int32) μ).bind (fun r10 =>
  X12_number_36 n v1 v2 r10.2))
def X12_readLay_42 (n : Nat) (k2 : Int32 → Mu → Option (Unit × Mu)) (v1 : Int32) (μ : Mu) : Option (Unit × Mu) :=
  (X12_number n (0 : Int32) (20 : Int32) μ).bind (fun r46 =>
  (if (r46.2.1 171 13) = 0 then
  gd ((13 : Int32) + v1) 25 ((if ((si r46.2 173 ((13 : Int32) + v1).toNatClampNeg r46.1).1 171 11) = (2 : Int32) then
  k2 (v1 + (1 : Int32)) (si r46.2 173 ((13 : Int32) + v1).toNatClampNeg r46.1)
  else
  some ((), (si r46.2 173 ((13 : Int32) + v1).toNatClampNeg r46.1))))
  else
  some ((), r46.2)))
def X12_readLay_2b (n : Nat) (k2 : Int32 → Mu → Option (Unit × Mu)) (v1 : Int32) (μ : Mu) : Option (Unit × Mu) :=
  (if v1 = ((2 : Int32) * (μ.1 173 1)) then
  (if (μ.1 171 11) = (2 : Int32) then
  (X12_within n ((μ.1 171 12).toInt64) (0 : Int64) (20 : Int64) μ).bind (fun r31 =>
  (if r31.1 = 0 then
  X12_readLay_42 n k2 v1 r31.2
  else
  (X12_blames n (4 : Int32) r31.2).bind (fun r39 =>
  X12_readLay_42 n k2 v1 r39.2)))
  else
  X12_readLay_42 n k2 v1 μ)
  else
  X12_readLay_42 n k2 v1 μ)
def X12_readLay_2 (n : Nat) (v1 : Int32) (μ : Mu) : Option (Unit × Mu) := lpF (fun _ _ => none) (X12_readLay_2b n) n v1 μ
def X12_readLay (n : Nat) (μ : Mu) : Option (Unit × Mu) :=
  X12_readLay_2 n (0 : Int32) μ
def X12_readStored (n : Nat) (μ : Mu) : Option (Unit × Mu) :=
  (X12_number n (0 : Int32) (99 : Int32) μ).bind (fun r4 =>
  (X12_number n (0 : Int32) (99 : Int32) r4.2).bind (fun r12 =>
  some ((), (si (si r12.2 173 11 r4.1) 173 12 r12.1))))
def X12_lacks_19 (n : Nat) (v1 : Int32) (μ : Mu) : Option (Unit × Mu) :=
  some ((), μ)
def X12_lacks (n : Nat) (v1 : Int32) (μ : Mu) : Option (Unit × Mu) :=
  (if (μ.1 171 13) = 0 then
  X12_lacks_19 n v1 (si μ 173 3 ((μ.1 173 3) ||| ((1 : Int32) <<< (v1 &&& 31))))
  else
  X12_lacks_19 n v1 μ)
def X12_isWrong_65 (n : Nat) (k6 : Int32 → Int32 → Int32 → Mu → Option (Int32 × Mu)) (v1 : Int32) (v3 : Int32) (s0 : Int32) (μ : Mu) : Option (Int32 × Mu) :=
  k6 v1 s0 (v3 + (1 : Int32)) μ
def X12_isWrong_60 (n : Nat) (k6 : Int32 → Int32 → Int32 → Mu → Option (Int32 × Mu)) (v1 : Int32) (v3 : Int32) (μ : Mu) : Option (Int32 × Mu) :=
  X12_isWrong_65 n k6 v1 v3 (1 : Int32) μ
def X12_isWrong_64 (n : Nat) (k6 : Int32 → Int32 → Int32 → Mu → Option (Int32 × Mu)) (v1 : Int32) (v3 : Int32) (μ : Mu) : Option (Int32 × Mu) :=
  X12_isWrong_65 n k6 v1 v3 (0 : Int32) μ
def X12_isWrong_87 (n : Nat) (s0 : Int32) (μ : Mu) : Option (Int32 × Mu) :=
  bz s0 (some (s0, μ))
def X12_isWrong_82 (n : Nat) (μ : Mu) : Option (Int32 × Mu) :=
  X12_isWrong_87 n (1 : Int32) μ
def X12_isWrong_6b (n : Nat) (k6 : Int32 → Int32 → Int32 → Mu → Option (Int32 × Mu)) (v1 : Int32) (v2 : Int32) (v3 : Int32) (μ : Mu) : Option (Int32 × Mu) :=
  (if ((2 : Int32) * (μ.1 173 1)) ≤ v3 then
  (if v2 = 0 then
  (if v1 ≤ (40 : Int32) then
  X12_isWrong_87 n (0 : Int32) μ
  else
  X12_isWrong_82 n μ)
  else
  X12_isWrong_82 n μ)
  else
  gd ((13 : Int32) + v3) 25 ((if v2 = 0 then
  (if (μ.1 173 ((13 : Int32) + v3).toNatClampNeg) ≤ 0 then
  X12_isWrong_64 n k6 (v1 + (μ.1 173 ((13 : Int32) + v3).toNatClampNeg)) v3 μ
  else
  (if (((μ.1 173 3) >>> (v3 &&& 31)) &&& (1 : Int32)) = (1 : Int32) then
  X12_isWrong_60 n k6 (v1 + (μ.1 173 ((13 : Int32) + v3).toNatClampNeg)) v3 μ
  else
  X12_isWrong_64 n k6 (v1 + (μ.1 173 ((13 : Int32) + v3).toNatClampNeg)) v3 μ))
  else
  X12_isWrong_60 n k6 (v1 + (μ.1 173 ((13 : Int32) + v3).toNatClampNeg)) v3 μ)))
def X12_isWrong_6 (n : Nat) (v1 : Int32) (v2 : Int32) (v3 : Int32) (μ : Mu) : Option (Int32 × Mu) := lpF (fun _ _ _ _ => none) (X12_isWrong_6b n) n v1 v2 v3 μ
def X12_isWrong (n : Nat) (μ : Mu) : Option (Int32 × Mu) :=
  X12_isWrong_6 n (0 : Int32) (0 : Int32) (0 : Int32) μ
def X12_fault_29 (n : Nat) (v1 : Int32) (s0 : Int32) (μ : Mu) : Option (Int32 × Mu) :=
  some (s0, μ)
def X12_fault (n : Nat) (v1 : Int32) (μ : Mu) : Option (Int32 × Mu) :=
  (if v1 = 0 then
  X12_fault_29 n v1 ((si μ 171 5 (0 : Int32)).1 171 15) (si μ 171 5 (0 : Int32))
  else
  (if v1 = (1 : Int32) then
  X12_fault_29 n v1 ((si μ 171 5 (0 : Int32)).1 171 16) (si μ 171 5 (0 : Int32))
  else
  X12_fault_29 n v1 ((-1) : Int32) (si μ 171 5 (0 : Int32))))
def X12_pitMany (n : Nat) (μ : Mu) : Option (Int32 × Mu) :=
  some (((2 : Int32) * (μ.1 172 1)), μ)
def X12_isPit (n : Nat) (v1 : Int32) (μ : Mu) : Option (Int32 × Mu) :=
  (X12_pitMany n μ).bind (fun r4 =>
  (X12_within n (v1.toInt64) (0 : Int64) ((r4.1 - (1 : Int32)).toInt64) r4.2).bind (fun r10 =>
  bz r10.1 (some (r10.1, r10.2))))
def X12_isLacking_19 (n : Nat) (v1 : Int32) (s0 : Int32) (μ : Mu) : Option (Int32 × Mu) :=
  bz s0 (some (s0, μ))
def X12_isLacking (n : Nat) (v1 : Int32) (μ : Mu) : Option (Int32 × Mu) :=
  (if (((μ.1 172 3) >>> (v1 &&& 31)) &&& (1 : Int32)) = (1 : Int32) then
  X12_isLacking_19 n v1 (1 : Int32) μ
  else
  X12_isLacking_19 n v1 (0 : Int32) μ)
def X12_sideOf_15 (n : Nat) (v1 : Int32) (s0 : Int32) (μ : Mu) : Option (Int32 × Mu) :=
  some (s0, μ)
def X12_sideOf (n : Nat) (v1 : Int32) (μ : Mu) : Option (Int32 × Mu) :=
  (if (μ.1 172 1) ≤ v1 then
  X12_sideOf_15 n v1 (1 : Int32) μ
  else
  X12_sideOf_15 n v1 (0 : Int32) μ)
def X12_pit_40 (n : Nat) (v1 : Int32) (s0 : Int32) (μ : Mu) : Option (Int32 × Mu) :=
  some (s0, μ)
def X12_pit (n : Nat) (v1 : Int32) (μ : Mu) : Option (Int32 × Mu) :=
  (X12_isPit n v1 (si μ 171 5 (0 : Int32))).bind (fun r7 =>
  (if r7.1 = 0 then
  (X12_fails n (1 : Int32) r7.2).bind (fun r15 =>
  some (r15.1, r15.2))
  else
  (X12_isLacking n v1 r7.2).bind (fun r21 =>
  (if r21.1 = 0 then
  gd ((13 : Int32) + v1) 25 (X12_pit_40 n v1 (r21.2.1 172 ((13 : Int32) + v1).toNatClampNeg) r21.2)
  else
  X12_pit_40 n v1 ((-1) : Int32) r21.2))))
def X12_isSide (n : Nat) (v0 : Int32) (μ : Mu) : Option (Int32 × Mu) :=
  (X12_within n (v0.toInt64) (0 : Int64) (1 : Int64) μ).bind (fun r4 =>
  bz r4.1 (some (r4.1, r4.2)))
def X12_store_29 (n : Nat) (v1 : Int32) (s0 : Int32) (μ : Mu) : Option (Int32 × Mu) :=
  some (s0, μ)
def X12_store (n : Nat) (v1 : Int32) (μ : Mu) : Option (Int32 × Mu) :=
  (X12_isSide n v1 (si μ 171 5 (0 : Int32))).bind (fun r6 =>
  (if r6.1 = 0 then
  (X12_fails n (1 : Int32) r6.2).bind (fun r26 =>
  X12_store_29 n v1 r26.1 r26.2)
  else
  gd ((11 : Int32) + v1) 25 (X12_store_29 n v1 (r6.2.1 172 ((11 : Int32) + v1).toNatClampNeg) r6.2)))
def X12_mover (n : Nat) (μ : Mu) : Option (Int32 × Mu) :=
  some (((si μ 171 5 (0 : Int32)).1 172 2), (si μ 171 5 (0 : Int32)))
def X12_takesUp_2b (n : Nat) (k2 : Int32 → Mu → Option (Unit × Mu)) (v1 : Int32) (μ : Mu) : Option (Unit × Mu) :=
  (X12_pitMany n μ).bind (fun r4 =>
  (if r4.1 ≤ v1 then
  some ((), r4.2)
  else
  gd ((13 : Int32) + v1) 25 (gd v1 12 (k2 (v1 + (1 : Int32)) (si r4.2 178 v1.toNatClampNeg (r4.2.1 172 ((13 : Int32) + v1).toNatClampNeg))))))
def X12_takesUp_2 (n : Nat) (v1 : Int32) (μ : Mu) : Option (Unit × Mu) := lpF (fun _ _ => none) (X12_takesUp_2b n) n v1 μ
def X12_takesUp (n : Nat) (μ : Mu) : Option (Unit × Mu) :=
  X12_takesUp_2 n (0 : Int32) μ
def X12_next_157 (n : Nat) (v1 : Int32) (v2 : Int32) (v3 : Int32) (k6 : Int32 → Int32 → Mu → Option (Int32 × Mu)) (v4 : Int32) (v5 : Int32) (μ : Mu) : Option (Int32 × Mu) :=
  k6 v4 (v5 + (1 : Int32)) μ
def X12_next_131 (n : Nat) (v1 : Int32) (v2 : Int32) (v3 : Int32) (k6 : Int32 → Int32 → Mu → Option (Int32 × Mu)) (v5 : Int32) (s0 : Int32) (s1 : Int32) (μ : Mu) : Option (Int32 × Mu) :=
  (X12_pitMany n μ).bind (fun r133 =>
  dv r133.1 ((X12_isLacking n ((s0 + s1) - (s0 + s1) / r133.1 * r133.1) r133.2).bind (fun r142 =>
  (if r142.1 = 0 then
  (if ((s0 + s1) - (s0 + s1) / r133.1 * r133.1) = v3 then
  X12_next_157 n v1 v2 v3 k6 ((s0 + s1) - (s0 + s1) / r133.1 * r133.1) v5 r142.2
  else
  some (((s0 + s1) - (s0 + s1) / r133.1 * r133.1), r142.2))
  else
  X12_next_157 n v1 v2 v3 k6 ((s0 + s1) - (s0 + s1) / r133.1 * r133.1) v5 r142.2))))
def X12_next_104 (n : Nat) (v1 : Int32) (v2 : Int32) (v3 : Int32) (k6 : Int32 → Int32 → Mu → Option (Int32 × Mu)) (v5 : Int32) (v6 : Int32) (μ : Mu) : Option (Int32 × Mu) :=
  (X12_pitMany n μ).bind (fun r109 =>
  dv r109.1 ((if v1 = 0 then
  X12_next_131 n v1 v2 v3 k6 v5 ((v6 + (1 : Int32)) - (v6 + (1 : Int32)) / r109.1 * r109.1) (0 : Int32) r109.2
  else
  X12_next_131 n v1 v2 v3 k6 v5 ((v6 + (1 : Int32)) - (v6 + (1 : Int32)) / r109.1 * r109.1) (r109.2.1 172 1) r109.2)))
def X12_next_80 (n : Nat) (v1 : Int32) (v2 : Int32) (v3 : Int32) (k6 : Int32 → Int32 → Mu → Option (Int32 × Mu)) (v5 : Int32) (v6 : Int32) (s0 : Int32) (μ : Mu) : Option (Int32 × Mu) :=
  (if s0 = 0 then
  X12_next_104 n v1 v2 v3 k6 v5 v6 μ
  else
  (if (μ.1 172 4) = (1 : Int32) then
  some ((100 : Int32), μ)
  else
  X12_next_104 n v1 v2 v3 k6 v5 v6 μ))
def X12_next_79 (n : Nat) (v1 : Int32) (v2 : Int32) (v3 : Int32) (k6 : Int32 → Int32 → Mu → Option (Int32 × Mu)) (v5 : Int32) (v6 : Int32) (μ : Mu) : Option (Int32 × Mu) :=
  X12_next_80 n v1 v2 v3 k6 v5 v6 (0 : Int32) μ
def X12_next_53 (n : Nat) (v1 : Int32) (v2 : Int32) (v3 : Int32) (k6 : Int32 → Int32 → Mu → Option (Int32 × Mu)) (v4 : Int32) (v5 : Int32) (s0 : Int32) (μ : Mu) : Option (Int32 × Mu) :=
  (if v4 = (100 : Int32) then
  X12_next_79 n v1 v2 v3 k6 v5 s0 μ
  else
  (if s0 = ((μ.1 172 1) - (1 : Int32)) then
  X12_next_80 n v1 v2 v3 k6 v5 s0 (1 : Int32) μ
  else
  X12_next_79 n v1 v2 v3 k6 v5 s0 μ))
def X12_next_47 (n : Nat) (v1 : Int32) (v2 : Int32) (v3 : Int32) (k6 : Int32 → Int32 → Mu → Option (Int32 × Mu)) (v4 : Int32) (v5 : Int32) (s0 : Int32) (s1 : Int32) (μ : Mu) : Option (Int32 × Mu) :=
  (X12_pitMany n μ).bind (fun r49 =>
  dv r49.1 (X12_next_53 n v1 v2 v3 k6 v4 v5 ((s0 + s1) - (s0 + s1) / r49.1 * r49.1) r49.2))
def X12_next_6b (n : Nat) (v1 : Int32) (v2 : Int32) (v3 : Int32) (k6 : Int32 → Int32 → Mu → Option (Int32 × Mu)) (v4 : Int32) (v5 : Int32) (μ : Mu) : Option (Int32 × Mu) :=
  (if (36 : Int32) ≤ v5 then
  some (((-1) : Int32), μ)
  else
  (if v4 = (100 : Int32) then
  X12_next_53 n v1 v2 v3 k6 v4 v5 ((μ.1 172 1) - (1 : Int32)) μ
  else
  (if v1 = 0 then
  X12_next_47 n v1 v2 v3 k6 v4 v5 v4 (0 : Int32) μ
  else
  X12_next_47 n v1 v2 v3 k6 v4 v5 v4 (μ.1 172 1) μ)))
def X12_next_6 (n : Nat) (v1 : Int32) (v2 : Int32) (v3 : Int32) (v4 : Int32) (v5 : Int32) (μ : Mu) : Option (Int32 × Mu) := lpF (fun _ _ _ => none) (X12_next_6b n v1 v2 v3) n v4 v5 μ
def X12_next (n : Nat) (v1 : Int32) (v2 : Int32) (v3 : Int32) (μ : Mu) : Option (Int32 × Mu) :=
  X12_next_6 n v1 v2 v3 v2 (0 : Int32) μ
def X12_sum_32 (n : Nat) (v1 : Int32) (k4 : Int32 → Int32 → Mu → Option (Int32 × Mu)) (v3 : Int32) (s0 : Int32) (s1 : Int32) (μ : Mu) : Option (Int32 × Mu) :=
  k4 (s0 + s1) (v3 + (1 : Int32)) μ
def X12_sum_4b (n : Nat) (v1 : Int32) (k4 : Int32 → Int32 → Mu → Option (Int32 × Mu)) (v2 : Int32) (v3 : Int32) (μ : Mu) : Option (Int32 × Mu) :=
  (X12_pitMany n μ).bind (fun r6 =>
  (if r6.1 ≤ v3 then
  some (v2, r6.2)
  else
  (X12_sideOf n v3 r6.2).bind (fun r15 =>
  (if r15.1 = v1 then
  gd v3 12 (X12_sum_32 n v1 k4 v3 v2 (r15.2.1 178 v3.toNatClampNeg) r15.2)
  else
  X12_sum_32 n v1 k4 v3 v2 (0 : Int32) r15.2))))
def X12_sum_4 (n : Nat) (v1 : Int32) (v2 : Int32) (v3 : Int32) (μ : Mu) : Option (Int32 × Mu) := lpF (fun _ _ _ => none) (X12_sum_4b n v1) n v2 v3 μ
def X12_sum (n : Nat) (v1 : Int32) (μ : Mu) : Option (Int32 × Mu) :=
  X12_sum_4 n v1 (0 : Int32) (0 : Int32) μ
def X12_ahead_57 (n : Nat) (v1 : Int32) (s0 : Int32) (μ : Mu) : Option (Int32 × Mu) :=
  some (s0, μ)
def X12_ahead_56 (n : Nat) (v1 : Int32) (μ : Mu) : Option (Int32 × Mu) :=
  X12_ahead_57 n v1 ((-1) : Int32) μ
def X12_ahead_35 (n : Nat) (v1 : Int32) (v2 : Int32) (μ : Mu) : Option (Int32 × Mu) :=
  (if v2 < 0 then
  X12_ahead_56 n v1 μ
  else
  (X12_sideOf n v2 μ).bind (fun r41 =>
  (X12_sideOf n v1 r41.2).bind (fun r46 =>
  (if r41.1 = r46.1 then
  X12_ahead_57 n v1 v2 r46.2
  else
  X12_ahead_56 n v1 r46.2))))
def X12_ahead_4b (n : Nat) (v1 : Int32) (k4 : Int32 → Mu → Option (Int32 × Mu)) (v2 : Int32) (μ : Mu) : Option (Int32 × Mu) :=
  (if v2 < 0 then
  X12_ahead_35 n v1 v2 μ
  else
  (X12_sideOf n v2 μ).bind (fun r10 =>
  (X12_sideOf n v1 r10.2).bind (fun r15 =>
  (if r10.1 = r15.1 then
  (X12_isLacking n v2 r15.2).bind (fun r23 =>
  (if r23.1 = 0 then
  X12_ahead_35 n v1 v2 r23.2
  else
  k4 (v2 + ((-1) : Int32)) r23.2))
  else
  X12_ahead_35 n v1 v2 r15.2))))
def X12_ahead_4 (n : Nat) (v1 : Int32) (v2 : Int32) (μ : Mu) : Option (Int32 × Mu) := lpF (fun _ _ => none) (X12_ahead_4b n v1) n v2 μ
def X12_ahead (n : Nat) (v1 : Int32) (μ : Mu) : Option (Int32 × Mu) :=
  X12_ahead_4 n v1 (v1 - (1 : Int32)) μ
def X12_isFull_47 (n : Nat) (v1 : Int32) (s0 : Int32) (μ : Mu) : Option (Int32 × Mu) :=
  bz s0 (some (s0, μ))
def X12_isFull_46 (n : Nat) (v1 : Int32) (μ : Mu) : Option (Int32 × Mu) :=
  X12_isFull_47 n v1 (0 : Int32) μ
def X12_isFull (n : Nat) (v1 : Int32) (μ : Mu) : Option (Int32 × Mu) :=
  (X12_isPit n v1 μ).bind (fun r2 =>
  (if r2.1 = 0 then
  X12_isFull_46 n v1 r2.2
  else
  (X12_sideOf n v1 r2.2).bind (fun r10 =>
  (if r10.1 = (r10.2.1 172 2) then
  (X12_isLacking n v1 r10.2).bind (fun r24 =>
  (if r24.1 = 0 then
  gd ((13 : Int32) + v1) 25 ((if (r24.2.1 172 ((13 : Int32) + v1).toNatClampNeg) ≤ 0 then
  X12_isFull_46 n v1 r24.2
  else
  X12_isFull_47 n v1 (1 : Int32) r24.2))
  else
  X12_isFull_46 n v1 r24.2))
  else
  X12_isFull_46 n v1 r10.2))))
def X12_puts_2b (n : Nat) (v0 : Nat) (v1 : Int32) (v2 : Nat) (k2 : Int32 → Mu → Option (Unit × Mu)) (v3 : Int32) (μ : Mu) : Option (Unit × Mu) :=
  (if (25 : Int32) ≤ v3 then
  some ((), μ)
  else
  gd v3 (oN v2) (gd (((25 : Int32) * v1) + v3) (oN v0) (k2 (v3 + (1 : Int32)) (si μ v0 (((25 : Int32) * v1) + v3).toNatClampNeg (μ.1 v2 v3.toNatClampNeg)))))
def X12_puts_2 (n : Nat) (v0 : Nat) (v1 : Int32) (v2 : Nat) (v3 : Int32) (μ : Mu) : Option (Unit × Mu) := lpF (fun _ _ => none) (X12_puts_2b n v0 v1 v2) n v3 μ
def X12_puts (n : Nat) (v0 : Nat) (v1 : Int32) (v2 : Nat) (μ : Mu) : Option (Unit × Mu) :=
  kd v0 20 (kd v2 20 (X12_puts_2 n v0 v1 v2 (0 : Int32) μ))
def X12_gets_2b (n : Nat) (v0 : Nat) (v1 : Int32) (v2 : Nat) (k2 : Int32 → Mu → Option (Unit × Mu)) (v3 : Int32) (μ : Mu) : Option (Unit × Mu) :=
  (if (25 : Int32) ≤ v3 then
  some ((), μ)
  else
  gd (((25 : Int32) * v1) + v3) (oN v0) (gd v3 (oN v2) (k2 (v3 + (1 : Int32)) (si μ v2 v3.toNatClampNeg (μ.1 v0 (((25 : Int32) * v1) + v3).toNatClampNeg)))))
def X12_gets_2 (n : Nat) (v0 : Nat) (v1 : Int32) (v2 : Nat) (v3 : Int32) (μ : Mu) : Option (Unit × Mu) := lpF (fun _ _ => none) (X12_gets_2b n v0 v1 v2) n v3 μ
def X12_gets (n : Nat) (v0 : Nat) (v1 : Int32) (v2 : Nat) (μ : Mu) : Option (Unit × Mu) :=
  kd v0 20 (kd v2 20 (X12_gets_2 n v0 v1 v2 (0 : Int32) μ))
def X12_keeps_78 (n : Nat) (v1 : Int32) (μ : Mu) : Option (Unit × Mu) :=
  (X12_puts n 179 (μ.1 171 28) 172 μ).bind (fun r90 =>
  gd (r90.2.1 171 28) 40 (some ((), (si (si r90.2 180 (r90.2.1 171 28).toNatClampNeg v1) 171 28 (((si r90.2 180 (r90.2.1 171 28).toNatClampNeg v1).1 171 28) + (1 : Int32))))))
def X12_keeps_42b (n : Nat) (v1 : Int32) (k42 : Int32 → Mu → Option (Unit × Mu)) (v2 : Int32) (μ : Mu) : Option (Unit × Mu) :=
  (if (40 : Int32) ≤ v2 then
  X12_keeps_78 n v1 (si μ 171 28 ((μ.1 171 28) - (1 : Int32)))
  else
  gd v2 40 (gd (v2 - (1 : Int32)) 40 (k42 (v2 + (1 : Int32)) (si μ 180 (v2 - (1 : Int32)).toNatClampNeg (μ.1 180 v2.toNatClampNeg)))))
def X12_keeps_42 (n : Nat) (v1 : Int32) (v2 : Int32) (μ : Mu) : Option (Unit × Mu) := lpF (fun _ _ => none) (X12_keeps_42b n v1) n v2 μ
def X12_keeps_12b (n : Nat) (v1 : Int32) (k12 : Int32 → Mu → Option (Unit × Mu)) (v2 : Int32) (μ : Mu) : Option (Unit × Mu) :=
  (if (1000 : Int32) ≤ v2 then
  X12_keeps_42 n v1 (1 : Int32) μ
  else
  gd v2 1000 (gd (v2 - (25 : Int32)) 1000 (k12 (v2 + (1 : Int32)) (si μ 179 (v2 - (25 : Int32)).toNatClampNeg (μ.1 179 v2.toNatClampNeg)))))
def X12_keeps_12 (n : Nat) (v1 : Int32) (v2 : Int32) (μ : Mu) : Option (Unit × Mu) := lpF (fun _ _ => none) (X12_keeps_12b n v1) n v2 μ
def X12_keeps (n : Nat) (v1 : Int32) (μ : Mu) : Option (Unit × Mu) :=
  (if (μ.1 171 28) = (40 : Int32) then
  X12_keeps_12 n v1 (25 : Int32) μ
  else
  X12_keeps_78 n v1 μ)
def X12_undo (n : Nat) (μ : Mu) : Option (Int32 × Mu) :=
  (if ((si μ 171 5 (0 : Int32)).1 171 28) = 0 then
  some ((0 : Int32), (si μ 171 5 (0 : Int32)))
  else
  (X12_puts n 181 ((si (si μ 171 5 (0 : Int32)) 171 28 (((si μ 171 5 (0 : Int32)).1 171 28) - (1 : Int32))).1 171 29) 172 (si (si μ 171 5 (0 : Int32)) 171 28 (((si μ 171 5 (0 : Int32)).1 171 28) - (1 : Int32)))).bind (fun r36 =>
  gd (r36.2.1 171 28) 40 (gd (r36.2.1 171 29) 40 ((X12_gets n 179 ((si (si r36.2 182 (r36.2.1 171 29).toNatClampNeg (r36.2.1 180 (r36.2.1 171 28).toNatClampNeg)) 171 29 (((si r36.2 182 (r36.2.1 171 29).toNatClampNeg (r36.2.1 180 (r36.2.1 171 28).toNatClampNeg)).1 171 29) + (1 : Int32))).1 171 28) 172 (si (si r36.2 182 (r36.2.1 171 29).toNatClampNeg (r36.2.1 180 (r36.2.1 171 28).toNatClampNeg)) 171 29 (((si r36.2 182 (r36.2.1 171 29).toNatClampNeg (r36.2.1 180 (r36.2.1 171 28).toNatClampNeg)).1 171 29) + (1 : Int32)))).bind (fun r79 =>
  some ((1 : Int32), r79.2))))))
def X12_redo (n : Nat) (μ : Mu) : Option (Int32 × Mu) :=
  (if ((si μ 171 5 (0 : Int32)).1 171 29) = 0 then
  some ((0 : Int32), (si μ 171 5 (0 : Int32)))
  else
  gd ((si (si μ 171 5 (0 : Int32)) 171 29 (((si μ 171 5 (0 : Int32)).1 171 29) - (1 : Int32))).1 171 29) 40 ((X12_keeps n ((si (si μ 171 5 (0 : Int32)) 171 29 (((si μ 171 5 (0 : Int32)).1 171 29) - (1 : Int32))).1 182 ((si (si μ 171 5 (0 : Int32)) 171 29 (((si μ 171 5 (0 : Int32)).1 171 29) - (1 : Int32))).1 171 29).toNatClampNeg) (si (si μ 171 5 (0 : Int32)) 171 29 (((si μ 171 5 (0 : Int32)).1 171 29) - (1 : Int32)))).bind (fun r34 =>
  (X12_gets n 181 (r34.2.1 171 29) 172 r34.2).bind (fun r49 =>
  some ((1 : Int32), r49.2)))))
def X12_sees_68 (n : Nat) (v1 : Int32) (k7 : Int32 → Mu → Option (Unit × Mu)) (v2 : Int32) (μ : Mu) : Option (Unit × Mu) :=
  k7 (v2 + (1 : Int32)) μ
def X12_sees_30 (n : Nat) (v1 : Int32) (k7 : Int32 → Mu → Option (Unit × Mu)) (v2 : Int32) (s0 : Int32) (s1 : Int32) (μ : Mu) : Option (Unit × Mu) :=
  (X12_pitMany n μ).bind (fun r32 =>
  dv r32.1 ((X12_isLacking n ((s0 + s1) - (s0 + s1) / r32.1 * r32.1) r32.2).bind (fun r39 =>
  (if r39.1 = 0 then
  gd (r39.2.1 171 31) 12 (X12_sees_68 n v1 k7 v2 (si (si r39.2 183 (r39.2.1 171 31).toNatClampNeg ((s0 + s1) - (s0 + s1) / r32.1 * r32.1)) 171 31 (((si r39.2 183 (r39.2.1 171 31).toNatClampNeg ((s0 + s1) - (s0 + s1) / r32.1 * r32.1)).1 171 31) + (1 : Int32))))
  else
  X12_sees_68 n v1 k7 v2 r39.2))))
def X12_sees_7b (n : Nat) (v1 : Int32) (k7 : Int32 → Mu → Option (Unit × Mu)) (v2 : Int32) (μ : Mu) : Option (Unit × Mu) :=
  (X12_pitMany n μ).bind (fun r9 =>
  (if r9.1 ≤ v2 then
  some ((), r9.2)
  else
  (if v1 = 0 then
  X12_sees_30 n v1 k7 v2 v2 (0 : Int32) r9.2
  else
  X12_sees_30 n v1 k7 v2 v2 (r9.2.1 172 1) r9.2)))
def X12_sees_7 (n : Nat) (v1 : Int32) (v2 : Int32) (μ : Mu) : Option (Unit × Mu) := lpF (fun _ _ => none) (X12_sees_7b n v1) n v2 μ
def X12_sees (n : Nat) (v1 : Int32) (μ : Mu) : Option (Unit × Mu) :=
  X12_sees_7 n v1 (0 : Int32) (si μ 171 31 (0 : Int32))
def X12_ways_13 (n : Nat) (v0 : Int32) (v1 : Int32) (s0 : Int64) (μ : Mu) : Option (Int64 × Mu) :=
  some (s0, μ)
def X12_ways_19b (n : Nat) (v0 : Int32) (v1 : Int32) (k19 : Int64 → Int32 → Mu → Option (Int64 × Mu)) (v2 : Int64) (v4 : Int32) (μ : Mu) : Option (Int64 × Mu) :=
  (if v1 ≤ v4 then
  some (v2, μ)
  else
  dvl (v4.toInt64) (k19 ((v2 * ((v0 + v4).toInt64)) / (v4.toInt64)) (v4 + (1 : Int32)) μ))
def X12_ways_19 (n : Nat) (v0 : Int32) (v1 : Int32) (v2 : Int64) (v4 : Int32) (μ : Mu) : Option (Int64 × Mu) := lpF (fun _ _ _ => none) (X12_ways_19b n v0 v1) n v2 v4 μ
def X12_ways (n : Nat) (v0 : Int32) (v1 : Int32) (μ : Mu) : Option (Int64 × Mu) :=
  (if v1 = 0 then
  (if v0 = 0 then
  X12_ways_13 n v0 v1 (1 : Int64) μ
  else
  X12_ways_13 n v0 v1 (0 : Int64) μ)
  else
  X12_ways_19 n v0 v1 (1 : Int64) (1 : Int32) μ)
def X12_positionsOf (n : Nat) (v1 : Int32) (μ : Mu) : Option (Int64 × Mu) :=
  (X12_sees n (0 : Int32) μ).bind (fun r2 =>
  (X12_ways n v1 (r2.2.1 171 31) r2.2).bind (fun r10 =>
  some (r10.1, r10.2)))
def X12_numberOf_54b (n : Nat) (v1 : Int32) (k42 : Int32 → Int64 → Int32 → Mu → Option (Int32 × Mu)) (k54 : Int32 → Int64 → Int32 → Int32 → Mu → Option (Int32 × Mu)) (v2 : Int32) (v3 : Int64) (v5 : Int32) (v6 : Int32) (μ : Mu) : Option (Int32 × Mu) :=
  gd v5 12 (gd (μ.1 183 v5.toNatClampNeg) 12 ((if v6 ≤ (μ.1 178 (μ.1 183 v5.toNatClampNeg).toNatClampNeg) then
  k42 (v2 - (μ.1 178 (μ.1 183 v5.toNatClampNeg).toNatClampNeg)) v3 (v5 + (1 : Int32)) μ
  else
  (X12_ways n (v2 - v6) (((μ.1 171 31) - v5) - (1 : Int32)) μ).bind (fun r85 =>
  k54 v2 (v3 + r85.1) v5 (v6 + ((-1) : Int32)) r85.2))))
def X12_numberOf_54 (n : Nat) (v1 : Int32) (k42 : Int32 → Int64 → Int32 → Mu → Option (Int32 × Mu)) (v2 : Int32) (v3 : Int64) (v5 : Int32) (v6 : Int32) (μ : Mu) : Option (Int32 × Mu) := lpF (fun _ _ _ _ _ => none) (X12_numberOf_54b n v1 k42) n v2 v3 v5 v6 μ
def X12_numberOf_42b (n : Nat) (v1 : Int32) (k42 : Int32 → Int64 → Int32 → Mu → Option (Int32 × Mu)) (v2 : Int32) (v3 : Int64) (v5 : Int32) (μ : Mu) : Option (Int32 × Mu) :=
  (if (μ.1 171 31) ≤ v5 then
  some ((v3.toInt32), μ)
  else
  X12_numberOf_54 n v1 k42 v2 v3 v5 v2 μ)
def X12_numberOf_42 (n : Nat) (v1 : Int32) (v2 : Int32) (v3 : Int64) (v5 : Int32) (μ : Mu) : Option (Int32 × Mu) := lpF (fun _ _ _ _ => none) (X12_numberOf_42b n v1) n v2 v3 v5 μ
def X12_numberOf_9b (n : Nat) (v1 : Int32) (k9 : Int32 → Int32 → Mu → Option (Int32 × Mu)) (v2 : Int32) (v3 : Int32) (μ : Mu) : Option (Int32 × Mu) :=
  (if (μ.1 171 31) ≤ v3 then
  X12_numberOf_42 n v1 v2 (0 : Int64) (0 : Int32) μ
  else
  gd v3 12 (gd (μ.1 183 v3.toNatClampNeg) 12 (k9 (v2 + (μ.1 178 (μ.1 183 v3.toNatClampNeg).toNatClampNeg)) (v3 + (1 : Int32)) μ)))
def X12_numberOf_9 (n : Nat) (v1 : Int32) (v2 : Int32) (v3 : Int32) (μ : Mu) : Option (Int32 × Mu) := lpF (fun _ _ _ => none) (X12_numberOf_9b n v1) n v2 v3 μ
def X12_numberOf (n : Nat) (v1 : Int32) (μ : Mu) : Option (Int32 × Mu) :=
  (X12_sees n v1 μ).bind (fun r2 =>
  X12_numberOf_9 n v1 (0 : Int32) (0 : Int32) r2.2)
def X12_lays_52b (n : Nat) (v1 : Int32) (v2 : Int32) (v3 : Int32) (k39 : Int32 → Int64 → Int32 → Mu → Option (Unit × Mu)) (k52 : Int32 → Int64 → Int32 → Int32 → Mu → Option (Unit × Mu)) (v4 : Int32) (v5 : Int64) (v7 : Int32) (v8 : Int32) (μ : Mu) : Option (Unit × Mu) :=
  (X12_ways n (v4 - v8) (((μ.1 171 31) - v7) - (1 : Int32)) μ).bind (fun r68 =>
  (if (lg_cmp v5 r68.1) < 0 then
  gd v7 12 (gd (r68.2.1 183 v7.toNatClampNeg) 12 (k39 (v4 - v8) v5 (v7 + (1 : Int32)) (si r68.2 178 (r68.2.1 183 v7.toNatClampNeg).toNatClampNeg v8)))
  else
  (X12_ways n (v4 - v8) (((r68.2.1 171 31) - v7) - (1 : Int32)) r68.2).bind (fun r91 =>
  k52 v4 (v5 - r91.1) v7 (v8 + ((-1) : Int32)) r91.2)))
def X12_lays_52 (n : Nat) (v1 : Int32) (v2 : Int32) (v3 : Int32) (k39 : Int32 → Int64 → Int32 → Mu → Option (Unit × Mu)) (v4 : Int32) (v5 : Int64) (v7 : Int32) (v8 : Int32) (μ : Mu) : Option (Unit × Mu) := lpF (fun _ _ _ _ _ => none) (X12_lays_52b n v1 v2 v3 k39) n v4 v5 v7 v8 μ
def X12_lays_39b (n : Nat) (v1 : Int32) (v2 : Int32) (v3 : Int32) (k39 : Int32 → Int64 → Int32 → Mu → Option (Unit × Mu)) (v4 : Int32) (v5 : Int64) (v7 : Int32) (μ : Mu) : Option (Unit × Mu) :=
  (if (μ.1 171 31) ≤ v7 then
  some ((), μ)
  else
  X12_lays_52 n v1 v2 v3 k39 v4 v5 v7 v4 μ)
def X12_lays_39 (n : Nat) (v1 : Int32) (v2 : Int32) (v3 : Int32) (v4 : Int32) (v5 : Int64) (v7 : Int32) (μ : Mu) : Option (Unit × Mu) := lpF (fun _ _ _ _ => none) (X12_lays_39b n v1 v2 v3) n v4 v5 v7 μ
def X12_lays_8b (n : Nat) (v1 : Int32) (v2 : Int32) (v3 : Int32) (k8 : Int32 → Mu → Option (Unit × Mu)) (v4 : Int32) (μ : Mu) : Option (Unit × Mu) :=
  (if (12 : Int32) ≤ v4 then
  X12_lays_39 n v1 v2 v3 v2 (v3.toInt64) (0 : Int32) μ
  else
  gd v4 12 (k8 (v4 + (1 : Int32)) (si μ 178 v4.toNatClampNeg (0 : Int32))))
def X12_lays_8 (n : Nat) (v1 : Int32) (v2 : Int32) (v3 : Int32) (v4 : Int32) (μ : Mu) : Option (Unit × Mu) := lpF (fun _ _ => none) (X12_lays_8b n v1 v2 v3) n v4 μ
def X12_lays (n : Nat) (v1 : Int32) (v2 : Int32) (v3 : Int32) (μ : Mu) : Option (Unit × Mu) :=
  (X12_sees n v1 μ).bind (fun r2 =>
  X12_lays_8 n v1 v2 v3 (0 : Int32) r2.2)
def X12_seedsNow_4b (n : Nat) (k4 : Int32 → Int32 → Mu → Option (Int32 × Mu)) (v1 : Int32) (v2 : Int32) (μ : Mu) : Option (Int32 × Mu) :=
  (X12_pitMany n μ).bind (fun r6 =>
  (if r6.1 ≤ v2 then
  some (v1, r6.2)
  else
  gd ((13 : Int32) + v2) 25 (k4 (v1 + (r6.2.1 172 ((13 : Int32) + v2).toNatClampNeg)) (v2 + (1 : Int32)) r6.2)))
def X12_seedsNow_4 (n : Nat) (v1 : Int32) (v2 : Int32) (μ : Mu) : Option (Int32 × Mu) := lpF (fun _ _ _ => none) (X12_seedsNow_4b n) n v1 v2 μ
def X12_seedsNow (n : Nat) (μ : Mu) : Option (Int32 × Mu) :=
  X12_seedsNow_4 n (0 : Int32) (0 : Int32) μ
def X12_positions_63 (n : Nat) (v1 : Int32) (v2 : Int32) (s0 : Int32) (μ : Mu) : Option (Int32 × Mu) :=
  some (s0, μ)
def X12_positions_29 (n : Nat) (v1 : Int32) (v2 : Int32) (s1 : Int32) (μ : Mu) : Option (Int32 × Mu) :=
  (if ((si μ 171 5 s1).1 171 5) ≤ 0 then
  (X12_positionsOf n v2 (si μ 171 5 s1)).bind (fun r43 =>
  (if (lg_cmp r43.1 (6000 : Int64)) ≤ 0 then
  X12_positions_63 n v1 v2 (r43.1.toInt32) r43.2
  else
  X12_positions_63 n v1 v2 ((-1000) : Int32) r43.2))
  else
  some ((0 : Int32), (si μ 171 5 s1)))
def X12_positions (n : Nat) (v1 : Int32) (v2 : Int32) (μ : Mu) : Option (Int32 × Mu) :=
  (X12_isSide n v1 μ).bind (fun r2 =>
  (if r2.1 = 0 then
  X12_positions_29 n v1 v2 (1 : Int32) r2.2
  else
  (X12_within n (v2.toInt64) (0 : Int64) (40 : Int64) r2.2).bind (fun r18 =>
  (if r18.1 = 0 then
  X12_positions_29 n v1 v2 (2 : Int32) r18.2
  else
  X12_positions_29 n v1 v2 (0 : Int32) r18.2))))
def X12_place (n : Nat) (μ : Mu) : Option (Int32 × Mu) :=
  (X12_seedsNow n (si μ 171 5 (0 : Int32))).bind (fun r7 =>
  (X12_positionsOf n r7.1 r7.2).bind (fun r10 =>
  (if (lg_cmp r10.1 (6000 : Int64)) ≤ 0 then
  (X12_takesUp n r10.2).bind (fun r25 =>
  (X12_numberOf n (r25.2.1 172 2) r25.2).bind (fun r35 =>
  some (r35.1, r35.2)))
  else
  some (((-1000) : Int32), r10.2))))
def X12_ofPlace_157 (n : Nat) (v1 : Int32) (v2 : Int32) (v3 : Int32) (v4 : Int32) (s0 : Int32) (μ : Mu) : Option (Int32 × Mu) :=
  some (s0, μ)
def X12_ofPlace_129 (n : Nat) (v1 : Int32) (v2 : Int32) (v3 : Int32) (v4 : Int32) (s0 : Int32) (s1 : Int32) (μ : Mu) : Option (Int32 × Mu) :=
  (X12_pitMany n μ).bind (fun r131 =>
  dv r131.1 ((X12_isLacking n ((s0 + s1) - (s0 + s1) / r131.1 * r131.1) r131.2).bind (fun r140 =>
  (if r140.1 = 0 then
  gd ((s0 + s1) - (s0 + s1) / r131.1 * r131.1) 12 (X12_ofPlace_157 n v1 v2 v3 v4 (r140.2.1 178 ((s0 + s1) - (s0 + s1) / r131.1 * r131.1).toNatClampNeg) r140.2)
  else
  X12_ofPlace_157 n v1 v2 v3 v4 ((-1) : Int32) r140.2))))
def X12_ofPlace_97 (n : Nat) (v1 : Int32) (v2 : Int32) (v3 : Int32) (v4 : Int32) (μ : Mu) : Option (Int32 × Mu) :=
  (if (μ.1 171 5) ≤ 0 then
  (X12_lays n v1 v2 v3 μ).bind (fun r110 =>
  (if v1 = 0 then
  X12_ofPlace_129 n v1 v2 v3 v4 v4 (0 : Int32) r110.2
  else
  X12_ofPlace_129 n v1 v2 v3 v4 v4 (r110.2.1 172 1) r110.2))
  else
  some ((0 : Int32), μ))
def X12_ofPlace_65 (n : Nat) (v1 : Int32) (v2 : Int32) (v3 : Int32) (v4 : Int32) (s1 : Int32) (μ : Mu) : Option (Int32 × Mu) :=
  (if ((si μ 171 5 s1).1 171 5) = 0 then
  (X12_pitMany n (si μ 171 5 s1)).bind (fun r80 =>
  (X12_within n (v4.toInt64) (0 : Int64) ((r80.1 - (1 : Int32)).toInt64) r80.2).bind (fun r86 =>
  (if r86.1 = 0 then
  X12_ofPlace_97 n v1 v2 v3 v4 (si r86.2 171 5 (4 : Int32))
  else
  X12_ofPlace_97 n v1 v2 v3 v4 r86.2)))
  else
  X12_ofPlace_97 n v1 v2 v3 v4 (si μ 171 5 s1))
def X12_ofPlace (n : Nat) (v1 : Int32) (v2 : Int32) (v3 : Int32) (v4 : Int32) (μ : Mu) : Option (Int32 × Mu) :=
  (X12_isSide n v1 μ).bind (fun r2 =>
  (if r2.1 = 0 then
  X12_ofPlace_65 n v1 v2 v3 v4 (1 : Int32) r2.2
  else
  (X12_within n (v2.toInt64) (0 : Int64) (40 : Int64) r2.2).bind (fun r18 =>
  (if r18.1 = 0 then
  X12_ofPlace_65 n v1 v2 v3 v4 (2 : Int32) r18.2
  else
  (X12_positionsOf n v2 r18.2).bind (fun r30 =>
  (if (lg_cmp r30.1 (6000 : Int64)) ≤ 0 then
  (X12_positionsOf n v2 r30.2).bind (fun r49 =>
  (X12_within n (v3.toInt64) (0 : Int64) (r49.1 - (1 : Int64)) r49.2).bind (fun r54 =>
  (if r54.1 = 0 then
  X12_ofPlace_65 n v1 v2 v3 v4 (1 : Int32) r54.2
  else
  X12_ofPlace_65 n v1 v2 v3 v4 (0 : Int32) r54.2)))
  else
  X12_ofPlace_65 n v1 v2 v3 v4 (3 : Int32) r30.2))))))
def X12_areRules_39 (n : Nat) (k4 : Int32 → Int32 → Mu → Option (Int32 × Mu)) (v2 : Int32) (s0 : Int32) (μ : Mu) : Option (Int32 × Mu) :=
  k4 s0 (v2 + (1 : Int32)) μ
def X12_areRules_34 (n : Nat) (k4 : Int32 → Int32 → Mu → Option (Int32 × Mu)) (v2 : Int32) (μ : Mu) : Option (Int32 × Mu) :=
  X12_areRules_39 n k4 v2 (1 : Int32) μ
def X12_areRules_38 (n : Nat) (k4 : Int32 → Int32 → Mu → Option (Int32 × Mu)) (v2 : Int32) (μ : Mu) : Option (Int32 × Mu) :=
  X12_areRules_39 n k4 v2 (0 : Int32) μ
def X12_areRules_4b (n : Nat) (k4 : Int32 → Int32 → Mu → Option (Int32 × Mu)) (v1 : Int32) (v2 : Int32) (μ : Mu) : Option (Int32 × Mu) :=
  (if (10 : Int32) < v2 then
  bz v1 (some (v1, μ))
  else
  (if v1 = 0 then
  X12_areRules_38 n k4 v2 μ
  else
  (if v2 = (2 : Int32) then
  X12_areRules_34 n k4 v2 μ
  else
  gd v2 12 (gd v2 25 ((if (μ.1 191 v2.toNatClampNeg) = (μ.1 172 v2.toNatClampNeg) then
  X12_areRules_34 n k4 v2 μ
  else
  X12_areRules_38 n k4 v2 μ))))))
def X12_areRules_4 (n : Nat) (v1 : Int32) (v2 : Int32) (μ : Mu) : Option (Int32 × Mu) := lpF (fun _ _ _ => none) (X12_areRules_4b n) n v1 v2 μ
def X12_areRules (n : Nat) (μ : Mu) : Option (Int32 × Mu) :=
  X12_areRules_4 n (1 : Int32) (1 : Int32) μ
def X12_seat (n : Nat) (v1 : Int32) (v2 : Int32) (v3 : Int32) (μ : Mu) : Option (Int32 × Mu) :=
  gd v2 42 (some (((((6000 : Int32) * v1) + (μ.1 189 v2.toNatClampNeg)) + v3), μ))
def X12_worthOf_50 (n : Nat) (v1 : Int32) (v2 : Int32) (v3 : Nat) (s0 : Int32) (s1 : Int32) (μ : Mu) : Option (Int32 × Mu) :=
  some ((s0 + s1), μ)
def X12_worthOf (n : Nat) (v1 : Int32) (v2 : Int32) (v3 : Nat) (μ : Mu) : Option (Int32 × Mu) :=
  kd v3 20 (gd (((6 : Int32) * v1) + v2) 72000 ((if ((μ.1 187 (((6 : Int32) * v1) + v2).toNatClampNeg) / (6000 : Int32)) = (v1 / (6000 : Int32)) then
  gd (μ.1 187 (((6 : Int32) * v1) + v2).toNatClampNeg) (oN v3) (X12_worthOf_50 n v1 v2 v3 (μ.1 188 (((6 : Int32) * v1) + v2).toNatClampNeg) (μ.1 v3 (μ.1 187 (((6 : Int32) * v1) + v2).toNatClampNeg).toNatClampNeg) μ)
  else
  gd (μ.1 187 (((6 : Int32) * v1) + v2).toNatClampNeg) (oN v3) (X12_worthOf_50 n v1 v2 v3 (μ.1 188 (((6 : Int32) * v1) + v2).toNatClampNeg) (-(μ.1 v3 (μ.1 187 (((6 : Int32) * v1) + v2).toNatClampNeg).toNatClampNeg)) μ))))
def X12_ownLess (n : Nat) (v1 : Int32) (v2 : Int32) (v3 : Int32) (μ : Mu) : Option (Int32 × Mu) :=
  (X12_lays n v1 v2 v3 μ).bind (fun r4 =>
  (X12_sum n v1 r4.2).bind (fun r9 =>
  (X12_sum n ((1 : Int32) - v1) r9.2).bind (fun r16 =>
  some ((r9.1 - r16.1), r16.2))))
def X12_betters_93 (n : Nat) (v1 : Int32) (v2 : Int32) (v3 : Int32) (k19 : Int32 → Int32 → Mu → Option (Int32 × Mu)) (v4 : Int32) (v5 : Int32) (μ : Mu) : Option (Int32 × Mu) :=
  k19 v4 (v5 + (1 : Int32)) μ
def X12_betters_85 (n : Nat) (v1 : Int32) (v2 : Int32) (v3 : Int32) (k19 : Int32 → Int32 → Mu → Option (Int32 × Mu)) (v5 : Int32) (s0 : Int32) (s2 : Int32) (s3 : Int32) (s4 : Nat) (μ : Mu) : Option (Int32 × Mu) :=
  kd s4 20 ((X12_worthOf n s2 s3 s4 μ).bind (fun r85 =>
  X12_betters_93 n v1 v2 v3 k19 (if s0 < r85.1 then r85.1 else s0) v5 r85.2))
def X12_betters_19b (n : Nat) (v1 : Int32) (v2 : Int32) (v3 : Int32) (k19 : Int32 → Int32 → Mu → Option (Int32 × Mu)) (v4 : Int32) (v5 : Int32) (μ : Mu) : Option (Int32 × Mu) :=
  (if (μ.1 172 1) ≤ v5 then
  gd v1 12000 ((if v4 = (μ.1 184 v1.toNatClampNeg) then
  some ((0 : Int32), μ)
  else
  some ((1 : Int32), (si (si μ 184 v1.toNatClampNeg v4) 185 v1.toNatClampNeg v3))))
  else
  gd (((6 : Int32) * v1) + v5) 72000 ((if (μ.1 187 (((6 : Int32) * v1) + v5).toNatClampNeg) = ((-1) : Int32) then
  X12_betters_93 n v1 v2 v3 k19 v4 v5 μ
  else
  (if (μ.1 188 (((6 : Int32) * v1) + v5).toNatClampNeg) ≤ 0 then
  X12_betters_85 n v1 v2 v3 k19 v5 v4 v1 v5 186 μ
  else
  X12_betters_85 n v1 v2 v3 k19 v5 v4 v1 v5 184 μ))))
def X12_betters_19 (n : Nat) (v1 : Int32) (v2 : Int32) (v3 : Int32) (v4 : Int32) (v5 : Int32) (μ : Mu) : Option (Int32 × Mu) := lpF (fun _ _ _ => none) (X12_betters_19b n v1 v2 v3) n v4 v5 μ
def X12_betters (n : Nat) (v1 : Int32) (v2 : Int32) (v3 : Int32) (μ : Mu) : Option (Int32 × Mu) :=
  gd v1 12000 ((if (μ.1 190 v1.toNatClampNeg) = 0 then
  X12_betters_19 n v1 v2 v3 ((-1000) : Int32) (0 : Int32) μ
  else
  some ((0 : Int32), μ)))
def X12_seatNow (n : Nat) (μ : Mu) : Option (Int32 × Mu) :=
  (X12_takesUp n μ).bind (fun r1 =>
  (X12_seedsNow n r1.2).bind (fun r12 =>
  (X12_numberOf n (r12.2.1 172 2) r12.2).bind (fun r22 =>
  (X12_seat n (r1.2.1 172 2) r12.1 r22.1 r22.2).bind (fun r25 =>
  some (r25.1, r25.2)))))
def X12_bestAt_118 (n : Nat) (v1 : Int32) (k7 : Int32 → Int32 → Int32 → Mu → Option (Int32 × Mu)) (v2 : Int32) (v3 : Int32) (v4 : Int32) (μ : Mu) : Option (Int32 × Mu) :=
  k7 v2 v3 (v4 + (1 : Int32)) μ
def X12_bestAt_112 (n : Nat) (v1 : Int32) (k7 : Int32 → Int32 → Int32 → Mu → Option (Int32 × Mu)) (v4 : Int32) (v6 : Int32) (μ : Mu) : Option (Int32 × Mu) :=
  X12_bestAt_118 n v1 k7 v4 v6 v4 μ
def X12_bestAt_96 (n : Nat) (v1 : Int32) (k7 : Int32 → Int32 → Int32 → Mu → Option (Int32 × Mu)) (v2 : Int32) (v3 : Int32) (v4 : Int32) (s0 : Int32) (μ : Mu) : Option (Int32 × Mu) :=
  (if v2 = ((-1) : Int32) then
  X12_bestAt_112 n v1 k7 v4 s0 μ
  else
  (if s0 < v3 then
  X12_bestAt_112 n v1 k7 v4 s0 μ
  else
  X12_bestAt_118 n v1 k7 v2 v3 v4 μ))
def X12_bestAt_124 (n : Nat) (v1 : Int32) (v2 : Int32) (μ : Mu) : Option (Int32 × Mu) :=
  some (v2, μ)
def X12_bestAt_7b (n : Nat) (v1 : Int32) (k7 : Int32 → Int32 → Int32 → Mu → Option (Int32 × Mu)) (v2 : Int32) (v3 : Int32) (v4 : Int32) (μ : Mu) : Option (Int32 × Mu) :=
  (if (μ.1 172 1) ≤ v4 then
  X12_bestAt_124 n v1 v2 μ
  else
  gd v1 12000 ((if (μ.1 190 v1.toNatClampNeg) = 0 then
  gd (((6 : Int32) * v1) + v4) 72000 ((if (μ.1 187 (((6 : Int32) * v1) + v4).toNatClampNeg) = ((-1) : Int32) then
  X12_bestAt_118 n v1 k7 v2 v3 v4 μ
  else
  (X12_worthOf n v1 v4 184 μ).bind (fun r55 =>
  (if r55.1 = (r55.2.1 184 v1.toNatClampNeg) then
  (if (r55.2.1 188 (((6 : Int32) * v1) + v4).toNatClampNeg) ≤ 0 then
  gd (μ.1 187 (((6 : Int32) * v1) + v4).toNatClampNeg) 12000 (X12_bestAt_96 n v1 k7 v2 v3 v4 (r55.2.1 185 (μ.1 187 (((6 : Int32) * v1) + v4).toNatClampNeg).toNatClampNeg) r55.2)
  else
  X12_bestAt_96 n v1 k7 v2 v3 v4 (0 : Int32) r55.2)
  else
  X12_bestAt_118 n v1 k7 v2 v3 v4 r55.2))))
  else
  X12_bestAt_124 n v1 v2 μ)))
def X12_bestAt_7 (n : Nat) (v1 : Int32) (v2 : Int32) (v3 : Int32) (v4 : Int32) (μ : Mu) : Option (Int32 × Mu) := lpF (fun _ _ _ _ => none) (X12_bestAt_7b n v1) n v2 v3 v4 μ
def X12_bestAt (n : Nat) (v1 : Int32) (μ : Mu) : Option (Int32 × Mu) :=
  X12_bestAt_7 n v1 ((-1) : Int32) (0 : Int32) (0 : Int32) μ
def X12_bestNow_39 (n : Nat) (s0 : Int32) (μ : Mu) : Option (Int32 × Mu) :=
  some (s0, μ)
def X12_bestNow_38 (n : Nat) (s0 : Int32) (s1 : Int32) (μ : Mu) : Option (Int32 × Mu) :=
  X12_bestNow_39 n (s0 + s1) μ
def X12_bestNow (n : Nat) (μ : Mu) : Option (Int32 × Mu) :=
  (X12_seatNow n μ).bind (fun r2 =>
  (X12_bestAt n r2.1 r2.2).bind (fun r5 =>
  (if r5.1 = ((-1) : Int32) then
  X12_bestNow_39 n ((-1) : Int32) r5.2
  else
  (if (r5.2.1 172 2) = 0 then
  X12_bestNow_38 n r5.1 (0 : Int32) r5.2
  else
  X12_bestNow_38 n r5.1 (r5.2.1 172 1) r5.2))))
def X12_canAt_62 (n : Nat) (v1 : Int32) (v2 : Int32) (k5 : Int32 → Int32 → Mu → Option (Int32 × Mu)) (v4 : Int32) (s0 : Int32) (s1 : Int32) (μ : Mu) : Option (Int32 × Mu) :=
  k5 (s0 + s1) (v4 + (1 : Int32)) μ
def X12_canAt_57 (n : Nat) (v1 : Int32) (v2 : Int32) (k5 : Int32 → Int32 → Mu → Option (Int32 × Mu)) (v4 : Int32) (s0 : Int32) (μ : Mu) : Option (Int32 × Mu) :=
  X12_canAt_62 n v1 v2 k5 v4 s0 (1 : Int32) μ
def X12_canAt_61 (n : Nat) (v1 : Int32) (v2 : Int32) (k5 : Int32 → Int32 → Mu → Option (Int32 × Mu)) (v4 : Int32) (s0 : Int32) (μ : Mu) : Option (Int32 × Mu) :=
  X12_canAt_62 n v1 v2 k5 v4 s0 (0 : Int32) μ
def X12_canAt_5b (n : Nat) (v1 : Int32) (v2 : Int32) (k5 : Int32 → Int32 → Mu → Option (Int32 × Mu)) (v3 : Int32) (v4 : Int32) (μ : Mu) : Option (Int32 × Mu) :=
  (if (μ.1 172 1) ≤ v4 then
  some (v3, μ)
  else
  gd (((6 : Int32) * v1) + v4) 72000 ((if (μ.1 187 (((6 : Int32) * v1) + v4).toNatClampNeg) = ((-1) : Int32) then
  X12_canAt_61 n v1 v2 k5 v4 v3 μ
  else
  (if v2 = 0 then
  X12_canAt_57 n v1 v2 k5 v4 v3 μ
  else
  (X12_worthOf n v1 v4 184 μ).bind (fun r45 =>
  gd v1 12000 ((if r45.1 = (r45.2.1 184 v1.toNatClampNeg) then
  X12_canAt_57 n v1 v2 k5 v4 v3 r45.2
  else
  X12_canAt_61 n v1 v2 k5 v4 v3 r45.2)))))))
def X12_canAt_5 (n : Nat) (v1 : Int32) (v2 : Int32) (v3 : Int32) (v4 : Int32) (μ : Mu) : Option (Int32 × Mu) := lpF (fun _ _ _ => none) (X12_canAt_5b n v1 v2) n v3 v4 μ
def X12_canAt (n : Nat) (v1 : Int32) (v2 : Int32) (μ : Mu) : Option (Int32 × Mu) :=
  X12_canAt_5 n v1 v2 (0 : Int32) (0 : Int32) μ
def X12_isBoard_2b (n : Nat) (v1 : Int32) (k2 : Int32 → Mu → Option (Int32 × Mu)) (v2 : Int32) (μ : Mu) : Option (Int32 × Mu) :=
  (if (25 : Int32) ≤ v2 then
  some ((1 : Int32), μ)
  else
  gd (((25 : Int32) * v1) + v2) 32500 (gd v2 25 ((if (μ.1 196 (((25 : Int32) * v1) + v2).toNatClampNeg) = (μ.1 172 v2.toNatClampNeg) then
  k2 (v2 + (1 : Int32)) μ
  else
  some ((0 : Int32), μ)))))
def X12_isBoard_2 (n : Nat) (v1 : Int32) (v2 : Int32) (μ : Mu) : Option (Int32 × Mu) := lpF (fun _ _ => none) (X12_isBoard_2b n v1) n v2 μ
def X12_isBoard (n : Nat) (v1 : Int32) (μ : Mu) : Option (Int32 × Mu) :=
  X12_isBoard_2 n v1 (0 : Int32) μ
def X12_draw (n : Nat) (v1 : Int32) (μ : Mu) : Option (Int32 × Mu) :=
  dv v1 (some ((((((si μ 171 49 (((1103515245 : Int32) * (μ.1 171 49)) + (12345 : Int32))).1 171 49).toUInt32 >>> ((16 : Int32).toUInt32 &&& Int32.toUInt32 31)).toInt32) - ((((si μ 171 49 (((1103515245 : Int32) * (μ.1 171 49)) + (12345 : Int32))).1 171 49).toUInt32 >>> ((16 : Int32).toUInt32 &&& Int32.toUInt32 31)).toInt32) / v1 * v1), (si μ 171 49 (((1103515245 : Int32) * (μ.1 171 49)) + (12345 : Int32)))))
def X12_isTray (n : Nat) (v0 : Int32) (μ : Mu) : Option (Int32 × Mu) :=
  (X12_within n (v0.toInt64) (0 : Int64) (3 : Int64) μ).bind (fun r6 =>
  bz r6.1 (some (r6.1, r6.2)))
def X12_tray_69b (n : Nat) (v1 : Int32) (v2 : Int32) (v3 : Int32) (k69 : Int32 → Mu → Option (Unit × Mu)) (v4 : Int32) (μ : Mu) : Option (Unit × Mu) :=
  (if (40 : Int32) ≤ v4 then
  some ((), μ)
  else
  gd (((40 : Int32) * v1) + v4) 160 (k69 (v4 + (1 : Int32)) (sj μ 200 (((40 : Int32) * v1) + v4).toNatClampNeg (0 : Int64))))
def X12_tray_69 (n : Nat) (v1 : Int32) (v2 : Int32) (v3 : Int32) (v4 : Int32) (μ : Mu) : Option (Unit × Mu) := lpF (fun _ _ => none) (X12_tray_69b n v1 v2 v3) n v4 μ
def X12_tray_41 (n : Nat) (v1 : Int32) (v2 : Int32) (v3 : Int32) (s1 : Int32) (μ : Mu) : Option (Unit × Mu) :=
  (if ((si μ 171 5 s1).1 171 5) ≤ 0 then
  gd v1 4 (X12_tray_69 n v1 v2 v3 (0 : Int32) (si (si (si μ 171 5 s1) 198 v1.toNatClampNeg v2) 199 v1.toNatClampNeg v3))
  else
  some ((), (si μ 171 5 s1)))
def X12_tray_36 (n : Nat) (v1 : Int32) (v2 : Int32) (v3 : Int32) (μ : Mu) : Option (Unit × Mu) :=
  X12_tray_41 n v1 v2 v3 (2 : Int32) μ
def X12_tray (n : Nat) (v1 : Int32) (v2 : Int32) (v3 : Int32) (μ : Mu) : Option (Unit × Mu) :=
  (X12_isTray n v1 μ).bind (fun r2 =>
  (if r2.1 = 0 then
  X12_tray_41 n v1 v2 v3 (1 : Int32) r2.2
  else
  (X12_within n (v2.toInt64) (0 : Int64) (3 : Int64) r2.2).bind (fun r18 =>
  (if r18.1 = 0 then
  X12_tray_36 n v1 v2 v3 r18.2
  else
  (X12_within n (v3.toInt64) (0 : Int64) (40 : Int64) r18.2).bind (fun r30 =>
  (if r30.1 = 0 then
  X12_tray_36 n v1 v2 v3 r30.2
  else
  X12_tray_41 n v1 v2 v3 (0 : Int32) r30.2))))))
def X12_cut (n : Nat) (v1 : Int32) (v2 : Int32) (v3 : Int64) (μ : Mu) : Option (Int64 × Mu) :=
  gd v1 4 (gd (((40 : Int32) * v1) + v2) 160 (some (((sj μ 200 (((40 : Int32) * v1) + v2).toNatClampNeg ((v3 <<< (((64 : Int32) - ((8 : Int32) <<< ((μ.1 198 v1.toNatClampNeg) &&& 31))).toInt64 &&& 63)) >>> (((64 : Int32) - ((8 : Int32) <<< ((μ.1 198 v1.toNatClampNeg) &&& 31))).toInt64 &&& 63))).2 200 (((40 : Int32) * v1) + v2).toNatClampNeg), (sj μ 200 (((40 : Int32) * v1) + v2).toNatClampNeg ((v3 <<< (((64 : Int32) - ((8 : Int32) <<< ((μ.1 198 v1.toNatClampNeg) &&& 31))).toInt64 &&& 63)) >>> (((64 : Int32) - ((8 : Int32) <<< ((μ.1 198 v1.toNatClampNeg) &&& 31))).toInt64 &&& 63))))))
def X12_image_18 (n : Nat) (v1 : Int32) (s1 : Int32) (μ : Mu) : Option (Unit × Mu) :=
  (if ((si μ 171 5 s1).1 171 5) ≤ 0 then
  gd v1 3 ((X12_puts n 174 v1 172 (si (si μ 171 5 s1) 176 v1.toNatClampNeg (1 : Int32))).bind (fun r45 =>
  some ((), r45.2)))
  else
  some ((), (si μ 171 5 s1)))
def X12_image (n : Nat) (v1 : Int32) (μ : Mu) : Option (Unit × Mu) :=
  (X12_within n (v1.toInt64) (0 : Int64) (2 : Int64) μ).bind (fun r7 =>
  (if r7.1 = 0 then
  X12_image_18 n v1 (1 : Int32) r7.2
  else
  X12_image_18 n v1 (0 : Int32) r7.2))
def X12_restore_31 (n : Nat) (v1 : Int32) (s1 : Int32) (μ : Mu) : Option (Unit × Mu) :=
  (if ((si μ 171 5 s1).1 171 5) ≤ 0 then
  (X12_gets n 174 v1 172 (si μ 171 5 s1)).bind (fun r51 =>
  some ((), (si (si r51.2 171 28 (0 : Int32)) 171 29 (0 : Int32))))
  else
  some ((), (si μ 171 5 s1)))
def X12_restore (n : Nat) (v1 : Int32) (μ : Mu) : Option (Unit × Mu) :=
  (X12_within n (v1.toInt64) (0 : Int64) (2 : Int64) μ).bind (fun r7 =>
  (if r7.1 = 0 then
  X12_restore_31 n v1 (1 : Int32) r7.2
  else
  gd v1 3 ((if (r7.2.1 176 v1.toNatClampNeg) = 0 then
  X12_restore_31 n v1 (2 : Int32) r7.2
  else
  X12_restore_31 n v1 (0 : Int32) r7.2))))
def X12_count_31 (n : Nat) (v1 : Int32) (k9 : Int32 → Int32 → Mu → Option (Int32 × Mu)) (v3 : Int32) (s0 : Int32) (s1 : Int32) (μ : Mu) : Option (Int32 × Mu) :=
  k9 (s0 + s1) (v3 + (1 : Int32)) μ
def X12_count_9b (n : Nat) (v1 : Int32) (k9 : Int32 → Int32 → Mu → Option (Int32 × Mu)) (v2 : Int32) (v3 : Int32) (μ : Mu) : Option (Int32 × Mu) :=
  (X12_pitMany n μ).bind (fun r11 =>
  (if r11.1 ≤ v3 then
  (if v1 = (0 : Int32) then
  some ((r11.2.1 172 0), r11.2)
  else
  (if v1 = (1 : Int32) then
  some ((r11.2.1 172 1), r11.2)
  else
  (if v1 = (2 : Int32) then
  (X12_seedsNow n r11.2).bind (fun r99 =>
  some (r99.1, r99.2))
  else
  (if v1 = (3 : Int32) then
  some (v2, r11.2)
  else
  (if v1 = (4 : Int32) then
  some ((r11.2.1 171 28), r11.2)
  else
  (if v1 = (5 : Int32) then
  some ((r11.2.1 171 29), r11.2)
  else
  (if v1 = (6 : Int32) then
  some ((r11.2.1 171 7), r11.2)
  else
  some (((-1) : Int32), r11.2))))))))
  else
  (X12_isLacking n v3 r11.2).bind (fun r20 =>
  (if r20.1 = 0 then
  X12_count_31 n v1 k9 v3 v2 (0 : Int32) r20.2
  else
  X12_count_31 n v1 k9 v3 v2 (1 : Int32) r20.2))))
def X12_count_9 (n : Nat) (v1 : Int32) (v2 : Int32) (v3 : Int32) (μ : Mu) : Option (Int32 × Mu) := lpF (fun _ _ _ => none) (X12_count_9b n v1) n v2 v3 μ
def X12_count (n : Nat) (v1 : Int32) (μ : Mu) : Option (Int32 × Mu) :=
  X12_count_9 n v1 (0 : Int32) (0 : Int32) (si μ 171 5 (0 : Int32))
def J6_bitCount_0f7a4 (n : Nat) (v0 : Int32) (μ : Mu) : Option (Int32 × Mu) :=
  some (((((((((v0 - (((v0.toUInt32 >>> ((1 : Int32).toUInt32 &&& Int32.toUInt32 31)).toInt32) &&& (1431655765 : Int32))) &&& (858993459 : Int32)) + ((((v0 - (((v0.toUInt32 >>> ((1 : Int32).toUInt32 &&& Int32.toUInt32 31)).toInt32) &&& (1431655765 : Int32))).toUInt32 >>> ((2 : Int32).toUInt32 &&& Int32.toUInt32 31)).toInt32) &&& (858993459 : Int32))) + (((((v0 - (((v0.toUInt32 >>> ((1 : Int32).toUInt32 &&& Int32.toUInt32 31)).toInt32) &&& (1431655765 : Int32))) &&& (858993459 : Int32)) + ((((v0 - (((v0.toUInt32 >>> ((1 : Int32).toUInt32 &&& Int32.toUInt32 31)).toInt32) &&& (1431655765 : Int32))).toUInt32 >>> ((2 : Int32).toUInt32 &&& Int32.toUInt32 31)).toInt32) &&& (858993459 : Int32))).toUInt32 >>> ((4 : Int32).toUInt32 &&& Int32.toUInt32 31)).toInt32)) &&& (252645135 : Int32)) + (((((((v0 - (((v0.toUInt32 >>> ((1 : Int32).toUInt32 &&& Int32.toUInt32 31)).toInt32) &&& (1431655765 : Int32))) &&& (858993459 : Int32)) + ((((v0 - (((v0.toUInt32 >>> ((1 : Int32).toUInt32 &&& Int32.toUInt32 31)).toInt32) &&& (1431655765 : Int32))).toUInt32 >>> ((2 : Int32).toUInt32 &&& Int32.toUInt32 31)).toInt32) &&& (858993459 : Int32))) + (((((v0 - (((v0.toUInt32 >>> ((1 : Int32).toUInt32 &&& Int32.toUInt32 31)).toInt32) &&& (1431655765 : Int32))) &&& (858993459 : Int32)) + ((((v0 - (((v0.toUInt32 >>> ((1 : Int32).toUInt32 &&& Int32.toUInt32 31)).toInt32) &&& (1431655765 : Int32))).toUInt32 >>> ((2 : Int32).toUInt32 &&& Int32.toUInt32 31)).toInt32) &&& (858993459 : Int32))).toUInt32 >>> ((4 : Int32).toUInt32 &&& Int32.toUInt32 31)).toInt32)) &&& (252645135 : Int32)).toUInt32 >>> ((8 : Int32).toUInt32 &&& Int32.toUInt32 31)).toInt32)) + ((((((((v0 - (((v0.toUInt32 >>> ((1 : Int32).toUInt32 &&& Int32.toUInt32 31)).toInt32) &&& (1431655765 : Int32))) &&& (858993459 : Int32)) + ((((v0 - (((v0.toUInt32 >>> ((1 : Int32).toUInt32 &&& Int32.toUInt32 31)).toInt32) &&& (1431655765 : Int32))).toUInt32 >>> ((2 : Int32).toUInt32 &&& Int32.toUInt32 31)).toInt32) &&& (858993459 : Int32))) + (((((v0 - (((v0.toUInt32 >>> ((1 : Int32).toUInt32 &&& Int32.toUInt32 31)).toInt32) &&& (1431655765 : Int32))) &&& (858993459 : Int32)) + ((((v0 - (((v0.toUInt32 >>> ((1 : Int32).toUInt32 &&& Int32.toUInt32 31)).toInt32) &&& (1431655765 : Int32))).toUInt32 >>> ((2 : Int32).toUInt32 &&& Int32.toUInt32 31)).toInt32) &&& (858993459 : Int32))).toUInt32 >>> ((4 : Int32).toUInt32 &&& Int32.toUInt32 31)).toInt32)) &&& (252645135 : Int32)) + (((((((v0 - (((v0.toUInt32 >>> ((1 : Int32).toUInt32 &&& Int32.toUInt32 31)).toInt32) &&& (1431655765 : Int32))) &&& (858993459 : Int32)) + ((((v0 - (((v0.toUInt32 >>> ((1 : Int32).toUInt32 &&& Int32.toUInt32 31)).toInt32) &&& (1431655765 : Int32))).toUInt32 >>> ((2 : Int32).toUInt32 &&& Int32.toUInt32 31)).toInt32) &&& (858993459 : Int32))) + (((((v0 - (((v0.toUInt32 >>> ((1 : Int32).toUInt32 &&& Int32.toUInt32 31)).toInt32) &&& (1431655765 : Int32))) &&& (858993459 : Int32)) + ((((v0 - (((v0.toUInt32 >>> ((1 : Int32).toUInt32 &&& Int32.toUInt32 31)).toInt32) &&& (1431655765 : Int32))).toUInt32 >>> ((2 : Int32).toUInt32 &&& Int32.toUInt32 31)).toInt32) &&& (858993459 : Int32))).toUInt32 >>> ((4 : Int32).toUInt32 &&& Int32.toUInt32 31)).toInt32)) &&& (252645135 : Int32)).toUInt32 >>> ((8 : Int32).toUInt32 &&& Int32.toUInt32 31)).toInt32)).toUInt32 >>> ((16 : Int32).toUInt32 &&& Int32.toUInt32 31)).toInt32)) &&& (63 : Int32)), μ)
def X0_note_164 (n : Nat) (v1 : Nat) (k59 : Int64 → Int64 → Int32 → Int32 → Mu → Option (Unit × Mu)) (v2 : Int64) (v4 : Int64) (v8 : Int32) (v9 : Int32) (μ : Mu) : Option (Unit × Mu) :=
  k59 v2 v4 ((v8 + (1 : Int32)) &&& (4095 : Int32)) (v9 + (1 : Int32)) μ
def X0_note_180 (n : Nat) (v1 : Nat) (μ : Mu) : Option (Unit × Mu) :=
  some ((), μ)
def X0_note_59b (n : Nat) (v1 : Nat) (k59 : Int64 → Int64 → Int32 → Int32 → Mu → Option (Unit × Mu)) (v2 : Int64) (v4 : Int64) (v8 : Int32) (v9 : Int32) (μ : Mu) : Option (Unit × Mu) :=
  (if (4096 : Int32) ≤ v9 then
  X0_note_180 n v1 μ
  else
  (if (1296 : Int32) ≤ (μ.1 25 11) then
  X0_note_180 n v1 μ
  else
  gd v8 4096 ((if (μ.1 30 v8.toNatClampNeg) = 0 then
  gd (μ.1 25 11) 1296 (gd ((sj μ 28 (μ.1 25 11).toNatClampNeg v2).1 25 11) 1296 (some ((), (si (si (sj (sj μ 28 (μ.1 25 11).toNatClampNeg v2) 29 ((sj μ 28 (μ.1 25 11).toNatClampNeg v2).1 25 11).toNatClampNeg v4) 25 11 (((sj (sj μ 28 (μ.1 25 11).toNatClampNeg v2) 29 ((sj μ 28 (μ.1 25 11).toNatClampNeg v2).1 25 11).toNatClampNeg v4).1 25 11) + (1 : Int32))) 30 v8.toNatClampNeg ((si (sj (sj μ 28 (μ.1 25 11).toNatClampNeg v2) 29 ((sj μ 28 (μ.1 25 11).toNatClampNeg v2).1 25 11).toNatClampNeg v4) 25 11 (((sj (sj μ 28 (μ.1 25 11).toNatClampNeg v2) 29 ((sj μ 28 (μ.1 25 11).toNatClampNeg v2).1 25 11).toNatClampNeg v4).1 25 11) + (1 : Int32))).1 25 11)))))
  else
  gd ((μ.1 30 v8.toNatClampNeg) - (1 : Int32)) 1296 ((if (lg_cmp (μ.2 28 ((μ.1 30 v8.toNatClampNeg) - (1 : Int32)).toNatClampNeg) v2) = 0 then
  (if (lg_cmp (μ.2 29 ((μ.1 30 v8.toNatClampNeg) - (1 : Int32)).toNatClampNeg) v4) = 0 then
  some ((), μ)
  else
  X0_note_164 n v1 k59 v2 v4 v8 v9 μ)
  else
  X0_note_164 n v1 k59 v2 v4 v8 v9 μ))))))
def X0_note_59 (n : Nat) (v1 : Nat) (v2 : Int64) (v4 : Int64) (v8 : Int32) (v9 : Int32) (μ : Mu) : Option (Unit × Mu) := lpF (fun _ _ _ _ _ => none) (X0_note_59b n v1) n v2 v4 v8 v9 μ
def X0_note (n : Nat) (v1 : Nat) (μ : Mu) : Option (Unit × Mu) :=
  kd v1 6 ((X0_packed n (v1 + 1) (0 : Int32) (7 : Int32) μ).bind (fun r7 =>
  (X0_packed n (v1 + 1) (7 : Int32) (14 : Int32) r7.2).bind (fun r19 =>
  X0_note_59 n v1 r7.1 ((r19.1 * (2 : Int64)) + ((r19.2.1 v1 1).toInt64)) ((((((r7.1 * (31 : Int64)) + ((r19.1 * (2 : Int64)) + ((r19.2.1 v1 1).toInt64))) * ((-7046029254386353131) : Int64)).toUInt64 >>> ((52 : Int32).toInt64.toUInt64 &&& Int64.toUInt64 63)).toInt64).toInt32) (0 : Int32) r19.2)))
def X1_cellOnWay_29 (n : Nat) (v1 : Int32) (v2 : Int32) (s0 : Int32) (μ : Mu) : Option (Int32 × Mu) :=
  some (s0, μ)
def X1_cellOnWay_70 (n : Nat) (v1 : Int32) (v2 : Int32) (s0 : Int32) (μ : Mu) : Option (Int32 × Mu) :=
  some (s0, μ)
def X1_cellOnWay_50 (n : Nat) (v1 : Int32) (v2 : Int32) (s1 : Int32) (s2 : Int32) (μ : Mu) : Option (Int32 × Mu) :=
  (X1_pitAsSeen n s1 s2 μ).bind (fun r50 =>
  (X5_isLacking n 1 r50.1 r50.2).bind (fun r59 =>
  (if r59.1 = 0 then
  X1_cellOnWay_70 n v1 v2 r50.1 r59.2
  else
  X1_cellOnWay_70 n v1 v2 ((-1) : Int32) r59.2)))
def X1_cellOnWay (n : Nat) (v1 : Int32) (v2 : Int32) (μ : Mu) : Option (Int32 × Mu) :=
  (if v2 = (μ.1 1 1) then
  (if (μ.1 1 5) = 0 then
  X1_cellOnWay_29 n v1 v2 ((-1) : Int32) μ
  else
  X1_cellOnWay_29 n v1 v2 ((12 : Int32) + v1) μ)
  else
  (if (μ.1 1 1) ≤ v2 then
  X1_cellOnWay_50 n v1 v2 v1 (v2 - (1 : Int32)) μ
  else
  X1_cellOnWay_50 n v1 v2 v1 v2 μ))
def X1_listSeen_87 (n : Nat) (v1 : Int32) (k7 : Int32 → Mu → Option (Unit × Mu)) (v2 : Int32) (μ : Mu) : Option (Unit × Mu) :=
  k7 (v2 + (1 : Int32)) μ
def X1_listSeen_51 (n : Nat) (v1 : Int32) (k7 : Int32 → Mu → Option (Unit × Mu)) (v2 : Int32) (v3 : Int32) (μ : Mu) : Option (Unit × Mu) :=
  (X5_isLacking n 1 v3 μ).bind (fun r56 =>
  (if r56.1 = 0 then
  gd ((v1 * (12 : Int32)) + (r56.2.1 2 1)) 24 (X1_listSeen_87 n v1 k7 v2 (si (si r56.2 4 ((v1 * (12 : Int32)) + (r56.2.1 2 1)).toNatClampNeg v3) 2 1 (((si r56.2 4 ((v1 * (12 : Int32)) + (r56.2.1 2 1)).toNatClampNeg v3).1 2 1) + (1 : Int32))))
  else
  X1_listSeen_87 n v1 k7 v2 r56.2))
def X1_listSeen_7b (n : Nat) (v1 : Int32) (k7 : Int32 → Mu → Option (Unit × Mu)) (v2 : Int32) (μ : Mu) : Option (Unit × Mu) :=
  (if ((2 : Int32) * (μ.1 1 1)) ≤ v2 then
  some ((), μ)
  else
  (X1_pitAsSeen n v1 v2 μ).bind (fun r23 =>
  (X5_isLacking n 1 r23.1 r23.2).bind (fun r32 =>
  (X5_isLacking n 1 v2 r32.2).bind (fun r40 =>
  (if r32.1 = r40.1 then
  X1_listSeen_51 n v1 k7 v2 r23.1 r40.2
  else
  X1_listSeen_51 n v1 k7 v2 r23.1 (si r40.2 2 2 (0 : Int32)))))))
def X1_listSeen_7 (n : Nat) (v1 : Int32) (v2 : Int32) (μ : Mu) : Option (Unit × Mu) := lpF (fun _ _ => none) (X1_listSeen_7b n v1) n v2 μ
def X1_listSeen (n : Nat) (v1 : Int32) (μ : Mu) : Option (Unit × Mu) :=
  X1_listSeen_7 n v1 (0 : Int32) (si μ 2 1 (0 : Int32))
def X1_lay_104 (n : Nat) (v1 : Nat) (v2 : Int32) (v3 : Int32) (v4 : Int32) (k25 : Int32 → Int32 → Int32 → Int32 → Mu → Option (Unit × Mu)) (v5 : Int32) (v6 : Int32) (v7 : Int32) (v8 : Int32) (v10 : Int32) (μ : Mu) : Option (Unit × Mu) :=
  gd (v5 + v8) 24 (gd (μ.1 4 (v5 + v8).toNatClampNeg) 14 (k25 v5 v10 v7 (v8 + (1 : Int32)) (si μ (v1 + 1) (μ.1 4 (v5 + v8).toNatClampNeg).toNatClampNeg (v6 - v10))))
def X1_lay_82 (n : Nat) (v1 : Nat) (v2 : Int32) (v3 : Int32) (v4 : Int32) (k25 : Int32 → Int32 → Int32 → Int32 → Mu → Option (Unit × Mu)) (v5 : Int32) (v6 : Int32) (v7 : Int32) (v8 : Int32) (v9 : Int32) (v10 : Int32) (μ : Mu) : Option (Unit × Mu) :=
  (if v10 ≤ 0 then
  X1_lay_104 n v1 v2 v3 v4 k25 v5 v6 v7 v8 v10 μ
  else
  gd ((v9 + v10) - (1 : Int32)) 574 (X1_lay_104 n v1 v2 v3 v4 k25 v5 v6 (v7 - (μ.1 5 ((v9 + v10) - (1 : Int32)).toNatClampNeg)) v8 v10 μ))
def X1_lay_54b (n : Nat) (v1 : Nat) (v2 : Int32) (v3 : Int32) (v4 : Int32) (k25 : Int32 → Int32 → Int32 → Int32 → Mu → Option (Unit × Mu)) (k54 : Int32 → Int32 → Int32 → Int32 → Int32 → Int32 → Mu → Option (Unit × Mu)) (v5 : Int32) (v6 : Int32) (v7 : Int32) (v8 : Int32) (v9 : Int32) (v10 : Int32) (μ : Mu) : Option (Unit × Mu) :=
  (if v6 ≤ v10 then
  X1_lay_82 n v1 v2 v3 v4 k25 v5 v6 v7 v8 v9 v10 μ
  else
  gd (v9 + v10) 574 ((if v7 < (μ.1 5 (v9 + v10).toNatClampNeg) then
  X1_lay_82 n v1 v2 v3 v4 k25 v5 v6 v7 v8 v9 v10 μ
  else
  k54 v5 v6 v7 v8 v9 (v10 + (1 : Int32)) μ)))
def X1_lay_54 (n : Nat) (v1 : Nat) (v2 : Int32) (v3 : Int32) (v4 : Int32) (k25 : Int32 → Int32 → Int32 → Int32 → Mu → Option (Unit × Mu)) (v5 : Int32) (v6 : Int32) (v7 : Int32) (v8 : Int32) (v9 : Int32) (v10 : Int32) (μ : Mu) : Option (Unit × Mu) := lpF (fun _ _ _ _ _ _ _ => none) (X1_lay_54b n v1 v2 v3 v4 k25) n v5 v6 v7 v8 v9 v10 μ
def X1_lay_134 (n : Nat) (v1 : Nat) (v2 : Int32) (v3 : Int32) (v4 : Int32) (μ : Mu) : Option (Unit × Mu) :=
  some ((), μ)
def X1_lay_25b (n : Nat) (v1 : Nat) (v2 : Int32) (v3 : Int32) (v4 : Int32) (k25 : Int32 → Int32 → Int32 → Int32 → Mu → Option (Unit × Mu)) (v5 : Int32) (v6 : Int32) (v7 : Int32) (v8 : Int32) (μ : Mu) : Option (Unit × Mu) :=
  (if (μ.1 2 1) ≤ v8 then
  X1_lay_134 n v1 v2 v3 v4 μ
  else
  (if v6 ≤ 0 then
  X1_lay_134 n v1 v2 v3 v4 μ
  else
  X1_lay_54 n v1 v2 v3 v4 k25 v5 v6 v7 v8 (((μ.1 2 1) - v8) * (41 : Int32)) (0 : Int32) μ))
def X1_lay_25 (n : Nat) (v1 : Nat) (v2 : Int32) (v3 : Int32) (v4 : Int32) (v5 : Int32) (v6 : Int32) (v7 : Int32) (v8 : Int32) (μ : Mu) : Option (Unit × Mu) := lpF (fun _ _ _ _ _ => none) (X1_lay_25b n v1 v2 v3 v4) n v5 v6 v7 v8 μ
def X1_lay (n : Nat) (v1 : Nat) (v2 : Int32) (v3 : Int32) (v4 : Int32) (μ : Mu) : Option (Unit × Mu) :=
  kd v1 6 ((X6_clear n v1 μ).bind (fun r1 =>
  X1_lay_25 n v1 v2 v3 v4 (v2 * (12 : Int32)) v3 v4 (0 : Int32) (si r1.2 v1 1 v2)))
def X3_keep_28 (n : Nat) (v1 : Nat) (v2 : Int32) (μ : Mu) : Option (Unit × Mu) :=
  (X3_slot n (μ.1 9 0) μ).bind (fun r33 =>
  gd r33.1 40 ((X6_copy n (69 + 2 * r33.1.toNatClampNeg) v1 (si r33.2 10 r33.1.toNatClampNeg v2)).bind (fun r51 =>
  some ((), (si (si r51.2 9 0 ((r51.2.1 9 0) + (1 : Int32))) 9 1 (0 : Int32))))))
def X3_keep (n : Nat) (v1 : Nat) (v2 : Int32) (μ : Mu) : Option (Unit × Mu) :=
  kd v1 6 ((if (μ.1 9 0) = (40 : Int32) then
  (X3_slot n (1 : Int32) μ).bind (fun r12 =>
  X3_keep_28 n v1 v2 (si (si r12.2 9 2 r12.1) 9 0 (((si r12.2 9 2 r12.1).1 9 0) - (1 : Int32))))
  else
  X3_keep_28 n v1 v2 μ))
def X3_back (n : Nat) (v1 : Nat) (μ : Mu) : Option (Unit × Mu) :=
  kd v1 6 ((X3_slot n ((si (si μ 9 0 ((μ.1 9 0) - (1 : Int32))) 9 1 (((si μ 9 0 ((μ.1 9 0) - (1 : Int32))).1 9 1) + (1 : Int32))).1 9 0) (si (si μ 9 0 ((μ.1 9 0) - (1 : Int32))) 9 1 (((si μ 9 0 ((μ.1 9 0) - (1 : Int32))).1 9 1) + (1 : Int32)))).bind (fun r30 =>
  gd r30.1 40 ((X6_copy n v1 (69 + 2 * r30.1.toNatClampNeg) r30.2).bind (fun r34 =>
  some ((), r34.2)))))
def X4_isSound_33 (n : Nat) (k2 : Int32 → Mu → Option (Int32 × Mu)) (v1 : Int32) (μ : Mu) : Option (Int32 × Mu) :=
  k2 (v1 + (1 : Int32)) μ
def X4_isSound_56 (n : Nat) (s0 : Int32) (μ : Mu) : Option (Int32 × Mu) :=
  bz s0 (some (s0, μ))
def X4_isSound_2b (n : Nat) (k2 : Int32 → Mu → Option (Int32 × Mu)) (v1 : Int32) (μ : Mu) : Option (Int32 × Mu) :=
  (if (12 : Int32) ≤ v1 then
  (X6_inPits n 149 μ).bind (fun r43 =>
  (if (40 : Int32) < r43.1 then
  X4_isSound_56 n (0 : Int32) r43.2
  else
  X4_isSound_56 n (1 : Int32) r43.2))
  else
  (X5_isLacking n 13 v1 μ).bind (fun r13 =>
  (if r13.1 = 0 then
  X4_isSound_33 n k2 v1 r13.2
  else
  gd v1 14 ((if (r13.2.1 150 v1.toNatClampNeg) ≤ 0 then
  X4_isSound_33 n k2 v1 r13.2
  else
  some ((0 : Int32), r13.2))))))
def X4_isSound_2 (n : Nat) (v1 : Int32) (μ : Mu) : Option (Int32 × Mu) := lpF (fun _ _ => none) (X4_isSound_2b n) n v1 μ
def X4_isSound (n : Nat) (μ : Mu) : Option (Int32 × Mu) :=
  X4_isSound_2 n (0 : Int32) μ
def X4_stepNumber_105 (n : Nat) (μ : Mu) : Option (Unit × Mu) :=
  some ((), μ)
def X4_stepNumber_82 (n : Nat) (μ : Mu) : Option (Unit × Mu) :=
  (if ((μ.1 12 9) - (μ.1 12 8)) ≤ (3 : Int32) then
  X4_stepNumber_105 n μ
  else
  (X4_refuse n (1 : Int32) (si μ 12 7 (4 : Int32))).bind (fun r102 =>
  X4_stepNumber_105 n r102.2))
def X4_stepNumber_10b (n : Nat) (k10 : Mu → Option (Unit × Mu)) (μ : Mu) : Option (Unit × Mu) :=
  (if (μ.1 12 6) ≤ (μ.1 12 9) then
  X4_stepNumber_82 n μ
  else
  (if (4 : Int32) ≤ ((μ.1 12 9) - (μ.1 12 8)) then
  X4_stepNumber_82 n μ
  else
  (X4_isDigit n (μ.1 12 9) μ).bind (fun r39 =>
  (if r39.1 = 0 then
  X4_stepNumber_82 n r39.2
  else
  gd (r39.2.1 12 9) 500 (k10 (si (si r39.2 12 10 ((((10 : Int32) * (r39.2.1 12 10)) + (r39.2.1 14 (r39.2.1 12 9).toNatClampNeg)) - (48 : Int32))) 12 9 (((si r39.2 12 10 ((((10 : Int32) * (r39.2.1 12 10)) + (r39.2.1 14 (r39.2.1 12 9).toNatClampNeg)) - (48 : Int32))).1 12 9) + (1 : Int32))))))))
def X4_stepNumber_10 (n : Nat) (μ : Mu) : Option (Unit × Mu) := lpF (fun _ => none) (X4_stepNumber_10b n) n  μ
def X4_stepNumber (n : Nat) (μ : Mu) : Option (Unit × Mu) :=
  X4_stepNumber_10 n (si (si μ 12 7 (2 : Int32)) 12 10 (0 : Int32))
def X4_stepWord_40 (n : Nat) (μ : Mu) : Option (Unit × Mu) :=
  some ((), μ)
def X4_stepWord_5b (n : Nat) (k5 : Mu → Option (Unit × Mu)) (μ : Mu) : Option (Unit × Mu) :=
  (if (μ.1 12 6) ≤ (μ.1 12 9) then
  X4_stepWord_40 n μ
  else
  (X4_isLetter n (μ.1 12 9) μ).bind (fun r21 =>
  (if r21.1 = 0 then
  X4_stepWord_40 n r21.2
  else
  k5 (si r21.2 12 9 ((r21.2.1 12 9) + (1 : Int32))))))
def X4_stepWord_5 (n : Nat) (μ : Mu) : Option (Unit × Mu) := lpF (fun _ => none) (X4_stepWord_5b n) n  μ
def X4_stepWord (n : Nat) (μ : Mu) : Option (Unit × Mu) :=
  X4_stepWord_5 n (si μ 12 7 (1 : Int32))
def X7_weighLevel_46b (n : Nat) (v1 : Int32) (k4 : Int32 → Int32 → Mu → Option (Unit × Mu)) (k46 : Int32 → Int32 → Int32 → Mu → Option (Unit × Mu)) (v2 : Int32) (v3 : Int32) (v4 : Int32) (μ : Mu) : Option (Unit × Mu) :=
  (X7_halfOf n (1 : Int32) μ).bind (fun r50 =>
  (if r50.1 < v4 then
  k4 v2 (v3 + (1 : Int32)) r50.2
  else
  (X7_settleAll n v4 v1 v3 r50.2).bind (fun r62 =>
  k46 (v2 ||| r62.1) v3 (v4 + (1 : Int32)) r62.2)))
def X7_weighLevel_46 (n : Nat) (v1 : Int32) (k4 : Int32 → Int32 → Mu → Option (Unit × Mu)) (v2 : Int32) (v3 : Int32) (v4 : Int32) (μ : Mu) : Option (Unit × Mu) := lpF (fun _ _ _ _ => none) (X7_weighLevel_46b n v1 k4) n v2 v3 v4 μ
def X7_weighLevel_20b (n : Nat) (v1 : Int32) (k4 : Int32 → Int32 → Mu → Option (Unit × Mu)) (k20 : Int32 → Int32 → Int32 → Mu → Option (Unit × Mu)) (v2 : Int32) (v3 : Int32) (v4 : Int32) (μ : Mu) : Option (Unit × Mu) :=
  (X7_halfOf n (1 : Int32) μ).bind (fun r24 =>
  (if r24.1 < v4 then
  X7_weighLevel_46 n v1 k4 v2 v3 (0 : Int32) r24.2
  else
  (X7_weighAll n v4 v1 r24.2).bind (fun r34 =>
  k20 v2 v3 (v4 + (1 : Int32)) r34.2)))
def X7_weighLevel_20 (n : Nat) (v1 : Int32) (k4 : Int32 → Int32 → Mu → Option (Unit × Mu)) (v2 : Int32) (v3 : Int32) (v4 : Int32) (μ : Mu) : Option (Unit × Mu) := lpF (fun _ _ _ _ => none) (X7_weighLevel_20b n v1 k4) n v2 v3 v4 μ
def X7_weighLevel_79 (n : Nat) (v1 : Int32) (μ : Mu) : Option (Unit × Mu) :=
  some ((), μ)
def X7_weighLevel_4b (n : Nat) (v1 : Int32) (k4 : Int32 → Int32 → Mu → Option (Unit × Mu)) (v2 : Int32) (v3 : Int32) (μ : Mu) : Option (Unit × Mu) :=
  (if v2 = 0 then
  X7_weighLevel_79 n v1 μ
  else
  (if (6007 : Int32) < v3 then
  X7_weighLevel_79 n v1 μ
  else
  X7_weighLevel_20 n v1 k4 (0 : Int32) v3 (0 : Int32) μ))
def X7_weighLevel_4 (n : Nat) (v1 : Int32) (v2 : Int32) (v3 : Int32) (μ : Mu) : Option (Unit × Mu) := lpF (fun _ _ _ => none) (X7_weighLevel_4b n v1) n v2 v3 μ
def X7_weighLevel (n : Nat) (v1 : Int32) (μ : Mu) : Option (Unit × Mu) :=
  X7_weighLevel_4 n v1 (1 : Int32) (1 : Int32) μ
def X7_rankAt (n : Nat) (v1 : Nat) (μ : Mu) : Option (Int32 × Mu) :=
  kd v1 6 ((X6_inPits n v1 μ).bind (fun r4 =>
  (X7_indexAt n v1 r4.1 r4.2).bind (fun r7 =>
  (X7_rankOf n r7.1 r7.2).bind (fun r10 =>
  some (r10.1, r10.2)))))
def X8_sow_207 (n : Nat) (v1 : Nat) (v2 : Int32) (s1 : Int32) (μ : Mu) : Option (Int32 × Mu) :=
  some ((1 : Int32), (si μ v1 1 s1))
def X8_sow_201 (n : Nat) (v1 : Nat) (v2 : Int32) (μ : Mu) : Option (Int32 × Mu) :=
  X8_sow_207 n v1 v2 ((1 : Int32) - (μ.1 v1 1)) μ
def X8_sow_152 (n : Nat) (v1 : Nat) (v2 : Int32) (v4 : Int32) (s1 : Int32) (μ : Mu) : Option (Int32 × Mu) :=
  gd ((12 : Int32) + ((si μ 6 2 s1).1 v1 1)) 14 ((if ((si (si μ 6 2 s1) 6 3 (((si μ 6 2 s1).1 (v1 + 1) ((12 : Int32) + ((si μ 6 2 s1).1 v1 1)).toNatClampNeg) - v4)).1 1 7) = 0 then
  X8_sow_201 n v1 v2 (si (si μ 6 2 s1) 6 3 (((si μ 6 2 s1).1 (v1 + 1) ((12 : Int32) + ((si μ 6 2 s1).1 v1 1)).toNatClampNeg) - v4))
  else
  (if ((si (si μ 6 2 s1) 6 3 (((si μ 6 2 s1).1 (v1 + 1) ((12 : Int32) + ((si μ 6 2 s1).1 v1 1)).toNatClampNeg) - v4)).1 6 0) < (12 : Int32) then
  X8_sow_201 n v1 v2 (si (si μ 6 2 s1) 6 3 (((si μ 6 2 s1).1 (v1 + 1) ((12 : Int32) + ((si μ 6 2 s1).1 v1 1)).toNatClampNeg) - v4))
  else
  X8_sow_207 n v1 v2 ((si (si μ 6 2 s1) 6 3 (((si μ 6 2 s1).1 (v1 + 1) ((12 : Int32) + ((si μ 6 2 s1).1 v1 1)).toNatClampNeg) - v4)).1 v1 1) (si (si μ 6 2 s1) 6 3 (((si μ 6 2 s1).1 (v1 + 1) ((12 : Int32) + ((si μ 6 2 s1).1 v1 1)).toNatClampNeg) - v4)))))
def X8_sow_106 (n : Nat) (v1 : Nat) (v2 : Int32) (v4 : Int32) (v5 : Int32) (μ : Mu) : Option (Int32 × Mu) :=
  (if ((si μ 6 1 v5).1 6 0) < (12 : Int32) then
  (X8_isOwn n v1 (((si μ 6 1 v5).1 6 0).toInt64) (si μ 6 1 v5)).bind (fun r133 =>
  (if r133.1 = 0 then
  (X8_takeGrand n v1 r133.2).bind (fun r149 =>
  X8_sow_152 n v1 v2 v4 r149.1 r149.2)
  else
  (X8_takeOpposite n v1 r133.2).bind (fun r141 =>
  X8_sow_152 n v1 v2 v4 r141.1 r141.2)))
  else
  X8_sow_152 n v1 v2 v4 (0 : Int32) (si μ 6 1 v5))
def X8_sow_64 (n : Nat) (v1 : Nat) (v2 : Int32) (k19 : Int32 → Int32 → Int32 → Mu → Option (Int32 × Mu)) (v3 : Int32) (v4 : Int32) (v5 : Int32) (μ : Mu) : Option (Int32 × Mu) :=
  (X8_scatter n v1 v3 μ).bind (fun r68 =>
  (if ((si r68.2 6 0 r68.1).1 1 3) = 0 then
  X8_sow_106 n v1 v2 v4 v5 (si r68.2 6 0 r68.1)
  else
  (if (12 : Int32) ≤ ((si r68.2 6 0 r68.1).1 6 0) then
  X8_sow_106 n v1 v2 v4 v5 (si r68.2 6 0 r68.1)
  else
  gd ((si r68.2 6 0 r68.1).1 6 0) 14 ((if ((si r68.2 6 0 r68.1).1 (v1 + 1) ((si r68.2 6 0 r68.1).1 6 0).toNatClampNeg) = (1 : Int32) then
  X8_sow_106 n v1 v2 v4 v5 (si r68.2 6 0 r68.1)
  else
  k19 ((si r68.2 6 0 r68.1).1 6 0) v4 (v5 + (1 : Int32)) (si r68.2 6 0 r68.1))))))
def X8_sow_19b (n : Nat) (v1 : Nat) (v2 : Int32) (k19 : Int32 → Int32 → Int32 → Mu → Option (Int32 × Mu)) (v3 : Int32) (v4 : Int32) (v5 : Int32) (μ : Mu) : Option (Int32 × Mu) :=
  (if (μ.1 1 3) < v5 then
  some ((0 : Int32), μ)
  else
  (if (μ.1 1 6) = 0 then
  X8_sow_64 n v1 v2 k19 v3 v4 v5 μ
  else
  gd (((μ.1 v1 1) * (14 : Int32)) + v3) 28 ((if (μ.1 3 (((μ.1 v1 1) * (14 : Int32)) + v3).toNatClampNeg) = v3 then
  some ((0 : Int32), μ)
  else
  X8_sow_64 n v1 v2 k19 v3 v4 v5 μ))))
def X8_sow_19 (n : Nat) (v1 : Nat) (v2 : Int32) (v3 : Int32) (v4 : Int32) (v5 : Int32) (μ : Mu) : Option (Int32 × Mu) := lpF (fun _ _ _ _ => none) (X8_sow_19b n v1 v2) n v3 v4 v5 μ
def X8_sow (n : Nat) (v1 : Nat) (v2 : Int32) (μ : Mu) : Option (Int32 × Mu) :=
  kd v1 6 (gd ((12 : Int32) + (μ.1 v1 1)) 14 (X8_sow_19 n v1 v2 v2 (μ.1 (v1 + 1) ((12 : Int32) + (μ.1 v1 1)).toNatClampNeg) (0 : Int32) μ))
def X8_tryAll_134 (n : Nat) (v1 : Nat) (k21 : Int32 → Int32 → Int32 → Int32 → Mu → Option (Int32 × Mu)) (v2 : Int32) (v3 : Int32) (v4 : Int32) (v5 : Int32) (μ : Mu) : Option (Int32 × Mu) :=
  k21 v2 v3 v4 (v5 + (1 : Int32)) μ
def X8_tryAll_161 (n : Nat) (v1 : Nat) (s0 : Int32) (μ : Mu) : Option (Int32 × Mu) :=
  some (s0, μ)
def X8_tryAll_160 (n : Nat) (v1 : Nat) (v3 : Int32) (μ : Mu) : Option (Int32 × Mu) :=
  X8_tryAll_161 n v1 v3 μ
def X8_tryAll_21b (n : Nat) (v1 : Nat) (k21 : Int32 → Int32 → Int32 → Int32 → Mu → Option (Int32 × Mu)) (v2 : Int32) (v3 : Int32) (v4 : Int32) (v5 : Int32) (μ : Mu) : Option (Int32 × Mu) :=
  (if (μ.1 1 1) ≤ v5 then
  (if (μ.1 1 8) = 0 then
  X8_tryAll_160 n v1 v3 μ
  else
  (if v4 = 0 then
  X8_tryAll_160 n v1 v3 μ
  else
  X8_tryAll_161 n v1 v4 μ))
  else
  gd (v2 + v5) 14 ((if (μ.1 (v1 + 1) (v2 + v5).toNatClampNeg) = 0 then
  X8_tryAll_134 n v1 k21 v2 v3 v4 v5 μ
  else
  gd v5 6 ((X6_copy n (57 + 2 * v5.toNatClampNeg) v1 μ).bind (fun r56 =>
  (X8_sow n (57 + 2 * v5.toNatClampNeg) (v2 + v5) r56.2).bind (fun r71 =>
  (if r71.1 = 0 then
  X8_tryAll_134 n v1 k21 v2 v3 v4 v5 r71.2
  else
  (X6_inRow n (57 + 2 * v5.toNatClampNeg) ((1 : Int32) - ((si r71.2 8 v5.toNatClampNeg (r71.2.1 6 3)).1 v1 1)) ((si r71.2 8 v5.toNatClampNeg (r71.2.1 6 3)).1 1 1) (si r71.2 8 v5.toNatClampNeg (r71.2.1 6 3))).bind (fun r117 =>
  (if r117.1 ≤ 0 then
  X8_tryAll_134 n v1 k21 v2 (v3 ||| ((1 : Int32) <<< ((v2 + v5) &&& 31))) v4 v5 r117.2
  else
  X8_tryAll_134 n v1 k21 v2 (v3 ||| ((1 : Int32) <<< ((v2 + v5) &&& 31))) (v4 ||| ((1 : Int32) <<< ((v2 + v5) &&& 31))) v5 r117.2)))))))))
def X8_tryAll_21 (n : Nat) (v1 : Nat) (v2 : Int32) (v3 : Int32) (v4 : Int32) (v5 : Int32) (μ : Mu) : Option (Int32 × Mu) := lpF (fun _ _ _ _ _ => none) (X8_tryAll_21b n v1) n v2 v3 v4 v5 μ
def X8_tryAll (n : Nat) (v1 : Nat) (μ : Mu) : Option (Int32 × Mu) :=
  kd v1 6 (X8_tryAll_21 n v1 ((μ.1 v1 1) * (μ.1 1 1)) (0 : Int32) (0 : Int32) (0 : Int32) μ)
def X8_isLong_42 (n : Nat) (v1 : Nat) (v2 : Int32) (s0 : Int32) (μ : Mu) : Option (Int32 × Mu) :=
  bz s0 (some (s0, μ))
def X8_isLong (n : Nat) (v1 : Nat) (v2 : Int32) (μ : Mu) : Option (Int32 × Mu) :=
  kd v1 6 (gd v2 6 ((X6_copy n (57 + 2 * v2.toNatClampNeg) v1 μ).bind (fun r7 =>
  (X8_sow n (57 + 2 * v2.toNatClampNeg) (((r7.2.1 v1 1) * (r7.2.1 1 1)) + v2) r7.2).bind (fun r31 =>
  (if r31.1 = 0 then
  X8_isLong_42 n v1 v2 (1 : Int32) r31.2
  else
  X8_isLong_42 n v1 v2 (0 : Int32) r31.2)))))
def X8_isOver_56 (n : Nat) (v1 : Nat) (μ : Mu) : Option (Int32 × Mu) :=
  some ((0 : Int32), μ)
def X8_isOver_58 (n : Nat) (v1 : Nat) (k15 : Int32 → Int32 → Mu → Option (Int32 × Mu)) (v2 : Int32) (v3 : Int32) (μ : Mu) : Option (Int32 × Mu) :=
  k15 v2 (v3 + (1 : Int32)) μ
def X8_isOver_15b (n : Nat) (v1 : Nat) (k15 : Int32 → Int32 → Mu → Option (Int32 × Mu)) (v2 : Int32) (v3 : Int32) (μ : Mu) : Option (Int32 × Mu) :=
  (if (μ.1 1 1) ≤ v3 then
  some ((1 : Int32), μ)
  else
  gd (v2 + v3) 14 ((if (μ.1 (v1 + 1) (v2 + v3).toNatClampNeg) ≤ 0 then
  X8_isOver_58 n v1 k15 v2 v3 μ
  else
  (if (μ.1 2 3) = 0 then
  X8_isOver_56 n v1 μ
  else
  (X8_isLong n v1 v3 μ).bind (fun r50 =>
  (if r50.1 = 0 then
  X8_isOver_56 n v1 r50.2
  else
  X8_isOver_58 n v1 k15 v2 v3 r50.2))))))
def X8_isOver_15 (n : Nat) (v1 : Nat) (v2 : Int32) (v3 : Int32) (μ : Mu) : Option (Int32 × Mu) := lpF (fun _ _ _ => none) (X8_isOver_15b n v1) n v2 v3 μ
def X8_isOver (n : Nat) (v1 : Nat) (μ : Mu) : Option (Int32 × Mu) :=
  kd v1 6 (X8_isOver_15 n v1 ((μ.1 v1 1) * (μ.1 1 1)) (0 : Int32) μ)
def X8_scoreOf (n : Nat) (v1 : Nat) (μ : Mu) : Option (Int32 × Mu) :=
  kd v1 6 ((X8_isOver n v1 μ).bind (fun r18 =>
  (if r18.1 = 0 then
  some (((μ.1 (v1 + 1) 12) - (μ.1 (v1 + 1) 13)), r18.2)
  else
  (X6_inRow n v1 (0 : Int32) (r18.2.1 1 1) r18.2).bind (fun r36 =>
  (X6_inRow n v1 (1 : Int32) (r36.2.1 1 1) r36.2).bind (fun r49 =>
  some (((((μ.1 (v1 + 1) 12) - (μ.1 (v1 + 1) 13)) + r36.1) - r49.1), r49.2))))))
def X10_go (n : Nat) (v1 : Int32) (μ : Mu) : Option (Unit × Mu) :=
  (X8_sow n 153 v1 μ).bind (fun r9 =>
  gd (r9.2.1 22 2) 100 (some ((), (si (si r9.2 23 (r9.2.1 22 2).toNatClampNeg v1) 22 2 (((si r9.2 23 (r9.2.1 22 2).toNatClampNeg v1).1 22 2) + (1 : Int32))))))
def X10_pick_46 (n : Nat) (v0 : Int32) (v1 : Int32) (k20 : Int32 → Int32 → Mu → Option (Int32 × Mu)) (v3 : Int32) (v4 : Int32) (μ : Mu) : Option (Int32 × Mu) :=
  k20 v3 (v4 + (1 : Int32)) μ
def X10_pick_20b (n : Nat) (v0 : Int32) (v1 : Int32) (k20 : Int32 → Int32 → Mu → Option (Int32 × Mu)) (v3 : Int32) (v4 : Int32) (μ : Mu) : Option (Int32 × Mu) :=
  (if (12 : Int32) ≤ v4 then
  some (((-1) : Int32), μ)
  else
  (X11_has n v0 v4 μ).bind (fun r30 =>
  (if r30.1 = 0 then
  X10_pick_46 n v0 v1 k20 v3 v4 r30.2
  else
  (if v3 = 0 then
  some (v4, r30.2)
  else
  X10_pick_46 n v0 v1 k20 (v3 + ((-1) : Int32)) v4 r30.2))))
def X10_pick_20 (n : Nat) (v0 : Int32) (v1 : Int32) (v3 : Int32) (v4 : Int32) (μ : Mu) : Option (Int32 × Mu) := lpF (fun _ _ _ => none) (X10_pick_20b n v0 v1) n v3 v4 μ
def X10_pick_16 (n : Nat) (v0 : Int32) (v1 : Int32) (s0 : Int32) (μ : Mu) : Option (Int32 × Mu) :=
  X10_pick_20 n v0 v1 s0 (0 : Int32) μ
def X10_pick (n : Nat) (v0 : Int32) (v1 : Int32) (μ : Mu) : Option (Int32 × Mu) :=
  (J6_bitCount_0f7a4 n v0 μ).bind (fun r1 =>
  (if r1.1 = 0 then
  X10_pick_16 n v0 v1 (0 : Int32) r1.2
  else
  dv r1.1 (X10_pick_16 n v0 v1 (v1 - v1 / r1.1 * r1.1) r1.2)))
def X11_undo (n : Nat) (μ : Mu) : Option (Int32 × Mu) :=
  (if (μ.1 9 0) = 0 then
  some ((0 : Int32), μ)
  else
  (X3_back n 53 μ).bind (fun r20 =>
  some ((1 : Int32), r20.2)))
def X11_redo (n : Nat) (μ : Mu) : Option (Int32 × Mu) :=
  (if (μ.1 9 1) = 0 then
  some ((0 : Int32), μ)
  else
  (X3_again n μ).bind (fun r24 =>
  (X8_sow n 53 r24.1 r24.2).bind (fun r27 =>
  some ((1 : Int32), r27.2))))
def X11_over (n : Nat) (μ : Mu) : Option (Int32 × Mu) :=
  (X8_isOver n 53 μ).bind (fun r8 =>
  bz r8.1 (some (r8.1, r8.2)))
def X11_score (n : Nat) (μ : Mu) : Option (Int32 × Mu) :=
  (X8_scoreOf n 53 μ).bind (fun r8 =>
  some (r8.1, r8.2))
def X11_count (n : Nat) (v1 : Int32) (μ : Mu) : Option (Int32 × Mu) :=
  (if v1 = (0 : Int32) then
  some ((μ.1 1 0), μ)
  else
  (if v1 = (1 : Int32) then
  some ((μ.1 1 1), μ)
  else
  (if v1 = (2 : Int32) then
  (X6_inPits n 53 μ).bind (fun r64 =>
  some (r64.1, r64.2))
  else
  (if v1 = (3 : Int32) then
  (J6_bitCount_0f7a4 n (μ.1 1 2) μ).bind (fun r75 =>
  some (r75.1, r75.2))
  else
  (if v1 = (4 : Int32) then
  some ((μ.1 9 0), μ)
  else
  (if v1 = (5 : Int32) then
  some ((μ.1 9 1), μ)
  else
  (if v1 = (6 : Int32) then
  some ((μ.1 12 4), μ)
  else
  some (((-1) : Int32), μ))))))))
def X11_isNotable_69 (n : Nat) (v1 : Int32) (v2 : Int32) (s0 : Int32) (μ : Mu) : Option (Int32 × Mu) :=
  bz s0 (some (s0, μ))
def X11_isNotable_85 (n : Nat) (v1 : Int32) (v2 : Int32) (s0 : Int32) (μ : Mu) : Option (Int32 × Mu) :=
  bz s0 (some (s0, μ))
def X11_isNotable_117 (n : Nat) (v1 : Int32) (v2 : Int32) (s0 : Int32) (μ : Mu) : Option (Int32 × Mu) :=
  bz s0 (some (s0, μ))
def X11_isNotable (n : Nat) (v1 : Int32) (v2 : Int32) (μ : Mu) : Option (Int32 × Mu) :=
  (X6_copy n 55 53 μ).bind (fun r8 =>
  (X8_sow n 55 v1 r8.2).bind (fun r20 =>
  (if v2 = (0 : Int32) then
  (if (r20.2.1 6 0) < (12 : Int32) then
  X11_isNotable_69 n v1 v2 (0 : Int32) r20.2
  else
  X11_isNotable_69 n v1 v2 (1 : Int32) r20.2)
  else
  (if v2 = (1 : Int32) then
  (if (r20.2.1 6 2) ≤ 0 then
  X11_isNotable_85 n v1 v2 (0 : Int32) r20.2
  else
  X11_isNotable_85 n v1 v2 (1 : Int32) r20.2)
  else
  (X6_inRow n 55 ((1 : Int32) - (r20.2.1 53 1)) (r20.2.1 1 1) r20.2).bind (fun r106 =>
  (if r106.1 = 0 then
  X11_isNotable_117 n v1 v2 (1 : Int32) r106.2
  else
  X11_isNotable_117 n v1 v2 (0 : Int32) r106.2))))))
def X11_toldOfPlay_73 (n : Nat) (v1 : Int32) (s0 : Int32) (μ : Mu) : Option (Int32 × Mu) :=
  some (s0, μ)
def X11_toldOfPlay (n : Nat) (v1 : Int32) (μ : Mu) : Option (Int32 × Mu) :=
  (if v1 = (0 : Int32) then
  (X8_scoreOf n 153 μ).bind (fun r39 =>
  some (r39.1, r39.2))
  else
  (if v1 = (1 : Int32) then
  some ((μ.1 22 2), μ)
  else
  (X8_isOver n 153 μ).bind (fun r62 =>
  (if r62.1 = 0 then
  X11_toldOfPlay_73 n v1 (0 : Int32) r62.2
  else
  X11_toldOfPlay_73 n v1 (1 : Int32) r62.2))))
def X12_takes_56 (n : Nat) (v1 : Int32) (v2 : Int32) (μ : Mu) : Option (Unit × Mu) :=
  some ((), μ)
def X12_takes_253 (n : Nat) (v1 : Int32) (v2 : Int32) (μ : Mu) : Option (Unit × Mu) :=
  some ((), μ)
def X12_takes_157 (n : Nat) (v1 : Int32) (v2 : Int32) (k119 : Int32 → Int32 → Int32 → Mu → Option (Unit × Mu)) (v3 : Int32) (v4 : Int32) (v5 : Int32) (μ : Mu) : Option (Unit × Mu) :=
  gd v5 12 ((X12_ahead n v5 μ).bind (fun r179 =>
  k119 (v3 ||| ((1 : Int32) <<< (v5 &&& 31))) (v4 + (μ.1 178 v5.toNatClampNeg)) r179.1 r179.2))
def X12_takes_247 (n : Nat) (v1 : Int32) (v2 : Int32) (k220 : Int32 → Int32 → Mu → Option (Unit × Mu)) (v3 : Int32) (v5 : Int32) (μ : Mu) : Option (Unit × Mu) :=
  k220 v3 (v5 + (1 : Int32)) μ
def X12_takes_220b (n : Nat) (v1 : Int32) (v2 : Int32) (k220 : Int32 → Int32 → Mu → Option (Unit × Mu)) (v3 : Int32) (v5 : Int32) (μ : Mu) : Option (Unit × Mu) :=
  (X12_pitMany n μ).bind (fun r223 =>
  (if r223.1 ≤ v5 then
  X12_takes_253 n v1 v2 r223.2
  else
  (if ((v3 >>> (v5 &&& 31)) &&& (1 : Int32)) = (1 : Int32) then
  gd v5 12 (X12_takes_247 n v1 v2 k220 v3 v5 (si r223.2 178 v5.toNatClampNeg (0 : Int32)))
  else
  X12_takes_247 n v1 v2 k220 v3 v5 r223.2)))
def X12_takes_220 (n : Nat) (v1 : Int32) (v2 : Int32) (v3 : Int32) (v5 : Int32) (μ : Mu) : Option (Unit × Mu) := lpF (fun _ _ _ => none) (X12_takes_220b n v1 v2) n v3 v5 μ
def X12_takes_211 (n : Nat) (v1 : Int32) (v2 : Int32) (v3 : Int32) (v4 : Int32) (μ : Mu) : Option (Unit × Mu) :=
  X12_takes_220 n v1 v2 v3 (0 : Int32) (si μ 171 20 v4)
def X12_takes_187 (n : Nat) (v1 : Int32) (v2 : Int32) (v3 : Int32) (v4 : Int32) (μ : Mu) : Option (Unit × Mu) :=
  (if (μ.1 172 8) = (1 : Int32) then
  (X12_sum n ((1 : Int32) - v1) μ).bind (fun r204 =>
  (if v4 = r204.1 then
  some ((), r204.2)
  else
  X12_takes_211 n v1 v2 v3 v4 r204.2))
  else
  X12_takes_211 n v1 v2 v3 v4 μ)
def X12_takes_119b (n : Nat) (v1 : Int32) (v2 : Int32) (k119 : Int32 → Int32 → Int32 → Mu → Option (Unit × Mu)) (v3 : Int32) (v4 : Int32) (v5 : Int32) (μ : Mu) : Option (Unit × Mu) :=
  (if v5 = ((-1) : Int32) then
  X12_takes_187 n v1 v2 v3 v4 μ
  else
  (X12_sideOf n v5 μ).bind (fun r128 =>
  (if r128.1 = v1 then
  X12_takes_187 n v1 v2 v3 v4 r128.2
  else
  gd v5 12 ((if (r128.2.1 178 v5.toNatClampNeg) = (2 : Int32) then
  X12_takes_157 n v1 v2 k119 v3 v4 v5 r128.2
  else
  (if (r128.2.1 178 v5.toNatClampNeg) = (3 : Int32) then
  X12_takes_157 n v1 v2 k119 v3 v4 v5 r128.2
  else
  X12_takes_187 n v1 v2 v3 v4 r128.2))))))
def X12_takes_119 (n : Nat) (v1 : Int32) (v2 : Int32) (v3 : Int32) (v4 : Int32) (v5 : Int32) (μ : Mu) : Option (Unit × Mu) := lpF (fun _ _ _ _ => none) (X12_takes_119b n v1 v2) n v3 v4 v5 μ
def X12_takes (n : Nat) (v1 : Int32) (v2 : Int32) (μ : Mu) : Option (Unit × Mu) :=
  (if (μ.1 172 7) = (1 : Int32) then
  (X12_pitMany n μ).bind (fun r12 =>
  (X12_sideOf n (r12.2.1 171 18) r12.2).bind (fun r28 =>
  (if r28.1 = v1 then
  (if 0 < v2 then
  X12_takes_56 n v1 v2 r28.2
  else
  (X12_isLacking n ((r12.1 - (1 : Int32)) - (r12.2.1 171 18)) r28.2).bind (fun r41 =>
  (if r41.1 = 0 then
  gd ((r12.1 - (1 : Int32)) - (r12.2.1 171 18)) 12 ((if (r41.2.1 178 ((r12.1 - (1 : Int32)) - (r12.2.1 171 18)).toNatClampNeg) = 0 then
  X12_takes_56 n v1 v2 r41.2
  else
  gd (r41.2.1 171 18) 12 (gd ((si (si r41.2 171 20 ((r41.2.1 178 ((r12.1 - (1 : Int32)) - (r12.2.1 171 18)).toNatClampNeg) + (r41.2.1 178 (r41.2.1 171 18).toNatClampNeg))) 178 ((r12.1 - (1 : Int32)) - (r12.2.1 171 18)).toNatClampNeg (0 : Int32)).1 171 18) 12 (X12_takes_253 n v1 v2 (si (si (si r41.2 171 20 ((r41.2.1 178 ((r12.1 - (1 : Int32)) - (r12.2.1 171 18)).toNatClampNeg) + (r41.2.1 178 (r41.2.1 171 18).toNatClampNeg))) 178 ((r12.1 - (1 : Int32)) - (r12.2.1 171 18)).toNatClampNeg (0 : Int32)) 178 ((si (si r41.2 171 20 ((r41.2.1 178 ((r12.1 - (1 : Int32)) - (r12.2.1 171 18)).toNatClampNeg) + (r41.2.1 178 (r41.2.1 171 18).toNatClampNeg))) 178 ((r12.1 - (1 : Int32)) - (r12.2.1 171 18)).toNatClampNeg (0 : Int32)).1 171 18).toNatClampNeg (0 : Int32))))))
  else
  X12_takes_56 n v1 v2 r41.2)))
  else
  X12_takes_56 n v1 v2 r28.2)))
  else
  (if (μ.1 172 7) = (2 : Int32) then
  X12_takes_119 n v1 v2 (0 : Int32) (0 : Int32) (μ.1 171 18) μ
  else
  X12_takes_253 n v1 v2 μ))
def X12_trayFault_26 (n : Nat) (v1 : Int32) (s0 : Int32) (μ : Mu) : Option (Int32 × Mu) :=
  some (s0, μ)
def X12_trayFault (n : Nat) (v1 : Int32) (μ : Mu) : Option (Int32 × Mu) :=
  (X12_isTray n v1 μ).bind (fun r1 =>
  (if r1.1 = 0 then
  X12_trayFault_26 n v1 (1 : Int32) r1.2
  else
  gd v1 4 ((if (r1.2.1 198 v1.toNatClampNeg) = ((-1) : Int32) then
  X12_trayFault_26 n v1 (2 : Int32) r1.2
  else
  X12_trayFault_26 n v1 (0 : Int32) r1.2))))
def X12_settles_70 (n : Nat) (v1 : Int32) (k18 : Int32 → Int32 → Mu → Option (Unit × Mu)) (k26 : Int32 → Int32 → Int32 → Mu → Option (Unit × Mu)) (v2 : Int32) (v3 : Int32) (v4 : Int32) (v5 : Int32) (s1 : Int32) (s2 : Int32) (μ : Mu) : Option (Unit × Mu) :=
  gd s1 12000 (gd v5 12000 (k26 v2 v3 (v4 + (1 : Int32)) (si (si μ 184 s1.toNatClampNeg s2) 185 v5.toNatClampNeg (0 : Int32))))
def X12_settles_26b (n : Nat) (v1 : Int32) (k18 : Int32 → Int32 → Mu → Option (Unit × Mu)) (k26 : Int32 → Int32 → Int32 → Mu → Option (Unit × Mu)) (v2 : Int32) (v3 : Int32) (v4 : Int32) (μ : Mu) : Option (Unit × Mu) :=
  (if v2 ≤ v4 then
  k18 v2 (v3 + (1 : Int32)) μ
  else
  (X12_seat n v3 v1 v4 μ).bind (fun r37 =>
  gd r37.1 12000 ((if (r37.2.1 190 r37.1.toNatClampNeg) = 0 then
  X12_settles_70 n v1 k18 k26 v2 v3 v4 r37.1 r37.1 (0 : Int32) r37.2
  else
  (X12_ownLess n v3 v1 v4 r37.2).bind (fun r63 =>
  X12_settles_70 n v1 k18 k26 v2 v3 v4 r37.1 r37.1 r63.1 r63.2)))))
def X12_settles_26 (n : Nat) (v1 : Int32) (k18 : Int32 → Int32 → Mu → Option (Unit × Mu)) (v2 : Int32) (v3 : Int32) (v4 : Int32) (μ : Mu) : Option (Unit × Mu) := lpF (fun _ _ _ _ => none) (X12_settles_26b n v1 k18) n v2 v3 v4 μ
def X12_settles_114b (n : Nat) (v1 : Int32) (k96 : Int32 → Int32 → Int32 → Mu → Option (Unit × Mu)) (k105 : Int32 → Int32 → Int32 → Int32 → Mu → Option (Unit × Mu)) (k114 : Int32 → Int32 → Int32 → Int32 → Int32 → Mu → Option (Unit × Mu)) (v2 : Int32) (v3 : Int32) (v4 : Int32) (v5 : Int32) (v6 : Int32) (μ : Mu) : Option (Unit × Mu) :=
  (if v2 ≤ v6 then
  k105 v2 v3 v4 (v5 + (1 : Int32)) μ
  else
  (X12_seat n v5 v1 v6 μ).bind (fun r130 =>
  (X12_seat n v5 v1 v6 r130.2).bind (fun r143 =>
  gd r143.1 12000 (gd r130.1 12000 (k114 v2 v3 v4 v5 (v6 + (1 : Int32)) (si r143.2 186 r130.1.toNatClampNeg (r143.2.1 184 r143.1.toNatClampNeg)))))))
def X12_settles_114 (n : Nat) (v1 : Int32) (k96 : Int32 → Int32 → Int32 → Mu → Option (Unit × Mu)) (k105 : Int32 → Int32 → Int32 → Int32 → Mu → Option (Unit × Mu)) (v2 : Int32) (v3 : Int32) (v4 : Int32) (v5 : Int32) (v6 : Int32) (μ : Mu) : Option (Unit × Mu) := lpF (fun _ _ _ _ _ _ => none) (X12_settles_114b n v1 k96 k105) n v2 v3 v4 v5 v6 μ
def X12_settles_172b (n : Nat) (v1 : Int32) (k96 : Int32 → Int32 → Int32 → Mu → Option (Unit × Mu)) (k163 : Int32 → Int32 → Int32 → Int32 → Mu → Option (Unit × Mu)) (k172 : Int32 → Int32 → Int32 → Int32 → Int32 → Mu → Option (Unit × Mu)) (v2 : Int32) (v3 : Int32) (v4 : Int32) (v5 : Int32) (v6 : Int32) (μ : Mu) : Option (Unit × Mu) :=
  (if v2 ≤ v6 then
  k163 v2 v3 v4 (v5 + (1 : Int32)) μ
  else
  (X12_seat n v5 v1 v6 μ).bind (fun r186 =>
  (X12_betters n r186.1 v1 v4 r186.2).bind (fun r192 =>
  k172 v2 (v3 ||| r192.1) v4 v5 (v6 + (1 : Int32)) r192.2)))
def X12_settles_172 (n : Nat) (v1 : Int32) (k96 : Int32 → Int32 → Int32 → Mu → Option (Unit × Mu)) (k163 : Int32 → Int32 → Int32 → Int32 → Mu → Option (Unit × Mu)) (v2 : Int32) (v3 : Int32) (v4 : Int32) (v5 : Int32) (v6 : Int32) (μ : Mu) : Option (Unit × Mu) := lpF (fun _ _ _ _ _ _ => none) (X12_settles_172b n v1 k96 k163) n v2 v3 v4 v5 v6 μ
def X12_settles_163b (n : Nat) (v1 : Int32) (k96 : Int32 → Int32 → Int32 → Mu → Option (Unit × Mu)) (k163 : Int32 → Int32 → Int32 → Int32 → Mu → Option (Unit × Mu)) (v2 : Int32) (v3 : Int32) (v4 : Int32) (v5 : Int32) (μ : Mu) : Option (Unit × Mu) :=
  (if (2 : Int32) ≤ v5 then
  k96 v2 v3 (v4 + (1 : Int32)) μ
  else
  X12_settles_172 n v1 k96 k163 v2 v3 v4 v5 (0 : Int32) μ)
def X12_settles_163 (n : Nat) (v1 : Int32) (k96 : Int32 → Int32 → Int32 → Mu → Option (Unit × Mu)) (v2 : Int32) (v3 : Int32) (v4 : Int32) (v5 : Int32) (μ : Mu) : Option (Unit × Mu) := lpF (fun _ _ _ _ _ => none) (X12_settles_163b n v1 k96) n v2 v3 v4 v5 μ
def X12_settles_105b (n : Nat) (v1 : Int32) (k96 : Int32 → Int32 → Int32 → Mu → Option (Unit × Mu)) (k105 : Int32 → Int32 → Int32 → Int32 → Mu → Option (Unit × Mu)) (v2 : Int32) (v3 : Int32) (v4 : Int32) (v5 : Int32) (μ : Mu) : Option (Unit × Mu) :=
  (if (2 : Int32) ≤ v5 then
  X12_settles_163 n v1 k96 v2 v3 v4 (0 : Int32) μ
  else
  X12_settles_114 n v1 k96 k105 v2 v3 v4 v5 (0 : Int32) μ)
def X12_settles_105 (n : Nat) (v1 : Int32) (k96 : Int32 → Int32 → Int32 → Mu → Option (Unit × Mu)) (v2 : Int32) (v3 : Int32) (v4 : Int32) (v5 : Int32) (μ : Mu) : Option (Unit × Mu) := lpF (fun _ _ _ _ _ => none) (X12_settles_105b n v1 k96) n v2 v3 v4 v5 μ
def X12_settles_96b (n : Nat) (v1 : Int32) (k96 : Int32 → Int32 → Int32 → Mu → Option (Unit × Mu)) (v2 : Int32) (v3 : Int32) (v4 : Int32) (μ : Mu) : Option (Unit × Mu) :=
  (if v3 = 0 then
  some ((), μ)
  else
  X12_settles_105 n v1 k96 v2 (0 : Int32) v4 (0 : Int32) μ)
def X12_settles_96 (n : Nat) (v1 : Int32) (v2 : Int32) (v3 : Int32) (v4 : Int32) (μ : Mu) : Option (Unit × Mu) := lpF (fun _ _ _ _ => none) (X12_settles_96b n v1) n v2 v3 v4 μ
def X12_settles_18b (n : Nat) (v1 : Int32) (k18 : Int32 → Int32 → Mu → Option (Unit × Mu)) (v2 : Int32) (v3 : Int32) (μ : Mu) : Option (Unit × Mu) :=
  (if (2 : Int32) ≤ v3 then
  X12_settles_96 n v1 v2 (1 : Int32) (1 : Int32) μ
  else
  X12_settles_26 n v1 k18 v2 v3 (0 : Int32) μ)
def X12_settles_18 (n : Nat) (v1 : Int32) (v2 : Int32) (v3 : Int32) (μ : Mu) : Option (Unit × Mu) := lpF (fun _ _ _ => none) (X12_settles_18b n v1) n v2 v3 μ
def X12_settles (n : Nat) (v1 : Int32) (μ : Mu) : Option (Unit × Mu) :=
  gd (v1 + (1 : Int32)) 42 (gd v1 42 (X12_settles_18 n v1 ((μ.1 189 (v1 + (1 : Int32)).toNatClampNeg) - (μ.1 189 v1.toNatClampNeg)) (0 : Int32) μ))
def X12_write_52 (n : Nat) (v1 : Int32) (v2 : Int32) (v3 : Int64) (s0 : Int64) (μ : Mu) : Option (Int64 × Mu) :=
  some (s0, μ)
def X12_write (n : Nat) (v1 : Int32) (v2 : Int32) (v3 : Int64) (μ : Mu) : Option (Int64 × Mu) :=
  (X12_trayFault n v1 μ).bind (fun r3 =>
  (if ((si r3.2 171 5 r3.1).1 171 5) ≤ 0 then
  gd v1 4 ((X12_within n (v2.toInt64) (0 : Int64) ((((si r3.2 171 5 r3.1).1 199 v1.toNatClampNeg) - (1 : Int32)).toInt64) (si r3.2 171 5 r3.1)).bind (fun r30 =>
  (if r30.1 = 0 then
  (X12_fails n (3 : Int32) r30.2).bind (fun r48 =>
  X12_write_52 n v1 v2 v3 (r48.1.toInt64) r48.2)
  else
  (X12_cut n v1 v2 v3 r30.2).bind (fun r40 =>
  X12_write_52 n v1 v2 v3 r40.1 r40.2))))
  else
  some ((0 : Int64), (si r3.2 171 5 r3.1))))
def X12_pour_34b (n : Nat) (v1 : Int32) (k34 : Int32 → Int32 → Mu → Option (Int32 × Mu)) (v2 : Int32) (v3 : Int32) (μ : Mu) : Option (Int32 × Mu) :=
  (if v2 ≤ v3 then
  some (v2, μ)
  else
  gd v3 40 ((X12_cut n v1 v3 ((μ.1 180 v3.toNatClampNeg).toInt64) μ).bind (fun r49 =>
  k34 v2 (v3 + (1 : Int32)) r49.2)))
def X12_pour_34 (n : Nat) (v1 : Int32) (v2 : Int32) (v3 : Int32) (μ : Mu) : Option (Int32 × Mu) := lpF (fun _ _ _ => none) (X12_pour_34b n v1) n v2 v3 μ
def X12_pour (n : Nat) (v1 : Int32) (μ : Mu) : Option (Int32 × Mu) :=
  (X12_trayFault n v1 μ).bind (fun r3 =>
  (if ((si r3.2 171 5 r3.1).1 171 5) ≤ 0 then
  gd v1 4 (X12_pour_34 n v1 (if ((si r3.2 171 5 r3.1).1 171 28) < ((si r3.2 171 5 r3.1).1 199 v1.toNatClampNeg) then ((si r3.2 171 5 r3.1).1 171 28) else ((si r3.2 171 5 r3.1).1 199 v1.toNatClampNeg)) (0 : Int32) (si r3.2 171 5 r3.1))
  else
  some ((0 : Int32), (si r3.2 171 5 r3.1))))
def X0_goDown (n : Nat) (v1 : Int32) (v2 : Int32) (μ : Mu) : Option (Unit × Mu) :=
  gd (v1 + (1 : Int32)) 7 (gd v1 7 ((X6_copy n (155 + 2 * (v1 + (1 : Int32)).toNatClampNeg) (155 + 2 * v1.toNatClampNeg) μ).bind (fun r14 =>
  (X8_sow n (155 + 2 * (v1 + (1 : Int32)).toNatClampNeg) v2 r14.2).bind (fun r30 =>
  some ((), r30.2)))))
def X1_linkWay_71 (n : Nat) (v1 : Int32) (k13 : Int32 → Int32 → Int32 → Int32 → Mu → Option (Unit × Mu)) (v2 : Int32) (v3 : Int32) (v4 : Int32) (v5 : Int32) (μ : Mu) : Option (Unit × Mu) :=
  k13 v2 v3 v4 (v5 + (1 : Int32)) μ
def X1_linkWay_67 (n : Nat) (v1 : Int32) (k13 : Int32 → Int32 → Int32 → Int32 → Mu → Option (Unit × Mu)) (v2 : Int32) (v3 : Int32) (v5 : Int32) (v6 : Int32) (μ : Mu) : Option (Unit × Mu) :=
  X1_linkWay_71 n v1 k13 v2 v3 v6 v5 μ
def X1_linkWay_93 (n : Nat) (v1 : Int32) (μ : Mu) : Option (Unit × Mu) :=
  some ((), μ)
def X1_linkWay_13b (n : Nat) (v1 : Int32) (k13 : Int32 → Int32 → Int32 → Int32 → Mu → Option (Unit × Mu)) (v2 : Int32) (v3 : Int32) (v4 : Int32) (v5 : Int32) (μ : Mu) : Option (Unit × Mu) :=
  (if ((2 : Int32) * (μ.1 1 1)) < v5 then
  (if v4 = ((-1) : Int32) then
  X1_linkWay_93 n v1 μ
  else
  gd (v2 + v4) 28 (X1_linkWay_93 n v1 (si μ 3 (v2 + v4).toNatClampNeg v3)))
  else
  (X1_cellOnWay n v1 v5 μ).bind (fun r31 =>
  (if r31.1 = ((-1) : Int32) then
  X1_linkWay_71 n v1 k13 v2 v3 v4 v5 r31.2
  else
  (if v3 = ((-1) : Int32) then
  X1_linkWay_67 n v1 k13 v2 r31.1 v5 r31.1 r31.2
  else
  gd (v2 + v4) 28 (X1_linkWay_67 n v1 k13 v2 v3 v5 r31.1 (si r31.2 3 (v2 + v4).toNatClampNeg r31.1))))))
def X1_linkWay_13 (n : Nat) (v1 : Int32) (v2 : Int32) (v3 : Int32) (v4 : Int32) (v5 : Int32) (μ : Mu) : Option (Unit × Mu) := lpF (fun _ _ _ _ _ => none) (X1_linkWay_13b n v1) n v2 v3 v4 v5 μ
def X1_linkWay (n : Nat) (v1 : Int32) (μ : Mu) : Option (Unit × Mu) :=
  X1_linkWay_13 n v1 (v1 * (14 : Int32)) ((-1) : Int32) ((-1) : Int32) (0 : Int32) μ
def X4_step_47 (n : Nat) (k8 : Mu → Option (Unit × Mu)) (μ : Mu) : Option (Unit × Mu) :=
  k8 (si μ 12 8 ((μ.1 12 8) + (1 : Int32)))
def X4_step_165 (n : Nat) (μ : Mu) : Option (Unit × Mu) :=
  some ((), μ)
def X4_step_60 (n : Nat) (μ : Mu) : Option (Unit × Mu) :=
  (if ((si μ 12 9 (μ.1 12 8)).1 12 8) < ((si μ 12 9 (μ.1 12 8)).1 12 6) then
  (X4_isDigit n ((si μ 12 9 (μ.1 12 8)).1 12 8) (si μ 12 9 (μ.1 12 8))).bind (fun r92 =>
  (if r92.1 = 0 then
  (X4_isLetter n (r92.2.1 12 8) r92.2).bind (fun r110 =>
  (if r110.1 = 0 then
  gd (r110.2.1 12 8) 500 ((if (r110.2.1 14 (r110.2.1 12 8).toNatClampNeg) = (59 : Int32) then
  X4_step_165 n (si (si r110.2 12 7 (3 : Int32)) 12 9 (((si r110.2 12 7 (3 : Int32)).1 12 9) + (1 : Int32)))
  else
  (X4_refuse n (1 : Int32) (si r110.2 12 7 (4 : Int32))).bind (fun r162 =>
  X4_step_165 n r162.2)))
  else
  (X4_stepWord n r110.2).bind (fun r117 =>
  X4_step_165 n r117.2)))
  else
  (X4_stepNumber n r92.2).bind (fun r99 =>
  X4_step_165 n r99.2)))
  else
  X4_step_165 n (si (si μ 12 9 (μ.1 12 8)) 12 7 (0 : Int32)))
def X4_step_8b (n : Nat) (k8 : Mu → Option (Unit × Mu)) (μ : Mu) : Option (Unit × Mu) :=
  (if (μ.1 12 6) ≤ (μ.1 12 8) then
  X4_step_60 n μ
  else
  gd (μ.1 12 8) 500 ((if (μ.1 14 (μ.1 12 8).toNatClampNeg) = (10 : Int32) then
  X4_step_47 n k8 μ
  else
  (if (μ.1 14 (μ.1 12 8).toNatClampNeg) = (32 : Int32) then
  X4_step_47 n k8 μ
  else
  X4_step_60 n μ))))
def X4_step_8 (n : Nat) (μ : Mu) : Option (Unit × Mu) := lpF (fun _ => none) (X4_step_8b n) n  μ
def X4_step (n : Nat) (μ : Mu) : Option (Unit × Mu) :=
  X4_step_8 n (si μ 12 8 (μ.1 12 9))
def X7_readPosition_176 (n : Nat) (v1 : Int32) (v2 : Int32) (v3 : Int32) (k145 : Int32 → Int32 → Int32 → Mu → Option (Unit × Mu)) (v4 : Int32) (v6 : Int32) (v7 : Int32) (μ : Mu) : Option (Unit × Mu) :=
  k145 v4 v6 (v7 + (1 : Int32)) μ
def X7_readPosition_145b (n : Nat) (v1 : Int32) (v2 : Int32) (v3 : Int32) (k145 : Int32 → Int32 → Int32 → Mu → Option (Unit × Mu)) (v4 : Int32) (v6 : Int32) (v7 : Int32) (μ : Mu) : Option (Unit × Mu) :=
  (if (μ.1 1 1) ≤ v7 then
  some ((), μ)
  else
  (X11_has n v6 v7 μ).bind (fun r161 =>
  (if r161.1 = 0 then
  X7_readPosition_176 n v1 v2 v3 k145 v4 v6 v7 r161.2
  else
  (X7_readMove n v4 v2 v7 r161.2).bind (fun r173 =>
  X7_readPosition_176 n v1 v2 v3 k145 v4 v6 v7 r173.2))))
def X7_readPosition_145 (n : Nat) (v1 : Int32) (v2 : Int32) (v3 : Int32) (v4 : Int32) (v6 : Int32) (v7 : Int32) (μ : Mu) : Option (Unit × Mu) := lpF (fun _ _ _ _ => none) (X7_readPosition_145b n v1 v2 v3) n v4 v6 v7 μ
def X7_readPosition_142 (n : Nat) (v1 : Int32) (v2 : Int32) (v3 : Int32) (v4 : Int32) (v6 : Int32) (μ : Mu) : Option (Unit × Mu) :=
  X7_readPosition_145 n v1 v2 v3 v4 v6 (0 : Int32) μ
def X7_readPosition (n : Nat) (v1 : Int32) (v2 : Int32) (v3 : Int32) (μ : Mu) : Option (Unit × Mu) :=
  (X7_indexOf n v1 v2 v3 μ).bind (fun r13 =>
  (X1_lay n 151 v1 v2 v3 r13.2).bind (fun r29 =>
  gd ((v1 * (3003 : Int32)) + v3) 6006 (gd r13.1 12000 ((X8_tryAll n 151 (si (si (si (si r29.2 18 ((v1 * (3003 : Int32)) + v3).toNatClampNeg ((-1000) : Int32)) 20 ((v1 * (3003 : Int32)) + v3).toNatClampNeg (0 : Int32)) 16 r13.1.toNatClampNeg (0 : Int32)) 17 r13.1.toNatClampNeg (0 : Int32))).bind (fun r74 =>
  (if ((r74.1.toUInt32 >>> ((v1 * (r74.2.1 1 1)).toUInt32 &&& Int32.toUInt32 31)).toInt32) = 0 then
  (X6_inRow n 151 v1 (r74.2.1 1 1) r74.2).bind (fun r112 =>
  (X6_inRow n 151 ((1 : Int32) - v1) (r112.2.1 1 1) r112.2).bind (fun r129 =>
  X7_readPosition_142 n v1 v2 v3 ((v1 * (3003 : Int32)) + v3) ((r74.1.toUInt32 >>> ((v1 * (r74.2.1 1 1)).toUInt32 &&& Int32.toUInt32 31)).toInt32) (si (si r129.2 16 r13.1.toNatClampNeg (r112.1 - r129.1)) 17 r13.1.toNatClampNeg ((-1) : Int32))))
  else
  X7_readPosition_142 n v1 v2 v3 ((v1 * (3003 : Int32)) + v3) ((r74.1.toUInt32 >>> ((v1 * (r74.2.1 1 1)).toUInt32 &&& Int32.toUInt32 31)).toInt32) r74.2))))))
def X7_worthBy_40 (n : Nat) (v1 : Nat) (v2 : Int32) (s0 : Int32) (μ : Mu) : Option (Int32 × Mu) :=
  some (s0, μ)
def X7_worthBy (n : Nat) (v1 : Nat) (v2 : Int32) (μ : Mu) : Option (Int32 × Mu) :=
  kd v1 6 ((X8_tryAll n v1 μ).bind (fun r5 =>
  (X11_has n r5.1 v2 r5.2).bind (fun r9 =>
  (if r9.1 = 0 then
  X7_worthBy_40 n v1 v2 ((-1000) : Int32) r9.2
  else
  (X7_worthOfTried n v1 (v2 - ((r9.2.1 v1 1) * (r9.2.1 1 1))) r9.2).bind (fun r31 =>
  X7_worthBy_40 n v1 v2 r31.1 r31.2)))))
def X7_bestAt_100 (n : Nat) (v1 : Nat) (k40 : Int32 → Int32 → Int32 → Int32 → Int32 → Int32 → Mu → Option (Int32 × Mu)) (v2 : Int32) (v3 : Int32) (v4 : Int32) (v5 : Int32) (v6 : Int32) (v7 : Int32) (μ : Mu) : Option (Int32 × Mu) :=
  k40 v2 v3 v4 v5 v6 (v7 + (1 : Int32)) μ
def X7_bestAt_88 (n : Nat) (v1 : Nat) (k40 : Int32 → Int32 → Int32 → Int32 → Int32 → Int32 → Mu → Option (Int32 × Mu)) (v2 : Int32) (v3 : Int32) (v4 : Int32) (v7 : Int32) (μ : Mu) : Option (Int32 × Mu) :=
  X7_bestAt_100 n v1 k40 v2 v3 v4 (v3 + v7) (μ.1 15 8) v7 μ
def X7_bestAt_40b (n : Nat) (v1 : Nat) (k40 : Int32 → Int32 → Int32 → Int32 → Int32 → Int32 → Mu → Option (Int32 × Mu)) (v2 : Int32) (v3 : Int32) (v4 : Int32) (v5 : Int32) (v6 : Int32) (v7 : Int32) (μ : Mu) : Option (Int32 × Mu) :=
  (if (μ.1 1 1) ≤ v7 then
  some (v5, μ)
  else
  (X11_has n v4 v7 μ).bind (fun r56 =>
  (if r56.1 = 0 then
  X7_bestAt_100 n v1 k40 v2 v3 v4 v5 v6 v7 r56.2
  else
  (X7_worthOfTried n v1 v7 r56.2).bind (fun r66 =>
  (if r66.1 = v2 then
  (if v5 = ((-1) : Int32) then
  X7_bestAt_88 n v1 k40 v2 v3 v4 v7 r66.2
  else
  (if v6 ≤ (r66.2.1 15 8) then
  X7_bestAt_100 n v1 k40 v2 v3 v4 v5 v6 v7 r66.2
  else
  X7_bestAt_88 n v1 k40 v2 v3 v4 v7 r66.2))
  else
  X7_bestAt_100 n v1 k40 v2 v3 v4 v5 v6 v7 r66.2)))))
def X7_bestAt_40 (n : Nat) (v1 : Nat) (v2 : Int32) (v3 : Int32) (v4 : Int32) (v5 : Int32) (v6 : Int32) (v7 : Int32) (μ : Mu) : Option (Int32 × Mu) := lpF (fun _ _ _ _ _ _ _ => none) (X7_bestAt_40b n v1) n v2 v3 v4 v5 v6 v7 μ
def X7_bestAt (n : Nat) (v1 : Nat) (μ : Mu) : Option (Int32 × Mu) :=
  kd v1 6 ((X7_valueAt n v1 μ).bind (fun r2 =>
  (X8_tryAll n v1 r2.2).bind (fun r24 =>
  X7_bestAt_40 n v1 r2.1 ((r2.2.1 v1 1) * (r2.2.1 1 1)) ((r24.1.toUInt32 >>> (((r2.2.1 v1 1) * (r2.2.1 1 1)).toUInt32 &&& Int32.toUInt32 31)).toInt32) ((-1) : Int32) (0 : Int32) (0 : Int32) r24.2)))
def X7_manyBest_69 (n : Nat) (v1 : Nat) (k34 : Int32 → Int32 → Int32 → Int32 → Mu → Option (Int32 × Mu)) (v2 : Int32) (v3 : Int32) (v4 : Int32) (v5 : Int32) (μ : Mu) : Option (Int32 × Mu) :=
  k34 v2 v3 v4 (v5 + (1 : Int32)) μ
def X7_manyBest_34b (n : Nat) (v1 : Nat) (k34 : Int32 → Int32 → Int32 → Int32 → Mu → Option (Int32 × Mu)) (v2 : Int32) (v3 : Int32) (v4 : Int32) (v5 : Int32) (μ : Mu) : Option (Int32 × Mu) :=
  (if (μ.1 1 1) ≤ v5 then
  some (v4, μ)
  else
  (X11_has n v3 v5 μ).bind (fun r49 =>
  (if r49.1 = 0 then
  X7_manyBest_69 n v1 k34 v2 v3 v4 v5 r49.2
  else
  (X7_worthOfTried n v1 v5 r49.2).bind (fun r59 =>
  (if r59.1 = v2 then
  X7_manyBest_69 n v1 k34 v2 v3 (v4 + (1 : Int32)) v5 r59.2
  else
  X7_manyBest_69 n v1 k34 v2 v3 v4 v5 r59.2)))))
def X7_manyBest_34 (n : Nat) (v1 : Nat) (v2 : Int32) (v3 : Int32) (v4 : Int32) (v5 : Int32) (μ : Mu) : Option (Int32 × Mu) := lpF (fun _ _ _ _ _ => none) (X7_manyBest_34b n v1) n v2 v3 v4 v5 μ
def X7_manyBest (n : Nat) (v1 : Nat) (μ : Mu) : Option (Int32 × Mu) :=
  kd v1 6 ((X7_valueAt n v1 μ).bind (fun r2 =>
  (X8_tryAll n v1 r2.2).bind (fun r11 =>
  X7_manyBest_34 n v1 r2.1 ((r11.1.toUInt32 >>> (((r11.2.1 v1 1) * (r11.2.1 1 1)).toUInt32 &&& Int32.toUInt32 31)).toInt32) (0 : Int32) (0 : Int32) r11.2)))
def X8_choices_39 (n : Nat) (v1 : Nat) (s0 : Int32) (μ : Mu) : Option (Int32 × Mu) :=
  some (s0, μ)
def X8_choices_20 (n : Nat) (v1 : Nat) (μ : Mu) : Option (Int32 × Mu) :=
  (X8_tryAll n v1 μ).bind (fun r22 =>
  X8_choices_39 n v1 r22.1 r22.2)
def X8_choices (n : Nat) (v1 : Nat) (μ : Mu) : Option (Int32 × Mu) :=
  kd v1 6 ((if (μ.1 1 8) = 0 then
  (if (μ.1 2 3) = 0 then
  (X6_filled n v1 (μ.1 1 1) μ).bind (fun r36 =>
  X8_choices_39 n v1 r36.1 r36.2)
  else
  X8_choices_20 n v1 μ)
  else
  X8_choices_20 n v1 μ))
def X8_reason_81 (n : Nat) (v1 : Nat) (v2 : Int64) (s0 : Int32) (μ : Mu) : Option (Int32 × Mu) :=
  some (s0, μ)
def X8_reason (n : Nat) (v1 : Nat) (v2 : Int64) (μ : Mu) : Option (Int32 × Mu) :=
  kd v1 6 ((X8_choices n v1 μ).bind (fun r2 =>
  (if r2.1 = 0 then
  some ((5 : Int32), r2.2)
  else
  (X8_isOwn n v1 v2 r2.2).bind (fun r17 =>
  (if r17.1 = 0 then
  some ((1 : Int32), r17.2)
  else
  gd (v2.toInt32) 14 ((if (r17.2.1 (v1 + 1) (v2.toInt32).toNatClampNeg) = 0 then
  some ((2 : Int32), r17.2)
  else
  (X11_has n r2.1 (v2.toInt32) r17.2).bind (fun r45 =>
  (if r45.1 = 0 then
  (X8_isLong n v1 ((v2.toInt32) - ((r45.2.1 v1 1) * (r45.2.1 1 1))) r45.2).bind (fun r70 =>
  (if r70.1 = 0 then
  X8_reason_81 n v1 v2 (4 : Int32) r70.2
  else
  X8_reason_81 n v1 v2 (3 : Int32) r70.2))
  else
  some ((0 : Int32), r45.2))))))))))
def X10_goByBest_94 (n : Nat) (v1 : Nat) (μ : Mu) : Option (Unit × Mu) :=
  some ((), μ)
def X10_goByBest_24b (n : Nat) (v1 : Nat) (k24 : Int32 → Mu → Option (Unit × Mu)) (v2 : Int32) (μ : Mu) : Option (Unit × Mu) :=
  (if (60 : Int32) ≤ v2 then
  X10_goByBest_94 n v1 μ
  else
  (if (μ.1 22 3) = 0 then
  (X7_bestAt n 153 μ).bind (fun r45 =>
  (if r45.1 = ((-1) : Int32) then
  some ((), r45.2)
  else
  (X10_go n r45.1 r45.2).bind (fun r57 =>
  (X7_markOf n 153 r57.2).bind (fun r76 =>
  gd (r57.2.1 22 2) 61 ((X10_isMarkedAgain n (si r76.2 24 (r57.2.1 22 2).toNatClampNeg r76.1)).bind (fun r82 =>
  bz r82.1 (k24 (v2 + (1 : Int32)) (si r82.2 22 3 r82.1))))))))
  else
  X10_goByBest_94 n v1 μ))
def X10_goByBest_24 (n : Nat) (v1 : Nat) (v2 : Int32) (μ : Mu) : Option (Unit × Mu) := lpF (fun _ _ => none) (X10_goByBest_24b n v1) n v2 μ
def X10_goByBest (n : Nat) (v1 : Nat) (μ : Mu) : Option (Unit × Mu) :=
  kd v1 6 ((X10_begin n v1 μ).bind (fun r2 =>
  (X7_markOf n 153 r2.2).bind (fun r18 =>
  X10_goByBest_24 n v1 (0 : Int32) (si r18.2 24 0 r18.1))))
def X10_goWhileForced_7b (n : Nat) (v1 : Nat) (k7 : Int32 → Mu → Option (Unit × Mu)) (v2 : Int32) (μ : Mu) : Option (Unit × Mu) :=
  (if (60 : Int32) ≤ v2 then
  some ((), μ)
  else
  (X8_choices n 153 μ).bind (fun r21 =>
  (J6_bitCount_0f7a4 n r21.1 r21.2).bind (fun r26 =>
  (if r26.1 = (1 : Int32) then
  (X10_pick n r21.1 (0 : Int32) r26.2).bind (fun r37 =>
  (X10_go n r37.1 r37.2).bind (fun r40 =>
  k7 (v2 + (1 : Int32)) r40.2))
  else
  some ((), r26.2)))))
def X10_goWhileForced_7 (n : Nat) (v1 : Nat) (v2 : Int32) (μ : Mu) : Option (Unit × Mu) := lpF (fun _ _ => none) (X10_goWhileForced_7b n v1) n v2 μ
def X10_goWhileForced (n : Nat) (v1 : Nat) (μ : Mu) : Option (Unit × Mu) :=
  kd v1 6 ((X10_begin n v1 μ).bind (fun r2 =>
  X10_goWhileForced_7 n v1 (0 : Int32) r2.2))
def X10_goByDraws_81 (n : Nat) (v1 : Nat) (v2 : Int32) (v3 : Int32) (k11 : Int32 → Int32 → Mu → Option (Unit × Mu)) (v4 : Int32) (v5 : Int32) (v6 : Int32) (μ : Mu) : Option (Unit × Mu) :=
  (if v6 = ((-1) : Int32) then
  some ((), μ)
  else
  (X10_go n v6 μ).bind (fun r91 =>
  k11 v4 (v5 + (1 : Int32)) r91.2))
def X10_goByDraws_49 (n : Nat) (v1 : Nat) (v2 : Int32) (v3 : Int32) (k11 : Int32 → Int32 → Mu → Option (Unit × Mu)) (v4 : Int32) (v5 : Int32) (μ : Mu) : Option (Unit × Mu) :=
  (X8_choices n 153 μ).bind (fun r68 =>
  (X10_pick n r68.1 (((((1103515245 : Int32) * v4) + (12345 : Int32)).toUInt32 >>> ((16 : Int32).toUInt32 &&& Int32.toUInt32 31)).toInt32) r68.2).bind (fun r76 =>
  X10_goByDraws_81 n v1 v2 v3 k11 (((1103515245 : Int32) * v4) + (12345 : Int32)) v5 r76.1 r76.2))
def X10_goByDraws_11b (n : Nat) (v1 : Nat) (v2 : Int32) (v3 : Int32) (k11 : Int32 → Int32 → Mu → Option (Unit × Mu)) (v4 : Int32) (v5 : Int32) (μ : Mu) : Option (Unit × Mu) :=
  (if (100 : Int32) ≤ v5 then
  some ((), μ)
  else
  (if v3 = 0 then
  X10_goByDraws_49 n v1 v2 v3 k11 v4 v5 μ
  else
  (if (μ.1 153 1) = (1 : Int32) then
  (X7_bestAt n 153 μ).bind (fun r41 =>
  X10_goByDraws_81 n v1 v2 v3 k11 v4 v5 r41.1 r41.2)
  else
  X10_goByDraws_49 n v1 v2 v3 k11 v4 v5 μ)))
def X10_goByDraws_11 (n : Nat) (v1 : Nat) (v2 : Int32) (v3 : Int32) (v4 : Int32) (v5 : Int32) (μ : Mu) : Option (Unit × Mu) := lpF (fun _ _ _ => none) (X10_goByDraws_11b n v1 v2 v3) n v4 v5 μ
def X10_goByDraws (n : Nat) (v1 : Nat) (v2 : Int32) (v3 : Int32) (μ : Mu) : Option (Unit × Mu) :=
  kd v1 6 ((X10_begin n v1 μ).bind (fun r2 =>
  X10_goByDraws_11 n v1 v2 v3 v2 (0 : Int32) r2.2))
def X11_may (n : Nat) (v1 : Int32) (μ : Mu) : Option (Int32 × Mu) :=
  (X8_reason n 53 (v1.toInt64) μ).bind (fun r10 =>
  some (r10.1, r10.2))
def X11_move (n : Nat) (v1 : Int32) (μ : Mu) : Option (Int32 × Mu) :=
  (X8_reason n 53 (v1.toInt64) μ).bind (fun r10 =>
  (if r10.1 = 0 then
  (X3_keep n 53 v1 r10.2).bind (fun r30 =>
  (X8_sow n 53 v1 r30.2).bind (fun r42 =>
  some ((r42.2.1 6 3), r42.2)))
  else
  some ((-r10.1), r10.2)))
def X11_forced (n : Nat) (μ : Mu) : Option (Int32 × Mu) :=
  (X10_goWhileForced n 53 μ).bind (fun r8 =>
  some ((r8.2.1 22 2), r8.2))
def X12_sows_132 (n : Nat) (v1 : Int32) (v2 : Int32) (k25 : Int32 → Int32 → Mu → Option (Unit × Mu)) (k51 : Int32 → Int32 → Int32 → Int32 → Mu → Option (Unit × Mu)) (v3 : Int32) (v5 : Int32) (v6 : Int32) (v7 : Int32) (μ : Mu) : Option (Unit × Mu) :=
  k51 v3 (v5 + ((-1) : Int32)) v6 v7 μ
def X12_sows_75 (n : Nat) (v1 : Int32) (v2 : Int32) (k25 : Int32 → Int32 → Mu → Option (Unit × Mu)) (k51 : Int32 → Int32 → Int32 → Int32 → Mu → Option (Unit × Mu)) (v3 : Int32) (v5 : Int32) (v7 : Int32) (s1 : Int32) (s2 : Int32) (s3 : Int32) (μ : Mu) : Option (Unit × Mu) :=
  (X12_next n s1 s2 s3 μ).bind (fun r75 =>
  (if r75.1 = ((-1) : Int32) then
  some ((), (si r75.2 171 23 (1 : Int32)))
  else
  (if r75.1 = (100 : Int32) then
  X12_sows_132 n v1 v2 k25 k51 v3 v5 r75.1 v7 (si r75.2 171 21 ((r75.2.1 171 21) + (1 : Int32)))
  else
  gd r75.1 12 (X12_sows_132 n v1 v2 k25 k51 v3 v5 r75.1 (r75.2.1 178 r75.1.toNatClampNeg) (si r75.2 178 r75.1.toNatClampNeg ((r75.2.1 178 r75.1.toNatClampNeg) + (1 : Int32)))))))
def X12_sows_233 (n : Nat) (v1 : Int32) (v2 : Int32) (k25 : Int32 → Int32 → Mu → Option (Unit × Mu)) (v3 : Int32) (v4 : Int32) (μ : Mu) : Option (Unit × Mu) :=
  k25 v3 v4 μ
def X12_sows_198 (n : Nat) (v1 : Int32) (v2 : Int32) (k25 : Int32 → Int32 → Mu → Option (Unit × Mu)) (v3 : Int32) (v4 : Int32) (v6 : Int32) (v7 : Int32) (μ : Mu) : Option (Unit × Mu) :=
  (if v4 = 0 then
  (if v6 = (100 : Int32) then
  X12_sows_233 n v1 v2 k25 v3 v4 μ
  else
  (X12_takes n v1 v7 μ).bind (fun r230 =>
  X12_sows_233 n v1 v2 k25 v3 v4 r230.2))
  else
  X12_sows_233 n v1 v2 k25 v6 v4 (si μ 171 19 ((μ.1 171 19) + (1 : Int32))))
def X12_sows_171 (n : Nat) (v1 : Int32) (v2 : Int32) (k25 : Int32 → Int32 → Mu → Option (Unit × Mu)) (v3 : Int32) (v6 : Int32) (v7 : Int32) (s0 : Int32) (μ : Mu) : Option (Unit × Mu) :=
  (if s0 = 0 then
  X12_sows_198 n v1 v2 k25 v3 s0 v6 v7 μ
  else
  (if (μ.1 171 19) = (μ.1 172 6) then
  some ((), (si μ 171 23 (1 : Int32)))
  else
  X12_sows_198 n v1 v2 k25 v3 s0 v6 v7 μ))
def X12_sows_170 (n : Nat) (v1 : Int32) (v2 : Int32) (k25 : Int32 → Int32 → Mu → Option (Unit × Mu)) (v3 : Int32) (v6 : Int32) (v7 : Int32) (μ : Mu) : Option (Unit × Mu) :=
  X12_sows_171 n v1 v2 k25 v3 v6 v7 (0 : Int32) μ
def X12_sows_51b (n : Nat) (v1 : Int32) (v2 : Int32) (k25 : Int32 → Int32 → Mu → Option (Unit × Mu)) (k51 : Int32 → Int32 → Int32 → Int32 → Mu → Option (Unit × Mu)) (v3 : Int32) (v5 : Int32) (v6 : Int32) (v7 : Int32) (μ : Mu) : Option (Unit × Mu) :=
  (if v5 ≤ 0 then
  (if ((si μ 171 18 v6).1 172 6) ≤ 0 then
  X12_sows_170 n v1 v2 k25 v3 v6 v7 (si μ 171 18 v6)
  else
  (if v6 = (100 : Int32) then
  X12_sows_170 n v1 v2 k25 v3 v6 v7 (si μ 171 18 v6)
  else
  (if v7 ≤ 0 then
  X12_sows_170 n v1 v2 k25 v3 v6 v7 (si μ 171 18 v6)
  else
  X12_sows_171 n v1 v2 k25 v3 v6 v7 (1 : Int32) (si μ 171 18 v6))))
  else
  (if (μ.1 172 5) = (1 : Int32) then
  X12_sows_75 n v1 v2 k25 k51 v3 v5 v7 v1 v6 v3 μ
  else
  X12_sows_75 n v1 v2 k25 k51 v3 v5 v7 v1 v6 ((-1) : Int32) μ))
def X12_sows_51 (n : Nat) (v1 : Int32) (v2 : Int32) (k25 : Int32 → Int32 → Mu → Option (Unit × Mu)) (v3 : Int32) (v5 : Int32) (v6 : Int32) (v7 : Int32) (μ : Mu) : Option (Unit × Mu) := lpF (fun _ _ _ _ _ => none) (X12_sows_51b n v1 v2 k25) n v3 v5 v6 v7 μ
def X12_sows_277 (n : Nat) (v1 : Int32) (v2 : Int32) (s1 : Int32) (μ : Mu) : Option (Unit × Mu) :=
  some ((), (si μ 171 22 s1))
def X12_sows_274 (n : Nat) (v1 : Int32) (v2 : Int32) (μ : Mu) : Option (Unit × Mu) :=
  X12_sows_277 n v1 v2 ((1 : Int32) - v1) μ
def X12_sows_25b (n : Nat) (v1 : Int32) (v2 : Int32) (k25 : Int32 → Int32 → Mu → Option (Unit × Mu)) (v3 : Int32) (v4 : Int32) (μ : Mu) : Option (Unit × Mu) :=
  (if v4 = 0 then
  (if ((si μ 171 21 ((μ.1 171 21) + (μ.1 171 20))).1 172 9) = (1 : Int32) then
  (if ((si μ 171 21 ((μ.1 171 21) + (μ.1 171 20))).1 171 18) = (100 : Int32) then
  X12_sows_277 n v1 v2 v1 (si μ 171 21 ((μ.1 171 21) + (μ.1 171 20)))
  else
  X12_sows_274 n v1 v2 (si μ 171 21 ((μ.1 171 21) + (μ.1 171 20))))
  else
  X12_sows_274 n v1 v2 (si μ 171 21 ((μ.1 171 21) + (μ.1 171 20))))
  else
  gd v3 12 (X12_sows_51 n v1 v2 k25 v3 (μ.1 178 v3.toNatClampNeg) v3 (0 : Int32) (si μ 178 v3.toNatClampNeg (0 : Int32))))
def X12_sows_25 (n : Nat) (v1 : Int32) (v2 : Int32) (v3 : Int32) (v4 : Int32) (μ : Mu) : Option (Unit × Mu) := lpF (fun _ _ _ => none) (X12_sows_25b n v1 v2) n v3 v4 μ
def X12_sows (n : Nat) (v1 : Int32) (v2 : Int32) (μ : Mu) : Option (Unit × Mu) :=
  X12_sows_25 n v1 v2 v2 (1 : Int32) (si (si (si (si μ 171 19 (0 : Int32)) 171 21 (0 : Int32)) 171 20 (0 : Int32)) 171 23 (0 : Int32))
def X12_triesFrom (n : Nat) (v1 : Int32) (μ : Mu) : Option (Unit × Mu) :=
  (X12_takesUp n μ).bind (fun r1 =>
  (X12_sows n (r1.2.1 172 2) v1 r1.2).bind (fun r12 =>
  some ((), r12.2)))
def X12_isOver_35 (n : Nat) (k2 : Int32 → Mu → Option (Int32 × Mu)) (v1 : Int32) (μ : Mu) : Option (Int32 × Mu) :=
  k2 (v1 + (1 : Int32)) μ
def X12_isOver_2b (n : Nat) (k2 : Int32 → Mu → Option (Int32 × Mu)) (v1 : Int32) (μ : Mu) : Option (Int32 × Mu) :=
  (X12_pitMany n μ).bind (fun r4 =>
  (if r4.1 ≤ v1 then
  some ((1 : Int32), r4.2)
  else
  (X12_isFull n v1 r4.2).bind (fun r12 =>
  (if r12.1 = 0 then
  X12_isOver_35 n k2 v1 r12.2
  else
  (X12_triesFrom n v1 r12.2).bind (fun r23 =>
  (if (r23.2.1 171 23) = 0 then
  some ((0 : Int32), r23.2)
  else
  X12_isOver_35 n k2 v1 r23.2))))))
def X12_isOver_2 (n : Nat) (v1 : Int32) (μ : Mu) : Option (Int32 × Mu) := lpF (fun _ _ => none) (X12_isOver_2b n) n v1 μ
def X12_isOver (n : Nat) (μ : Mu) : Option (Int32 × Mu) :=
  X12_isOver_2 n (0 : Int32) μ
def X12_canFeed_50 (n : Nat) (k2 : Int32 → Mu → Option (Int32 × Mu)) (v1 : Int32) (μ : Mu) : Option (Int32 × Mu) :=
  k2 (v1 + (1 : Int32)) μ
def X12_canFeed_2b (n : Nat) (k2 : Int32 → Mu → Option (Int32 × Mu)) (v1 : Int32) (μ : Mu) : Option (Int32 × Mu) :=
  (X12_pitMany n μ).bind (fun r4 =>
  (if r4.1 ≤ v1 then
  some ((0 : Int32), r4.2)
  else
  (X12_isFull n v1 r4.2).bind (fun r12 =>
  (if r12.1 = 0 then
  X12_canFeed_50 n k2 v1 r12.2
  else
  (X12_triesFrom n v1 r12.2).bind (fun r23 =>
  (if (r23.2.1 171 23) = 0 then
  (X12_sum n ((1 : Int32) - (r23.2.1 172 2)) r23.2).bind (fun r42 =>
  (if r42.1 ≤ 0 then
  X12_canFeed_50 n k2 v1 r42.2
  else
  some ((1 : Int32), r42.2)))
  else
  X12_canFeed_50 n k2 v1 r23.2))))))
def X12_canFeed_2 (n : Nat) (v1 : Int32) (μ : Mu) : Option (Int32 × Mu) := lpF (fun _ _ => none) (X12_canFeed_2b n) n v1 μ
def X12_canFeed (n : Nat) (μ : Mu) : Option (Int32 × Mu) :=
  X12_canFeed_2 n (0 : Int32) μ
def X12_whyNot_39 (n : Nat) (v1 : Int32) (μ : Mu) : Option (Int32 × Mu) :=
  some ((1 : Int32), μ)
def X12_whyNot_107 (n : Nat) (v1 : Int32) (s0 : Int32) (μ : Mu) : Option (Int32 × Mu) :=
  some (s0, μ)
def X12_whyNot_106 (n : Nat) (v1 : Int32) (μ : Mu) : Option (Int32 × Mu) :=
  X12_whyNot_107 n v1 (0 : Int32) μ
def X12_whyNot (n : Nat) (v1 : Int32) (μ : Mu) : Option (Int32 × Mu) :=
  (X12_isOver n μ).bind (fun r1 =>
  (if r1.1 = 0 then
  (X12_isPit n v1 r1.2).bind (fun r11 =>
  (if r11.1 = 0 then
  X12_whyNot_39 n v1 r11.2
  else
  (X12_sideOf n v1 r11.2).bind (fun r19 =>
  (if r19.1 = (r19.2.1 172 2) then
  (X12_isLacking n v1 r19.2).bind (fun r33 =>
  (if r33.1 = 0 then
  gd ((13 : Int32) + v1) 25 ((if (r33.2.1 172 ((13 : Int32) + v1).toNatClampNeg) = 0 then
  some ((2 : Int32), r33.2)
  else
  (X12_triesFrom n v1 r33.2).bind (fun r57 =>
  (if (r57.2.1 171 23) = 0 then
  (if (r57.2.1 172 10) = (1 : Int32) then
  (X12_sum n ((1 : Int32) - (r57.2.1 172 2)) r57.2).bind (fun r89 =>
  (if r89.1 = 0 then
  (X12_canFeed n r89.2).bind (fun r96 =>
  (if r96.1 = 0 then
  X12_whyNot_106 n v1 r96.2
  else
  X12_whyNot_107 n v1 (4 : Int32) r96.2))
  else
  X12_whyNot_106 n v1 r89.2))
  else
  X12_whyNot_106 n v1 r57.2)
  else
  some ((3 : Int32), r57.2)))))
  else
  X12_whyNot_39 n v1 r33.2))
  else
  X12_whyNot_39 n v1 r19.2))))
  else
  some ((5 : Int32), r1.2)))
def X12_moves_7b (n : Nat) (v1 : Int32) (k7 : Int32 → Mu → Option (Int32 × Mu)) (v2 : Int32) (μ : Mu) : Option (Int32 × Mu) :=
  (X12_pitMany n μ).bind (fun r9 =>
  (if r9.1 ≤ v2 then
  gd ((11 : Int32) + (r9.2.1 172 2)) 25 (some (((si (si r9.2 172 ((11 : Int32) + (r9.2.1 172 2)).toNatClampNeg ((r9.2.1 172 ((11 : Int32) + (r9.2.1 172 2)).toNatClampNeg) + (r9.2.1 171 21))) 172 2 ((si r9.2 172 ((11 : Int32) + (r9.2.1 172 2)).toNatClampNeg ((r9.2.1 172 ((11 : Int32) + (r9.2.1 172 2)).toNatClampNeg) + (r9.2.1 171 21))).1 171 22)).1 171 21), (si (si r9.2 172 ((11 : Int32) + (r9.2.1 172 2)).toNatClampNeg ((r9.2.1 172 ((11 : Int32) + (r9.2.1 172 2)).toNatClampNeg) + (r9.2.1 171 21))) 172 2 ((si r9.2 172 ((11 : Int32) + (r9.2.1 172 2)).toNatClampNeg ((r9.2.1 172 ((11 : Int32) + (r9.2.1 172 2)).toNatClampNeg) + (r9.2.1 171 21))).1 171 22))))
  else
  gd v2 12 (gd ((13 : Int32) + v2) 25 (k7 (v2 + (1 : Int32)) (si r9.2 172 ((13 : Int32) + v2).toNatClampNeg (r9.2.1 178 v2.toNatClampNeg))))))
def X12_moves_7 (n : Nat) (v1 : Int32) (v2 : Int32) (μ : Mu) : Option (Int32 × Mu) := lpF (fun _ _ => none) (X12_moves_7b n v1) n v2 μ
def X12_moves (n : Nat) (v1 : Int32) (μ : Mu) : Option (Int32 × Mu) :=
  (X12_triesFrom n v1 μ).bind (fun r2 =>
  X12_moves_7 n v1 (0 : Int32) r2.2)
def X12_may (n : Nat) (v1 : Int32) (μ : Mu) : Option (Int32 × Mu) :=
  (X12_whyNot n v1 (si μ 171 5 (0 : Int32))).bind (fun r7 =>
  some (r7.1, r7.2))
def X12_sown_107 (n : Nat) (v1 : Int32) (v2 : Int32) (s0 : Int32) (μ : Mu) : Option (Int32 × Mu) :=
  some (s0, μ)
def X12_sown (n : Nat) (v1 : Int32) (v2 : Int32) (μ : Mu) : Option (Int32 × Mu) :=
  (X12_isFull n v1 (si μ 171 5 (0 : Int32))).bind (fun r7 =>
  (if r7.1 = 0 then
  (X12_fails n (1 : Int32) r7.2).bind (fun r15 =>
  some (r15.1, r15.2))
  else
  (X12_triesFrom n v1 r7.2).bind (fun r21 =>
  (if (r21.2.1 171 23) = 0 then
  (X12_within n (v2.toInt64) (0 : Int64) (3 : Int64) r21.2).bind (fun r43 =>
  (if r43.1 = 0 then
  (X12_fails n (3 : Int32) r43.2).bind (fun r51 =>
  some (r51.1, r51.2))
  else
  (if v2 = 0 then
  (if (r43.2.1 171 18) = (100 : Int32) then
  X12_sown_107 n v1 v2 ((-1) : Int32) r43.2
  else
  X12_sown_107 n v1 v2 (r43.2.1 171 18) r43.2)
  else
  (if v2 = (1 : Int32) then
  X12_sown_107 n v1 v2 (r43.2.1 171 19) r43.2
  else
  (if v2 = (2 : Int32) then
  X12_sown_107 n v1 v2 (r43.2.1 171 20) r43.2
  else
  X12_sown_107 n v1 v2 (r43.2.1 171 22) r43.2)))))
  else
  (X12_fails n (2 : Int32) r21.2).bind (fun r33 =>
  some (r33.1, r33.2))))))
def X12_over (n : Nat) (μ : Mu) : Option (Int32 × Mu) :=
  (X12_isOver n (si μ 171 5 (0 : Int32))).bind (fun r6 =>
  bz r6.1 (some (r6.1, r6.2)))
def X12_scoreNow_66 (n : Nat) (k27 : Int32 → Int32 → Mu → Option (Int32 × Mu)) (v2 : Int32) (s0 : Int32) (s1 : Int32) (μ : Mu) : Option (Int32 × Mu) :=
  k27 (s0 + s1) (v2 + (1 : Int32)) μ
def X12_scoreNow_27b (n : Nat) (k27 : Int32 → Int32 → Mu → Option (Int32 × Mu)) (v1 : Int32) (v2 : Int32) (μ : Mu) : Option (Int32 × Mu) :=
  (X12_pitMany n μ).bind (fun r29 =>
  (if r29.1 ≤ v2 then
  some (v1, r29.2)
  else
  (X12_sideOf n v2 r29.2).bind (fun r38 =>
  (if r38.1 = 0 then
  gd ((13 : Int32) + v2) 25 (X12_scoreNow_66 n k27 v2 v1 (r38.2.1 172 ((13 : Int32) + v2).toNatClampNeg) r38.2)
  else
  gd ((13 : Int32) + v2) 25 (X12_scoreNow_66 n k27 v2 v1 (-(r38.2.1 172 ((13 : Int32) + v2).toNatClampNeg)) r38.2)))))
def X12_scoreNow_27 (n : Nat) (v1 : Int32) (v2 : Int32) (μ : Mu) : Option (Int32 × Mu) := lpF (fun _ _ _ => none) (X12_scoreNow_27b n) n v1 v2 μ
def X12_scoreNow (n : Nat) (μ : Mu) : Option (Int32 × Mu) :=
  (X12_isOver n μ).bind (fun r17 =>
  (if r17.1 = 0 then
  some (((μ.1 172 11) - (μ.1 172 12)), r17.2)
  else
  X12_scoreNow_27 n ((μ.1 172 11) - (μ.1 172 12)) (0 : Int32) r17.2))
def X12_score (n : Nat) (μ : Mu) : Option (Int32 × Mu) :=
  (X12_scoreNow n (si μ 171 5 (0 : Int32))).bind (fun r6 =>
  some (r6.1, r6.2))
def X12_does (n : Nat) (v1 : Int32) (μ : Mu) : Option (Int32 × Mu) :=
  (X12_keeps n v1 μ).bind (fun r2 =>
  (X12_moves n v1 (si r2.2 171 29 (0 : Int32))).bind (fun r12 =>
  some (r12.1, r12.2)))
def X12_move_25 (n : Nat) (v1 : Int32) (s0 : Int32) (μ : Mu) : Option (Int32 × Mu) :=
  some (s0, μ)
def X12_move (n : Nat) (v1 : Int32) (μ : Mu) : Option (Int32 × Mu) :=
  (X12_whyNot n v1 (si μ 171 5 (0 : Int32))).bind (fun r7 =>
  (if r7.1 = 0 then
  (X12_does n v1 r7.2).bind (fun r17 =>
  X12_move_25 n v1 r17.1 r17.2)
  else
  X12_move_25 n v1 (-r7.1) r7.2))
def X12_whyTold_18 (n : Nat) (v1 : Int64) (s1 : Int32) (μ : Mu) : Option (Int32 × Mu) :=
  (X12_whyNot n s1 μ).bind (fun r18 =>
  some (r18.1, r18.2))
def X12_whyTold (n : Nat) (v1 : Int64) (μ : Mu) : Option (Int32 × Mu) :=
  (X12_within n v1 (0 : Int64) (12 : Int64) μ).bind (fun r6 =>
  (if r6.1 = 0 then
  X12_whyTold_18 n v1 ((-1) : Int32) r6.2
  else
  X12_whyTold_18 n v1 (v1.toInt32) r6.2))
def X12_judge_182 (n : Nat) (v1 : Int32) (v2 : Int32) (s0 : Int32) (μ : Mu) : Option (Int32 × Mu) :=
  some (s0, μ)
def X12_judge_118 (n : Nat) (v1 : Int32) (v2 : Int32) (v3 : Int32) (v4 : Int32) (μ : Mu) : Option (Int32 × Mu) :=
  (X12_scoreNow n μ).bind (fun r119 =>
  (X12_copies n 175 172 r119.2).bind (fun r140 =>
  (if v2 = 0 then
  (if v4 = 0 then
  X12_judge_182 n v1 v2 ((-1) : Int32) r140.2
  else
  X12_judge_182 n v1 v2 v3 r140.2)
  else
  (if v2 = (1 : Int32) then
  X12_judge_182 n v1 v2 v4 r140.2
  else
  (if v2 = (2 : Int32) then
  X12_judge_182 n v1 v2 r119.1 r140.2
  else
  X12_judge_182 n v1 v2 (r119.2.1 172 2) r140.2)))))
def X12_judge_58b (n : Nat) (v1 : Int32) (v2 : Int32) (k58 : Int32 → Int32 → Mu → Option (Int32 × Mu)) (v3 : Int32) (v4 : Int32) (μ : Mu) : Option (Int32 × Mu) :=
  gd v1 4 ((if (μ.1 199 v1.toNatClampNeg) ≤ v3 then
  X12_judge_118 n v1 v2 v3 v4 μ
  else
  (if v4 = 0 then
  gd (((40 : Int32) * v1) + v3) 160 ((X12_whyTold n (μ.2 200 (((40 : Int32) * v1) + v3).toNatClampNeg) μ).bind (fun r85 =>
  (if r85.1 = 0 then
  (X12_moves n ((r85.2.2 200 (((40 : Int32) * v1) + v3).toNatClampNeg).toInt32) r85.2).bind (fun r108 =>
  k58 (v3 + (1 : Int32)) r85.1 r108.2)
  else
  k58 v3 r85.1 r85.2)))
  else
  X12_judge_118 n v1 v2 v3 v4 μ)))
def X12_judge_58 (n : Nat) (v1 : Int32) (v2 : Int32) (v3 : Int32) (v4 : Int32) (μ : Mu) : Option (Int32 × Mu) := lpF (fun _ _ _ => none) (X12_judge_58b n v1 v2) n v3 v4 μ
def X12_judge_33 (n : Nat) (v1 : Int32) (v2 : Int32) (μ : Mu) : Option (Int32 × Mu) :=
  (if (μ.1 171 5) ≤ 0 then
  (X12_copies n 172 175 μ).bind (fun r50 =>
  X12_judge_58 n v1 v2 (0 : Int32) (0 : Int32) r50.2)
  else
  some ((0 : Int32), μ))
def X12_judge (n : Nat) (v1 : Int32) (v2 : Int32) (μ : Mu) : Option (Int32 × Mu) :=
  (X12_trayFault n v1 μ).bind (fun r3 =>
  (if ((si r3.2 171 5 r3.1).1 171 5) = 0 then
  (X12_within n (v2.toInt64) (0 : Int64) (3 : Int64) (si r3.2 171 5 r3.1)).bind (fun r22 =>
  (if r22.1 = 0 then
  X12_judge_33 n v1 v2 (si r22.2 171 5 (3 : Int32))
  else
  X12_judge_33 n v1 v2 r22.2))
  else
  X12_judge_33 n v1 v2 (si r3.2 171 5 r3.1)))
def X12_perform_71 (n : Nat) (v1 : Int32) (v2 : Int32) (μ : Mu) : Option (Int32 × Mu) :=
  some (v2, μ)
def X12_perform_20b (n : Nat) (v1 : Int32) (k20 : Int32 → Mu → Option (Int32 × Mu)) (v2 : Int32) (μ : Mu) : Option (Int32 × Mu) :=
  gd v1 4 ((if (μ.1 199 v1.toNatClampNeg) ≤ v2 then
  X12_perform_71 n v1 v2 μ
  else
  gd (((40 : Int32) * v1) + v2) 160 ((X12_whyTold n (μ.2 200 (((40 : Int32) * v1) + v2).toNatClampNeg) μ).bind (fun r42 =>
  (if r42.1 = 0 then
  (X12_does n ((r42.2.2 200 (((40 : Int32) * v1) + v2).toNatClampNeg).toInt32) r42.2).bind (fun r61 =>
  k20 (v2 + (1 : Int32)) r61.2)
  else
  X12_perform_71 n v1 v2 r42.2)))))
def X12_perform_20 (n : Nat) (v1 : Int32) (v2 : Int32) (μ : Mu) : Option (Int32 × Mu) := lpF (fun _ _ => none) (X12_perform_20b n v1) n v2 μ
def X12_perform (n : Nat) (v1 : Int32) (μ : Mu) : Option (Int32 × Mu) :=
  (X12_trayFault n v1 μ).bind (fun r3 =>
  (if ((si r3.2 171 5 r3.1).1 171 5) ≤ 0 then
  X12_perform_20 n v1 (0 : Int32) (si r3.2 171 5 r3.1)
  else
  some ((0 : Int32), (si r3.2 171 5 r3.1))))
def X12_laysMove_16 (n : Nat) (v1 : Int32) (v2 : Int32) (v3 : Int32) (v4 : Int32) (s0 : Int32) (s1 : Int32) (μ : Mu) : Option (Unit × Mu) :=
  gd (((6 : Int32) * v1) + v4) 72000 ((X12_whyNot n (s0 + s1) (si μ 187 (((6 : Int32) * v1) + v4).toNatClampNeg ((-1) : Int32))).bind (fun r35 =>
  (if r35.1 = 0 then
  (X12_triesFrom n (s0 + s1) r35.2).bind (fun r45 =>
  (X12_numberOf n (r45.2.1 171 22) r45.2).bind (fun r64 =>
  (X12_seat n (r45.2.1 171 22) (v3 - (r45.2.1 171 21)) r64.1 r64.2).bind (fun r67 =>
  some ((), (si (si r67.2 187 (((6 : Int32) * v1) + v4).toNatClampNeg r67.1) 188 (((6 : Int32) * v1) + v4).toNatClampNeg ((si r67.2 187 (((6 : Int32) * v1) + v4).toNatClampNeg r67.1).1 171 21))))))
  else
  some ((), r35.2))))
def X12_laysMove (n : Nat) (v1 : Int32) (v2 : Int32) (v3 : Int32) (v4 : Int32) (μ : Mu) : Option (Unit × Mu) :=
  (if v2 = 0 then
  X12_laysMove_16 n v1 v2 v3 v4 v4 (0 : Int32) μ
  else
  X12_laysMove_16 n v1 v2 v3 v4 v4 (μ.1 172 1) μ)
def X12_goesOn_83b (n : Nat) (k15 : Mu → Option (Int32 × Mu)) (k83 : Int32 → Mu → Option (Int32 × Mu)) (v1 : Int32) (μ : Mu) : Option (Int32 × Mu) :=
  (if (μ.1 171 44) ≤ v1 then
  k15 μ
  else
  gd v1 61 (gd (μ.1 171 44) 61 ((if (μ.1 194 v1.toNatClampNeg) = (μ.1 194 (μ.1 171 44).toNatClampNeg) then
  some ((1 : Int32), μ)
  else
  k83 (v1 + (1 : Int32)) μ))))
def X12_goesOn_83 (n : Nat) (k15 : Mu → Option (Int32 × Mu)) (v1 : Int32) (μ : Mu) : Option (Int32 × Mu) := lpF (fun _ _ => none) (X12_goesOn_83b n k15) n v1 μ
def X12_goesOn_120 (n : Nat) (μ : Mu) : Option (Int32 × Mu) :=
  some ((0 : Int32), μ)
def X12_goesOn_15b (n : Nat) (k15 : Mu → Option (Int32 × Mu)) (μ : Mu) : Option (Int32 × Mu) :=
  (if (60 : Int32) ≤ (μ.1 171 44) then
  X12_goesOn_120 n μ
  else
  (X12_isOver n μ).bind (fun r25 =>
  (if r25.1 = 0 then
  (X12_bestNow n r25.2).bind (fun r40 =>
  gd (r25.2.1 171 44) 60 (gd ((si r40.2 193 (r25.2.1 171 44).toNatClampNeg r40.1).1 171 44) 60 ((X12_moves n ((si r40.2 193 (r25.2.1 171 44).toNatClampNeg r40.1).1 193 ((si r40.2 193 (r25.2.1 171 44).toNatClampNeg r40.1).1 171 44).toNatClampNeg) (si r40.2 193 (r25.2.1 171 44).toNatClampNeg r40.1)).bind (fun r54 =>
  (X12_seatNow n (si r54.2 171 44 ((r54.2.1 171 44) + (1 : Int32)))).bind (fun r77 =>
  gd ((si r54.2 171 44 ((r54.2.1 171 44) + (1 : Int32))).1 171 44) 61 (X12_goesOn_83 n k15 (0 : Int32) (si r77.2 194 ((si r54.2 171 44 ((r54.2.1 171 44) + (1 : Int32))).1 171 44).toNatClampNeg r77.1)))))))
  else
  X12_goesOn_120 n r25.2)))
def X12_goesOn_15 (n : Nat) (μ : Mu) : Option (Int32 × Mu) := lpF (fun _ => none) (X12_goesOn_15b n) n  μ
def X12_goesOn (n : Nat) (μ : Mu) : Option (Int32 × Mu) :=
  (X12_seatNow n (si μ 171 44 (0 : Int32))).bind (fun r11 =>
  X12_goesOn_15 n (si r11.2 194 0 r11.1))
def X12_pits_112 (n : Nat) (v1 : Int32) (k25 : Int32 → Int32 → Mu → Option (Int32 × Mu)) (v2 : Int32) (v3 : Int32) (μ : Mu) : Option (Int32 × Mu) :=
  k25 v2 (v3 + (1 : Int32)) μ
def X12_pits_110 (n : Nat) (v1 : Int32) (k25 : Int32 → Int32 → Mu → Option (Int32 × Mu)) (v3 : Int32) (s0 : Int32) (s1 : Int32) (μ : Mu) : Option (Int32 × Mu) :=
  X12_pits_112 n v1 k25 (s0 ||| s1) v3 μ
def X12_pits_103 (n : Nat) (v1 : Int32) (k25 : Int32 → Int32 → Mu → Option (Int32 × Mu)) (v3 : Int32) (s0 : Int32) (μ : Mu) : Option (Int32 × Mu) :=
  X12_pits_110 n v1 k25 v3 s0 ((1 : Int32) <<< (v3 &&& 31)) μ
def X12_pits_109 (n : Nat) (v1 : Int32) (k25 : Int32 → Int32 → Mu → Option (Int32 × Mu)) (v3 : Int32) (s0 : Int32) (μ : Mu) : Option (Int32 × Mu) :=
  X12_pits_110 n v1 k25 v3 s0 (0 : Int32) μ
def X12_pits_118 (n : Nat) (v1 : Int32) (v2 : Int32) (μ : Mu) : Option (Int32 × Mu) :=
  some (v2, μ)
def X12_pits_25b (n : Nat) (v1 : Int32) (k25 : Int32 → Int32 → Mu → Option (Int32 × Mu)) (v2 : Int32) (v3 : Int32) (μ : Mu) : Option (Int32 × Mu) :=
  (X12_pitMany n μ).bind (fun r27 =>
  (if r27.1 ≤ v3 then
  X12_pits_118 n v1 v2 r27.2
  else
  (if (r27.2.1 171 5) = 0 then
  (X12_whyNot n v3 r27.2).bind (fun r42 =>
  (if r42.1 = 0 then
  (X12_triesFrom n v3 r42.2).bind (fun r53 =>
  (if v1 = 0 then
  (if (r53.2.1 171 18) = (100 : Int32) then
  X12_pits_103 n v1 k25 v3 v2 r53.2
  else
  X12_pits_109 n v1 k25 v3 v2 r53.2)
  else
  (if v1 = (1 : Int32) then
  (if (r53.2.1 171 20) ≤ 0 then
  X12_pits_109 n v1 k25 v3 v2 r53.2
  else
  X12_pits_103 n v1 k25 v3 v2 r53.2)
  else
  (X12_sum n ((1 : Int32) - (r53.2.1 172 2)) r53.2).bind (fun r97 =>
  (if r97.1 = 0 then
  X12_pits_103 n v1 k25 v3 v2 r97.2
  else
  X12_pits_109 n v1 k25 v3 v2 r97.2)))))
  else
  X12_pits_112 n v1 k25 v2 v3 r42.2))
  else
  X12_pits_118 n v1 v2 r27.2)))
def X12_pits_25 (n : Nat) (v1 : Int32) (v2 : Int32) (v3 : Int32) (μ : Mu) : Option (Int32 × Mu) := lpF (fun _ _ _ => none) (X12_pits_25b n v1) n v2 v3 μ
def X12_pits_18 (n : Nat) (v1 : Int32) (s1 : Int32) (μ : Mu) : Option (Int32 × Mu) :=
  X12_pits_25 n v1 (0 : Int32) (0 : Int32) (si μ 171 5 s1)
def X12_pits (n : Nat) (v1 : Int32) (μ : Mu) : Option (Int32 × Mu) :=
  (X12_within n (v1.toInt64) (0 : Int64) (2 : Int64) μ).bind (fun r7 =>
  (if r7.1 = 0 then
  X12_pits_18 n v1 (1 : Int32) r7.2
  else
  X12_pits_18 n v1 (0 : Int32) r7.2))
def X12_only_32 (n : Nat) (k4 : Int32 → Int32 → Mu → Option (Int32 × Mu)) (v1 : Int32) (v2 : Int32) (μ : Mu) : Option (Int32 × Mu) :=
  k4 v1 (v2 + (1 : Int32)) μ
def X12_only_4b (n : Nat) (k4 : Int32 → Int32 → Mu → Option (Int32 × Mu)) (v1 : Int32) (v2 : Int32) (μ : Mu) : Option (Int32 × Mu) :=
  (X12_pitMany n μ).bind (fun r6 =>
  (if r6.1 ≤ v2 then
  some (v1, r6.2)
  else
  (X12_whyNot n v2 r6.2).bind (fun r14 =>
  (if r14.1 = 0 then
  (if v1 = ((-1) : Int32) then
  X12_only_32 n k4 v2 v2 r14.2
  else
  some (((-1) : Int32), r14.2))
  else
  X12_only_32 n k4 v1 v2 r14.2))))
def X12_only_4 (n : Nat) (v1 : Int32) (v2 : Int32) (μ : Mu) : Option (Int32 × Mu) := lpF (fun _ _ _ => none) (X12_only_4b n) n v1 v2 μ
def X12_only (n : Nat) (μ : Mu) : Option (Int32 × Mu) :=
  X12_only_4 n ((-1) : Int32) (0 : Int32) μ
def X12_drawn_26 (n : Nat) (k4 : Int32 → Int32 → Mu → Option (Int32 × Mu)) (v2 : Int32) (s0 : Int32) (s1 : Int32) (μ : Mu) : Option (Int32 × Mu) :=
  k4 (s0 + s1) (v2 + (1 : Int32)) μ
def X12_drawn_68 (n : Nat) (k42 : Int32 → Int32 → Mu → Option (Int32 × Mu)) (v3 : Int32) (s0 : Int32) (s1 : Int32) (μ : Mu) : Option (Int32 × Mu) :=
  k42 (s0 - s1) (v3 + (1 : Int32)) μ
def X12_drawn_54 (n : Nat) (k42 : Int32 → Int32 → Mu → Option (Int32 × Mu)) (v2 : Int32) (v3 : Int32) (μ : Mu) : Option (Int32 × Mu) :=
  (X12_whyNot n v3 μ).bind (fun r57 =>
  (if r57.1 = 0 then
  X12_drawn_68 n k42 v3 v2 (1 : Int32) r57.2
  else
  X12_drawn_68 n k42 v3 v2 (0 : Int32) r57.2))
def X12_drawn_42b (n : Nat) (k42 : Int32 → Int32 → Mu → Option (Int32 × Mu)) (v2 : Int32) (v3 : Int32) (μ : Mu) : Option (Int32 × Mu) :=
  (X12_whyNot n v3 μ).bind (fun r44 =>
  (if r44.1 = 0 then
  (if v2 ≤ 0 then
  some (v3, r44.2)
  else
  X12_drawn_54 n k42 v2 v3 r44.2)
  else
  X12_drawn_54 n k42 v2 v3 r44.2))
def X12_drawn_42 (n : Nat) (v2 : Int32) (v3 : Int32) (μ : Mu) : Option (Int32 × Mu) := lpF (fun _ _ _ => none) (X12_drawn_42b n) n v2 v3 μ
def X12_drawn_4b (n : Nat) (k4 : Int32 → Int32 → Mu → Option (Int32 × Mu)) (v1 : Int32) (v2 : Int32) (μ : Mu) : Option (Int32 × Mu) :=
  (X12_pitMany n μ).bind (fun r6 =>
  (if r6.1 ≤ v2 then
  (X12_draw n v1 r6.2).bind (fun r36 =>
  X12_drawn_42 n r36.1 (0 : Int32) r36.2)
  else
  (X12_whyNot n v2 r6.2).bind (fun r15 =>
  (if r15.1 = 0 then
  X12_drawn_26 n k4 v2 v1 (1 : Int32) r15.2
  else
  X12_drawn_26 n k4 v2 v1 (0 : Int32) r15.2))))
def X12_drawn_4 (n : Nat) (v1 : Int32) (v2 : Int32) (μ : Mu) : Option (Int32 × Mu) := lpF (fun _ _ _ => none) (X12_drawn_4b n) n v1 v2 μ
def X12_drawn (n : Nat) (μ : Mu) : Option (Int32 × Mu) :=
  X12_drawn_4 n (0 : Int32) (0 : Int32) μ
def X12_playOf_63 (n : Nat) (v1 : Int32) (v2 : Int32) (v3 : Int32) (k21 : Mu → Option (Int32 × Mu)) (s1 : Int32) (μ : Mu) : Option (Int32 × Mu) :=
  (X12_moves n s1 μ).bind (fun r63 =>
  k21 (si r63.2 171 50 ((r63.2.1 171 50) + (1 : Int32))))
def X12_playOf_59 (n : Nat) (v1 : Int32) (v2 : Int32) (v3 : Int32) (k21 : Mu → Option (Int32 × Mu)) (μ : Mu) : Option (Int32 × Mu) :=
  (X12_drawn n μ).bind (fun r60 =>
  X12_playOf_63 n v1 v2 v3 k21 r60.1 r60.2)
def X12_playOf_134 (n : Nat) (v1 : Int32) (v2 : Int32) (v3 : Int32) (s0 : Int32) (μ : Mu) : Option (Int32 × Mu) :=
  some (s0, μ)
def X12_playOf_98 (n : Nat) (v1 : Int32) (v2 : Int32) (v3 : Int32) (v4 : Int32) (s0 : Int32) (μ : Mu) : Option (Int32 × Mu) :=
  (X12_copies n 175 172 μ).bind (fun r108 =>
  (if v3 = 0 then
  X12_playOf_134 n v1 v2 v3 v4 r108.2
  else
  (if v3 = (1 : Int32) then
  X12_playOf_134 n v1 v2 v3 (r108.2.1 171 50) r108.2
  else
  X12_playOf_134 n v1 v2 v3 s0 r108.2)))
def X12_playOf_80 (n : Nat) (v1 : Int32) (v2 : Int32) (v3 : Int32) (μ : Mu) : Option (Int32 × Mu) :=
  (X12_scoreNow n μ).bind (fun r81 =>
  (X12_isOver n r81.2).bind (fun r87 =>
  (if r87.1 = 0 then
  X12_playOf_98 n v1 v2 v3 r81.1 (0 : Int32) r87.2
  else
  X12_playOf_98 n v1 v2 v3 r81.1 (1 : Int32) r87.2)))
def X12_playOf_21b (n : Nat) (v1 : Int32) (v2 : Int32) (v3 : Int32) (k21 : Mu → Option (Int32 × Mu)) (μ : Mu) : Option (Int32 × Mu) :=
  (if (100 : Int32) ≤ (μ.1 171 50) then
  X12_playOf_80 n v1 v2 v3 μ
  else
  (X12_isOver n μ).bind (fun r31 =>
  (if r31.1 = 0 then
  (if v2 = 0 then
  X12_playOf_59 n v1 v2 v3 k21 r31.2
  else
  (if (r31.2.1 172 2) = (1 : Int32) then
  (X12_bestNow n r31.2).bind (fun r53 =>
  X12_playOf_63 n v1 v2 v3 k21 r53.1 r53.2)
  else
  X12_playOf_59 n v1 v2 v3 k21 r31.2))
  else
  X12_playOf_80 n v1 v2 v3 r31.2)))
def X12_playOf_21 (n : Nat) (v1 : Int32) (v2 : Int32) (v3 : Int32) (μ : Mu) : Option (Int32 × Mu) := lpF (fun _ => none) (X12_playOf_21b n v1 v2 v3) n  μ
def X12_playOf (n : Nat) (v1 : Int32) (v2 : Int32) (v3 : Int32) (μ : Mu) : Option (Int32 × Mu) :=
  (X12_copies n 172 175 μ).bind (fun r8 =>
  X12_playOf_21 n v1 v2 v3 (si (si r8.2 171 49 v1) 171 50 (0 : Int32)))
def X12_play_39 (n : Nat) (v1 : Int32) (v2 : Int32) (s0 : Int32) (μ : Mu) : Option (Int32 × Mu) :=
  some (s0, μ)
def X12_play_18 (n : Nat) (v1 : Int32) (v2 : Int32) (s1 : Int32) (μ : Mu) : Option (Int32 × Mu) :=
  (if ((si μ 171 5 s1).1 171 5) ≤ 0 then
  (X12_playOf n v1 (0 : Int32) v2 (si μ 171 5 s1)).bind (fun r36 =>
  X12_play_39 n v1 v2 r36.1 r36.2)
  else
  X12_play_39 n v1 v2 (0 : Int32) (si μ 171 5 s1))
def X12_play (n : Nat) (v1 : Int32) (v2 : Int32) (μ : Mu) : Option (Int32 × Mu) :=
  (X12_within n (v2.toInt64) (0 : Int64) (2 : Int64) μ).bind (fun r7 =>
  (if r7.1 = 0 then
  X12_play_18 n v1 v2 (1 : Int32) r7.2
  else
  X12_play_18 n v1 v2 (0 : Int32) r7.2))
def X1_build_72 (n : Nat) (s1 : Int32) (μ : Mu) : Option (Unit × Mu) :=
  bz s1 (some ((), (si μ 2 3 s1)))
def X1_build_67 (n : Nat) (μ : Mu) : Option (Unit × Mu) :=
  X1_build_72 n (1 : Int32) μ
def X1_build_71 (n : Nat) (μ : Mu) : Option (Unit × Mu) :=
  X1_build_72 n (0 : Int32) μ
def X1_build_7b (n : Nat) (k7 : Int32 → Mu → Option (Unit × Mu)) (v1 : Int32) (μ : Mu) : Option (Unit × Mu) :=
  (if (2 : Int32) ≤ v1 then
  (if 0 < (μ.1 1 3) then
  X1_build_67 n μ
  else
  (if (μ.1 1 6) = 0 then
  X1_build_71 n μ
  else
  (if (μ.1 1 5) = 0 then
  (if (μ.1 2 1) = (1 : Int32) then
  X1_build_67 n μ
  else
  X1_build_71 n μ)
  else
  X1_build_71 n μ)))
  else
  (X1_linkWay n v1 μ).bind (fun r14 =>
  (X1_listSeen n v1 r14.2).bind (fun r19 =>
  k7 (v1 + (1 : Int32)) r19.2)))
def X1_build_7 (n : Nat) (v1 : Int32) (μ : Mu) : Option (Unit × Mu) := lpF (fun _ _ => none) (X1_build_7b n) n v1 μ
def X1_build (n : Nat) (μ : Mu) : Option (Unit × Mu) :=
  X1_build_7 n (0 : Int32) (si μ 2 2 (1 : Int32))
def X4_readSeeds_78 (n : Nat) (μ : Mu) : Option (Unit × Mu) :=
  some ((), μ)
def X4_readSeeds_39 (n : Nat) (k6 : Int32 → Mu → Option (Unit × Mu)) (v1 : Int32) (v2 : Int32) (μ : Mu) : Option (Unit × Mu) :=
  (if (μ.1 12 2) = 0 then
  gd v1 14 ((X4_step n (si μ 150 v1.toNatClampNeg v2)).bind (fun r61 =>
  (if (r61.2.1 12 7) = (2 : Int32) then
  (if (v1 + (1 : Int32)) ≤ (12 : Int32) then
  k6 (v1 + (1 : Int32)) r61.2
  else
  X4_readSeeds_78 n r61.2)
  else
  X4_readSeeds_78 n r61.2)))
  else
  some ((), μ))
def X4_readSeeds_6b (n : Nat) (k6 : Int32 → Mu → Option (Unit × Mu)) (v1 : Int32) (μ : Mu) : Option (Unit × Mu) :=
  (X4_checkedNumber n (0 : Int32) (20 : Int32) μ).bind (fun r10 =>
  (if (r10.2.1 12 2) = 0 then
  (if v1 < ((2 : Int32) * (r10.2.1 13 1)) then
  X4_readSeeds_39 n k6 v1 r10.1 r10.2
  else
  (X4_refuse n (4 : Int32) r10.2).bind (fun r36 =>
  X4_readSeeds_39 n k6 v1 r10.1 r36.2))
  else
  X4_readSeeds_39 n k6 v1 r10.1 r10.2))
def X4_readSeeds_6 (n : Nat) (v1 : Int32) (μ : Mu) : Option (Unit × Mu) := lpF (fun _ _ => none) (X4_readSeeds_6b n) n v1 μ
def X4_readSeeds (n : Nat) (μ : Mu) : Option (Unit × Mu) :=
  (X4_step n μ).bind (fun r1 =>
  X4_readSeeds_6 n (0 : Int32) r1.2)
def X4_readNumber_18 (n : Nat) (v1 : Int32) (v2 : Int32) (v3 : Int32) (μ : Mu) : Option (Int32 × Mu) :=
  some (v3, μ)
def X4_readNumber (n : Nat) (v1 : Int32) (v2 : Int32) (μ : Mu) : Option (Int32 × Mu) :=
  (X4_checkedNumber n v1 v2 μ).bind (fun r3 =>
  (if (r3.2.1 12 2) = 0 then
  (X4_step n r3.2).bind (fun r15 =>
  X4_readNumber_18 n v1 v2 r3.1 r15.2)
  else
  X4_readNumber_18 n v1 v2 r3.1 r3.2))
def X7_reach_91b (n : Nat) (v1 : Int32) (k61 : Int32 → Mu → Option (Int32 × Mu)) (k78 : Int32 → Int32 → Int32 → Mu → Option (Int32 × Mu)) (k91 : Int32 → Int32 → Int32 → Int32 → Mu → Option (Int32 × Mu)) (v2 : Int32) (v3 : Int32) (v4 : Int32) (v5 : Int32) (μ : Mu) : Option (Int32 × Mu) :=
  (if v3 ≤ v5 then
  k78 v2 v3 (v4 + (1 : Int32)) μ
  else
  (X7_readPosition n v4 v2 v5 μ).bind (fun r103 =>
  k91 v2 v3 v4 (v5 + (1 : Int32)) r103.2))
def X7_reach_91 (n : Nat) (v1 : Int32) (k61 : Int32 → Mu → Option (Int32 × Mu)) (k78 : Int32 → Int32 → Int32 → Mu → Option (Int32 × Mu)) (v2 : Int32) (v3 : Int32) (v4 : Int32) (v5 : Int32) (μ : Mu) : Option (Int32 × Mu) := lpF (fun _ _ _ _ _ => none) (X7_reach_91b n v1 k61 k78) n v2 v3 v4 v5 μ
def X7_reach_78b (n : Nat) (v1 : Int32) (k61 : Int32 → Mu → Option (Int32 × Mu)) (k78 : Int32 → Int32 → Int32 → Mu → Option (Int32 × Mu)) (v2 : Int32) (v3 : Int32) (v4 : Int32) (μ : Mu) : Option (Int32 × Mu) :=
  (X7_halfOf n (1 : Int32) μ).bind (fun r82 =>
  (if r82.1 < v4 then
  (X7_weighLevel n v2 r82.2).bind (fun r120 =>
  k61 (v2 + (1 : Int32)) (si r120.2 15 7 v2))
  else
  X7_reach_91 n v1 k61 k78 v2 v3 v4 (0 : Int32) r82.2))
def X7_reach_78 (n : Nat) (v1 : Int32) (k61 : Int32 → Mu → Option (Int32 × Mu)) (v2 : Int32) (v3 : Int32) (v4 : Int32) (μ : Mu) : Option (Int32 × Mu) := lpF (fun _ _ _ _ => none) (X7_reach_78b n v1 k61) n v2 v3 v4 μ
def X7_reach_61b (n : Nat) (v1 : Int32) (k61 : Int32 → Mu → Option (Int32 × Mu)) (v2 : Int32) (μ : Mu) : Option (Int32 × Mu) :=
  (if v1 < v2 then
  some ((1 : Int32), μ)
  else
  (X1_positionsOf n v2 μ).bind (fun r71 =>
  X7_reach_78 n v1 k61 v2 r71.1 (0 : Int32) r71.2))
def X7_reach_61 (n : Nat) (v1 : Int32) (v2 : Int32) (μ : Mu) : Option (Int32 × Mu) := lpF (fun _ _ => none) (X7_reach_61b n v1) n v2 μ
def X7_reach_54 (n : Nat) (v1 : Int32) (μ : Mu) : Option (Int32 × Mu) :=
  X7_reach_61 n v1 ((μ.1 15 7) + (1 : Int32)) μ
def X7_reach_38 (n : Nat) (v1 : Int32) (μ : Mu) : Option (Int32 × Mu) :=
  (X5_key n 1 μ).bind (fun r43 =>
  X7_reach_54 n v1 (si (si r43.2 15 6 r43.1) 15 7 ((-1) : Int32)))
def X7_reach (n : Nat) (v1 : Int32) (μ : Mu) : Option (Int32 × Mu) :=
  (X1_positionsUpTo n v1 μ).bind (fun r5 =>
  (if r5.1 ≤ (6000 : Int32) then
  (if (r5.2.1 15 7) = ((-1) : Int32) then
  X7_reach_38 n v1 r5.2
  else
  (X5_key n 1 r5.2).bind (fun r32 =>
  (if (r5.2.1 15 6) = r32.1 then
  X7_reach_54 n v1 r32.2
  else
  X7_reach_38 n v1 r32.2)))
  else
  some ((0 : Int32), r5.2)))
def X11_value_34 (n : Nat) (s0 : Int32) (μ : Mu) : Option (Int32 × Mu) :=
  some (s0, μ)
def X11_value (n : Nat) (μ : Mu) : Option (Int32 × Mu) :=
  (X6_inPits n 53 μ).bind (fun r8 =>
  (X7_reach n r8.1 r8.2).bind (fun r11 =>
  (if r11.1 = 0 then
  X11_value_34 n ((-1000) : Int32) r11.2
  else
  (X7_valueAt n 53 r11.2).bind (fun r25 =>
  X11_value_34 n r25.1 r25.2))))
def X11_rank_32 (n : Nat) (s0 : Int32) (μ : Mu) : Option (Int32 × Mu) :=
  some (s0, μ)
def X11_rank (n : Nat) (μ : Mu) : Option (Int32 × Mu) :=
  (X6_inPits n 53 μ).bind (fun r8 =>
  (X7_reach n r8.1 r8.2).bind (fun r11 =>
  (if r11.1 = 0 then
  X11_rank_32 n ((-1) : Int32) r11.2
  else
  (X7_rankAt n 53 r11.2).bind (fun r25 =>
  X11_rank_32 n r25.1 r25.2))))
def X11_best_32 (n : Nat) (s0 : Int32) (μ : Mu) : Option (Int32 × Mu) :=
  some (s0, μ)
def X11_best (n : Nat) (μ : Mu) : Option (Int32 × Mu) :=
  (X6_inPits n 53 μ).bind (fun r8 =>
  (X7_reach n r8.1 r8.2).bind (fun r11 =>
  (if r11.1 = 0 then
  X11_best_32 n ((-1) : Int32) r11.2
  else
  (X7_bestAt n 53 r11.2).bind (fun r25 =>
  X11_best_32 n r25.1 r25.2))))
def X11_worth_51 (n : Nat) (v1 : Int32) (s0 : Int32) (μ : Mu) : Option (Int32 × Mu) :=
  some (s0, μ)
def X11_worth_48 (n : Nat) (v1 : Int32) (μ : Mu) : Option (Int32 × Mu) :=
  X11_worth_51 n v1 ((-1000) : Int32) μ
def X11_worth (n : Nat) (v1 : Int32) (μ : Mu) : Option (Int32 × Mu) :=
  (X8_isOwn n 53 (v1.toInt64) μ).bind (fun r10 =>
  (if r10.1 = 0 then
  X11_worth_48 n v1 r10.2
  else
  (X6_inPits n 53 r10.2).bind (fun r24 =>
  (X7_reach n r24.1 r24.2).bind (fun r27 =>
  (if r27.1 = 0 then
  X11_worth_48 n v1 r27.2
  else
  (X7_worthBy n 53 v1 r27.2).bind (fun r42 =>
  X11_worth_51 n v1 r42.1 r42.2))))))
def X11_swapped (n : Nat) (μ : Mu) : Option (Int32 × Mu) :=
  (X6_inPits n 53 μ).bind (fun r8 =>
  (X7_reach n r8.1 r8.2).bind (fun r11 =>
  (if r11.1 = 0 then
  some (((-1000) : Int32), r11.2)
  else
  (X6_copy n 55 53 r11.2).bind (fun r29 =>
  (X7_valueAt n 55 (si r29.2 55 1 ((1 : Int32) - (r29.2.1 53 1)))).bind (fun r56 =>
  some (r56.1, r56.2))))))
def X11_settle (n : Nat) (v1 : Nat) (v2 : Nat) (μ : Mu) : Option (Unit × Mu) :=
  kd v1 5 (kd v2 6 ((X5_copy n 1 v1 μ).bind (fun r5 =>
  (X1_build n r5.2).bind (fun r12 =>
  (X6_copy n 53 v2 r12.2).bind (fun r20 =>
  (X3_forget n r20.2).bind (fun r27 =>
  some ((), r27.2)))))))
def X12_laysMoves_100b (n : Nat) (v1 : Int32) (k2 : Int32 → Mu → Option (Unit × Mu)) (k9 : Int32 → Int32 → Mu → Option (Unit × Mu)) (k100 : Int32 → Int32 → Int32 → Int32 → Mu → Option (Unit × Mu)) (v2 : Int32) (v3 : Int32) (v4 : Int32) (v5 : Int32) (μ : Mu) : Option (Unit × Mu) :=
  (if (μ.1 172 1) ≤ v5 then
  k9 v2 (v3 + (1 : Int32)) μ
  else
  (X12_laysMove n v4 v2 v1 v5 μ).bind (fun r118 =>
  k100 v2 v3 v4 (v5 + (1 : Int32)) r118.2))
def X12_laysMoves_100 (n : Nat) (v1 : Int32) (k2 : Int32 → Mu → Option (Unit × Mu)) (k9 : Int32 → Int32 → Mu → Option (Unit × Mu)) (v2 : Int32) (v3 : Int32) (v4 : Int32) (v5 : Int32) (μ : Mu) : Option (Unit × Mu) := lpF (fun _ _ _ _ _ => none) (X12_laysMoves_100b n v1 k2 k9) n v2 v3 v4 v5 μ
def X12_laysMoves_47b (n : Nat) (v1 : Int32) (k2 : Int32 → Mu → Option (Unit × Mu)) (k9 : Int32 → Int32 → Mu → Option (Unit × Mu)) (k47 : Int32 → Int32 → Int32 → Int32 → Mu → Option (Unit × Mu)) (v2 : Int32) (v3 : Int32) (v4 : Int32) (v5 : Int32) (μ : Mu) : Option (Unit × Mu) :=
  (X12_pitMany n μ).bind (fun r50 =>
  (if r50.1 ≤ v5 then
  (X12_isOver n (si r50.2 172 2 v2)).bind (fun r93 =>
  gd v4 12000 (bz r93.1 (X12_laysMoves_100 n v1 k2 k9 v2 v3 v4 (0 : Int32) (si r93.2 190 v4.toNatClampNeg r93.1))))
  else
  gd v5 12 (gd ((13 : Int32) + v5) 25 (k47 v2 v3 v4 (v5 + (1 : Int32)) (si r50.2 172 ((13 : Int32) + v5).toNatClampNeg (r50.2.1 178 v5.toNatClampNeg))))))
def X12_laysMoves_47 (n : Nat) (v1 : Int32) (k2 : Int32 → Mu → Option (Unit × Mu)) (k9 : Int32 → Int32 → Mu → Option (Unit × Mu)) (v2 : Int32) (v3 : Int32) (v4 : Int32) (v5 : Int32) (μ : Mu) : Option (Unit × Mu) := lpF (fun _ _ _ _ _ => none) (X12_laysMoves_47b n v1 k2 k9) n v2 v3 v4 v5 μ
def X12_laysMoves_9b (n : Nat) (v1 : Int32) (k2 : Int32 → Mu → Option (Unit × Mu)) (k9 : Int32 → Int32 → Mu → Option (Unit × Mu)) (v2 : Int32) (v3 : Int32) (μ : Mu) : Option (Unit × Mu) :=
  gd (v1 + (1 : Int32)) 42 (gd v1 42 ((if ((μ.1 189 (v1 + (1 : Int32)).toNatClampNeg) - (μ.1 189 v1.toNatClampNeg)) ≤ v3 then
  k2 (v2 + (1 : Int32)) μ
  else
  (X12_seat n v2 v1 v3 μ).bind (fun r32 =>
  (X12_lays n v2 v1 v3 r32.2).bind (fun r41 =>
  X12_laysMoves_47 n v1 k2 k9 v2 v3 r32.1 (0 : Int32) r41.2)))))
def X12_laysMoves_9 (n : Nat) (v1 : Int32) (k2 : Int32 → Mu → Option (Unit × Mu)) (v2 : Int32) (v3 : Int32) (μ : Mu) : Option (Unit × Mu) := lpF (fun _ _ _ => none) (X12_laysMoves_9b n v1 k2) n v2 v3 μ
def X12_laysMoves_2b (n : Nat) (v1 : Int32) (k2 : Int32 → Mu → Option (Unit × Mu)) (v2 : Int32) (μ : Mu) : Option (Unit × Mu) :=
  (if (2 : Int32) ≤ v2 then
  some ((), μ)
  else
  X12_laysMoves_9 n v1 k2 v2 (0 : Int32) μ)
def X12_laysMoves_2 (n : Nat) (v1 : Int32) (v2 : Int32) (μ : Mu) : Option (Unit × Mu) := lpF (fun _ _ => none) (X12_laysMoves_2b n v1) n v2 μ
def X12_laysMoves (n : Nat) (v1 : Int32) (μ : Mu) : Option (Unit × Mu) :=
  X12_laysMoves_2 n v1 (0 : Int32) μ
def X12_forced_47 (n : Nat) (v1 : Int32) (μ : Mu) : Option (Int32 × Mu) :=
  (X12_copies n 175 172 μ).bind (fun r55 =>
  some (v1, r55.2))
def X12_forced_18b (n : Nat) (k18 : Int32 → Mu → Option (Int32 × Mu)) (v1 : Int32) (μ : Mu) : Option (Int32 × Mu) :=
  (if (60 : Int32) ≤ v1 then
  X12_forced_47 n v1 μ
  else
  (X12_only n μ).bind (fun r25 =>
  (if r25.1 = ((-1) : Int32) then
  X12_forced_47 n v1 r25.2
  else
  (X12_only n r25.2).bind (fun r34 =>
  (X12_moves n r34.1 r34.2).bind (fun r37 =>
  k18 (v1 + (1 : Int32)) r37.2)))))
def X12_forced_18 (n : Nat) (v1 : Int32) (μ : Mu) : Option (Int32 × Mu) := lpF (fun _ _ => none) (X12_forced_18b n) n v1 μ
def X12_forced (n : Nat) (μ : Mu) : Option (Int32 × Mu) :=
  (X12_copies n 172 175 (si μ 171 5 (0 : Int32))).bind (fun r13 =>
  X12_forced_18 n (0 : Int32) r13.2)
def X4_readPerSide (n : Nat) (μ : Mu) : Option (Unit × Mu) :=
  (if (μ.1 13 0) ≤ 0 then
  (X4_step n μ).bind (fun r17 =>
  (X4_readNumber n (1 : Int32) (6 : Int32) r17.2).bind (fun r28 =>
  some ((), (si r28.2 13 1 r28.1))))
  else
  (X4_refuse n (2 : Int32) μ).bind (fun r12 =>
  some ((), r12.2)))
def X12_solves_106b (n : Nat) (v1 : Int32) (k106 : Mu → Option (Int32 × Mu)) (μ : Mu) : Option (Int32 × Mu) :=
  (if v1 ≤ (μ.1 171 40) then
  (X12_copies n 192 172 μ).bind (fun r175 =>
  some ((1 : Int32), r175.2))
  else
  gd ((μ.1 171 40) + (1 : Int32)) 42 ((X12_positionsOf n ((μ.1 171 40) + (1 : Int32)) μ).bind (fun r140 =>
  gd (((μ.1 171 40) + (1 : Int32)) + (1 : Int32)) 42 ((X12_laysMoves n ((μ.1 171 40) + (1 : Int32)) (si r140.2 189 (((μ.1 171 40) + (1 : Int32)) + (1 : Int32)).toNatClampNeg ((μ.1 189 ((μ.1 171 40) + (1 : Int32)).toNatClampNeg) + (r140.1.toInt32)))).bind (fun r149 =>
  (X12_settles n ((μ.1 171 40) + (1 : Int32)) r149.2).bind (fun r155 =>
  k106 (si r155.2 171 40 ((μ.1 171 40) + (1 : Int32)))))))))
def X12_solves_106 (n : Nat) (v1 : Int32) (μ : Mu) : Option (Int32 × Mu) := lpF (fun _ => none) (X12_solves_106b n v1) n  μ
def X12_solves_85 (n : Nat) (v1 : Int32) (μ : Mu) : Option (Int32 × Mu) :=
  (if (μ.1 171 40) < v1 then
  (X12_copies n 172 192 μ).bind (fun r103 =>
  X12_solves_106 n v1 r103.2)
  else
  some ((1 : Int32), μ))
def X12_solves_46b (n : Nat) (v1 : Int32) (k46 : Int32 → Mu → Option (Int32 × Mu)) (v4 : Int32) (μ : Mu) : Option (Int32 × Mu) :=
  (if (10 : Int32) < v4 then
  X12_solves_85 n v1 (si (si μ 171 40 ((-1) : Int32)) 189 0 (0 : Int32))
  else
  gd v4 25 (gd v4 12 (k46 (v4 + (1 : Int32)) (si μ 191 v4.toNatClampNeg (μ.1 172 v4.toNatClampNeg)))))
def X12_solves_46 (n : Nat) (v1 : Int32) (v4 : Int32) (μ : Mu) : Option (Int32 × Mu) := lpF (fun _ _ => none) (X12_solves_46b n v1) n v4 μ
def X12_solves_5b (n : Nat) (v1 : Int32) (k5 : Int64 → Int32 → Mu → Option (Int32 × Mu)) (v2 : Int64) (v4 : Int32) (μ : Mu) : Option (Int32 × Mu) :=
  (if v1 < v4 then
  (X12_areRules n μ).bind (fun r37 =>
  (if r37.1 = 0 then
  X12_solves_46 n v1 (1 : Int32) r37.2
  else
  X12_solves_85 n v1 r37.2))
  else
  (X12_positionsOf n v4 μ).bind (fun r15 =>
  (if (lg_cmp (v2 + r15.1) (6000 : Int64)) ≤ 0 then
  k5 (v2 + r15.1) (v4 + (1 : Int32)) r15.2
  else
  some ((0 : Int32), r15.2))))
def X12_solves_5 (n : Nat) (v1 : Int32) (v2 : Int64) (v4 : Int32) (μ : Mu) : Option (Int32 × Mu) := lpF (fun _ _ _ => none) (X12_solves_5b n v1) n v2 v4 μ
def X12_solves (n : Nat) (v1 : Int32) (μ : Mu) : Option (Int32 × Mu) :=
  X12_solves_5 n v1 (0 : Int64) (0 : Int32) μ
def X12_value_31 (n : Nat) (s0 : Int32) (μ : Mu) : Option (Int32 × Mu) :=
  some (s0, μ)
def X12_value (n : Nat) (μ : Mu) : Option (Int32 × Mu) :=
  (X12_seedsNow n (si μ 171 5 (0 : Int32))).bind (fun r7 =>
  (X12_solves n r7.1 r7.2).bind (fun r10 =>
  (if r10.1 = 0 then
  X12_value_31 n ((-1000) : Int32) r10.2
  else
  (X12_seatNow n r10.2).bind (fun r21 =>
  gd r21.1 12000 (X12_value_31 n (r21.2.1 184 r21.1.toNatClampNeg) r21.2)))))
def X12_rank_29 (n : Nat) (s0 : Int32) (μ : Mu) : Option (Int32 × Mu) :=
  some (s0, μ)
def X12_rank (n : Nat) (μ : Mu) : Option (Int32 × Mu) :=
  (X12_seedsNow n (si μ 171 5 (0 : Int32))).bind (fun r7 =>
  (X12_solves n r7.1 r7.2).bind (fun r10 =>
  (if r10.1 = 0 then
  X12_rank_29 n ((-1) : Int32) r10.2
  else
  (X12_seatNow n r10.2).bind (fun r21 =>
  gd r21.1 12000 (X12_rank_29 n (r21.2.1 185 r21.1.toNatClampNeg) r21.2)))))
def X12_best_24 (n : Nat) (s0 : Int32) (μ : Mu) : Option (Int32 × Mu) :=
  some (s0, μ)
def X12_best (n : Nat) (μ : Mu) : Option (Int32 × Mu) :=
  (X12_seedsNow n (si μ 171 5 (0 : Int32))).bind (fun r7 =>
  (X12_solves n r7.1 r7.2).bind (fun r10 =>
  (if r10.1 = 0 then
  X12_best_24 n ((-1) : Int32) r10.2
  else
  (X12_bestNow n r10.2).bind (fun r17 =>
  X12_best_24 n r17.1 r17.2))))
def X12_worth_24 (n : Nat) (v1 : Int32) (μ : Mu) : Option (Int32 × Mu) :=
  some (((-1000) : Int32), μ)
def X12_worth (n : Nat) (v1 : Int32) (μ : Mu) : Option (Int32 × Mu) :=
  (X12_seedsNow n (si μ 171 5 (0 : Int32))).bind (fun r7 =>
  (X12_solves n r7.1 r7.2).bind (fun r10 =>
  (if r10.1 = 0 then
  X12_worth_24 n v1 r10.2
  else
  (X12_whyNot n v1 r10.2).bind (fun r18 =>
  (if r18.1 = 0 then
  (X12_seatNow n r18.2).bind (fun r30 =>
  dv (r30.2.1 172 1) ((X12_worthOf n r30.1 (v1 - v1 / (r30.2.1 172 1) * (r30.2.1 172 1)) 184 r30.2).bind (fun r45 =>
  some (r45.1, r45.2))))
  else
  X12_worth_24 n v1 r18.2)))))
def X12_valueOf_102 (n : Nat) (v1 : Int32) (v2 : Int32) (v3 : Int32) (s0 : Int32) (μ : Mu) : Option (Int32 × Mu) :=
  some (s0, μ)
def X12_valueOf_29 (n : Nat) (v1 : Int32) (v2 : Int32) (v3 : Int32) (s1 : Int32) (μ : Mu) : Option (Int32 × Mu) :=
  (if ((si μ 171 5 s1).1 171 5) ≤ 0 then
  (X12_solves n v2 (si μ 171 5 s1)).bind (fun r43 =>
  (if r43.1 = 0 then
  (X12_fails n (3 : Int32) r43.2).bind (fun r51 =>
  some (r51.1, r51.2))
  else
  gd (v2 + (1 : Int32)) 42 (gd v2 42 ((X12_within n (v3.toInt64) (0 : Int64) ((((r43.2.1 189 (v2 + (1 : Int32)).toNatClampNeg) - (r43.2.1 189 v2.toNatClampNeg)) - (1 : Int32)).toInt64) r43.2).bind (fun r76 =>
  (if r76.1 = 0 then
  (X12_fails n (1 : Int32) r76.2).bind (fun r99 =>
  X12_valueOf_102 n v1 v2 v3 r99.1 r99.2)
  else
  (X12_seat n v1 v2 v3 r76.2).bind (fun r90 =>
  gd r90.1 12000 (X12_valueOf_102 n v1 v2 v3 (r90.2.1 184 r90.1.toNatClampNeg) r90.2))))))))
  else
  some ((0 : Int32), (si μ 171 5 s1)))
def X12_valueOf (n : Nat) (v1 : Int32) (v2 : Int32) (v3 : Int32) (μ : Mu) : Option (Int32 × Mu) :=
  (X12_isSide n v1 μ).bind (fun r2 =>
  (if r2.1 = 0 then
  X12_valueOf_29 n v1 v2 v3 (1 : Int32) r2.2
  else
  (X12_within n (v2.toInt64) (0 : Int64) (40 : Int64) r2.2).bind (fun r18 =>
  (if r18.1 = 0 then
  X12_valueOf_29 n v1 v2 v3 (2 : Int32) r18.2
  else
  X12_valueOf_29 n v1 v2 v3 (0 : Int32) r18.2))))
def X12_tally_163 (n : Nat) (v1 : Int32) (v2 : Int32) (v3 : Int32) (k73 : Int32 → Int32 → Mu → Option (Int32 × Mu)) (v5 : Int32) (s0 : Int32) (s1 : Int32) (μ : Mu) : Option (Int32 × Mu) :=
  k73 (s0 + s1) (v5 + (1 : Int32)) μ
def X12_tally_158 (n : Nat) (v1 : Int32) (v2 : Int32) (v3 : Int32) (k73 : Int32 → Int32 → Mu → Option (Int32 × Mu)) (v5 : Int32) (s0 : Int32) (μ : Mu) : Option (Int32 × Mu) :=
  X12_tally_163 n v1 v2 v3 k73 v5 s0 (1 : Int32) μ
def X12_tally_162 (n : Nat) (v1 : Int32) (v2 : Int32) (v3 : Int32) (k73 : Int32 → Int32 → Mu → Option (Int32 × Mu)) (v5 : Int32) (s0 : Int32) (μ : Mu) : Option (Int32 × Mu) :=
  X12_tally_163 n v1 v2 v3 k73 v5 s0 (0 : Int32) μ
def X12_tally_143 (n : Nat) (v1 : Int32) (v2 : Int32) (v3 : Int32) (k73 : Int32 → Int32 → Mu → Option (Int32 × Mu)) (v5 : Int32) (v6 : Int32) (s0 : Int32) (μ : Mu) : Option (Int32 × Mu) :=
  (if v3 = (3 : Int32) then
  gd v6 12000 ((if (μ.1 190 v6.toNatClampNeg) = 0 then
  X12_tally_162 n v1 v2 v3 k73 v5 s0 μ
  else
  X12_tally_158 n v1 v2 v3 k73 v5 s0 μ))
  else
  X12_tally_162 n v1 v2 v3 k73 v5 s0 μ)
def X12_tally_133 (n : Nat) (v1 : Int32) (v2 : Int32) (v3 : Int32) (k73 : Int32 → Int32 → Mu → Option (Int32 × Mu)) (v5 : Int32) (v6 : Int32) (v7 : Int32) (s0 : Int32) (μ : Mu) : Option (Int32 × Mu) :=
  (if v3 = (2 : Int32) then
  (if v7 < 0 then
  X12_tally_158 n v1 v2 v3 k73 v5 s0 μ
  else
  X12_tally_143 n v1 v2 v3 k73 v5 v6 s0 μ)
  else
  X12_tally_143 n v1 v2 v3 k73 v5 v6 s0 μ)
def X12_tally_123 (n : Nat) (v1 : Int32) (v2 : Int32) (v3 : Int32) (k73 : Int32 → Int32 → Mu → Option (Int32 × Mu)) (v5 : Int32) (v6 : Int32) (v7 : Int32) (s0 : Int32) (μ : Mu) : Option (Int32 × Mu) :=
  (if v3 = (1 : Int32) then
  (if v7 = 0 then
  X12_tally_158 n v1 v2 v3 k73 v5 s0 μ
  else
  X12_tally_133 n v1 v2 v3 k73 v5 v6 v7 s0 μ)
  else
  X12_tally_133 n v1 v2 v3 k73 v5 v6 v7 s0 μ)
def X12_tally_73b (n : Nat) (v1 : Int32) (v2 : Int32) (v3 : Int32) (k73 : Int32 → Int32 → Mu → Option (Int32 × Mu)) (v4 : Int32) (v5 : Int32) (μ : Mu) : Option (Int32 × Mu) :=
  gd (v2 + (1 : Int32)) 42 (gd v2 42 ((if ((μ.1 189 (v2 + (1 : Int32)).toNatClampNeg) - (μ.1 189 v2.toNatClampNeg)) ≤ v5 then
  some (v4, μ)
  else
  (X12_seat n v1 v2 v5 μ).bind (fun r98 =>
  gd r98.1 12000 ((if v3 = 0 then
  (if 0 < (r98.2.1 184 r98.1.toNatClampNeg) then
  X12_tally_158 n v1 v2 v3 k73 v5 v4 r98.2
  else
  X12_tally_123 n v1 v2 v3 k73 v5 r98.1 (r98.2.1 184 r98.1.toNatClampNeg) v4 r98.2)
  else
  X12_tally_123 n v1 v2 v3 k73 v5 r98.1 (r98.2.1 184 r98.1.toNatClampNeg) v4 r98.2))))))
def X12_tally_73 (n : Nat) (v1 : Int32) (v2 : Int32) (v3 : Int32) (v4 : Int32) (v5 : Int32) (μ : Mu) : Option (Int32 × Mu) := lpF (fun _ _ _ => none) (X12_tally_73b n v1 v2 v3) n v4 v5 μ
def X12_tally_41 (n : Nat) (v1 : Int32) (v2 : Int32) (v3 : Int32) (s1 : Int32) (μ : Mu) : Option (Int32 × Mu) :=
  (if ((si μ 171 5 s1).1 171 5) ≤ 0 then
  (X12_solves n v2 (si μ 171 5 s1)).bind (fun r55 =>
  (if r55.1 = 0 then
  (X12_fails n (3 : Int32) r55.2).bind (fun r63 =>
  some (r63.1, r63.2))
  else
  X12_tally_73 n v1 v2 v3 (0 : Int32) (0 : Int32) r55.2))
  else
  some ((0 : Int32), (si μ 171 5 s1)))
def X12_tally_40 (n : Nat) (v1 : Int32) (v2 : Int32) (v3 : Int32) (μ : Mu) : Option (Int32 × Mu) :=
  X12_tally_41 n v1 v2 v3 (2 : Int32) μ
def X12_tally (n : Nat) (v1 : Int32) (v2 : Int32) (v3 : Int32) (μ : Mu) : Option (Int32 × Mu) :=
  (X12_isSide n v1 μ).bind (fun r2 =>
  (if r2.1 = 0 then
  X12_tally_41 n v1 v2 v3 (1 : Int32) r2.2
  else
  (X12_within n (v2.toInt64) (0 : Int64) (40 : Int64) r2.2).bind (fun r18 =>
  (if r18.1 = 0 then
  X12_tally_40 n v1 v2 v3 r18.2
  else
  (X12_within n (v3.toInt64) (0 : Int64) (3 : Int64) r18.2).bind (fun r30 =>
  (if r30.1 = 0 then
  X12_tally_40 n v1 v2 v3 r30.2
  else
  X12_tally_41 n v1 v2 v3 (0 : Int32) r30.2))))))
def X12_row_121 (n : Nat) (v1 : Int32) (v2 : Int32) (v3 : Int32) (v4 : Int32) (s0 : Int32) (μ : Mu) : Option (Int32 × Mu) :=
  some (s0, μ)
def X12_row_169 (n : Nat) (v1 : Int32) (v2 : Int32) (v3 : Int32) (v4 : Int32) (s0 : Int32) (μ : Mu) : Option (Int32 × Mu) :=
  some (s0, μ)
def X12_row_166 (n : Nat) (v1 : Int32) (v2 : Int32) (v3 : Int32) (v4 : Int32) (s1 : Int32) (s2 : Int32) (μ : Mu) : Option (Int32 × Mu) :=
  (X12_canAt n s1 s2 μ).bind (fun r166 =>
  X12_row_169 n v1 v2 v3 v4 r166.1 r166.2)
def X12_row_55 (n : Nat) (v1 : Int32) (v2 : Int32) (v3 : Int32) (v4 : Int32) (μ : Mu) : Option (Int32 × Mu) :=
  (if (μ.1 171 5) ≤ 0 then
  (X12_seat n v1 v2 v3 μ).bind (fun r68 =>
  (if v4 < (10 : Int32) then
  (if v4 = 0 then
  gd r68.1 12000 (X12_row_169 n v1 v2 v3 v4 (r68.2.1 185 r68.1.toNatClampNeg) r68.2)
  else
  (if v4 = (1 : Int32) then
  (X12_bestAt n r68.1 r68.2).bind (fun r146 =>
  X12_row_169 n v1 v2 v3 v4 r146.1 r146.2)
  else
  (if v4 = (3 : Int32) then
  X12_row_166 n v1 v2 v3 v4 r68.1 (1 : Int32) r68.2
  else
  X12_row_166 n v1 v2 v3 v4 r68.1 (0 : Int32) r68.2)))
  else
  gd ((((6 : Int32) * r68.1) + v4) - (10 : Int32)) 72000 ((if (r68.2.1 187 ((((6 : Int32) * r68.1) + v4) - (10 : Int32)).toNatClampNeg) = ((-1) : Int32) then
  X12_row_121 n v1 v2 v3 v4 ((-1000) : Int32) r68.2
  else
  (X12_worthOf n r68.1 (v4 - (10 : Int32)) 184 r68.2).bind (fun r118 =>
  X12_row_121 n v1 v2 v3 v4 r118.1 r118.2)))))
  else
  some ((0 : Int32), μ))
def X12_row (n : Nat) (v1 : Int32) (v2 : Int32) (v3 : Int32) (v4 : Int32) (μ : Mu) : Option (Int32 × Mu) :=
  (X12_valueOf n v1 v2 v3 μ).bind (fun r4 =>
  (if (r4.2.1 171 5) = 0 then
  (X12_within n (v4.toInt64) (0 : Int64) (3 : Int64) r4.2).bind (fun r22 =>
  (if r22.1 = 0 then
  (X12_within n (v4.toInt64) (10 : Int64) (((9 : Int32) + (r22.2.1 172 1)).toInt64) r22.2).bind (fun r44 =>
  (if r44.1 = 0 then
  X12_row_55 n v1 v2 v3 v4 (si r44.2 171 5 (2 : Int32))
  else
  X12_row_55 n v1 v2 v3 v4 r44.2))
  else
  X12_row_55 n v1 v2 v3 v4 r22.2))
  else
  X12_row_55 n v1 v2 v3 v4 r4.2))
def X12_find_111 (n : Nat) (v1 : Int32) (v2 : Int32) (v3 : Int32) (v4 : Int32) (k60 : Int32 → Int32 → Mu → Option (Int32 × Mu)) (v5 : Int32) (v6 : Int32) (μ : Mu) : Option (Int32 × Mu) :=
  k60 v5 (v6 + (1 : Int32)) μ
def X12_find_60b (n : Nat) (v1 : Int32) (v2 : Int32) (v3 : Int32) (v4 : Int32) (k60 : Int32 → Int32 → Mu → Option (Int32 × Mu)) (v5 : Int32) (v6 : Int32) (μ : Mu) : Option (Int32 × Mu) :=
  gd (v2 + (1 : Int32)) 42 (gd v2 42 ((if ((μ.1 189 (v2 + (1 : Int32)).toNatClampNeg) - (μ.1 189 v2.toNatClampNeg)) ≤ v6 then
  some (((-1) : Int32), μ)
  else
  (X12_seat n v1 v2 v6 μ).bind (fun r89 =>
  gd r89.1 12000 ((if (r89.2.1 184 r89.1.toNatClampNeg) = v3 then
  (if v5 = 0 then
  some (v6, r89.2)
  else
  X12_find_111 n v1 v2 v3 v4 k60 (v5 + ((-1) : Int32)) v6 r89.2)
  else
  X12_find_111 n v1 v2 v3 v4 k60 v5 v6 r89.2))))))
def X12_find_60 (n : Nat) (v1 : Int32) (v2 : Int32) (v3 : Int32) (v4 : Int32) (v5 : Int32) (v6 : Int32) (μ : Mu) : Option (Int32 × Mu) := lpF (fun _ _ _ => none) (X12_find_60b n v1 v2 v3 v4) n v5 v6 μ
def X12_find_41 (n : Nat) (v1 : Int32) (v2 : Int32) (v3 : Int32) (v4 : Int32) (s1 : Int32) (μ : Mu) : Option (Int32 × Mu) :=
  (if ((si μ 171 5 s1).1 171 5) ≤ 0 then
  X12_find_60 n v1 v2 v3 v4 v4 (0 : Int32) (si μ 171 5 s1)
  else
  some ((0 : Int32), (si μ 171 5 s1)))
def X12_find (n : Nat) (v1 : Int32) (v2 : Int32) (v3 : Int32) (v4 : Int32) (μ : Mu) : Option (Int32 × Mu) :=
  (X12_isSide n v1 μ).bind (fun r2 =>
  (if r2.1 = 0 then
  X12_find_41 n v1 v2 v3 v4 (1 : Int32) r2.2
  else
  (X12_within n (v2.toInt64) (0 : Int64) (40 : Int64) r2.2).bind (fun r18 =>
  (if r18.1 = 0 then
  X12_find_41 n v1 v2 v3 v4 (2 : Int32) r18.2
  else
  (X12_solves n v2 r18.2).bind (fun r30 =>
  (if r30.1 = 0 then
  X12_find_41 n v1 v2 v3 v4 (3 : Int32) r30.2
  else
  X12_find_41 n v1 v2 v3 v4 (0 : Int32) r30.2))))))
def X12_most_168 (n : Nat) (v1 : Int32) (v2 : Int32) (v3 : Int32) (k74 : Int32 → Int32 → Int32 → Mu → Option (Int32 × Mu)) (v4 : Int32) (v5 : Int32) (v6 : Int32) (μ : Mu) : Option (Int32 × Mu) :=
  k74 v4 v5 (v6 + (1 : Int32)) μ
def X12_most_160 (n : Nat) (v1 : Int32) (v2 : Int32) (v3 : Int32) (k74 : Int32 → Int32 → Int32 → Mu → Option (Int32 × Mu)) (v6 : Int32) (v8 : Int32) (μ : Mu) : Option (Int32 × Mu) :=
  X12_most_168 n v1 v2 v3 k74 v6 v8 v6 μ
def X12_most_142 (n : Nat) (v1 : Int32) (v2 : Int32) (v3 : Int32) (k74 : Int32 → Int32 → Int32 → Mu → Option (Int32 × Mu)) (v4 : Int32) (v5 : Int32) (v6 : Int32) (s0 : Int32) (μ : Mu) : Option (Int32 × Mu) :=
  (if v4 = ((-1) : Int32) then
  X12_most_160 n v1 v2 v3 k74 v6 s0 μ
  else
  (if v5 < s0 then
  X12_most_160 n v1 v2 v3 k74 v6 s0 μ
  else
  X12_most_168 n v1 v2 v3 k74 v4 v5 v6 μ))
def X12_most_205 (n : Nat) (v1 : Int32) (v2 : Int32) (v3 : Int32) (s0 : Int32) (μ : Mu) : Option (Int32 × Mu) :=
  some (s0, μ)
def X12_most_187 (n : Nat) (v1 : Int32) (v2 : Int32) (v3 : Int32) (v4 : Int32) (μ : Mu) : Option (Int32 × Mu) :=
  X12_most_205 n v1 v2 v3 v4 μ
def X12_most_74b (n : Nat) (v1 : Int32) (v2 : Int32) (v3 : Int32) (k74 : Int32 → Int32 → Int32 → Mu → Option (Int32 × Mu)) (v4 : Int32) (v5 : Int32) (v6 : Int32) (μ : Mu) : Option (Int32 × Mu) :=
  gd (v2 + (1 : Int32)) 42 (gd v2 42 ((if ((μ.1 189 (v2 + (1 : Int32)).toNatClampNeg) - (μ.1 189 v2.toNatClampNeg)) ≤ v6 then
  (if v4 = ((-1) : Int32) then
  X12_most_187 n v1 v2 v3 v4 μ
  else
  (if (v3 - v3 / (2 : Int32) * (2 : Int32)) = (1 : Int32) then
  X12_most_187 n v1 v2 v3 v4 μ
  else
  (if v3 = (2 : Int32) then
  X12_most_205 n v1 v2 v3 (-v5) μ
  else
  X12_most_205 n v1 v2 v3 v5 μ)))
  else
  (X12_seat n v1 v2 v6 μ).bind (fun r99 =>
  (if (2 : Int32) ≤ v3 then
  (if (4 : Int32) ≤ v3 then
  gd r99.1 12000 (X12_most_142 n v1 v2 v3 k74 v4 v5 v6 (r99.2.1 185 r99.1.toNatClampNeg) r99.2)
  else
  gd r99.1 12000 (X12_most_142 n v1 v2 v3 k74 v4 v5 v6 (-(r99.2.1 184 r99.1.toNatClampNeg)) r99.2))
  else
  gd r99.1 12000 (X12_most_142 n v1 v2 v3 k74 v4 v5 v6 (r99.2.1 184 r99.1.toNatClampNeg) r99.2))))))
def X12_most_74 (n : Nat) (v1 : Int32) (v2 : Int32) (v3 : Int32) (v4 : Int32) (v5 : Int32) (v6 : Int32) (μ : Mu) : Option (Int32 × Mu) := lpF (fun _ _ _ _ => none) (X12_most_74b n v1 v2 v3) n v4 v5 v6 μ
def X12_most_53 (n : Nat) (v1 : Int32) (v2 : Int32) (v3 : Int32) (s1 : Int32) (μ : Mu) : Option (Int32 × Mu) :=
  (if ((si μ 171 5 s1).1 171 5) ≤ 0 then
  X12_most_74 n v1 v2 v3 ((-1) : Int32) (0 : Int32) (0 : Int32) (si μ 171 5 s1)
  else
  some ((0 : Int32), (si μ 171 5 s1)))
def X12_most_36 (n : Nat) (v1 : Int32) (v2 : Int32) (v3 : Int32) (μ : Mu) : Option (Int32 × Mu) :=
  X12_most_53 n v1 v2 v3 (2 : Int32) μ
def X12_most (n : Nat) (v1 : Int32) (v2 : Int32) (v3 : Int32) (μ : Mu) : Option (Int32 × Mu) :=
  (X12_isSide n v1 μ).bind (fun r2 =>
  (if r2.1 = 0 then
  X12_most_53 n v1 v2 v3 (1 : Int32) r2.2
  else
  (X12_within n (v2.toInt64) (0 : Int64) (40 : Int64) r2.2).bind (fun r18 =>
  (if r18.1 = 0 then
  X12_most_36 n v1 v2 v3 r18.2
  else
  (X12_within n (v3.toInt64) (0 : Int64) (5 : Int64) r18.2).bind (fun r30 =>
  (if r30.1 = 0 then
  X12_most_36 n v1 v2 v3 r30.2
  else
  (X12_solves n v2 r30.2).bind (fun r42 =>
  (if r42.1 = 0 then
  X12_most_53 n v1 v2 v3 (3 : Int32) r42.2
  else
  X12_most_53 n v1 v2 v3 (0 : Int32) r42.2))))))))
def X12_swapped (n : Nat) (μ : Mu) : Option (Int32 × Mu) :=
  (X12_seedsNow n (si μ 171 5 (0 : Int32))).bind (fun r7 =>
  (X12_solves n r7.1 r7.2).bind (fun r10 =>
  (if r10.1 = 0 then
  some (((-1000) : Int32), r10.2)
  else
  (X12_takesUp n r10.2).bind (fun r21 =>
  (X12_seedsNow n r21.2).bind (fun r38 =>
  (X12_numberOf n ((1 : Int32) - (r38.2.1 172 2)) r38.2).bind (fun r50 =>
  (X12_seat n ((1 : Int32) - (r21.2.1 172 2)) r38.1 r50.1 r50.2).bind (fun r53 =>
  gd r53.1 12000 (some ((r53.2.1 184 r53.1.toNatClampNeg), r53.2)))))))))
def X12_line_131 (n : Nat) (v1 : Int32) (s0 : Int32) (μ : Mu) : Option (Int32 × Mu) :=
  some (s0, μ)
def X12_line_12 (n : Nat) (v1 : Int32) (s1 : Int32) (μ : Mu) : Option (Int32 × Mu) :=
  (if ((si μ 171 5 s1).1 171 5) ≤ 0 then
  (X12_seedsNow n (si μ 171 5 s1)).bind (fun r26 =>
  (X12_solves n r26.1 r26.2).bind (fun r29 =>
  (if r29.1 = 0 then
  (X12_fails n (2 : Int32) r29.2).bind (fun r37 =>
  some (r37.1, r37.2))
  else
  (X12_copies n 172 175 r29.2).bind (fun r49 =>
  (X12_goesOn n r49.2).bind (fun r53 =>
  (X12_scoreNow n r53.2).bind (fun r58 =>
  (X12_copies n 175 172 r58.2).bind (fun r70 =>
  (if v1 = ((-1) : Int32) then
  X12_line_131 n v1 (r70.2.1 171 44) r70.2
  else
  (if v1 = ((-2) : Int32) then
  (if r53.1 = 0 then
  X12_line_131 n v1 (0 : Int32) r70.2
  else
  X12_line_131 n v1 (1 : Int32) r70.2)
  else
  (if v1 = ((-3) : Int32) then
  X12_line_131 n v1 r58.1 r70.2
  else
  (if (r70.2.1 171 44) ≤ v1 then
  X12_line_131 n v1 ((-1) : Int32) r70.2
  else
  gd v1 60 (X12_line_131 n v1 (r70.2.1 193 v1.toNatClampNeg) r70.2))))))))))))
  else
  some ((0 : Int32), (si μ 171 5 s1)))
def X12_line (n : Nat) (v1 : Int32) (μ : Mu) : Option (Int32 × Mu) :=
  (if v1 < ((-3) : Int32) then
  X12_line_12 n v1 (1 : Int32) μ
  else
  X12_line_12 n v1 (0 : Int32) μ)
def X12_against_54 (n : Nat) (v1 : Int32) (v2 : Int32) (s0 : Int32) (μ : Mu) : Option (Int32 × Mu) :=
  some (s0, μ)
def X12_against_33 (n : Nat) (v1 : Int32) (v2 : Int32) (s1 : Int32) (μ : Mu) : Option (Int32 × Mu) :=
  (if ((si μ 171 5 s1).1 171 5) ≤ 0 then
  (X12_playOf n v1 (1 : Int32) v2 (si μ 171 5 s1)).bind (fun r51 =>
  X12_against_54 n v1 v2 r51.1 r51.2)
  else
  X12_against_54 n v1 v2 (0 : Int32) (si μ 171 5 s1))
def X12_against (n : Nat) (v1 : Int32) (v2 : Int32) (μ : Mu) : Option (Int32 × Mu) :=
  (X12_seedsNow n μ).bind (fun r3 =>
  (X12_solves n r3.1 r3.2).bind (fun r6 =>
  (if r6.1 = 0 then
  X12_against_33 n v1 v2 (1 : Int32) r6.2
  else
  (X12_within n (v2.toInt64) (0 : Int64) (2 : Int64) r6.2).bind (fun r22 =>
  (if r22.1 = 0 then
  X12_against_33 n v1 v2 (2 : Int32) r22.2
  else
  X12_against_33 n v1 v2 (0 : Int32) r22.2)))))
