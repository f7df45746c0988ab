def X4_isWord_24 (n : Nat) (v1 : Nat) (μ : Mu) : Option (Int32 × Mu) :=
  some ((0 : Int32), μ)
def X4_isWord_28b (n : Nat) (v1 : Nat) (k28 : Int32 → Mu → Option (Int32 × Mu)) (v2 : Int32) (μ : Mu) : Option (Int32 × Mu) :=
  (J0_length_8abf5 n v1 μ).bind (fun r30 =>
  (if r30.1 ≤ v2 then
  some ((1 : Int32), r30.2)
  else
  gd ((r30.2.1 12 8) + v2) 500 ((J0_charAt_5068e n v1 v2 r30.2).bind (fun r49 =>
  (if (r30.2.1 14 ((r30.2.1 12 8) + v2).toNatClampNeg) = r49.1 then
  k28 (v2 + (1 : Int32)) r49.2
  else
  some ((0 : Int32), r49.2))))))
def X4_isWord_28 (n : Nat) (v1 : Nat) (v2 : Int32) (μ : Mu) : Option (Int32 × Mu) := lpF (fun _ _ => none) (X4_isWord_28b n v1) n v2 μ
def X4_isWord (n : Nat) (v1 : Nat) (μ : Mu) : Option (Int32 × Mu) :=
  kd v1 130 ((if (μ.1 12 7) = (1 : Int32) then
  (J0_length_8abf5 n v1 μ).bind (fun r18 =>
  (if ((μ.1 12 9) - (μ.1 12 8)) = r18.1 then
  X4_isWord_28 n v1 (0 : Int32) r18.2
  else
  X4_isWord_24 n v1 r18.2))
  else
  X4_isWord_24 n v1 μ))
def X12_isWord_75 (n : Nat) (v1 : Nat) (k39 : Int32 → Int32 → Mu → Option (Int32 × Mu)) (v3 : Int32) (s0 : Int32) (μ : Mu) : Option (Int32 × Mu) :=
  k39 s0 (v3 + (1 : Int32)) μ
def X12_isWord_82 (n : Nat) (v1 : Nat) (v2 : Int32) (μ : Mu) : Option (Int32 × Mu) :=
  bz v2 (some (v2, μ))
def X12_isWord_39b (n : Nat) (v1 : Nat) (k39 : Int32 → Int32 → Mu → Option (Int32 × Mu)) (v2 : Int32) (v3 : Int32) (μ : Mu) : Option (Int32 × Mu) :=
  (if v2 = 0 then
  X12_isWord_82 n v1 v2 μ
  else
  (J0_length_8abf5 n v1 μ).bind (fun r45 =>
  (if r45.1 ≤ v3 then
  X12_isWord_82 n v1 v2 r45.2
  else
  gd ((r45.2.1 171 10) + v3) 500 ((J0_charAt_5068e n v1 v3 r45.2).bind (fun r64 =>
  (if (r45.2.1 177 ((r45.2.1 171 10) + v3).toNatClampNeg) = r64.1 then
  X12_isWord_75 n v1 k39 v3 (1 : Int32) r64.2
  else
  X12_isWord_75 n v1 k39 v3 (0 : Int32) r64.2))))))
def X12_isWord_39 (n : Nat) (v1 : Nat) (v2 : Int32) (v3 : Int32) (μ : Mu) : Option (Int32 × Mu) := lpF (fun _ _ _ => none) (X12_isWord_39b n v1) n v2 v3 μ
def X12_isWord_36 (n : Nat) (v1 : Nat) (s0 : Int32) (μ : Mu) : Option (Int32 × Mu) :=
  X12_isWord_39 n v1 s0 (0 : Int32) μ
def X12_isWord_35 (n : Nat) (v1 : Nat) (μ : Mu) : Option (Int32 × Mu) :=
  X12_isWord_36 n v1 (0 : Int32) μ
def X12_isWord (n : Nat) (v1 : Nat) (μ : Mu) : Option (Int32 × Mu) :=
  kd v1 130 ((if (μ.1 171 13) = 0 then
  (if (μ.1 171 11) = (1 : Int32) then
  (J0_length_8abf5 n v1 μ).bind (fun r25 =>
  (if ((μ.1 171 9) - (μ.1 171 10)) = r25.1 then
  X12_isWord_36 n v1 (1 : Int32) r25.2
  else
  X12_isWord_35 n v1 r25.2))
  else
  X12_isWord_35 n v1 μ)
  else
  X12_isWord_35 n v1 μ))
def X12_took_14 (n : Nat) (v1 : Nat) (v2 : Int32) (μ : Mu) : Option (Int32 × Mu) :=
  bz v2 (some (v2, μ))
def X12_took (n : Nat) (v1 : Nat) (μ : Mu) : Option (Int32 × Mu) :=
  kd v1 130 ((X12_isWord n v1 μ).bind (fun r2 =>
  (if r2.1 = 0 then
  X12_took_14 n v1 r2.1 r2.2
  else
  (X12_reads n r2.2).bind (fun r11 =>
  X12_took_14 n v1 r2.1 r11.2))))
def X12_readTake_96 (n : Nat) (s1 : Int32) (s2 : Int32) (μ : Mu) : Option (Unit × Mu) :=
  gd s1 25 (some ((), (si μ 173 s1.toNatClampNeg s2)))
def X12_readTake_95 (n : Nat) (s1 : Int32) (μ : Mu) : Option (Unit × Mu) :=
  X12_readTake_96 n s1 (0 : Int32) μ
def X12_readTake_51 (n : Nat) (v1 : Int32) (μ : Mu) : Option (Unit × Mu) :=
  (if (μ.1 171 13) = 0 then
  (X12_reads n μ).bind (fun r60 =>
  (if v1 = (2 : Int32) then
  (X12_took n 1044 (si r60.2 173 7 v1)).bind (fun r85 =>
  (if r85.1 = 0 then
  X12_readTake_95 n (8 : Int32) r85.2
  else
  X12_readTake_96 n (8 : Int32) (1 : Int32) r85.2))
  else
  X12_readTake_95 n (8 : Int32) (si r60.2 173 7 v1)))
  else
  some ((), μ))
def X12_readTake_40 (n : Nat) (s0 : Int32) (μ : Mu) : Option (Unit × Mu) :=
  (if s0 = ((-1) : Int32) then
  (X12_blames n (2 : Int32) μ).bind (fun r48 =>
  X12_readTake_51 n s0 r48.2)
  else
  X12_readTake_51 n s0 μ)
def X12_readTake (n : Nat) (μ : Mu) : Option (Unit × Mu) :=
  (X12_isWord n 1041 μ).bind (fun r3 =>
  (if r3.1 = 0 then
  (X12_isWord n 1042 r3.2).bind (fun r16 =>
  (if r16.1 = 0 then
  (X12_isWord n 1043 r16.2).bind (fun r29 =>
  (if r29.1 = 0 then
  X12_readTake_40 n ((-1) : Int32) r29.2
  else
  X12_readTake_40 n (2 : Int32) r29.2))
  else
  X12_readTake_40 n (1 : Int32) r16.2))
  else
  X12_readTake_40 n (0 : Int32) r3.2))
def X12_readLine_282 (n : Nat) (v1 : Int32) (μ : Mu) : Option (Unit × Mu) :=
  some ((), μ)
def X12_readLine_265 (n : Nat) (v1 : Int32) (μ : Mu) : Option (Unit × Mu) :=
  (if (μ.1 171 13) = 0 then
  X12_readLine_282 n v1 (si μ 173 0 ((μ.1 173 0) + (1 : Int32)))
  else
  X12_readLine_282 n v1 μ)
def X12_readLine_254 (n : Nat) (v1 : Int32) (μ : Mu) : Option (Unit × Mu) :=
  (if (μ.1 171 13) = 0 then
  (X12_reads n μ).bind (fun r262 =>
  X12_readLine_265 n v1 r262.2)
  else
  X12_readLine_265 n v1 μ)
def X12_readLine_241 (n : Nat) (v1 : Int32) (μ : Mu) : Option (Unit × Mu) :=
  (if (μ.1 171 11) = (3 : Int32) then
  X12_readLine_254 n v1 μ
  else
  (X12_blames n (2 : Int32) μ).bind (fun r251 =>
  X12_readLine_254 n v1 r251.2))
def X12_readLine_29 (n : Nat) (v1 : Int32) (μ : Mu) : Option (Unit × Mu) :=
  (X12_took n 1033 μ).bind (fun r32 =>
  (if r32.1 = 0 then
  (X12_took n 1034 r32.2).bind (fun r48 =>
  (if r48.1 = 0 then
  (X12_took n 1035 r48.2).bind (fun r64 =>
  (if r64.1 = 0 then
  (X12_took n 1036 r64.2).bind (fun r95 =>
  (if r95.1 = 0 then
  (X12_took n 1037 r95.2).bind (fun r119 =>
  (if r119.1 = 0 then
  (X12_took n 1038 r119.2).bind (fun r138 =>
  (if r138.1 = 0 then
  (X12_took n 1039 r138.2).bind (fun r157 =>
  (if r157.1 = 0 then
  (X12_took n 1040 r157.2).bind (fun r183 =>
  (if r183.1 = 0 then
  (X12_took n 1045 r183.2).bind (fun r199 =>
  (if r199.1 = 0 then
  (X12_took n 1046 r199.2).bind (fun r219 =>
  (if r219.1 = 0 then
  (X12_blames n (2 : Int32) r219.2).bind (fun r238 =>
  X12_readLine_241 n v1 r238.2)
  else
  X12_readLine_241 n v1 (si r219.2 173 10 (1 : Int32))))
  else
  X12_readLine_241 n v1 (si r199.2 173 9 (1 : Int32))))
  else
  (X12_readTake n r183.2).bind (fun r190 =>
  X12_readLine_241 n v1 r190.2)))
  else
  (X12_number n (1 : Int32) (20 : Int32) r157.2).bind (fun r173 =>
  X12_readLine_241 n v1 (si r173.2 173 6 r173.1))))
  else
  X12_readLine_241 n v1 (si r138.2 173 5 (1 : Int32))))
  else
  X12_readLine_241 n v1 (si r119.2 173 4 (1 : Int32))))
  else
  (X12_number n (0 : Int32) (1 : Int32) r95.2).bind (fun r109 =>
  X12_readLine_241 n v1 (si r109.2 173 2 r109.1))))
  else
  (X12_number n (0 : Int32) (((2 : Int32) * (r64.2.1 173 1)) - (1 : Int32)) r64.2).bind (fun r83 =>
  (X12_lacks n r83.1 r83.2).bind (fun r86 =>
  X12_readLine_241 n v1 r86.2))))
  else
  (X12_readStored n r48.2).bind (fun r55 =>
  X12_readLine_241 n v1 r55.2)))
  else
  (X12_readLay n r32.2).bind (fun r39 =>
  X12_readLine_241 n v1 r39.2)))
def X12_readLine (n : Nat) (v1 : Int32) (μ : Mu) : Option (Unit × Mu) :=
  (if v1 = 0 then
  X12_readLine_29 n v1 μ
  else
  (X12_took n 1032 μ).bind (fun r7 =>
  (if r7.1 = 0 then
  X12_readLine_29 n v1 r7.2
  else
  (X12_number n (1 : Int32) (6 : Int32) r7.2).bind (fun r22 =>
  X12_readLine_241 n v1 (si r22.2 173 1 r22.1)))))
def X12_board_151 (n : Nat) (v1 : Int32) (s1 : Int32) (μ : Mu) : Option (Int32 × Mu) :=
  (if ((si μ 171 16 s1).1 171 13) = 0 then
  (X12_copies n 173 172 (si μ 171 16 s1)).bind (fun r177 =>
  some (((si (si r177.2 171 28 (0 : Int32)) 171 29 (0 : Int32)).1 172 0), (si (si r177.2 171 28 (0 : Int32)) 171 29 (0 : Int32))))
  else
  some ((((-10) : Int32) - ((si μ 171 16 s1).1 171 13)), (si μ 171 16 s1)))
def X12_board_127 (n : Nat) (v1 : Int32) (μ : Mu) : Option (Int32 × Mu) :=
  (if ((si μ 171 15 (μ.1 171 13)).1 171 13) = 0 then
  X12_board_151 n v1 ((-1) : Int32) (si μ 171 15 (μ.1 171 13))
  else
  X12_board_151 n v1 ((si μ 171 15 (μ.1 171 13)).1 171 14) (si μ 171 15 (μ.1 171 13)))
def X12_board_103 (n : Nat) (v1 : Int32) (μ : Mu) : Option (Int32 × Mu) :=
  (if (μ.1 171 13) = 0 then
  (X12_isWrong n μ).bind (fun r111 =>
  (if r111.1 = 0 then
  X12_board_127 n v1 r111.2
  else
  X12_board_127 n v1 (si (si r111.2 171 13 (5 : Int32)) 171 14 v1)))
  else
  X12_board_127 n v1 μ)
def X12_board_79b (n : Nat) (v1 : Int32) (k79 : Int32 → Mu → Option (Int32 × Mu)) (v2 : Int32) (μ : Mu) : Option (Int32 × Mu) :=
  (if (μ.1 171 13) = 0 then
  (if (μ.1 171 11) = 0 then
  X12_board_103 n v1 μ
  else
  (X12_readLine n v2 μ).bind (fun r95 =>
  k79 (0 : Int32) r95.2))
  else
  X12_board_103 n v1 μ)
def X12_board_79 (n : Nat) (v1 : Int32) (v2 : Int32) (μ : Mu) : Option (Int32 × Mu) := lpF (fun _ _ => none) (X12_board_79b n v1) n v2 μ
def X12_board_47b (n : Nat) (v1 : Int32) (k47 : Int32 → Mu → Option (Int32 × Mu)) (v2 : Int32) (μ : Mu) : Option (Int32 × Mu) :=
  (if (25 : Int32) ≤ v2 then
  (X12_reads n (si μ 173 1 (3 : Int32))).bind (fun r74 =>
  X12_board_79 n v1 (1 : Int32) r74.2)
  else
  gd v2 25 (k47 (v2 + (1 : Int32)) (si μ 173 v2.toNatClampNeg (0 : Int32))))
def X12_board_47 (n : Nat) (v1 : Int32) (v2 : Int32) (μ : Mu) : Option (Int32 × Mu) := lpF (fun _ _ => none) (X12_board_47b n v1) n v2 μ
def X12_board (n : Nat) (v1 : Int32) (μ : Mu) : Option (Int32 × Mu) :=
  (X12_within n (v1.toInt64) (0 : Int64) (((si μ 171 5 (0 : Int32)).1 171 7).toInt64) (si μ 171 5 (0 : Int32))).bind (fun r13 =>
  (if r13.1 = 0 then
  (X12_fails n (1 : Int32) r13.2).bind (fun r21 =>
  some (r21.1, r21.2))
  else
  X12_board_47 n v1 (0 : Int32) (si (si (si (si r13.2 171 8 v1) 171 7 (0 : Int32)) 171 9 (0 : Int32)) 171 13 (0 : Int32))))
def X4_readTake_106 (n : Nat) (μ : Mu) : Option (Unit × Mu) :=
  some ((), μ)
def X4_readTake_70 (n : Nat) (μ : Mu) : Option (Unit × Mu) :=
  (X4_step n μ).bind (fun r71 =>
  (if (r71.2.1 13 4) = (2 : Int32) then
  (X4_isWord n 1007 r71.2).bind (fun r88 =>
  (if r88.1 = 0 then
  X4_readTake_106 n r88.2
  else
  (X4_step n (si r88.2 13 4 (3 : Int32))).bind (fun r103 =>
  X4_readTake_106 n r103.2)))
  else
  X4_readTake_106 n r71.2))
def X4_readTake (n : Nat) (μ : Mu) : Option (Unit × Mu) :=
  (X4_step n μ).bind (fun r1 =>
  (X4_isWord n 1004 r1.2).bind (fun r7 =>
  (if r7.1 = 0 then
  (X4_isWord n 1005 r7.2).bind (fun r27 =>
  (if r27.1 = 0 then
  (X4_isWord n 1006 r27.2).bind (fun r47 =>
  (if r47.1 = 0 then
  (X4_refuse n (2 : Int32) r47.2).bind (fun r66 =>
  some ((), r66.2))
  else
  X4_readTake_70 n (si r47.2 13 4 (2 : Int32))))
  else
  X4_readTake_70 n (si r27.2 13 4 (1 : Int32))))
  else
  X4_readTake_70 n (si r7.2 13 4 (0 : Int32)))))
def X4_readFlag_86 (n : Nat) (μ : Mu) : Option (Unit × Mu) :=
  (X4_step n μ).bind (fun r87 =>
  some ((), r87.2))
def X4_readFlag (n : Nat) (μ : Mu) : Option (Unit × Mu) :=
  (X4_isWord n 1012 μ).bind (fun r3 =>
  (if r3.1 = 0 then
  (X4_isWord n 1013 r3.2).bind (fun r23 =>
  (if r23.1 = 0 then
  (X4_isWord n 1014 r23.2).bind (fun r43 =>
  (if r43.1 = 0 then
  (X4_isWord n 1015 r43.2).bind (fun r63 =>
  (if r63.1 = 0 then
  (X4_refuse n (2 : Int32) r63.2).bind (fun r82 =>
  some ((), r82.2))
  else
  X4_readFlag_86 n (si r63.2 13 8 (1 : Int32))))
  else
  X4_readFlag_86 n (si r43.2 13 7 (1 : Int32))))
  else
  X4_readFlag_86 n (si r23.2 13 6 (1 : Int32))))
  else
  X4_readFlag_86 n (si r3.2 13 5 (1 : Int32))))
def X4_readLine_244 (n : Nat) (μ : Mu) : Option (Unit × Mu) :=
  some ((), μ)
def X4_readLine_220 (n : Nat) (μ : Mu) : Option (Unit × Mu) :=
  (if (μ.1 12 2) = 0 then
  (X4_step n (si μ 13 0 ((μ.1 13 0) + (1 : Int32)))).bind (fun r241 =>
  X4_readLine_244 n r241.2)
  else
  X4_readLine_244 n μ)
def X4_readLine_207 (n : Nat) (μ : Mu) : Option (Unit × Mu) :=
  (if (μ.1 12 7) = (3 : Int32) then
  X4_readLine_220 n μ
  else
  (X4_refuse n (2 : Int32) μ).bind (fun r217 =>
  X4_readLine_220 n r217.2))
def X4_readLine (n : Nat) (μ : Mu) : Option (Unit × Mu) :=
  (X4_isWord n 1001 μ).bind (fun r3 =>
  (if r3.1 = 0 then
  (X4_isWord n 1002 r3.2).bind (fun r19 =>
  (if r19.1 = 0 then
  (X4_isWord n 1003 r19.2).bind (fun r35 =>
  (if r35.1 = 0 then
  (X4_isWord n 1008 r35.2).bind (fun r51 =>
  (if r51.1 = 0 then
  (X4_isWord n 1009 r51.2).bind (fun r101 =>
  (if r101.1 = 0 then
  (X4_isWord n 1010 r101.2).bind (fun r147 =>
  (if r147.1 = 0 then
  (X4_isWord n 1011 r147.2).bind (fun r176 =>
  (if r176.1 = 0 then
  (X4_readFlag n r176.2).bind (fun r204 =>
  X4_readLine_207 n r204.2)
  else
  (X4_step n r176.2).bind (fun r183 =>
  (X4_readNumber n (1 : Int32) (20 : Int32) r183.2).bind (fun r194 =>
  X4_readLine_207 n (si r194.2 13 3 r194.1)))))
  else
  (X4_step n r147.2).bind (fun r154 =>
  (X4_readNumber n (0 : Int32) (1 : Int32) r154.2).bind (fun r164 =>
  X4_readLine_207 n (si r164.2 149 1 r164.1)))))
  else
  (X4_step n r101.2).bind (fun r108 =>
  (X4_readNumber n (0 : Int32) (((2 : Int32) * (r108.2.1 13 1)) - (1 : Int32)) r108.2).bind (fun r133 =>
  X4_readLine_207 n (si r133.2 13 2 ((r108.2.1 13 2) ||| ((1 : Int32) <<< (r133.1 &&& 31))))))))
  else
  (X4_step n r51.2).bind (fun r58 =>
  (X4_readNumber n (0 : Int32) (99 : Int32) r58.2).bind (fun r74 =>
  (X4_readNumber n (0 : Int32) (99 : Int32) (si r74.2 150 12 r74.1)).bind (fun r91 =>
  X4_readLine_207 n (si r91.2 150 13 r91.1))))))
  else
  (X4_readTake n r35.2).bind (fun r42 =>
  X4_readLine_207 n r42.2)))
  else
  (X4_readSeeds n r19.2).bind (fun r26 =>
  X4_readLine_207 n r26.2)))
  else
  (X4_readPerSide n r3.2).bind (fun r10 =>
  X4_readLine_207 n r10.2)))
def X4_read_99 (n : Nat) (v1 : Int32) (μ : Mu) : Option (Unit × Mu) :=
  some ((), μ)
def X4_read_72 (n : Nat) (v1 : Int32) (μ : Mu) : Option (Unit × Mu) :=
  (if (μ.1 12 2) = 0 then
  (X4_isSound n μ).bind (fun r80 =>
  (if r80.1 = 0 then
  X4_read_99 n v1 (si (si r80.2 12 2 (5 : Int32)) 12 3 ((si r80.2 12 2 (5 : Int32)).1 12 6))
  else
  X4_read_99 n v1 r80.2))
  else
  X4_read_99 n v1 μ)
def X4_read_40b (n : Nat) (v1 : Int32) (k40 : Int32 → Mu → Option (Unit × Mu)) (v2 : Int32) (μ : Mu) : Option (Unit × Mu) :=
  (if (μ.1 12 6) ≤ v2 then
  X4_read_72 n v1 μ
  else
  (if (μ.1 12 2) = 0 then
  (if (μ.1 12 7) = 0 then
  X4_read_72 n v1 μ
  else
  (X4_readLine n μ).bind (fun r63 =>
  k40 (v2 + (1 : Int32)) r63.2))
  else
  X4_read_72 n v1 μ))
def X4_read_40 (n : Nat) (v1 : Int32) (v2 : Int32) (μ : Mu) : Option (Unit × Mu) := lpF (fun _ _ => none) (X4_read_40b n v1) n v2 μ
def X4_read (n : Nat) (v1 : Int32) (μ : Mu) : Option (Unit × Mu) :=
  (X5_clear n 13 μ).bind (fun r4 =>
  (X6_clear n 149 r4.2).bind (fun r11 =>
  (X4_step n (si (si (si (si r11.2 12 2 (0 : Int32)) 12 3 ((-1) : Int32)) 12 6 v1) 12 9 (0 : Int32))).bind (fun r35 =>
  X4_read_40 n v1 (0 : Int32) r35.2)))
