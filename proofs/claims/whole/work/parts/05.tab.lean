theorem inG1 : ∀ w ∈ u_ws RX1 TX1 7, w ∈ gt := List.forall_mem_cons.mpr ⟨gi1 140 rfl rfl, List.forall_mem_cons.mpr ⟨gi1 142 rfl rfl, List.forall_mem_cons.mpr ⟨gi1 144 rfl rfl, List.forall_mem_cons.mpr ⟨gi1 146 rfl rfl, List.forall_mem_cons.mpr ⟨gi1 148 rfl rfl, List.forall_mem_cons.mpr ⟨gi1 150 rfl rfl, List.forall_mem_cons.mpr ⟨gi1 152 rfl rfl, fun _ h => absurd h List.not_mem_nil⟩⟩⟩⟩⟩⟩⟩
theorem inG5 : ∀ w ∈ u_ws RX5 TX5 9, w ∈ gt := List.forall_mem_cons.mpr ⟨gi1 74 rfl rfl, List.forall_mem_cons.mpr ⟨gi1 76 rfl rfl, List.forall_mem_cons.mpr ⟨gi1 78 rfl rfl, List.forall_mem_cons.mpr ⟨gi1 80 rfl rfl, List.forall_mem_cons.mpr ⟨gi1 82 rfl rfl, List.forall_mem_cons.mpr ⟨gi1 84 rfl rfl, List.forall_mem_cons.mpr ⟨gi1 86 rfl rfl, List.forall_mem_cons.mpr ⟨gi1 88 rfl rfl, List.forall_mem_cons.mpr ⟨gi1 90 rfl rfl, fun _ h => absurd h List.not_mem_nil⟩⟩⟩⟩⟩⟩⟩⟩⟩
theorem inG6 : ∀ w ∈ u_ws RX6 TX6 2, w ∈ gt := List.forall_mem_cons.mpr ⟨gi1 183 rfl rfl, List.forall_mem_cons.mpr ⟨gi1 185 rfl rfl, fun _ h => absurd h List.not_mem_nil⟩⟩
theorem inG3 : ∀ w ∈ u_ws RX3 TX3 5, w ∈ gt := List.forall_mem_cons.mpr ⟨gi1 236 rfl rfl, List.forall_mem_cons.mpr ⟨gi1 238 rfl rfl, List.forall_mem_cons.mpr ⟨gi2 0 rfl rfl, List.forall_mem_cons.mpr ⟨gi2 2 rfl rfl, List.forall_mem_cons.mpr ⟨gi2 4 rfl rfl, fun _ h => absurd h List.not_mem_nil⟩⟩⟩⟩⟩
theorem inG4 : ∀ w ∈ u_ws RX4 TX4 11, w ∈ gt := List.forall_mem_cons.mpr ⟨gi2 33 rfl rfl, List.forall_mem_cons.mpr ⟨gi2 35 rfl rfl, List.forall_mem_cons.mpr ⟨gi2 37 rfl rfl, List.forall_mem_cons.mpr ⟨gi2 39 rfl rfl, List.forall_mem_cons.mpr ⟨gi2 41 rfl rfl, List.forall_mem_cons.mpr ⟨gi2 43 rfl rfl, List.forall_mem_cons.mpr ⟨gi2 45 rfl rfl, List.forall_mem_cons.mpr ⟨gi2 47 rfl rfl, List.forall_mem_cons.mpr ⟨gi2 49 rfl rfl, List.forall_mem_cons.mpr ⟨gi2 51 rfl rfl, List.forall_mem_cons.mpr ⟨gi2 53 rfl rfl, fun _ h => absurd h List.not_mem_nil⟩⟩⟩⟩⟩⟩⟩⟩⟩⟩⟩
theorem inG7 : ∀ w ∈ u_ws RX7 TX7 13, w ∈ gt := List.forall_mem_cons.mpr ⟨gi2 79 rfl rfl, List.forall_mem_cons.mpr ⟨gi2 81 rfl rfl, List.forall_mem_cons.mpr ⟨gi2 83 rfl rfl, List.forall_mem_cons.mpr ⟨gi2 85 rfl rfl, List.forall_mem_cons.mpr ⟨gi2 87 rfl rfl, List.forall_mem_cons.mpr ⟨gi2 89 rfl rfl, List.forall_mem_cons.mpr ⟨gi2 91 rfl rfl, List.forall_mem_cons.mpr ⟨gi2 93 rfl rfl, List.forall_mem_cons.mpr ⟨gi2 95 rfl rfl, List.forall_mem_cons.mpr ⟨gi2 97 rfl rfl, List.forall_mem_cons.mpr ⟨gi2 99 rfl rfl, List.forall_mem_cons.mpr ⟨gi2 101 rfl rfl, List.forall_mem_cons.mpr ⟨gi2 103 rfl rfl, fun _ h => absurd h List.not_mem_nil⟩⟩⟩⟩⟩⟩⟩⟩⟩⟩⟩⟩⟩
theorem inG8 : ∀ w ∈ u_ws RX8 TX8 8, w ∈ gt := List.forall_mem_cons.mpr ⟨gi1 202 rfl rfl, List.forall_mem_cons.mpr ⟨gi1 204 rfl rfl, List.forall_mem_cons.mpr ⟨gi1 206 rfl rfl, List.forall_mem_cons.mpr ⟨gi1 208 rfl rfl, List.forall_mem_cons.mpr ⟨gi1 210 rfl rfl, List.forall_mem_cons.mpr ⟨gi1 212 rfl rfl, List.forall_mem_cons.mpr ⟨gi1 214 rfl rfl, List.forall_mem_cons.mpr ⟨gi1 216 rfl rfl, fun _ h => absurd h List.not_mem_nil⟩⟩⟩⟩⟩⟩⟩⟩
theorem inG9 : ∀ w ∈ u_ws RX9 TX9 3, w ∈ gt := List.forall_mem_cons.mpr ⟨gi2 202 rfl rfl, List.forall_mem_cons.mpr ⟨gi2 204 rfl rfl, List.forall_mem_cons.mpr ⟨gi2 206 rfl rfl, fun _ h => absurd h List.not_mem_nil⟩⟩⟩
theorem inG10 : ∀ w ∈ u_ws RX10 TX10 7, w ∈ gt := List.forall_mem_cons.mpr ⟨gi2 125 rfl rfl, List.forall_mem_cons.mpr ⟨gi2 127 rfl rfl, List.forall_mem_cons.mpr ⟨gi2 129 rfl rfl, List.forall_mem_cons.mpr ⟨gi2 131 rfl rfl, List.forall_mem_cons.mpr ⟨gi2 133 rfl rfl, List.forall_mem_cons.mpr ⟨gi2 135 rfl rfl, List.forall_mem_cons.mpr ⟨gi2 137 rfl rfl, fun _ h => absurd h List.not_mem_nil⟩⟩⟩⟩⟩⟩⟩
theorem inG11 : ∀ w ∈ u_ws RX11 TX11 12, w ∈ gt := List.forall_mem_cons.mpr ⟨gi3 2 rfl rfl, List.forall_mem_cons.mpr ⟨gi3 4 rfl rfl, List.forall_mem_cons.mpr ⟨gi3 6 rfl rfl, List.forall_mem_cons.mpr ⟨gi3 8 rfl rfl, List.forall_mem_cons.mpr ⟨gi3 10 rfl rfl, List.forall_mem_cons.mpr ⟨gi3 12 rfl rfl, List.forall_mem_cons.mpr ⟨gi3 14 rfl rfl, List.forall_mem_cons.mpr ⟨gi3 16 rfl rfl, List.forall_mem_cons.mpr ⟨gi3 18 rfl rfl, List.forall_mem_cons.mpr ⟨gi3 20 rfl rfl, List.forall_mem_cons.mpr ⟨gi3 22 rfl rfl, List.forall_mem_cons.mpr ⟨gi3 24 rfl rfl, fun _ h => absurd h List.not_mem_nil⟩⟩⟩⟩⟩⟩⟩⟩⟩⟩⟩⟩
theorem inG12 : ∀ w ∈ u_ws RX12 TX12 54, w ∈ gt := List.forall_mem_cons.mpr ⟨gi7 1 rfl rfl, List.forall_mem_cons.mpr ⟨gi7 3 rfl rfl, List.forall_mem_cons.mpr ⟨gi7 5 rfl rfl, List.forall_mem_cons.mpr ⟨gi7 7 rfl rfl, List.forall_mem_cons.mpr ⟨gi7 9 rfl rfl, List.forall_mem_cons.mpr ⟨gi7 11 rfl rfl, List.forall_mem_cons.mpr ⟨gi7 13 rfl rfl, List.forall_mem_cons.mpr ⟨gi7 15 rfl rfl, List.forall_mem_cons.mpr ⟨gi7 17 rfl rfl, List.forall_mem_cons.mpr ⟨gi7 19 rfl rfl, List.forall_mem_cons.mpr ⟨gi7 21 rfl rfl, List.forall_mem_cons.mpr ⟨gi7 23 rfl rfl, List.forall_mem_cons.mpr ⟨gi7 25 rfl rfl, List.forall_mem_cons.mpr ⟨gi7 27 rfl rfl, List.forall_mem_cons.mpr ⟨gi7 29 rfl rfl, List.forall_mem_cons.mpr ⟨gi7 31 rfl rfl, List.forall_mem_cons.mpr ⟨gi7 33 rfl rfl, List.forall_mem_cons.mpr ⟨gi7 35 rfl rfl, List.forall_mem_cons.mpr ⟨gi7 37 rfl rfl, List.forall_mem_cons.mpr ⟨gi7 39 rfl rfl, List.forall_mem_cons.mpr ⟨gi7 41 rfl rfl, List.forall_mem_cons.mpr ⟨gi7 43 rfl rfl, List.forall_mem_cons.mpr ⟨gi7 45 rfl rfl, List.forall_mem_cons.mpr ⟨gi7 47 rfl rfl, List.forall_mem_cons.mpr ⟨gi7 49 rfl rfl, List.forall_mem_cons.mpr ⟨gi7 51 rfl rfl, List.forall_mem_cons.mpr ⟨gi7 53 rfl rfl, List.forall_mem_cons.mpr ⟨gi7 55 rfl rfl, List.forall_mem_cons.mpr ⟨gi7 57 rfl rfl, List.forall_mem_cons.mpr ⟨gi7 59 rfl rfl, List.forall_mem_cons.mpr ⟨gi7 61 rfl rfl, List.forall_mem_cons.mpr ⟨gi7 63 rfl rfl, List.forall_mem_cons.mpr ⟨gi7 65 rfl rfl, List.forall_mem_cons.mpr ⟨gi7 67 rfl rfl, List.forall_mem_cons.mpr ⟨gi7 69 rfl rfl, List.forall_mem_cons.mpr ⟨gi7 71 rfl rfl, List.forall_mem_cons.mpr ⟨gi7 73 rfl rfl, List.forall_mem_cons.mpr ⟨gi7 75 rfl rfl, List.forall_mem_cons.mpr ⟨gi7 77 rfl rfl, List.forall_mem_cons.mpr ⟨gi7 79 rfl rfl, List.forall_mem_cons.mpr ⟨gi7 81 rfl rfl, List.forall_mem_cons.mpr ⟨gi7 83 rfl rfl, List.forall_mem_cons.mpr ⟨gi7 85 rfl rfl, List.forall_mem_cons.mpr ⟨gi7 87 rfl rfl, List.forall_mem_cons.mpr ⟨gi7 89 rfl rfl, List.forall_mem_cons.mpr ⟨gi7 91 rfl rfl, List.forall_mem_cons.mpr ⟨gi7 93 rfl rfl, List.forall_mem_cons.mpr ⟨gi7 95 rfl rfl, List.forall_mem_cons.mpr ⟨gi7 97 rfl rfl, List.forall_mem_cons.mpr ⟨gi7 99 rfl rfl, List.forall_mem_cons.mpr ⟨gi7 101 rfl rfl, List.forall_mem_cons.mpr ⟨gi7 103 rfl rfl, List.forall_mem_cons.mpr ⟨gi7 105 rfl rfl, List.forall_mem_cons.mpr ⟨gi7 107 rfl rfl, fun _ h => absurd h List.not_mem_nil⟩⟩⟩⟩⟩⟩⟩⟩⟩⟩⟩⟩⟩⟩⟩⟩⟩⟩⟩⟩⟩⟩⟩⟩⟩⟩⟩⟩⟩⟩⟩⟩⟩⟩⟩⟩⟩⟩⟩⟩⟩⟩⟩⟩⟩⟩⟩⟩⟩⟩⟩⟩⟩⟩
theorem inG0 : ∀ w ∈ u_ws RX0 TX0 12, w ∈ gt := List.forall_mem_cons.mpr ⟨gi2 161 rfl rfl, List.forall_mem_cons.mpr ⟨gi2 163 rfl rfl, List.forall_mem_cons.mpr ⟨gi2 165 rfl rfl, List.forall_mem_cons.mpr ⟨gi2 167 rfl rfl, List.forall_mem_cons.mpr ⟨gi2 169 rfl rfl, List.forall_mem_cons.mpr ⟨gi2 171 rfl rfl, List.forall_mem_cons.mpr ⟨gi2 173 rfl rfl, List.forall_mem_cons.mpr ⟨gi2 175 rfl rfl, List.forall_mem_cons.mpr ⟨gi2 177 rfl rfl, List.forall_mem_cons.mpr ⟨gi2 179 rfl rfl, List.forall_mem_cons.mpr ⟨gi2 181 rfl rfl, List.forall_mem_cons.mpr ⟨gi2 183 rfl rfl, fun _ h => absurd h List.not_mem_nil⟩⟩⟩⟩⟩⟩⟩⟩⟩⟩⟩⟩
theorem ok2 : oK 2 = 1 := by decide +kernel
theorem fl_X1_18 : FL RX1 18 1 6 RX1 TX1 7 := ⟨rfl, by decide, by decide, by decide, inG1, gi1 139 rfl rfl⟩
theorem ok5 : oK 5 = 20 := by decide +kernel
theorem on5 : oN 5 = 574 := by decide +kernel
theorem ot2_6 : oT 2 6 = 5 := by decide +kernel
theorem mm_X1_31 : Cond.methodLink RX1 31 Lib.Math.min.name ∈ gt := gi1 103 rfl rfl
theorem mw_min : Cond.static Lib.Math.min.name ∈ gt ∧ Cond.initialized "java/lang/Math" ∈ gt ∧ Cond.code Lib.Math.min.name Lib.Math.min.code 2 (some .int) ∈ gt := ⟨gi1 104 rfl rfl, gi1 4 rfl rfl, gi1 105 rfl rfl⟩
theorem fl_X1_21 : FL RX1 21 1 4 RX1 TX1 7 := ⟨rfl, by decide, by decide, by decide, inG1, gi1 137 rfl rfl⟩
theorem ok1 : oK 1 = 5 := by decide +kernel
theorem ot2_4 : oT 2 4 = 1 := by decide +kernel
theorem fl_X1_66 : FL RX1 66 5 1 RX5 TX5 9 := ⟨rfl, by decide, by decide, by decide, inG5, gi1 47 rfl rfl⟩
theorem fl_X1_60 : FL RX1 60 1 1 RX1 TX1 7 := ⟨rfl, by decide, by decide, by decide, inG1, gi1 132 rfl rfl⟩
theorem fl_X1_79 : FL RX1 79 6 1 RX6 TX6 2 := ⟨rfl, by decide, by decide, by decide, inG6, gi1 182 rfl rfl⟩
theorem fl_X1_84 : FL RX1 84 6 0 RX6 TX6 2 := ⟨rfl, by decide, by decide, by decide, inG6, gi1 174 rfl rfl⟩
theorem fl_X1_15 : FL RX1 15 1 5 RX1 TX1 7 := ⟨rfl, by decide, by decide, by decide, inG1, gi1 138 rfl rfl⟩
theorem ok4 : oK 4 = 20 := by decide +kernel
theorem on4 : oN 4 = 24 := by decide +kernel
theorem ot2_5 : oT 2 5 = 4 := by decide +kernel
theorem ok9 : oK 9 = 3 := by decide +kernel
theorem fl_X3_22 : FL RX3 22 3 0 RX3 TX3 5 := ⟨rfl, by decide, by decide, by decide, inG3, gi1 229 rfl rfl⟩
theorem fp_3_0 : FP 3 0 TX3 5 tyX3 .int := ⟨rfl, tyX3_ok, nmX3, by decide +kernel, by decide⟩
theorem fl_X3_26 : FL RX3 26 3 1 RX3 TX3 5 := ⟨rfl, by decide, by decide, by decide, inG3, gi1 231 rfl rfl⟩
theorem fp_3_1 : FP 3 1 TX3 5 tyX3 .int := ⟨rfl, tyX3_ok, nmX3, by decide +kernel, by decide⟩
theorem fl_X3_29 : FL RX3 29 3 2 RX3 TX3 5 := ⟨rfl, by decide, by decide, by decide, inG3, gi1 233 rfl rfl⟩
theorem fl_X3_9 : FL RX3 9 3 3 RX3 TX3 5 := ⟨rfl, by decide, by decide, by decide, inG3, gi1 234 rfl rfl⟩
theorem ok10 : oK 10 = 20 := by decide +kernel
theorem on10 : oN 10 = 40 := by decide +kernel
theorem ot9_3 : oT 9 3 = 10 := by decide +kernel
theorem im_X3_slot : Cond.instanceMethod yX3_slot ∈ gt := gi3 112 rfl rfl
theorem se_X3_slot : Cond.selects yX3_slot.cls yX3_slot yX3_slot ∈ gt := gs1 8 rfl
theorem ml_X3_32 : ML RX3 32 yX3_slot cX3_slot 3 (some .int) 1 := ⟨gi3 110 rfl rfl, gi3 113 rfl rfl, gi1 7 rfl rfl, by decide +kernel⟩
theorem ok12 : oK 12 = 4 := by decide +kernel
theorem fl_X4_33 : FL RX4 33 4 4 RX4 TX4 11 := ⟨rfl, by decide, by decide, by decide, inG4, gi2 26 rfl rfl⟩
theorem fl_X4_29 : FL RX4 29 4 5 RX4 TX4 11 := ⟨rfl, by decide, by decide, by decide, inG4, gi2 27 rfl rfl⟩
theorem ok14 : oK 14 = 20 := by decide +kernel
theorem on14 : oN 14 = 500 := by decide +kernel
theorem ot12_5 : oT 12 5 = 14 := by decide +kernel
theorem fp_4_4 : FP 4 4 TX4 11 tyX4 .int := ⟨rfl, tyX4_ok, nmX4, by decide +kernel, by decide⟩
theorem fl_X4_40 : FL RX4 40 4 2 RX4 TX4 11 := ⟨rfl, by decide, by decide, by decide, inG4, gi2 21 rfl rfl⟩
theorem fp_4_2 : FP 4 2 TX4 11 tyX4 .int := ⟨rfl, tyX4_ok, nmX4, by decide +kernel, by decide⟩
theorem fl_X4_73 : FL RX4 73 4 8 RX4 TX4 11 := ⟨rfl, by decide, by decide, by decide, inG4, gi2 30 rfl rfl⟩
theorem fl_X4_25 : FL RX4 25 4 3 RX4 TX4 11 := ⟨rfl, by decide, by decide, by decide, inG4, gi2 23 rfl rfl⟩
theorem fp_4_3 : FP 4 3 TX4 11 tyX4 .int := ⟨rfl, tyX4_ok, nmX4, by decide +kernel, by decide⟩
theorem fl_X4_52 : FL RX4 52 4 7 RX4 TX4 11 := ⟨rfl, by decide, by decide, by decide, inG4, gi2 29 rfl rfl⟩
theorem fl_X4_158 : FL RX4 158 4 10 RX4 TX4 11 := ⟨rfl, by decide, by decide, by decide, inG4, gi2 32 rfl rfl⟩
theorem im_X4_refuse : Cond.instanceMethod yX4_refuse ∈ gt := gi4 193 rfl rfl
theorem se_X4_refuse : Cond.selects yX4_refuse.cls yX4_refuse yX4_refuse ∈ gt := gs2 10 rfl
theorem ml_X4_120 : ML RX4 120 yX4_refuse cX4_refuse 2 none 1 := ⟨gi4 191 rfl rfl, gi4 194 rfl rfl, gi1 8 rfl rfl, by decide +kernel⟩
theorem fl_X5_18 : FL RX5 18 5 0 RX5 TX5 9 := ⟨rfl, by decide, by decide, by decide, inG5, gi1 42 rfl rfl⟩
theorem fp_5_0 : FP 5 0 TX5 9 tyX5 .int := ⟨rfl, tyX5_ok, nmX5, by decide +kernel, by decide⟩
theorem fl_X5_9 : FL RX5 9 5 1 RX5 TX5 9 := ⟨rfl, by decide, by decide, by decide, inG5, gi1 45 rfl rfl⟩
theorem fp_5_1 : FP 5 1 TX5 9 tyX5 .int := ⟨rfl, tyX5_ok, nmX5, by decide +kernel, by decide⟩
theorem fl_X5_21 : FL RX5 21 5 2 RX5 TX5 9 := ⟨rfl, by decide, by decide, by decide, inG5, gi1 51 rfl rfl⟩
theorem fp_5_2 : FP 5 2 TX5 9 tyX5 .int := ⟨rfl, tyX5_ok, nmX5, by decide +kernel, by decide⟩
theorem fl_X5_24 : FL RX5 24 5 3 RX5 TX5 9 := ⟨rfl, by decide, by decide, by decide, inG5, gi1 54 rfl rfl⟩
theorem fp_5_3 : FP 5 3 TX5 9 tyX5 .int := ⟨rfl, tyX5_ok, nmX5, by decide +kernel, by decide⟩
theorem fl_X5_15 : FL RX5 15 5 4 RX5 TX5 9 := ⟨rfl, by decide, by decide, by decide, inG5, gi1 58 rfl rfl⟩
theorem fp_5_4 : FP 5 4 TX5 9 tyX5 .int := ⟨rfl, tyX5_ok, nmX5, by decide +kernel, by decide⟩
theorem fl_X5_27 : FL RX5 27 5 5 RX5 TX5 9 := ⟨rfl, by decide, by decide, by decide, inG5, gi1 61 rfl rfl⟩
theorem fp_5_5 : FP 5 5 TX5 9 tyX5 .boolean := ⟨rfl, tyX5_ok, nmX5, by decide +kernel, by decide⟩
theorem fl_X5_31 : FL RX5 31 5 6 RX5 TX5 9 := ⟨rfl, by decide, by decide, by decide, inG5, gi1 64 rfl rfl⟩
theorem fp_5_6 : FP 5 6 TX5 9 tyX5 .boolean := ⟨rfl, tyX5_ok, nmX5, by decide +kernel, by decide⟩
theorem fl_X5_34 : FL RX5 34 5 7 RX5 TX5 9 := ⟨rfl, by decide, by decide, by decide, inG5, gi1 68 rfl rfl⟩
theorem fp_5_7 : FP 5 7 TX5 9 tyX5 .boolean := ⟨rfl, tyX5_ok, nmX5, by decide +kernel, by decide⟩
theorem fl_X5_37 : FL RX5 37 5 8 RX5 TX5 9 := ⟨rfl, by decide, by decide, by decide, inG5, gi1 71 rfl rfl⟩
theorem fp_5_8 : FP 5 8 TX5 9 tyX5 .boolean := ⟨rfl, tyX5_ok, nmX5, by decide +kernel, by decide⟩
theorem fl_X6_15 : FL RX6 15 6 1 RX6 TX6 2 := ⟨rfl, by decide, by decide, by decide, inG6, gi1 176 rfl rfl⟩
theorem fp_6_1 : FP 6 1 TX6 2 tyX6 .int := ⟨rfl, tyX6_ok, nmX6, by decide +kernel, by decide⟩
theorem fl_X6_9 : FL RX6 9 6 0 RX6 TX6 2 := ⟨rfl, by decide, by decide, by decide, inG6, gi1 169 rfl rfl⟩
theorem ac_X6_19 : Cond.methodLink RX6 19 arraycopyName ∈ gt := gi3 63 rfl rfl
theorem ac_w : Cond.native arraycopyName ∈ gt ∧ Cond.static arraycopyName ∈ gt ∧ Cond.initialized "java/lang/System" ∈ gt := ⟨gi3 65 rfl rfl, gi3 64 rfl rfl, gi1 23 rfl rfl⟩
theorem ok15 : oK 15 = 7 := by decide +kernel
theorem fl_X7_46 : FL RX7 46 7 3 RX7 TX7 13 := ⟨rfl, by decide, by decide, by decide, inG7, gi2 69 rfl rfl⟩
theorem ot15_3 : oT 15 3 = 2 := by decide +kernel
theorem fl_X7_83 : FL RX7 83 1 2 RX1 TX1 7 := ⟨rfl, by decide, by decide, by decide, inG1, gi1 134 rfl rfl⟩
theorem im_X7_halfOf : Cond.instanceMethod yX7_halfOf ∈ gt := gi3 184 rfl rfl
theorem se_X7_halfOf : Cond.selects yX7_halfOf.cls yX7_halfOf yX7_halfOf ∈ gt := gs1 9 rfl
theorem ml_X7_72 : ML RX7 72 yX7_halfOf cX7_halfOf 2 (some .int) 1 := ⟨gi3 182 rfl rfl, gi3 185 rfl rfl, gi1 9 rfl rfl, by decide +kernel⟩
theorem im_X1_positionsUpTo : Cond.instanceMethod yX1_positionsUpTo ∈ gt := gi3 174 rfl rfl
theorem se_X1_positionsUpTo : Cond.selects yX1_positionsUpTo.cls yX1_positionsUpTo yX1_positionsUpTo ∈ gt := gi3 175 rfl rfl
theorem ml_X7_54 : ML RX7 54 yX1_positionsUpTo cX1_positionsUpTo 2 (some .int) 1 := ⟨gi3 173 rfl rfl, gi3 176 rfl rfl, gi1 3 rfl rfl, by decide +kernel⟩
theorem fl_X7_87 : FL RX7 87 6 1 RX6 TX6 2 := ⟨rfl, by decide, by decide, by decide, inG6, gi1 177 rfl rfl⟩
theorem im_X1_numberOf : Cond.instanceMethod yX1_numberOf ∈ gt := gi3 162 rfl rfl
theorem se_X1_numberOf : Cond.selects yX1_numberOf.cls yX1_numberOf yX1_numberOf ∈ gt := gi3 163 rfl rfl
theorem ml_X7_90 : ML RX7 90 yX1_numberOf cX1_numberOf 7 (some .int) 2 := ⟨gi3 213 rfl rfl, gi3 164 rfl rfl, gi1 3 rfl rfl, by decide +kernel⟩
theorem im_X7_indexOf : Cond.instanceMethod yX7_indexOf ∈ gt := gi3 191 rfl rfl
theorem se_X7_indexOf : Cond.selects yX7_indexOf.cls yX7_indexOf yX7_indexOf ∈ gt := gi3 192 rfl rfl
theorem ml_X7_94 : ML RX7 94 yX7_indexOf cX7_indexOf 4 (some .int) 3 := ⟨gi3 190 rfl rfl, gi3 193 rfl rfl, gi1 9 rfl rfl, by decide +kernel⟩
theorem fl_X7_50 : FL RX7 50 7 4 RX7 TX7 13 := ⟨rfl, by decide, by decide, by decide, inG7, gi2 70 rfl rfl⟩
theorem ok6 : oK 6 = 8 := by decide +kernel
theorem ot15_4 : oT 15 4 = 6 := by decide +kernel
theorem fl_X7_130 : FL RX7 130 8 5 RX8 TX8 8 := ⟨rfl, by decide, by decide, by decide, inG8, gi1 199 rfl rfl⟩
theorem ok8 : oK 8 = 20 := by decide +kernel
theorem on8 : oN 8 = 6 := by decide +kernel
theorem ot6_5 : oT 6 5 = 8 := by decide +kernel
theorem fl_X7_133 : FL RX7 133 8 4 RX8 TX8 8 := ⟨rfl, by decide, by decide, by decide, inG8, gi1 197 rfl rfl⟩
theorem ok7 : oK 7 = 23 := by decide +kernel
theorem on7 : oN 7 = 6 := by decide +kernel
theorem ot6_4 : oT 6 4 = 7 := by decide +kernel
theorem im_X7_indexAt : Cond.instanceMethod yX7_indexAt ∈ gt := gi3 211 rfl rfl
theorem se_X7_indexAt : Cond.selects yX7_indexAt.cls yX7_indexAt yX7_indexAt ∈ gt := gs1 12 rfl
theorem ml_X7_137 : ML RX7 137 yX7_indexAt cX7_indexAt 3 (some .int) 2 := ⟨gi3 209 rfl rfl, gi3 212 rfl rfl, gi1 9 rfl rfl, by decide +kernel⟩
theorem fl_X7_39 : FL RX7 39 7 12 RX7 TX7 13 := ⟨rfl, by decide, by decide, by decide, inG7, gi2 78 rfl rfl⟩
theorem ok21 : oK 21 = 20 := by decide +kernel
theorem on21 : oN 21 = 36036 := by decide +kernel
theorem ot15_12 : oT 15 12 = 21 := by decide +kernel
theorem fl_X7_35 : FL RX7 35 7 11 RX7 TX7 13 := ⟨rfl, by decide, by decide, by decide, inG7, gi2 77 rfl rfl⟩
theorem ok20 : oK 20 = 20 := by decide +kernel
theorem on20 : oN 20 = 6006 := by decide +kernel
theorem ot15_11 : oT 15 11 = 20 := by decide +kernel
theorem fl_X7_21 : FL RX7 21 7 5 RX7 TX7 13 := ⟨rfl, by decide, by decide, by decide, inG7, gi2 71 rfl rfl⟩
theorem ok151 : oK 151 = 6 := by decide +kernel
theorem ot15_5 : oT 15 5 = 151 := by decide +kernel
theorem fl_X7_9 : FL RX7 9 7 0 RX7 TX7 13 := ⟨rfl, by decide, by decide, by decide, inG7, gi2 65 rfl rfl⟩
theorem ok16 : oK 16 = 20 := by decide +kernel
theorem on16 : oN 16 = 12000 := by decide +kernel
theorem ot15_0 : oT 15 0 = 16 := by decide +kernel
theorem fl_X7_29 : FL RX7 29 7 9 RX7 TX7 13 := ⟨rfl, by decide, by decide, by decide, inG7, gi2 75 rfl rfl⟩
theorem ok18 : oK 18 = 20 := by decide +kernel
theorem on18 : oN 18 = 6006 := by decide +kernel
theorem ot15_9 : oT 15 9 = 18 := by decide +kernel
theorem mm_X7_140 : Cond.methodLink RX7 140 Lib.Math.max.name ∈ gt := gi3 214 rfl rfl
theorem mw_max : Cond.static Lib.Math.max.name ∈ gt ∧ Cond.initialized "java/lang/Math" ∈ gt ∧ Cond.code Lib.Math.max.name Lib.Math.max.code 2 (some .int) ∈ gt := ⟨gi3 215 rfl rfl, gi1 4 rfl rfl, gi3 216 rfl rfl⟩
theorem im_X1_positionsOf : Cond.instanceMethod yX1_positionsOf ∈ gt := gi3 158 rfl rfl
theorem se_X1_positionsOf : Cond.selects yX1_positionsOf.cls yX1_positionsOf yX1_positionsOf ∈ gt := gi3 159 rfl rfl
theorem ml_X7_69 : ML RX7 69 yX1_positionsOf cX1_positionsOf 2 (some .int) 1 := ⟨gi3 181 rfl rfl, gi3 160 rfl rfl, gi1 3 rfl rfl, by decide +kernel⟩
theorem fl_X7_32 : FL RX7 32 7 10 RX7 TX7 13 := ⟨rfl, by decide, by decide, by decide, inG7, gi2 76 rfl rfl⟩
theorem ok19 : oK 19 = 20 := by decide +kernel
theorem on19 : oN 19 = 6006 := by decide +kernel
theorem ot15_10 : oT 15 10 = 19 := by decide +kernel
theorem fl_X7_15 : FL RX7 15 7 1 RX7 TX7 13 := ⟨rfl, by decide, by decide, by decide, inG7, gi2 67 rfl rfl⟩
theorem ok17 : oK 17 = 20 := by decide +kernel
theorem on17 : oN 17 = 12000 := by decide +kernel
theorem ot15_1 : oT 15 1 = 17 := by decide +kernel
theorem im_X6_inPits : Cond.instanceMethod yX6_inPits ∈ gt := gi3 154 rfl rfl
theorem se_X6_inPits : Cond.selects yX6_inPits.cls yX6_inPits yX6_inPits ∈ gt := gi3 155 rfl rfl
theorem ml_X7_145 : ML RX7 145 yX6_inPits cX6_inPits 3 (some .int) 0 := ⟨gi3 233 rfl rfl, gi3 156 rfl rfl, gi1 6 rfl rfl, by decide +kernel⟩
theorem im_X7_rankOf : Cond.instanceMethod yX7_rankOf ∈ gt := gi4 4 rfl rfl
theorem se_X7_rankOf : Cond.selects yX7_rankOf.cls yX7_rankOf yX7_rankOf ∈ gt := gs2 0 rfl
theorem ml_X7_148 : ML RX7 148 yX7_rankOf cX7_rankOf 2 (some .int) 1 := ⟨gi4 2 rfl rfl, gi4 5 rfl rfl, gi1 9 rfl rfl, by decide +kernel⟩
theorem fl_X7_151 : FL RX7 151 7 8 RX7 TX7 13 := ⟨rfl, by decide, by decide, by decide, inG7, gi2 74 rfl rfl⟩
theorem fp_7_8 : FP 7 8 TX7 13 tyX7 .int := ⟨rfl, tyX7_ok, nmX7, by decide +kernel, by decide⟩
theorem fl_X8_30 : FL RX8 30 6 1 RX6 TX6 2 := ⟨rfl, by decide, by decide, by decide, inG6, gi1 175 rfl rfl⟩
theorem fl_X8_21 : FL RX8 21 8 6 RX8 TX8 8 := ⟨rfl, by decide, by decide, by decide, inG8, gi1 200 rfl rfl⟩
theorem ot6_6 : oT 6 6 = 1 := by decide +kernel
theorem fl_X8_34 : FL RX8 34 5 1 RX5 TX5 9 := ⟨rfl, by decide, by decide, by decide, inG5, gi1 46 rfl rfl⟩
theorem im_X5_isLacking : Cond.instanceMethod yX5_isLacking ∈ gt := gi1 123 rfl rfl
theorem se_X5_isLacking : Cond.selects yX5_isLacking.cls yX5_isLacking yX5_isLacking ∈ gt := gi1 124 rfl rfl
theorem ml_X8_39 : ML RX8 39 yX5_isLacking cX5_isLacking 2 (some .boolean) 1 := ⟨gi3 78 rfl rfl, gi1 125 rfl rfl, gi1 2 rfl rfl, by decide +kernel⟩
theorem fl_X8_43 : FL RX8 43 6 0 RX6 TX6 2 := ⟨rfl, by decide, by decide, by decide, inG6, gi1 170 rfl rfl⟩
theorem fl_X8_25 : FL RX8 25 8 7 RX8 TX8 8 := ⟨rfl, by decide, by decide, by decide, inG8, gi1 201 rfl rfl⟩
theorem ot6_7 : oT 6 7 = 2 := by decide +kernel
theorem fl_X8_53 : FL RX8 53 1 0 RX1 TX1 7 := ⟨rfl, by decide, by decide, by decide, inG1, gi1 131 rfl rfl⟩
theorem ok3 : oK 3 = 20 := by decide +kernel
theorem on3 : oN 3 = 28 := by decide +kernel
theorem ot2_0 : oT 2 0 = 3 := by decide +kernel
theorem fl_X8_49 : FL RX8 49 5 6 RX5 TX5 9 := ⟨rfl, by decide, by decide, by decide, inG5, gi1 65 rfl rfl⟩
theorem fl_X8_62 : FL RX8 62 8 0 RX8 TX8 8 := ⟨rfl, by decide, by decide, by decide, inG8, gi1 188 rfl rfl⟩
theorem fl_X8_88 : FL RX8 88 5 4 RX5 TX5 9 := ⟨rfl, by decide, by decide, by decide, inG5, gi1 59 rfl rfl⟩
theorem im_X6_inRow : Cond.instanceMethod yX6_inRow ∈ gt := gi3 88 rfl rfl
theorem se_X6_inRow : Cond.selects yX6_inRow.cls yX6_inRow yX6_inRow ∈ gt := gi3 89 rfl rfl
theorem ml_X8_91 : ML RX8 91 yX6_inRow cX6_inRow 5 (some .int) 2 := ⟨gi3 87 rfl rfl, gi3 90 rfl rfl, gi1 6 rfl rfl, by decide +kernel⟩
theorem fl_X9_15 : FL RX9 15 9 1 RX9 TX9 3 := ⟨rfl, by decide, by decide, by decide, inG9, gi2 198 rfl rfl⟩
theorem fp_9_1 : FP 9 1 TX9 3 tyX9 .int := ⟨rfl, tyX9_ok, nmX9, by decide +kernel, by decide⟩
theorem fl_X9_19 : FL RX9 19 9 2 RX9 TX9 3 := ⟨rfl, by decide, by decide, by decide, inG9, gi2 200 rfl rfl⟩
theorem fp_9_2 : FP 9 2 TX9 3 tyX9 .int := ⟨rfl, tyX9_ok, nmX9, by decide +kernel, by decide⟩
theorem fl_X9_9 : FL RX9 9 9 0 RX9 TX9 3 := ⟨rfl, by decide, by decide, by decide, inG9, gi2 196 rfl rfl⟩
theorem ok22 : oK 22 = 10 := by decide +kernel
theorem fl_X10_12 : FL RX10 12 10 0 RX10 TX10 7 := ⟨rfl, by decide, by decide, by decide, inG10, gi2 114 rfl rfl⟩
theorem ok153 : oK 153 = 6 := by decide +kernel
theorem ot22_0 : oT 22 0 = 153 := by decide +kernel
theorem im_X6_copy : Cond.instanceMethod yX6_copy ∈ gt := gi3 60 rfl rfl
theorem se_X6_copy : Cond.selects yX6_copy.cls yX6_copy yX6_copy ∈ gt := gi3 61 rfl rfl
theorem ml_X10_33 : ML RX10 33 yX6_copy cX6_copy 2 none 1 := ⟨gi4 71 rfl rfl, gi3 62 rfl rfl, gi1 6 rfl rfl, by decide +kernel⟩
theorem fl_X10_37 : FL RX10 37 10 2 RX10 TX10 7 := ⟨rfl, by decide, by decide, by decide, inG10, gi2 118 rfl rfl⟩
theorem fp_10_2 : FP 10 2 TX10 7 tyX10 .int := ⟨rfl, tyX10_ok, nmX10, by decide +kernel, by decide⟩
theorem fl_X10_41 : FL RX10 41 10 3 RX10 TX10 7 := ⟨rfl, by decide, by decide, by decide, inG10, gi2 120 rfl rfl⟩
theorem fp_10_3 : FP 10 3 TX10 7 tyX10 .boolean := ⟨rfl, tyX10_ok, nmX10, by decide +kernel, by decide⟩
theorem fl_X10_22 : FL RX10 22 10 6 RX10 TX10 7 := ⟨rfl, by decide, by decide, by decide, inG10, gi2 124 rfl rfl⟩
theorem ok24 : oK 24 = 20 := by decide +kernel
theorem on24 : oN 24 = 61 := by decide +kernel
theorem ot22_6 : oT 22 6 = 24 := by decide +kernel
theorem ok0 : oK 0 = 11 := by decide +kernel
theorem fl_X11_54 : FL RX11 54 11 6 RX11 TX11 12 := ⟨rfl, by decide, by decide, by decide, inG11, gi2 236 rfl rfl⟩
theorem ot0_6 : oT 0 6 = 12 := by decide +kernel
theorem fl_X11_99 : FL RX11 99 4 4 RX4 TX4 11 := ⟨rfl, by decide, by decide, by decide, inG4, gi2 25 rfl rfl⟩
theorem im_X4_append : Cond.instanceMethod yX4_append ∈ gt := gi3 32 rfl rfl
theorem se_X4_append : Cond.selects yX4_append.cls yX4_append yX4_append ∈ gt := gi3 33 rfl rfl
theorem ml_X11_103 : ML RX11 103 yX4_append cX4_append 3 none 1 := ⟨gi3 31 rfl rfl, gi3 34 rfl rfl, gi1 8 rfl rfl, by decide +kernel⟩
theorem fl_X11_117 : FL RX11 117 4 2 RX4 TX4 11 := ⟨rfl, by decide, by decide, by decide, inG4, gi2 22 rfl rfl⟩
theorem fl_X11_131 : FL RX11 131 4 3 RX4 TX4 11 := ⟨rfl, by decide, by decide, by decide, inG4, gi2 24 rfl rfl⟩
theorem fl_X11_37 : FL RX11 37 11 3 RX11 TX11 12 := ⟨rfl, by decide, by decide, by decide, inG11, gi2 233 rfl rfl⟩
theorem ok53 : oK 53 = 6 := by decide +kernel
theorem ot0_3 : oT 0 3 = 53 := by decide +kernel
theorem fl_X11_153 : FL RX11 153 6 1 RX6 TX6 2 := ⟨rfl, by decide, by decide, by decide, inG6, gi1 179 rfl rfl⟩
theorem ml_X11_236 : ML RX11 236 yX6_inPits cX6_inPits 3 (some .int) 0 := ⟨gi3 153 rfl rfl, gi3 156 rfl rfl, gi1 6 rfl rfl, by decide +kernel⟩
theorem fl_X11_21 : FL RX11 21 11 1 RX11 TX11 12 := ⟨rfl, by decide, by decide, by decide, inG11, gi2 231 rfl rfl⟩
theorem ot0_1 : oT 0 1 = 2 := by decide +kernel
theorem ml_X11_232 : ML RX11 232 yX1_positionsOf cX1_positionsOf 2 (some .int) 1 := ⟨gi3 157 rfl rfl, gi3 160 rfl rfl, gi1 3 rfl rfl, by decide +kernel⟩
theorem ml_X11_239 : ML RX11 239 yX1_numberOf cX1_numberOf 7 (some .int) 2 := ⟨gi3 161 rfl rfl, gi3 164 rfl rfl, gi1 3 rfl rfl, by decide +kernel⟩
theorem fl_X11_12 : FL RX11 12 11 0 RX11 TX11 12 := ⟨rfl, by decide, by decide, by decide, inG11, gi2 230 rfl rfl⟩
theorem ot0_0 : oT 0 0 = 1 := by decide +kernel
theorem ml_X11_411 : ML RX11 411 yX5_isLacking cX5_isLacking 2 (some .boolean) 1 := ⟨gi5 105 rfl rfl, gi1 125 rfl rfl, gi1 2 rfl rfl, by decide +kernel⟩
theorem fl_X11_149 : FL RX11 149 6 0 RX6 TX6 2 := ⟨rfl, by decide, by decide, by decide, inG6, gi1 172 rfl rfl⟩
theorem ok171 : oK 171 = 12 := by decide +kernel
theorem fl_X12_107 : FL RX12 107 12 5 RX12 TX12 54 := ⟨rfl, by decide, by decide, by decide, inG12, gi6 192 rfl rfl⟩
theorem fp_12_5 : FP 12 5 TX12 54 tyX12 .int := ⟨rfl, tyX12_ok, nmX12, by decide +kernel, by decide⟩
theorem fl_X12_110 : FL RX12 110 12 7 RX12 TX12 54 := ⟨rfl, by decide, by decide, by decide, inG12, gi6 194 rfl rfl⟩
theorem fl_X12_26 : FL RX12 26 12 6 RX12 TX12 54 := ⟨rfl, by decide, by decide, by decide, inG12, gi6 193 rfl rfl⟩
theorem ok177 : oK 177 = 20 := by decide +kernel
theorem on177 : oN 177 = 500 := by decide +kernel
theorem ot171_6 : oT 171 6 = 177 := by decide +kernel
theorem fp_12_7 : FP 12 7 TX12 54 tyX12 .int := ⟨rfl, tyX12_ok, nmX12, by decide +kernel, by decide⟩
theorem fl_X12_113 : FL RX12 113 12 8 RX12 TX12 54 := ⟨rfl, by decide, by decide, by decide, inG12, gi6 195 rfl rfl⟩
theorem fl_X12_116 : FL RX12 116 12 9 RX12 TX12 54 := ⟨rfl, by decide, by decide, by decide, inG12, gi6 196 rfl rfl⟩
theorem fl_X12_119 : FL RX12 119 12 10 RX12 TX12 54 := ⟨rfl, by decide, by decide, by decide, inG12, gi6 197 rfl rfl⟩
theorem fp_12_10 : FP 12 10 TX12 54 tyX12 .int := ⟨rfl, tyX12_ok, nmX12, by decide +kernel, by decide⟩
theorem ml_X12_125 : ML RX12 125 yX12_isLetter cX12_isLetter 1 (some .boolean) 1 := ⟨gi7 134 rfl rfl, gi7 136 rfl rfl, gi1 14 rfl rfl, by decide +kernel⟩
theorem st_X12_isLetter : Cond.static yX12_isLetter ∈ gt := gi7 135 rfl rfl
theorem ml_X12_133 : ML RX12 133 yX12_isDigit cX12_isDigit 1 (some .boolean) 1 := ⟨gi7 141 rfl rfl, gi7 143 rfl rfl, gi1 14 rfl rfl, by decide +kernel⟩
theorem st_X12_isDigit : Cond.static yX12_isDigit ∈ gt := gi7 142 rfl rfl
theorem fl_X12_122 : FL RX12 122 12 11 RX12 TX12 54 := ⟨rfl, by decide, by decide, by decide, inG12, gi6 198 rfl rfl⟩
theorem fp_12_11 : FP 12 11 TX12 54 tyX12 .int := ⟨rfl, tyX12_ok, nmX12, by decide +kernel, by decide⟩
theorem fp_12_9 : FP 12 9 TX12 54 tyX12 .int := ⟨rfl, tyX12_ok, nmX12, by decide +kernel, by decide⟩
theorem fl_X12_136 : FL RX12 136 12 12 RX12 TX12 54 := ⟨rfl, by decide, by decide, by decide, inG12, gi6 199 rfl rfl⟩
theorem fp_12_12 : FP 12 12 TX12 54 tyX12 .int := ⟨rfl, tyX12_ok, nmX12, by decide +kernel, by decide⟩
theorem im_X12_see : Cond.instanceMethod yX12_see ∈ gt := gi7 139 rfl rfl
theorem se_X12_see : Cond.selects yX12_see.cls yX12_see yX12_see ∈ gt := gs4 5 rfl
theorem ml_X12_129 : ML RX12 129 yX12_see cX12_see 2 (some .int) 1 := ⟨gi7 137 rfl rfl, gi7 140 rfl rfl, gi1 14 rfl rfl, by decide +kernel⟩
theorem fl_X12_139 : FL RX12 139 12 13 RX12 TX12 54 := ⟨rfl, by decide, by decide, by decide, inG12, gi6 200 rfl rfl⟩
theorem fp_12_13 : FP 12 13 TX12 54 tyX12 .int := ⟨rfl, tyX12_ok, nmX12, by decide +kernel, by decide⟩
theorem fl_X12_142 : FL RX12 142 12 14 RX12 TX12 54 := ⟨rfl, by decide, by decide, by decide, inG12, gi6 201 rfl rfl⟩
theorem fp_12_14 : FP 12 14 TX12 54 tyX12 .int := ⟨rfl, tyX12_ok, nmX12, by decide +kernel, by decide⟩
theorem ml_X12_166 : ML RX12 166 yX12_within cX12_within 6 (some .boolean) 3 := ⟨gi7 123 rfl rfl, gi7 125 rfl rfl, gi1 14 rfl rfl, by decide +kernel⟩
theorem st_X12_within : Cond.static yX12_within ∈ gt := gi7 124 rfl rfl
theorem im_X12_reads : Cond.instanceMethod yX12_reads ∈ gt := gi7 132 rfl rfl
theorem se_X12_reads : Cond.selects yX12_reads.cls yX12_reads yX12_reads ∈ gt := gs4 4 rfl
theorem ml_X12_159 : ML RX12 159 yX12_reads cX12_reads 2 none 0 := ⟨gi7 130 rfl rfl, gi7 133 rfl rfl, gi1 14 rfl rfl, by decide +kernel⟩
theorem im_X12_blames : Cond.instanceMethod yX12_blames ∈ gt := gi7 165 rfl rfl
theorem se_X12_blames : Cond.selects yX12_blames.cls yX12_blames yX12_blames ∈ gt := gs4 10 rfl
theorem ml_X12_162 : ML RX12 162 yX12_blames cX12_blames 2 none 1 := ⟨gi7 163 rfl rfl, gi7 166 rfl rfl, gi1 14 rfl rfl, by decide +kernel⟩
theorem fl_X12_13 : FL RX12 13 12 1 RX12 TX12 54 := ⟨rfl, by decide, by decide, by decide, inG12, gi6 188 rfl rfl⟩
theorem ok173 : oK 173 = 20 := by decide +kernel
theorem on173 : oN 173 = 25 := by decide +kernel
theorem ot171_1 : oT 171 1 = 173 := by decide +kernel
theorem im_X12_number : Cond.instanceMethod yX12_number ∈ gt := gi7 161 rfl rfl
theorem se_X12_number : Cond.selects yX12_number.cls yX12_number yX12_number ∈ gt := gs4 9 rfl
theorem ml_X12_172 : ML RX12 172 yX12_number cX12_number 4 (some .int) 2 := ⟨gi7 159 rfl rfl, gi7 162 rfl rfl, gi1 14 rfl rfl, by decide +kernel⟩
theorem cl_X12_170 : Cond.constantLong RX12 170 (20) ∈ gt := gi7 172 rfl rfl
theorem fl_X12_29 : FL RX12 29 12 16 RX12 TX12 54 := ⟨rfl, by decide, by decide, by decide, inG12, gi6 203 rfl rfl⟩
theorem fl_X12_232 : FL RX12 232 12 15 RX12 TX12 54 := ⟨rfl, by decide, by decide, by decide, inG12, gi6 202 rfl rfl⟩
theorem fl_X12_9 : FL RX12 9 12 0 RX12 TX12 54 := ⟨rfl, by decide, by decide, by decide, inG12, gi6 187 rfl rfl⟩
theorem ok172 : oK 172 = 20 := by decide +kernel
theorem on172 : oN 172 = 25 := by decide +kernel
theorem ot171_0 : oT 171 0 = 172 := by decide +kernel
theorem im_X12_pitMany : Cond.instanceMethod yX12_pitMany ∈ gt := gi7 219 rfl rfl
theorem se_X12_pitMany : Cond.selects yX12_pitMany.cls yX12_pitMany yX12_pitMany ∈ gt := gs5 1 rfl
theorem ml_X12_245 : ML RX12 245 yX12_pitMany cX12_pitMany 1 (some .int) 0 := ⟨gi7 217 rfl rfl, gi7 220 rfl rfl, gi1 14 rfl rfl, by decide +kernel⟩
theorem im_X12_isPit : Cond.instanceMethod yX12_isPit ∈ gt := gi7 215 rfl rfl
theorem se_X12_isPit : Cond.selects yX12_isPit.cls yX12_isPit yX12_isPit ∈ gt := gs5 0 rfl
theorem ml_X12_248 : ML RX12 248 yX12_isPit cX12_isPit 2 (some .boolean) 1 := ⟨gi7 213 rfl rfl, gi7 216 rfl rfl, gi1 14 rfl rfl, by decide +kernel⟩
theorem im_X12_isLacking : Cond.instanceMethod yX12_isLacking ∈ gt := gi7 223 rfl rfl
theorem se_X12_isLacking : Cond.selects yX12_isLacking.cls yX12_isLacking yX12_isLacking ∈ gt := gs5 2 rfl
theorem ml_X12_251 : ML RX12 251 yX12_isLacking cX12_isLacking 2 (some .boolean) 1 := ⟨gi7 221 rfl rfl, gi7 224 rfl rfl, gi1 14 rfl rfl, by decide +kernel⟩
theorem im_X12_fails : Cond.instanceMethod yX12_fails ∈ gt := gi7 128 rfl rfl
theorem se_X12_fails : Cond.selects yX12_fails.cls yX12_fails yX12_fails ∈ gt := gs4 3 rfl
theorem ml_X12_221 : ML RX12 221 yX12_fails cX12_fails 2 (some .int) 1 := ⟨gi7 126 rfl rfl, gi7 129 rfl rfl, gi1 14 rfl rfl, by decide +kernel⟩
theorem ml_X12_254 : ML RX12 254 yX12_isSide cX12_isSide 1 (some .boolean) 1 := ⟨gi7 229 rfl rfl, gi7 231 rfl rfl, gi1 14 rfl rfl, by decide +kernel⟩
theorem st_X12_isSide : Cond.static yX12_isSide ∈ gt := gi7 230 rfl rfl
theorem fl_X12_33 : FL RX12 33 12 17 RX12 TX12 54 := ⟨rfl, by decide, by decide, by decide, inG12, gi6 204 rfl rfl⟩
theorem ok178 : oK 178 = 20 := by decide +kernel
theorem on178 : oN 178 = 12 := by decide +kernel
theorem ot171_17 : oT 171 17 = 178 := by decide +kernel
theorem im_X12_sideOf : Cond.instanceMethod yX12_sideOf ∈ gt := gi8 14 rfl rfl
theorem se_X12_sideOf : Cond.selects yX12_sideOf.cls yX12_sideOf yX12_sideOf ∈ gt := gs5 6 rfl
theorem ml_X12_257 : ML RX12 257 yX12_sideOf cX12_sideOf 2 (some .int) 1 := ⟨gi8 12 rfl rfl, gi8 15 rfl rfl, gi1 14 rfl rfl, by decide +kernel⟩
theorem fl_X12_239 : FL RX12 239 12 28 RX12 TX12 54 := ⟨rfl, by decide, by decide, by decide, inG12, gi6 215 rfl rfl⟩
theorem fl_X12_36 : FL RX12 36 12 24 RX12 TX12 54 := ⟨rfl, by decide, by decide, by decide, inG12, gi6 211 rfl rfl⟩
theorem ok179 : oK 179 = 20 := by decide +kernel
theorem on179 : oN 179 = 1000 := by decide +kernel
theorem ot171_24 : oT 171 24 = 179 := by decide +kernel
theorem ml_X12_319 : ML RX12 319 yX12_puts cX12_puts 4 none 3 := ⟨gi8 77 rfl rfl, gi8 79 rfl rfl, gi1 14 rfl rfl, by decide +kernel⟩
theorem st_X12_puts : Cond.static yX12_puts ∈ gt := gi8 78 rfl rfl
theorem fl_X12_39 : FL RX12 39 12 25 RX12 TX12 54 := ⟨rfl, by decide, by decide, by decide, inG12, gi6 212 rfl rfl⟩
theorem ok180 : oK 180 = 20 := by decide +kernel
theorem on180 : oN 180 = 40 := by decide +kernel
theorem ot171_25 : oT 171 25 = 180 := by decide +kernel
theorem fp_12_28 : FP 12 28 TX12 54 tyX12 .int := ⟨rfl, tyX12_ok, nmX12, by decide +kernel, by decide⟩
theorem fl_X12_42 : FL RX12 42 12 26 RX12 TX12 54 := ⟨rfl, by decide, by decide, by decide, inG12, gi6 213 rfl rfl⟩
theorem ok181 : oK 181 = 20 := by decide +kernel
theorem on181 : oN 181 = 1000 := by decide +kernel
theorem ot171_26 : oT 171 26 = 181 := by decide +kernel
theorem fl_X12_242 : FL RX12 242 12 29 RX12 TX12 54 := ⟨rfl, by decide, by decide, by decide, inG12, gi6 216 rfl rfl⟩
theorem fl_X12_45 : FL RX12 45 12 27 RX12 TX12 54 := ⟨rfl, by decide, by decide, by decide, inG12, gi6 214 rfl rfl⟩
theorem ok182 : oK 182 = 20 := by decide +kernel
theorem on182 : oN 182 = 40 := by decide +kernel
theorem ot171_27 : oT 171 27 = 182 := by decide +kernel
theorem fp_12_29 : FP 12 29 TX12 54 tyX12 .int := ⟨rfl, tyX12_ok, nmX12, by decide +kernel, by decide⟩
theorem ml_X12_332 : ML RX12 332 yX12_gets cX12_gets 4 none 3 := ⟨gi8 88 rfl rfl, gi8 90 rfl rfl, gi1 14 rfl rfl, by decide +kernel⟩
theorem st_X12_gets : Cond.static yX12_gets ∈ gt := gi8 89 rfl rfl
theorem im_X12_keeps : Cond.instanceMethod yX12_keeps ∈ gt := gi8 75 rfl rfl
theorem se_X12_keeps : Cond.selects yX12_keeps.cls yX12_keeps yX12_keeps ∈ gt := gs6 1 rfl
theorem ml_X12_323 : ML RX12 323 yX12_keeps cX12_keeps 3 none 1 := ⟨gi8 73 rfl rfl, gi8 76 rfl rfl, gi1 14 rfl rfl, by decide +kernel⟩
theorem fl_X12_347 : FL RX12 347 12 31 RX12 TX12 54 := ⟨rfl, by decide, by decide, by decide, inG12, gi6 218 rfl rfl⟩
theorem fp_12_31 : FP 12 31 TX12 54 tyX12 .int := ⟨rfl, tyX12_ok, nmX12, by decide +kernel, by decide⟩
theorem fl_X12_48 : FL RX12 48 12 30 RX12 TX12 54 := ⟨rfl, by decide, by decide, by decide, inG12, gi6 217 rfl rfl⟩
theorem ok183 : oK 183 = 20 := by decide +kernel
theorem on183 : oN 183 = 12 := by decide +kernel
theorem ot171_30 : oT 171 30 = 183 := by decide +kernel
theorem im_X12_sees : Cond.instanceMethod yX12_sees ∈ gt := gi8 126 rfl rfl
theorem se_X12_sees : Cond.selects yX12_sees.cls yX12_sees yX12_sees ∈ gt := gs6 6 rfl
theorem ml_X12_350 : ML RX12 350 yX12_sees cX12_sees 4 none 1 := ⟨gi8 124 rfl rfl, gi8 127 rfl rfl, gi1 14 rfl rfl, by decide +kernel⟩
theorem ml_X12_353 : ML RX12 353 yX12_ways cX12_ways 5 (some .long) 2 := ⟨gi8 128 rfl rfl, gi8 130 rfl rfl, gi1 14 rfl rfl, by decide +kernel⟩
theorem st_X12_ways : Cond.static yX12_ways ∈ gt := gi8 129 rfl rfl
theorem cl_X12_357 : Cond.constantLong RX12 357 (40) ∈ gt := gi8 119 rfl rfl
theorem im_X12_positionsOf : Cond.instanceMethod yX12_positionsOf ∈ gt := gi8 122 rfl rfl
theorem se_X12_positionsOf : Cond.selects yX12_positionsOf.cls yX12_positionsOf yX12_positionsOf ∈ gt := gs6 5 rfl
theorem ml_X12_359 : ML RX12 359 yX12_positionsOf cX12_positionsOf 2 (some .long) 1 := ⟨gi8 120 rfl rfl, gi8 123 rfl rfl, gi1 14 rfl rfl, by decide +kernel⟩
theorem cl_X12_363 : Cond.constantLong RX12 363 (6000) ∈ gt := gi8 131 rfl rfl
theorem im_X12_seedsNow : Cond.instanceMethod yX12_seedsNow ∈ gt := gi8 138 rfl rfl
theorem se_X12_seedsNow : Cond.selects yX12_seedsNow.cls yX12_seedsNow yX12_seedsNow ∈ gt := gs6 7 rfl
theorem ml_X12_365 : ML RX12 365 yX12_seedsNow cX12_seedsNow 3 (some .int) 0 := ⟨gi8 136 rfl rfl, gi8 139 rfl rfl, gi1 14 rfl rfl, by decide +kernel⟩
theorem im_X12_takesUp : Cond.instanceMethod yX12_takesUp ∈ gt := gi8 22 rfl rfl
theorem se_X12_takesUp : Cond.selects yX12_takesUp.cls yX12_takesUp yX12_takesUp ∈ gt := gs5 8 rfl
theorem ml_X12_293 : ML RX12 293 yX12_takesUp cX12_takesUp 2 none 0 := ⟨gi8 20 rfl rfl, gi8 23 rfl rfl, gi1 14 rfl rfl, by decide +kernel⟩
theorem im_X12_numberOf : Cond.instanceMethod yX12_numberOf ∈ gt := gi8 142 rfl rfl
theorem se_X12_numberOf : Cond.selects yX12_numberOf.cls yX12_numberOf yX12_numberOf ∈ gt := gs6 8 rfl
theorem ml_X12_368 : ML RX12 368 yX12_numberOf cX12_numberOf 7 (some .int) 1 := ⟨gi8 140 rfl rfl, gi8 143 rfl rfl, gi1 14 rfl rfl, by decide +kernel⟩
theorem im_X12_lays : Cond.instanceMethod yX12_lays ∈ gt := gi8 150 rfl rfl
theorem se_X12_lays : Cond.selects yX12_lays.cls yX12_lays yX12_lays ∈ gt := gs6 9 rfl
theorem ml_X12_371 : ML RX12 371 yX12_lays cX12_lays 9 none 3 := ⟨gi8 148 rfl rfl, gi8 151 rfl rfl, gi1 14 rfl rfl, by decide +kernel⟩
theorem fl_X12_73 : FL RX12 73 12 39 RX12 TX12 54 := ⟨rfl, by decide, by decide, by decide, inG12, gi6 226 rfl rfl⟩
theorem ok191 : oK 191 = 20 := by decide +kernel
theorem on191 : oN 191 = 12 := by decide +kernel
theorem ot171_39 : oT 171 39 = 191 := by decide +kernel
theorem fl_X12_67 : FL RX12 67 12 37 RX12 TX12 54 := ⟨rfl, by decide, by decide, by decide, inG12, gi6 224 rfl rfl⟩
theorem ok189 : oK 189 = 20 := by decide +kernel
theorem on189 : oN 189 = 42 := by decide +kernel
theorem ot171_37 : oT 171 37 = 189 := by decide +kernel
theorem fl_X12_61 : FL RX12 61 12 35 RX12 TX12 54 := ⟨rfl, by decide, by decide, by decide, inG12, gi6 222 rfl rfl⟩
theorem ok187 : oK 187 = 20 := by decide +kernel
theorem on187 : oN 187 = 72000 := by decide +kernel
theorem ot171_35 : oT 171 35 = 187 := by decide +kernel
theorem fl_X12_64 : FL RX12 64 12 36 RX12 TX12 54 := ⟨rfl, by decide, by decide, by decide, inG12, gi6 223 rfl rfl⟩
theorem ok188 : oK 188 = 20 := by decide +kernel
theorem on188 : oN 188 = 72000 := by decide +kernel
theorem ot171_36 : oT 171 36 = 188 := by decide +kernel
theorem im_X12_sum : Cond.instanceMethod yX12_sum ∈ gt := gi8 42 rfl rfl
theorem se_X12_sum : Cond.selects yX12_sum.cls yX12_sum yX12_sum ∈ gt := gs5 13 rfl
theorem ml_X12_290 : ML RX12 290 yX12_sum cX12_sum 4 (some .int) 1 := ⟨gi8 40 rfl rfl, gi8 43 rfl rfl, gi1 14 rfl rfl, by decide +kernel⟩
theorem fl_X12_70 : FL RX12 70 12 38 RX12 TX12 54 := ⟨rfl, by decide, by decide, by decide, inG12, gi6 225 rfl rfl⟩
theorem ok190 : oK 190 = 22 := by decide +kernel
theorem on190 : oN 190 = 12000 := by decide +kernel
theorem ot171_38 : oT 171 38 = 190 := by decide +kernel
theorem fl_X12_51 : FL RX12 51 12 32 RX12 TX12 54 := ⟨rfl, by decide, by decide, by decide, inG12, gi6 219 rfl rfl⟩
theorem ok184 : oK 184 = 20 := by decide +kernel
theorem on184 : oN 184 = 12000 := by decide +kernel
theorem ot171_32 : oT 171 32 = 184 := by decide +kernel
theorem fl_X12_54 : FL RX12 54 12 33 RX12 TX12 54 := ⟨rfl, by decide, by decide, by decide, inG12, gi6 220 rfl rfl⟩
theorem ok185 : oK 185 = 20 := by decide +kernel
theorem on185 : oN 185 = 12000 := by decide +kernel
theorem ot171_33 : oT 171 33 = 185 := by decide +kernel
theorem fl_X12_57 : FL RX12 57 12 34 RX12 TX12 54 := ⟨rfl, by decide, by decide, by decide, inG12, gi6 221 rfl rfl⟩
theorem ok186 : oK 186 = 20 := by decide +kernel
theorem on186 : oN 186 = 12000 := by decide +kernel
theorem ot171_34 : oT 171 34 = 186 := by decide +kernel
theorem im_X12_worthOf : Cond.instanceMethod yX12_worthOf ∈ gt := gi8 190 rfl rfl
theorem se_X12_worthOf : Cond.selects yX12_worthOf.cls yX12_worthOf yX12_worthOf ∈ gt := gs7 2 rfl
theorem ml_X12_398 : ML RX12 398 yX12_worthOf cX12_worthOf 5 (some .int) 3 := ⟨gi8 188 rfl rfl, gi8 191 rfl rfl, gi1 14 rfl rfl, by decide +kernel⟩
theorem mm_X12_402 : Cond.methodLink RX12 402 Lib.Math.max.name ∈ gt := gi8 192 rfl rfl
theorem im_X12_seat : Cond.instanceMethod yX12_seat ∈ gt := gi8 170 rfl rfl
theorem se_X12_seat : Cond.selects yX12_seat.cls yX12_seat yX12_seat ∈ gt := gs6 13 rfl
theorem ml_X12_384 : ML RX12 384 yX12_seat cX12_seat 4 (some .int) 3 := ⟨gi8 168 rfl rfl, gi8 171 rfl rfl, gi1 14 rfl rfl, by decide +kernel⟩
theorem im_X12_seatNow : Cond.instanceMethod yX12_seatNow ∈ gt := gi8 195 rfl rfl
theorem se_X12_seatNow : Cond.selects yX12_seatNow.cls yX12_seatNow yX12_seatNow ∈ gt := gs7 3 rfl
theorem ml_X12_410 : ML RX12 410 yX12_seatNow cX12_seatNow 1 (some .int) 0 := ⟨gi8 193 rfl rfl, gi8 196 rfl rfl, gi1 14 rfl rfl, by decide +kernel⟩
theorem im_X12_bestAt : Cond.instanceMethod yX12_bestAt ∈ gt := gi8 211 rfl rfl
theorem se_X12_bestAt : Cond.selects yX12_bestAt.cls yX12_bestAt yX12_bestAt ∈ gt := gs7 5 rfl
theorem ml_X12_413 : ML RX12 413 yX12_bestAt cX12_bestAt 7 (some .int) 1 := ⟨gi8 209 rfl rfl, gi8 212 rfl rfl, gi1 14 rfl rfl, by decide +kernel⟩
theorem fl_X12_91 : FL RX12 91 12 46 RX12 TX12 54 := ⟨rfl, by decide, by decide, by decide, inG12, gi6 233 rfl rfl⟩
theorem ok196 : oK 196 = 20 := by decide +kernel
theorem on196 : oN 196 = 32500 := by decide +kernel
theorem ot171_46 : oT 171 46 = 196 := by decide +kernel
theorem cn_X12_458 : Cond.constant RX12 458 (1103515245) ∈ gt := gi9 74 rfl rfl
theorem fl_X12_459 : FL RX12 459 12 49 RX12 TX12 54 := ⟨rfl, by decide, by decide, by decide, inG12, gi6 236 rfl rfl⟩
theorem fp_12_49 : FP 12 49 TX12 54 tyX12 .int := ⟨rfl, tyX12_ok, nmX12, by decide +kernel, by decide⟩
theorem cl_X12_314 : Cond.constantLong RX12 314 (3) ∈ gt := gi8 52 rfl rfl
theorem ml_X12_335 : ML RX12 335 yX12_isTray cX12_isTray 1 (some .boolean) 1 := ⟨gi8 103 rfl rfl, gi8 105 rfl rfl, gi1 14 rfl rfl, by decide +kernel⟩
theorem st_X12_isTray : Cond.static yX12_isTray ∈ gt := gi8 104 rfl rfl
theorem fl_X12_97 : FL RX12 97 12 51 RX12 TX12 54 := ⟨rfl, by decide, by decide, by decide, inG12, gi6 238 rfl rfl⟩
theorem ok198 : oK 198 = 20 := by decide +kernel
theorem on198 : oN 198 = 4 := by decide +kernel
theorem ot171_51 : oT 171 51 = 198 := by decide +kernel
theorem fl_X12_100 : FL RX12 100 12 52 RX12 TX12 54 := ⟨rfl, by decide, by decide, by decide, inG12, gi6 239 rfl rfl⟩
theorem ok199 : oK 199 = 20 := by decide +kernel
theorem on199 : oN 199 = 4 := by decide +kernel
theorem ot171_52 : oT 171 52 = 199 := by decide +kernel
theorem fl_X12_103 : FL RX12 103 12 53 RX12 TX12 54 := ⟨rfl, by decide, by decide, by decide, inG12, gi7 0 rfl rfl⟩
theorem ok200 : oK 200 = 21 := by decide +kernel
theorem on200 : oN 200 = 160 := by decide +kernel
theorem ot171_53 : oT 171 53 = 200 := by decide +kernel
theorem cl_X12_453 : Cond.constantLong RX12 453 (2) ∈ gt := gi9 49 rfl rfl
theorem fl_X12_22 : FL RX12 22 12 4 RX12 TX12 54 := ⟨rfl, by decide, by decide, by decide, inG12, gi6 191 rfl rfl⟩
theorem ok176 : oK 176 = 22 := by decide +kernel
theorem on176 : oN 176 = 3 := by decide +kernel
theorem ot171_4 : oT 171 4 = 176 := by decide +kernel
theorem fl_X12_16 : FL RX12 16 12 2 RX12 TX12 54 := ⟨rfl, by decide, by decide, by decide, inG12, gi6 189 rfl rfl⟩
theorem ok174 : oK 174 = 20 := by decide +kernel
theorem on174 : oN 174 = 75 := by decide +kernel
theorem ot171_2 : oT 171 2 = 174 := by decide +kernel
theorem cn_J6_265 : Cond.constant RJ6 265 (1431655765) ∈ gt := gi4 76 rfl rfl
theorem cn_J6_266 : Cond.constant RJ6 266 (858993459) ∈ gt := gi4 77 rfl rfl
theorem cn_J6_267 : Cond.constant RJ6 267 (252645135) ∈ gt := gi4 78 rfl rfl
theorem ok25 : oK 25 = 0 := by decide +kernel
theorem fl_X0_86 : FL RX0 86 6 0 RX6 TX6 2 := ⟨rfl, by decide, by decide, by decide, inG6, gi1 173 rfl rfl⟩
theorem ml_X0_89 : ML RX0 89 yX0_packed cX0_packed 6 (some .long) 3 := ⟨gi6 82 rfl rfl, gi6 84 rfl rfl, gi1 11 rfl rfl, by decide +kernel⟩
theorem st_X0_packed : Cond.static yX0_packed ∈ gt := gi6 83 rfl rfl
theorem cl_X0_93 : Cond.constantLong RX0 93 (2) ∈ gt := gi6 85 rfl rfl
theorem fl_X0_95 : FL RX0 95 6 1 RX6 TX6 2 := ⟨rfl, by decide, by decide, by decide, inG6, gi1 181 rfl rfl⟩
theorem cl_X0_98 : Cond.constantLong RX0 98 (31) ∈ gt := gi6 86 rfl rfl
theorem cl_X0_100 : Cond.constantLong RX0 100 (-7046029254386353131) ∈ gt := gi6 87 rfl rfl
theorem fl_X0_76 : FL RX0 76 0 11 RX0 TX0 12 := ⟨rfl, by decide, by decide, by decide, inG0, gi2 160 rfl rfl⟩
theorem fl_X0_33 : FL RX0 33 0 10 RX0 TX0 12 := ⟨rfl, by decide, by decide, by decide, inG0, gi2 159 rfl rfl⟩
theorem ok30 : oK 30 = 20 := by decide +kernel
theorem on30 : oN 30 = 4096 := by decide +kernel
theorem ot25_10 : oT 25 10 = 30 := by decide +kernel
theorem fl_X0_26 : FL RX0 26 0 8 RX0 TX0 12 := ⟨rfl, by decide, by decide, by decide, inG0, gi2 157 rfl rfl⟩
theorem ok28 : oK 28 = 21 := by decide +kernel
theorem on28 : oN 28 = 1296 := by decide +kernel
theorem ot25_8 : oT 25 8 = 28 := by decide +kernel
theorem fl_X0_30 : FL RX0 30 0 9 RX0 TX0 12 := ⟨rfl, by decide, by decide, by decide, inG0, gi2 158 rfl rfl⟩
theorem ok29 : oK 29 = 21 := by decide +kernel
theorem on29 : oN 29 = 1296 := by decide +kernel
theorem ot25_9 : oT 25 9 = 29 := by decide +kernel
theorem fp_0_11 : FP 0 11 TX0 12 tyX0 .int := ⟨rfl, tyX0_ok, nmX0, by decide +kernel, by decide⟩
theorem im_X1_pitAsSeen : Cond.instanceMethod yX1_pitAsSeen ∈ gt := gi1 119 rfl rfl
theorem se_X1_pitAsSeen : Cond.selects yX1_pitAsSeen.cls yX1_pitAsSeen yX1_pitAsSeen ∈ gt := gi1 120 rfl rfl
theorem ml_X1_72 : ML RX1 72 yX1_pitAsSeen cX1_pitAsSeen 4 (some .int) 2 := ⟨gi1 118 rfl rfl, gi1 121 rfl rfl, gi1 3 rfl rfl, by decide +kernel⟩
theorem ml_X1_75 : ML RX1 75 yX5_isLacking cX5_isLacking 2 (some .boolean) 1 := ⟨gi1 122 rfl rfl, gi1 125 rfl rfl, gi1 2 rfl rfl, by decide +kernel⟩
theorem fl_X1_57 : FL RX1 57 5 5 RX5 TX5 9 := ⟨rfl, by decide, by decide, by decide, inG5, gi1 62 rfl rfl⟩
theorem fp_1_1 : FP 1 1 TX1 7 tyX1 .int := ⟨rfl, tyX1_ok, nmX1, by decide +kernel, by decide⟩
theorem fl_X1_37 : FL RX1 37 1 2 RX1 TX1 7 := ⟨rfl, by decide, by decide, by decide, inG1, gi1 133 rfl rfl⟩
theorem fp_1_2 : FP 1 2 TX1 7 tyX1 .boolean := ⟨rfl, tyX1_ok, nmX1, by decide +kernel, by decide⟩
theorem im_X6_clear : Cond.instanceMethod yX6_clear ∈ gt := gi3 199 rfl rfl
theorem se_X6_clear : Cond.selects yX6_clear.cls yX6_clear yX6_clear ∈ gt := gi3 200 rfl rfl
theorem ml_X1_87 : ML RX1 87 yX6_clear cX6_clear 2 none 0 := ⟨gi3 198 rfl rfl, gi3 201 rfl rfl, gi1 6 rfl rfl, by decide +kernel⟩
theorem fl_X3_17 : FL RX3 17 3 4 RX3 TX3 5 := ⟨rfl, by decide, by decide, by decide, inG3, gi1 235 rfl rfl⟩
theorem ok11 : oK 11 = 23 := by decide +kernel
theorem on11 : oN 11 = 40 := by decide +kernel
theorem ot9_4 : oT 9 4 = 11 := by decide +kernel
theorem ml_X3_36 : ML RX3 36 yX6_copy cX6_copy 2 none 1 := ⟨gi3 114 rfl rfl, gi3 62 rfl rfl, gi1 6 rfl rfl, by decide +kernel⟩
theorem fp_3_2 : FP 3 2 TX3 5 tyX3 .int := ⟨rfl, tyX3_ok, nmX3, by decide +kernel, by decide⟩
theorem fl_X4_21 : FL RX4 21 4 1 RX4 TX4 11 := ⟨rfl, by decide, by decide, by decide, inG4, gi2 19 rfl rfl⟩
theorem ok149 : oK 149 = 6 := by decide +kernel
theorem ot12_1 : oT 12 1 = 149 := by decide +kernel
theorem ml_X4_69 : ML RX4 69 yX6_inPits cX6_inPits 3 (some .int) 0 := ⟨gi5 63 rfl rfl, gi3 156 rfl rfl, gi1 6 rfl rfl, by decide +kernel⟩
theorem fl_X4_12 : FL RX4 12 4 0 RX4 TX4 11 := ⟨rfl, by decide, by decide, by decide, inG4, gi2 17 rfl rfl⟩
theorem ok13 : oK 13 = 5 := by decide +kernel
theorem ot12_0 : oT 12 0 = 13 := by decide +kernel
theorem ml_X4_62 : ML RX4 62 yX5_isLacking cX5_isLacking 2 (some .boolean) 1 := ⟨gi5 62 rfl rfl, gi1 125 rfl rfl, gi1 2 rfl rfl, by decide +kernel⟩
theorem fl_X4_66 : FL RX4 66 6 0 RX6 TX6 2 := ⟨rfl, by decide, by decide, by decide, inG6, gi1 171 rfl rfl⟩
theorem ok150 : oK 150 = 20 := by decide +kernel
theorem on150 : oN 150 = 14 := by decide +kernel
theorem ot149_0 : oT 149 0 = 150 := by decide +kernel
theorem fp_4_7 : FP 4 7 TX4 11 tyX4 .int := ⟨rfl, tyX4_ok, nmX4, by decide +kernel, by decide⟩
theorem fp_4_10 : FP 4 10 TX4 11 tyX4 .int := ⟨rfl, tyX4_ok, nmX4, by decide +kernel, by decide⟩
theorem fl_X4_46 : FL RX4 46 4 9 RX4 TX4 11 := ⟨rfl, by decide, by decide, by decide, inG4, gi2 31 rfl rfl⟩
theorem fl_X4_43 : FL RX4 43 4 6 RX4 TX4 11 := ⟨rfl, by decide, by decide, by decide, inG4, gi2 28 rfl rfl⟩
theorem im_X4_isDigit : Cond.instanceMethod yX4_isDigit ∈ gt := gi4 185 rfl rfl
theorem se_X4_isDigit : Cond.selects yX4_isDigit.cls yX4_isDigit yX4_isDigit ∈ gt := gs2 8 rfl
theorem ml_X4_169 : ML RX4 169 yX4_isDigit cX4_isDigit 2 (some .boolean) 1 := ⟨gi4 183 rfl rfl, gi4 186 rfl rfl, gi1 8 rfl rfl, by decide +kernel⟩
theorem fp_4_9 : FP 4 9 TX4 11 tyX4 .int := ⟨rfl, tyX4_ok, nmX4, by decide +kernel, by decide⟩
theorem im_X4_isLetter : Cond.instanceMethod yX4_isLetter ∈ gt := gi4 197 rfl rfl
theorem se_X4_isLetter : Cond.selects yX4_isLetter.cls yX4_isLetter yX4_isLetter ∈ gt := gs2 11 rfl
theorem ml_X4_175 : ML RX4 175 yX4_isLetter cX4_isLetter 2 (some .boolean) 1 := ⟨gi4 195 rfl rfl, gi4 198 rfl rfl, gi1 8 rfl rfl, by decide +kernel⟩
theorem im_X7_settleAll : Cond.instanceMethod yX7_settleAll ∈ gt := gi3 227 rfl rfl
theorem se_X7_settleAll : Cond.selects yX7_settleAll.cls yX7_settleAll yX7_settleAll ∈ gt := gs1 15 rfl
theorem ml_X7_102 : ML RX7 102 yX7_settleAll cX7_settleAll 9 (some .boolean) 3 := ⟨gi3 225 rfl rfl, gi3 228 rfl rfl, gi1 9 rfl rfl, by decide +kernel⟩
theorem im_X7_weighAll : Cond.instanceMethod yX7_weighAll ∈ gt := gi3 223 rfl rfl
theorem se_X7_weighAll : Cond.selects yX7_weighAll.cls yX7_weighAll yX7_weighAll ∈ gt := gs1 14 rfl
theorem ml_X7_98 : ML RX7 98 yX7_weighAll cX7_weighAll 9 none 2 := ⟨gi3 221 rfl rfl, gi3 224 rfl rfl, gi1 9 rfl rfl, by decide +kernel⟩
theorem fl_X8_46 : FL RX8 46 5 3 RX5 TX5 9 := ⟨rfl, by decide, by decide, by decide, inG5, gi1 55 rfl rfl⟩
theorem im_X8_scatter : Cond.instanceMethod yX8_scatter ∈ gt := gi3 72 rfl rfl
theorem se_X8_scatter : Cond.selects yX8_scatter.cls yX8_scatter yX8_scatter ∈ gt := gs1 4 rfl
theorem ml_X8_58 : ML RX8 58 yX8_scatter cX8_scatter 8 (some .int) 2 := ⟨gi3 70 rfl rfl, gi3 73 rfl rfl, gi1 5 rfl rfl, by decide +kernel⟩
theorem fp_8_0 : FP 8 0 TX8 8 tyX8 .int := ⟨rfl, tyX8_ok, nmX8, by decide +kernel, by decide⟩
theorem fl_X8_65 : FL RX8 65 8 1 RX8 TX8 8 := ⟨rfl, by decide, by decide, by decide, inG8, gi1 190 rfl rfl⟩
theorem fp_8_1 : FP 8 1 TX8 8 tyX8 .int := ⟨rfl, tyX8_ok, nmX8, by decide +kernel, by decide⟩
theorem im_X8_isOwn : Cond.instanceMethod yX8_isOwn ∈ gt := gi3 75 rfl rfl
theorem se_X8_isOwn : Cond.selects yX8_isOwn.cls yX8_isOwn yX8_isOwn ∈ gt := gi3 76 rfl rfl
theorem ml_X8_68 : ML RX8 68 yX8_isOwn cX8_isOwn 6 (some .boolean) 2 := ⟨gi3 74 rfl rfl, gi3 77 rfl rfl, gi1 5 rfl rfl, by decide +kernel⟩
theorem im_X8_takeGrand : Cond.instanceMethod yX8_takeGrand ∈ gt := gi3 85 rfl rfl
theorem se_X8_takeGrand : Cond.selects yX8_takeGrand.cls yX8_takeGrand yX8_takeGrand ∈ gt := gs1 6 rfl
theorem ml_X8_76 : ML RX8 76 yX8_takeGrand cX8_takeGrand 6 (some .int) 1 := ⟨gi3 83 rfl rfl, gi3 86 rfl rfl, gi1 5 rfl rfl, by decide +kernel⟩
theorem fl_X8_79 : FL RX8 79 8 2 RX8 TX8 8 := ⟨rfl, by decide, by decide, by decide, inG8, gi1 192 rfl rfl⟩
theorem fp_8_2 : FP 8 2 TX8 8 tyX8 .int := ⟨rfl, tyX8_ok, nmX8, by decide +kernel, by decide⟩
theorem fl_X8_82 : FL RX8 82 8 3 RX8 TX8 8 := ⟨rfl, by decide, by decide, by decide, inG8, gi1 194 rfl rfl⟩
theorem fp_8_3 : FP 8 3 TX8 8 tyX8 .int := ⟨rfl, tyX8_ok, nmX8, by decide +kernel, by decide⟩
theorem fl_X8_85 : FL RX8 85 5 7 RX5 TX5 9 := ⟨rfl, by decide, by decide, by decide, inG5, gi1 69 rfl rfl⟩
theorem im_X8_takeOpposite : Cond.instanceMethod yX8_takeOpposite ∈ gt := gi3 81 rfl rfl
theorem se_X8_takeOpposite : Cond.selects yX8_takeOpposite.cls yX8_takeOpposite yX8_takeOpposite ∈ gt := gs1 5 rfl
theorem ml_X8_72 : ML RX8 72 yX8_takeOpposite cX8_takeOpposite 4 (some .int) 1 := ⟨gi3 79 rfl rfl, gi3 82 rfl rfl, gi1 5 rfl rfl, by decide +kernel⟩
theorem fl_X8_95 : FL RX8 95 5 8 RX5 TX5 9 := ⟨rfl, by decide, by decide, by decide, inG5, gi1 72 rfl rfl⟩
theorem fl_X8_11 : FL RX8 11 8 4 RX8 TX8 8 := ⟨rfl, by decide, by decide, by decide, inG8, gi1 196 rfl rfl⟩
theorem ml_X8_108 : ML RX8 108 yX6_copy cX6_copy 2 none 1 := ⟨gi3 59 rfl rfl, gi3 62 rfl rfl, gi1 6 rfl rfl, by decide +kernel⟩
theorem im_X8_sow : Cond.instanceMethod yX8_sow ∈ gt := gi3 67 rfl rfl
theorem se_X8_sow : Cond.selects yX8_sow.cls yX8_sow yX8_sow ∈ gt := gi3 68 rfl rfl
theorem ml_X8_112 : ML RX8 112 yX8_sow cX8_sow 6 (some .boolean) 2 := ⟨gi3 66 rfl rfl, gi3 69 rfl rfl, gi1 5 rfl rfl, by decide +kernel⟩
theorem fl_X8_17 : FL RX8 17 8 5 RX8 TX8 8 := ⟨rfl, by decide, by decide, by decide, inG8, gi1 198 rfl rfl⟩
theorem fl_X8_98 : FL RX8 98 1 3 RX1 TX1 7 := ⟨rfl, by decide, by decide, by decide, inG1, gi1 136 rfl rfl⟩
theorem im_X8_isLong : Cond.instanceMethod yX8_isLong ∈ gt := gi3 100 rfl rfl
theorem se_X8_isLong : Cond.selects yX8_isLong.cls yX8_isLong yX8_isLong ∈ gt := gs1 7 rfl
theorem ml_X8_116 : ML RX8 116 yX8_isLong cX8_isLong 3 (some .boolean) 2 := ⟨gi3 98 rfl rfl, gi3 101 rfl rfl, gi1 5 rfl rfl, by decide +kernel⟩
theorem im_X8_isOver : Cond.instanceMethod yX8_isOver ∈ gt := gi3 137 rfl rfl
theorem se_X8_isOver : Cond.selects yX8_isOver.cls yX8_isOver yX8_isOver ∈ gt := gi3 138 rfl rfl
theorem ml_X8_126 : ML RX8 126 yX8_isOver cX8_isOver 4 (some .boolean) 1 := ⟨gi3 148 rfl rfl, gi3 139 rfl rfl, gi1 5 rfl rfl, by decide +kernel⟩
theorem fl_X10_25 : FL RX10 25 10 4 RX10 TX10 7 := ⟨rfl, by decide, by decide, by decide, inG10, gi2 122 rfl rfl⟩
theorem ot22_4 : oT 22 4 = 6 := by decide +kernel
theorem ml_X10_45 : ML RX10 45 yX8_sow cX8_sow 6 (some .boolean) 2 := ⟨gi4 87 rfl rfl, gi3 69 rfl rfl, gi1 5 rfl rfl, by decide +kernel⟩
theorem fl_X10_18 : FL RX10 18 10 1 RX10 TX10 7 := ⟨rfl, by decide, by decide, by decide, inG10, gi2 116 rfl rfl⟩
theorem ok23 : oK 23 = 20 := by decide +kernel
theorem on23 : oN 23 = 100 := by decide +kernel
theorem ot22_1 : oT 22 1 = 23 := by decide +kernel
theorem ml_X10_74 : ML RX10 74 yJ6_bitCount_0f7a4 cJ6_bitCount_0f7a4 1 (some .int) 1 := ⟨gi4 73 rfl rfl, gi4 75 rfl rfl, gi1 27 rfl rfl, by decide +kernel⟩
theorem st_J6_bitCount_0f7a4 : Cond.static yJ6_bitCount_0f7a4 ∈ gt := gi4 74 rfl rfl
theorem mn_X10_88 : MLN RX10 88 yX11_has "SowingHouse" cX11_has 2 (some .boolean) 2 := ⟨gn4 82 rfl rfl, gi3 97 rfl rfl, gi1 1 rfl rfl, by decide +kernel⟩
theorem st_X11_has : Cond.static yX11_has ∈ gt := gi3 96 rfl rfl
theorem fl_X11_47 : FL RX11 47 11 5 RX11 TX11 12 := ⟨rfl, by decide, by decide, by decide, inG11, gi2 235 rfl rfl⟩
theorem ot0_5 : oT 0 5 = 9 := by decide +kernel
theorem fl_X11_197 : FL RX11 197 3 0 RX3 TX3 5 := ⟨rfl, by decide, by decide, by decide, inG3, gi1 230 rfl rfl⟩
theorem im_X3_back : Cond.instanceMethod yX3_back ∈ gt := gi3 121 rfl rfl
theorem se_X3_back : Cond.selects yX3_back.cls yX3_back yX3_back ∈ gt := gi3 122 rfl rfl
theorem ml_X11_200 : ML RX11 200 yX3_back cX3_back 2 none 1 := ⟨gi3 120 rfl rfl, gi3 123 rfl rfl, gi1 7 rfl rfl, by decide +kernel⟩
theorem fl_X11_203 : FL RX11 203 3 1 RX3 TX3 5 := ⟨rfl, by decide, by decide, by decide, inG3, gi1 232 rfl rfl⟩
theorem fl_X11_30 : FL RX11 30 11 2 RX11 TX11 12 := ⟨rfl, by decide, by decide, by decide, inG11, gi2 232 rfl rfl⟩
theorem ot0_2 : oT 0 2 = 6 := by decide +kernel
theorem im_X3_again : Cond.instanceMethod yX3_again ∈ gt := gi3 129 rfl rfl
theorem se_X3_again : Cond.selects yX3_again.cls yX3_again yX3_again ∈ gt := gi3 130 rfl rfl
theorem ml_X11_206 : ML RX11 206 yX3_again cX3_again 1 (some .int) 0 := ⟨gi3 128 rfl rfl, gi3 131 rfl rfl, gi1 7 rfl rfl, by decide +kernel⟩
theorem ml_X11_164 : ML RX11 164 yX8_sow cX8_sow 6 (some .boolean) 2 := ⟨gi3 115 rfl rfl, gi3 69 rfl rfl, gi1 5 rfl rfl, by decide +kernel⟩
theorem ml_X11_210 : ML RX11 210 yX8_isOver cX8_isOver 4 (some .boolean) 1 := ⟨gi3 136 rfl rfl, gi3 139 rfl rfl, gi1 5 rfl rfl, by decide +kernel⟩
theorem im_X8_scoreOf : Cond.instanceMethod yX8_scoreOf ∈ gt := gi3 145 rfl rfl
theorem se_X8_scoreOf : Cond.selects yX8_scoreOf.cls yX8_scoreOf yX8_scoreOf ∈ gt := gi3 146 rfl rfl
theorem ml_X11_214 : ML RX11 214 yX8_scoreOf cX8_scoreOf 3 (some .int) 1 := ⟨gi3 144 rfl rfl, gi3 147 rfl rfl, gi1 5 rfl rfl, by decide +kernel⟩
theorem fl_X11_128 : FL RX11 128 5 0 RX5 TX5 9 := ⟨rfl, by decide, by decide, by decide, inG5, gi1 43 rfl rfl⟩
theorem fl_X11_134 : FL RX11 134 5 1 RX5 TX5 9 := ⟨rfl, by decide, by decide, by decide, inG5, gi1 48 rfl rfl⟩
theorem fl_X11_387 : FL RX11 387 5 2 RX5 TX5 9 := ⟨rfl, by decide, by decide, by decide, inG5, gi1 53 rfl rfl⟩
theorem ml_X11_293 : ML RX11 293 yJ6_bitCount_0f7a4 cJ6_bitCount_0f7a4 1 (some .int) 1 := ⟨gi4 92 rfl rfl, gi4 75 rfl rfl, gi1 27 rfl rfl, by decide +kernel⟩
theorem fl_X11_41 : FL RX11 41 11 4 RX11 TX11 12 := ⟨rfl, by decide, by decide, by decide, inG11, gi2 234 rfl rfl⟩
theorem ok55 : oK 55 = 6 := by decide +kernel
theorem ot0_4 : oT 0 4 = 55 := by decide +kernel
theorem ml_X11_177 : ML RX11 177 yX6_copy cX6_copy 2 none 1 := ⟨gi4 32 rfl rfl, gi3 62 rfl rfl, gi1 6 rfl rfl, by decide +kernel⟩
theorem fl_X11_186 : FL RX11 186 8 0 RX8 TX8 8 := ⟨rfl, by decide, by decide, by decide, inG8, gi1 189 rfl rfl⟩
theorem fl_X11_192 : FL RX11 192 8 2 RX8 TX8 8 := ⟨rfl, by decide, by decide, by decide, inG8, gi1 193 rfl rfl⟩
theorem ml_X11_414 : ML RX11 414 yX6_inRow cX6_inRow 5 (some .int) 2 := ⟨gi6 100 rfl rfl, gi3 90 rfl rfl, gi1 6 rfl rfl, by decide +kernel⟩
theorem fl_X11_72 : FL RX11 72 11 8 RX11 TX11 12 := ⟨rfl, by decide, by decide, by decide, inG11, gi2 238 rfl rfl⟩
theorem ot0_8 : oT 0 8 = 22 := by decide +kernel
theorem fl_X11_312 : FL RX11 312 10 0 RX10 TX10 7 := ⟨rfl, by decide, by decide, by decide, inG10, gi2 115 rfl rfl⟩
theorem fl_X11_319 : FL RX11 319 10 2 RX10 TX10 7 := ⟨rfl, by decide, by decide, by decide, inG10, gi2 119 rfl rfl⟩
theorem fl_X12_277 : FL RX12 277 12 18 RX12 TX12 54 := ⟨rfl, by decide, by decide, by decide, inG12, gi6 205 rfl rfl⟩
theorem fl_X12_266 : FL RX12 266 12 20 RX12 TX12 54 := ⟨rfl, by decide, by decide, by decide, inG12, gi6 207 rfl rfl⟩
theorem fp_12_20 : FP 12 20 TX12 54 tyX12 .int := ⟨rfl, tyX12_ok, nmX12, by decide +kernel, by decide⟩
theorem im_X12_ahead : Cond.instanceMethod yX12_ahead ∈ gt := gi8 38 rfl rfl
theorem se_X12_ahead : Cond.selects yX12_ahead.cls yX12_ahead yX12_ahead ∈ gt := gs5 12 rfl
theorem ml_X12_287 : ML RX12 287 yX12_ahead cX12_ahead 3 (some .int) 1 := ⟨gi8 36 rfl rfl, gi8 39 rfl rfl, gi1 14 rfl rfl, by decide +kernel⟩
theorem im_X12_betters : Cond.instanceMethod yX12_betters ∈ gt := gi8 186 rfl rfl
theorem se_X12_betters : Cond.selects yX12_betters.cls yX12_betters yX12_betters ∈ gt := gs7 1 rfl
theorem ml_X12_394 : ML RX12 394 yX12_betters cX12_betters 7 (some .boolean) 3 := ⟨gi8 184 rfl rfl, gi8 187 rfl rfl, gi1 14 rfl rfl, by decide +kernel⟩
theorem im_X12_ownLess : Cond.instanceMethod yX12_ownLess ∈ gt := gi8 182 rfl rfl
theorem se_X12_ownLess : Cond.selects yX12_ownLess.cls yX12_ownLess yX12_ownLess ∈ gt := gs7 0 rfl
theorem ml_X12_391 : ML RX12 391 yX12_ownLess cX12_ownLess 4 (some .int) 3 := ⟨gi8 180 rfl rfl, gi8 183 rfl rfl, gi1 14 rfl rfl, by decide +kernel⟩
theorem im_X12_trayFault : Cond.instanceMethod yX12_trayFault ∈ gt := gi8 101 rfl rfl
theorem se_X12_trayFault : Cond.selects yX12_trayFault.cls yX12_trayFault yX12_trayFault ∈ gt := gs6 3 rfl
theorem ml_X12_340 : ML RX12 340 yX12_trayFault cX12_trayFault 2 (some .int) 1 := ⟨gi8 99 rfl rfl, gi8 102 rfl rfl, gi1 14 rfl rfl, by decide +kernel⟩
theorem im_X12_cut : Cond.instanceMethod yX12_cut ∈ gt := gi9 89 rfl rfl
theorem se_X12_cut : Cond.selects yX12_cut.cls yX12_cut yX12_cut ∈ gt := gs8 0 rfl
theorem ml_X12_475 : ML RX12 475 yX12_cut cX12_cut 6 (some .long) 3 := ⟨gi9 87 rfl rfl, gi9 90 rfl rfl, gi1 14 rfl rfl, by decide +kernel⟩
theorem mm_X12_479 : Cond.methodLink RX12 479 Lib.Math.min.name ∈ gt := gi9 95 rfl rfl
theorem fl_X0_17 : FL RX0 17 0 3 RX0 TX0 12 := ⟨rfl, by decide, by decide, by decide, inG0, gi2 152 rfl rfl⟩
theorem ok27 : oK 27 = 23 := by decide +kernel
theorem on27 : oN 27 = 7 := by decide +kernel
theorem ot25_3 : oT 25 3 = 27 := by decide +kernel
theorem ml_X0_44 : ML RX0 44 yX6_copy cX6_copy 2 none 1 := ⟨gi4 46 rfl rfl, gi3 62 rfl rfl, gi1 6 rfl rfl, by decide +kernel⟩
theorem fl_X0_40 : FL RX0 40 0 2 RX0 TX0 12 := ⟨rfl, by decide, by decide, by decide, inG0, gi2 151 rfl rfl⟩
theorem ot25_2 : oT 25 2 = 6 := by decide +kernel
theorem ml_X0_48 : ML RX0 48 yX8_sow cX8_sow 6 (some .boolean) 2 := ⟨gi4 58 rfl rfl, gi3 69 rfl rfl, gi1 5 rfl rfl, by decide +kernel⟩
theorem fl_X1_9 : FL RX1 9 1 0 RX1 TX1 7 := ⟨rfl, by decide, by decide, by decide, inG1, gi1 130 rfl rfl⟩
theorem im_X1_cellOnWay : Cond.instanceMethod yX1_cellOnWay ∈ gt := gi1 116 rfl rfl
theorem se_X1_cellOnWay : Cond.selects yX1_cellOnWay.cls yX1_cellOnWay yX1_cellOnWay ∈ gt := gs1 2 rfl
theorem ml_X1_69 : ML RX1 69 yX1_cellOnWay cX1_cellOnWay 4 (some .int) 2 := ⟨gi1 114 rfl rfl, gi1 117 rfl rfl, gi1 3 rfl rfl, by decide +kernel⟩
theorem fp_4_8 : FP 4 8 TX4 11 tyX4 .int := ⟨rfl, tyX4_ok, nmX4, by decide +kernel, by decide⟩
theorem im_X4_stepWord : Cond.instanceMethod yX4_stepWord ∈ gt := gi4 201 rfl rfl
theorem se_X4_stepWord : Cond.selects yX4_stepWord.cls yX4_stepWord yX4_stepWord ∈ gt := gs2 12 rfl
theorem ml_X4_178 : ML RX4 178 yX4_stepWord cX4_stepWord 1 none 0 := ⟨gi4 199 rfl rfl, gi4 202 rfl rfl, gi1 8 rfl rfl, by decide +kernel⟩
theorem im_X4_stepNumber : Cond.instanceMethod yX4_stepNumber ∈ gt := gi4 189 rfl rfl
theorem se_X4_stepNumber : Cond.selects yX4_stepNumber.cls yX4_stepNumber yX4_stepNumber ∈ gt := gs2 9 rfl
theorem ml_X4_172 : ML RX4 172 yX4_stepNumber cX4_stepNumber 1 none 0 := ⟨gi4 187 rfl rfl, gi4 190 rfl rfl, gi1 8 rfl rfl, by decide +kernel⟩
theorem im_X1_lay : Cond.instanceMethod yX1_lay ∈ gt := gi3 195 rfl rfl
theorem se_X1_lay : Cond.selects yX1_lay.cls yX1_lay yX1_lay ∈ gt := gi3 196 rfl rfl
theorem ml_X7_106 : ML RX7 106 yX1_lay cX1_lay 11 none 4 := ⟨gi3 194 rfl rfl, gi3 197 rfl rfl, gi1 3 rfl rfl, by decide +kernel⟩
theorem im_X8_tryAll : Cond.instanceMethod yX8_tryAll ∈ gt := gi3 56 rfl rfl
theorem se_X8_tryAll : Cond.selects yX8_tryAll.cls yX8_tryAll yX8_tryAll ∈ gt := gi3 57 rfl rfl
theorem ml_X7_110 : ML RX7 110 yX8_tryAll cX8_tryAll 6 (some .int) 1 := ⟨gi3 202 rfl rfl, gi3 58 rfl rfl, gi1 5 rfl rfl, by decide +kernel⟩
theorem fl_X7_42 : FL RX7 42 7 2 RX7 TX7 13 := ⟨rfl, by decide, by decide, by decide, inG7, gi2 68 rfl rfl⟩
theorem ot15_2 : oT 15 2 = 1 := by decide +kernel
theorem fl_X7_116 : FL RX7 116 5 1 RX5 TX5 9 := ⟨rfl, by decide, by decide, by decide, inG5, gi1 50 rfl rfl⟩
theorem mn_X7_123 : MLN RX7 123 yX11_has "SowingHouse" cX11_has 2 (some .boolean) 2 := ⟨gn3 204 rfl rfl, gi3 97 rfl rfl, gi1 1 rfl rfl, by decide +kernel⟩
theorem im_X7_readMove : Cond.instanceMethod yX7_readMove ∈ gt := gi3 207 rfl rfl
theorem se_X7_readMove : Cond.selects yX7_readMove.cls yX7_readMove yX7_readMove ∈ gt := gs1 11 rfl
theorem ml_X7_127 : ML RX7 127 yX7_readMove cX7_readMove 7 none 3 := ⟨gi3 205 rfl rfl, gi3 208 rfl rfl, gi1 9 rfl rfl, by decide +kernel⟩
theorem ml_X7_119 : ML RX7 119 yX6_inRow cX6_inRow 5 (some .int) 2 := ⟨gi3 203 rfl rfl, gi3 90 rfl rfl, gi1 6 rfl rfl, by decide +kernel⟩
theorem im_X7_worthOfTried : Cond.instanceMethod yX7_worthOfTried ∈ gt := gi4 17 rfl rfl
theorem se_X7_worthOfTried : Cond.selects yX7_worthOfTried.cls yX7_worthOfTried yX7_worthOfTried ∈ gt := gs2 1 rfl
theorem ml_X7_154 : ML RX7 154 yX7_worthOfTried cX7_worthOfTried 5 (some .int) 2 := ⟨gi4 15 rfl rfl, gi4 18 rfl rfl, gi1 9 rfl rfl, by decide +kernel⟩
theorem im_X7_valueAt : Cond.instanceMethod yX7_valueAt ∈ gt := gi3 230 rfl rfl
theorem se_X7_valueAt : Cond.selects yX7_valueAt.cls yX7_valueAt yX7_valueAt ∈ gt := gi3 231 rfl rfl
theorem ml_X7_157 : ML RX7 157 yX7_valueAt cX7_valueAt 2 (some .int) 1 := ⟨gi4 14 rfl rfl, gi3 232 rfl rfl, gi1 9 rfl rfl, by decide +kernel⟩
theorem ml_X8_101 : ML RX8 101 yX8_tryAll cX8_tryAll 6 (some .int) 1 := ⟨gi3 55 rfl rfl, gi3 58 rfl rfl, gi1 5 rfl rfl, by decide +kernel⟩
theorem im_X6_filled : Cond.instanceMethod yX6_filled ∈ gt := gi3 92 rfl rfl
theorem se_X6_filled : Cond.selects yX6_filled.cls yX6_filled yX6_filled ∈ gt := gi3 93 rfl rfl
theorem ml_X8_104 : ML RX8 104 yX6_filled cX6_filled 4 (some .int) 1 := ⟨gi3 91 rfl rfl, gi3 94 rfl rfl, gi1 6 rfl rfl, by decide +kernel⟩
theorem im_X8_choices : Cond.instanceMethod yX8_choices ∈ gt := gi3 52 rfl rfl
theorem se_X8_choices : Cond.selects yX8_choices.cls yX8_choices yX8_choices ∈ gt := gi3 53 rfl rfl
theorem ml_X8_119 : ML RX8 119 yX8_choices cX8_choices 2 (some .int) 1 := ⟨gi3 51 rfl rfl, gi3 54 rfl rfl, gi1 5 rfl rfl, by decide +kernel⟩
theorem mn_X8_122 : MLN RX8 122 yX11_has "SowingHouse" cX11_has 2 (some .boolean) 2 := ⟨gn3 95 rfl rfl, gi3 97 rfl rfl, gi1 1 rfl rfl, by decide +kernel⟩
theorem im_X10_begin : Cond.instanceMethod yX10_begin ∈ gt := gi4 69 rfl rfl
theorem se_X10_begin : Cond.selects yX10_begin.cls yX10_begin yX10_begin ∈ gt := gs2 4 rfl
theorem ml_X10_51 : ML RX10 51 yX10_begin cX10_begin 2 none 1 := ⟨gi4 67 rfl rfl, gi4 70 rfl rfl, gi1 10 rfl rfl, by decide +kernel⟩
theorem fl_X10_29 : FL RX10 29 10 5 RX10 TX10 7 := ⟨rfl, by decide, by decide, by decide, inG10, gi2 123 rfl rfl⟩
theorem ot22_5 : oT 22 5 = 15 := by decide +kernel
theorem im_X7_markOf : Cond.instanceMethod yX7_markOf ∈ gt := gi6 38 rfl rfl
theorem se_X7_markOf : Cond.selects yX7_markOf.cls yX7_markOf yX7_markOf ∈ gt := gi6 39 rfl rfl
theorem ml_X10_54 : ML RX10 54 yX7_markOf cX7_markOf 3 (some .int) 1 := ⟨gi6 37 rfl rfl, gi6 40 rfl rfl, gi1 9 rfl rfl, by decide +kernel⟩
theorem im_X7_bestAt : Cond.instanceMethod yX7_bestAt ∈ gt := gi4 11 rfl rfl
theorem se_X7_bestAt : Cond.selects yX7_bestAt.cls yX7_bestAt yX7_bestAt ∈ gt := gi4 12 rfl rfl
theorem ml_X10_60 : ML RX10 60 yX7_bestAt cX7_bestAt 8 (some .int) 1 := ⟨gi6 41 rfl rfl, gi4 13 rfl rfl, gi1 9 rfl rfl, by decide +kernel⟩
theorem im_X10_go : Cond.instanceMethod yX10_go ∈ gt := gi4 85 rfl rfl
theorem se_X10_go : Cond.selects yX10_go.cls yX10_go yX10_go ∈ gt := gs2 5 rfl
theorem ml_X10_63 : ML RX10 63 yX10_go cX10_go 2 none 1 := ⟨gi4 83 rfl rfl, gi4 86 rfl rfl, gi1 10 rfl rfl, by decide +kernel⟩
theorem im_X10_isMarkedAgain : Cond.instanceMethod yX10_isMarkedAgain ∈ gt := gi6 44 rfl rfl
theorem se_X10_isMarkedAgain : Cond.selects yX10_isMarkedAgain.cls yX10_isMarkedAgain yX10_isMarkedAgain ∈ gt := gs3 12 rfl
theorem ml_X10_67 : ML RX10 67 yX10_isMarkedAgain cX10_isMarkedAgain 2 (some .boolean) 0 := ⟨gi6 42 rfl rfl, gi6 45 rfl rfl, gi1 10 rfl rfl, by decide +kernel⟩
theorem ml_X10_71 : ML RX10 71 yX8_choices cX8_choices 2 (some .int) 1 := ⟨gi4 72 rfl rfl, gi3 54 rfl rfl, gi1 5 rfl rfl, by decide +kernel⟩
theorem ml_X10_80 : ML RX10 80 yX10_pick cX10_pick 5 (some .int) 2 := ⟨gi4 79 rfl rfl, gi4 81 rfl rfl, gi1 10 rfl rfl, by decide +kernel⟩
theorem st_X10_pick : Cond.static yX10_pick ∈ gt := gi4 80 rfl rfl
theorem cn_X10_87 : Cond.constant RX10 87 (1103515245) ∈ gt := gi6 112 rfl rfl
theorem fl_X10_84 : FL RX10 84 6 1 RX6 TX6 2 := ⟨rfl, by decide, by decide, by decide, inG6, gi1 180 rfl rfl⟩
theorem im_X8_reason : Cond.instanceMethod yX8_reason ∈ gt := gi3 48 rfl rfl
theorem se_X8_reason : Cond.selects yX8_reason.cls yX8_reason yX8_reason ∈ gt := gi3 49 rfl rfl
theorem ml_X11_156 : ML RX11 156 yX8_reason cX8_reason 6 (some .int) 2 := ⟨gi3 47 rfl rfl, gi3 50 rfl rfl, gi1 5 rfl rfl, by decide +kernel⟩
theorem im_X3_keep : Cond.instanceMethod yX3_keep ∈ gt := gi3 107 rfl rfl
theorem se_X3_keep : Cond.selects yX3_keep.cls yX3_keep yX3_keep ∈ gt := gi3 108 rfl rfl
theorem ml_X11_160 : ML RX11 160 yX3_keep cX3_keep 4 none 2 := ⟨gi3 106 rfl rfl, gi3 109 rfl rfl, gi1 7 rfl rfl, by decide +kernel⟩
theorem fl_X11_168 : FL RX11 168 8 3 RX8 TX8 8 := ⟨rfl, by decide, by decide, by decide, inG8, gi1 195 rfl rfl⟩
theorem im_X10_goWhileForced : Cond.instanceMethod yX10_goWhileForced ∈ gt := gi4 64 rfl rfl
theorem se_X10_goWhileForced : Cond.selects yX10_goWhileForced.cls yX10_goWhileForced yX10_goWhileForced ∈ gt := gi4 65 rfl rfl
theorem ml_X11_343 : ML RX11 343 yX10_goWhileForced cX10_goWhileForced 4 none 1 := ⟨gi4 63 rfl rfl, gi4 66 rfl rfl, gi1 10 rfl rfl, by decide +kernel⟩
theorem fl_X12_260 : FL RX12 260 12 19 RX12 TX12 54 := ⟨rfl, by decide, by decide, by decide, inG12, gi6 206 rfl rfl⟩
theorem fp_12_19 : FP 12 19 TX12 54 tyX12 .int := ⟨rfl, tyX12_ok, nmX12, by decide +kernel, by decide⟩
theorem fl_X12_263 : FL RX12 263 12 21 RX12 TX12 54 := ⟨rfl, by decide, by decide, by decide, inG12, gi6 208 rfl rfl⟩
theorem fp_12_21 : FP 12 21 TX12 54 tyX12 .int := ⟨rfl, tyX12_ok, nmX12, by decide +kernel, by decide⟩
theorem fl_X12_269 : FL RX12 269 12 23 RX12 TX12 54 := ⟨rfl, by decide, by decide, by decide, inG12, gi6 210 rfl rfl⟩
theorem fp_12_23 : FP 12 23 TX12 54 tyX12 .boolean := ⟨rfl, tyX12_ok, nmX12, by decide +kernel, by decide⟩
theorem fl_X12_284 : FL RX12 284 12 22 RX12 TX12 54 := ⟨rfl, by decide, by decide, by decide, inG12, gi6 209 rfl rfl⟩
theorem fp_12_22 : FP 12 22 TX12 54 tyX12 .int := ⟨rfl, tyX12_ok, nmX12, by decide +kernel, by decide⟩
theorem fp_12_18 : FP 12 18 TX12 54 tyX12 .int := ⟨rfl, tyX12_ok, nmX12, by decide +kernel, by decide⟩
theorem im_X12_takes : Cond.instanceMethod yX12_takes ∈ gt := gi8 34 rfl rfl
theorem se_X12_takes : Cond.selects yX12_takes.cls yX12_takes yX12_takes ∈ gt := gs5 11 rfl
theorem ml_X12_280 : ML RX12 280 yX12_takes cX12_takes 6 none 2 := ⟨gi8 32 rfl rfl, gi8 35 rfl rfl, gi1 14 rfl rfl, by decide +kernel⟩
theorem im_X12_next : Cond.instanceMethod yX12_next ∈ gt := gi8 30 rfl rfl
theorem se_X12_next : Cond.selects yX12_next.cls yX12_next yX12_next ∈ gt := gs5 10 rfl
theorem ml_X12_273 : ML RX12 273 yX12_next cX12_next 8 (some .int) 3 := ⟨gi8 28 rfl rfl, gi8 31 rfl rfl, gi1 14 rfl rfl, by decide +kernel⟩
theorem im_X12_sows : Cond.instanceMethod yX12_sows ∈ gt := gi8 26 rfl rfl
theorem se_X12_sows : Cond.selects yX12_sows.cls yX12_sows yX12_sows ∈ gt := gs5 9 rfl
theorem ml_X12_296 : ML RX12 296 yX12_sows cX12_sows 8 none 2 := ⟨gi8 24 rfl rfl, gi8 27 rfl rfl, gi1 14 rfl rfl, by decide +kernel⟩
theorem im_X12_isFull : Cond.instanceMethod yX12_isFull ∈ gt := gi8 10 rfl rfl
theorem se_X12_isFull : Cond.selects yX12_isFull.cls yX12_isFull yX12_isFull ∈ gt := gs5 5 rfl
theorem ml_X12_299 : ML RX12 299 yX12_isFull cX12_isFull 2 (some .boolean) 1 := ⟨gi8 8 rfl rfl, gi8 11 rfl rfl, gi1 14 rfl rfl, by decide +kernel⟩
theorem im_X12_triesFrom : Cond.instanceMethod yX12_triesFrom ∈ gt := gi8 18 rfl rfl
theorem se_X12_triesFrom : Cond.selects yX12_triesFrom.cls yX12_triesFrom yX12_triesFrom ∈ gt := gs5 7 rfl
theorem ml_X12_302 : ML RX12 302 yX12_triesFrom cX12_triesFrom 2 none 1 := ⟨gi8 16 rfl rfl, gi8 19 rfl rfl, gi1 14 rfl rfl, by decide +kernel⟩
theorem im_X12_isOver : Cond.instanceMethod yX12_isOver ∈ gt := gi8 6 rfl rfl
theorem se_X12_isOver : Cond.selects yX12_isOver.cls yX12_isOver yX12_isOver ∈ gt := gs5 4 rfl
theorem ml_X12_305 : ML RX12 305 yX12_isOver cX12_isOver 2 (some .boolean) 0 := ⟨gi8 4 rfl rfl, gi8 7 rfl rfl, gi1 14 rfl rfl, by decide +kernel⟩
theorem im_X12_canFeed : Cond.instanceMethod yX12_canFeed ∈ gt := gi8 46 rfl rfl
theorem se_X12_canFeed : Cond.selects yX12_canFeed.cls yX12_canFeed yX12_canFeed ∈ gt := gs5 14 rfl
theorem ml_X12_308 : ML RX12 308 yX12_canFeed cX12_canFeed 2 (some .boolean) 0 := ⟨gi8 44 rfl rfl, gi8 47 rfl rfl, gi1 14 rfl rfl, by decide +kernel⟩
theorem im_X12_whyNot : Cond.instanceMethod yX12_whyNot ∈ gt := gi8 2 rfl rfl
theorem se_X12_whyNot : Cond.selects yX12_whyNot.cls yX12_whyNot yX12_whyNot ∈ gt := gs5 3 rfl
theorem ml_X12_311 : ML RX12 311 yX12_whyNot cX12_whyNot 2 (some .int) 1 := ⟨gi8 0 rfl rfl, gi8 3 rfl rfl, gi1 14 rfl rfl, by decide +kernel⟩
theorem im_X12_scoreNow : Cond.instanceMethod yX12_scoreNow ∈ gt := gi8 63 rfl rfl
theorem se_X12_scoreNow : Cond.selects yX12_scoreNow.cls yX12_scoreNow yX12_scoreNow ∈ gt := gs5 15 rfl
theorem ml_X12_316 : ML RX12 316 yX12_scoreNow cX12_scoreNow 3 (some .int) 0 := ⟨gi8 61 rfl rfl, gi8 64 rfl rfl, gi1 14 rfl rfl, by decide +kernel⟩
theorem im_X12_moves : Cond.instanceMethod yX12_moves ∈ gt := gi8 82 rfl rfl
theorem se_X12_moves : Cond.selects yX12_moves.cls yX12_moves yX12_moves ∈ gt := gs6 2 rfl
theorem ml_X12_326 : ML RX12 326 yX12_moves cX12_moves 3 (some .int) 1 := ⟨gi8 80 rfl rfl, gi8 83 rfl rfl, gi1 14 rfl rfl, by decide +kernel⟩
theorem im_X12_does : Cond.instanceMethod yX12_does ∈ gt := gi8 71 rfl rfl
theorem se_X12_does : Cond.selects yX12_does.cls yX12_does yX12_does ∈ gt := gs6 0 rfl
theorem ml_X12_329 : ML RX12 329 yX12_does cX12_does 2 (some .int) 1 := ⟨gi8 69 rfl rfl, gi8 72 rfl rfl, gi1 14 rfl rfl, by decide +kernel⟩
theorem cl_X12_338 : Cond.constantLong RX12 338 (12) ∈ gt := gi8 110 rfl rfl
theorem fl_X12_19 : FL RX12 19 12 3 RX12 TX12 54 := ⟨rfl, by decide, by decide, by decide, inG12, gi6 190 rfl rfl⟩
theorem ok175 : oK 175 = 20 := by decide +kernel
theorem on175 : oN 175 = 25 := by decide +kernel
theorem ot171_3 : oT 171 3 = 175 := by decide +kernel
theorem ml_X12_235 : ML RX12 235 yX12_copies cX12_copies 3 none 2 := ⟨gi7 202 rfl rfl, gi7 204 rfl rfl, gi1 14 rfl rfl, by decide +kernel⟩
theorem st_X12_copies : Cond.static yX12_copies ∈ gt := gi7 203 rfl rfl
theorem im_X12_whyTold : Cond.instanceMethod yX12_whyTold ∈ gt := gi8 108 rfl rfl
theorem se_X12_whyTold : Cond.selects yX12_whyTold.cls yX12_whyTold yX12_whyTold ∈ gt := gs6 4 rfl
theorem ml_X12_343 : ML RX12 343 yX12_whyTold cX12_whyTold 3 (some .int) 1 := ⟨gi8 106 rfl rfl, gi8 109 rfl rfl, gi1 14 rfl rfl, by decide +kernel⟩
theorem fl_X12_430 : FL RX12 430 12 44 RX12 TX12 54 := ⟨rfl, by decide, by decide, by decide, inG12, gi6 231 rfl rfl⟩
theorem fp_12_44 : FP 12 44 TX12 54 tyX12 .int := ⟨rfl, tyX12_ok, nmX12, by decide +kernel, by decide⟩
theorem fl_X12_85 : FL RX12 85 12 43 RX12 TX12 54 := ⟨rfl, by decide, by decide, by decide, inG12, gi6 230 rfl rfl⟩
theorem ok194 : oK 194 = 20 := by decide +kernel
theorem on194 : oN 194 = 61 := by decide +kernel
theorem ot171_43 : oT 171 43 = 194 := by decide +kernel
theorem fl_X12_82 : FL RX12 82 12 42 RX12 TX12 54 := ⟨rfl, by decide, by decide, by decide, inG12, gi6 229 rfl rfl⟩
theorem ok193 : oK 193 = 20 := by decide +kernel
theorem on193 : oN 193 = 60 := by decide +kernel
theorem ot171_42 : oT 171 42 = 193 := by decide +kernel
theorem im_X12_bestNow : Cond.instanceMethod yX12_bestNow ∈ gt := gi8 207 rfl rfl
theorem se_X12_bestNow : Cond.selects yX12_bestNow.cls yX12_bestNow yX12_bestNow ∈ gt := gs7 4 rfl
theorem ml_X12_416 : ML RX12 416 yX12_bestNow cX12_bestNow 2 (some .int) 0 := ⟨gi8 205 rfl rfl, gi8 208 rfl rfl, gi1 14 rfl rfl, by decide +kernel⟩
theorem im_X12_draw : Cond.instanceMethod yX12_draw ∈ gt := gi9 72 rfl rfl
theorem se_X12_draw : Cond.selects yX12_draw.cls yX12_draw yX12_draw ∈ gt := gs7 15 rfl
theorem ml_X12_462 : ML RX12 462 yX12_draw cX12_draw 2 (some .int) 1 := ⟨gi9 70 rfl rfl, gi9 73 rfl rfl, gi1 14 rfl rfl, by decide +kernel⟩
theorem fl_X12_465 : FL RX12 465 12 50 RX12 TX12 54 := ⟨rfl, by decide, by decide, by decide, inG12, gi6 237 rfl rfl⟩
theorem fp_12_50 : FP 12 50 TX12 54 tyX12 .int := ⟨rfl, tyX12_ok, nmX12, by decide +kernel, by decide⟩
theorem im_X12_drawn : Cond.instanceMethod yX12_drawn ∈ gt := gi9 68 rfl rfl
theorem se_X12_drawn : Cond.selects yX12_drawn.cls yX12_drawn yX12_drawn ∈ gt := gs7 14 rfl
theorem ml_X12_468 : ML RX12 468 yX12_drawn cX12_drawn 4 (some .int) 0 := ⟨gi9 66 rfl rfl, gi9 69 rfl rfl, gi1 14 rfl rfl, by decide +kernel⟩
theorem im_X12_playOf : Cond.instanceMethod yX12_playOf ∈ gt := gi9 64 rfl rfl
theorem se_X12_playOf : Cond.selects yX12_playOf.cls yX12_playOf yX12_playOf ∈ gt := gs7 13 rfl
theorem ml_X12_471 : ML RX12 471 yX12_playOf cX12_playOf 6 (some .int) 3 := ⟨gi9 62 rfl rfl, gi9 65 rfl rfl, gi1 14 rfl rfl, by decide +kernel⟩
theorem fl_X1_48 : FL RX1 48 5 3 RX5 TX5 9 := ⟨rfl, by decide, by decide, by decide, inG5, gi1 56 rfl rfl⟩
theorem fl_X1_63 : FL RX1 63 1 3 RX1 TX1 7 := ⟨rfl, by decide, by decide, by decide, inG1, gi1 135 rfl rfl⟩
theorem fp_1_3 : FP 1 3 TX1 7 tyX1 .boolean := ⟨rfl, tyX1_ok, nmX1, by decide +kernel, by decide⟩
theorem fl_X1_54 : FL RX1 54 5 6 RX5 TX5 9 := ⟨rfl, by decide, by decide, by decide, inG5, gi1 66 rfl rfl⟩
theorem im_X1_linkWay : Cond.instanceMethod yX1_linkWay ∈ gt := gi1 112 rfl rfl
theorem se_X1_linkWay : Cond.selects yX1_linkWay.cls yX1_linkWay yX1_linkWay ∈ gt := gs1 1 rfl
theorem ml_X1_41 : ML RX1 41 yX1_linkWay cX1_linkWay 7 none 1 := ⟨gi1 110 rfl rfl, gi1 113 rfl rfl, gi1 3 rfl rfl, by decide +kernel⟩
theorem im_X1_listSeen : Cond.instanceMethod yX1_listSeen ∈ gt := gi1 128 rfl rfl
theorem se_X1_listSeen : Cond.selects yX1_listSeen.cls yX1_listSeen yX1_listSeen ∈ gt := gs1 3 rfl
theorem ml_X1_45 : ML RX1 45 yX1_listSeen cX1_listSeen 4 none 1 := ⟨gi1 126 rfl rfl, gi1 129 rfl rfl, gi1 3 rfl rfl, by decide +kernel⟩
theorem im_X4_step : Cond.instanceMethod yX4_step ∈ gt := gi4 181 rfl rfl
theorem se_X4_step : Cond.selects yX4_step.cls yX4_step yX4_step ∈ gt := gs2 7 rfl
theorem ml_X4_49 : ML RX4 49 yX4_step cX4_step 1 none 0 := ⟨gi4 179 rfl rfl, gi4 182 rfl rfl, gi1 8 rfl rfl, by decide +kernel⟩
theorem im_X4_checkedNumber : Cond.instanceMethod yX4_checkedNumber ∈ gt := gi5 30 rfl rfl
theorem se_X4_checkedNumber : Cond.selects yX4_checkedNumber.cls yX4_checkedNumber yX4_checkedNumber ∈ gt := gs3 1 rfl
theorem ml_X4_127 : ML RX4 127 yX4_checkedNumber cX4_checkedNumber 3 (some .int) 2 := ⟨gi5 28 rfl rfl, gi5 31 rfl rfl, gi1 8 rfl rfl, by decide +kernel⟩
theorem fl_X4_105 : FL RX4 105 5 1 RX5 TX5 9 := ⟨rfl, by decide, by decide, by decide, inG5, gi1 49 rfl rfl⟩
theorem fl_X7_25 : FL RX7 25 7 7 RX7 TX7 13 := ⟨rfl, by decide, by decide, by decide, inG7, gi2 73 rfl rfl⟩
theorem im_X5_key : Cond.instanceMethod yX5_key ∈ gt := gi3 178 rfl rfl
theorem se_X5_key : Cond.selects yX5_key.cls yX5_key yX5_key ∈ gt := gi3 179 rfl rfl
theorem ml_X7_63 : ML RX7 63 yX5_key cX5_key 2 (some .int) 0 := ⟨gi3 177 rfl rfl, gi3 180 rfl rfl, gi1 2 rfl rfl, by decide +kernel⟩
theorem fl_X7_60 : FL RX7 60 7 6 RX7 TX7 13 := ⟨rfl, by decide, by decide, by decide, inG7, gi2 72 rfl rfl⟩
theorem fp_7_6 : FP 7 6 TX7 13 tyX7 .int := ⟨rfl, tyX7_ok, nmX7, by decide +kernel, by decide⟩
theorem fp_7_7 : FP 7 7 TX7 13 tyX7 .int := ⟨rfl, tyX7_ok, nmX7, by decide +kernel, by decide⟩
theorem im_X7_weighLevel : Cond.instanceMethod yX7_weighLevel ∈ gt := gi3 219 rfl rfl
theorem se_X7_weighLevel : Cond.selects yX7_weighLevel.cls yX7_weighLevel yX7_weighLevel ∈ gt := gs1 13 rfl
theorem ml_X7_79 : ML RX7 79 yX7_weighLevel cX7_weighLevel 5 none 1 := ⟨gi3 217 rfl rfl, gi3 220 rfl rfl, gi1 9 rfl rfl, by decide +kernel⟩
theorem im_X7_readPosition : Cond.instanceMethod yX7_readPosition ∈ gt := gi3 188 rfl rfl
theorem se_X7_readPosition : Cond.selects yX7_readPosition.cls yX7_readPosition yX7_readPosition ∈ gt := gs1 10 rfl
theorem ml_X7_75 : ML RX7 75 yX7_readPosition cX7_readPosition 8 none 3 := ⟨gi3 186 rfl rfl, gi3 189 rfl rfl, gi1 9 rfl rfl, by decide +kernel⟩
theorem fl_X11_63 : FL RX11 63 11 7 RX11 TX11 12 := ⟨rfl, by decide, by decide, by decide, inG11, gi2 237 rfl rfl⟩
theorem ot0_7 : oT 0 7 = 15 := by decide +kernel
theorem im_X7_reach : Cond.instanceMethod yX7_reach ∈ gt := gi3 170 rfl rfl
theorem se_X7_reach : Cond.selects yX7_reach.cls yX7_reach yX7_reach ∈ gt := gi3 171 rfl rfl
theorem ml_X11_259 : ML RX11 259 yX7_reach cX7_reach 6 (some .boolean) 1 := ⟨gi3 169 rfl rfl, gi3 172 rfl rfl, gi1 9 rfl rfl, by decide +kernel⟩
theorem ml_X11_263 : ML RX11 263 yX7_valueAt cX7_valueAt 2 (some .int) 1 := ⟨gi3 229 rfl rfl, gi3 232 rfl rfl, gi1 9 rfl rfl, by decide +kernel⟩
theorem im_X7_rankAt : Cond.instanceMethod yX7_rankAt ∈ gt := gi3 239 rfl rfl
theorem se_X7_rankAt : Cond.selects yX7_rankAt.cls yX7_rankAt yX7_rankAt ∈ gt := gi4 0 rfl rfl
theorem ml_X11_266 : ML RX11 266 yX7_rankAt cX7_rankAt 2 (some .int) 1 := ⟨gi3 238 rfl rfl, gi4 1 rfl rfl, gi1 9 rfl rfl, by decide +kernel⟩
theorem ml_X11_269 : ML RX11 269 yX7_bestAt cX7_bestAt 8 (some .int) 1 := ⟨gi4 10 rfl rfl, gi4 13 rfl rfl, gi1 9 rfl rfl, by decide +kernel⟩
theorem ml_X11_171 : ML RX11 171 yX8_isOwn cX8_isOwn 6 (some .boolean) 2 := ⟨gi4 23 rfl rfl, gi3 77 rfl rfl, gi1 5 rfl rfl, by decide +kernel⟩
theorem im_X7_worthBy : Cond.instanceMethod yX7_worthBy ∈ gt := gi4 25 rfl rfl
theorem se_X7_worthBy : Cond.selects yX7_worthBy.cls yX7_worthBy yX7_worthBy ∈ gt := gi4 26 rfl rfl
theorem ml_X11_272 : ML RX11 272 yX7_worthBy cX7_worthBy 3 (some .int) 2 := ⟨gi4 24 rfl rfl, gi4 27 rfl rfl, gi1 9 rfl rfl, by decide +kernel⟩
theorem im_X5_copy : Cond.instanceMethod yX5_copy ∈ gt := gi5 69 rfl rfl
theorem se_X5_copy : Cond.selects yX5_copy.cls yX5_copy yX5_copy ∈ gt := gi5 70 rfl rfl
theorem ml_X11_382 : ML RX11 382 yX5_copy cX5_copy 2 none 1 := ⟨gi5 68 rfl rfl, gi5 71 rfl rfl, gi1 2 rfl rfl, by decide +kernel⟩
theorem im_X1_build : Cond.instanceMethod yX1_build ∈ gt := gi1 107 rfl rfl
theorem se_X1_build : Cond.selects yX1_build.cls yX1_build yX1_build ∈ gt := gi1 108 rfl rfl
theorem ml_X11_405 : ML RX11 405 yX1_build cX1_build 2 none 0 := ⟨gi5 72 rfl rfl, gi1 109 rfl rfl, gi1 3 rfl rfl, by decide +kernel⟩
theorem im_X3_forget : Cond.instanceMethod yX3_forget ∈ gt := gi5 74 rfl rfl
theorem se_X3_forget : Cond.selects yX3_forget.cls yX3_forget yX3_forget ∈ gt := gi5 75 rfl rfl
theorem ml_X11_408 : ML RX11 408 yX3_forget cX3_forget 1 none 0 := ⟨gi5 73 rfl rfl, gi5 76 rfl rfl, gi1 7 rfl rfl, by decide +kernel⟩
theorem im_X12_laysMove : Cond.instanceMethod yX12_laysMove ∈ gt := gi8 174 rfl rfl
theorem se_X12_laysMove : Cond.selects yX12_laysMove.cls yX12_laysMove yX12_laysMove ∈ gt := gs6 14 rfl
theorem ml_X12_387 : ML RX12 387 yX12_laysMove cX12_laysMove 7 none 4 := ⟨gi8 172 rfl rfl, gi8 175 rfl rfl, gi1 14 rfl rfl, by decide +kernel⟩
theorem im_X12_only : Cond.instanceMethod yX12_only ∈ gt := gi9 56 rfl rfl
theorem se_X12_only : Cond.selects yX12_only.cls yX12_only yX12_only ∈ gt := gs7 12 rfl
theorem ml_X12_455 : ML RX12 455 yX12_only cX12_only 3 (some .int) 0 := ⟨gi9 54 rfl rfl, gi9 57 rfl rfl, gi1 14 rfl rfl, by decide +kernel⟩
theorem fl_X4_124 : FL RX4 124 5 0 RX5 TX5 9 := ⟨rfl, by decide, by decide, by decide, inG5, gi1 44 rfl rfl⟩
theorem im_X4_readNumber : Cond.instanceMethod yX4_readNumber ∈ gt := gi5 26 rfl rfl
theorem se_X4_readNumber : Cond.selects yX4_readNumber.cls yX4_readNumber yX4_readNumber ∈ gt := gs3 0 rfl
theorem ml_X4_97 : ML RX4 97 yX4_readNumber cX4_readNumber 4 (some .int) 2 := ⟨gi5 24 rfl rfl, gi5 27 rfl rfl, gi1 8 rfl rfl, by decide +kernel⟩
theorem im_X12_areRules : Cond.instanceMethod yX12_areRules ∈ gt := gi8 162 rfl rfl
theorem se_X12_areRules : Cond.selects yX12_areRules.cls yX12_areRules yX12_areRules ∈ gt := gs6 11 rfl
theorem ml_X12_375 : ML RX12 375 yX12_areRules cX12_areRules 3 (some .boolean) 0 := ⟨gi8 160 rfl rfl, gi8 163 rfl rfl, gi1 14 rfl rfl, by decide +kernel⟩
theorem fl_X12_76 : FL RX12 76 12 40 RX12 TX12 54 := ⟨rfl, by decide, by decide, by decide, inG12, gi6 227 rfl rfl⟩
theorem fl_X12_79 : FL RX12 79 12 41 RX12 TX12 54 := ⟨rfl, by decide, by decide, by decide, inG12, gi6 228 rfl rfl⟩
theorem ok192 : oK 192 = 20 := by decide +kernel
theorem on192 : oN 192 = 25 := by decide +kernel
theorem ot171_41 : oT 171 41 = 192 := by decide +kernel
theorem im_X12_laysMoves : Cond.instanceMethod yX12_laysMoves ∈ gt := gi8 166 rfl rfl
theorem se_X12_laysMoves : Cond.selects yX12_laysMoves.cls yX12_laysMoves yX12_laysMoves ∈ gt := gs6 12 rfl
theorem ml_X12_378 : ML RX12 378 yX12_laysMoves cX12_laysMoves 6 none 1 := ⟨gi8 164 rfl rfl, gi8 167 rfl rfl, gi1 14 rfl rfl, by decide +kernel⟩
theorem im_X12_settles : Cond.instanceMethod yX12_settles ∈ gt := gi8 178 rfl rfl
theorem se_X12_settles : Cond.selects yX12_settles.cls yX12_settles yX12_settles ∈ gt := gs6 15 rfl
theorem ml_X12_381 : ML RX12 381 yX12_settles cX12_settles 7 none 1 := ⟨gi8 176 rfl rfl, gi8 179 rfl rfl, gi1 14 rfl rfl, by decide +kernel⟩
theorem fp_12_40 : FP 12 40 TX12 54 tyX12 .int := ⟨rfl, tyX12_ok, nmX12, by decide +kernel, by decide⟩
theorem im_X12_solves : Cond.instanceMethod yX12_solves ∈ gt := gi8 158 rfl rfl
theorem se_X12_solves : Cond.selects yX12_solves.cls yX12_solves yX12_solves ∈ gt := gs6 10 rfl
theorem ml_X12_407 : ML RX12 407 yX12_solves cX12_solves 5 (some .boolean) 1 := ⟨gi8 156 rfl rfl, gi8 159 rfl rfl, gi1 14 rfl rfl, by decide +kernel⟩
theorem im_X12_valueOf : Cond.instanceMethod yX12_valueOf ∈ gt := gi8 218 rfl rfl
theorem se_X12_valueOf : Cond.selects yX12_valueOf.cls yX12_valueOf yX12_valueOf ∈ gt := gi8 219 rfl rfl
theorem ml_X12_419 : ML RX12 419 yX12_valueOf cX12_valueOf 4 (some .int) 3 := ⟨gi8 229 rfl rfl, gi8 220 rfl rfl, gi1 14 rfl rfl, by decide +kernel⟩
theorem im_X12_canAt : Cond.instanceMethod yX12_canAt ∈ gt := gi8 233 rfl rfl
theorem se_X12_canAt : Cond.selects yX12_canAt.cls yX12_canAt yX12_canAt ∈ gt := gs7 6 rfl
theorem ml_X12_424 : ML RX12 424 yX12_canAt cX12_canAt 5 (some .int) 2 := ⟨gi8 231 rfl rfl, gi8 234 rfl rfl, gi1 14 rfl rfl, by decide +kernel⟩
theorem cl_X12_422 : Cond.constantLong RX12 422 (10) ∈ gt := gi8 230 rfl rfl
theorem cl_X12_428 : Cond.constantLong RX12 428 (5) ∈ gt := gi9 3 rfl rfl
theorem im_X12_goesOn : Cond.instanceMethod yX12_goesOn ∈ gt := gi9 14 rfl rfl
theorem se_X12_goesOn : Cond.selects yX12_goesOn.cls yX12_goesOn yX12_goesOn ∈ gt := gs7 7 rfl
theorem ml_X12_433 : ML RX12 433 yX12_goesOn cX12_goesOn 2 (some .boolean) 0 := ⟨gi9 12 rfl rfl, gi9 15 rfl rfl, gi1 14 rfl rfl, by decide +kernel⟩
