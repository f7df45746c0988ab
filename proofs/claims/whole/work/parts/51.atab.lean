theorem fl_X12_88 : FL RX12 88 12 45 RX12 TX12 54 := ⟨rfl, by decide, by decide, by decide, inG12, gi6 232 rfl rfl⟩
theorem ot171_45 : oT 171 45 = 195 := by decide +kernel
theorem im_X12_playsOf : Cond.instanceMethod yX12_playsOf ∈ gt := gi9 22 rfl rfl
theorem se_X12_playsOf : Cond.selects yX12_playsOf.cls yX12_playsOf yX12_playsOf ∈ gt := gs7 8 rfl
theorem ml_X12_436 : ML RX12 436 yX12_playsOf cX12_playsOf 4 (some .int) 1 := ⟨gi9 20 rfl rfl, gi9 23 rfl rfl, gi1 14 rfl rfl, by decide +kernel⟩
theorem im_X12_reaches : Cond.instanceMethod yX12_reaches ∈ gt := gi9 31 rfl rfl
theorem se_X12_reaches : Cond.selects yX12_reaches.cls yX12_reaches yX12_reaches ∈ gt := gs7 9 rfl
theorem ml_X12_445 : ML RX12 445 yX12_reaches cX12_reaches 3 none 1 := ⟨gi9 29 rfl rfl, gi9 32 rfl rfl, gi1 14 rfl rfl, by decide +kernel⟩
theorem fl_X12_439 : FL RX12 439 12 47 RX12 TX12 54 := ⟨rfl, by decide, by decide, by decide, inG12, gi6 234 rfl rfl⟩
theorem fp_12_47 : FP 12 47 TX12 54 tyX12 .int := ⟨rfl, tyX12_ok, nmX12, by decide +kernel, by decide⟩
theorem im_X12_isBoard : Cond.instanceMethod yX12_isBoard ∈ gt := gi9 35 rfl rfl
theorem se_X12_isBoard : Cond.selects yX12_isBoard.cls yX12_isBoard yX12_isBoard ∈ gt := gs7 10 rfl
theorem ml_X12_442 : ML RX12 442 yX12_isBoard cX12_isBoard 3 (some .boolean) 1 := ⟨gi9 33 rfl rfl, gi9 36 rfl rfl, gi1 14 rfl rfl, by decide +kernel⟩
theorem cl_X12_448 : Cond.constantLong RX12 448 (4) ∈ gt := gi9 28 rfl rfl
theorem im_X12_ends : Cond.instanceMethod yX12_ends ∈ gt := gi9 43 rfl rfl
theorem se_X12_ends : Cond.selects yX12_ends.cls yX12_ends yX12_ends ∈ gt := gs7 11 rfl
theorem ml_X12_450 : ML RX12 450 yX12_ends cX12_ends 4 (some .boolean) 1 := ⟨gi9 41 rfl rfl, gi9 44 rfl rfl, gi1 14 rfl rfl, by decide +kernel⟩
theorem fl_X12_94 : FL RX12 94 12 48 RX12 TX12 54 := ⟨rfl, by decide, by decide, by decide, inG12, gi6 235 rfl rfl⟩
theorem ok197 : oK 197 = 20 := by decide +kernel
theorem on197 : oN 197 = 7 := by decide +kernel
theorem ot171_48 : oT 171 48 = 197 := by decide +kernel
theorem ml_X0_58 : ML RX0 58 yX8_choices cX8_choices 2 (some .int) 1 := ⟨gi4 52 rfl rfl, gi3 54 rfl rfl, gi1 5 rfl rfl, by decide +kernel⟩
theorem mn_X0_68 : MLN RX0 68 yX11_has "SowingHouse" cX11_has 2 (some .boolean) 2 := ⟨gn4 53 rfl rfl, gi3 97 rfl rfl, gi1 1 rfl rfl, by decide +kernel⟩
theorem im_X0_goDown : Cond.instanceMethod yX0_goDown ∈ gt := gi4 56 rfl rfl
theorem se_X0_goDown : Cond.selects yX0_goDown.cls yX0_goDown yX0_goDown ∈ gt := gs2 3 rfl
theorem ml_X0_72 : ML RX0 72 yX0_goDown cX0_goDown 3 none 2 := ⟨gi4 54 rfl rfl, gi4 57 rfl rfl, gi1 11 rfl rfl, by decide +kernel⟩
theorem im_X0_countRows : Cond.instanceMethod yX0_countRows ∈ gt := gi6 60 rfl rfl
theorem se_X0_countRows : Cond.selects yX0_countRows.cls yX0_countRows yX0_countRows ∈ gt := gs3 13 rfl
theorem ml_X0_54 : ML RX0 54 yX0_countRows cX0_countRows 6 (some .int) 2 := ⟨gi6 58 rfl rfl, gi6 61 rfl rfl, gi1 11 rfl rfl, by decide +kernel⟩
theorem ml_X0_62 : ML RX0 62 yJ6_bitCount_0f7a4 cJ6_bitCount_0f7a4 1 (some .int) 1 := ⟨gi6 62 rfl rfl, gi4 75 rfl rfl, gi1 27 rfl rfl, by decide +kernel⟩
theorem im_X0_note : Cond.instanceMethod yX0_note ∈ gt := gi6 80 rfl rfl
theorem se_X0_note : Cond.selects yX0_note.cls yX0_note yX0_note ∈ gt := gs3 15 rfl
theorem ml_X0_83 : ML RX0 83 yX0_note cX0_note 11 none 1 := ⟨gi6 78 rfl rfl, gi6 81 rfl rfl, gi1 11 rfl rfl, by decide +kernel⟩
theorem im_X0_gather : Cond.instanceMethod yX0_gather ∈ gt := gi6 76 rfl rfl
theorem se_X0_gather : Cond.selects yX0_gather.cls yX0_gather yX0_gather ∈ gt := gs3 14 rfl
theorem ml_X0_80 : ML RX0 80 yX0_gather cX0_gather 5 none 2 := ⟨gi6 74 rfl rfl, gi6 77 rfl rfl, gi1 11 rfl rfl, by decide +kernel⟩
theorem ml_X0_125 : ML RX0 125 yX8_isOver cX8_isOver 4 (some .boolean) 1 := ⟨gi4 51 rfl rfl, gi3 139 rfl rfl, gi1 5 rfl rfl, by decide +kernel⟩
theorem fl_X0_9 : FL RX0 9 0 0 RX0 TX0 12 := ⟨rfl, by decide, by decide, by decide, inG0, gi2 148 rfl rfl⟩
theorem ok26 : oK 26 = 20 := by decide +kernel
theorem on26 : oN 26 = 6 := by decide +kernel
theorem ot25_0 : oT 25 0 = 26 := by decide +kernel
theorem im_X0_endsWithin : Cond.instanceMethod yX0_endsWithin ∈ gt := gi4 49 rfl rfl
theorem se_X0_endsWithin : Cond.selects yX0_endsWithin.cls yX0_endsWithin yX0_endsWithin ∈ gt := gs2 2 rfl
theorem ml_X0_122 : ML RX0 122 yX0_endsWithin cX0_endsWithin 5 (some .boolean) 2 := ⟨gi4 47 rfl rfl, gi4 50 rfl rfl, gi1 11 rfl rfl, by decide +kernel⟩
theorem ok155 : oK 155 = 6 := by decide +kernel
theorem fl_X0_102 : FL RX0 102 0 7 RX0 TX0 12 := ⟨rfl, by decide, by decide, by decide, inG0, gi2 156 rfl rfl⟩
theorem fp_0_7 : FP 0 7 TX0 12 tyX0 .boolean := ⟨rfl, tyX0_ok, nmX0, by decide +kernel, by decide⟩
theorem fl_X0_36 : FL RX0 36 0 1 RX0 TX0 12 := ⟨rfl, by decide, by decide, by decide, inG0, gi2 150 rfl rfl⟩
theorem ot25_1 : oT 25 1 = 1 := by decide +kernel
theorem ml_X0_109 : ML RX0 109 yX5_key cX5_key 2 (some .int) 0 := ⟨gi4 41 rfl rfl, gi3 180 rfl rfl, gi1 2 rfl rfl, by decide +kernel⟩
theorem fl_X0_106 : FL RX0 106 0 5 RX0 TX0 12 := ⟨rfl, by decide, by decide, by decide, inG0, gi2 154 rfl rfl⟩
theorem fp_0_5 : FP 0 5 TX0 12 tyX0 .int := ⟨rfl, tyX0_ok, nmX0, by decide +kernel, by decide⟩
theorem fl_X0_22 : FL RX0 22 0 4 RX0 TX0 12 := ⟨rfl, by decide, by decide, by decide, inG0, gi2 153 rfl rfl⟩
theorem ok169 : oK 169 = 6 := by decide +kernel
theorem ot25_4 : oT 25 4 = 169 := by decide +kernel
theorem fl_X0_119 : FL RX0 119 0 6 RX0 TX0 12 := ⟨rfl, by decide, by decide, by decide, inG0, gi2 155 rfl rfl⟩
theorem fp_0_6 : FP 0 6 TX0 12 tyX0 .int := ⟨rfl, tyX0_ok, nmX0, by decide +kernel, by decide⟩
theorem im_X6_isLike : Cond.instanceMethod yX6_isLike ∈ gt := gi4 43 rfl rfl
theorem se_X6_isLike : Cond.selects yX6_isLike.cls yX6_isLike yX6_isLike ∈ gt := gi4 44 rfl rfl
theorem ml_X0_115 : ML RX0 115 yX6_isLike cX6_isLike 3 (some .boolean) 1 := ⟨gi4 42 rfl rfl, gi4 45 rfl rfl, gi1 6 rfl rfl, by decide +kernel⟩
theorem fl_X11_81 : FL RX11 81 11 9 RX11 TX11 12 := ⟨rfl, by decide, by decide, by decide, inG11, gi2 239 rfl rfl⟩
theorem ot0_9 : oT 0 9 = 25 := by decide +kernel
theorem im_X0_seekEnd : Cond.instanceMethod yX0_seekEnd ∈ gt := gi4 38 rfl rfl
theorem se_X0_seekEnd : Cond.selects yX0_seekEnd.cls yX0_seekEnd yX0_seekEnd ∈ gt := gi4 39 rfl rfl
theorem ml_X11_331 : ML RX11 331 yX0_seekEnd cX0_seekEnd 3 (some .int) 1 := ⟨gi4 37 rfl rfl, gi4 40 rfl rfl, gi1 11 rfl rfl, by decide +kernel⟩
theorem fl_X11_334 : FL RX11 334 0 0 RX0 TX0 12 := ⟨rfl, by decide, by decide, by decide, inG0, gi2 149 rfl rfl⟩
