theorem inG2 : ∀ w ∈ u_ws RX2 TX2 3, w ∈ gt := List.forall_mem_cons.mpr ⟨gi2 223 rfl rfl, List.forall_mem_cons.mpr ⟨gi2 225 rfl rfl, List.forall_mem_cons.mpr ⟨gi2 227 rfl rfl, fun _ h => absurd h List.not_mem_nil⟩⟩⟩
theorem fl_X11_87 : FL RX11 87 11 10 RX11 TX11 12 := ⟨rfl, by decide, by decide, by decide, inG11, gi3 0 rfl rfl⟩
theorem ok31 : oK 31 = 24 := by decide +kernel
theorem on31 : oN 31 = 4 := by decide +kernel
theorem ot0_10 : oT 0 10 = 31 := by decide +kernel
theorem im_X11_anyTray : Cond.instanceMethod yX11_anyTray ∈ gt := gi5 156 rfl rfl
theorem se_X11_anyTray : Cond.selects yX11_anyTray.cls yX11_anyTray yX11_anyTray ∈ gt := gs3 9 rfl
theorem ml_X11_353 : ML RX11 353 yX11_anyTray cX11_anyTray 2 (some (.object "SowingHouse$Tray")) 1 := ⟨gi5 154 rfl rfl, gi5 157 rfl rfl, gi1 1 rfl rfl, by decide +kernel⟩
theorem fl_X11_398 : FL RX11 398 9 1 RX9 TX9 3 := ⟨rfl, by decide, by decide, by decide, inG9, gi2 199 rfl rfl⟩
theorem fl_X11_93 : FL RX11 93 11 11 RX11 TX11 12 := ⟨rfl, by decide, by decide, by decide, inG11, gi3 1 rfl rfl⟩
theorem ok32 : oK 32 = 25 := by decide +kernel
theorem on32 : oN 32 = 3 := by decide +kernel
theorem ot0_11 : oT 0 11 = 32 := by decide +kernel
theorem im_X11_seedsOrLacking : Cond.instanceMethod yX11_seedsOrLacking ∈ gt := gi5 103 rfl rfl
theorem se_X11_seedsOrLacking : Cond.selects yX11_seedsOrLacking.cls yX11_seedsOrLacking yX11_seedsOrLacking ∈ gt := gs3 7 rfl
theorem ml_X11_142 : ML RX11 142 yX11_seedsOrLacking cX11_seedsOrLacking 3 (some .int) 2 := ⟨gi5 101 rfl rfl, gi5 104 rfl rfl, gi1 1 rfl rfl, by decide +kernel⟩
theorem ml_X11_146 : ML RX11 146 yX11_needSide cX11_needSide 1 none 1 := ⟨gi5 113 rfl rfl, gi5 115 rfl rfl, gi1 1 rfl rfl, by decide +kernel⟩
theorem st_X11_needSide : Cond.static yX11_needSide ∈ gt := gi5 114 rfl rfl
theorem ok54 : oK 54 = 20 := by decide +kernel
theorem on54 : oN 54 = 14 := by decide +kernel
theorem ot53_0 : oT 53 0 = 54 := by decide +kernel
theorem fl_X11_189 : FL RX11 189 8 1 RX8 TX8 8 := ⟨rfl, by decide, by decide, by decide, inG8, gi1 191 rfl rfl⟩
theorem ml_X11_229 : ML RX11 229 yX11_needSeeds cX11_needSeeds 1 none 1 := ⟨gi5 174 rfl rfl, gi5 176 rfl rfl, gi1 1 rfl rfl, by decide +kernel⟩
theorem st_X11_needSeeds : Cond.static yX11_needSeeds ∈ gt := gi5 175 rfl rfl
theorem ml_X11_244 : ML RX11 244 yX11_needPosition cX11_needPosition 2 none 2 := ⟨gi5 187 rfl rfl, gi5 189 rfl rfl, gi1 1 rfl rfl, by decide +kernel⟩
theorem st_X11_needPosition : Cond.static yX11_needPosition ∈ gt := gi5 188 rfl rfl
theorem ml_X11_251 : ML RX11 251 yX1_lay cX1_lay 11 none 4 := ⟨gi5 206 rfl rfl, gi3 197 rfl rfl, gi1 3 rfl rfl, by decide +kernel⟩
theorem ml_X11_255 : ML RX11 255 yX1_pitAsSeen cX1_pitAsSeen 4 (some .int) 2 := ⟨gi5 207 rfl rfl, gi1 121 rfl rfl, gi1 3 rfl rfl, by decide +kernel⟩
theorem im_X9_lay : Cond.instanceMethod yX9_lay ∈ gt := gi6 133 rfl rfl
theorem se_X9_lay : Cond.selects yX9_lay.cls yX9_lay yX9_lay ∈ gt := gi6 134 rfl rfl
theorem ml_X11_358 : ML RX11 358 yX9_lay cX9_lay 4 none 2 := ⟨gi6 132 rfl rfl, gi6 135 rfl rfl, gi1 12 rfl rfl, by decide +kernel⟩
theorem im_X11_laidTray : Cond.instanceMethod yX11_laidTray ∈ gt := gi5 152 rfl rfl
theorem se_X11_laidTray : Cond.selects yX11_laidTray.cls yX11_laidTray yX11_laidTray ∈ gt := gs3 8 rfl
theorem ml_X11_218 : ML RX11 218 yX11_laidTray cX11_laidTray 3 (some (.object "SowingHouse$Tray")) 1 := ⟨gi5 150 rfl rfl, gi5 153 rfl rfl, gi1 1 rfl rfl, by decide +kernel⟩
theorem fl_X11_222 : FL RX11 222 9 2 RX9 TX9 3 := ⟨rfl, by decide, by decide, by decide, inG9, gi2 201 rfl rfl⟩
theorem fl_X11_225 : FL RX11 225 9 0 RX9 TX9 3 := ⟨rfl, by decide, by decide, by decide, inG9, gi2 197 rfl rfl⟩
theorem im_X9_cut : Cond.instanceMethod yX9_cut ∈ gt := gi6 145 rfl rfl
theorem se_X9_cut : Cond.selects yX9_cut.cls yX9_cut yX9_cut ∈ gt := gi6 146 rfl rfl
theorem ml_X11_362 : ML RX11 362 yX9_cut cX9_cut 3 (some .long) 1 := ⟨gi6 144 rfl rfl, gi6 147 rfl rfl, gi1 12 rfl rfl, by decide +kernel⟩
theorem mm_X11_366 : Cond.methodLink RX11 366 Lib.Math.min.name ∈ gt := gi6 155 rfl rfl
theorem im_X3_moveAt : Cond.instanceMethod yX3_moveAt ∈ gt := gi6 157 rfl rfl
theorem se_X3_moveAt : Cond.selects yX3_moveAt.cls yX3_moveAt yX3_moveAt ∈ gt := gi6 158 rfl rfl
theorem ml_X11_371 : ML RX11 371 yX3_moveAt cX3_moveAt 2 (some .int) 1 := ⟨gi6 156 rfl rfl, gi6 159 rfl rfl, gi1 7 rfl rfl, by decide +kernel⟩
theorem im_X11_anyImage : Cond.instanceMethod yX11_anyImage ∈ gt := gi6 169 rfl rfl
theorem se_X11_anyImage : Cond.selects yX11_anyImage.cls yX11_anyImage yX11_anyImage ∈ gt := gs4 2 rfl
theorem ml_X11_374 : ML RX11 374 yX11_anyImage cX11_anyImage 2 (some (.object "SowingHouse$Image")) 1 := ⟨gi6 167 rfl rfl, gi6 170 rfl rfl, gi1 1 rfl rfl, by decide +kernel⟩
theorem fl_X11_378 : FL RX11 378 2 0 RX2 TX2 3 := ⟨rfl, by decide, by decide, by decide, inG2, gi2 218 rfl rfl⟩
theorem fp_2_0 : FP 2 0 TX2 3 tyX2 .boolean := ⟨rfl, tyX2_ok, nmX2, by decide +kernel, by decide⟩
theorem fl_X11_381 : FL RX11 381 2 1 RX2 TX2 3 := ⟨rfl, by decide, by decide, by decide, inG2, gi2 220 rfl rfl⟩
theorem fl_X11_384 : FL RX11 384 2 2 RX2 TX2 3 := ⟨rfl, by decide, by decide, by decide, inG2, gi2 222 rfl rfl⟩
theorem ml_X11_290 : ML RX11 290 yX8_choices cX8_choices 2 (some .int) 1 := ⟨gi6 2 rfl rfl, gi3 54 rfl rfl, gi1 5 rfl rfl, by decide +kernel⟩
theorem ml_X11_337 : ML RX11 337 yX11_has cX11_has 2 (some .boolean) 2 := ⟨gi6 95 rfl rfl, gi3 97 rfl rfl, gi1 1 rfl rfl, by decide +kernel⟩
theorem im_X11_isNotable : Cond.instanceMethod yX11_isNotable ∈ gt := gi6 98 rfl rfl
theorem se_X11_isNotable : Cond.selects yX11_isNotable.cls yX11_isNotable yX11_isNotable ∈ gt := gs4 0 rfl
theorem ml_X11_340 : ML RX11 340 yX11_isNotable cX11_isNotable 3 (some .boolean) 2 := ⟨gi6 96 rfl rfl, gi6 99 rfl rfl, gi1 1 rfl rfl, by decide +kernel⟩
theorem im_X10_goByDraws : Cond.instanceMethod yX10_goByDraws ∈ gt := gi6 109 rfl rfl
theorem se_X10_goByDraws : Cond.selects yX10_goByDraws.cls yX10_goByDraws yX10_goByDraws ∈ gt := gi6 110 rfl rfl
theorem ml_X11_346 : ML RX11 346 yX10_goByDraws cX10_goByDraws 7 none 3 := ⟨gi6 108 rfl rfl, gi6 111 rfl rfl, gi1 10 rfl rfl, by decide +kernel⟩
theorem im_X11_toldOfPlay : Cond.instanceMethod yX11_toldOfPlay ∈ gt := gi6 115 rfl rfl
theorem se_X11_toldOfPlay : Cond.selects yX11_toldOfPlay.cls yX11_toldOfPlay yX11_toldOfPlay ∈ gt := gs4 1 rfl
theorem ml_X11_350 : ML RX11 350 yX11_toldOfPlay cX11_toldOfPlay 2 (some .int) 1 := ⟨gi6 113 rfl rfl, gi6 116 rfl rfl, gi1 1 rfl rfl, by decide +kernel⟩
theorem im_X11_laySolved : Cond.instanceMethod yX11_laySolved ∈ gt := gi5 217 rfl rfl
theorem se_X11_laySolved : Cond.selects yX11_laySolved.cls yX11_laySolved yX11_laySolved ∈ gt := gs3 10 rfl
theorem ml_X11_275 : ML RX11 275 yX11_laySolved cX11_laySolved 4 none 3 := ⟨gi5 215 rfl rfl, gi5 218 rfl rfl, gi1 1 rfl rfl, by decide +kernel⟩
theorem im_X11_needSolved : Cond.instanceMethod yX11_needSolved ∈ gt := gi5 228 rfl rfl
theorem se_X11_needSolved : Cond.selects yX11_needSolved.cls yX11_needSolved yX11_needSolved ∈ gt := gs3 11 rfl
theorem ml_X11_279 : ML RX11 279 yX11_needSolved cX11_needSolved 2 none 1 := ⟨gi5 226 rfl rfl, gi5 229 rfl rfl, gi1 1 rfl rfl, by decide +kernel⟩
theorem ml_X11_282 : ML RX11 282 yX7_indexOf cX7_indexOf 4 (some .int) 3 := ⟨gi5 230 rfl rfl, gi3 193 rfl rfl, gi1 9 rfl rfl, by decide +kernel⟩
theorem im_X7_isOfKind : Cond.instanceMethod yX7_isOfKind ∈ gt := gi5 232 rfl rfl
theorem se_X7_isOfKind : Cond.selects yX7_isOfKind.cls yX7_isOfKind yX7_isOfKind ∈ gt := gi5 233 rfl rfl
theorem ml_X11_286 : ML RX11 286 yX7_isOfKind cX7_isOfKind 3 (some .boolean) 2 := ⟨gi5 231 rfl rfl, gi5 234 rfl rfl, gi1 9 rfl rfl, by decide +kernel⟩
theorem im_X7_manyBest : Cond.instanceMethod yX7_manyBest ∈ gt := gi6 4 rfl rfl
theorem se_X7_manyBest : Cond.selects yX7_manyBest.cls yX7_manyBest yX7_manyBest ∈ gt := gi6 5 rfl rfl
theorem ml_X11_298 : ML RX11 298 yX7_manyBest cX7_manyBest 6 (some .int) 1 := ⟨gi6 3 rfl rfl, gi6 6 rfl rfl, gi1 9 rfl rfl, by decide +kernel⟩
theorem fl_X11_301 : FL RX11 301 7 0 RX7 TX7 13 := ⟨rfl, by decide, by decide, by decide, inG7, gi2 66 rfl rfl⟩
theorem im_X7_measure : Cond.instanceMethod yX7_measure ∈ gt := gi6 22 rfl rfl
theorem se_X7_measure : Cond.selects yX7_measure.cls yX7_measure yX7_measure ∈ gt := gi6 23 rfl rfl
theorem ml_X11_304 : ML RX11 304 yX7_measure cX7_measure 3 (some .int) 2 := ⟨gi6 21 rfl rfl, gi6 24 rfl rfl, gi1 9 rfl rfl, by decide +kernel⟩
theorem im_X10_goByBest : Cond.instanceMethod yX10_goByBest ∈ gt := gi6 34 rfl rfl
theorem se_X10_goByBest : Cond.selects yX10_goByBest.cls yX10_goByBest yX10_goByBest ∈ gt := gi6 35 rfl rfl
theorem ml_X11_309 : ML RX11 309 yX10_goByBest cX10_goByBest 4 none 1 := ⟨gi6 33 rfl rfl, gi6 36 rfl rfl, gi1 10 rfl rfl, by decide +kernel⟩
theorem fl_X11_315 : FL RX11 315 10 3 RX10 TX10 7 := ⟨rfl, by decide, by decide, by decide, inG10, gi2 121 rfl rfl⟩
theorem fl_X11_320 : FL RX11 320 10 1 RX10 TX10 7 := ⟨rfl, by decide, by decide, by decide, inG10, gi2 117 rfl rfl⟩
theorem im_X0_countFrom : Cond.instanceMethod yX0_countFrom ∈ gt := gi6 55 rfl rfl
theorem se_X0_countFrom : Cond.selects yX0_countFrom.cls yX0_countFrom yX0_countFrom ∈ gt := gi6 56 rfl rfl
theorem ml_X11_325 : ML RX11 325 yX0_countFrom cX0_countFrom 3 (some .int) 2 := ⟨gi6 54 rfl rfl, gi6 57 rfl rfl, gi1 11 rfl rfl, by decide +kernel⟩
theorem im_X0_countUnlike : Cond.instanceMethod yX0_countUnlike ∈ gt := gi6 71 rfl rfl
theorem se_X0_countUnlike : Cond.selects yX0_countUnlike.cls yX0_countUnlike yX0_countUnlike ∈ gt := gi6 72 rfl rfl
theorem ml_X11_328 : ML RX11 328 yX0_countUnlike cX0_countUnlike 4 (some .int) 2 := ⟨gi6 70 rfl rfl, gi6 73 rfl rfl, gi1 11 rfl rfl, by decide +kernel⟩
theorem im_X11_settle : Cond.instanceMethod yX11_settle ∈ gt := gi5 66 rfl rfl
theorem se_X11_settle : Cond.selects yX11_settle.cls yX11_settle yX11_settle ∈ gt := gs3 6 rfl
theorem ml_X11_124 : ML RX11 124 yX11_settle cX11_settle 3 none 2 := ⟨gi5 64 rfl rfl, gi5 67 rfl rfl, gi1 1 rfl rfl, by decide +kernel⟩
theorem im_X4_read : Cond.instanceMethod yX4_read ∈ gt := gi4 171 rfl rfl
theorem se_X4_read : Cond.selects yX4_read.cls yX4_read yX4_read ∈ gt := gi4 172 rfl rfl
theorem ml_X11_114 : ML RX11 114 yX4_read cX4_read 3 none 1 := ⟨gi4 170 rfl rfl, gi4 173 rfl rfl, gi1 8 rfl rfl, by decide +kernel⟩
theorem fl_X11_120 : FL RX11 120 4 0 RX4 TX4 11 := ⟨rfl, by decide, by decide, by decide, inG4, gi2 18 rfl rfl⟩
theorem fl_X11_121 : FL RX11 121 4 1 RX4 TX4 11 := ⟨rfl, by decide, by decide, by decide, inG4, gi2 20 rfl rfl⟩
