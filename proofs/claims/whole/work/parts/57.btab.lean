theorem im_X11_feed : Cond.instanceMethod yX11_feed ∈ gt := gi3 28 rfl rfl
theorem se_X11_feed : Cond.selects yX11_feed.cls yX11_feed yX11_feed ∈ gt := gi3 29 rfl rfl
theorem ml_L_100 : ML RL 100 yX11_feed cX11_feed 6 (some .int) 5 := ⟨gi3 27 rfl rfl, gi3 30 rfl rfl, gi1 1 rfl rfl, by decide +kernel⟩
theorem im_X12_feed : Cond.instanceMethod yX12_feed ∈ gt := gi7 116 rfl rfl
theorem se_X12_feed : Cond.selects yX12_feed.cls yX12_feed yX12_feed ∈ gt := gi7 117 rfl rfl
theorem ml_L_104 : ML RL 104 yX12_feed cX12_feed 8 (some .int) 5 := ⟨gi7 115 rfl rfl, gi7 118 rfl rfl, gi1 14 rfl rfl, by decide +kernel⟩
theorem im_X12_board : Cond.instanceMethod yX12_board ∈ gt := gi7 120 rfl rfl
theorem se_X12_board : Cond.selects yX12_board.cls yX12_board yX12_board ∈ gt := gi7 121 rfl rfl
theorem ml_L_110 : ML RL 110 yX12_board cX12_board 3 (some .int) 1 := ⟨gi7 119 rfl rfl, gi7 122 rfl rfl, gi1 14 rfl rfl, by decide +kernel⟩
theorem im_X12_thrown : Cond.instanceMethod yX12_thrown ∈ gt := gi7 112 rfl rfl
theorem se_X12_thrown : Cond.selects yX12_thrown.cls yX12_thrown yX12_thrown ∈ gt := gi7 113 rfl rfl
theorem ml_L_111 : ML RL 111 yX12_thrown cX12_thrown 1 (some .int) 0 := ⟨gi7 111 rfl rfl, gi7 114 rfl rfl, gi1 14 rfl rfl, by decide +kernel⟩
theorem im_X11_fault : Cond.instanceMethod yX11_fault ∈ gt := gi3 36 rfl rfl
theorem se_X11_fault : Cond.selects yX11_fault.cls yX11_fault yX11_fault ∈ gt := gi3 37 rfl rfl
theorem ml_L_115 : ML RL 115 yX11_fault cX11_fault 2 (some .int) 1 := ⟨gi3 35 rfl rfl, gi3 38 rfl rfl, gi1 1 rfl rfl, by decide +kernel⟩
theorem im_X12_fault : Cond.instanceMethod yX12_fault ∈ gt := gi7 206 rfl rfl
theorem se_X12_fault : Cond.selects yX12_fault.cls yX12_fault yX12_fault ∈ gt := gi7 207 rfl rfl
theorem ml_L_118 : ML RL 118 yX12_fault cX12_fault 2 (some .int) 1 := ⟨gi7 205 rfl rfl, gi7 208 rfl rfl, gi1 14 rfl rfl, by decide +kernel⟩
theorem im_X12_pit : Cond.instanceMethod yX12_pit ∈ gt := gi7 210 rfl rfl
theorem se_X12_pit : Cond.selects yX12_pit.cls yX12_pit yX12_pit ∈ gt := gi7 211 rfl rfl
theorem ml_L_121 : ML RL 121 yX12_pit cX12_pit 2 (some .int) 1 := ⟨gi7 209 rfl rfl, gi7 212 rfl rfl, gi1 14 rfl rfl, by decide +kernel⟩
theorem im_X12_store : Cond.instanceMethod yX12_store ∈ gt := gi7 226 rfl rfl
theorem se_X12_store : Cond.selects yX12_store.cls yX12_store yX12_store ∈ gt := gi7 227 rfl rfl
theorem ml_L_124 : ML RL 124 yX12_store cX12_store 2 (some .int) 1 := ⟨gi7 225 rfl rfl, gi7 228 rfl rfl, gi1 14 rfl rfl, by decide +kernel⟩
theorem im_X11_mover : Cond.instanceMethod yX11_mover ∈ gt := gi3 40 rfl rfl
theorem se_X11_mover : Cond.selects yX11_mover.cls yX11_mover yX11_mover ∈ gt := gi3 41 rfl rfl
theorem ml_L_125 : ML RL 125 yX11_mover cX11_mover 1 (some .int) 0 := ⟨gi3 39 rfl rfl, gi3 42 rfl rfl, gi1 1 rfl rfl, by decide +kernel⟩
theorem im_X12_mover : Cond.instanceMethod yX12_mover ∈ gt := gi7 233 rfl rfl
theorem se_X12_mover : Cond.selects yX12_mover.cls yX12_mover yX12_mover ∈ gt := gi7 234 rfl rfl
theorem ml_L_128 : ML RL 128 yX12_mover cX12_mover 1 (some .int) 0 := ⟨gi7 232 rfl rfl, gi7 235 rfl rfl, gi1 14 rfl rfl, by decide +kernel⟩
theorem im_X11_may : Cond.instanceMethod yX11_may ∈ gt := gi3 44 rfl rfl
theorem se_X11_may : Cond.selects yX11_may.cls yX11_may yX11_may ∈ gt := gi3 45 rfl rfl
theorem ml_L_129 : ML RL 129 yX11_may cX11_may 2 (some .int) 1 := ⟨gi3 43 rfl rfl, gi3 46 rfl rfl, gi1 1 rfl rfl, by decide +kernel⟩
theorem im_X12_may : Cond.instanceMethod yX12_may ∈ gt := gi7 237 rfl rfl
theorem se_X12_may : Cond.selects yX12_may.cls yX12_may yX12_may ∈ gt := gi7 238 rfl rfl
theorem ml_L_132 : ML RL 132 yX12_may cX12_may 2 (some .int) 1 := ⟨gi7 236 rfl rfl, gi7 239 rfl rfl, gi1 14 rfl rfl, by decide +kernel⟩
theorem im_X11_move : Cond.instanceMethod yX11_move ∈ gt := gi3 103 rfl rfl
theorem se_X11_move : Cond.selects yX11_move.cls yX11_move yX11_move ∈ gt := gi3 104 rfl rfl
theorem ml_L_133 : ML RL 133 yX11_move cX11_move 3 (some .int) 1 := ⟨gi3 102 rfl rfl, gi3 105 rfl rfl, gi1 1 rfl rfl, by decide +kernel⟩
theorem im_X12_move : Cond.instanceMethod yX12_move ∈ gt := gi8 66 rfl rfl
theorem se_X12_move : Cond.selects yX12_move.cls yX12_move yX12_move ∈ gt := gi8 67 rfl rfl
theorem ml_L_136 : ML RL 136 yX12_move cX12_move 3 (some .int) 1 := ⟨gi8 65 rfl rfl, gi8 68 rfl rfl, gi1 14 rfl rfl, by decide +kernel⟩
theorem im_X12_sown : Cond.instanceMethod yX12_sown ∈ gt := gi8 49 rfl rfl
theorem se_X12_sown : Cond.selects yX12_sown.cls yX12_sown yX12_sown ∈ gt := gi8 50 rfl rfl
theorem ml_L_140 : ML RL 140 yX12_sown cX12_sown 3 (some .int) 2 := ⟨gi8 48 rfl rfl, gi8 51 rfl rfl, gi1 14 rfl rfl, by decide +kernel⟩
theorem im_X11_undo : Cond.instanceMethod yX11_undo ∈ gt := gi3 117 rfl rfl
theorem se_X11_undo : Cond.selects yX11_undo.cls yX11_undo yX11_undo ∈ gt := gi3 118 rfl rfl
theorem ml_L_141 : ML RL 141 yX11_undo cX11_undo 1 (some .boolean) 0 := ⟨gi3 116 rfl rfl, gi3 119 rfl rfl, gi1 1 rfl rfl, by decide +kernel⟩
theorem im_X12_undo : Cond.instanceMethod yX12_undo ∈ gt := gi8 85 rfl rfl
theorem se_X12_undo : Cond.selects yX12_undo.cls yX12_undo yX12_undo ∈ gt := gi8 86 rfl rfl
theorem ml_L_145 : ML RL 145 yX12_undo cX12_undo 1 (some .boolean) 0 := ⟨gi8 84 rfl rfl, gi8 87 rfl rfl, gi1 14 rfl rfl, by decide +kernel⟩
theorem im_X11_redo : Cond.instanceMethod yX11_redo ∈ gt := gi3 125 rfl rfl
theorem se_X11_redo : Cond.selects yX11_redo.cls yX11_redo yX11_redo ∈ gt := gi3 126 rfl rfl
theorem ml_L_146 : ML RL 146 yX11_redo cX11_redo 1 (some .boolean) 0 := ⟨gi3 124 rfl rfl, gi3 127 rfl rfl, gi1 1 rfl rfl, by decide +kernel⟩
theorem im_X12_redo : Cond.instanceMethod yX12_redo ∈ gt := gi8 92 rfl rfl
theorem se_X12_redo : Cond.selects yX12_redo.cls yX12_redo yX12_redo ∈ gt := gi8 93 rfl rfl
theorem ml_L_149 : ML RL 149 yX12_redo cX12_redo 1 (some .boolean) 0 := ⟨gi8 91 rfl rfl, gi8 94 rfl rfl, gi1 14 rfl rfl, by decide +kernel⟩
theorem im_X11_over : Cond.instanceMethod yX11_over ∈ gt := gi3 133 rfl rfl
theorem se_X11_over : Cond.selects yX11_over.cls yX11_over yX11_over ∈ gt := gi3 134 rfl rfl
theorem ml_L_150 : ML RL 150 yX11_over cX11_over 1 (some .boolean) 0 := ⟨gi3 132 rfl rfl, gi3 135 rfl rfl, gi1 1 rfl rfl, by decide +kernel⟩
theorem im_X12_over : Cond.instanceMethod yX12_over ∈ gt := gi8 54 rfl rfl
theorem se_X12_over : Cond.selects yX12_over.cls yX12_over yX12_over ∈ gt := gi8 55 rfl rfl
theorem ml_L_153 : ML RL 153 yX12_over cX12_over 1 (some .boolean) 0 := ⟨gi8 53 rfl rfl, gi8 56 rfl rfl, gi1 14 rfl rfl, by decide +kernel⟩
theorem im_X11_score : Cond.instanceMethod yX11_score ∈ gt := gi3 141 rfl rfl
theorem se_X11_score : Cond.selects yX11_score.cls yX11_score yX11_score ∈ gt := gi3 142 rfl rfl
theorem ml_L_154 : ML RL 154 yX11_score cX11_score 1 (some .int) 0 := ⟨gi3 140 rfl rfl, gi3 143 rfl rfl, gi1 1 rfl rfl, by decide +kernel⟩
theorem im_X12_score : Cond.instanceMethod yX12_score ∈ gt := gi8 58 rfl rfl
theorem se_X12_score : Cond.selects yX12_score.cls yX12_score yX12_score ∈ gt := gi8 59 rfl rfl
theorem ml_L_157 : ML RL 157 yX12_score cX12_score 1 (some .int) 0 := ⟨gi8 57 rfl rfl, gi8 60 rfl rfl, gi1 14 rfl rfl, by decide +kernel⟩
theorem im_X12_judge : Cond.instanceMethod yX12_judge ∈ gt := gi8 96 rfl rfl
theorem se_X12_judge : Cond.selects yX12_judge.cls yX12_judge yX12_judge ∈ gt := gi8 97 rfl rfl
theorem ml_L_160 : ML RL 160 yX12_judge cX12_judge 7 (some .int) 2 := ⟨gi8 95 rfl rfl, gi8 98 rfl rfl, gi1 14 rfl rfl, by decide +kernel⟩
theorem im_X12_perform : Cond.instanceMethod yX12_perform ∈ gt := gi8 112 rfl rfl
theorem se_X12_perform : Cond.selects yX12_perform.cls yX12_perform yX12_perform ∈ gt := gi8 113 rfl rfl
theorem ml_L_163 : ML RL 163 yX12_perform cX12_perform 3 (some .int) 1 := ⟨gi8 111 rfl rfl, gi8 114 rfl rfl, gi1 14 rfl rfl, by decide +kernel⟩
theorem im_X12_positions : Cond.instanceMethod yX12_positions ∈ gt := gi8 116 rfl rfl
theorem se_X12_positions : Cond.selects yX12_positions.cls yX12_positions yX12_positions ∈ gt := gi8 117 rfl rfl
theorem ml_L_166 : ML RL 166 yX12_positions cX12_positions 5 (some .int) 2 := ⟨gi8 115 rfl rfl, gi8 118 rfl rfl, gi1 14 rfl rfl, by decide +kernel⟩
theorem im_X11_place : Cond.instanceMethod yX11_place ∈ gt := gi3 150 rfl rfl
theorem se_X11_place : Cond.selects yX11_place.cls yX11_place yX11_place ∈ gt := gi3 151 rfl rfl
theorem ml_L_167 : ML RL 167 yX11_place cX11_place 2 (some .int) 0 := ⟨gi3 149 rfl rfl, gi3 152 rfl rfl, gi1 1 rfl rfl, by decide +kernel⟩
theorem im_X12_place : Cond.instanceMethod yX12_place ∈ gt := gi8 133 rfl rfl
theorem se_X12_place : Cond.selects yX12_place.cls yX12_place yX12_place ∈ gt := gi8 134 rfl rfl
theorem ml_L_170 : ML RL 170 yX12_place cX12_place 1 (some .int) 0 := ⟨gi8 132 rfl rfl, gi8 135 rfl rfl, gi1 14 rfl rfl, by decide +kernel⟩
theorem im_X12_ofPlace : Cond.instanceMethod yX12_ofPlace ∈ gt := gi8 145 rfl rfl
theorem se_X12_ofPlace : Cond.selects yX12_ofPlace.cls yX12_ofPlace yX12_ofPlace ∈ gt := gi8 146 rfl rfl
theorem ml_L_174 : ML RL 174 yX12_ofPlace cX12_ofPlace 6 (some .int) 4 := ⟨gi8 144 rfl rfl, gi8 147 rfl rfl, gi1 14 rfl rfl, by decide +kernel⟩
theorem im_X11_value : Cond.instanceMethod yX11_value ∈ gt := gi3 166 rfl rfl
theorem se_X11_value : Cond.selects yX11_value.cls yX11_value yX11_value ∈ gt := gi3 167 rfl rfl
theorem ml_L_175 : ML RL 175 yX11_value cX11_value 1 (some .int) 0 := ⟨gi3 165 rfl rfl, gi3 168 rfl rfl, gi1 1 rfl rfl, by decide +kernel⟩
theorem im_X12_value : Cond.instanceMethod yX12_value ∈ gt := gi8 153 rfl rfl
theorem se_X12_value : Cond.selects yX12_value.cls yX12_value yX12_value ∈ gt := gi8 154 rfl rfl
theorem ml_L_178 : ML RL 178 yX12_value cX12_value 1 (some .int) 0 := ⟨gi8 152 rfl rfl, gi8 155 rfl rfl, gi1 14 rfl rfl, by decide +kernel⟩
theorem im_X11_rank : Cond.instanceMethod yX11_rank ∈ gt := gi3 235 rfl rfl
theorem se_X11_rank : Cond.selects yX11_rank.cls yX11_rank yX11_rank ∈ gt := gi3 236 rfl rfl
theorem ml_L_179 : ML RL 179 yX11_rank cX11_rank 1 (some .int) 0 := ⟨gi3 234 rfl rfl, gi3 237 rfl rfl, gi1 1 rfl rfl, by decide +kernel⟩
theorem im_X12_rank : Cond.instanceMethod yX12_rank ∈ gt := gi8 198 rfl rfl
theorem se_X12_rank : Cond.selects yX12_rank.cls yX12_rank yX12_rank ∈ gt := gi8 199 rfl rfl
theorem ml_L_182 : ML RL 182 yX12_rank cX12_rank 1 (some .int) 0 := ⟨gi8 197 rfl rfl, gi8 200 rfl rfl, gi1 14 rfl rfl, by decide +kernel⟩
theorem im_X11_best : Cond.instanceMethod yX11_best ∈ gt := gi4 7 rfl rfl
theorem se_X11_best : Cond.selects yX11_best.cls yX11_best yX11_best ∈ gt := gi4 8 rfl rfl
theorem ml_L_183 : ML RL 183 yX11_best cX11_best 1 (some .int) 0 := ⟨gi4 6 rfl rfl, gi4 9 rfl rfl, gi1 1 rfl rfl, by decide +kernel⟩
theorem im_X12_best : Cond.instanceMethod yX12_best ∈ gt := gi8 202 rfl rfl
theorem se_X12_best : Cond.selects yX12_best.cls yX12_best yX12_best ∈ gt := gi8 203 rfl rfl
theorem ml_L_186 : ML RL 186 yX12_best cX12_best 1 (some .int) 0 := ⟨gi8 201 rfl rfl, gi8 204 rfl rfl, gi1 14 rfl rfl, by decide +kernel⟩
theorem im_X11_worth : Cond.instanceMethod yX11_worth ∈ gt := gi4 20 rfl rfl
theorem se_X11_worth : Cond.selects yX11_worth.cls yX11_worth yX11_worth ∈ gt := gi4 21 rfl rfl
theorem ml_L_187 : ML RL 187 yX11_worth cX11_worth 2 (some .int) 1 := ⟨gi4 19 rfl rfl, gi4 22 rfl rfl, gi1 1 rfl rfl, by decide +kernel⟩
theorem im_X12_worth : Cond.instanceMethod yX12_worth ∈ gt := gi8 214 rfl rfl
theorem se_X12_worth : Cond.selects yX12_worth.cls yX12_worth yX12_worth ∈ gt := gi8 215 rfl rfl
theorem ml_L_190 : ML RL 190 yX12_worth cX12_worth 2 (some .int) 1 := ⟨gi8 213 rfl rfl, gi8 216 rfl rfl, gi1 14 rfl rfl, by decide +kernel⟩
theorem ml_L_194 : ML RL 194 yX12_valueOf cX12_valueOf 4 (some .int) 3 := ⟨gi8 217 rfl rfl, gi8 220 rfl rfl, gi1 14 rfl rfl, by decide +kernel⟩
theorem im_X12_tally : Cond.instanceMethod yX12_tally ∈ gt := gi8 222 rfl rfl
theorem se_X12_tally : Cond.selects yX12_tally.cls yX12_tally yX12_tally ∈ gt := gi8 223 rfl rfl
theorem ml_L_197 : ML RL 197 yX12_tally cX12_tally 8 (some .int) 3 := ⟨gi8 221 rfl rfl, gi8 224 rfl rfl, gi1 14 rfl rfl, by decide +kernel⟩
theorem im_X12_row : Cond.instanceMethod yX12_row ∈ gt := gi8 226 rfl rfl
theorem se_X12_row : Cond.selects yX12_row.cls yX12_row yX12_row ∈ gt := gi8 227 rfl rfl
theorem ml_L_200 : ML RL 200 yX12_row cX12_row 6 (some .int) 4 := ⟨gi8 225 rfl rfl, gi8 228 rfl rfl, gi1 14 rfl rfl, by decide +kernel⟩
theorem im_X12_find : Cond.instanceMethod yX12_find ∈ gt := gi8 236 rfl rfl
theorem se_X12_find : Cond.selects yX12_find.cls yX12_find yX12_find ∈ gt := gi8 237 rfl rfl
theorem ml_L_203 : ML RL 203 yX12_find cX12_find 7 (some .int) 4 := ⟨gi8 235 rfl rfl, gi8 238 rfl rfl, gi1 14 rfl rfl, by decide +kernel⟩
theorem im_X12_most : Cond.instanceMethod yX12_most ∈ gt := gi9 0 rfl rfl
theorem se_X12_most : Cond.selects yX12_most.cls yX12_most yX12_most ∈ gt := gi9 1 rfl rfl
theorem ml_L_206 : ML RL 206 yX12_most cX12_most 9 (some .int) 3 := ⟨gi8 239 rfl rfl, gi9 2 rfl rfl, gi1 14 rfl rfl, by decide +kernel⟩
theorem im_X11_swapped : Cond.instanceMethod yX11_swapped ∈ gt := gi4 29 rfl rfl
theorem se_X11_swapped : Cond.selects yX11_swapped.cls yX11_swapped yX11_swapped ∈ gt := gi4 30 rfl rfl
theorem ml_L_207 : ML RL 207 yX11_swapped cX11_swapped 1 (some .int) 0 := ⟨gi4 28 rfl rfl, gi4 31 rfl rfl, gi1 1 rfl rfl, by decide +kernel⟩
theorem im_X12_swapped : Cond.instanceMethod yX12_swapped ∈ gt := gi9 5 rfl rfl
theorem se_X12_swapped : Cond.selects yX12_swapped.cls yX12_swapped yX12_swapped ∈ gt := gi9 6 rfl rfl
theorem ml_L_210 : ML RL 210 yX12_swapped cX12_swapped 1 (some .int) 0 := ⟨gi9 4 rfl rfl, gi9 7 rfl rfl, gi1 14 rfl rfl, by decide +kernel⟩
theorem im_X12_line : Cond.instanceMethod yX12_line ∈ gt := gi9 9 rfl rfl
theorem se_X12_line : Cond.selects yX12_line.cls yX12_line yX12_line ∈ gt := gi9 10 rfl rfl
theorem ml_L_213 : ML RL 213 yX12_line cX12_line 4 (some .int) 1 := ⟨gi9 8 rfl rfl, gi9 11 rfl rfl, gi1 14 rfl rfl, by decide +kernel⟩
theorem im_X12_plays : Cond.instanceMethod yX12_plays ∈ gt := gi9 17 rfl rfl
theorem se_X12_plays : Cond.selects yX12_plays.cls yX12_plays yX12_plays ∈ gt := gi9 18 rfl rfl
theorem ml_L_216 : ML RL 216 yX12_plays cX12_plays 2 (some .int) 1 := ⟨gi9 16 rfl rfl, gi9 19 rfl rfl, gi1 14 rfl rfl, by decide +kernel⟩
theorem im_X12_reached : Cond.instanceMethod yX12_reached ∈ gt := gi9 25 rfl rfl
theorem se_X12_reached : Cond.selects yX12_reached.cls yX12_reached yX12_reached ∈ gt := gi9 26 rfl rfl
theorem ml_L_219 : ML RL 219 yX12_reached cX12_reached 2 (some .int) 1 := ⟨gi9 24 rfl rfl, gi9 27 rfl rfl, gi1 14 rfl rfl, by decide +kernel⟩
theorem im_X11_soonest : Cond.instanceMethod yX11_soonest ∈ gt := gi4 34 rfl rfl
theorem se_X11_soonest : Cond.selects yX11_soonest.cls yX11_soonest yX11_soonest ∈ gt := gi4 35 rfl rfl
theorem ml_L_220 : ML RL 220 yX11_soonest cX11_soonest 3 (some .int) 1 := ⟨gi4 33 rfl rfl, gi4 36 rfl rfl, gi1 1 rfl rfl, by decide +kernel⟩
theorem im_X12_soonest : Cond.instanceMethod yX12_soonest ∈ gt := gi9 38 rfl rfl
theorem se_X12_soonest : Cond.selects yX12_soonest.cls yX12_soonest yX12_soonest ∈ gt := gi9 39 rfl rfl
theorem ml_L_223 : ML RL 223 yX12_soonest cX12_soonest 3 (some .int) 1 := ⟨gi9 37 rfl rfl, gi9 40 rfl rfl, gi1 14 rfl rfl, by decide +kernel⟩
theorem im_X12_pits : Cond.instanceMethod yX12_pits ∈ gt := gi9 46 rfl rfl
theorem se_X12_pits : Cond.selects yX12_pits.cls yX12_pits yX12_pits ∈ gt := gi9 47 rfl rfl
theorem ml_L_226 : ML RL 226 yX12_pits cX12_pits 4 (some .int) 1 := ⟨gi9 45 rfl rfl, gi9 48 rfl rfl, gi1 14 rfl rfl, by decide +kernel⟩
theorem im_X11_forced : Cond.instanceMethod yX11_forced ∈ gt := gi4 60 rfl rfl
theorem se_X11_forced : Cond.selects yX11_forced.cls yX11_forced yX11_forced ∈ gt := gi4 61 rfl rfl
theorem ml_L_227 : ML RL 227 yX11_forced cX11_forced 1 (some .int) 0 := ⟨gi4 59 rfl rfl, gi4 62 rfl rfl, gi1 1 rfl rfl, by decide +kernel⟩
theorem im_X12_forced : Cond.instanceMethod yX12_forced ∈ gt := gi9 51 rfl rfl
theorem se_X12_forced : Cond.selects yX12_forced.cls yX12_forced yX12_forced ∈ gt := gi9 52 rfl rfl
theorem ml_L_230 : ML RL 230 yX12_forced cX12_forced 2 (some .int) 0 := ⟨gi9 50 rfl rfl, gi9 53 rfl rfl, gi1 14 rfl rfl, by decide +kernel⟩
theorem im_X12_play : Cond.instanceMethod yX12_play ∈ gt := gi9 59 rfl rfl
theorem se_X12_play : Cond.selects yX12_play.cls yX12_play yX12_play ∈ gt := gi9 60 rfl rfl
theorem ml_L_233 : ML RL 233 yX12_play cX12_play 3 (some .int) 2 := ⟨gi9 58 rfl rfl, gi9 61 rfl rfl, gi1 14 rfl rfl, by decide +kernel⟩
theorem im_X12_against : Cond.instanceMethod yX12_against ∈ gt := gi9 76 rfl rfl
theorem se_X12_against : Cond.selects yX12_against.cls yX12_against yX12_against ∈ gt := gi9 77 rfl rfl
theorem ml_L_236 : ML RL 236 yX12_against cX12_against 3 (some .int) 2 := ⟨gi9 75 rfl rfl, gi9 78 rfl rfl, gi1 14 rfl rfl, by decide +kernel⟩
theorem im_X12_tray : Cond.instanceMethod yX12_tray ∈ gt := gi9 80 rfl rfl
theorem se_X12_tray : Cond.selects yX12_tray.cls yX12_tray yX12_tray ∈ gt := gi9 81 rfl rfl
theorem ml_L_240 : ML RL 240 yX12_tray cX12_tray 5 none 3 := ⟨gi9 79 rfl rfl, gi9 82 rfl rfl, gi1 14 rfl rfl, by decide +kernel⟩
theorem cl_L_241 : Cond.constantLong RL 241 (4294967295) ∈ gt := gi9 108 rfl rfl
theorem im_X12_write : Cond.instanceMethod yX12_write ∈ gt := gi9 84 rfl rfl
theorem se_X12_write : Cond.selects yX12_write.cls yX12_write yX12_write ∈ gt := gi9 85 rfl rfl
theorem ml_L_246 : ML RL 246 yX12_write cX12_write 5 (some .long) 3 := ⟨gi9 83 rfl rfl, gi9 86 rfl rfl, gi1 14 rfl rfl, by decide +kernel⟩
theorem im_X12_pour : Cond.instanceMethod yX12_pour ∈ gt := gi9 92 rfl rfl
theorem se_X12_pour : Cond.selects yX12_pour.cls yX12_pour yX12_pour ∈ gt := gi9 93 rfl rfl
theorem ml_L_249 : ML RL 249 yX12_pour cX12_pour 4 (some .int) 1 := ⟨gi9 91 rfl rfl, gi9 94 rfl rfl, gi1 14 rfl rfl, by decide +kernel⟩
theorem im_X12_image : Cond.instanceMethod yX12_image ∈ gt := gi9 97 rfl rfl
theorem se_X12_image : Cond.selects yX12_image.cls yX12_image yX12_image ∈ gt := gi9 98 rfl rfl
theorem ml_L_253 : ML RL 253 yX12_image cX12_image 2 none 1 := ⟨gi9 96 rfl rfl, gi9 99 rfl rfl, gi1 14 rfl rfl, by decide +kernel⟩
theorem im_X12_restore : Cond.instanceMethod yX12_restore ∈ gt := gi9 101 rfl rfl
theorem se_X12_restore : Cond.selects yX12_restore.cls yX12_restore yX12_restore ∈ gt := gi9 102 rfl rfl
theorem ml_L_256 : ML RL 256 yX12_restore cX12_restore 2 none 1 := ⟨gi9 100 rfl rfl, gi9 103 rfl rfl, gi1 14 rfl rfl, by decide +kernel⟩
theorem im_X11_count : Cond.instanceMethod yX11_count ∈ gt := gi4 89 rfl rfl
theorem se_X11_count : Cond.selects yX11_count.cls yX11_count yX11_count ∈ gt := gi4 90 rfl rfl
theorem ml_L_257 : ML RL 257 yX11_count cX11_count 2 (some .int) 1 := ⟨gi4 88 rfl rfl, gi4 91 rfl rfl, gi1 1 rfl rfl, by decide +kernel⟩
theorem im_X12_count : Cond.instanceMethod yX12_count ∈ gt := gi9 105 rfl rfl
theorem se_X12_count : Cond.selects yX12_count.cls yX12_count yX12_count ∈ gt := gi9 106 rfl rfl
theorem ml_L_260 : ML RL 260 yX12_count cX12_count 4 (some .int) 1 := ⟨gi9 104 rfl rfl, gi9 107 rfl rfl, gi1 14 rfl rfl, by decide +kernel⟩
theorem mw_L_board : MLW RL 105 yL_board cL_board 4 (some .int) [(0, 9, 12, 13)] 3 := ⟨gi4 93 rfl rfl, gi4 95 rfl rfl, gi1 0 rfl rfl, gi4 94 rfl rfl, by decide +kernel⟩
theorem mw_L_pit : MLW RL 119 yL_pit cL_pit 4 (some .int) [(0, 9, 12, 18)] 3 := ⟨gi5 77 rfl rfl, gi5 79 rfl rfl, gi1 0 rfl rfl, gi5 78 rfl rfl, by decide +kernel⟩
theorem mw_L_store : MLW RL 122 yL_store cL_store 4 (some .int) [(0, 9, 12, 18)] 3 := ⟨gi5 106 rfl rfl, gi5 108 rfl rfl, gi1 0 rfl rfl, gi5 107 rfl rfl, by decide +kernel⟩
theorem mw_L_sown : MLW RL 137 yL_sown cL_sown 5 (some .int) [(0, 10, 13, 18), (0, 10, 17, 27), (0, 10, 21, 13)] 4 := ⟨gi5 117 rfl rfl, gi5 119 rfl rfl, gi1 0 rfl rfl, gi5 118 rfl rfl, by decide +kernel⟩
theorem mw_L_judge : MLW RL 158 yL_judge cL_judge 5 (some .int) [(0, 10, 13, 18), (0, 10, 17, 27), (0, 10, 21, 13)] 4 := ⟨gi5 143 rfl rfl, gi5 145 rfl rfl, gi1 0 rfl rfl, gi5 144 rfl rfl, by decide +kernel⟩
theorem mw_L_perform : MLW RL 161 yL_perform cL_perform 4 (some .int) [(0, 9, 12, 18), (0, 9, 15, 27)] 3 := ⟨gi5 160 rfl rfl, gi5 162 rfl rfl, gi1 0 rfl rfl, gi5 161 rfl rfl, by decide +kernel⟩
theorem mw_L_positions : MLW RL 164 yL_positions cL_positions 5 (some .int) [(0, 10, 13, 18), (0, 10, 17, 13)] 4 := ⟨gi5 167 rfl rfl, gi5 169 rfl rfl, gi1 0 rfl rfl, gi5 168 rfl rfl, by decide +kernel⟩
theorem mw_L_ofPlace : MLW RL 171 yL_ofPlace cL_ofPlace 7 (some .int) [(0, 14, 17, 18), (0, 14, 21, 13), (0, 14, 25, 27), (0, 14, 29, 42)] 6 := ⟨gi5 178 rfl rfl, gi5 180 rfl rfl, gi1 0 rfl rfl, gi5 179 rfl rfl, by decide +kernel⟩
theorem mw_L_valueOf : MLW RL 191 yL_valueOf cL_valueOf 6 (some .int) [(0, 12, 15, 18), (0, 12, 19, 13), (0, 12, 23, 27)] 5 := ⟨gi5 208 rfl rfl, gi5 210 rfl rfl, gi1 0 rfl rfl, gi5 209 rfl rfl, by decide +kernel⟩
theorem mw_L_tally : MLW RL 195 yL_tally cL_tally 6 (some .int) [(0, 12, 15, 18), (0, 12, 19, 13), (0, 12, 23, 27)] 5 := ⟨gi5 219 rfl rfl, gi5 221 rfl rfl, gi1 0 rfl rfl, gi5 220 rfl rfl, by decide +kernel⟩
theorem mw_L_row : MLW RL 198 yL_row cL_row 7 (some .int) [(0, 14, 17, 18), (0, 14, 21, 13), (0, 14, 25, 27)] 6 := ⟨gi5 235 rfl rfl, gi5 237 rfl rfl, gi1 0 rfl rfl, gi5 236 rfl rfl, by decide +kernel⟩
theorem mw_L_find : MLW RL 201 yL_find cL_find 7 (some .int) [(0, 14, 17, 18), (0, 14, 21, 13), (0, 14, 25, 27)] 6 := ⟨gi6 7 rfl rfl, gi6 9 rfl rfl, gi1 0 rfl rfl, gi6 8 rfl rfl, by decide +kernel⟩
theorem mw_L_most : MLW RL 204 yL_most cL_most 6 (some .int) [(0, 12, 15, 18), (0, 12, 19, 13), (0, 12, 23, 27)] 5 := ⟨gi6 14 rfl rfl, gi6 16 rfl rfl, gi1 0 rfl rfl, gi6 15 rfl rfl, by decide +kernel⟩
theorem mw_L_line : MLW RL 211 yL_line cL_line 4 (some .int) [(0, 9, 12, 13), (0, 9, 15, 27)] 3 := ⟨gi6 25 rfl rfl, gi6 27 rfl rfl, gi1 0 rfl rfl, gi6 26 rfl rfl, by decide +kernel⟩
theorem mw_L_plays : MLW RL 214 yL_plays cL_plays 4 (some .int) [(0, 9, 12, 13)] 3 := ⟨gi6 46 rfl rfl, gi6 48 rfl rfl, gi1 0 rfl rfl, gi6 47 rfl rfl, by decide +kernel⟩
theorem mw_L_reached : MLW RL 217 yL_reached cL_reached 4 (some .int) [(0, 9, 12, 13)] 3 := ⟨gi6 63 rfl rfl, gi6 65 rfl rfl, gi1 0 rfl rfl, gi6 64 rfl rfl, by decide +kernel⟩
theorem mw_L_pits : MLW RL 224 yL_pits cL_pits 4 (some .int) [(0, 9, 12, 13)] 3 := ⟨gi6 88 rfl rfl, gi6 90 rfl rfl, gi1 0 rfl rfl, gi6 89 rfl rfl, by decide +kernel⟩
theorem mw_L_play : MLW RL 231 yL_play cL_play 5 (some .int) [(0, 10, 13, 13)] 4 := ⟨gi6 101 rfl rfl, gi6 103 rfl rfl, gi1 0 rfl rfl, gi6 102 rfl rfl, by decide +kernel⟩
theorem mw_L_against : MLW RL 234 yL_against cL_against 5 (some .int) [(0, 10, 13, 27), (0, 10, 17, 13)] 4 := ⟨gi6 117 rfl rfl, gi6 119 rfl rfl, gi1 0 rfl rfl, gi6 118 rfl rfl, by decide +kernel⟩
theorem mw_L_tray : MLW RL 237 yL_tray cL_tray 5 (some .int) [(0, 7, 10, 18), (0, 7, 14, 13)] 4 := ⟨gi6 124 rfl rfl, gi6 126 rfl rfl, gi1 0 rfl rfl, gi6 125 rfl rfl, by decide +kernel⟩
theorem mw_L_write : MLW RL 243 yL_write cL_write 7 (some .int) [(0, 11, 14, 18), (0, 11, 18, 27), (0, 11, 22, 42)] 5 := ⟨gi6 136 rfl rfl, gi6 138 rfl rfl, gi1 0 rfl rfl, gi6 137 rfl rfl, by decide +kernel⟩
theorem mw_L_pour : MLW RL 247 yL_pour cL_pour 4 (some .int) [(0, 9, 12, 18), (0, 9, 15, 27)] 3 := ⟨gi6 148 rfl rfl, gi6 150 rfl rfl, gi1 0 rfl rfl, gi6 149 rfl rfl, by decide +kernel⟩
theorem mw_L_image : MLW RL 250 yL_image cL_image 3 (some .int) [(0, 5, 8, 18)] 2 := ⟨gi6 160 rfl rfl, gi6 162 rfl rfl, gi1 0 rfl rfl, gi6 161 rfl rfl, by decide +kernel⟩
theorem mw_L_restore : MLW RL 254 yL_restore cL_restore 3 (some .int) [(0, 5, 8, 18), (0, 5, 11, 27)] 2 := ⟨gi6 172 rfl rfl, gi6 174 rfl rfl, gi1 0 rfl rfl, gi6 173 rfl rfl, by decide +kernel⟩
theorem dL_law_0 : decode cL_law 0 = .ok (.new 8, 3) := by decide +kernel
theorem dL_law_3 : decode cL_law 3 = .ok (.dup, 1) := by decide +kernel
theorem dL_law_4 : decode cL_law 4 = .ok (.invokespecial 96, 3) := by decide +kernel
theorem dL_law_7 : decode cL_law 7 = .ok (.astore_n 1, 1) := by decide +kernel
theorem dL_law_8 : decode cL_law 8 = .ok (.new 97, 3) := by decide +kernel
theorem dL_law_11 : decode cL_law 11 = .ok (.dup, 1) := by decide +kernel
theorem dL_law_12 : decode cL_law 12 = .ok (.invokespecial 99, 3) := by decide +kernel
theorem dL_law_15 : decode cL_law 15 = .ok (.astore_n 2, 1) := by decide +kernel
theorem dL_law_16 : decode cL_law 16 = .ok (.iconst 1, 1) := by decide +kernel
theorem dL_law_17 : decode cL_law 17 = .ok (.newarray .long, 2) := by decide +kernel
theorem dL_law_19 : decode cL_law 19 = .ok (.astore_n 3, 1) := by decide +kernel
theorem dL_law_20 : decode cL_law 20 = .ok (.iconst 0, 1) := by decide +kernel
theorem dL_law_21 : decode cL_law 21 = .ok (.istore 4, 2) := by decide +kernel
theorem dL_law_23 : decode cL_law 23 = .ok (.iload 4, 2) := by decide +kernel
theorem dL_law_25 : decode cL_law 25 = .ok (.aload_n 0, 1) := by decide +kernel
theorem dL_law_26 : decode cL_law 26 = .ok (.arraylength, 1) := by decide +kernel
theorem dL_law_27 : decode cL_law 27 = .ok (.bipush 6, 2) := by decide +kernel
theorem dL_law_29 : decode cL_law 29 = .ok (.isub, 1) := by decide +kernel
theorem dL_law_30 : decode cL_law 30 = .ok (.if_icmp .gt 2169, 3) := by decide +kernel
theorem dL_law_33 : decode cL_law 33 = .ok (.aload_n 0, 1) := by decide +kernel
theorem dL_law_34 : decode cL_law 34 = .ok (.iload 4, 2) := by decide +kernel
theorem dL_law_36 : decode cL_law 36 = .ok (.iaload, 1) := by decide +kernel
theorem dL_law_37 : decode cL_law 37 = .ok (.bipush 63, 2) := by decide +kernel
theorem dL_law_39 : decode cL_law 39 = .ok (.iand, 1) := by decide +kernel
theorem dL_law_40 : decode cL_law 40 = .ok (.tableswitch 2153 0 41 #[184, 257, 313, 338, 394, 450, 463, 488, 513, 581, 594, 607, 620, 633, 701, 757, 825, 838, 930, 943, 956, 969, 994, 1074, 1154, 1246, 1338, 1418, 1431, 1487, 1543, 1599, 1624, 1680, 1693, 1761, 1829, 1889, 2000, 2056, 2092, 2128], 184) := by decide +kernel
theorem dL_law_224 : decode cL_law 224 = .ok (.aload_n 1, 1) := by decide +kernel
theorem dL_law_225 : decode cL_law 225 = .ok (.aload_n 0, 1) := by decide +kernel
theorem dL_law_226 : decode cL_law 226 = .ok (.iload 4, 2) := by decide +kernel
theorem dL_law_228 : decode cL_law 228 = .ok (.iconst 1, 1) := by decide +kernel
theorem dL_law_229 : decode cL_law 229 = .ok (.iadd, 1) := by decide +kernel
theorem dL_law_230 : decode cL_law 230 = .ok (.iaload, 1) := by decide +kernel
theorem dL_law_231 : decode cL_law 231 = .ok (.aload_n 0, 1) := by decide +kernel
theorem dL_law_232 : decode cL_law 232 = .ok (.iload 4, 2) := by decide +kernel
theorem dL_law_234 : decode cL_law 234 = .ok (.iconst 2, 1) := by decide +kernel
theorem dL_law_235 : decode cL_law 235 = .ok (.iadd, 1) := by decide +kernel
theorem dL_law_236 : decode cL_law 236 = .ok (.iaload, 1) := by decide +kernel
theorem dL_law_237 : decode cL_law 237 = .ok (.aload_n 0, 1) := by decide +kernel
theorem dL_law_238 : decode cL_law 238 = .ok (.iload 4, 2) := by decide +kernel
theorem dL_law_240 : decode cL_law 240 = .ok (.iconst 3, 1) := by decide +kernel
theorem dL_law_241 : decode cL_law 241 = .ok (.iadd, 1) := by decide +kernel
theorem dL_law_242 : decode cL_law 242 = .ok (.iaload, 1) := by decide +kernel
theorem dL_law_243 : decode cL_law 243 = .ok (.aload_n 0, 1) := by decide +kernel
theorem dL_law_244 : decode cL_law 244 = .ok (.iload 4, 2) := by decide +kernel
theorem dL_law_246 : decode cL_law 246 = .ok (.iconst 4, 1) := by decide +kernel
theorem dL_law_247 : decode cL_law 247 = .ok (.iadd, 1) := by decide +kernel
theorem dL_law_248 : decode cL_law 248 = .ok (.iaload, 1) := by decide +kernel
theorem dL_law_249 : decode cL_law 249 = .ok (.aload_n 0, 1) := by decide +kernel
theorem dL_law_250 : decode cL_law 250 = .ok (.iload 4, 2) := by decide +kernel
theorem dL_law_252 : decode cL_law 252 = .ok (.iconst 5, 1) := by decide +kernel
theorem dL_law_253 : decode cL_law 253 = .ok (.iadd, 1) := by decide +kernel
theorem dL_law_254 : decode cL_law 254 = .ok (.iaload, 1) := by decide +kernel
theorem dL_law_255 : decode cL_law 255 = .ok (.invokevirtual 100, 3) := by decide +kernel
theorem dL_law_258 : decode cL_law 258 = .ok (.aload_n 2, 1) := by decide +kernel
theorem dL_law_259 : decode cL_law 259 = .ok (.aload_n 0, 1) := by decide +kernel
theorem dL_law_260 : decode cL_law 260 = .ok (.iload 4, 2) := by decide +kernel
theorem dL_law_262 : decode cL_law 262 = .ok (.iconst 1, 1) := by decide +kernel
theorem dL_law_263 : decode cL_law 263 = .ok (.iadd, 1) := by decide +kernel
theorem dL_law_264 : decode cL_law 264 = .ok (.iaload, 1) := by decide +kernel
theorem dL_law_265 : decode cL_law 265 = .ok (.aload_n 0, 1) := by decide +kernel
theorem dL_law_266 : decode cL_law 266 = .ok (.iload 4, 2) := by decide +kernel
theorem dL_law_268 : decode cL_law 268 = .ok (.iconst 2, 1) := by decide +kernel
theorem dL_law_269 : decode cL_law 269 = .ok (.iadd, 1) := by decide +kernel
theorem dL_law_270 : decode cL_law 270 = .ok (.iaload, 1) := by decide +kernel
theorem dL_law_271 : decode cL_law 271 = .ok (.aload_n 0, 1) := by decide +kernel
theorem dL_law_272 : decode cL_law 272 = .ok (.iload 4, 2) := by decide +kernel
theorem dL_law_274 : decode cL_law 274 = .ok (.iconst 3, 1) := by decide +kernel
theorem dL_law_275 : decode cL_law 275 = .ok (.iadd, 1) := by decide +kernel
theorem dL_law_276 : decode cL_law 276 = .ok (.iaload, 1) := by decide +kernel
theorem dL_law_277 : decode cL_law 277 = .ok (.aload_n 0, 1) := by decide +kernel
theorem dL_law_278 : decode cL_law 278 = .ok (.iload 4, 2) := by decide +kernel
theorem dL_law_280 : decode cL_law 280 = .ok (.iconst 4, 1) := by decide +kernel
theorem dL_law_281 : decode cL_law 281 = .ok (.iadd, 1) := by decide +kernel
theorem dL_law_282 : decode cL_law 282 = .ok (.iaload, 1) := by decide +kernel
theorem dL_law_283 : decode cL_law 283 = .ok (.aload_n 0, 1) := by decide +kernel
theorem dL_law_284 : decode cL_law 284 = .ok (.iload 4, 2) := by decide +kernel
theorem dL_law_286 : decode cL_law 286 = .ok (.iconst 5, 1) := by decide +kernel
theorem dL_law_287 : decode cL_law 287 = .ok (.iadd, 1) := by decide +kernel
theorem dL_law_288 : decode cL_law 288 = .ok (.iaload, 1) := by decide +kernel
theorem dL_law_289 : decode cL_law 289 = .ok (.invokevirtual 104, 3) := by decide +kernel
theorem dL_law_292 : decode cL_law 292 = .ok (.if_icmp .eq 1901, 3) := by decide +kernel
theorem dL_law_295 : decode cL_law 295 = .ok (.iconst 0, 1) := by decide +kernel
theorem dL_law_296 : decode cL_law 296 = .ok (.ireturn, 1) := by decide +kernel
theorem dL_law_297 : decode cL_law 297 = .ok (.aload_n 1, 1) := by decide +kernel
theorem dL_law_298 : decode cL_law 298 = .ok (.aload_n 0, 1) := by decide +kernel
theorem dL_law_299 : decode cL_law 299 = .ok (.iload 4, 2) := by decide +kernel
theorem dL_law_301 : decode cL_law 301 = .ok (.iconst 1, 1) := by decide +kernel
theorem dL_law_302 : decode cL_law 302 = .ok (.iadd, 1) := by decide +kernel
theorem dL_law_303 : decode cL_law 303 = .ok (.iaload, 1) := by decide +kernel
theorem dL_law_304 : decode cL_law 304 = .ok (.aload_n 3, 1) := by decide +kernel
theorem dL_law_305 : decode cL_law 305 = .ok (.invokestatic 105, 3) := by decide +kernel
theorem dL_law_308 : decode cL_law 308 = .ok (.istore 5, 2) := by decide +kernel
theorem dL_law_310 : decode cL_law 310 = .ok (.aload_n 2, 1) := by decide +kernel
theorem dL_law_311 : decode cL_law 311 = .ok (.aload_n 0, 1) := by decide +kernel
theorem dL_law_312 : decode cL_law 312 = .ok (.iload 4, 2) := by decide +kernel
theorem dL_law_314 : decode cL_law 314 = .ok (.iconst 1, 1) := by decide +kernel
theorem dL_law_315 : decode cL_law 315 = .ok (.iadd, 1) := by decide +kernel
theorem dL_law_316 : decode cL_law 316 = .ok (.iaload, 1) := by decide +kernel
theorem dL_law_317 : decode cL_law 317 = .ok (.invokevirtual 110, 3) := by decide +kernel
theorem dL_law_320 : decode cL_law 320 = .ok (.istore 6, 2) := by decide +kernel
theorem dL_law_322 : decode cL_law 322 = .ok (.aload_n 2, 1) := by decide +kernel
theorem dL_law_323 : decode cL_law 323 = .ok (.invokevirtual 111, 3) := by decide +kernel
theorem dL_law_326 : decode cL_law 326 = .ok (.iload 5, 2) := by decide +kernel
theorem dL_law_328 : decode cL_law 328 = .ok (.if_icmp .eq 5, 3) := by decide +kernel
theorem dL_law_331 : decode cL_law 331 = .ok (.iconst 0, 1) := by decide +kernel
theorem dL_law_332 : decode cL_law 332 = .ok (.ireturn, 1) := by decide +kernel
theorem dL_law_333 : decode cL_law 333 = .ok (.iload 5, 2) := by decide +kernel
theorem dL_law_335 : decode cL_law 335 = .ok (.ifCond .ne 15, 3) := by decide +kernel
theorem dL_law_338 : decode cL_law 338 = .ok (.aload_n 3, 1) := by decide +kernel
theorem dL_law_339 : decode cL_law 339 = .ok (.iconst 0, 1) := by decide +kernel
theorem dL_law_340 : decode cL_law 340 = .ok (.laload, 1) := by decide +kernel
theorem dL_law_341 : decode cL_law 341 = .ok (.iload 6, 2) := by decide +kernel
theorem dL_law_343 : decode cL_law 343 = .ok (.i2l, 1) := by decide +kernel
theorem dL_law_344 : decode cL_law 344 = .ok (.lcmp, 1) := by decide +kernel
theorem dL_law_345 : decode cL_law 345 = .ok (.ifCond .eq 5, 3) := by decide +kernel
theorem dL_law_348 : decode cL_law 348 = .ok (.iconst 0, 1) := by decide +kernel
theorem dL_law_349 : decode cL_law 349 = .ok (.ireturn, 1) := by decide +kernel
theorem dL_law_350 : decode cL_law 350 = .ok (.goto 1843, 3) := by decide +kernel
theorem dL_law_353 : decode cL_law 353 = .ok (.aload_n 1, 1) := by decide +kernel
theorem dL_law_354 : decode cL_law 354 = .ok (.aload_n 0, 1) := by decide +kernel
theorem dL_law_355 : decode cL_law 355 = .ok (.iload 4, 2) := by decide +kernel
theorem dL_law_357 : decode cL_law 357 = .ok (.iconst 1, 1) := by decide +kernel
theorem dL_law_358 : decode cL_law 358 = .ok (.iadd, 1) := by decide +kernel
theorem dL_law_359 : decode cL_law 359 = .ok (.iaload, 1) := by decide +kernel
theorem dL_law_360 : decode cL_law 360 = .ok (.invokevirtual 115, 3) := by decide +kernel
theorem dL_law_363 : decode cL_law 363 = .ok (.aload_n 2, 1) := by decide +kernel
theorem dL_law_364 : decode cL_law 364 = .ok (.aload_n 0, 1) := by decide +kernel
theorem dL_law_365 : decode cL_law 365 = .ok (.iload 4, 2) := by decide +kernel
theorem dL_law_367 : decode cL_law 367 = .ok (.iconst 1, 1) := by decide +kernel
theorem dL_law_368 : decode cL_law 368 = .ok (.iadd, 1) := by decide +kernel
theorem dL_law_369 : decode cL_law 369 = .ok (.iaload, 1) := by decide +kernel
theorem dL_law_370 : decode cL_law 370 = .ok (.invokevirtual 118, 3) := by decide +kernel
theorem dL_law_373 : decode cL_law 373 = .ok (.if_icmp .eq 1820, 3) := by decide +kernel
theorem dL_law_376 : decode cL_law 376 = .ok (.iconst 0, 1) := by decide +kernel
theorem dL_law_377 : decode cL_law 377 = .ok (.ireturn, 1) := by decide +kernel
theorem dL_law_378 : decode cL_law 378 = .ok (.aload_n 1, 1) := by decide +kernel
theorem dL_law_379 : decode cL_law 379 = .ok (.aload_n 0, 1) := by decide +kernel
theorem dL_law_380 : decode cL_law 380 = .ok (.iload 4, 2) := by decide +kernel
theorem dL_law_382 : decode cL_law 382 = .ok (.iconst 1, 1) := by decide +kernel
theorem dL_law_383 : decode cL_law 383 = .ok (.iadd, 1) := by decide +kernel
theorem dL_law_384 : decode cL_law 384 = .ok (.iaload, 1) := by decide +kernel
theorem dL_law_385 : decode cL_law 385 = .ok (.aload_n 3, 1) := by decide +kernel
theorem dL_law_386 : decode cL_law 386 = .ok (.invokestatic 119, 3) := by decide +kernel
theorem dL_law_389 : decode cL_law 389 = .ok (.istore 5, 2) := by decide +kernel
theorem dL_law_391 : decode cL_law 391 = .ok (.aload_n 2, 1) := by decide +kernel
theorem dL_law_392 : decode cL_law 392 = .ok (.aload_n 0, 1) := by decide +kernel
theorem dL_law_393 : decode cL_law 393 = .ok (.iload 4, 2) := by decide +kernel
theorem dL_law_395 : decode cL_law 395 = .ok (.iconst 1, 1) := by decide +kernel
theorem dL_law_396 : decode cL_law 396 = .ok (.iadd, 1) := by decide +kernel
theorem dL_law_397 : decode cL_law 397 = .ok (.iaload, 1) := by decide +kernel
theorem dL_law_398 : decode cL_law 398 = .ok (.invokevirtual 121, 3) := by decide +kernel
theorem dL_law_401 : decode cL_law 401 = .ok (.istore 6, 2) := by decide +kernel
theorem dL_law_403 : decode cL_law 403 = .ok (.aload_n 2, 1) := by decide +kernel
theorem dL_law_404 : decode cL_law 404 = .ok (.invokevirtual 111, 3) := by decide +kernel
theorem dL_law_407 : decode cL_law 407 = .ok (.iload 5, 2) := by decide +kernel
theorem dL_law_409 : decode cL_law 409 = .ok (.if_icmp .eq 5, 3) := by decide +kernel
theorem dL_law_412 : decode cL_law 412 = .ok (.iconst 0, 1) := by decide +kernel
theorem dL_law_413 : decode cL_law 413 = .ok (.ireturn, 1) := by decide +kernel
theorem dL_law_414 : decode cL_law 414 = .ok (.iload 5, 2) := by decide +kernel
theorem dL_law_416 : decode cL_law 416 = .ok (.ifCond .ne 15, 3) := by decide +kernel
theorem dL_law_419 : decode cL_law 419 = .ok (.aload_n 3, 1) := by decide +kernel
theorem dL_law_420 : decode cL_law 420 = .ok (.iconst 0, 1) := by decide +kernel
theorem dL_law_421 : decode cL_law 421 = .ok (.laload, 1) := by decide +kernel
theorem dL_law_422 : decode cL_law 422 = .ok (.iload 6, 2) := by decide +kernel
theorem dL_law_424 : decode cL_law 424 = .ok (.i2l, 1) := by decide +kernel
theorem dL_law_425 : decode cL_law 425 = .ok (.lcmp, 1) := by decide +kernel
theorem dL_law_426 : decode cL_law 426 = .ok (.ifCond .eq 5, 3) := by decide +kernel
theorem dL_law_429 : decode cL_law 429 = .ok (.iconst 0, 1) := by decide +kernel
theorem dL_law_430 : decode cL_law 430 = .ok (.ireturn, 1) := by decide +kernel
theorem dL_law_431 : decode cL_law 431 = .ok (.goto 1762, 3) := by decide +kernel
theorem dL_law_434 : decode cL_law 434 = .ok (.aload_n 1, 1) := by decide +kernel
theorem dL_law_435 : decode cL_law 435 = .ok (.aload_n 0, 1) := by decide +kernel
theorem dL_law_436 : decode cL_law 436 = .ok (.iload 4, 2) := by decide +kernel
theorem dL_law_438 : decode cL_law 438 = .ok (.iconst 1, 1) := by decide +kernel
theorem dL_law_439 : decode cL_law 439 = .ok (.iadd, 1) := by decide +kernel
theorem dL_law_440 : decode cL_law 440 = .ok (.iaload, 1) := by decide +kernel
theorem dL_law_441 : decode cL_law 441 = .ok (.aload_n 3, 1) := by decide +kernel
theorem dL_law_442 : decode cL_law 442 = .ok (.invokestatic 122, 3) := by decide +kernel
theorem dL_law_445 : decode cL_law 445 = .ok (.istore 5, 2) := by decide +kernel
theorem dL_law_447 : decode cL_law 447 = .ok (.aload_n 2, 1) := by decide +kernel
theorem dL_law_448 : decode cL_law 448 = .ok (.aload_n 0, 1) := by decide +kernel
theorem dL_law_449 : decode cL_law 449 = .ok (.iload 4, 2) := by decide +kernel
theorem dL_law_451 : decode cL_law 451 = .ok (.iconst 1, 1) := by decide +kernel
theorem dL_law_452 : decode cL_law 452 = .ok (.iadd, 1) := by decide +kernel
theorem dL_law_453 : decode cL_law 453 = .ok (.iaload, 1) := by decide +kernel
theorem dL_law_454 : decode cL_law 454 = .ok (.invokevirtual 124, 3) := by decide +kernel
theorem dL_law_457 : decode cL_law 457 = .ok (.istore 6, 2) := by decide +kernel
theorem dL_law_459 : decode cL_law 459 = .ok (.aload_n 2, 1) := by decide +kernel
theorem dL_law_460 : decode cL_law 460 = .ok (.invokevirtual 111, 3) := by decide +kernel
theorem dL_law_463 : decode cL_law 463 = .ok (.iload 5, 2) := by decide +kernel
theorem dL_law_465 : decode cL_law 465 = .ok (.if_icmp .eq 5, 3) := by decide +kernel
theorem dL_law_468 : decode cL_law 468 = .ok (.iconst 0, 1) := by decide +kernel
theorem dL_law_469 : decode cL_law 469 = .ok (.ireturn, 1) := by decide +kernel
theorem dL_law_470 : decode cL_law 470 = .ok (.iload 5, 2) := by decide +kernel
theorem dL_law_472 : decode cL_law 472 = .ok (.ifCond .ne 15, 3) := by decide +kernel
theorem dL_law_475 : decode cL_law 475 = .ok (.aload_n 3, 1) := by decide +kernel
theorem dL_law_476 : decode cL_law 476 = .ok (.iconst 0, 1) := by decide +kernel
theorem dL_law_477 : decode cL_law 477 = .ok (.laload, 1) := by decide +kernel
theorem dL_law_478 : decode cL_law 478 = .ok (.iload 6, 2) := by decide +kernel
theorem dL_law_480 : decode cL_law 480 = .ok (.i2l, 1) := by decide +kernel
theorem dL_law_481 : decode cL_law 481 = .ok (.lcmp, 1) := by decide +kernel
theorem dL_law_482 : decode cL_law 482 = .ok (.ifCond .eq 5, 3) := by decide +kernel
theorem dL_law_485 : decode cL_law 485 = .ok (.iconst 0, 1) := by decide +kernel
theorem dL_law_486 : decode cL_law 486 = .ok (.ireturn, 1) := by decide +kernel
theorem dL_law_487 : decode cL_law 487 = .ok (.goto 1706, 3) := by decide +kernel
theorem dL_law_490 : decode cL_law 490 = .ok (.aload_n 1, 1) := by decide +kernel
theorem dL_law_491 : decode cL_law 491 = .ok (.invokevirtual 125, 3) := by decide +kernel
theorem dL_law_494 : decode cL_law 494 = .ok (.aload_n 2, 1) := by decide +kernel
theorem dL_law_495 : decode cL_law 495 = .ok (.invokevirtual 128, 3) := by decide +kernel
theorem dL_law_498 : decode cL_law 498 = .ok (.if_icmp .eq 1695, 3) := by decide +kernel
theorem dL_law_501 : decode cL_law 501 = .ok (.iconst 0, 1) := by decide +kernel
theorem dL_law_502 : decode cL_law 502 = .ok (.ireturn, 1) := by decide +kernel
theorem dL_law_503 : decode cL_law 503 = .ok (.aload_n 1, 1) := by decide +kernel
theorem dL_law_504 : decode cL_law 504 = .ok (.aload_n 0, 1) := by decide +kernel
theorem dL_law_505 : decode cL_law 505 = .ok (.iload 4, 2) := by decide +kernel
theorem dL_law_507 : decode cL_law 507 = .ok (.iconst 1, 1) := by decide +kernel
theorem dL_law_508 : decode cL_law 508 = .ok (.iadd, 1) := by decide +kernel
theorem dL_law_509 : decode cL_law 509 = .ok (.iaload, 1) := by decide +kernel
theorem dL_law_510 : decode cL_law 510 = .ok (.invokevirtual 129, 3) := by decide +kernel
theorem dL_law_513 : decode cL_law 513 = .ok (.aload_n 2, 1) := by decide +kernel
theorem dL_law_514 : decode cL_law 514 = .ok (.aload_n 0, 1) := by decide +kernel
theorem dL_law_515 : decode cL_law 515 = .ok (.iload 4, 2) := by decide +kernel
theorem dL_law_517 : decode cL_law 517 = .ok (.iconst 1, 1) := by decide +kernel
theorem dL_law_518 : decode cL_law 518 = .ok (.iadd, 1) := by decide +kernel
theorem dL_law_519 : decode cL_law 519 = .ok (.iaload, 1) := by decide +kernel
theorem dL_law_520 : decode cL_law 520 = .ok (.invokevirtual 132, 3) := by decide +kernel
theorem dL_law_523 : decode cL_law 523 = .ok (.if_icmp .eq 1670, 3) := by decide +kernel
theorem dL_law_526 : decode cL_law 526 = .ok (.iconst 0, 1) := by decide +kernel
theorem dL_law_527 : decode cL_law 527 = .ok (.ireturn, 1) := by decide +kernel
theorem dL_law_528 : decode cL_law 528 = .ok (.aload_n 1, 1) := by decide +kernel
theorem dL_law_529 : decode cL_law 529 = .ok (.aload_n 0, 1) := by decide +kernel
theorem dL_law_530 : decode cL_law 530 = .ok (.iload 4, 2) := by decide +kernel
theorem dL_law_532 : decode cL_law 532 = .ok (.iconst 1, 1) := by decide +kernel
theorem dL_law_533 : decode cL_law 533 = .ok (.iadd, 1) := by decide +kernel
theorem dL_law_534 : decode cL_law 534 = .ok (.iaload, 1) := by decide +kernel
theorem dL_law_535 : decode cL_law 535 = .ok (.invokevirtual 133, 3) := by decide +kernel
theorem dL_law_538 : decode cL_law 538 = .ok (.aload_n 2, 1) := by decide +kernel
theorem dL_law_539 : decode cL_law 539 = .ok (.aload_n 0, 1) := by decide +kernel
theorem dL_law_540 : decode cL_law 540 = .ok (.iload 4, 2) := by decide +kernel
theorem dL_law_542 : decode cL_law 542 = .ok (.iconst 1, 1) := by decide +kernel
theorem dL_law_543 : decode cL_law 543 = .ok (.iadd, 1) := by decide +kernel
theorem dL_law_544 : decode cL_law 544 = .ok (.iaload, 1) := by decide +kernel
theorem dL_law_545 : decode cL_law 545 = .ok (.invokevirtual 136, 3) := by decide +kernel
theorem dL_law_548 : decode cL_law 548 = .ok (.if_icmp .eq 1645, 3) := by decide +kernel
theorem dL_law_551 : decode cL_law 551 = .ok (.iconst 0, 1) := by decide +kernel
theorem dL_law_552 : decode cL_law 552 = .ok (.ireturn, 1) := by decide +kernel
theorem dL_law_553 : decode cL_law 553 = .ok (.aload_n 1, 1) := by decide +kernel
theorem dL_law_554 : decode cL_law 554 = .ok (.aload_n 0, 1) := by decide +kernel
theorem dL_law_555 : decode cL_law 555 = .ok (.iload 4, 2) := by decide +kernel
theorem dL_law_557 : decode cL_law 557 = .ok (.iconst 1, 1) := by decide +kernel
theorem dL_law_558 : decode cL_law 558 = .ok (.iadd, 1) := by decide +kernel
theorem dL_law_559 : decode cL_law 559 = .ok (.iaload, 1) := by decide +kernel
theorem dL_law_560 : decode cL_law 560 = .ok (.aload_n 0, 1) := by decide +kernel
theorem dL_law_561 : decode cL_law 561 = .ok (.iload 4, 2) := by decide +kernel
theorem dL_law_563 : decode cL_law 563 = .ok (.iconst 2, 1) := by decide +kernel
theorem dL_law_564 : decode cL_law 564 = .ok (.iadd, 1) := by decide +kernel
theorem dL_law_565 : decode cL_law 565 = .ok (.iaload, 1) := by decide +kernel
theorem dL_law_566 : decode cL_law 566 = .ok (.aload_n 3, 1) := by decide +kernel
theorem dL_law_567 : decode cL_law 567 = .ok (.invokestatic 137, 3) := by decide +kernel
theorem dL_law_570 : decode cL_law 570 = .ok (.istore 5, 2) := by decide +kernel
theorem dL_law_572 : decode cL_law 572 = .ok (.aload_n 2, 1) := by decide +kernel
theorem dL_law_573 : decode cL_law 573 = .ok (.aload_n 0, 1) := by decide +kernel
theorem dL_law_574 : decode cL_law 574 = .ok (.iload 4, 2) := by decide +kernel
theorem dL_law_576 : decode cL_law 576 = .ok (.iconst 1, 1) := by decide +kernel
theorem dL_law_577 : decode cL_law 577 = .ok (.iadd, 1) := by decide +kernel
theorem dL_law_578 : decode cL_law 578 = .ok (.iaload, 1) := by decide +kernel
theorem dL_law_579 : decode cL_law 579 = .ok (.aload_n 0, 1) := by decide +kernel
theorem dL_law_580 : decode cL_law 580 = .ok (.iload 4, 2) := by decide +kernel
theorem dL_law_582 : decode cL_law 582 = .ok (.iconst 2, 1) := by decide +kernel
theorem dL_law_583 : decode cL_law 583 = .ok (.iadd, 1) := by decide +kernel
theorem dL_law_584 : decode cL_law 584 = .ok (.iaload, 1) := by decide +kernel
theorem dL_law_585 : decode cL_law 585 = .ok (.invokevirtual 140, 3) := by decide +kernel
theorem dL_law_588 : decode cL_law 588 = .ok (.istore 6, 2) := by decide +kernel
theorem dL_law_590 : decode cL_law 590 = .ok (.aload_n 2, 1) := by decide +kernel
theorem dL_law_591 : decode cL_law 591 = .ok (.invokevirtual 111, 3) := by decide +kernel
theorem dL_law_594 : decode cL_law 594 = .ok (.iload 5, 2) := by decide +kernel
theorem dL_law_596 : decode cL_law 596 = .ok (.if_icmp .eq 5, 3) := by decide +kernel
theorem dL_law_599 : decode cL_law 599 = .ok (.iconst 0, 1) := by decide +kernel
theorem dL_law_600 : decode cL_law 600 = .ok (.ireturn, 1) := by decide +kernel
theorem dL_law_601 : decode cL_law 601 = .ok (.iload 5, 2) := by decide +kernel
theorem dL_law_603 : decode cL_law 603 = .ok (.ifCond .ne 15, 3) := by decide +kernel
theorem dL_law_606 : decode cL_law 606 = .ok (.aload_n 3, 1) := by decide +kernel
theorem dL_law_607 : decode cL_law 607 = .ok (.iconst 0, 1) := by decide +kernel
theorem dL_law_608 : decode cL_law 608 = .ok (.laload, 1) := by decide +kernel
theorem dL_law_609 : decode cL_law 609 = .ok (.iload 6, 2) := by decide +kernel
theorem dL_law_611 : decode cL_law 611 = .ok (.i2l, 1) := by decide +kernel
theorem dL_law_612 : decode cL_law 612 = .ok (.lcmp, 1) := by decide +kernel
theorem dL_law_613 : decode cL_law 613 = .ok (.ifCond .eq 5, 3) := by decide +kernel
theorem dL_law_616 : decode cL_law 616 = .ok (.iconst 0, 1) := by decide +kernel
theorem dL_law_617 : decode cL_law 617 = .ok (.ireturn, 1) := by decide +kernel
theorem dL_law_618 : decode cL_law 618 = .ok (.goto 1575, 3) := by decide +kernel
theorem dL_law_621 : decode cL_law 621 = .ok (.aload_n 1, 1) := by decide +kernel
theorem dL_law_622 : decode cL_law 622 = .ok (.invokevirtual 141, 3) := by decide +kernel
theorem dL_law_625 : decode cL_law 625 = .ok (.aload_n 2, 1) := by decide +kernel
theorem dL_law_626 : decode cL_law 626 = .ok (.invokevirtual 145, 3) := by decide +kernel
theorem dL_law_629 : decode cL_law 629 = .ok (.if_icmp .eq 1564, 3) := by decide +kernel
theorem dL_law_632 : decode cL_law 632 = .ok (.iconst 0, 1) := by decide +kernel
theorem dL_law_633 : decode cL_law 633 = .ok (.ireturn, 1) := by decide +kernel
theorem dL_law_634 : decode cL_law 634 = .ok (.aload_n 1, 1) := by decide +kernel
theorem dL_law_635 : decode cL_law 635 = .ok (.invokevirtual 146, 3) := by decide +kernel
theorem dL_law_638 : decode cL_law 638 = .ok (.aload_n 2, 1) := by decide +kernel
theorem dL_law_639 : decode cL_law 639 = .ok (.invokevirtual 149, 3) := by decide +kernel
theorem dL_law_642 : decode cL_law 642 = .ok (.if_icmp .eq 1551, 3) := by decide +kernel
theorem dL_law_645 : decode cL_law 645 = .ok (.iconst 0, 1) := by decide +kernel
theorem dL_law_646 : decode cL_law 646 = .ok (.ireturn, 1) := by decide +kernel
theorem dL_law_647 : decode cL_law 647 = .ok (.aload_n 1, 1) := by decide +kernel
theorem dL_law_648 : decode cL_law 648 = .ok (.invokevirtual 150, 3) := by decide +kernel
theorem dL_law_651 : decode cL_law 651 = .ok (.aload_n 2, 1) := by decide +kernel
theorem dL_law_652 : decode cL_law 652 = .ok (.invokevirtual 153, 3) := by decide +kernel
theorem dL_law_655 : decode cL_law 655 = .ok (.if_icmp .eq 1538, 3) := by decide +kernel
theorem dL_law_658 : decode cL_law 658 = .ok (.iconst 0, 1) := by decide +kernel
theorem dL_law_659 : decode cL_law 659 = .ok (.ireturn, 1) := by decide +kernel
theorem dL_law_660 : decode cL_law 660 = .ok (.aload_n 1, 1) := by decide +kernel
theorem dL_law_661 : decode cL_law 661 = .ok (.invokevirtual 154, 3) := by decide +kernel
theorem dL_law_664 : decode cL_law 664 = .ok (.aload_n 2, 1) := by decide +kernel
theorem dL_law_665 : decode cL_law 665 = .ok (.invokevirtual 157, 3) := by decide +kernel
theorem dL_law_668 : decode cL_law 668 = .ok (.if_icmp .eq 1525, 3) := by decide +kernel
theorem dL_law_671 : decode cL_law 671 = .ok (.iconst 0, 1) := by decide +kernel
theorem dL_law_672 : decode cL_law 672 = .ok (.ireturn, 1) := by decide +kernel
theorem dL_law_673 : decode cL_law 673 = .ok (.aload_n 1, 1) := by decide +kernel
theorem dL_law_674 : decode cL_law 674 = .ok (.aload_n 0, 1) := by decide +kernel
theorem dL_law_675 : decode cL_law 675 = .ok (.iload 4, 2) := by decide +kernel
theorem dL_law_677 : decode cL_law 677 = .ok (.iconst 1, 1) := by decide +kernel
theorem dL_law_678 : decode cL_law 678 = .ok (.iadd, 1) := by decide +kernel
theorem dL_law_679 : decode cL_law 679 = .ok (.iaload, 1) := by decide +kernel
theorem dL_law_680 : decode cL_law 680 = .ok (.aload_n 0, 1) := by decide +kernel
theorem dL_law_681 : decode cL_law 681 = .ok (.iload 4, 2) := by decide +kernel
theorem dL_law_683 : decode cL_law 683 = .ok (.iconst 2, 1) := by decide +kernel
theorem dL_law_684 : decode cL_law 684 = .ok (.iadd, 1) := by decide +kernel
theorem dL_law_685 : decode cL_law 685 = .ok (.iaload, 1) := by decide +kernel
theorem dL_law_686 : decode cL_law 686 = .ok (.aload_n 3, 1) := by decide +kernel
theorem dL_law_687 : decode cL_law 687 = .ok (.invokestatic 158, 3) := by decide +kernel
theorem dL_law_690 : decode cL_law 690 = .ok (.istore 5, 2) := by decide +kernel
theorem dL_law_692 : decode cL_law 692 = .ok (.aload_n 2, 1) := by decide +kernel
theorem dL_law_693 : decode cL_law 693 = .ok (.aload_n 0, 1) := by decide +kernel
theorem dL_law_694 : decode cL_law 694 = .ok (.iload 4, 2) := by decide +kernel
theorem dL_law_696 : decode cL_law 696 = .ok (.iconst 1, 1) := by decide +kernel
theorem dL_law_697 : decode cL_law 697 = .ok (.iadd, 1) := by decide +kernel
theorem dL_law_698 : decode cL_law 698 = .ok (.iaload, 1) := by decide +kernel
theorem dL_law_699 : decode cL_law 699 = .ok (.aload_n 0, 1) := by decide +kernel
theorem dL_law_700 : decode cL_law 700 = .ok (.iload 4, 2) := by decide +kernel
theorem dL_law_702 : decode cL_law 702 = .ok (.iconst 2, 1) := by decide +kernel
theorem dL_law_703 : decode cL_law 703 = .ok (.iadd, 1) := by decide +kernel
theorem dL_law_704 : decode cL_law 704 = .ok (.iaload, 1) := by decide +kernel
theorem dL_law_705 : decode cL_law 705 = .ok (.invokevirtual 160, 3) := by decide +kernel
theorem dL_law_708 : decode cL_law 708 = .ok (.istore 6, 2) := by decide +kernel
theorem dL_law_710 : decode cL_law 710 = .ok (.aload_n 2, 1) := by decide +kernel
theorem dL_law_711 : decode cL_law 711 = .ok (.invokevirtual 111, 3) := by decide +kernel
theorem dL_law_714 : decode cL_law 714 = .ok (.iload 5, 2) := by decide +kernel
theorem dL_law_716 : decode cL_law 716 = .ok (.if_icmp .eq 5, 3) := by decide +kernel
theorem dL_law_719 : decode cL_law 719 = .ok (.iconst 0, 1) := by decide +kernel
theorem dL_law_720 : decode cL_law 720 = .ok (.ireturn, 1) := by decide +kernel
theorem dL_law_721 : decode cL_law 721 = .ok (.iload 5, 2) := by decide +kernel
theorem dL_law_723 : decode cL_law 723 = .ok (.ifCond .ne 15, 3) := by decide +kernel
theorem dL_law_726 : decode cL_law 726 = .ok (.aload_n 3, 1) := by decide +kernel
theorem dL_law_727 : decode cL_law 727 = .ok (.iconst 0, 1) := by decide +kernel
theorem dL_law_728 : decode cL_law 728 = .ok (.laload, 1) := by decide +kernel
theorem dL_law_729 : decode cL_law 729 = .ok (.iload 6, 2) := by decide +kernel
theorem dL_law_731 : decode cL_law 731 = .ok (.i2l, 1) := by decide +kernel
theorem dL_law_732 : decode cL_law 732 = .ok (.lcmp, 1) := by decide +kernel
theorem dL_law_733 : decode cL_law 733 = .ok (.ifCond .eq 5, 3) := by decide +kernel
theorem dL_law_736 : decode cL_law 736 = .ok (.iconst 0, 1) := by decide +kernel
theorem dL_law_737 : decode cL_law 737 = .ok (.ireturn, 1) := by decide +kernel
theorem dL_law_738 : decode cL_law 738 = .ok (.goto 1455, 3) := by decide +kernel
theorem dL_law_741 : decode cL_law 741 = .ok (.aload_n 1, 1) := by decide +kernel
theorem dL_law_742 : decode cL_law 742 = .ok (.aload_n 0, 1) := by decide +kernel
theorem dL_law_743 : decode cL_law 743 = .ok (.iload 4, 2) := by decide +kernel
theorem dL_law_745 : decode cL_law 745 = .ok (.iconst 1, 1) := by decide +kernel
theorem dL_law_746 : decode cL_law 746 = .ok (.iadd, 1) := by decide +kernel
theorem dL_law_747 : decode cL_law 747 = .ok (.iaload, 1) := by decide +kernel
theorem dL_law_748 : decode cL_law 748 = .ok (.aload_n 3, 1) := by decide +kernel
theorem dL_law_749 : decode cL_law 749 = .ok (.invokestatic 161, 3) := by decide +kernel
theorem dL_law_752 : decode cL_law 752 = .ok (.istore 5, 2) := by decide +kernel
theorem dL_law_754 : decode cL_law 754 = .ok (.aload_n 2, 1) := by decide +kernel
theorem dL_law_755 : decode cL_law 755 = .ok (.aload_n 0, 1) := by decide +kernel
theorem dL_law_756 : decode cL_law 756 = .ok (.iload 4, 2) := by decide +kernel
theorem dL_law_758 : decode cL_law 758 = .ok (.iconst 1, 1) := by decide +kernel
theorem dL_law_759 : decode cL_law 759 = .ok (.iadd, 1) := by decide +kernel
theorem dL_law_760 : decode cL_law 760 = .ok (.iaload, 1) := by decide +kernel
theorem dL_law_761 : decode cL_law 761 = .ok (.invokevirtual 163, 3) := by decide +kernel
theorem dL_law_764 : decode cL_law 764 = .ok (.istore 6, 2) := by decide +kernel
theorem dL_law_766 : decode cL_law 766 = .ok (.aload_n 2, 1) := by decide +kernel
theorem dL_law_767 : decode cL_law 767 = .ok (.invokevirtual 111, 3) := by decide +kernel
theorem dL_law_770 : decode cL_law 770 = .ok (.iload 5, 2) := by decide +kernel
theorem dL_law_772 : decode cL_law 772 = .ok (.if_icmp .eq 5, 3) := by decide +kernel
theorem dL_law_775 : decode cL_law 775 = .ok (.iconst 0, 1) := by decide +kernel
theorem dL_law_776 : decode cL_law 776 = .ok (.ireturn, 1) := by decide +kernel
theorem dL_law_777 : decode cL_law 777 = .ok (.iload 5, 2) := by decide +kernel
theorem dL_law_779 : decode cL_law 779 = .ok (.ifCond .ne 15, 3) := by decide +kernel
theorem dL_law_782 : decode cL_law 782 = .ok (.aload_n 3, 1) := by decide +kernel
theorem dL_law_783 : decode cL_law 783 = .ok (.iconst 0, 1) := by decide +kernel
theorem dL_law_784 : decode cL_law 784 = .ok (.laload, 1) := by decide +kernel
theorem dL_law_785 : decode cL_law 785 = .ok (.iload 6, 2) := by decide +kernel
theorem dL_law_787 : decode cL_law 787 = .ok (.i2l, 1) := by decide +kernel
theorem dL_law_788 : decode cL_law 788 = .ok (.lcmp, 1) := by decide +kernel
theorem dL_law_789 : decode cL_law 789 = .ok (.ifCond .eq 5, 3) := by decide +kernel
theorem dL_law_792 : decode cL_law 792 = .ok (.iconst 0, 1) := by decide +kernel
theorem dL_law_793 : decode cL_law 793 = .ok (.ireturn, 1) := by decide +kernel
theorem dL_law_794 : decode cL_law 794 = .ok (.goto 1399, 3) := by decide +kernel
theorem dL_law_797 : decode cL_law 797 = .ok (.aload_n 1, 1) := by decide +kernel
theorem dL_law_798 : decode cL_law 798 = .ok (.aload_n 0, 1) := by decide +kernel
theorem dL_law_799 : decode cL_law 799 = .ok (.iload 4, 2) := by decide +kernel
theorem dL_law_801 : decode cL_law 801 = .ok (.iconst 1, 1) := by decide +kernel
theorem dL_law_802 : decode cL_law 802 = .ok (.iadd, 1) := by decide +kernel
theorem dL_law_803 : decode cL_law 803 = .ok (.iaload, 1) := by decide +kernel
theorem dL_law_804 : decode cL_law 804 = .ok (.aload_n 0, 1) := by decide +kernel
theorem dL_law_805 : decode cL_law 805 = .ok (.iload 4, 2) := by decide +kernel
theorem dL_law_807 : decode cL_law 807 = .ok (.iconst 2, 1) := by decide +kernel
theorem dL_law_808 : decode cL_law 808 = .ok (.iadd, 1) := by decide +kernel
theorem dL_law_809 : decode cL_law 809 = .ok (.iaload, 1) := by decide +kernel
theorem dL_law_810 : decode cL_law 810 = .ok (.aload_n 3, 1) := by decide +kernel
theorem dL_law_811 : decode cL_law 811 = .ok (.invokestatic 164, 3) := by decide +kernel
theorem dL_law_814 : decode cL_law 814 = .ok (.istore 5, 2) := by decide +kernel
theorem dL_law_816 : decode cL_law 816 = .ok (.aload_n 2, 1) := by decide +kernel
theorem dL_law_817 : decode cL_law 817 = .ok (.aload_n 0, 1) := by decide +kernel
theorem dL_law_818 : decode cL_law 818 = .ok (.iload 4, 2) := by decide +kernel
theorem dL_law_820 : decode cL_law 820 = .ok (.iconst 1, 1) := by decide +kernel
theorem dL_law_821 : decode cL_law 821 = .ok (.iadd, 1) := by decide +kernel
theorem dL_law_822 : decode cL_law 822 = .ok (.iaload, 1) := by decide +kernel
theorem dL_law_823 : decode cL_law 823 = .ok (.aload_n 0, 1) := by decide +kernel
theorem dL_law_824 : decode cL_law 824 = .ok (.iload 4, 2) := by decide +kernel
theorem dL_law_826 : decode cL_law 826 = .ok (.iconst 2, 1) := by decide +kernel
theorem dL_law_827 : decode cL_law 827 = .ok (.iadd, 1) := by decide +kernel
theorem dL_law_828 : decode cL_law 828 = .ok (.iaload, 1) := by decide +kernel
theorem dL_law_829 : decode cL_law 829 = .ok (.invokevirtual 166, 3) := by decide +kernel
theorem dL_law_832 : decode cL_law 832 = .ok (.istore 6, 2) := by decide +kernel
theorem dL_law_834 : decode cL_law 834 = .ok (.aload_n 2, 1) := by decide +kernel
theorem dL_law_835 : decode cL_law 835 = .ok (.invokevirtual 111, 3) := by decide +kernel
theorem dL_law_838 : decode cL_law 838 = .ok (.iload 5, 2) := by decide +kernel
theorem dL_law_840 : decode cL_law 840 = .ok (.if_icmp .eq 5, 3) := by decide +kernel
theorem dL_law_843 : decode cL_law 843 = .ok (.iconst 0, 1) := by decide +kernel
theorem dL_law_844 : decode cL_law 844 = .ok (.ireturn, 1) := by decide +kernel
theorem dL_law_845 : decode cL_law 845 = .ok (.iload 5, 2) := by decide +kernel
theorem dL_law_847 : decode cL_law 847 = .ok (.ifCond .ne 15, 3) := by decide +kernel
theorem dL_law_850 : decode cL_law 850 = .ok (.aload_n 3, 1) := by decide +kernel
theorem dL_law_851 : decode cL_law 851 = .ok (.iconst 0, 1) := by decide +kernel
theorem dL_law_852 : decode cL_law 852 = .ok (.laload, 1) := by decide +kernel
theorem dL_law_853 : decode cL_law 853 = .ok (.iload 6, 2) := by decide +kernel
theorem dL_law_855 : decode cL_law 855 = .ok (.i2l, 1) := by decide +kernel
theorem dL_law_856 : decode cL_law 856 = .ok (.lcmp, 1) := by decide +kernel
theorem dL_law_857 : decode cL_law 857 = .ok (.ifCond .eq 5, 3) := by decide +kernel
theorem dL_law_860 : decode cL_law 860 = .ok (.iconst 0, 1) := by decide +kernel
theorem dL_law_861 : decode cL_law 861 = .ok (.ireturn, 1) := by decide +kernel
theorem dL_law_862 : decode cL_law 862 = .ok (.goto 1331, 3) := by decide +kernel
theorem dL_law_865 : decode cL_law 865 = .ok (.aload_n 1, 1) := by decide +kernel
theorem dL_law_866 : decode cL_law 866 = .ok (.invokevirtual 167, 3) := by decide +kernel
theorem dL_law_869 : decode cL_law 869 = .ok (.aload_n 2, 1) := by decide +kernel
theorem dL_law_870 : decode cL_law 870 = .ok (.invokevirtual 170, 3) := by decide +kernel
theorem dL_law_873 : decode cL_law 873 = .ok (.if_icmp .eq 1320, 3) := by decide +kernel
theorem dL_law_876 : decode cL_law 876 = .ok (.iconst 0, 1) := by decide +kernel
theorem dL_law_877 : decode cL_law 877 = .ok (.ireturn, 1) := by decide +kernel
theorem dL_law_878 : decode cL_law 878 = .ok (.aload_n 1, 1) := by decide +kernel
theorem dL_law_879 : decode cL_law 879 = .ok (.aload_n 0, 1) := by decide +kernel
theorem dL_law_880 : decode cL_law 880 = .ok (.iload 4, 2) := by decide +kernel
theorem dL_law_882 : decode cL_law 882 = .ok (.iconst 1, 1) := by decide +kernel
theorem dL_law_883 : decode cL_law 883 = .ok (.iadd, 1) := by decide +kernel
theorem dL_law_884 : decode cL_law 884 = .ok (.iaload, 1) := by decide +kernel
theorem dL_law_885 : decode cL_law 885 = .ok (.aload_n 0, 1) := by decide +kernel
theorem dL_law_886 : decode cL_law 886 = .ok (.iload 4, 2) := by decide +kernel
theorem dL_law_888 : decode cL_law 888 = .ok (.iconst 2, 1) := by decide +kernel
theorem dL_law_889 : decode cL_law 889 = .ok (.iadd, 1) := by decide +kernel
theorem dL_law_890 : decode cL_law 890 = .ok (.iaload, 1) := by decide +kernel
theorem dL_law_891 : decode cL_law 891 = .ok (.aload_n 0, 1) := by decide +kernel
theorem dL_law_892 : decode cL_law 892 = .ok (.iload 4, 2) := by decide +kernel
theorem dL_law_894 : decode cL_law 894 = .ok (.iconst 3, 1) := by decide +kernel
theorem dL_law_895 : decode cL_law 895 = .ok (.iadd, 1) := by decide +kernel
theorem dL_law_896 : decode cL_law 896 = .ok (.iaload, 1) := by decide +kernel
theorem dL_law_897 : decode cL_law 897 = .ok (.aload_n 0, 1) := by decide +kernel
theorem dL_law_898 : decode cL_law 898 = .ok (.iload 4, 2) := by decide +kernel
theorem dL_law_900 : decode cL_law 900 = .ok (.iconst 4, 1) := by decide +kernel
theorem dL_law_901 : decode cL_law 901 = .ok (.iadd, 1) := by decide +kernel
theorem dL_law_902 : decode cL_law 902 = .ok (.iaload, 1) := by decide +kernel
theorem dL_law_903 : decode cL_law 903 = .ok (.aload_n 3, 1) := by decide +kernel
theorem dL_law_904 : decode cL_law 904 = .ok (.invokestatic 171, 3) := by decide +kernel
theorem dL_law_907 : decode cL_law 907 = .ok (.istore 5, 2) := by decide +kernel
theorem dL_law_909 : decode cL_law 909 = .ok (.aload_n 2, 1) := by decide +kernel
theorem dL_law_910 : decode cL_law 910 = .ok (.aload_n 0, 1) := by decide +kernel
theorem dL_law_911 : decode cL_law 911 = .ok (.iload 4, 2) := by decide +kernel
theorem dL_law_913 : decode cL_law 913 = .ok (.iconst 1, 1) := by decide +kernel
theorem dL_law_914 : decode cL_law 914 = .ok (.iadd, 1) := by decide +kernel
theorem dL_law_915 : decode cL_law 915 = .ok (.iaload, 1) := by decide +kernel
theorem dL_law_916 : decode cL_law 916 = .ok (.aload_n 0, 1) := by decide +kernel
theorem dL_law_917 : decode cL_law 917 = .ok (.iload 4, 2) := by decide +kernel
theorem dL_law_919 : decode cL_law 919 = .ok (.iconst 2, 1) := by decide +kernel
theorem dL_law_920 : decode cL_law 920 = .ok (.iadd, 1) := by decide +kernel
theorem dL_law_921 : decode cL_law 921 = .ok (.iaload, 1) := by decide +kernel
theorem dL_law_922 : decode cL_law 922 = .ok (.aload_n 0, 1) := by decide +kernel
theorem dL_law_923 : decode cL_law 923 = .ok (.iload 4, 2) := by decide +kernel
theorem dL_law_925 : decode cL_law 925 = .ok (.iconst 3, 1) := by decide +kernel
theorem dL_law_926 : decode cL_law 926 = .ok (.iadd, 1) := by decide +kernel
theorem dL_law_927 : decode cL_law 927 = .ok (.iaload, 1) := by decide +kernel
theorem dL_law_928 : decode cL_law 928 = .ok (.aload_n 0, 1) := by decide +kernel
theorem dL_law_929 : decode cL_law 929 = .ok (.iload 4, 2) := by decide +kernel
theorem dL_law_931 : decode cL_law 931 = .ok (.iconst 4, 1) := by decide +kernel
theorem dL_law_932 : decode cL_law 932 = .ok (.iadd, 1) := by decide +kernel
theorem dL_law_933 : decode cL_law 933 = .ok (.iaload, 1) := by decide +kernel
theorem dL_law_934 : decode cL_law 934 = .ok (.invokevirtual 174, 3) := by decide +kernel
theorem dL_law_937 : decode cL_law 937 = .ok (.istore 6, 2) := by decide +kernel
theorem dL_law_939 : decode cL_law 939 = .ok (.aload_n 2, 1) := by decide +kernel
theorem dL_law_940 : decode cL_law 940 = .ok (.invokevirtual 111, 3) := by decide +kernel
theorem dL_law_943 : decode cL_law 943 = .ok (.iload 5, 2) := by decide +kernel
theorem dL_law_945 : decode cL_law 945 = .ok (.if_icmp .eq 5, 3) := by decide +kernel
theorem dL_law_948 : decode cL_law 948 = .ok (.iconst 0, 1) := by decide +kernel
theorem dL_law_949 : decode cL_law 949 = .ok (.ireturn, 1) := by decide +kernel
theorem dL_law_950 : decode cL_law 950 = .ok (.iload 5, 2) := by decide +kernel
theorem dL_law_952 : decode cL_law 952 = .ok (.ifCond .ne 15, 3) := by decide +kernel
theorem dL_law_955 : decode cL_law 955 = .ok (.aload_n 3, 1) := by decide +kernel
theorem dL_law_956 : decode cL_law 956 = .ok (.iconst 0, 1) := by decide +kernel
theorem dL_law_957 : decode cL_law 957 = .ok (.laload, 1) := by decide +kernel
theorem dL_law_958 : decode cL_law 958 = .ok (.iload 6, 2) := by decide +kernel
theorem dL_law_960 : decode cL_law 960 = .ok (.i2l, 1) := by decide +kernel
theorem dL_law_961 : decode cL_law 961 = .ok (.lcmp, 1) := by decide +kernel
theorem dL_law_962 : decode cL_law 962 = .ok (.ifCond .eq 5, 3) := by decide +kernel
theorem dL_law_965 : decode cL_law 965 = .ok (.iconst 0, 1) := by decide +kernel
theorem dL_law_966 : decode cL_law 966 = .ok (.ireturn, 1) := by decide +kernel
theorem dL_law_967 : decode cL_law 967 = .ok (.goto 1226, 3) := by decide +kernel
theorem dL_law_970 : decode cL_law 970 = .ok (.aload_n 1, 1) := by decide +kernel
theorem dL_law_971 : decode cL_law 971 = .ok (.invokevirtual 175, 3) := by decide +kernel
theorem dL_law_974 : decode cL_law 974 = .ok (.aload_n 2, 1) := by decide +kernel
theorem dL_law_975 : decode cL_law 975 = .ok (.invokevirtual 178, 3) := by decide +kernel
theorem dL_law_978 : decode cL_law 978 = .ok (.if_icmp .eq 1215, 3) := by decide +kernel
theorem dL_law_981 : decode cL_law 981 = .ok (.iconst 0, 1) := by decide +kernel
theorem dL_law_982 : decode cL_law 982 = .ok (.ireturn, 1) := by decide +kernel
theorem dL_law_983 : decode cL_law 983 = .ok (.aload_n 1, 1) := by decide +kernel
theorem dL_law_984 : decode cL_law 984 = .ok (.invokevirtual 179, 3) := by decide +kernel
theorem dL_law_987 : decode cL_law 987 = .ok (.aload_n 2, 1) := by decide +kernel
theorem dL_law_988 : decode cL_law 988 = .ok (.invokevirtual 182, 3) := by decide +kernel
theorem dL_law_991 : decode cL_law 991 = .ok (.if_icmp .eq 1202, 3) := by decide +kernel
theorem dL_law_994 : decode cL_law 994 = .ok (.iconst 0, 1) := by decide +kernel
theorem dL_law_995 : decode cL_law 995 = .ok (.ireturn, 1) := by decide +kernel
theorem dL_law_996 : decode cL_law 996 = .ok (.aload_n 1, 1) := by decide +kernel
theorem dL_law_997 : decode cL_law 997 = .ok (.invokevirtual 183, 3) := by decide +kernel
theorem dL_law_1000 : decode cL_law 1000 = .ok (.aload_n 2, 1) := by decide +kernel
theorem dL_law_1001 : decode cL_law 1001 = .ok (.invokevirtual 186, 3) := by decide +kernel
theorem dL_law_1004 : decode cL_law 1004 = .ok (.if_icmp .eq 1189, 3) := by decide +kernel
theorem dL_law_1007 : decode cL_law 1007 = .ok (.iconst 0, 1) := by decide +kernel
theorem dL_law_1008 : decode cL_law 1008 = .ok (.ireturn, 1) := by decide +kernel
theorem dL_law_1009 : decode cL_law 1009 = .ok (.aload_n 1, 1) := by decide +kernel
theorem dL_law_1010 : decode cL_law 1010 = .ok (.aload_n 0, 1) := by decide +kernel
theorem dL_law_1011 : decode cL_law 1011 = .ok (.iload 4, 2) := by decide +kernel
theorem dL_law_1013 : decode cL_law 1013 = .ok (.iconst 1, 1) := by decide +kernel
theorem dL_law_1014 : decode cL_law 1014 = .ok (.iadd, 1) := by decide +kernel
theorem dL_law_1015 : decode cL_law 1015 = .ok (.iaload, 1) := by decide +kernel
theorem dL_law_1016 : decode cL_law 1016 = .ok (.invokevirtual 187, 3) := by decide +kernel
theorem dL_law_1019 : decode cL_law 1019 = .ok (.aload_n 2, 1) := by decide +kernel
theorem dL_law_1020 : decode cL_law 1020 = .ok (.aload_n 0, 1) := by decide +kernel
theorem dL_law_1021 : decode cL_law 1021 = .ok (.iload 4, 2) := by decide +kernel
theorem dL_law_1023 : decode cL_law 1023 = .ok (.iconst 1, 1) := by decide +kernel
theorem dL_law_1024 : decode cL_law 1024 = .ok (.iadd, 1) := by decide +kernel
theorem dL_law_1025 : decode cL_law 1025 = .ok (.iaload, 1) := by decide +kernel
theorem dL_law_1026 : decode cL_law 1026 = .ok (.invokevirtual 190, 3) := by decide +kernel
theorem dL_law_1029 : decode cL_law 1029 = .ok (.if_icmp .eq 1164, 3) := by decide +kernel
theorem dL_law_1032 : decode cL_law 1032 = .ok (.iconst 0, 1) := by decide +kernel
theorem dL_law_1033 : decode cL_law 1033 = .ok (.ireturn, 1) := by decide +kernel
theorem dL_law_1034 : decode cL_law 1034 = .ok (.aload_n 1, 1) := by decide +kernel
theorem dL_law_1035 : decode cL_law 1035 = .ok (.aload_n 0, 1) := by decide +kernel
theorem dL_law_1036 : decode cL_law 1036 = .ok (.iload 4, 2) := by decide +kernel
theorem dL_law_1038 : decode cL_law 1038 = .ok (.iconst 1, 1) := by decide +kernel
theorem dL_law_1039 : decode cL_law 1039 = .ok (.iadd, 1) := by decide +kernel
theorem dL_law_1040 : decode cL_law 1040 = .ok (.iaload, 1) := by decide +kernel
theorem dL_law_1041 : decode cL_law 1041 = .ok (.aload_n 0, 1) := by decide +kernel
theorem dL_law_1042 : decode cL_law 1042 = .ok (.iload 4, 2) := by decide +kernel
theorem dL_law_1044 : decode cL_law 1044 = .ok (.iconst 2, 1) := by decide +kernel
theorem dL_law_1045 : decode cL_law 1045 = .ok (.iadd, 1) := by decide +kernel
theorem dL_law_1046 : decode cL_law 1046 = .ok (.iaload, 1) := by decide +kernel
theorem dL_law_1047 : decode cL_law 1047 = .ok (.aload_n 0, 1) := by decide +kernel
theorem dL_law_1048 : decode cL_law 1048 = .ok (.iload 4, 2) := by decide +kernel
theorem dL_law_1050 : decode cL_law 1050 = .ok (.iconst 3, 1) := by decide +kernel
theorem dL_law_1051 : decode cL_law 1051 = .ok (.iadd, 1) := by decide +kernel
theorem dL_law_1052 : decode cL_law 1052 = .ok (.iaload, 1) := by decide +kernel
theorem dL_law_1053 : decode cL_law 1053 = .ok (.aload_n 3, 1) := by decide +kernel
theorem dL_law_1054 : decode cL_law 1054 = .ok (.invokestatic 191, 3) := by decide +kernel
theorem dL_law_1057 : decode cL_law 1057 = .ok (.istore 5, 2) := by decide +kernel
theorem dL_law_1059 : decode cL_law 1059 = .ok (.aload_n 2, 1) := by decide +kernel
theorem dL_law_1060 : decode cL_law 1060 = .ok (.aload_n 0, 1) := by decide +kernel
theorem dL_law_1061 : decode cL_law 1061 = .ok (.iload 4, 2) := by decide +kernel
theorem dL_law_1063 : decode cL_law 1063 = .ok (.iconst 1, 1) := by decide +kernel
theorem dL_law_1064 : decode cL_law 1064 = .ok (.iadd, 1) := by decide +kernel
theorem dL_law_1065 : decode cL_law 1065 = .ok (.iaload, 1) := by decide +kernel
theorem dL_law_1066 : decode cL_law 1066 = .ok (.aload_n 0, 1) := by decide +kernel
theorem dL_law_1067 : decode cL_law 1067 = .ok (.iload 4, 2) := by decide +kernel
theorem dL_law_1069 : decode cL_law 1069 = .ok (.iconst 2, 1) := by decide +kernel
theorem dL_law_1070 : decode cL_law 1070 = .ok (.iadd, 1) := by decide +kernel
theorem dL_law_1071 : decode cL_law 1071 = .ok (.iaload, 1) := by decide +kernel
theorem dL_law_1072 : decode cL_law 1072 = .ok (.aload_n 0, 1) := by decide +kernel
theorem dL_law_1073 : decode cL_law 1073 = .ok (.iload 4, 2) := by decide +kernel
theorem dL_law_1075 : decode cL_law 1075 = .ok (.iconst 3, 1) := by decide +kernel
theorem dL_law_1076 : decode cL_law 1076 = .ok (.iadd, 1) := by decide +kernel
theorem dL_law_1077 : decode cL_law 1077 = .ok (.iaload, 1) := by decide +kernel
theorem dL_law_1078 : decode cL_law 1078 = .ok (.invokevirtual 194, 3) := by decide +kernel
theorem dL_law_1081 : decode cL_law 1081 = .ok (.istore 6, 2) := by decide +kernel
theorem dL_law_1083 : decode cL_law 1083 = .ok (.aload_n 2, 1) := by decide +kernel
theorem dL_law_1084 : decode cL_law 1084 = .ok (.invokevirtual 111, 3) := by decide +kernel
theorem dL_law_1087 : decode cL_law 1087 = .ok (.iload 5, 2) := by decide +kernel
theorem dL_law_1089 : decode cL_law 1089 = .ok (.if_icmp .eq 5, 3) := by decide +kernel
theorem dL_law_1092 : decode cL_law 1092 = .ok (.iconst 0, 1) := by decide +kernel
theorem dL_law_1093 : decode cL_law 1093 = .ok (.ireturn, 1) := by decide +kernel
theorem dL_law_1094 : decode cL_law 1094 = .ok (.iload 5, 2) := by decide +kernel
theorem dL_law_1096 : decode cL_law 1096 = .ok (.ifCond .ne 15, 3) := by decide +kernel
theorem dL_law_1099 : decode cL_law 1099 = .ok (.aload_n 3, 1) := by decide +kernel
theorem dL_law_1100 : decode cL_law 1100 = .ok (.iconst 0, 1) := by decide +kernel
theorem dL_law_1101 : decode cL_law 1101 = .ok (.laload, 1) := by decide +kernel
theorem dL_law_1102 : decode cL_law 1102 = .ok (.iload 6, 2) := by decide +kernel
theorem dL_law_1104 : decode cL_law 1104 = .ok (.i2l, 1) := by decide +kernel
theorem dL_law_1105 : decode cL_law 1105 = .ok (.lcmp, 1) := by decide +kernel
theorem dL_law_1106 : decode cL_law 1106 = .ok (.ifCond .eq 5, 3) := by decide +kernel
theorem dL_law_1109 : decode cL_law 1109 = .ok (.iconst 0, 1) := by decide +kernel
theorem dL_law_1110 : decode cL_law 1110 = .ok (.ireturn, 1) := by decide +kernel
theorem dL_law_1111 : decode cL_law 1111 = .ok (.goto 1082, 3) := by decide +kernel
theorem dL_law_1114 : decode cL_law 1114 = .ok (.aload_n 1, 1) := by decide +kernel
theorem dL_law_1115 : decode cL_law 1115 = .ok (.aload_n 0, 1) := by decide +kernel
theorem dL_law_1116 : decode cL_law 1116 = .ok (.iload 4, 2) := by decide +kernel
theorem dL_law_1118 : decode cL_law 1118 = .ok (.iconst 1, 1) := by decide +kernel
theorem dL_law_1119 : decode cL_law 1119 = .ok (.iadd, 1) := by decide +kernel
theorem dL_law_1120 : decode cL_law 1120 = .ok (.iaload, 1) := by decide +kernel
theorem dL_law_1121 : decode cL_law 1121 = .ok (.aload_n 0, 1) := by decide +kernel
theorem dL_law_1122 : decode cL_law 1122 = .ok (.iload 4, 2) := by decide +kernel
theorem dL_law_1124 : decode cL_law 1124 = .ok (.iconst 2, 1) := by decide +kernel
theorem dL_law_1125 : decode cL_law 1125 = .ok (.iadd, 1) := by decide +kernel
theorem dL_law_1126 : decode cL_law 1126 = .ok (.iaload, 1) := by decide +kernel
theorem dL_law_1127 : decode cL_law 1127 = .ok (.aload_n 0, 1) := by decide +kernel
theorem dL_law_1128 : decode cL_law 1128 = .ok (.iload 4, 2) := by decide +kernel
theorem dL_law_1130 : decode cL_law 1130 = .ok (.iconst 3, 1) := by decide +kernel
theorem dL_law_1131 : decode cL_law 1131 = .ok (.iadd, 1) := by decide +kernel
theorem dL_law_1132 : decode cL_law 1132 = .ok (.iaload, 1) := by decide +kernel
theorem dL_law_1133 : decode cL_law 1133 = .ok (.aload_n 3, 1) := by decide +kernel
theorem dL_law_1134 : decode cL_law 1134 = .ok (.invokestatic 195, 3) := by decide +kernel
theorem dL_law_1137 : decode cL_law 1137 = .ok (.istore 5, 2) := by decide +kernel
theorem dL_law_1139 : decode cL_law 1139 = .ok (.aload_n 2, 1) := by decide +kernel
theorem dL_law_1140 : decode cL_law 1140 = .ok (.aload_n 0, 1) := by decide +kernel
theorem dL_law_1141 : decode cL_law 1141 = .ok (.iload 4, 2) := by decide +kernel
theorem dL_law_1143 : decode cL_law 1143 = .ok (.iconst 1, 1) := by decide +kernel
theorem dL_law_1144 : decode cL_law 1144 = .ok (.iadd, 1) := by decide +kernel
theorem dL_law_1145 : decode cL_law 1145 = .ok (.iaload, 1) := by decide +kernel
theorem dL_law_1146 : decode cL_law 1146 = .ok (.aload_n 0, 1) := by decide +kernel
theorem dL_law_1147 : decode cL_law 1147 = .ok (.iload 4, 2) := by decide +kernel
theorem dL_law_1149 : decode cL_law 1149 = .ok (.iconst 2, 1) := by decide +kernel
theorem dL_law_1150 : decode cL_law 1150 = .ok (.iadd, 1) := by decide +kernel
theorem dL_law_1151 : decode cL_law 1151 = .ok (.iaload, 1) := by decide +kernel
theorem dL_law_1152 : decode cL_law 1152 = .ok (.aload_n 0, 1) := by decide +kernel
theorem dL_law_1153 : decode cL_law 1153 = .ok (.iload 4, 2) := by decide +kernel
theorem dL_law_1155 : decode cL_law 1155 = .ok (.iconst 3, 1) := by decide +kernel
theorem dL_law_1156 : decode cL_law 1156 = .ok (.iadd, 1) := by decide +kernel
theorem dL_law_1157 : decode cL_law 1157 = .ok (.iaload, 1) := by decide +kernel
theorem dL_law_1158 : decode cL_law 1158 = .ok (.invokevirtual 197, 3) := by decide +kernel
theorem dL_law_1161 : decode cL_law 1161 = .ok (.istore 6, 2) := by decide +kernel
theorem dL_law_1163 : decode cL_law 1163 = .ok (.aload_n 2, 1) := by decide +kernel
theorem dL_law_1164 : decode cL_law 1164 = .ok (.invokevirtual 111, 3) := by decide +kernel
theorem dL_law_1167 : decode cL_law 1167 = .ok (.iload 5, 2) := by decide +kernel
theorem dL_law_1169 : decode cL_law 1169 = .ok (.if_icmp .eq 5, 3) := by decide +kernel
theorem dL_law_1172 : decode cL_law 1172 = .ok (.iconst 0, 1) := by decide +kernel
theorem dL_law_1173 : decode cL_law 1173 = .ok (.ireturn, 1) := by decide +kernel
theorem dL_law_1174 : decode cL_law 1174 = .ok (.iload 5, 2) := by decide +kernel
theorem dL_law_1176 : decode cL_law 1176 = .ok (.ifCond .ne 15, 3) := by decide +kernel
theorem dL_law_1179 : decode cL_law 1179 = .ok (.aload_n 3, 1) := by decide +kernel
theorem dL_law_1180 : decode cL_law 1180 = .ok (.iconst 0, 1) := by decide +kernel
theorem dL_law_1181 : decode cL_law 1181 = .ok (.laload, 1) := by decide +kernel
theorem dL_law_1182 : decode cL_law 1182 = .ok (.iload 6, 2) := by decide +kernel
theorem dL_law_1184 : decode cL_law 1184 = .ok (.i2l, 1) := by decide +kernel
theorem dL_law_1185 : decode cL_law 1185 = .ok (.lcmp, 1) := by decide +kernel
theorem dL_law_1186 : decode cL_law 1186 = .ok (.ifCond .eq 5, 3) := by decide +kernel
theorem dL_law_1189 : decode cL_law 1189 = .ok (.iconst 0, 1) := by decide +kernel
theorem dL_law_1190 : decode cL_law 1190 = .ok (.ireturn, 1) := by decide +kernel
theorem dL_law_1191 : decode cL_law 1191 = .ok (.goto 1002, 3) := by decide +kernel
theorem dL_law_1194 : decode cL_law 1194 = .ok (.aload_n 1, 1) := by decide +kernel
theorem dL_law_1195 : decode cL_law 1195 = .ok (.aload_n 0, 1) := by decide +kernel
theorem dL_law_1196 : decode cL_law 1196 = .ok (.iload 4, 2) := by decide +kernel
theorem dL_law_1198 : decode cL_law 1198 = .ok (.iconst 1, 1) := by decide +kernel
theorem dL_law_1199 : decode cL_law 1199 = .ok (.iadd, 1) := by decide +kernel
theorem dL_law_1200 : decode cL_law 1200 = .ok (.iaload, 1) := by decide +kernel
theorem dL_law_1201 : decode cL_law 1201 = .ok (.aload_n 0, 1) := by decide +kernel
theorem dL_law_1202 : decode cL_law 1202 = .ok (.iload 4, 2) := by decide +kernel
theorem dL_law_1204 : decode cL_law 1204 = .ok (.iconst 2, 1) := by decide +kernel
theorem dL_law_1205 : decode cL_law 1205 = .ok (.iadd, 1) := by decide +kernel
theorem dL_law_1206 : decode cL_law 1206 = .ok (.iaload, 1) := by decide +kernel
theorem dL_law_1207 : decode cL_law 1207 = .ok (.aload_n 0, 1) := by decide +kernel
theorem dL_law_1208 : decode cL_law 1208 = .ok (.iload 4, 2) := by decide +kernel
theorem dL_law_1210 : decode cL_law 1210 = .ok (.iconst 3, 1) := by decide +kernel
theorem dL_law_1211 : decode cL_law 1211 = .ok (.iadd, 1) := by decide +kernel
theorem dL_law_1212 : decode cL_law 1212 = .ok (.iaload, 1) := by decide +kernel
theorem dL_law_1213 : decode cL_law 1213 = .ok (.aload_n 0, 1) := by decide +kernel
theorem dL_law_1214 : decode cL_law 1214 = .ok (.iload 4, 2) := by decide +kernel
theorem dL_law_1216 : decode cL_law 1216 = .ok (.iconst 4, 1) := by decide +kernel
theorem dL_law_1217 : decode cL_law 1217 = .ok (.iadd, 1) := by decide +kernel
theorem dL_law_1218 : decode cL_law 1218 = .ok (.iaload, 1) := by decide +kernel
theorem dL_law_1219 : decode cL_law 1219 = .ok (.aload_n 3, 1) := by decide +kernel
theorem dL_law_1220 : decode cL_law 1220 = .ok (.invokestatic 198, 3) := by decide +kernel
theorem dL_law_1223 : decode cL_law 1223 = .ok (.istore 5, 2) := by decide +kernel
theorem dL_law_1225 : decode cL_law 1225 = .ok (.aload_n 2, 1) := by decide +kernel
theorem dL_law_1226 : decode cL_law 1226 = .ok (.aload_n 0, 1) := by decide +kernel
theorem dL_law_1227 : decode cL_law 1227 = .ok (.iload 4, 2) := by decide +kernel
theorem dL_law_1229 : decode cL_law 1229 = .ok (.iconst 1, 1) := by decide +kernel
theorem dL_law_1230 : decode cL_law 1230 = .ok (.iadd, 1) := by decide +kernel
theorem dL_law_1231 : decode cL_law 1231 = .ok (.iaload, 1) := by decide +kernel
theorem dL_law_1232 : decode cL_law 1232 = .ok (.aload_n 0, 1) := by decide +kernel
theorem dL_law_1233 : decode cL_law 1233 = .ok (.iload 4, 2) := by decide +kernel
theorem dL_law_1235 : decode cL_law 1235 = .ok (.iconst 2, 1) := by decide +kernel
theorem dL_law_1236 : decode cL_law 1236 = .ok (.iadd, 1) := by decide +kernel
theorem dL_law_1237 : decode cL_law 1237 = .ok (.iaload, 1) := by decide +kernel
theorem dL_law_1238 : decode cL_law 1238 = .ok (.aload_n 0, 1) := by decide +kernel
theorem dL_law_1239 : decode cL_law 1239 = .ok (.iload 4, 2) := by decide +kernel
theorem dL_law_1241 : decode cL_law 1241 = .ok (.iconst 3, 1) := by decide +kernel
theorem dL_law_1242 : decode cL_law 1242 = .ok (.iadd, 1) := by decide +kernel
theorem dL_law_1243 : decode cL_law 1243 = .ok (.iaload, 1) := by decide +kernel
theorem dL_law_1244 : decode cL_law 1244 = .ok (.aload_n 0, 1) := by decide +kernel
theorem dL_law_1245 : decode cL_law 1245 = .ok (.iload 4, 2) := by decide +kernel
theorem dL_law_1247 : decode cL_law 1247 = .ok (.iconst 4, 1) := by decide +kernel
theorem dL_law_1248 : decode cL_law 1248 = .ok (.iadd, 1) := by decide +kernel
theorem dL_law_1249 : decode cL_law 1249 = .ok (.iaload, 1) := by decide +kernel
theorem dL_law_1250 : decode cL_law 1250 = .ok (.invokevirtual 200, 3) := by decide +kernel
theorem dL_law_1253 : decode cL_law 1253 = .ok (.istore 6, 2) := by decide +kernel
theorem dL_law_1255 : decode cL_law 1255 = .ok (.aload_n 2, 1) := by decide +kernel
theorem dL_law_1256 : decode cL_law 1256 = .ok (.invokevirtual 111, 3) := by decide +kernel
theorem dL_law_1259 : decode cL_law 1259 = .ok (.iload 5, 2) := by decide +kernel
theorem dL_law_1261 : decode cL_law 1261 = .ok (.if_icmp .eq 5, 3) := by decide +kernel
theorem dL_law_1264 : decode cL_law 1264 = .ok (.iconst 0, 1) := by decide +kernel
theorem dL_law_1265 : decode cL_law 1265 = .ok (.ireturn, 1) := by decide +kernel
theorem dL_law_1266 : decode cL_law 1266 = .ok (.iload 5, 2) := by decide +kernel
theorem dL_law_1268 : decode cL_law 1268 = .ok (.ifCond .ne 15, 3) := by decide +kernel
theorem dL_law_1271 : decode cL_law 1271 = .ok (.aload_n 3, 1) := by decide +kernel
theorem dL_law_1272 : decode cL_law 1272 = .ok (.iconst 0, 1) := by decide +kernel
theorem dL_law_1273 : decode cL_law 1273 = .ok (.laload, 1) := by decide +kernel
theorem dL_law_1274 : decode cL_law 1274 = .ok (.iload 6, 2) := by decide +kernel
theorem dL_law_1276 : decode cL_law 1276 = .ok (.i2l, 1) := by decide +kernel
theorem dL_law_1277 : decode cL_law 1277 = .ok (.lcmp, 1) := by decide +kernel
theorem dL_law_1278 : decode cL_law 1278 = .ok (.ifCond .eq 5, 3) := by decide +kernel
theorem dL_law_1281 : decode cL_law 1281 = .ok (.iconst 0, 1) := by decide +kernel
theorem dL_law_1282 : decode cL_law 1282 = .ok (.ireturn, 1) := by decide +kernel
theorem dL_law_1283 : decode cL_law 1283 = .ok (.goto 910, 3) := by decide +kernel
theorem dL_law_1286 : decode cL_law 1286 = .ok (.aload_n 1, 1) := by decide +kernel
theorem dL_law_1287 : decode cL_law 1287 = .ok (.aload_n 0, 1) := by decide +kernel
theorem dL_law_1288 : decode cL_law 1288 = .ok (.iload 4, 2) := by decide +kernel
theorem dL_law_1290 : decode cL_law 1290 = .ok (.iconst 1, 1) := by decide +kernel
theorem dL_law_1291 : decode cL_law 1291 = .ok (.iadd, 1) := by decide +kernel
theorem dL_law_1292 : decode cL_law 1292 = .ok (.iaload, 1) := by decide +kernel
theorem dL_law_1293 : decode cL_law 1293 = .ok (.aload_n 0, 1) := by decide +kernel
theorem dL_law_1294 : decode cL_law 1294 = .ok (.iload 4, 2) := by decide +kernel
theorem dL_law_1296 : decode cL_law 1296 = .ok (.iconst 2, 1) := by decide +kernel
theorem dL_law_1297 : decode cL_law 1297 = .ok (.iadd, 1) := by decide +kernel
theorem dL_law_1298 : decode cL_law 1298 = .ok (.iaload, 1) := by decide +kernel
theorem dL_law_1299 : decode cL_law 1299 = .ok (.aload_n 0, 1) := by decide +kernel
theorem dL_law_1300 : decode cL_law 1300 = .ok (.iload 4, 2) := by decide +kernel
theorem dL_law_1302 : decode cL_law 1302 = .ok (.iconst 3, 1) := by decide +kernel
theorem dL_law_1303 : decode cL_law 1303 = .ok (.iadd, 1) := by decide +kernel
theorem dL_law_1304 : decode cL_law 1304 = .ok (.iaload, 1) := by decide +kernel
theorem dL_law_1305 : decode cL_law 1305 = .ok (.aload_n 0, 1) := by decide +kernel
theorem dL_law_1306 : decode cL_law 1306 = .ok (.iload 4, 2) := by decide +kernel
theorem dL_law_1308 : decode cL_law 1308 = .ok (.iconst 4, 1) := by decide +kernel
theorem dL_law_1309 : decode cL_law 1309 = .ok (.iadd, 1) := by decide +kernel
theorem dL_law_1310 : decode cL_law 1310 = .ok (.iaload, 1) := by decide +kernel
theorem dL_law_1311 : decode cL_law 1311 = .ok (.aload_n 3, 1) := by decide +kernel
