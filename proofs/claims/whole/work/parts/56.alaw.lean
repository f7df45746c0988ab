
/-- a contract of a method with a table of its own, that makes at most one cell -/
def CtW (l : Launch) (g : Gw) (y : MethodName) (cc : ByteArray) (nL : Nat) (rt : Option FieldType) (hh : List (Nat × Nat × Nat × Nat)) (d : Nat) (av : List Value) (μ : Mu) (o : Option Value) (μ' : Mu) : Prop :=
  ∀ sz : Nat, Met l y (Cond.codeWith y cc nL rt hh :: gt) (rmX d) (va_Pc av (fun U => U.heap.size = sz ∧ va_P g.1 vwCl (wl g μ) U.heap ∧ Kn g U ∧ Sx g (Aw g sz) U U.heap)) (Qf g sz o μ') 1 6 (Aw g sz)
def XN : String → State → State → Prop := fun _ _ _ => False
abbrev WL (p : Program) (l : Launch) (e : Env) (R : Room) (s : State) (m : MethodId) (args : Array Value) (below : List Frame) (meth : Method) (c : Code) (g : Gw) (o : Option Value) (μ' : Mu) (H : Heap) (locs : List Loc) (cells slots : Nat) (fr : JFrame) : Prop := W p l e R s m args below meth c H locs cells slots (vx_MQ below (Qf g s.heap.size o μ') XN args s 1 6 (Aw g s.heap.size)) fr
theorem CtW.of {l : Launch} {g : Gw} {y : MethodName} {cc : ByteArray} {nL : Nat} {rt : Option FieldType} {hh : List (Nat × Nat × Nat × Nat)} {d : Nat} {av : List Value} {μ : Mu} {o : Option Value} {μ' : Mu} (hy : plainName y.cls = true) (hlen : (lg_sl av).length ≤ nL)
    (body : ∀ (p : Program) (e : Env) (s : State) (m : MethodId) (args : Array Value) (below : List Frame) (meth : Method) (c : Code) (ls : Array Slot), Cx p s m args c cc nL y.cls g (Aw g s.heap.size) → wd g μ s (Aw g s.heap.size) s.heap [] → meth.sig.returnType = rt → meth.locks = false → c.exceptionTable.toList = tableOf hh → lv_has ls nL (lv_args 0 av) →
      WL p l e (rmX d) s m args below meth c g o μ' s.heap [] 0 0 (F0 m 0 ls [])) : CtW l g y cc nL rt hh d av μ o μ' := by
  intro sz
  have h : vx_Met l y (Cond.codeWith y cc nL rt hh :: gt) (rmX d) (va_Pc av (fun U => U.heap.size = sz ∧ va_P g.1 vwCl (wl g μ) U.heap ∧ Kn g U ∧ Sx g (Aw g sz) U U.heap)) (Qf g sz o μ') XN 1 6 (Aw g sz) := by
    refine vx_ofWH (cc := cc) (maxL := nL) (ret := rt) (hh := hh) hy rfl ?_
    intro p e s m args below meth c s₁ B hml hv
    obtain ⟨rfl, hsz, hP, hK, hSx⟩ := hv
    subst hsz
    have hts := atoms_spec (ws := Cond.codeWith y cc nL rt hh :: gt) B.pre
    have hown : s.vm.findClass y.cls = some m.cls := findClass_of_methodNamed B.named
    have hl := lv_entry av (n := nL) hlen
    have htab := vx_table (x := y) B (hts _ List.mem_cons_self)
    rw [lg_entry_eq]
    exact body p e s m _ below meth c _ ⟨B.exec, B.bytes, hml, hown, fun w hw => hts w (List.mem_cons_of_mem _ hw), hK, fun i hi => Or.inl ⟨i, hi, rfl⟩, fun q hq => Or.inr hq, hSx⟩ ⟨hP, va_S.rf⟩ B.returns B.notSynchronized htab hl
  intro p e ha hc hk s m args below hf hfit hp hk2
  obtain ⟨t, o9, h1, h2, h3, hq⟩ := h p e ha hc hk s m args below hf hfit hp hk2
  refine ⟨t, o9, h1, h2, h3, ?_⟩
  rcases hq with hq | ⟨q, _, E, ce, L, hx, _⟩
  · exact hq
  · exact hx.elim
section FL9
variable {p : Program} {l : Launch} {e : Env} {R : Room} {s : State} {m : MethodId} {args : Array Value} {below : List Frame} {meth : Method} {c : Code} {H : Heap} {locs : List Loc} {Q : State → Prop}
variable {cc : ByteArray} {pc nL : Nat} {ls : Array Slot} {rest : List Value} {own : String} {g : Gw} {A : Nat → Prop} {μ μ' : Mu}
theorem cVK (C : Cx p s m args c cc nL own g A) (hw : wd g μ s A H locs) {y : MethodName} {cc' : ByteArray} {nL' idx n b ci d k NF : Nat} {rt : Option FieldType} {CN : String} {T : u_T} {As : List Value} (hM : CtX l g y cc' nL' rt d (.ref (g.2.2 b) :: As) μ k μ') (ml : ML own idx y cc' nL' rt n) (hi : Cond.instanceMethod y ∈ gt) (hs : Cond.selects y.cls y y ∈ gt)
    (hb : oK b = ci) (hc : vwCl[ci]? = some (CN, T, NF)) (hcn : CN = y.cls) (hci : ci < 13) (hn : As.length = n) (hsz : ls.size = nL) (hR : d + 1 ≤ R.frames ∧ 8 + (nL' + 11) + 40 * d ≤ R.locals) (hrm : (rest.map fun v => v.category).sum ≤ 8) (hcs : 0 + 1 ≤ R.cells ∧ 0 + 6 ≤ R.slots) (dec : decode cc pc = .ok (.invokevirtual idx, 3))
    (kk : ∀ (ce : Cell) (q : Addr) (H1 : Heap) (locs1 : List Loc), wd g μ' s A H1 locs1 → H1[q]? = some ce → ce.vm = .none → s.vm.findClass (exN.getD k "") = some ce.cls → vx_W p l e R s m args below meth c H1 locs1 1 6 Q (F0 m pc ls rest) q) :
    W p l e R s m args below meth c H locs 0 0 Q (F0 m pc ls (As.reverse ++ .ref (g.2.2 b) :: rest)) := by
  have hts := C.2.2.2.2.1
  subst hcn
  have hN : b < NN := oK_lt (by omega)
  have hcell := hw.1 b _ (wl_get hN)
  rw [ce_obj hb hci] at hcell
  obtain ⟨r, h1, cell, q1, q2, q3, q4⟩ := hcell
  have hr : r = (y.cls, T, NF) := Option.some.inj (h1.symm.trans hc)
  subst hr
  obtain ⟨hS, hfc, kC, hkC, hkind⟩ := C.2.2.2.2.2.1.1.1 ci _ hc
  have hr := vx_runV (l := l) (e := e) (R := R) (below := below) (meth := meth) (locs := locs) (cells := 0) (slots := 0) (g := F0 m pc ls (As.reverse ++ .ref (g.2.2 b) :: rest)) (C := y.cls) (b := g.2.2 b) (As := As) (rest := rest) ⟨C.1, C.2.1, C.2.2.1, C.2.2.2.1, hts⟩ (hM H.size) ⟨callB_of n hts (gt_in ml.2.1) rfl rfl rfl (hts _ ml.2.2.1) (hts _ ml.1) ml.2.2.2 hR, hts _ hi, hts _ hs⟩ ⟨Ct.blind, ⟨cell, q1, by rw [q3]; rfl, by rw [q2]; exact hfc⟩, fun U hU hW => ⟨rfl, by rw [hU], by rw [hU]; exact hw.1, Kn.moved hW C.2.2.2.2.2.1, C.S hw.2 hU hW⟩⟩ rfl hn hsz rfl (lv_room hrm) dec hcs
  intro T9 hT X
  rcases hr T9 hT X with ⟨v, st₀, t, T', L, h0, X', hL, e1, e2, hq, st⟩ | ⟨q, st₀, t, T', L, E, ce, h0, X', hL, e1, e2, ⟨hE, hP, hz, hk⟩, hce, hcv, hcl, st⟩
  · exact hq.elim
  · rw [h0] at hz hk
    have hF := C.free hw.2
    subst hE
    obtain ⟨t2, a1, b1⟩ := kk ce q T'.heap (locs ++ L) ⟨by rw [e1]; exact hP, ⟨Nat.le_trans hw.2.1 (by rw [e1]; exact hz), fun q h1 h2 => by rw [e1, hk q (Nat.lt_of_lt_of_le h1 hw.2.1) (fun z => h2 (hF q z))]; exact hw.2.2.1 q h1 h2, fun q hq => by
      rcases List.mem_append.mp hq with h | h
      · exact hw.2.2.2 q h
      · exact hF _ (hL q h)⟩⟩ (by rw [e1]; exact hce) hcv hcl T' rfl X'
    exact ⟨t2, st.trans a1, b1⟩
end FL9
theorem ml_L_7 : ML RL 7 yX11_board cX11_board 2 (some .int) 1 := ⟨gi4 97 rfl rfl, gi4 100 rfl rfl, gi1 1 rfl rfl, by decide +kernel⟩
theorem im_X11_board : Cond.instanceMethod yX11_board ∈ gt := gi4 98 rfl rfl
theorem se_X11_board : Cond.selects yX11_board.cls yX11_board yX11_board ∈ gt := gi4 99 rfl rfl
theorem ml_L_15 : ML RL 15 yX11_pit cX11_pit 2 (some .int) 1 := ⟨gi5 81 rfl rfl, gi5 84 rfl rfl, gi1 1 rfl rfl, by decide +kernel⟩
theorem im_X11_pit : Cond.instanceMethod yX11_pit ∈ gt := gi5 82 rfl rfl
theorem se_X11_pit : Cond.selects yX11_pit.cls yX11_pit yX11_pit ∈ gt := gi5 83 rfl rfl
theorem ml_L_20 : ML RL 20 yX11_store cX11_store 2 (some .int) 1 := ⟨gi5 109 rfl rfl, gi5 112 rfl rfl, gi1 1 rfl rfl, by decide +kernel⟩
theorem im_X11_store : Cond.instanceMethod yX11_store ∈ gt := gi5 110 rfl rfl
theorem se_X11_store : Cond.selects yX11_store.cls yX11_store yX11_store ∈ gt := gi5 111 rfl rfl
theorem ml_L_23 : ML RL 23 yX11_sown cX11_sown 3 (some .int) 2 := ⟨gi5 121 rfl rfl, gi5 124 rfl rfl, gi1 1 rfl rfl, by decide +kernel⟩
theorem im_X11_sown : Cond.instanceMethod yX11_sown ∈ gt := gi5 122 rfl rfl
theorem se_X11_sown : Cond.selects yX11_sown.cls yX11_sown yX11_sown ∈ gt := gi5 123 rfl rfl
theorem ml_L_29 : ML RL 29 yX11_judge cX11_judge 7 (some .int) 2 := ⟨gi5 146 rfl rfl, gi5 149 rfl rfl, gi1 1 rfl rfl, by decide +kernel⟩
theorem im_X11_judge : Cond.instanceMethod yX11_judge ∈ gt := gi5 147 rfl rfl
theorem se_X11_judge : Cond.selects yX11_judge.cls yX11_judge yX11_judge ∈ gt := gi5 148 rfl rfl
theorem ml_L_32 : ML RL 32 yX11_perform cX11_perform 5 (some .int) 1 := ⟨gi5 163 rfl rfl, gi5 166 rfl rfl, gi1 1 rfl rfl, by decide +kernel⟩
theorem im_X11_perform : Cond.instanceMethod yX11_perform ∈ gt := gi5 164 rfl rfl
theorem se_X11_perform : Cond.selects yX11_perform.cls yX11_perform yX11_perform ∈ gt := gi5 165 rfl rfl
theorem ml_L_35 : ML RL 35 yX11_positions cX11_positions 4 (some .int) 2 := ⟨gi5 170 rfl rfl, gi5 173 rfl rfl, gi1 1 rfl rfl, by decide +kernel⟩
theorem im_X11_positions : Cond.instanceMethod yX11_positions ∈ gt := gi5 171 rfl rfl
theorem se_X11_positions : Cond.selects yX11_positions.cls yX11_positions yX11_positions ∈ gt := gi5 172 rfl rfl
theorem ml_L_38 : ML RL 38 yX11_ofPlace cX11_ofPlace 6 (some .int) 4 := ⟨gi5 182 rfl rfl, gi5 185 rfl rfl, gi1 1 rfl rfl, by decide +kernel⟩
theorem im_X11_ofPlace : Cond.instanceMethod yX11_ofPlace ∈ gt := gi5 183 rfl rfl
theorem se_X11_ofPlace : Cond.selects yX11_ofPlace.cls yX11_ofPlace yX11_ofPlace ∈ gt := gi5 184 rfl rfl
theorem ml_L_44 : ML RL 44 yX11_valueOf cX11_valueOf 4 (some .int) 3 := ⟨gi5 211 rfl rfl, gi5 214 rfl rfl, gi1 1 rfl rfl, by decide +kernel⟩
theorem im_X11_valueOf : Cond.instanceMethod yX11_valueOf ∈ gt := gi5 212 rfl rfl
theorem se_X11_valueOf : Cond.selects yX11_valueOf.cls yX11_valueOf yX11_valueOf ∈ gt := gi5 213 rfl rfl
theorem ml_L_48 : ML RL 48 yX11_tally cX11_tally 6 (some .int) 3 := ⟨gi5 222 rfl rfl, gi5 225 rfl rfl, gi1 1 rfl rfl, by decide +kernel⟩
theorem im_X11_tally : Cond.instanceMethod yX11_tally ∈ gt := gi5 223 rfl rfl
theorem se_X11_tally : Cond.selects yX11_tally.cls yX11_tally yX11_tally ∈ gt := gi5 224 rfl rfl
theorem ml_L_51 : ML RL 51 yX11_row cX11_row 7 (some .int) 4 := ⟨gi5 238 rfl rfl, gi6 1 rfl rfl, gi1 1 rfl rfl, by decide +kernel⟩
theorem im_X11_row : Cond.instanceMethod yX11_row ∈ gt := gi5 239 rfl rfl
theorem se_X11_row : Cond.selects yX11_row.cls yX11_row yX11_row ∈ gt := gi6 0 rfl rfl
theorem ml_L_54 : ML RL 54 yX11_find cX11_find 7 (some .int) 4 := ⟨gi6 10 rfl rfl, gi6 13 rfl rfl, gi1 1 rfl rfl, by decide +kernel⟩
theorem im_X11_find : Cond.instanceMethod yX11_find ∈ gt := gi6 11 rfl rfl
theorem se_X11_find : Cond.selects yX11_find.cls yX11_find yX11_find ∈ gt := gi6 12 rfl rfl
theorem ml_L_57 : ML RL 57 yX11_most cX11_most 8 (some .int) 3 := ⟨gi6 17 rfl rfl, gi6 20 rfl rfl, gi1 1 rfl rfl, by decide +kernel⟩
theorem im_X11_most : Cond.instanceMethod yX11_most ∈ gt := gi6 18 rfl rfl
theorem se_X11_most : Cond.selects yX11_most.cls yX11_most yX11_most ∈ gt := gi6 19 rfl rfl
theorem ml_L_60 : ML RL 60 yX11_line cX11_line 2 (some .int) 1 := ⟨gi6 28 rfl rfl, gi6 31 rfl rfl, gi1 1 rfl rfl, by decide +kernel⟩
theorem im_X11_line : Cond.instanceMethod yX11_line ∈ gt := gi6 29 rfl rfl
theorem se_X11_line : Cond.selects yX11_line.cls yX11_line yX11_line ∈ gt := gi6 30 rfl rfl
theorem ml_L_63 : ML RL 63 yX11_plays cX11_plays 2 (some .int) 1 := ⟨gi6 49 rfl rfl, gi6 52 rfl rfl, gi1 1 rfl rfl, by decide +kernel⟩
theorem im_X11_plays : Cond.instanceMethod yX11_plays ∈ gt := gi6 50 rfl rfl
theorem se_X11_plays : Cond.selects yX11_plays.cls yX11_plays yX11_plays ∈ gt := gi6 51 rfl rfl
theorem ml_L_66 : ML RL 66 yX11_reached cX11_reached 2 (some .int) 1 := ⟨gi6 66 rfl rfl, gi6 69 rfl rfl, gi1 1 rfl rfl, by decide +kernel⟩
theorem im_X11_reached : Cond.instanceMethod yX11_reached ∈ gt := gi6 67 rfl rfl
theorem se_X11_reached : Cond.selects yX11_reached.cls yX11_reached yX11_reached ∈ gt := gi6 68 rfl rfl
theorem ml_L_69 : ML RL 69 yX11_pits cX11_pits 5 (some .int) 1 := ⟨gi6 91 rfl rfl, gi6 94 rfl rfl, gi1 1 rfl rfl, by decide +kernel⟩
theorem im_X11_pits : Cond.instanceMethod yX11_pits ∈ gt := gi6 92 rfl rfl
theorem se_X11_pits : Cond.selects yX11_pits.cls yX11_pits yX11_pits ∈ gt := gi6 93 rfl rfl
theorem ml_L_72 : ML RL 72 yX11_play cX11_play 3 (some .int) 2 := ⟨gi6 104 rfl rfl, gi6 107 rfl rfl, gi1 1 rfl rfl, by decide +kernel⟩
theorem im_X11_play : Cond.instanceMethod yX11_play ∈ gt := gi6 105 rfl rfl
theorem se_X11_play : Cond.selects yX11_play.cls yX11_play yX11_play ∈ gt := gi6 106 rfl rfl
theorem ml_L_75 : ML RL 75 yX11_against cX11_against 3 (some .int) 2 := ⟨gi6 120 rfl rfl, gi6 123 rfl rfl, gi1 1 rfl rfl, by decide +kernel⟩
theorem im_X11_against : Cond.instanceMethod yX11_against ∈ gt := gi6 121 rfl rfl
theorem se_X11_against : Cond.selects yX11_against.cls yX11_against yX11_against ∈ gt := gi6 122 rfl rfl
theorem ml_L_78 : ML RL 78 yX11_tray cX11_tray 5 none 3 := ⟨gi6 127 rfl rfl, gi6 130 rfl rfl, gi1 1 rfl rfl, by decide +kernel⟩
theorem im_X11_tray : Cond.instanceMethod yX11_tray ∈ gt := gi6 128 rfl rfl
theorem se_X11_tray : Cond.selects yX11_tray.cls yX11_tray yX11_tray ∈ gt := gi6 129 rfl rfl
theorem ml_L_82 : ML RL 82 yX11_write cX11_write 6 (some .long) 3 := ⟨gi6 139 rfl rfl, gi6 142 rfl rfl, gi1 1 rfl rfl, by decide +kernel⟩
theorem im_X11_write : Cond.instanceMethod yX11_write ∈ gt := gi6 140 rfl rfl
theorem se_X11_write : Cond.selects yX11_write.cls yX11_write yX11_write ∈ gt := gi6 141 rfl rfl
theorem ml_L_86 : ML RL 86 yX11_pour cX11_pour 5 (some .int) 1 := ⟨gi6 151 rfl rfl, gi6 154 rfl rfl, gi1 1 rfl rfl, by decide +kernel⟩
theorem im_X11_pour : Cond.instanceMethod yX11_pour ∈ gt := gi6 152 rfl rfl
theorem se_X11_pour : Cond.selects yX11_pour.cls yX11_pour yX11_pour ∈ gt := gi6 153 rfl rfl
theorem ml_L_89 : ML RL 89 yX11_image cX11_image 3 none 1 := ⟨gi6 163 rfl rfl, gi6 166 rfl rfl, gi1 1 rfl rfl, by decide +kernel⟩
theorem im_X11_image : Cond.instanceMethod yX11_image ∈ gt := gi6 164 rfl rfl
theorem se_X11_image : Cond.selects yX11_image.cls yX11_image yX11_image ∈ gt := gi6 165 rfl rfl
theorem ml_L_93 : ML RL 93 yX11_restore cX11_restore 3 none 1 := ⟨gi6 175 rfl rfl, gi6 178 rfl rfl, gi1 1 rfl rfl, by decide +kernel⟩
theorem im_X11_restore : Cond.instanceMethod yX11_restore ∈ gt := gi6 176 rfl rfl
theorem se_X11_restore : Cond.selects yX11_restore.cls yX11_restore yX11_restore ∈ gt := gi6 177 rfl rfl
theorem ok201 : oK 201 = 21 := by decide +kernel
theorem on201 : oN 201 = 1 := by decide +kernel
theorem dL_board_0 : decode cL_board 0 = .ok (.aload_n 2, 1) := by decide +kernel
theorem dL_board_1 : decode cL_board 1 = .ok (.iconst 0, 1) := by decide +kernel
theorem dL_board_2 : decode cL_board 2 = .ok (.aload_n 0, 1) := by decide +kernel
theorem dL_board_3 : decode cL_board 3 = .ok (.iload_n 1, 1) := by decide +kernel
theorem dL_board_4 : decode cL_board 4 = .ok (.invokevirtual 7, 3) := by decide +kernel
theorem dL_board_7 : decode cL_board 7 = .ok (.i2l, 1) := by decide +kernel
theorem dL_board_8 : decode cL_board 8 = .ok (.lastore, 1) := by decide +kernel
theorem dL_board_9 : decode cL_board 9 = .ok (.goto 6, 3) := by decide +kernel
theorem dL_board_12 : decode cL_board 12 = .ok (.astore_n 3, 1) := by decide +kernel
theorem dL_board_13 : decode cL_board 13 = .ok (.iconst 1, 1) := by decide +kernel
theorem dL_board_14 : decode cL_board 14 = .ok (.ireturn, 1) := by decide +kernel
theorem dL_board_15 : decode cL_board 15 = .ok (.iconst 0, 1) := by decide +kernel
theorem dL_board_16 : decode cL_board 16 = .ok (.ireturn, 1) := by decide +kernel
theorem dL_pit_0 : decode cL_pit 0 = .ok (.aload_n 2, 1) := by decide +kernel
theorem dL_pit_1 : decode cL_pit 1 = .ok (.iconst 0, 1) := by decide +kernel
theorem dL_pit_2 : decode cL_pit 2 = .ok (.aload_n 0, 1) := by decide +kernel
theorem dL_pit_3 : decode cL_pit 3 = .ok (.iload_n 1, 1) := by decide +kernel
theorem dL_pit_4 : decode cL_pit 4 = .ok (.invokevirtual 15, 3) := by decide +kernel
theorem dL_pit_7 : decode cL_pit 7 = .ok (.i2l, 1) := by decide +kernel
theorem dL_pit_8 : decode cL_pit 8 = .ok (.lastore, 1) := by decide +kernel
theorem dL_pit_9 : decode cL_pit 9 = .ok (.goto 6, 3) := by decide +kernel
theorem dL_pit_12 : decode cL_pit 12 = .ok (.astore_n 3, 1) := by decide +kernel
theorem dL_pit_13 : decode cL_pit 13 = .ok (.iconst 1, 1) := by decide +kernel
theorem dL_pit_14 : decode cL_pit 14 = .ok (.ireturn, 1) := by decide +kernel
theorem dL_pit_15 : decode cL_pit 15 = .ok (.iconst 0, 1) := by decide +kernel
theorem dL_pit_16 : decode cL_pit 16 = .ok (.ireturn, 1) := by decide +kernel
theorem dL_store_0 : decode cL_store 0 = .ok (.aload_n 2, 1) := by decide +kernel
theorem dL_store_1 : decode cL_store 1 = .ok (.iconst 0, 1) := by decide +kernel
theorem dL_store_2 : decode cL_store 2 = .ok (.aload_n 0, 1) := by decide +kernel
theorem dL_store_3 : decode cL_store 3 = .ok (.iload_n 1, 1) := by decide +kernel
theorem dL_store_4 : decode cL_store 4 = .ok (.invokevirtual 20, 3) := by decide +kernel
theorem dL_store_7 : decode cL_store 7 = .ok (.i2l, 1) := by decide +kernel
theorem dL_store_8 : decode cL_store 8 = .ok (.lastore, 1) := by decide +kernel
theorem dL_store_9 : decode cL_store 9 = .ok (.goto 6, 3) := by decide +kernel
theorem dL_store_12 : decode cL_store 12 = .ok (.astore_n 3, 1) := by decide +kernel
theorem dL_store_13 : decode cL_store 13 = .ok (.iconst 1, 1) := by decide +kernel
theorem dL_store_14 : decode cL_store 14 = .ok (.ireturn, 1) := by decide +kernel
theorem dL_store_15 : decode cL_store 15 = .ok (.iconst 0, 1) := by decide +kernel
theorem dL_store_16 : decode cL_store 16 = .ok (.ireturn, 1) := by decide +kernel
theorem dL_sown_0 : decode cL_sown 0 = .ok (.aload_n 3, 1) := by decide +kernel
theorem dL_sown_1 : decode cL_sown 1 = .ok (.iconst 0, 1) := by decide +kernel
theorem dL_sown_2 : decode cL_sown 2 = .ok (.aload_n 0, 1) := by decide +kernel
theorem dL_sown_3 : decode cL_sown 3 = .ok (.iload_n 1, 1) := by decide +kernel
theorem dL_sown_4 : decode cL_sown 4 = .ok (.iload_n 2, 1) := by decide +kernel
theorem dL_sown_5 : decode cL_sown 5 = .ok (.invokevirtual 23, 3) := by decide +kernel
theorem dL_sown_8 : decode cL_sown 8 = .ok (.i2l, 1) := by decide +kernel
theorem dL_sown_9 : decode cL_sown 9 = .ok (.lastore, 1) := by decide +kernel
theorem dL_sown_10 : decode cL_sown 10 = .ok (.goto 15, 3) := by decide +kernel
theorem dL_sown_13 : decode cL_sown 13 = .ok (.astore 4, 2) := by decide +kernel
theorem dL_sown_15 : decode cL_sown 15 = .ok (.iconst 1, 1) := by decide +kernel
theorem dL_sown_16 : decode cL_sown 16 = .ok (.ireturn, 1) := by decide +kernel
theorem dL_sown_17 : decode cL_sown 17 = .ok (.astore 4, 2) := by decide +kernel
theorem dL_sown_19 : decode cL_sown 19 = .ok (.iconst 2, 1) := by decide +kernel
theorem dL_sown_20 : decode cL_sown 20 = .ok (.ireturn, 1) := by decide +kernel
theorem dL_sown_21 : decode cL_sown 21 = .ok (.astore 4, 2) := by decide +kernel
theorem dL_sown_23 : decode cL_sown 23 = .ok (.iconst 3, 1) := by decide +kernel
theorem dL_sown_24 : decode cL_sown 24 = .ok (.ireturn, 1) := by decide +kernel
theorem dL_sown_25 : decode cL_sown 25 = .ok (.iconst 0, 1) := by decide +kernel
theorem dL_sown_26 : decode cL_sown 26 = .ok (.ireturn, 1) := by decide +kernel
theorem dL_judge_0 : decode cL_judge 0 = .ok (.aload_n 3, 1) := by decide +kernel
theorem dL_judge_1 : decode cL_judge 1 = .ok (.iconst 0, 1) := by decide +kernel
theorem dL_judge_2 : decode cL_judge 2 = .ok (.aload_n 0, 1) := by decide +kernel
theorem dL_judge_3 : decode cL_judge 3 = .ok (.iload_n 1, 1) := by decide +kernel
theorem dL_judge_4 : decode cL_judge 4 = .ok (.iload_n 2, 1) := by decide +kernel
theorem dL_judge_5 : decode cL_judge 5 = .ok (.invokevirtual 29, 3) := by decide +kernel
theorem dL_judge_8 : decode cL_judge 8 = .ok (.i2l, 1) := by decide +kernel
theorem dL_judge_9 : decode cL_judge 9 = .ok (.lastore, 1) := by decide +kernel
theorem dL_judge_10 : decode cL_judge 10 = .ok (.goto 15, 3) := by decide +kernel
theorem dL_judge_13 : decode cL_judge 13 = .ok (.astore 4, 2) := by decide +kernel
theorem dL_judge_15 : decode cL_judge 15 = .ok (.iconst 1, 1) := by decide +kernel
theorem dL_judge_16 : decode cL_judge 16 = .ok (.ireturn, 1) := by decide +kernel
theorem dL_judge_17 : decode cL_judge 17 = .ok (.astore 4, 2) := by decide +kernel
theorem dL_judge_19 : decode cL_judge 19 = .ok (.iconst 2, 1) := by decide +kernel
theorem dL_judge_20 : decode cL_judge 20 = .ok (.ireturn, 1) := by decide +kernel
theorem dL_judge_21 : decode cL_judge 21 = .ok (.astore 4, 2) := by decide +kernel
theorem dL_judge_23 : decode cL_judge 23 = .ok (.iconst 3, 1) := by decide +kernel
theorem dL_judge_24 : decode cL_judge 24 = .ok (.ireturn, 1) := by decide +kernel
theorem dL_judge_25 : decode cL_judge 25 = .ok (.iconst 0, 1) := by decide +kernel
theorem dL_judge_26 : decode cL_judge 26 = .ok (.ireturn, 1) := by decide +kernel
theorem dL_perform_0 : decode cL_perform 0 = .ok (.aload_n 2, 1) := by decide +kernel
theorem dL_perform_1 : decode cL_perform 1 = .ok (.iconst 0, 1) := by decide +kernel
theorem dL_perform_2 : decode cL_perform 2 = .ok (.aload_n 0, 1) := by decide +kernel
theorem dL_perform_3 : decode cL_perform 3 = .ok (.iload_n 1, 1) := by decide +kernel
theorem dL_perform_4 : decode cL_perform 4 = .ok (.invokevirtual 32, 3) := by decide +kernel
theorem dL_perform_7 : decode cL_perform 7 = .ok (.i2l, 1) := by decide +kernel
theorem dL_perform_8 : decode cL_perform 8 = .ok (.lastore, 1) := by decide +kernel
theorem dL_perform_9 : decode cL_perform 9 = .ok (.goto 9, 3) := by decide +kernel
theorem dL_perform_12 : decode cL_perform 12 = .ok (.astore_n 3, 1) := by decide +kernel
theorem dL_perform_13 : decode cL_perform 13 = .ok (.iconst 1, 1) := by decide +kernel
theorem dL_perform_14 : decode cL_perform 14 = .ok (.ireturn, 1) := by decide +kernel
theorem dL_perform_15 : decode cL_perform 15 = .ok (.astore_n 3, 1) := by decide +kernel
theorem dL_perform_16 : decode cL_perform 16 = .ok (.iconst 2, 1) := by decide +kernel
theorem dL_perform_17 : decode cL_perform 17 = .ok (.ireturn, 1) := by decide +kernel
theorem dL_perform_18 : decode cL_perform 18 = .ok (.iconst 0, 1) := by decide +kernel
theorem dL_perform_19 : decode cL_perform 19 = .ok (.ireturn, 1) := by decide +kernel
theorem dL_positions_0 : decode cL_positions 0 = .ok (.aload_n 3, 1) := by decide +kernel
theorem dL_positions_1 : decode cL_positions 1 = .ok (.iconst 0, 1) := by decide +kernel
theorem dL_positions_2 : decode cL_positions 2 = .ok (.aload_n 0, 1) := by decide +kernel
theorem dL_positions_3 : decode cL_positions 3 = .ok (.iload_n 1, 1) := by decide +kernel
theorem dL_positions_4 : decode cL_positions 4 = .ok (.iload_n 2, 1) := by decide +kernel
theorem dL_positions_5 : decode cL_positions 5 = .ok (.invokevirtual 35, 3) := by decide +kernel
theorem dL_positions_8 : decode cL_positions 8 = .ok (.i2l, 1) := by decide +kernel
theorem dL_positions_9 : decode cL_positions 9 = .ok (.lastore, 1) := by decide +kernel
theorem dL_positions_10 : decode cL_positions 10 = .ok (.goto 11, 3) := by decide +kernel
theorem dL_positions_13 : decode cL_positions 13 = .ok (.astore 4, 2) := by decide +kernel
theorem dL_positions_15 : decode cL_positions 15 = .ok (.iconst 1, 1) := by decide +kernel
theorem dL_positions_16 : decode cL_positions 16 = .ok (.ireturn, 1) := by decide +kernel
theorem dL_positions_17 : decode cL_positions 17 = .ok (.astore 4, 2) := by decide +kernel
theorem dL_positions_19 : decode cL_positions 19 = .ok (.iconst 2, 1) := by decide +kernel
theorem dL_positions_20 : decode cL_positions 20 = .ok (.ireturn, 1) := by decide +kernel
theorem dL_positions_21 : decode cL_positions 21 = .ok (.iconst 0, 1) := by decide +kernel
theorem dL_positions_22 : decode cL_positions 22 = .ok (.ireturn, 1) := by decide +kernel
theorem dL_ofPlace_0 : decode cL_ofPlace 0 = .ok (.aload 5, 2) := by decide +kernel
theorem dL_ofPlace_2 : decode cL_ofPlace 2 = .ok (.iconst 0, 1) := by decide +kernel
theorem dL_ofPlace_3 : decode cL_ofPlace 3 = .ok (.aload_n 0, 1) := by decide +kernel
theorem dL_ofPlace_4 : decode cL_ofPlace 4 = .ok (.iload_n 1, 1) := by decide +kernel
theorem dL_ofPlace_5 : decode cL_ofPlace 5 = .ok (.iload_n 2, 1) := by decide +kernel
theorem dL_ofPlace_6 : decode cL_ofPlace 6 = .ok (.iload_n 3, 1) := by decide +kernel
theorem dL_ofPlace_7 : decode cL_ofPlace 7 = .ok (.iload 4, 2) := by decide +kernel
theorem dL_ofPlace_9 : decode cL_ofPlace 9 = .ok (.invokevirtual 38, 3) := by decide +kernel
theorem dL_ofPlace_12 : decode cL_ofPlace 12 = .ok (.i2l, 1) := by decide +kernel
theorem dL_ofPlace_13 : decode cL_ofPlace 13 = .ok (.lastore, 1) := by decide +kernel
theorem dL_ofPlace_14 : decode cL_ofPlace 14 = .ok (.goto 19, 3) := by decide +kernel
theorem dL_ofPlace_17 : decode cL_ofPlace 17 = .ok (.astore 6, 2) := by decide +kernel
theorem dL_ofPlace_19 : decode cL_ofPlace 19 = .ok (.iconst 1, 1) := by decide +kernel
theorem dL_ofPlace_20 : decode cL_ofPlace 20 = .ok (.ireturn, 1) := by decide +kernel
theorem dL_ofPlace_21 : decode cL_ofPlace 21 = .ok (.astore 6, 2) := by decide +kernel
theorem dL_ofPlace_23 : decode cL_ofPlace 23 = .ok (.iconst 2, 1) := by decide +kernel
theorem dL_ofPlace_24 : decode cL_ofPlace 24 = .ok (.ireturn, 1) := by decide +kernel
theorem dL_ofPlace_25 : decode cL_ofPlace 25 = .ok (.astore 6, 2) := by decide +kernel
theorem dL_ofPlace_27 : decode cL_ofPlace 27 = .ok (.iconst 3, 1) := by decide +kernel
theorem dL_ofPlace_28 : decode cL_ofPlace 28 = .ok (.ireturn, 1) := by decide +kernel
theorem dL_ofPlace_29 : decode cL_ofPlace 29 = .ok (.astore 6, 2) := by decide +kernel
theorem dL_ofPlace_31 : decode cL_ofPlace 31 = .ok (.iconst 4, 1) := by decide +kernel
theorem dL_ofPlace_32 : decode cL_ofPlace 32 = .ok (.ireturn, 1) := by decide +kernel
theorem dL_ofPlace_33 : decode cL_ofPlace 33 = .ok (.iconst 0, 1) := by decide +kernel
theorem dL_ofPlace_34 : decode cL_ofPlace 34 = .ok (.ireturn, 1) := by decide +kernel
theorem dL_valueOf_0 : decode cL_valueOf 0 = .ok (.aload 4, 2) := by decide +kernel
theorem dL_valueOf_2 : decode cL_valueOf 2 = .ok (.iconst 0, 1) := by decide +kernel
theorem dL_valueOf_3 : decode cL_valueOf 3 = .ok (.aload_n 0, 1) := by decide +kernel
theorem dL_valueOf_4 : decode cL_valueOf 4 = .ok (.iload_n 1, 1) := by decide +kernel
theorem dL_valueOf_5 : decode cL_valueOf 5 = .ok (.iload_n 2, 1) := by decide +kernel
theorem dL_valueOf_6 : decode cL_valueOf 6 = .ok (.iload_n 3, 1) := by decide +kernel
theorem dL_valueOf_7 : decode cL_valueOf 7 = .ok (.invokevirtual 44, 3) := by decide +kernel
theorem dL_valueOf_10 : decode cL_valueOf 10 = .ok (.i2l, 1) := by decide +kernel
theorem dL_valueOf_11 : decode cL_valueOf 11 = .ok (.lastore, 1) := by decide +kernel
theorem dL_valueOf_12 : decode cL_valueOf 12 = .ok (.goto 15, 3) := by decide +kernel
theorem dL_valueOf_15 : decode cL_valueOf 15 = .ok (.astore 5, 2) := by decide +kernel
theorem dL_valueOf_17 : decode cL_valueOf 17 = .ok (.iconst 1, 1) := by decide +kernel
theorem dL_valueOf_18 : decode cL_valueOf 18 = .ok (.ireturn, 1) := by decide +kernel
theorem dL_valueOf_19 : decode cL_valueOf 19 = .ok (.astore 5, 2) := by decide +kernel
theorem dL_valueOf_21 : decode cL_valueOf 21 = .ok (.iconst 2, 1) := by decide +kernel
theorem dL_valueOf_22 : decode cL_valueOf 22 = .ok (.ireturn, 1) := by decide +kernel
theorem dL_valueOf_23 : decode cL_valueOf 23 = .ok (.astore 5, 2) := by decide +kernel
theorem dL_valueOf_25 : decode cL_valueOf 25 = .ok (.iconst 3, 1) := by decide +kernel
theorem dL_valueOf_26 : decode cL_valueOf 26 = .ok (.ireturn, 1) := by decide +kernel
theorem dL_valueOf_27 : decode cL_valueOf 27 = .ok (.iconst 0, 1) := by decide +kernel
theorem dL_valueOf_28 : decode cL_valueOf 28 = .ok (.ireturn, 1) := by decide +kernel
theorem dL_tally_0 : decode cL_tally 0 = .ok (.aload 4, 2) := by decide +kernel
theorem dL_tally_2 : decode cL_tally 2 = .ok (.iconst 0, 1) := by decide +kernel
theorem dL_tally_3 : decode cL_tally 3 = .ok (.aload_n 0, 1) := by decide +kernel
theorem dL_tally_4 : decode cL_tally 4 = .ok (.iload_n 1, 1) := by decide +kernel
theorem dL_tally_5 : decode cL_tally 5 = .ok (.iload_n 2, 1) := by decide +kernel
theorem dL_tally_6 : decode cL_tally 6 = .ok (.iload_n 3, 1) := by decide +kernel
theorem dL_tally_7 : decode cL_tally 7 = .ok (.invokevirtual 48, 3) := by decide +kernel
theorem dL_tally_10 : decode cL_tally 10 = .ok (.i2l, 1) := by decide +kernel
theorem dL_tally_11 : decode cL_tally 11 = .ok (.lastore, 1) := by decide +kernel
theorem dL_tally_12 : decode cL_tally 12 = .ok (.goto 15, 3) := by decide +kernel
theorem dL_tally_15 : decode cL_tally 15 = .ok (.astore 5, 2) := by decide +kernel
theorem dL_tally_17 : decode cL_tally 17 = .ok (.iconst 1, 1) := by decide +kernel
theorem dL_tally_18 : decode cL_tally 18 = .ok (.ireturn, 1) := by decide +kernel
theorem dL_tally_19 : decode cL_tally 19 = .ok (.astore 5, 2) := by decide +kernel
theorem dL_tally_21 : decode cL_tally 21 = .ok (.iconst 2, 1) := by decide +kernel
theorem dL_tally_22 : decode cL_tally 22 = .ok (.ireturn, 1) := by decide +kernel
theorem dL_tally_23 : decode cL_tally 23 = .ok (.astore 5, 2) := by decide +kernel
theorem dL_tally_25 : decode cL_tally 25 = .ok (.iconst 3, 1) := by decide +kernel
theorem dL_tally_26 : decode cL_tally 26 = .ok (.ireturn, 1) := by decide +kernel
theorem dL_tally_27 : decode cL_tally 27 = .ok (.iconst 0, 1) := by decide +kernel
theorem dL_tally_28 : decode cL_tally 28 = .ok (.ireturn, 1) := by decide +kernel
theorem dL_row_0 : decode cL_row 0 = .ok (.aload 5, 2) := by decide +kernel
theorem dL_row_2 : decode cL_row 2 = .ok (.iconst 0, 1) := by decide +kernel
theorem dL_row_3 : decode cL_row 3 = .ok (.aload_n 0, 1) := by decide +kernel
theorem dL_row_4 : decode cL_row 4 = .ok (.iload_n 1, 1) := by decide +kernel
theorem dL_row_5 : decode cL_row 5 = .ok (.iload_n 2, 1) := by decide +kernel
theorem dL_row_6 : decode cL_row 6 = .ok (.iload_n 3, 1) := by decide +kernel
theorem dL_row_7 : decode cL_row 7 = .ok (.iload 4, 2) := by decide +kernel
theorem dL_row_9 : decode cL_row 9 = .ok (.invokevirtual 51, 3) := by decide +kernel
theorem dL_row_12 : decode cL_row 12 = .ok (.i2l, 1) := by decide +kernel
theorem dL_row_13 : decode cL_row 13 = .ok (.lastore, 1) := by decide +kernel
theorem dL_row_14 : decode cL_row 14 = .ok (.goto 15, 3) := by decide +kernel
theorem dL_row_17 : decode cL_row 17 = .ok (.astore 6, 2) := by decide +kernel
theorem dL_row_19 : decode cL_row 19 = .ok (.iconst 1, 1) := by decide +kernel
theorem dL_row_20 : decode cL_row 20 = .ok (.ireturn, 1) := by decide +kernel
theorem dL_row_21 : decode cL_row 21 = .ok (.astore 6, 2) := by decide +kernel
theorem dL_row_23 : decode cL_row 23 = .ok (.iconst 2, 1) := by decide +kernel
theorem dL_row_24 : decode cL_row 24 = .ok (.ireturn, 1) := by decide +kernel
theorem dL_row_25 : decode cL_row 25 = .ok (.astore 6, 2) := by decide +kernel
theorem dL_row_27 : decode cL_row 27 = .ok (.iconst 3, 1) := by decide +kernel
theorem dL_row_28 : decode cL_row 28 = .ok (.ireturn, 1) := by decide +kernel
theorem dL_row_29 : decode cL_row 29 = .ok (.iconst 0, 1) := by decide +kernel
theorem dL_row_30 : decode cL_row 30 = .ok (.ireturn, 1) := by decide +kernel
theorem dL_find_0 : decode cL_find 0 = .ok (.aload 5, 2) := by decide +kernel
theorem dL_find_2 : decode cL_find 2 = .ok (.iconst 0, 1) := by decide +kernel
theorem dL_find_3 : decode cL_find 3 = .ok (.aload_n 0, 1) := by decide +kernel
theorem dL_find_4 : decode cL_find 4 = .ok (.iload_n 1, 1) := by decide +kernel
theorem dL_find_5 : decode cL_find 5 = .ok (.iload_n 2, 1) := by decide +kernel
theorem dL_find_6 : decode cL_find 6 = .ok (.iload_n 3, 1) := by decide +kernel
theorem dL_find_7 : decode cL_find 7 = .ok (.iload 4, 2) := by decide +kernel
theorem dL_find_9 : decode cL_find 9 = .ok (.invokevirtual 54, 3) := by decide +kernel
theorem dL_find_12 : decode cL_find 12 = .ok (.i2l, 1) := by decide +kernel
theorem dL_find_13 : decode cL_find 13 = .ok (.lastore, 1) := by decide +kernel
theorem dL_find_14 : decode cL_find 14 = .ok (.goto 15, 3) := by decide +kernel
theorem dL_find_17 : decode cL_find 17 = .ok (.astore 6, 2) := by decide +kernel
theorem dL_find_19 : decode cL_find 19 = .ok (.iconst 1, 1) := by decide +kernel
theorem dL_find_20 : decode cL_find 20 = .ok (.ireturn, 1) := by decide +kernel
theorem dL_find_21 : decode cL_find 21 = .ok (.astore 6, 2) := by decide +kernel
theorem dL_find_23 : decode cL_find 23 = .ok (.iconst 2, 1) := by decide +kernel
theorem dL_find_24 : decode cL_find 24 = .ok (.ireturn, 1) := by decide +kernel
theorem dL_find_25 : decode cL_find 25 = .ok (.astore 6, 2) := by decide +kernel
theorem dL_find_27 : decode cL_find 27 = .ok (.iconst 3, 1) := by decide +kernel
theorem dL_find_28 : decode cL_find 28 = .ok (.ireturn, 1) := by decide +kernel
theorem dL_find_29 : decode cL_find 29 = .ok (.iconst 0, 1) := by decide +kernel
theorem dL_find_30 : decode cL_find 30 = .ok (.ireturn, 1) := by decide +kernel
theorem dL_most_0 : decode cL_most 0 = .ok (.aload 4, 2) := by decide +kernel
theorem dL_most_2 : decode cL_most 2 = .ok (.iconst 0, 1) := by decide +kernel
theorem dL_most_3 : decode cL_most 3 = .ok (.aload_n 0, 1) := by decide +kernel
theorem dL_most_4 : decode cL_most 4 = .ok (.iload_n 1, 1) := by decide +kernel
theorem dL_most_5 : decode cL_most 5 = .ok (.iload_n 2, 1) := by decide +kernel
theorem dL_most_6 : decode cL_most 6 = .ok (.iload_n 3, 1) := by decide +kernel
theorem dL_most_7 : decode cL_most 7 = .ok (.invokevirtual 57, 3) := by decide +kernel
theorem dL_most_10 : decode cL_most 10 = .ok (.i2l, 1) := by decide +kernel
theorem dL_most_11 : decode cL_most 11 = .ok (.lastore, 1) := by decide +kernel
theorem dL_most_12 : decode cL_most 12 = .ok (.goto 15, 3) := by decide +kernel
theorem dL_most_15 : decode cL_most 15 = .ok (.astore 5, 2) := by decide +kernel
theorem dL_most_17 : decode cL_most 17 = .ok (.iconst 1, 1) := by decide +kernel
theorem dL_most_18 : decode cL_most 18 = .ok (.ireturn, 1) := by decide +kernel
theorem dL_most_19 : decode cL_most 19 = .ok (.astore 5, 2) := by decide +kernel
theorem dL_most_21 : decode cL_most 21 = .ok (.iconst 2, 1) := by decide +kernel
theorem dL_most_22 : decode cL_most 22 = .ok (.ireturn, 1) := by decide +kernel
theorem dL_most_23 : decode cL_most 23 = .ok (.astore 5, 2) := by decide +kernel
theorem dL_most_25 : decode cL_most 25 = .ok (.iconst 3, 1) := by decide +kernel
theorem dL_most_26 : decode cL_most 26 = .ok (.ireturn, 1) := by decide +kernel
theorem dL_most_27 : decode cL_most 27 = .ok (.iconst 0, 1) := by decide +kernel
theorem dL_most_28 : decode cL_most 28 = .ok (.ireturn, 1) := by decide +kernel
theorem dL_line_0 : decode cL_line 0 = .ok (.aload_n 2, 1) := by decide +kernel
theorem dL_line_1 : decode cL_line 1 = .ok (.iconst 0, 1) := by decide +kernel
theorem dL_line_2 : decode cL_line 2 = .ok (.aload_n 0, 1) := by decide +kernel
theorem dL_line_3 : decode cL_line 3 = .ok (.iload_n 1, 1) := by decide +kernel
theorem dL_line_4 : decode cL_line 4 = .ok (.invokevirtual 60, 3) := by decide +kernel
theorem dL_line_7 : decode cL_line 7 = .ok (.i2l, 1) := by decide +kernel
theorem dL_line_8 : decode cL_line 8 = .ok (.lastore, 1) := by decide +kernel
theorem dL_line_9 : decode cL_line 9 = .ok (.goto 9, 3) := by decide +kernel
theorem dL_line_12 : decode cL_line 12 = .ok (.astore_n 3, 1) := by decide +kernel
theorem dL_line_13 : decode cL_line 13 = .ok (.iconst 1, 1) := by decide +kernel
theorem dL_line_14 : decode cL_line 14 = .ok (.ireturn, 1) := by decide +kernel
theorem dL_line_15 : decode cL_line 15 = .ok (.astore_n 3, 1) := by decide +kernel
theorem dL_line_16 : decode cL_line 16 = .ok (.iconst 2, 1) := by decide +kernel
theorem dL_line_17 : decode cL_line 17 = .ok (.ireturn, 1) := by decide +kernel
theorem dL_line_18 : decode cL_line 18 = .ok (.iconst 0, 1) := by decide +kernel
theorem dL_line_19 : decode cL_line 19 = .ok (.ireturn, 1) := by decide +kernel
theorem dL_plays_0 : decode cL_plays 0 = .ok (.aload_n 2, 1) := by decide +kernel
theorem dL_plays_1 : decode cL_plays 1 = .ok (.iconst 0, 1) := by decide +kernel
theorem dL_plays_2 : decode cL_plays 2 = .ok (.aload_n 0, 1) := by decide +kernel
theorem dL_plays_3 : decode cL_plays 3 = .ok (.iload_n 1, 1) := by decide +kernel
theorem dL_plays_4 : decode cL_plays 4 = .ok (.invokevirtual 63, 3) := by decide +kernel
theorem dL_plays_7 : decode cL_plays 7 = .ok (.i2l, 1) := by decide +kernel
theorem dL_plays_8 : decode cL_plays 8 = .ok (.lastore, 1) := by decide +kernel
theorem dL_plays_9 : decode cL_plays 9 = .ok (.goto 6, 3) := by decide +kernel
theorem dL_plays_12 : decode cL_plays 12 = .ok (.astore_n 3, 1) := by decide +kernel
theorem dL_plays_13 : decode cL_plays 13 = .ok (.iconst 1, 1) := by decide +kernel
theorem dL_plays_14 : decode cL_plays 14 = .ok (.ireturn, 1) := by decide +kernel
theorem dL_plays_15 : decode cL_plays 15 = .ok (.iconst 0, 1) := by decide +kernel
theorem dL_plays_16 : decode cL_plays 16 = .ok (.ireturn, 1) := by decide +kernel
theorem dL_reached_0 : decode cL_reached 0 = .ok (.aload_n 2, 1) := by decide +kernel
theorem dL_reached_1 : decode cL_reached 1 = .ok (.iconst 0, 1) := by decide +kernel
theorem dL_reached_2 : decode cL_reached 2 = .ok (.aload_n 0, 1) := by decide +kernel
theorem dL_reached_3 : decode cL_reached 3 = .ok (.iload_n 1, 1) := by decide +kernel
theorem dL_reached_4 : decode cL_reached 4 = .ok (.invokevirtual 66, 3) := by decide +kernel
theorem dL_reached_7 : decode cL_reached 7 = .ok (.i2l, 1) := by decide +kernel
theorem dL_reached_8 : decode cL_reached 8 = .ok (.lastore, 1) := by decide +kernel
theorem dL_reached_9 : decode cL_reached 9 = .ok (.goto 6, 3) := by decide +kernel
theorem dL_reached_12 : decode cL_reached 12 = .ok (.astore_n 3, 1) := by decide +kernel
theorem dL_reached_13 : decode cL_reached 13 = .ok (.iconst 1, 1) := by decide +kernel
theorem dL_reached_14 : decode cL_reached 14 = .ok (.ireturn, 1) := by decide +kernel
theorem dL_reached_15 : decode cL_reached 15 = .ok (.iconst 0, 1) := by decide +kernel
theorem dL_reached_16 : decode cL_reached 16 = .ok (.ireturn, 1) := by decide +kernel
theorem dL_pits_0 : decode cL_pits 0 = .ok (.aload_n 2, 1) := by decide +kernel
theorem dL_pits_1 : decode cL_pits 1 = .ok (.iconst 0, 1) := by decide +kernel
theorem dL_pits_2 : decode cL_pits 2 = .ok (.aload_n 0, 1) := by decide +kernel
theorem dL_pits_3 : decode cL_pits 3 = .ok (.iload_n 1, 1) := by decide +kernel
theorem dL_pits_4 : decode cL_pits 4 = .ok (.invokevirtual 69, 3) := by decide +kernel
theorem dL_pits_7 : decode cL_pits 7 = .ok (.i2l, 1) := by decide +kernel
theorem dL_pits_8 : decode cL_pits 8 = .ok (.lastore, 1) := by decide +kernel
theorem dL_pits_9 : decode cL_pits 9 = .ok (.goto 6, 3) := by decide +kernel
theorem dL_pits_12 : decode cL_pits 12 = .ok (.astore_n 3, 1) := by decide +kernel
theorem dL_pits_13 : decode cL_pits 13 = .ok (.iconst 1, 1) := by decide +kernel
theorem dL_pits_14 : decode cL_pits 14 = .ok (.ireturn, 1) := by decide +kernel
theorem dL_pits_15 : decode cL_pits 15 = .ok (.iconst 0, 1) := by decide +kernel
theorem dL_pits_16 : decode cL_pits 16 = .ok (.ireturn, 1) := by decide +kernel
theorem dL_play_0 : decode cL_play 0 = .ok (.aload_n 3, 1) := by decide +kernel
theorem dL_play_1 : decode cL_play 1 = .ok (.iconst 0, 1) := by decide +kernel
theorem dL_play_2 : decode cL_play 2 = .ok (.aload_n 0, 1) := by decide +kernel
theorem dL_play_3 : decode cL_play 3 = .ok (.iload_n 1, 1) := by decide +kernel
theorem dL_play_4 : decode cL_play 4 = .ok (.iload_n 2, 1) := by decide +kernel
theorem dL_play_5 : decode cL_play 5 = .ok (.invokevirtual 72, 3) := by decide +kernel
theorem dL_play_8 : decode cL_play 8 = .ok (.i2l, 1) := by decide +kernel
theorem dL_play_9 : decode cL_play 9 = .ok (.lastore, 1) := by decide +kernel
theorem dL_play_10 : decode cL_play 10 = .ok (.goto 7, 3) := by decide +kernel
theorem dL_play_13 : decode cL_play 13 = .ok (.astore 4, 2) := by decide +kernel
theorem dL_play_15 : decode cL_play 15 = .ok (.iconst 1, 1) := by decide +kernel
theorem dL_play_16 : decode cL_play 16 = .ok (.ireturn, 1) := by decide +kernel
theorem dL_play_17 : decode cL_play 17 = .ok (.iconst 0, 1) := by decide +kernel
theorem dL_play_18 : decode cL_play 18 = .ok (.ireturn, 1) := by decide +kernel
theorem dL_against_0 : decode cL_against 0 = .ok (.aload_n 3, 1) := by decide +kernel
theorem dL_against_1 : decode cL_against 1 = .ok (.iconst 0, 1) := by decide +kernel
theorem dL_against_2 : decode cL_against 2 = .ok (.aload_n 0, 1) := by decide +kernel
theorem dL_against_3 : decode cL_against 3 = .ok (.iload_n 1, 1) := by decide +kernel
theorem dL_against_4 : decode cL_against 4 = .ok (.iload_n 2, 1) := by decide +kernel
theorem dL_against_5 : decode cL_against 5 = .ok (.invokevirtual 75, 3) := by decide +kernel
theorem dL_against_8 : decode cL_against 8 = .ok (.i2l, 1) := by decide +kernel
theorem dL_against_9 : decode cL_against 9 = .ok (.lastore, 1) := by decide +kernel
theorem dL_against_10 : decode cL_against 10 = .ok (.goto 11, 3) := by decide +kernel
theorem dL_against_13 : decode cL_against 13 = .ok (.astore 4, 2) := by decide +kernel
theorem dL_against_15 : decode cL_against 15 = .ok (.iconst 1, 1) := by decide +kernel
theorem dL_against_16 : decode cL_against 16 = .ok (.ireturn, 1) := by decide +kernel
theorem dL_against_17 : decode cL_against 17 = .ok (.astore 4, 2) := by decide +kernel
theorem dL_against_19 : decode cL_against 19 = .ok (.iconst 2, 1) := by decide +kernel
theorem dL_against_20 : decode cL_against 20 = .ok (.ireturn, 1) := by decide +kernel
theorem dL_against_21 : decode cL_against 21 = .ok (.iconst 0, 1) := by decide +kernel
theorem dL_against_22 : decode cL_against 22 = .ok (.ireturn, 1) := by decide +kernel
theorem dL_tray_0 : decode cL_tray 0 = .ok (.aload_n 0, 1) := by decide +kernel
theorem dL_tray_1 : decode cL_tray 1 = .ok (.iload_n 1, 1) := by decide +kernel
theorem dL_tray_2 : decode cL_tray 2 = .ok (.iload_n 2, 1) := by decide +kernel
theorem dL_tray_3 : decode cL_tray 3 = .ok (.iload_n 3, 1) := by decide +kernel
theorem dL_tray_4 : decode cL_tray 4 = .ok (.invokevirtual 78, 3) := by decide +kernel
theorem dL_tray_7 : decode cL_tray 7 = .ok (.goto 11, 3) := by decide +kernel
theorem dL_tray_10 : decode cL_tray 10 = .ok (.astore 4, 2) := by decide +kernel
theorem dL_tray_12 : decode cL_tray 12 = .ok (.iconst 1, 1) := by decide +kernel
theorem dL_tray_13 : decode cL_tray 13 = .ok (.ireturn, 1) := by decide +kernel
theorem dL_tray_14 : decode cL_tray 14 = .ok (.astore 4, 2) := by decide +kernel
theorem dL_tray_16 : decode cL_tray 16 = .ok (.iconst 2, 1) := by decide +kernel
theorem dL_tray_17 : decode cL_tray 17 = .ok (.ireturn, 1) := by decide +kernel
theorem dL_tray_18 : decode cL_tray 18 = .ok (.iconst 0, 1) := by decide +kernel
theorem dL_tray_19 : decode cL_tray 19 = .ok (.ireturn, 1) := by decide +kernel
theorem dL_write_0 : decode cL_write 0 = .ok (.aload 5, 2) := by decide +kernel
theorem dL_write_2 : decode cL_write 2 = .ok (.iconst 0, 1) := by decide +kernel
theorem dL_write_3 : decode cL_write 3 = .ok (.aload_n 0, 1) := by decide +kernel
theorem dL_write_4 : decode cL_write 4 = .ok (.iload_n 1, 1) := by decide +kernel
theorem dL_write_5 : decode cL_write 5 = .ok (.iload_n 2, 1) := by decide +kernel
theorem dL_write_6 : decode cL_write 6 = .ok (.lload_n 3, 1) := by decide +kernel
theorem dL_write_7 : decode cL_write 7 = .ok (.invokevirtual 82, 3) := by decide +kernel
theorem dL_write_10 : decode cL_write 10 = .ok (.lastore, 1) := by decide +kernel
theorem dL_write_11 : decode cL_write 11 = .ok (.goto 15, 3) := by decide +kernel
theorem dL_write_14 : decode cL_write 14 = .ok (.astore 6, 2) := by decide +kernel
theorem dL_write_16 : decode cL_write 16 = .ok (.iconst 1, 1) := by decide +kernel
theorem dL_write_17 : decode cL_write 17 = .ok (.ireturn, 1) := by decide +kernel
theorem dL_write_18 : decode cL_write 18 = .ok (.astore 6, 2) := by decide +kernel
theorem dL_write_20 : decode cL_write 20 = .ok (.iconst 2, 1) := by decide +kernel
theorem dL_write_21 : decode cL_write 21 = .ok (.ireturn, 1) := by decide +kernel
theorem dL_write_22 : decode cL_write 22 = .ok (.astore 6, 2) := by decide +kernel
theorem dL_write_24 : decode cL_write 24 = .ok (.iconst 3, 1) := by decide +kernel
theorem dL_write_25 : decode cL_write 25 = .ok (.ireturn, 1) := by decide +kernel
theorem dL_write_26 : decode cL_write 26 = .ok (.iconst 0, 1) := by decide +kernel
theorem dL_write_27 : decode cL_write 27 = .ok (.ireturn, 1) := by decide +kernel
theorem dL_pour_0 : decode cL_pour 0 = .ok (.aload_n 2, 1) := by decide +kernel
theorem dL_pour_1 : decode cL_pour 1 = .ok (.iconst 0, 1) := by decide +kernel
theorem dL_pour_2 : decode cL_pour 2 = .ok (.aload_n 0, 1) := by decide +kernel
theorem dL_pour_3 : decode cL_pour 3 = .ok (.iload_n 1, 1) := by decide +kernel
theorem dL_pour_4 : decode cL_pour 4 = .ok (.invokevirtual 86, 3) := by decide +kernel
theorem dL_pour_7 : decode cL_pour 7 = .ok (.i2l, 1) := by decide +kernel
theorem dL_pour_8 : decode cL_pour 8 = .ok (.lastore, 1) := by decide +kernel
theorem dL_pour_9 : decode cL_pour 9 = .ok (.goto 9, 3) := by decide +kernel
theorem dL_pour_12 : decode cL_pour 12 = .ok (.astore_n 3, 1) := by decide +kernel
theorem dL_pour_13 : decode cL_pour 13 = .ok (.iconst 1, 1) := by decide +kernel
theorem dL_pour_14 : decode cL_pour 14 = .ok (.ireturn, 1) := by decide +kernel
theorem dL_pour_15 : decode cL_pour 15 = .ok (.astore_n 3, 1) := by decide +kernel
theorem dL_pour_16 : decode cL_pour 16 = .ok (.iconst 2, 1) := by decide +kernel
theorem dL_pour_17 : decode cL_pour 17 = .ok (.ireturn, 1) := by decide +kernel
theorem dL_pour_18 : decode cL_pour 18 = .ok (.iconst 0, 1) := by decide +kernel
theorem dL_pour_19 : decode cL_pour 19 = .ok (.ireturn, 1) := by decide +kernel
theorem dL_image_0 : decode cL_image 0 = .ok (.aload_n 0, 1) := by decide +kernel
theorem dL_image_1 : decode cL_image 1 = .ok (.iload_n 1, 1) := by decide +kernel
theorem dL_image_2 : decode cL_image 2 = .ok (.invokevirtual 89, 3) := by decide +kernel
theorem dL_image_5 : decode cL_image 5 = .ok (.goto 6, 3) := by decide +kernel
theorem dL_image_8 : decode cL_image 8 = .ok (.astore_n 2, 1) := by decide +kernel
theorem dL_image_9 : decode cL_image 9 = .ok (.iconst 1, 1) := by decide +kernel
theorem dL_image_10 : decode cL_image 10 = .ok (.ireturn, 1) := by decide +kernel
theorem dL_image_11 : decode cL_image 11 = .ok (.iconst 0, 1) := by decide +kernel
theorem dL_image_12 : decode cL_image 12 = .ok (.ireturn, 1) := by decide +kernel
theorem dL_restore_0 : decode cL_restore 0 = .ok (.aload_n 0, 1) := by decide +kernel
theorem dL_restore_1 : decode cL_restore 1 = .ok (.iload_n 1, 1) := by decide +kernel
theorem dL_restore_2 : decode cL_restore 2 = .ok (.invokevirtual 93, 3) := by decide +kernel
theorem dL_restore_5 : decode cL_restore 5 = .ok (.goto 9, 3) := by decide +kernel
theorem dL_restore_8 : decode cL_restore 8 = .ok (.astore_n 2, 1) := by decide +kernel
theorem dL_restore_9 : decode cL_restore 9 = .ok (.iconst 1, 1) := by decide +kernel
theorem dL_restore_10 : decode cL_restore 10 = .ok (.ireturn, 1) := by decide +kernel
theorem dL_restore_11 : decode cL_restore 11 = .ok (.astore_n 2, 1) := by decide +kernel
theorem dL_restore_12 : decode cL_restore 12 = .ok (.iconst 2, 1) := by decide +kernel
theorem dL_restore_13 : decode cL_restore 13 = .ok (.ireturn, 1) := by decide +kernel
theorem dL_restore_14 : decode cL_restore 14 = .ok (.iconst 0, 1) := by decide +kernel
theorem dL_restore_15 : decode cL_restore 15 = .ok (.ireturn, 1) := by decide +kernel
theorem xcs0 : Cond.castable "java/util/NoSuchElementException" "java/util/NoSuchElementException" ∈ nestW := gn5 87 rfl rfl
theorem xcs1 : Cond.castable "java/lang/IllegalArgumentException" "java/lang/IllegalArgumentException" ∈ nestW := gn4 103 rfl rfl
theorem xcs2 : Cond.castable "java/lang/IllegalStateException" "java/lang/IllegalStateException" ∈ nestW := gn5 128 rfl rfl
theorem xcs3 : Cond.castable "java/lang/IndexOutOfBoundsException" "java/lang/IndexOutOfBoundsException" ∈ nestW := gn5 193 rfl rfl
def L_board (n : Nat) (v1 : Int32) (μ : Mu) : Option (Int32 × Mu) := match X11_board n v1 μ with
  | none => none
  | some (.inl v, m1) => some (0, sj m1 201 0 v.toInt64)
  | some (.inr k, m1) => if k = 1 then some (1, m1) else none
def L_pit (n : Nat) (v1 : Int32) (μ : Mu) : Option (Int32 × Mu) := match X11_pit n v1 μ with
  | none => none
  | some (.inl v, m1) => some (0, sj m1 201 0 v.toInt64)
  | some (.inr k, m1) => if k = 0 then some (1, m1) else none
def L_store (n : Nat) (v1 : Int32) (μ : Mu) : Option (Int32 × Mu) := match X11_store n v1 μ with
  | none => none
  | some (.inl v, m1) => some (0, sj m1 201 0 v.toInt64)
  | some (.inr k, m1) => if k = 0 then some (1, m1) else none
def L_sown (n : Nat) (v1 : Int32) (v2 : Int32) (μ : Mu) : Option (Int32 × Mu) := match X11_sown n v1 v2 μ with
  | none => none
  | some (.inl v, m1) => some (0, sj m1 201 0 v.toInt64)
  | some (.inr k, m1) => if k = 0 then some (1, m1) else if k = 2 then some (2, m1) else if k = 1 then some (3, m1) else none
def L_judge (n : Nat) (v1 : Int32) (v2 : Int32) (μ : Mu) : Option (Int32 × Mu) := match X11_judge n v1 v2 μ with
  | none => none
  | some (.inl v, m1) => some (0, sj m1 201 0 v.toInt64)
  | some (.inr k, m1) => if k = 0 then some (1, m1) else if k = 2 then some (2, m1) else if k = 1 then some (3, m1) else none
def L_perform (n : Nat) (v1 : Int32) (μ : Mu) : Option (Int32 × Mu) := match X11_perform n v1 μ with
  | none => none
  | some (.inl v, m1) => some (0, sj m1 201 0 v.toInt64)
  | some (.inr k, m1) => if k = 0 then some (1, m1) else if k = 2 then some (2, m1) else none
def L_positions (n : Nat) (v1 : Int32) (v2 : Int32) (μ : Mu) : Option (Int32 × Mu) := match X11_positions n v1 v2 μ with
  | none => none
  | some (.inl v, m1) => some (0, sj m1 201 0 v.toInt64)
  | some (.inr k, m1) => if k = 0 then some (1, m1) else if k = 1 then some (2, m1) else none
def L_ofPlace (n : Nat) (v1 : Int32) (v2 : Int32) (v3 : Int32) (v4 : Int32) (μ : Mu) : Option (Int32 × Mu) := match X11_ofPlace n v1 v2 v3 v4 μ with
  | none => none
  | some (.inl v, m1) => some (0, sj m1 201 0 v.toInt64)
  | some (.inr k, m1) => if k = 0 then some (1, m1) else if k = 1 then some (2, m1) else if k = 2 then some (3, m1) else if k = 3 then some (4, m1) else none
def L_valueOf (n : Nat) (v1 : Int32) (v2 : Int32) (v3 : Int32) (μ : Mu) : Option (Int32 × Mu) := match X11_valueOf n v1 v2 v3 μ with
  | none => none
  | some (.inl v, m1) => some (0, sj m1 201 0 v.toInt64)
  | some (.inr k, m1) => if k = 0 then some (1, m1) else if k = 1 then some (2, m1) else if k = 2 then some (3, m1) else none
def L_tally (n : Nat) (v1 : Int32) (v2 : Int32) (v3 : Int32) (μ : Mu) : Option (Int32 × Mu) := match X11_tally n v1 v2 v3 μ with
  | none => none
  | some (.inl v, m1) => some (0, sj m1 201 0 v.toInt64)
  | some (.inr k, m1) => if k = 0 then some (1, m1) else if k = 1 then some (2, m1) else if k = 2 then some (3, m1) else none
def L_row (n : Nat) (v1 : Int32) (v2 : Int32) (v3 : Int32) (v4 : Int32) (μ : Mu) : Option (Int32 × Mu) := match X11_row n v1 v2 v3 v4 μ with
  | none => none
  | some (.inl v, m1) => some (0, sj m1 201 0 v.toInt64)
  | some (.inr k, m1) => if k = 0 then some (1, m1) else if k = 1 then some (2, m1) else if k = 2 then some (3, m1) else none
def L_find (n : Nat) (v1 : Int32) (v2 : Int32) (v3 : Int32) (v4 : Int32) (μ : Mu) : Option (Int32 × Mu) := match X11_find n v1 v2 v3 v4 μ with
  | none => none
  | some (.inl v, m1) => some (0, sj m1 201 0 v.toInt64)
  | some (.inr k, m1) => if k = 0 then some (1, m1) else if k = 1 then some (2, m1) else if k = 2 then some (3, m1) else none
def L_most (n : Nat) (v1 : Int32) (v2 : Int32) (v3 : Int32) (μ : Mu) : Option (Int32 × Mu) := match X11_most n v1 v2 v3 μ with
  | none => none
  | some (.inl v, m1) => some (0, sj m1 201 0 v.toInt64)
  | some (.inr k, m1) => if k = 0 then some (1, m1) else if k = 1 then some (2, m1) else if k = 2 then some (3, m1) else none
def L_line (n : Nat) (v1 : Int32) (μ : Mu) : Option (Int32 × Mu) := match X11_line n v1 μ with
  | none => none
  | some (.inl v, m1) => some (0, sj m1 201 0 v.toInt64)
  | some (.inr k, m1) => if k = 1 then some (1, m1) else if k = 2 then some (2, m1) else none
def L_plays (n : Nat) (v1 : Int32) (μ : Mu) : Option (Int32 × Mu) := match X11_plays n v1 μ with
  | none => none
  | some (.inl v, m1) => some (0, sj m1 201 0 v.toInt64)
  | some (.inr k, m1) => if k = 1 then some (1, m1) else none
def L_reached (n : Nat) (v1 : Int32) (μ : Mu) : Option (Int32 × Mu) := match X11_reached n v1 μ with
  | none => none
  | some (.inl v, m1) => some (0, sj m1 201 0 v.toInt64)
  | some (.inr k, m1) => if k = 1 then some (1, m1) else none
def L_pits (n : Nat) (v1 : Int32) (μ : Mu) : Option (Int32 × Mu) := match X11_pits n v1 μ with
  | none => none
  | some (.inl v, m1) => some (0, sj m1 201 0 v.toInt64)
  | some (.inr k, m1) => if k = 1 then some (1, m1) else none
def L_play (n : Nat) (v1 : Int32) (v2 : Int32) (μ : Mu) : Option (Int32 × Mu) := match X11_play n v1 v2 μ with
  | none => none
  | some (.inl v, m1) => some (0, sj m1 201 0 v.toInt64)
  | some (.inr k, m1) => if k = 1 then some (1, m1) else none
def L_against (n : Nat) (v1 : Int32) (v2 : Int32) (μ : Mu) : Option (Int32 × Mu) := match X11_against n v1 v2 μ with
  | none => none
  | some (.inl v, m1) => some (0, sj m1 201 0 v.toInt64)
  | some (.inr k, m1) => if k = 2 then some (1, m1) else if k = 1 then some (2, m1) else none
def L_tray (n : Nat) (v1 : Int32) (v2 : Int32) (v3 : Int32) (μ : Mu) : Option (Int32 × Mu) := match X11_tray n v1 v2 v3 μ with
  | none => none
  | some (.inl v, m1) => some (0, m1)
  | some (.inr k, m1) => if k = 0 then some (1, m1) else if k = 1 then some (2, m1) else none
def L_write (n : Nat) (v1 : Int32) (v2 : Int32) (v3 : Int64) (μ : Mu) : Option (Int32 × Mu) := match X11_write n v1 v2 v3 μ with
  | none => none
  | some (.inl v, m1) => some (0, sj m1 201 0 v)
  | some (.inr k, m1) => if k = 0 then some (1, m1) else if k = 2 then some (2, m1) else if k = 3 then some (3, m1) else none
def L_pour (n : Nat) (v1 : Int32) (μ : Mu) : Option (Int32 × Mu) := match X11_pour n v1 μ with
  | none => none
  | some (.inl v, m1) => some (0, sj m1 201 0 v.toInt64)
  | some (.inr k, m1) => if k = 0 then some (1, m1) else if k = 2 then some (2, m1) else none
def L_image (n : Nat) (v1 : Int32) (μ : Mu) : Option (Int32 × Mu) := match X11_image n v1 μ with
  | none => none
  | some (.inl v, m1) => some (0, m1)
  | some (.inr k, m1) => if k = 0 then some (1, m1) else none
def L_restore (n : Nat) (v1 : Int32) (μ : Mu) : Option (Int32 × Mu) := match X11_restore n v1 μ with
  | none => none
  | some (.inl v, m1) => some (0, m1)
  | some (.inr k, m1) => if k = 0 then some (1, m1) else if k = 2 then some (2, m1) else none
