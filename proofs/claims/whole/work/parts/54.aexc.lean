
/-! NoSuchElementException: its constructor links by another entry than the other exceptions' do -/
def nsX : String := "java/util/NoSuchElementException"
def nsN : List String := ["java/lang/RuntimeException", "java/lang/Exception"]
def nsB : ByteArray := ⟨#[0x2a, 0x2b, 0xb7, 0x00, 0x0d, 0xb1]⟩
def nsT (own : String) (ic : Nat) : List Cond := [.methodLink own ic (Bundle.initS nsX), .instantiable nsX 6, .castable nsX nsX, .selects nsX Bundle.tFill0 Bundle.tFill0, .selects nsX Bundle.tFill Bundle.tFill,
   .lays nsX Bundle.tN "cause" "Ljava/lang/Throwable;", .lays nsX Bundle.tN "stackTrace" Bundle.steD, .lays nsX Bundle.tN "suppressedExceptions" Bundle.listD, .lays nsX Bundle.tN "detailMessage" "Ljava/lang/String;",
   .isRef (.static Bundle.tN "UNASSIGNED_STACK" Bundle.steD), .isRef (.static Bundle.tN "SUPPRESSED_SENTINEL" Bundle.listD),
   .fieldLink Bundle.tN 198 Bundle.tN "backtrace" "Ljava/lang/Object;", .lays Bundle.tN Bundle.tN "backtrace" "Ljava/lang/Object;", .lays nsX Bundle.tN "backtrace" "Ljava/lang/Object;"]
def nsA (own : String) (ic : Nat) : List Cond := Bundle.throwableAtoms ++ (Bundle.throwableSAtoms ++ (Bundle.passSAtoms nsX "java/lang/RuntimeException" 13 nsB ++ (Bundle.chainSAtoms "java/lang/RuntimeException" ["java/lang/Exception"] ++ nsT own ic)))
def nsAt (own : String) (ic : Nat) : List Cond := (nsA own ic).filter vx_no
theorem nsA_1 {own : String} {ic : Nat} {w : Cond} (h : w ∈ Bundle.throwableAtoms) : w ∈ nsA own ic := List.mem_append_left _ h
theorem nsA_2 {own : String} {ic : Nat} {w : Cond} (h : w ∈ Bundle.throwableSAtoms) : w ∈ nsA own ic := List.mem_append_right _ (List.mem_append_left _ h)
theorem nsA_3 {own : String} {ic : Nat} {w : Cond} (h : w ∈ Bundle.passSAtoms nsX "java/lang/RuntimeException" 13 nsB) : w ∈ nsA own ic := List.mem_append_right _ (List.mem_append_right _ (List.mem_append_left _ h))
theorem nsA_4 {own : String} {ic : Nat} {w : Cond} (h : w ∈ Bundle.chainSAtoms "java/lang/RuntimeException" ["java/lang/Exception"]) : w ∈ nsA own ic := List.mem_append_right _ (List.mem_append_right _ (List.mem_append_right _ (List.mem_append_left _ h)))
theorem nsA_5 {own : String} {ic : Nat} {w : Cond} (h : w ∈ nsT own ic) : w ∈ nsA own ic := List.mem_append_right _ (List.mem_append_right _ (List.mem_append_right _ (List.mem_append_right _ h)))
theorem nsB_0 : decode nsB 0 = .ok (.aload_n 0, 1) := by decide +kernel
theorem nsB_1 : decode nsB 1 = .ok (.aload_n 1, 1) := by decide +kernel
theorem nsB_2 : decode nsB 2 = .ok (.invokespecial 13, 3) := by decide +kernel
theorem nsB_5 : decode nsB 5 = .ok (.return_, 1) := by decide +kernel
set_option maxHeartbeats 1000000 in
/-- the constructor of the exception with a text, and the throw: it leaves the method -/
theorem ns_ctor {p : Program} {l : Launch} {e : Env} {R : Room} {s : State} {m₀ : MethodId} {args : Array Value} {below : List Frame} {meth : Method} {c : Code} {W0 : State} {locs : List Loc} {cells slots : Nat}
    (X : Stand p l e R s m₀ args below meth c W0 locs cells slots) (hexec : p.tables.exec = Jvm.exec) (htr : e.platform.stackTraces = false) {own : String} {ic : Nat}
    (hown : s.vm.findClass own = some m₀.cls) (h : ∀ a ∈ nsA own ic, a.before args s = true) (hlocs : ∀ x ∈ locs, ∀ cell, s.heap[x.base]? = some cell → cell.vm.isStatics = false)
    {a : Addr} {cX : ClassId} {kX : Class} (hfoundX : s.vm.findClass nsX = some cX) (hkX : s.vm.classes[cX]? = some kX) (hcell : W0.heap[a]? = some (freshCell cX kX)) (hnew : s.heap.size ≤ a) {msg : Value} (hmsg : msg.isRef = true)
    {g : JFrame} (hg : g.method = m₀) (hsize : g.locals.size = c.maxLocals) (hlocked : g.locked = none) (hentered : g.entered = []) {rest : List Value} (hstack : g.stack = msg :: .ref a :: .ref a :: rest)
    (hd6 : decode c.code g.pc = .ok (.invokespecial ic, 3)) (hd9 : decode c.code (g.pc + 3) = .ok (.athrow, 1)) (hout : ∀ x ∈ c.exceptionTable.toList, covers x (g.pc + 3) = false)
    (hRframes : 2 + 3 < R.frames) (hRlocals : 2 * g.monitorRoom + ((Value.ref a :: rest).map fun v => v.category).sum + (13 * (2 + 1) + 42) ≤ R.locals) (hlocks : meth.locks = false) :
    ∃ U : State, Steps p.tables e below (W0.setTop g) U ∧ U.status = .running ∧ Ended U below (.threw a) ∧ s.WarmedH U.vm ∧ s.sameButNew ({ U with vm := s.vm } : State) locs cells slots ∧ ∃ ce, U.heap[a]? = some ce ∧ s.vm.findClass nsX = some ce.cls ∧ ce.vm = .none := by
  have howns : e.platform.frameOwnsMonitors = true := by rw [X.admits.platform]
  have hfin : e.platform.finalization = false := by rw [X.admits.platform]
  have hpl : e.platform.magicAccessors = ({} : Platform).magicAccessors := by rw [X.admits.platform]
  have ht : ∀ x, x ∈ nsT own ic → x.before args s = true := fun x hx => h x (nsA_5 hx)
  obtain ⟨T, Z0, L, -, Y⟩ := ThrowableC.of_atoms (args := args) howns hfin hpl (fun x hx => h x (nsA_1 hx))
  obtain ⟨Z, M, LZ, LM, hnZ⟩ := Init0T.ofS_atoms (args := args) hpl L Y (fun x hx => h x (nsA_2 hx))
  obtain ⟨P1, L1, hP1m, hP1s⟩ := PassC.ofS_atoms (args := args) (s := s) hpl (X := nsX) (Y := "java/lang/RuntimeException") (index := 13) (bytes := nsB) (by decide) (by decide) nsB_0 nsB_1 nsB_2 nsB_5 (fun x hx => h x (nsA_3 hx))
  obtain ⟨P2, Ps, hlen, L2, hL, hP2m, hlink2, hlink⟩ := Bundle.chainS (args := args) hpl hnZ ["java/lang/Exception"] "java/lang/RuntimeException" (by decide) (by decide) (fun x hx => h x (nsA_4 hx))
  have hlink1 : P1.sup = P2.m := Option.some.inj (hP1s.symm.trans hP2m)
  have hfound : s.vm.findClass nsX = some P1.m.cls := findClass_of_methodNamed hP1m
  cases Option.some.inj (hfoundX.symm.trans hfound)
  obtain ⟨c1, kX', hc1, hk, hord, -, -, hn6⟩ := Cond.instantiable_spec (ht (.instantiable nsX 6) (by simp [nsT]))
  cases Option.some.inj (hc1.symm.trans hfound)
  cases Option.some.inj (hkX.symm.trans hk)
  have hsel : ∀ y : MethodName, ∀ q : MethodId, Cond.selects nsX y y ∈ nsT own ic → s.methodNamed? y = some q → (y.cls ≠ "java/lang/invoke/MethodHandle" ∧ y.cls ≠ "java/lang/invoke/VarHandle") → selectMethod e.platform s.vm P1.m.cls q = .method q := by
    intro y q hy hq hn
    obtain ⟨c2, r2, m2, q1, q2, q3, q4, -⟩ := Cond.selects_spec (ht _ hy)
    cases Option.some.inj (q1.symm.trans hfound)
    cases Option.some.inj (q2.symm.trans (State.methodFound?_of_named hq hn))
    cases Option.some.inj (q3.symm.trans hq)
    rw [Launch.admits_selectMethod X.admits]; exact q4
  have hsel0 := hsel Bundle.tFill0 _ (by simp [nsT]) Y.fill0 (by decide)
  have hselF := hsel Bundle.tFill _ (by simp [nsT]) Y.fill (by decide)
  obtain ⟨cellS0, hcS0, hiss⟩ := Y.statics
  obtain ⟨u0, hu0⟩ := Cond.staticRefV Y.unassigned L.unassignedStatic L.statics hcS0 hiss (ht (.isRef (.static Bundle.tN "UNASSIGNED_STACK" Bundle.steD)) (by simp [nsT]))
  obtain ⟨sen, hsen⟩ := Cond.staticRefV Y.sentinel L.sentinelStatic L.statics hcS0 hiss (ht (.isRef (.static Bundle.tN "SUPPRESSED_SENTINEL" Bundle.listD)) (by simp [nsT]))
  obtain ⟨ci198, i198, fB, hk198, hg198, ha198, hsB, -, hnB, htB, hffB⟩ := Cond.ownField (t := .object "java/lang/Object") Y.found L.cls (by decide +kernel) (ht (.fieldLink Bundle.tN 198 Bundle.tN "backtrace" "Ljava/lang/Object;") (by simp [nsT])) (ht (.lays Bundle.tN Bundle.tN "backtrace" "Ljava/lang/Object;") (by simp [nsT])) e.platform hpl
  obtain ⟨cellS, hcS', heS, -, hkeep⟩ := X.same.2.2.2.2.2 T.aS cellS0 hcS0
  have hcellS : W0.heap[T.aS]? = some cellS := hcS'
  have hout' : ∀ i, (⟨T.aS, i⟩ : Loc) ∉ locs := fun i hmem => by
    have := hlocs _ hmem cellS0 hcS0
    rw [hiss] at this; cases this
  have hknownS : cellS.vm ≠ .unknown := by
    rw [heS]; intro hu
    rw [show cellS0.vm = .unknown from hu] at hiss
    cases hiss
  have hneS : T.aS ≠ a := Nat.ne_of_lt (Nat.lt_of_lt_of_le (Array.getElem?_eq_some_iff.mp hcS0).1 hnew)
  obtain ⟨iM, hffM⟩ := Y.msg
  obtain ⟨tyC, dC, hdC, hdnC⟩ := Cond.laysAt hfound hk Y.cause (ht (.lays nsX Bundle.tN "cause" "Ljava/lang/Throwable;") (by simp [nsT]))
  obtain ⟨tyS, dS, hdS, hdnS⟩ := Cond.laysAt hfound hk Y.stack (ht (.lays nsX Bundle.tN "stackTrace" Bundle.steD) (by simp [nsT]))
  obtain ⟨tyP, dP, hdP, hdnP⟩ := Cond.laysAt hfound hk Y.supp (ht (.lays nsX Bundle.tN "suppressedExceptions" Bundle.listD) (by simp [nsT]))
  obtain ⟨tyM, dM, hdM, hdnM⟩ := Cond.laysAt hfound hk hffM (ht (.lays nsX Bundle.tN "detailMessage" "Ljava/lang/String;") (by simp [nsT]))
  obtain ⟨tyB, dB, hdB, hdnB⟩ := Cond.laysAt hfound hk hffB (ht (.lays nsX Bundle.tN "backtrace" "Ljava/lang/Object;") (by simp [nsT]))
  have bC := Cond.laysApart hdB hdC hdnB hdnC (by rw [hnB, Y.causeName]; decide)
  have bS := Cond.laysApart hdB hdS hdnB hdnS (by rw [hnB, Y.stackName]; decide)
  have bP := Cond.laysApart hdB hdP hdnB hdnP (by rw [hnB, Y.suppName]; decide)
  have hskip : SkipFacts T e.platform s (fun u => u) u0 ((preparedCellV T.toThrowableT (freshCell P1.m.cls kX) a u0 sen).withEntry W0.cur) :=
    ⟨{ ci198 := ci198, i198 := i198, fBack := fB }, ⟨hk198, hg198, ha198, hsB⟩, by
      have := fresh_default (c := P1.m.cls) tyB
      rw [htB] at this
      simpa [preparedCellV, Cell.setSlot, Cell.withEntry, Array.getElem?_setIfInBounds, bC, bS, bP, bC.symm, bS.symm, bP.symm, defaultValue] using this, fun _ _ => rfl⟩
  obtain ⟨tm, methC, cdC, kC, vm₁, hnC, -, -, -, -, -, -, -, hW₁, st1⟩ := Steps.initColdS (tb := p.tables) (e := e) (below := below) (s := s) (U := W0) X.here hexec X.warmed hpl hown (t := Bundle.initS nsX) rfl rfl (by decide)
    (ht (.methodLink own ic (Bundle.initS nsX)) (by simp [nsT])) (h (.instanceMethod (Bundle.initS nsX)) (nsA_3 (by simp [Bundle.passSAtoms]))) (bytes := nsB) (maxL := 2) (h (.code (Bundle.initS nsX) nsB 2 none) (nsA_3 (by simp [Bundle.passSAtoms])))
    (f := g) hg (a := a) (msg := msg) (rest := .ref a :: rest) hstack hd6
  cases Option.some.inj (hnC.symm.trans hP1m)
  have X₁ := X.noted hW₁
  obtain ⟨vm₂, X₂, st2⟩ := X₁.ctorMessageOffV hexec (g := { g with stack := .ref a :: rest }) hg hsize T L Z LZ M LM (P1 :: P2 :: Ps)
    (fun P hP => by rcases List.mem_cons.mp hP with rfl | hP; exact L1; rcases List.mem_cons.mp hP with rfl | hP; exact L2; exact hL P hP) ⟨hlink1, hlink2, hlink⟩ (u0 := u0) (sen := sen) (self := a) hmsg (cell := freshCell P1.m.cls kX) (cellS := cellS)
    hcell (fun _ => by simp) (by simp) rfl rfl hsel0 hselF hcellS hneS hknownS (by rw [hkeep _ (hout' _)]; exact hu0) (by rw [hkeep _ (hout' _)]; exact hsen)
    (Takes.of_laid hk hord tyC (by rw [Y.causeType]; rfl)) (Takes.of_laid hk hord tyS (by rw [Y.stackType]; exact fits_refV_array _ u0)) (Takes.of_laid hk hord tyP (by rw [Y.suppType]; exact fits_refV_object _ sen))
    (Takes.of_laid hk hord tyM (by rw [Y.msgType]; exact fits_refV_object _ ⟨msg, hmsg⟩)) Y.objLocals hskip htr [] hd6
    (by simp only [List.length_cons, hlen]; omega) (by simp only [List.length_cons, hlen]; exact hRlocals)
  obtain ⟨hwalk, hrun, hended, hWU, hsame⟩ := X₂.athrowLeaves hexec (g := { g with stack := .ref a :: rest, pc := g.pc + 3 }) hg hlocked hentered hout (a := a) (rest := rest) rfl hd9
  have hlt : a < ((W0.setVm vm₁).setVm vm₂).heap.size := (Array.getElem?_eq_some_iff.mp hcell).1
  have hU := heapAt_setCell_self (s := (W0.setVm vm₁).setVm vm₂) (plainBareV T.toThrowableT (freshCell P1.m.cls kX) a u0 sen msg) hlt
  refine ⟨_, st1 _ (fun acts => ?_), hrun, hended, hWU, hsame.weaken (fun y hy hlt' => ?_) (Nat.le_refl _) (Nat.le_refl _), _, hU, hfound, rfl⟩
  · rw [doInvoke_state]
    exact st2 _ hwalk
  · rcases List.mem_append.mp hy with h1 | h1
    · exact h1
    · exfalso
      have hb : y.base = a := by
        simp only [List.mem_cons, List.not_mem_nil, or_false] at h1
        rcases h1 with rfl | rfl | rfl | rfl | rfl <;> rfl
      rw [hb] at hlt'
      exact Nat.not_lt.mpr hnew hlt'
section NSR
variable {p : Program} {l : Launch} {e : Env} {R : Room} {s : State} {m : MethodId} {args : Array Value} {below : List Frame} {meth : Method} {c : Code} {H : Heap} {locs : List Loc} {cells slots : Nat} {Q : State → Prop}
variable {mc ms : Nat} {free : Addr → Prop} {A0 A1 : Nat → Prop} {H0 : Heap} {a : Array Value} {ls : Array Slot} {st0 rest : List Value}
variable {Qc : Array Value → State → Outcome → State → Prop} {XC : String → State → State → Prop}
theorem ns_throwS {cc : ByteArray} {pc : Nat} (hexec : p.tables.exec = Jvm.exec) (hb : c.code = cc) (hl : l.stackTraces = false) {own text : String} {ik is ic mc ms sa : Nat} {A : Nat → Prop}
    (hown : s.vm.findClass own = some m.cls)
    (hk : (Cond.classLink own ik nsX).before args s = true) (hini : (Cond.initialized nsX).before args s = true) (hstr : vk_R own is text sa s) (hat : ∀ w ∈ nsAt own ic, w.before args s = true)
    (hgood : ∀ w ∈ Cond.classLink own ik nsX :: Cond.initialized nsX :: nsAt own ic, vx_ot w = true)
    (hU : vx_Zq Bundle.tN "UNASSIGNED_STACK" Bundle.steD A s s.heap) (hN : vx_Zq Bundle.tN "SUPPRESSED_SENTINEL" Bundle.listD A s s.heap) (hS : va_S A s.heap H locs) (hsize : ls.size = c.maxLocals)
    (d0 : decode cc pc = .ok (.new ik, 3)) (d3 : decode cc (pc + 3) = .ok (.dup, 1)) (d4 : decode cc (pc + 4) = .ok (.ldc is, 2)) (d6 : decode cc (pc + 6) = .ok (.invokespecial ic, 3)) (d9 : decode cc (pc + 9) = .ok (.athrow, 1))
    (hout : ∀ x ∈ c.exceptionTable.toList, covers x (pc + 9) = false)
    (hRframes : 2 + 3 < R.frames) (hRlocals : (rest.map fun v => v.category).sum + (13 * (2 + 1) + 43) ≤ R.locals) (hRcells : cells + 1 ≤ R.cells) (hRslots : slots + 6 ≤ R.slots) (hlocks : meth.locks = false)
    (hx : ∀ t : State, s.vm.Alike t.vm → H.size ≤ t.heap.size → (∀ q : Nat, q < H.size → t.heap[q]? = H[q]?) → XC nsX s t)
    (hf : ∀ z ∈ locs, free z.base) (hc : cells + 1 ≤ mc) (hs : slots + 6 ≤ ms) :
    W p l e R s m args below meth c H locs cells slots (vx_MQ below Qc XC args s mc ms free) (F0 m pc ls rest) := by
  intro T hT X
  have htr : e.platform.stackTraces = false := (show e.platform.stackTraces = l.stackTraces by rw [X.admits.platform]).trans hl
  have Y := vx_rebase X (R' := { frames := R.frames, locals := R.locals, cells := 1, slots := 6 }) (Nat.le_refl _) (Nat.le_refl _) hRcells hRslots
  obtain ⟨s', hA⟩ : ∃ z, z = (T.setVm s.vm).setFrames (.invoking m args :: below) := ⟨_, rfl⟩
  rw [← hA] at Y
  have hvm : s'.vm = s.vm := by rw [hA]; rfl
  have hhp : s'.heap = H := by rw [hA]; exact hT
  have hW0 : s.WarmedH s'.vm := by rw [hvm]; exact State.WarmedH.refl s
  have hat' : ∀ w ∈ nsAt own ic, w.before args s' = true := fun w hw => vx_ot_at hW0 hvm.symm (hgood w (List.mem_cons_of_mem _ (List.mem_cons_of_mem _ hw))) (hat w hw)
  have hk' : (Cond.classLink own ik nsX).before args s' = true := vx_ot_at hW0 hvm.symm (hgood _ List.mem_cons_self) hk
  have hini' : (Cond.initialized nsX).before args s' = true := vx_ot_at hW0 hvm.symm (hgood _ (List.mem_cons_of_mem _ List.mem_cons_self)) hini
  have hU' : vx_Zq Bundle.tN "UNASSIGNED_STACK" Bundle.steD A s' s'.heap := by rw [hhp]; exact vx_Zq.moved hW0.alike (hU.kept hS.2.1)
  have hN' : vx_Zq Bundle.tN "SUPPRESSED_SENTINEL" Bundle.listD A s' s'.heap := by rw [hhp]; exact vx_Zq.moved hW0.alike (hN.kept hS.2.1)
  have h : ∀ w ∈ nsA own ic, w.before args s' = true := vx_own hat' (vx_isRefq hU'.1) (vx_isRefq hN'.1) hU'.2.word hN'.2.word
  have hown' : s'.vm.findClass own = some m.cls := by rw [hvm]; exact hown
  have hins : (Cond.instantiable nsX 6).before args s' = true := h _ (nsA_5 (by simp [nsT]))
  obtain ⟨vm₁, cX, kX, hfX, hkX, -, -, X₁, st1⟩ := Y.newCold hexec (own := own) (C := nsX) (index := ik) (n := 6) hown' hk' hins hini'
    (g := F0 m pc ls rest) rfl (by rw [hb]; exact d0) (Nat.le_refl _) (Nat.le_refl _)
  generalize hT1 : (T.setVm vm₁).pushCell { cls := cX, slots := kX.instanceTypes.map defaultValue, vm := .none } = T1 at X₁ st1
  have hcat : (Value.ref T.heap.size).category = 1 := rfl
  have hcellA : T1.heap[T.heap.size]? = some (freshCell cX kX) := by rw [← hT1]; exact State.heap_pushCell_size _ _
  have d3' : decode c.code (pc + 3) = .ok (.dup, 1) := by rw [hb]; exact d3
  have d4' : decode c.code (pc + 4) = .ok (.ldc is, 2) := by rw [hb]; exact d4
  have hstr' : vk_R own is text sa s' := vk_R.warm hW0 hstr
  obtain ⟨U, hsteps, hrun, hend, hW, hsame, ce, hce, hO⟩ := ns_ctor X₁ hexec htr (own := own) (ic := ic) hown' h (fun x hx => nomatch hx) hfX hkX hcellA (by rw [hhp, hT]; exact Nat.le_refl _) (msg := .ref sa) rfl
    (g := { method := m, pc := pc + 6, locals := ls, stack := .ref sa :: .ref T.heap.size :: .ref T.heap.size :: rest, locked := none }) rfl hsize rfl rfl (rest := rest) rfl
    (by rw [hb]; exact d6) (by rw [hb]; exact d9) hout hRframes (by simp only [List.map_cons, List.sum_cons, hcat]; omega) hlocks
  obtain ⟨f1, f2⟩ := vx_frame hsame
  rw [hhp] at f1 f2
  have hWs : s.WarmedH U.vm := State.WarmedH.trans hW0 hW
  have hcl : s.vm.findClass nsX = some ce.cls := by
    have h9 := hO.1
    rw [hvm] at h9
    exact h9
  have hall : s.sameButNew ({ U with vm := s.vm } : State) locs mc ms := by
    subst hA
    obtain ⟨e1, e2⟩ := hsame
    rw [State.setFrames_setFrames] at e1
    have h2 : (T.setVm s.vm).sameButNew ({ U with vm := s.vm } : State) [] (0 + 1) (0 + 6) := ⟨e1, e2⟩
    have h3 := X.same.trans h2
    rw [List.append_nil] at h3
    exact h3.mono hc hs
  refine ⟨U, ?_, .threw T.heap.size, hrun, hend, Or.inr ⟨T.heap.size, rfl, nsX, ce, locs, hx U hWs.alike f1 (fun q hq => f2 q hq (fun z hz => nomatch hz)), hce, hO.2, hcl, hWs, hall, hf⟩⟩
  refine st1 _ ?_
  show Steps p.tables e below (T1.setTop { method := m, pc := pc + 3, locals := ls, stack := .ref T.heap.size :: rest, locked := none }) _
  jvm_step X₁.here [X₁.here.top, hexec, d3', Value.category]
  exact X₁.ldcString hexec (own := own) (text := text) (index := is) (a := sa) hown' hstr'.1 hstr'.2
    (g := { method := m, pc := pc + 4, locals := ls, stack := .ref T.heap.size :: .ref T.heap.size :: rest, locked := none }) rfl d4' _ hsteps
theorem ns_throwSW {cc : ByteArray} {pc : Nat} (hexec : p.tables.exec = Jvm.exec) (hb : c.code = cc) (hl : l.stackTraces = false) {own text : String} {ik is ic mc ms sa : Nat} {A : Nat → Prop}
    (hown : s.vm.findClass own = some m.cls)
    (hk : (Cond.classLink own ik nsX).before args s = true) (hini : (Cond.initialized nsX).before args s = true) (hstr : vk_R own is text sa s) (hat : ∀ w ∈ nsAt own ic, w.before args s = true)
    (hgood : ∀ w ∈ Cond.classLink own ik nsX :: Cond.initialized nsX :: nsAt own ic, vx_ot w = true)
    (hU : vx_Zq Bundle.tN "UNASSIGNED_STACK" Bundle.steD A s s.heap) (hN : vx_Zq Bundle.tN "SUPPRESSED_SENTINEL" Bundle.listD A s s.heap) (hS : va_S A s.heap H locs) (hsize : ls.size = c.maxLocals)
    (d0 : decode cc pc = .ok (.new ik, 3)) (d3 : decode cc (pc + 3) = .ok (.dup, 1)) (d4 : decode cc (pc + 4) = .ok (.ldc_w is, 3)) (d7 : decode cc (pc + 7) = .ok (.invokespecial ic, 3)) (d10 : decode cc (pc + 10) = .ok (.athrow, 1))
    (hout : ∀ x ∈ c.exceptionTable.toList, covers x (pc + 10) = false)
    (hRframes : 2 + 3 < R.frames) (hRlocals : (rest.map fun v => v.category).sum + (13 * (2 + 1) + 43) ≤ R.locals) (hRcells : cells + 1 ≤ R.cells) (hRslots : slots + 6 ≤ R.slots) (hlocks : meth.locks = false)
    (hx : ∀ t : State, s.vm.Alike t.vm → H.size ≤ t.heap.size → (∀ q : Nat, q < H.size → t.heap[q]? = H[q]?) → XC nsX s t)
    (hf : ∀ z ∈ locs, free z.base) (hc : cells + 1 ≤ mc) (hs : slots + 6 ≤ ms) :
    W p l e R s m args below meth c H locs cells slots (vx_MQ below Qc XC args s mc ms free) (F0 m pc ls rest) := by
  intro T hT X
  have htr : e.platform.stackTraces = false := (show e.platform.stackTraces = l.stackTraces by rw [X.admits.platform]).trans hl
  have Y := vx_rebase X (R' := { frames := R.frames, locals := R.locals, cells := 1, slots := 6 }) (Nat.le_refl _) (Nat.le_refl _) hRcells hRslots
  obtain ⟨s', hA⟩ : ∃ z, z = (T.setVm s.vm).setFrames (.invoking m args :: below) := ⟨_, rfl⟩
  rw [← hA] at Y
  have hvm : s'.vm = s.vm := by rw [hA]; rfl
  have hhp : s'.heap = H := by rw [hA]; exact hT
  have hW0 : s.WarmedH s'.vm := by rw [hvm]; exact State.WarmedH.refl s
  have hat' : ∀ w ∈ nsAt own ic, w.before args s' = true := fun w hw => vx_ot_at hW0 hvm.symm (hgood w (List.mem_cons_of_mem _ (List.mem_cons_of_mem _ hw))) (hat w hw)
  have hk' : (Cond.classLink own ik nsX).before args s' = true := vx_ot_at hW0 hvm.symm (hgood _ List.mem_cons_self) hk
  have hini' : (Cond.initialized nsX).before args s' = true := vx_ot_at hW0 hvm.symm (hgood _ (List.mem_cons_of_mem _ List.mem_cons_self)) hini
  have hU' : vx_Zq Bundle.tN "UNASSIGNED_STACK" Bundle.steD A s' s'.heap := by rw [hhp]; exact vx_Zq.moved hW0.alike (hU.kept hS.2.1)
  have hN' : vx_Zq Bundle.tN "SUPPRESSED_SENTINEL" Bundle.listD A s' s'.heap := by rw [hhp]; exact vx_Zq.moved hW0.alike (hN.kept hS.2.1)
  have h : ∀ w ∈ nsA own ic, w.before args s' = true := vx_own hat' (vx_isRefq hU'.1) (vx_isRefq hN'.1) hU'.2.word hN'.2.word
  have hown' : s'.vm.findClass own = some m.cls := by rw [hvm]; exact hown
  have hins : (Cond.instantiable nsX 6).before args s' = true := h _ (nsA_5 (by simp [nsT]))
  obtain ⟨vm₁, cX, kX, hfX, hkX, -, -, X₁, st1⟩ := Y.newCold hexec (own := own) (C := nsX) (index := ik) (n := 6) hown' hk' hins hini'
    (g := F0 m pc ls rest) rfl (by rw [hb]; exact d0) (Nat.le_refl _) (Nat.le_refl _)
  generalize hT1 : (T.setVm vm₁).pushCell { cls := cX, slots := kX.instanceTypes.map defaultValue, vm := .none } = T1 at X₁ st1
  have hcat : (Value.ref T.heap.size).category = 1 := rfl
  have hcellA : T1.heap[T.heap.size]? = some (freshCell cX kX) := by rw [← hT1]; exact State.heap_pushCell_size _ _
  have d3' : decode c.code (pc + 3) = .ok (.dup, 1) := by rw [hb]; exact d3
  have d4' : decode c.code (pc + 4) = .ok (.ldc_w is, 3) := by rw [hb]; exact d4
  have hstr' : vk_R own is text sa s' := vk_R.warm hW0 hstr
  obtain ⟨U, hsteps, hrun, hend, hW, hsame, ce, hce, hO⟩ := ns_ctor X₁ hexec htr (own := own) (ic := ic) hown' h (fun x hx => nomatch hx) hfX hkX hcellA (by rw [hhp, hT]; exact Nat.le_refl _) (msg := .ref sa) rfl
    (g := { method := m, pc := pc + 7, locals := ls, stack := .ref sa :: .ref T.heap.size :: .ref T.heap.size :: rest, locked := none }) rfl hsize rfl rfl (rest := rest) rfl
    (by rw [hb]; exact d7) (by rw [hb]; exact d10) hout hRframes (by simp only [List.map_cons, List.sum_cons, hcat]; omega) hlocks
  obtain ⟨f1, f2⟩ := vx_frame hsame
  rw [hhp] at f1 f2
  have hWs : s.WarmedH U.vm := State.WarmedH.trans hW0 hW
  have hcl : s.vm.findClass nsX = some ce.cls := by
    have h9 := hO.1
    rw [hvm] at h9
    exact h9
  have hall : s.sameButNew ({ U with vm := s.vm } : State) locs mc ms := by
    subst hA
    obtain ⟨e1, e2⟩ := hsame
    rw [State.setFrames_setFrames] at e1
    have h2 : (T.setVm s.vm).sameButNew ({ U with vm := s.vm } : State) [] (0 + 1) (0 + 6) := ⟨e1, e2⟩
    have h3 := X.same.trans h2
    rw [List.append_nil] at h3
    exact h3.mono hc hs
  refine ⟨U, ?_, .threw T.heap.size, hrun, hend, Or.inr ⟨T.heap.size, rfl, nsX, ce, locs, hx U hWs.alike f1 (fun q hq => f2 q hq (fun z hz => nomatch hz)), hce, hO.2, hcl, hWs, hall, hf⟩⟩
  refine st1 _ ?_
  show Steps p.tables e below (T1.setTop { method := m, pc := pc + 3, locals := ls, stack := .ref T.heap.size :: rest, locked := none }) _
  jvm_step X₁.here [X₁.here.top, hexec, d3', Value.category]
  exact X₁.ldcStringW hexec (own := own) (text := text) (index := is) (a := sa) hown' hstr'.1 hstr'.2
    (g := { method := m, pc := pc + 4, locals := ls, stack := .ref T.heap.size :: .ref T.heap.size :: rest, locked := none }) rfl d4' _ hsteps
end NSR
section Rows9
variable {p : Program} {l : Launch} {e : Env} {R : Room} {s : State} {m : MethodId} {args : Array Value} {below : List Frame} {meth : Method} {c : Code} {H : Heap} {locs : List Loc} {cells slots : Nat} {Q : State → Prop}
variable {mc ms : Nat} {free : Addr → Prop} {A0 A1 : Nat → Prop} {H0 : Heap} {a : Array Value} {pc : Nat} {ls : Array Slot} {st0 rest : List Value}
/-- caught by the row x of this method's table; the rows ahead don't take it -/
theorem vx_catch {own name : String} {E : String} {ce : Cell} {q : Addr} (hown : s.vm.findClass own = some m.cls) (pre : List ExceptionTableEntry) (x : ExceptionTableEntry) (suf : List ExceptionTableEntry) (hsplit : c.exceptionTable.toList = pre ++ x :: suf)
    (hpass : ∀ z ∈ pre, covers z pc = false ∨ (z.catchType ≠ 0 ∧ ∃ nm : String, (Cond.classLink own z.catchType nm).before args s = true ∧ va_Nc E nm s)) (hx : covers x pc = true) (h0 : x.catchType ≠ 0)
    (hlink : (Cond.classLink own x.catchType name).before args s = true) (hcast : (Cond.castable E name).before args s = true) (hcell : H[q]? = some ce) (hv : ce.vm = .none) (hcl : s.vm.findClass E = some ce.cls)
    (kk : W p l e R s m args below meth c H locs cells slots Q (F0 m x.handlerPc ls [.ref q])) : vx_W p l e R s m args below meth c H locs cells slots Q (F0 m pc ls rest) q := by
  intro T hT X
  have hpl : e.platform.magicAccessors = ({} : Platform).magicAccessors := by rw [X.admits.platform]
  obtain ⟨c3, c4, hc3, hc4, hasg⟩ := Cond.castable_spec hcast
  cases Option.some.inj (hc3.symm.trans hcl)
  obtain ⟨c5, hc5, hcl5⟩ := Cond.classLink_spec hown hlink e.platform hpl
  cases Option.some.inj (hc4.symm.trans hc5)
  obtain ⟨vm', X', st⟩ := X.thenCaughtThrough q (g := F0 m pc ls rest) rfl (Steps.refl _) (by rw [hT]; exact hcell) (by rw [hv]; rfl) (by obtain ⟨k9, h9, -⟩ := Vm.findClass_spec hcl; exact ⟨k9, h9⟩) pre x suf hsplit
    (fun z hz => by
      rcases hpass z hz with h | ⟨hz0, nm, hl1, hn1⟩
      · exact Or.inl h
      · obtain ⟨c6, hc6, hcl6⟩ := Cond.classLink_spec hown hl1 e.platform hpl
        obtain ⟨a8, b8, h1, h2, h3⟩ := hn1
        cases Option.some.inj (h1.symm.trans hcl)
        cases Option.some.inj (h2.symm.trans hc6)
        exact Or.inr ⟨hz0, _, hcl6, h3⟩) hx (Or.inr ⟨h0, c4, hcl5, hasg⟩)
  obtain ⟨t, a1, b1⟩ := kk (T.setVm vm') hT X'
  exact ⟨t, st.trans a1, b1⟩
end Rows9

def rmX (d : Nat) : Room := { frames := d, cells := 1, slots := 6, locals := 40 * d }
def XQ (g : Gw) (sz k : Nat) (μ' : Mu) : String → State → State → Prop := fun E st t => E = exN.getD k "" ∧ va_P g.1 vwCl (wl g μ') t.heap ∧ va_F (Aw g sz) st t
def QN : Array Value → State → Outcome → State → Prop := fun _ _ _ _ => False
/-- a contract of a throw: from the world μ the method throws an exception of kind k, the world is μ' then -/
def CtX (l : Launch) (g : Gw) (y : MethodName) (cc : ByteArray) (nL : Nat) (rt : Option FieldType) (d : Nat) (av : List Value) (μ : Mu) (k : Nat) (μ' : Mu) : Prop :=
  ∀ sz : Nat, vx_Met l y (Cond.code y cc nL rt :: gt) (rmX d) (va_Pc av (fun U => U.heap.size = sz ∧ va_P g.1 vwCl (wl g μ) U.heap ∧ Kn g U ∧ Sx g (Aw g sz) U U.heap)) QN (XQ g sz k μ') 1 6 (Aw g sz)
abbrev WX (p : Program) (l : Launch) (e : Env) (R : Room) (s : State) (m : MethodId) (args : Array Value) (below : List Frame) (meth : Method) (c : Code) (g : Gw) (k : Nat) (μ' : Mu) (H : Heap) (locs : List Loc) (fr : JFrame) : Prop := W p l e R s m args below meth c H locs 0 0 (vx_MQ below QN (XQ g s.heap.size k μ') args s 1 6 (Aw g s.heap.size)) fr
theorem CtX.of {l : Launch} {g : Gw} {y : MethodName} {cc : ByteArray} {nL : Nat} {rt : Option FieldType} {d : Nat} {av : List Value} {μ : Mu} {k : Nat} {μ' : Mu} (hy : plainName y.cls = true) (hlen : (lg_sl av).length ≤ nL)
    (body : ∀ (p : Program) (e : Env) (s : State) (m : MethodId) (args : Array Value) (below : List Frame) (meth : Method) (c : Code) (ls : Array Slot), Cx p s m args c cc nL y.cls g (Aw g s.heap.size) → wd g μ s (Aw g s.heap.size) s.heap [] → (∀ x ∈ c.exceptionTable.toList, False) → meth.locks = false → lv_has ls nL (lv_args 0 av) →
      WX p l e (rmX d) s m args below meth c g k μ' s.heap [] (F0 m 0 ls [])) : CtX l g y cc nL rt d av μ k μ' := by
  intro sz
  refine vx_ofW (cc := cc) (maxL := nL) (ret := rt) hy rfl ?_
  intro p e s m args below meth c s₁ B hml htab hv
  obtain ⟨rfl, hsz, hP, hK, hSx⟩ := hv
  subst hsz
  have hts := atoms_spec (ws := Cond.code y cc nL rt :: gt) B.pre
  have hown : s.vm.findClass y.cls = some m.cls := findClass_of_methodNamed B.named
  have hl := lv_entry av (n := nL) hlen
  rw [lg_entry_eq]
  refine body p e s m _ below meth c _ ⟨B.exec, B.bytes, hml, hown, fun w hw => hts w (List.mem_cons_of_mem _ hw), hK, fun i hi => Or.inl ⟨i, hi, rfl⟩, fun q hq => Or.inr hq, hSx⟩ ⟨hP, va_S.rf⟩ htab B.notSynchronized hl
theorem nest_use {w : Cond} (h : w ∈ nestW) {s : State} {args : Array Value} (hn : va_Nw w s) : w.before args s = true := by
  have h1 := (List.mem_filter.mp h).2
  cases w <;> simp [isNest] at h1
  · exact va_Nw.use rfl hn
  · exact va_Nw.use rfl hn
  · exact va_Nw.use rfl hn
theorem nest_ot {w : Cond} (h : w ∈ nestW) : vx_ot w = true := by
  have h1 := (List.mem_filter.mp h).2
  cases w <;> simp [isNest] at h1 <;> rfl
theorem gt_ot {w : Cond} (h : w ∈ gt) : vx_ot w = true := by
  have h1 := (List.mem_filter.mp h).2
  unfold vx_ot
  rw [h1, Bool.or_true]
theorem hat_of (L : List Cond) (h1 : ∀ w ∈ L, w ∈ lw_tbl) (h2 : L.all (fun w => goodWord w || isNest w) = true) : ∀ w ∈ L, w ∈ gt ∨ w ∈ nestW := by
  intro w hw
  have h3 := List.all_eq_true.mp h2 w hw
  rcases Bool.or_eq_true_iff.mp h3 with h | h
  · exact Or.inl (List.mem_filter.mpr ⟨h1 w hw, h⟩)
  · exact Or.inr (List.mem_filter.mpr ⟨h1 w hw, h⟩)
section FX
variable {p : Program} {l : Launch} {e : Env} {R : Room} {s : State} {m : MethodId} {args : Array Value} {below : List Frame} {meth : Method} {c : Code} {H : Heap} {locs : List Loc}
variable {cc : ByteArray} {pc nL : Nat} {ls : Array Slot} {rest : List Value} {own : String} {g : Gw} {μ μ' : Mu} {sz : Nat}
theorem xq_F (C : Cx p s m args c cc nL own g (Aw g sz)) (hw : wd g μ s (Aw g sz) H locs) {t : State} (h1 : H.size ≤ t.heap.size) (h2 : ∀ q : Nat, q < H.size → ¬ Aw g H.size q → t.heap[q]? = H[q]?) : va_F (Aw g sz) s t :=
  ⟨Nat.le_trans hw.2.1 h1, fun q q1 q2 => by rw [h2 q (Nat.lt_of_lt_of_le q1 hw.2.1) (fun z => q2 (C.free hw.2 q z))]; exact hw.2.2.1 q q1 q2⟩
theorem thS (C : Cx p s m args c cc nL own g (Aw g sz)) (hw : wd g μ s (Aw g sz) H locs) (hst : l.stackTraces = false) {ik is ic k d : Nat} {cls : String} {names : List String} (i : Nat) (hi : i < 47) (hio : sOwn.getD i "" = own) (his : sIdx.getD i 0 = is) (hcls : Bundle.fit cls = true) (hnames : ∀ n ∈ names, Bundle.fit n = true) (hck : Cond.classLink own ik cls ∈ gt) (hini : Cond.initialized cls ∈ gt) (hat : ∀ w ∈ vx_atS own ic cls names, w ∈ gt ∨ w ∈ nestW)
    (hsz : ls.size = nL) (htab : ∀ x ∈ c.exceptionTable.toList, False) (hlocks : meth.locks = false) (hk : exN.getD k "" = cls) (hμ : μ = μ') (hRf : names.length + 3 < d) (hRl : (rest.map fun v => v.category).sum + (13 * (names.length + 1) + 43) ≤ 40 * d)
    (d0 : decode cc pc = .ok (.new ik, 3)) (d3 : decode cc (pc + 3) = .ok (.dup, 1)) (d4 : decode cc (pc + 4) = .ok (.ldc is, 2)) (d6 : decode cc (pc + 6) = .ok (.invokespecial ic, 3)) (d9 : decode cc (pc + 9) = .ok (.athrow, 1)) :
    W p l e (rmX d) s m args below meth c H locs 0 0 (vx_MQ below QN (XQ g sz k μ') args s 1 6 (Aw g sz)) (F0 m pc ls rest) := by
  subst hμ
  have hS := C.2.2.2.2.2.2.2.2
  have hz := (hS.1 i hi).2.2.2.2
  rw [hio, his] at hz
  have hts := C.2.2.2.2.1
  refine vx_throwS (A := Aw g sz) (mc := 1) (ms := 6) C.1 C.2.1 hst C.2.2.2.1 hcls hnames (hts _ hck) (hts _ hini) hz (fun w h => (hat w h).elim (hts w) (fun h2 => nest_use h2 (C.2.2.2.2.2.1.2.1.1 w h2))) (fun w h => ?_) hS.2.2.2.1 hS.2.2.2.2 hw.2 (by rw [C.2.2.1]; exact hsz) d0 d3 d4 d6 d9 (fun x hx => (htab x hx).elim) hRf hRl (Nat.le_refl 1) (Nat.le_refl 6) hlocks (fun t ht h1 h2 => ⟨hk.symm, ?_, ?_⟩) hw.2.2.2 (Nat.le_refl 1) (Nat.le_refl 6)
  · rcases List.mem_cons.mp h with rfl | h
    · exact gt_ot hck
    · rcases List.mem_cons.mp h with rfl | h
      · exact gt_ot hini
      · exact (hat w h).elim gt_ot nest_ot
  · intro k9 q9 h9
    exact (hw.1 k9 q9 h9).kept (h2 _ (hw.1 k9 q9 h9).lt)
  · exact xq_F C hw h1 (fun q q1 _ => h2 q q1)
theorem thSW (C : Cx p s m args c cc nL own g (Aw g sz)) (hw : wd g μ s (Aw g sz) H locs) (hst : l.stackTraces = false) {ik is ic k d : Nat} {cls : String} {names : List String} (i : Nat) (hi : i < 47) (hio : sOwn.getD i "" = own) (his : sIdx.getD i 0 = is) (hcls : Bundle.fit cls = true) (hnames : ∀ n ∈ names, Bundle.fit n = true) (hck : Cond.classLink own ik cls ∈ gt) (hini : Cond.initialized cls ∈ gt) (hat : ∀ w ∈ vx_atS own ic cls names, w ∈ gt ∨ w ∈ nestW)
    (hsz : ls.size = nL) (htab : ∀ x ∈ c.exceptionTable.toList, False) (hlocks : meth.locks = false) (hk : exN.getD k "" = cls) (hμ : μ = μ') (hRf : names.length + 3 < d) (hRl : (rest.map fun v => v.category).sum + (13 * (names.length + 1) + 43) ≤ 40 * d)
    (d0 : decode cc pc = .ok (.new ik, 3)) (d3 : decode cc (pc + 3) = .ok (.dup, 1)) (d4 : decode cc (pc + 4) = .ok (.ldc_w is, 3)) (d7 : decode cc (pc + 7) = .ok (.invokespecial ic, 3)) (d10 : decode cc (pc + 10) = .ok (.athrow, 1)) :
    W p l e (rmX d) s m args below meth c H locs 0 0 (vx_MQ below QN (XQ g sz k μ') args s 1 6 (Aw g sz)) (F0 m pc ls rest) := by
  subst hμ
  have hS := C.2.2.2.2.2.2.2.2
  have hz := (hS.1 i hi).2.2.2.2
  rw [hio, his] at hz
  have hts := C.2.2.2.2.1
  refine vx_throwSW (A := Aw g sz) (mc := 1) (ms := 6) C.1 C.2.1 hst C.2.2.2.1 hcls hnames (hts _ hck) (hts _ hini) hz (fun w h => (hat w h).elim (hts w) (fun h2 => nest_use h2 (C.2.2.2.2.2.1.2.1.1 w h2))) (fun w h => ?_) hS.2.2.2.1 hS.2.2.2.2 hw.2 (by rw [C.2.2.1]; exact hsz) d0 d3 d4 d7 d10 (fun x hx => (htab x hx).elim) hRf hRl (Nat.le_refl 1) (Nat.le_refl 6) hlocks (fun t ht h1 h2 => ⟨hk.symm, ?_, ?_⟩) hw.2.2.2 (Nat.le_refl 1) (Nat.le_refl 6)
  · rcases List.mem_cons.mp h with rfl | h
    · exact gt_ot hck
    · rcases List.mem_cons.mp h with rfl | h
      · exact gt_ot hini
      · exact (hat w h).elim gt_ot nest_ot
  · intro k9 q9 h9
    exact (hw.1 k9 q9 h9).kept (h2 _ (hw.1 k9 q9 h9).lt)
  · exact xq_F C hw h1 (fun q q1 _ => h2 q q1)
theorem nthS (C : Cx p s m args c cc nL own g (Aw g sz)) (hw : wd g μ s (Aw g sz) H locs) (hst : l.stackTraces = false) {ik is ic k d : Nat} (i : Nat) (hi : i < 47) (hio : sOwn.getD i "" = own) (his : sIdx.getD i 0 = is) (hck : Cond.classLink own ik nsX ∈ gt) (hini : Cond.initialized nsX ∈ gt) (hat : ∀ w ∈ nsAt own ic, w ∈ gt ∨ w ∈ nestW)
    (hsz : ls.size = nL) (htab : ∀ x ∈ c.exceptionTable.toList, False) (hlocks : meth.locks = false) (hk : exN.getD k "" = nsX) (hμ : μ = μ') (hRf : 2 + 3 < d) (hRl : (rest.map fun v => v.category).sum + (13 * (2 + 1) + 43) ≤ 40 * d)
    (d0 : decode cc pc = .ok (.new ik, 3)) (d3 : decode cc (pc + 3) = .ok (.dup, 1)) (d4 : decode cc (pc + 4) = .ok (.ldc is, 2)) (d6 : decode cc (pc + 6) = .ok (.invokespecial ic, 3)) (d9 : decode cc (pc + 9) = .ok (.athrow, 1)) :
    W p l e (rmX d) s m args below meth c H locs 0 0 (vx_MQ below QN (XQ g sz k μ') args s 1 6 (Aw g sz)) (F0 m pc ls rest) := by
  subst hμ
  have hS := C.2.2.2.2.2.2.2.2
  have hz := (hS.1 i hi).2.2.2.2
  rw [hio, his] at hz
  have hts := C.2.2.2.2.1
  refine ns_throwS (A := Aw g sz) (mc := 1) (ms := 6) C.1 C.2.1 hst C.2.2.2.1 (hts _ hck) (hts _ hini) hz (fun w h => (hat w h).elim (hts w) (fun h2 => nest_use h2 (C.2.2.2.2.2.1.2.1.1 w h2))) (fun w h => ?_) hS.2.2.2.1 hS.2.2.2.2 hw.2 (by rw [C.2.2.1]; exact hsz) d0 d3 d4 d6 d9 (fun x hx => (htab x hx).elim) hRf hRl (Nat.le_refl 1) (Nat.le_refl 6) hlocks (fun t ht h1 h2 => ⟨hk.symm, ?_, ?_⟩) hw.2.2.2 (Nat.le_refl 1) (Nat.le_refl 6)
  · rcases List.mem_cons.mp h with rfl | h
    · exact gt_ot hck
    · rcases List.mem_cons.mp h with rfl | h
      · exact gt_ot hini
      · exact (hat w h).elim gt_ot nest_ot
  · intro k9 q9 h9
    exact (hw.1 k9 q9 h9).kept (h2 _ (hw.1 k9 q9 h9).lt)
  · exact xq_F C hw h1 (fun q q1 _ => h2 q q1)
theorem nthSW (C : Cx p s m args c cc nL own g (Aw g sz)) (hw : wd g μ s (Aw g sz) H locs) (hst : l.stackTraces = false) {ik is ic k d : Nat} (i : Nat) (hi : i < 47) (hio : sOwn.getD i "" = own) (his : sIdx.getD i 0 = is) (hck : Cond.classLink own ik nsX ∈ gt) (hini : Cond.initialized nsX ∈ gt) (hat : ∀ w ∈ nsAt own ic, w ∈ gt ∨ w ∈ nestW)
    (hsz : ls.size = nL) (htab : ∀ x ∈ c.exceptionTable.toList, False) (hlocks : meth.locks = false) (hk : exN.getD k "" = nsX) (hμ : μ = μ') (hRf : 2 + 3 < d) (hRl : (rest.map fun v => v.category).sum + (13 * (2 + 1) + 43) ≤ 40 * d)
    (d0 : decode cc pc = .ok (.new ik, 3)) (d3 : decode cc (pc + 3) = .ok (.dup, 1)) (d4 : decode cc (pc + 4) = .ok (.ldc_w is, 3)) (d7 : decode cc (pc + 7) = .ok (.invokespecial ic, 3)) (d10 : decode cc (pc + 10) = .ok (.athrow, 1)) :
    W p l e (rmX d) s m args below meth c H locs 0 0 (vx_MQ below QN (XQ g sz k μ') args s 1 6 (Aw g sz)) (F0 m pc ls rest) := by
  subst hμ
  have hS := C.2.2.2.2.2.2.2.2
  have hz := (hS.1 i hi).2.2.2.2
  rw [hio, his] at hz
  have hts := C.2.2.2.2.1
  refine ns_throwSW (A := Aw g sz) (mc := 1) (ms := 6) C.1 C.2.1 hst C.2.2.2.1 (hts _ hck) (hts _ hini) hz (fun w h => (hat w h).elim (hts w) (fun h2 => nest_use h2 (C.2.2.2.2.2.1.2.1.1 w h2))) (fun w h => ?_) hS.2.2.2.1 hS.2.2.2.2 hw.2 (by rw [C.2.2.1]; exact hsz) d0 d3 d4 d7 d10 (fun x hx => (htab x hx).elim) hRf hRl (Nat.le_refl 1) (Nat.le_refl 6) hlocks (fun t ht h1 h2 => ⟨hk.symm, ?_, ?_⟩) hw.2.2.2 (Nat.le_refl 1) (Nat.le_refl 6)
  · rcases List.mem_cons.mp h with rfl | h
    · exact gt_ot hck
    · rcases List.mem_cons.mp h with rfl | h
      · exact gt_ot hini
      · exact (hat w h).elim gt_ot nest_ot
  · intro k9 q9 h9
    exact (hw.1 k9 q9 h9).kept (h2 _ (hw.1 k9 q9 h9).lt)
  · exact xq_F C hw h1 (fun q q1 _ => h2 q q1)
theorem cX_out (C : Cx p s m args c cc nL own g (Aw g sz)) (hw : wd g μ s (Aw g sz) H locs) (htab : ∀ x ∈ c.exceptionTable.toList, False) (hlocks : meth.locks = false) {a : Array Value} {st0 : List Value} {k : Nat} (hr : vx_Run p l e R s m args below meth c H locs 0 0 1 6 (F0 m pc ls st0) rest (QN a) (XQ g H.size k μ') (Aw g H.size)) :
    W p l e R s m args below meth c H locs 0 0 (vx_MQ below QN (XQ g sz k μ') args s 1 6 (Aw g sz)) (F0 m pc ls st0) := by
  intro T hT X
  rcases hr T hT X with ⟨v, st₀, t, T', L, h0, X', hL, e1, e2, hq, st⟩ | ⟨q, st₀, t, T', L, E, ce, h0, X', hL, e1, e2, ⟨hE, hP, hz, hk⟩, hce, hcv, hcl, st⟩
  · exact hq.elim
  · rw [h0] at hz hk
    have hF := C.free hw.2
    obtain ⟨t2, a1, b1⟩ := vx_out (XC := XQ g sz k μ') (Qc := QN) (free := Aw g sz) (mc := 1) (ms := 6) (H := T'.heap) (locs := locs ++ L) (cells := 0 + 1) (slots := 0 + 6) (pc := pc) (ls := ls) (rest := rest) (E := E) (ce := ce) (q := q) (fun x hx => (htab x hx).elim) hlocks (by rw [e1]; exact hce) hcv hcl
      (fun t9 ht9 _ => ⟨hE, by rw [ht9, e1]; exact hP, xq_F C hw (by rw [ht9, e1]; exact hz) (fun q q1 q2 => by rw [ht9, e1]; exact hk q q1 q2)⟩)
      (fun z hz9 => by
        rcases List.mem_append.mp hz9 with h | h
        · exact hw.2.2.2 z h
        · exact hF _ (hL z h)) (Nat.le_refl 1) (Nat.le_refl 6) T' rfl X'
    exact ⟨t2, st.trans a1, b1⟩
theorem cVX (C : Cx p s m args c cc nL own g (Aw g sz)) (hw : wd g μ s (Aw g sz) H locs) (htab : ∀ x ∈ c.exceptionTable.toList, False) (hlocks : meth.locks = false) {y : MethodName} {cc' : ByteArray} {nL' idx n b ci d k NF : Nat} {rt : Option FieldType} {CN : String} {T : u_T} {As : List Value} (hM : CtX l g y cc' nL' rt d (.ref (g.2.2 b) :: As) μ k μ') (ml : ML own idx y cc' nL' rt n) (hi : Cond.instanceMethod y ∈ gt) (hs : Cond.selects y.cls y y ∈ gt)
    (hb : oK b = ci) (hc : vwCl[ci]? = some (CN, T, NF)) (hcn : CN = y.cls) (hci : ci < 13) (hn : As.length = n) (hsz : ls.size = nL) (hR : d + 1 ≤ R.frames ∧ 8 + (nL' + 11) + 40 * d ≤ R.locals) (hrm : (rest.map fun v => v.category).sum ≤ 8) (hcs : 0 + 1 ≤ R.cells ∧ 0 + 6 ≤ R.slots) (dec : decode cc pc = .ok (.invokevirtual idx, 3)) :
    W p l e R s m args below meth c H locs 0 0 (vx_MQ below QN (XQ g sz k μ') args s 1 6 (Aw g sz)) (F0 m pc ls (As.reverse ++ .ref (g.2.2 b) :: rest)) := by
  have hts := C.2.2.2.2.1
  subst hcn
  have hN : b < NN := oK_lt (by omega)
  have hcell := hw.1 b _ (wl_get hN)
  rw [ce_obj hb hci] at hcell
  obtain ⟨r, h1, cell, q1, q2, q3, q4⟩ := hcell
  have hr : r = (y.cls, T, NF) := Option.some.inj (h1.symm.trans hc)
  subst hr
  obtain ⟨hS, hfc, kC, hkC, hkind⟩ := C.2.2.2.2.2.1.1.1 ci _ hc
  exact cX_out C hw htab hlocks (vx_runV (C := y.cls) (b := g.2.2 b) (As := As) (rest := rest) ⟨C.1, C.2.1, C.2.2.1, C.2.2.2.1, hts⟩ (hM H.size) ⟨callB_of n hts (gt_in ml.2.1) rfl rfl rfl (hts _ ml.2.2.1) (hts _ ml.1) ml.2.2.2 hR, hts _ hi, hts _ hs⟩ ⟨Ct.blind, ⟨cell, q1, by rw [q3]; rfl, by rw [q2]; exact hfc⟩, fun U hU hW => ⟨rfl, by rw [hU], by rw [hU]; exact hw.1, Kn.moved hW C.2.2.2.2.2.1, C.S hw.2 hU hW⟩⟩ rfl hn hsz rfl (lv_room hrm) dec hcs)
theorem cSX (C : Cx p s m args c cc nL own g (Aw g sz)) (hw : wd g μ s (Aw g sz) H locs) (htab : ∀ x ∈ c.exceptionTable.toList, False) (hlocks : meth.locks = false) {y : MethodName} {cc' : ByteArray} {nL' idx n d k : Nat} {rt : Option FieldType} {As : List Value} (hM : CtX l g y cc' nL' rt d As μ k μ') (ml : ML own idx y cc' nL' rt n) (hi : Cond.static y ∈ gt)
    (hn : As.length = n) (hsz : ls.size = nL) (hR : d + 1 ≤ R.frames ∧ 8 + (nL' + 11) + 40 * d ≤ R.locals) (hrm : (rest.map fun v => v.category).sum ≤ 8) (hcs : 0 + 1 ≤ R.cells ∧ 0 + 6 ≤ R.slots) (dec : decode cc pc = .ok (.invokestatic idx, 3)) :
    W p l e R s m args below meth c H locs 0 0 (vx_MQ below QN (XQ g sz k μ') args s 1 6 (Aw g sz)) (F0 m pc ls (As.reverse ++ rest)) := by
  have hts := C.2.2.2.2.1
  exact cX_out C hw htab hlocks (vx_runS (As := As) (rest := rest) ⟨C.1, C.2.1, C.2.2.1, C.2.2.2.1, hts⟩ (hM H.size) ⟨callB_of n hts (gt_in ml.2.1) rfl rfl rfl (hts _ ml.2.2.1) (hts _ ml.1) ml.2.2.2 hR, hts _ hi⟩ ⟨Ct.blind, fun U hU hW => ⟨rfl, by rw [hU], by rw [hU]; exact hw.1, Kn.moved hW C.2.2.2.2.2.1, C.S hw.2 hU hW⟩⟩ rfl hn hsz rfl (lv_room hrm) dec hcs)
end FX
/-- a call that may throw -/
def thr {T U : Type} (x : Option ((T ⊕ Nat) × Mu)) (f : T → Mu → Option ((U ⊕ Nat) × Mu)) : Option ((U ⊕ Nat) × Mu) := match x with
  | none => none
  | some (.inl v, μ) => f v μ
  | some (.inr k, μ) => some (.inr k, μ)
theorem thr_cs {T U : Type} {x : Option ((T ⊕ Nat) × Mu)} {f : T → Mu → Option ((U ⊕ Nat) × Mu)} {r : (U ⊕ Nat) × Mu} (h : thr x f = some r) : (∃ k μ, x = some (.inr k, μ) ∧ some (Sum.inr k, μ) = some r) ∨ ∃ v μ, x = some (.inl v, μ) ∧ f v μ = some r := by
  unfold thr at h
  match x, h with
  | some (.inl v, μ), h => exact Or.inr ⟨v, μ, rfl, h⟩
  | some (.inr k, μ), h => exact Or.inl ⟨k, μ, rfl, h⟩
theorem thr_rt {T U : Type} {x : Option ((T ⊕ Nat) × Mu)} {f : T → Mu → Option ((U ⊕ Nat) × Mu)} {u : U} {μ' : Mu} (h : thr x f = some (.inl u, μ')) : ∃ v μ, x = some (.inl v, μ) ∧ f v μ = some (.inl u, μ') := by
  rcases thr_cs h with ⟨k, μ, h1, h2⟩ | h
  · cases h2
  · exact h
theorem inlI {T : Type} {v v' : T} {μ μ' : Mu} (h : some ((Sum.inl v : T ⊕ Nat), μ) = some (Sum.inl v', μ')) : v = v' ∧ μ = μ' := by
  cases h
  exact ⟨rfl, rfl⟩
theorem inrI {T : Type} {k k' : Nat} {μ μ' : Mu} (h : some ((Sum.inr k : T ⊕ Nat), μ) = some (Sum.inr k', μ')) : k = k' ∧ μ = μ' := by
  cases h
  exact ⟨rfl, rfl⟩
theorem xat0 : ∀ w ∈ nsAt RX11 141, w ∈ gt ∨ w ∈ nestW := hat_of _ (by decide +kernel) (by decide +kernel)
theorem xcl0 : Cond.classLink RX11 137 "java/util/NoSuchElementException" ∈ gt := gi5 85 rfl rfl
theorem xin0 : Cond.initialized "java/util/NoSuchElementException" ∈ gt := gi1 24 rfl rfl
theorem xft0 : Bundle.fit "java/util/NoSuchElementException" = true := by decide
theorem xat1 : ∀ w ∈ vx_atS RX11 111 "java/lang/IllegalArgumentException" ["java/lang/RuntimeException", "java/lang/Exception"], w ∈ gt ∨ w ∈ nestW := hat_of _ (by decide +kernel) (by decide +kernel)
theorem xcl1 : Cond.classLink RX11 107 "java/lang/IllegalArgumentException" ∈ gt := gi4 101 rfl rfl
theorem xin1 : Cond.initialized "java/lang/IllegalArgumentException" ∈ gt := gi1 18 rfl rfl
theorem xft1 : Bundle.fit "java/lang/IllegalArgumentException" = true := by decide
theorem xat2 : ∀ w ∈ vx_atS RX11 185 "java/lang/IllegalStateException" ["java/lang/RuntimeException", "java/lang/Exception"], w ∈ gt ∨ w ∈ nestW := hat_of _ (by decide +kernel) (by decide +kernel)
theorem xcl2 : Cond.classLink RX11 181 "java/lang/IllegalStateException" ∈ gt := gi5 126 rfl rfl
theorem xin2 : Cond.initialized "java/lang/IllegalStateException" ∈ gt := gi1 25 rfl rfl
theorem xft2 : Bundle.fit "java/lang/IllegalStateException" = true := by decide
theorem xat3 : ∀ w ∈ vx_atS RX11 250 "java/lang/IndexOutOfBoundsException" ["java/lang/RuntimeException", "java/lang/Exception"], w ∈ gt ∨ w ∈ nestW := hat_of _ (by decide +kernel) (by decide +kernel)
theorem xcl3 : Cond.classLink RX11 248 "java/lang/IndexOutOfBoundsException" ∈ gt := gi5 191 rfl rfl
theorem xin3 : Cond.initialized "java/lang/IndexOutOfBoundsException" ∈ gt := gi1 26 rfl rfl
theorem xft3 : Bundle.fit "java/lang/IndexOutOfBoundsException" = true := by decide
theorem xnm : ∀ n ∈ ["java/lang/RuntimeException", "java/lang/Exception"], Bundle.fit n = true := by decide
