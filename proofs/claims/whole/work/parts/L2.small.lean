/-! the rules and the ground: five cells as a world of their own -/
abbrev sIn (o : Nat) : Prop := 1 ≤ o ∧ o ≤ 5
def swl (g : Gw) (μ : Mu) : va_W := (List.range 5).map (fun i => (g.2.2 (i + 1), ce g μ (i + 1)))
theorem swl_get {g : Gw} {μ : Mu} {i : Nat} (h : sIn i) : (swl g μ)[i - 1]? = some (g.2.2 i, ce g μ i) := by
  have h1 : i - 1 < 5 := by have := h.1; have := h.2; omega
  have h2 : i - 1 + 1 = i := by have := h.1; omega
  simp [swl, h1, h2]
theorem swl_inv {g : Gw} {μ : Mu} {k : Nat} {q : Nat × va_E} (h : (swl g μ)[k]? = some q) : sIn (k + 1) ∧ q = (g.2.2 (k + 1), ce g μ (k + 1)) := by
  have hi : k < 5 := by
    have := (List.getElem?_eq_some_iff.mp h).1
    simpa [swl] using this
  have hs : sIn (k + 1) := ⟨by omega, by omega⟩
  have := swl_get (g := g) (μ := μ) hs
  rw [Nat.add_sub_cancel, h] at this
  exact ⟨hs, Option.some.inj this⟩
theorem swl_D {g : Gw} {μ : Mu} {A : Nat → Prop} (hi : ∀ i j, i < NN → j < NN → g.2.2 i = g.2.2 j → i = j) (hA : ∀ i, sIn i → A (g.2.2 i)) : va_D A (swl g μ) := by
  refine ⟨fun i j p q hp hq e => ?_, fun k q h => ?_⟩
  · obtain ⟨h1, rfl⟩ := swl_inv hp
    obtain ⟨h2, rfl⟩ := swl_inv hq
    have := hi (i + 1) (j + 1) (Nat.lt_of_le_of_lt h1.2 (by decide)) (Nat.lt_of_le_of_lt h2.2 (by decide)) e
    omega
  · obtain ⟨h1, rfl⟩ := swl_inv h
    exact hA (k + 1) h1
theorem swl_set {g : Gw} {μ μ' : Mu} {i : Nat} {x : va_E} (hs : sIn i) (hx : ce g μ' i = x) (ho : ∀ j, j ≠ i → ce g μ' j = ce g μ j) : (swl g μ).set (i - 1) (g.2.2 i, x) = swl g μ' := by
  have hb1 := hs.1
  have hb2 := hs.2
  apply List.ext_getElem?
  intro j
  by_cases hj : j < 5
  · have hsj : sIn (j + 1) := ⟨by omega, by omega⟩
    have gj : ∀ ν : Mu, (swl g ν)[j]? = some (g.2.2 (j + 1), ce g ν (j + 1)) := fun ν => by
      have := swl_get (g := g) (μ := ν) hsj
      rwa [Nat.add_sub_cancel] at this
    by_cases e : i - 1 = j
    · subst e
      rw [List.getElem?_set_self (by simpa [swl] using hj), swl_get hs, hx]
    · rw [List.getElem?_set_ne e, gj, gj, ho (j + 1) (by omega)]
  · have h1 : 5 ≤ j := Nat.le_of_not_lt hj
    rw [List.getElem?_eq_none (by simpa [swl] using h1), List.getElem?_eq_none (by simpa [swl] using h1)]
def sAw (g : Gw) (sz : Nat) : Nat → Prop := fun q => (∃ i, sIn i ∧ q = g.2.2 i) ∨ sz ≤ q
def sCx (p : Program) (s : State) (m : MethodId) (args : Array Value) (c : Code) (cc : ByteArray) (nL : Nat) (own : String) (g : Gw) (A : Nat → Prop) : Prop :=
  p.tables.exec = Jvm.exec ∧ c.code = cc ∧ c.maxLocals = nL ∧ s.vm.findClass own = some m.cls ∧ (∀ w ∈ gt, w.before args s = true) ∧ Kn g s ∧ (∀ i, sIn i → A (g.2.2 i)) ∧ (∀ q, s.heap.size ≤ q → A q)
def swd (g : Gw) (μ : Mu) (s : State) (A : Nat → Prop) (H : Heap) (locs : List Loc) : Prop := va_P g.1 vwCl (swl g μ) H ∧ va_S A s.heap H locs
section SW
variable {p : Program} {l : Launch} {e : Env} {R : Room} {s : State} {m : MethodId} {args : Array Value} {below : List Frame} {meth : Method} {c : Code} {H : Heap} {locs : List Loc} {cells slots : Nat} {Q : State → Prop}
variable {cc : ByteArray} {pc nL : Nat} {ls : Array Slot} {rest : List Value} {own : String} {g : Gw} {A : Nat → Prop} {μ : Mu}
theorem sgI (C : sCx p s m args c cc nL own g A) (hw : swd g μ s A H locs) {o ci k idx NF : Nat} {CN : String} {T : u_T} (fl : FL own idx ci k CN T NF) (ho : oK o = ci) (hr : fR ci k = false) (hs : sIn o) (dec : decode cc pc = .ok (.getfield idx, 3))
    (kk : W p l e R s m args below meth c H locs cells slots Q (F0 m (pc + 3) ls (.int (μ.1 o k) :: rest))) : W p l e R s m args below meth c H locs cells slots Q (F0 m pc ls (.ref (g.2.2 o) :: rest)) := by
  obtain ⟨h1, h2, h3, h4, h5, h6⟩ := fl
  refine va_get (D := g.1) (cl := vwCl) (tys := tyL g) (ws := swl g μ) (ci := ci) (v := .int (μ.1 o k)) (C := CN) (T := T) (N := NF) C.1 C.2.1 C.2.2.2.2.1 h5 C.2.2.2.1 C.2.2.2.2.2.1.1 hw.1 (o - 1) (fs := fvl g μ o ci) ?_ h1 k (by omega) (C.2.2.2.2.1 _ h6) (fun _ h9 => h9) (fvl_get h3 hr) dec kk
  rw [swl_get hs, ce_obj ho h2]
theorem sgR (C : sCx p s m args c cc nL own g A) (hw : swd g μ s A H locs) {o ci k idx NF t : Nat} {CN : String} {T : u_T} (fl : FL own idx ci k CN T NF) (ho : oK o = ci) (hr : fR ci k = true) (ht : oT o k = t) (hs : sIn o) (dec : decode cc pc = .ok (.getfield idx, 3))
    (kk : W p l e R s m args below meth c H locs cells slots Q (F0 m (pc + 3) ls (.ref (g.2.2 t) :: rest))) : W p l e R s m args below meth c H locs cells slots Q (F0 m pc ls (.ref (g.2.2 o) :: rest)) := by
  obtain ⟨h1, h2, h3, h4, h5, h6⟩ := fl
  subst ht
  refine va_get (D := g.1) (cl := vwCl) (tys := tyL g) (ws := swl g μ) (ci := ci) (v := .ref (g.2.2 (oT o k))) (C := CN) (T := T) (N := NF) C.1 C.2.1 C.2.2.2.2.1 h5 C.2.2.2.1 C.2.2.2.2.2.1.1 hw.1 (o - 1) (fs := fvl g μ o ci) ?_ h1 k (by omega) (C.2.2.2.2.1 _ h6) (fun _ h9 => h9) (fvl_ref h3 hr) dec kk
  rw [swl_get hs, ce_obj ho h2]
theorem sCx.D (C : sCx p s m args c cc nL own g A) : va_D A (swl g μ) := swl_D C.2.2.2.2.2.1.2.2 C.2.2.2.2.2.2.1
theorem spV (C : sCx p s m args c cc nL own g A) (hw : swd g μ s A H locs) {o ci k idx NF : Nat} {CN : String} {T : u_T} {ty : Nat → FieldType} {t : FieldType} {v : Int32} (fl : FL own idx ci k CN T NF) (fp : FP ci k T NF ty t) (ho : oK o = ci) (hn : narrow t (.int v) = .int v) (hf : fits t (.int v) = true) (hs : sIn o) (dec : decode cc pc = .ok (.putfield idx, 3))
    (kk : ∀ (H1 : Heap) (locs1 : List Loc), swd g (si μ o k v) s A H1 locs1 → W p l e R s m args below meth c H1 locs1 cells slots Q (F0 m (pc + 3) ls rest)) : W p l e R s m args below meth c H locs cells slots Q (F0 m pc ls (.int v :: .ref (g.2.2 o) :: rest)) := by
  obtain ⟨h1, h2, h3, h4, h5, h6⟩ := fl
  obtain ⟨f1, f2, f3, f4, f5⟩ := fp
  refine va_put (D := g.1) (cl := vwCl) (tys := tyL g) (ws := swl g μ) (ci := ci) (v := .int v) (ty := t) (C := CN) (T := T) (N := NF) C.1 C.2.1 C.2.2.2.2.1 h5 ty f2 f3 C.2.2.2.1 C.2.2.2.2.2.1.1 hw.1 C.D hw.2 (o - 1) (fs := fvl g μ o ci) ?_ h1 k (by omega) (C.2.2.2.2.1 _ h6) (fun _ h9 => h9) f1 f4 hn hf (by rw [fvl_len]; exact h3) dec (fun H1 locs1 hP hD hS => kk H1 locs1 ⟨?_, hS⟩)
  · rw [swl_get hs, ce_obj ho h2]
  · rw [fvl_set h3 f5, swl_set (μ' := si μ o k v) hs (ce_obj ho h2) (fun j hj => ce_si hj)] at hP
    exact hP
theorem spI (C : sCx p s m args c cc nL own g A) (hw : swd g μ s A H locs) {o ci k idx NF : Nat} {CN : String} {T : u_T} {ty : Nat → FieldType} {v : Int32} (fl : FL own idx ci k CN T NF) (fp : FP ci k T NF ty .int) (ho : oK o = ci) (hs : sIn o) (dec : decode cc pc = .ok (.putfield idx, 3))
    (kk : ∀ (H1 : Heap) (locs1 : List Loc), swd g (si μ o k v) s A H1 locs1 → W p l e R s m args below meth c H1 locs1 cells slots Q (F0 m (pc + 3) ls rest)) : W p l e R s m args below meth c H locs cells slots Q (F0 m pc ls (.int v :: .ref (g.2.2 o) :: rest)) := spV C hw fl fp ho rfl rfl hs dec kk
theorem spZ (C : sCx p s m args c cc nL own g A) (hw : swd g μ s A H locs) {o ci k idx NF : Nat} {CN : String} {T : u_T} {ty : Nat → FieldType} {v : Int32} (fl : FL own idx ci k CN T NF) (fp : FP ci k T NF ty .boolean) (ho : oK o = ci) (hv : v = 0 ∨ v = 1) (hs : sIn o) (dec : decode cc pc = .ok (.putfield idx, 3))
    (kk : ∀ (H1 : Heap) (locs1 : List Loc), swd g (si μ o k v) s A H1 locs1 → W p l e R s m args below meth c H1 locs1 cells slots Q (F0 m (pc + 3) ls rest)) : W p l e R s m args below meth c H locs cells slots Q (F0 m pc ls (.int v :: .ref (g.2.2 o) :: rest)) := by
  refine spV C hw fl fp ho ?_ ?_ hs dec kk <;> rcases hv with rfl | rfl <;> rfl
theorem slI (C : sCx p s m args c cc nL own g A) (hw : swd g μ s A H locs) {o n j : Nat} {i : Int32} (ho : oK o = 20) (hn : oN o = n) (hi : vp_in i n) (hj : i.toNatClampNeg = j) (hs : sIn o) (dec : decode cc pc = .ok (.iaload, 1))
    (kk : W p l e R s m args below meth c H locs cells slots Q (F0 m (pc + 1) ls (.int (μ.1 o j) :: rest))) : W p l e R s m args below meth c H locs cells slots Q (F0 m pc ls (.int i :: .ref (g.2.2 o) :: rest)) := by
  subst hj
  subst hn
  exact va_iald (D := g.1) (cl := vwCl) (tys := tyL g) (ws := swl g μ) C.1 C.2.1 C.2.2.2.2.2.1.1 hw.1 (o - 1) 0 (by rw [swl_get hs, ce_int ho]) rfl hi dec kk
theorem ssI (C : sCx p s m args c cc nL own g A) (hw : swd g μ s A H locs) {o n j : Nat} {i x : Int32} (ho : oK o = 20) (hn : oN o = n) (hi : vp_in i n) (hj : i.toNatClampNeg = j) (hs : sIn o) (dec : decode cc pc = .ok (.iastore, 1))
    (kk : ∀ (H1 : Heap) (locs1 : List Loc), swd g (si μ o j x) s A H1 locs1 → W p l e R s m args below meth c H1 locs1 cells slots Q (F0 m (pc + 1) ls rest)) : W p l e R s m args below meth c H locs cells slots Q (F0 m pc ls (.int x :: .int i :: .ref (g.2.2 o) :: rest)) := by
  subst hj
  subst hn
  refine va_iast (D := g.1) (cl := vwCl) (tys := tyL g) (ws := swl g μ) C.1 C.2.1 C.2.2.2.2.2.1.1 hw.1 C.D hw.2 (o - 1) 0 (by rw [swl_get hs, ce_int ho]) rfl hi dec (fun H1 locs1 hP hD hS => kk H1 locs1 ⟨?_, hS⟩)
  rw [swl_set (μ' := si μ o i.toNatClampNeg x) hs (by rw [ce_int ho]; simp [si]) (fun j hj => ce_si hj)] at hP
  exact hP
end SW
def sCt (l : Launch) (g : Gw) (y : MethodName) (cc : ByteArray) (nL : Nat) (rt : Option FieldType) (d : Nat) (av : List Value) (μ : Mu) (o : Option Value) (μ' : Mu) : Prop :=
  ∀ sz : Nat, Met l y (Cond.code y cc nL rt :: gt) (rmD d) (va_Pc av (fun U => U.heap.size = sz ∧ va_P g.1 vwCl (swl g μ) U.heap ∧ Kn g U)) (fun _ st oc t => oc = .returned o ∧ va_P g.1 vwCl (swl g μ') t.heap ∧ va_F (sAw g sz) st t) 0 0 (sAw g sz)
def sQf (g : Gw) (sz : Nat) (o : Option Value) (μ' : Mu) : Array Value → State → Outcome → State → Prop := fun _ st oc t => oc = .returned o ∧ va_P g.1 vwCl (swl g μ') t.heap ∧ va_F (sAw g sz) st t
abbrev sWQ (p : Program) (l : Launch) (e : Env) (R : Room) (s : State) (m : MethodId) (args : Array Value) (below : List Frame) (meth : Method) (c : Code) (g : Gw) (o : Option Value) (μ' : Mu) (H : Heap) (locs : List Loc) (fr : JFrame) : Prop := W p l e R s m args below meth c H locs 0 0 (MQ below (sQf g s.heap.size o μ') args s 0 0 (sAw g s.heap.size)) fr
theorem sCt.of {l : Launch} {g : Gw} {y : MethodName} {cc : ByteArray} {nL : Nat} {rt : Option FieldType} {d : Nat} {av : List Value} {μ : Mu} {o : Option Value} {μ' : Mu} (hy : plainName y.cls = true) (hlen : (lg_sl av).length ≤ nL)
    (body : ∀ (p : Program) (e : Env) (s : State) (m : MethodId) (args : Array Value) (below : List Frame) (meth : Method) (c : Code) (ls : Array Slot), sCx p s m args c cc nL y.cls g (sAw g s.heap.size) → swd g μ s (sAw g s.heap.size) s.heap [] → meth.sig.returnType = rt → meth.locks = false → lv_has ls nL (lv_args 0 av) →
      sWQ p l e (rmD d) s m args below meth c g o μ' s.heap [] (F0 m 0 ls [])) : sCt l g y cc nL rt d av μ o μ' := by
  intro sz
  refine Met.ofW (cc := cc) (maxL := nL) (ret := rt) hy rfl ?_
  intro p e s m args below meth c s₁ B hml hv
  obtain ⟨rfl, hsz, hP, hK⟩ := hv
  subst hsz
  have hts := atoms_spec (ws := Cond.code y cc nL rt :: gt) B.pre
  have hown : s.vm.findClass y.cls = some m.cls := findClass_of_methodNamed B.named
  have hl := lv_entry av (n := nL) hlen
  rw [lg_entry_eq]
  refine body p e s m _ below meth c _ ⟨B.exec, B.bytes, hml, hown, fun w hw => hts w (List.mem_cons_of_mem _ hw), hK, fun i hi => Or.inl ⟨i, hi, rfl⟩, fun q hq => Or.inr hq⟩ ⟨hP, va_S.rf⟩ B.returns B.notSynchronized hl
section SR
variable {p : Program} {l : Launch} {e : Env} {R : Room} {s : State} {m : MethodId} {args : Array Value} {below : List Frame} {meth : Method} {c : Code} {H : Heap} {locs : List Loc} {cells slots : Nat}
variable {cc : ByteArray} {pc nL : Nat} {ls : Array Slot} {own : String} {g : Gw} {μ μ' : Mu} {sz : Nat} {o : Option Value}
theorem srI (C : sCx p s m args c cc nL own g (sAw g sz)) (hw : swd g μ s (sAw g sz) H locs) (hr : meth.sig.returnType = some .int) (hlocks : meth.locks = false) {v : Int32} (ho : some (.int v) = o) (hμ : μ = μ') (dec : decode cc pc = .ok (.ireturn, 1)) : W p l e R s m args below meth c H locs cells slots (MQ below (sQf g sz o μ') args s cells slots (sAw g sz)) (F0 m pc ls [.int v]) := by
  subst hμ; subst ho
  exact W.iret (v := v) C.1 C.2.1 hr (fun t ht hW => ⟨rfl, by rw [ht]; exact hw.1, hw.2.F ht⟩) hw.2.2.2 dec
theorem srZ (C : sCx p s m args c cc nL own g (sAw g sz)) (hw : swd g μ s (sAw g sz) H locs) (hr : meth.sig.returnType = some .boolean) (hlocks : meth.locks = false) {v : Int32} (hv : v = 0 ∨ v = 1) (ho : some (.int v) = o) (hμ : μ = μ') (dec : decode cc pc = .ok (.ireturn, 1)) : W p l e R s m args below meth c H locs cells slots (MQ below (sQf g sz o μ') args s cells slots (sAw g sz)) (F0 m pc ls [.int v]) := by
  subst hμ; subst ho
  exact W.zret (v := v) (ty := .boolean) C.1 C.2.1 hr (by rcases hv with rfl | rfl <;> rfl) (fun t ht hW => ⟨rfl, by rw [ht]; exact hw.1, hw.2.F ht⟩) hw.2.2.2 dec
theorem srV (C : sCx p s m args c cc nL own g (sAw g sz)) (hw : swd g μ s (sAw g sz) H locs) (hr : meth.sig.returnType = none) (hlocks : meth.locks = false) (ho : none = o) (hμ : μ = μ') (dec : decode cc pc = .ok (.return_, 1)) : W p l e R s m args below meth c H locs cells slots (MQ below (sQf g sz o μ') args s cells slots (sAw g sz)) (F0 m pc ls []) := by
  subst hμ; subst ho
  exact W.vret C.1 C.2.1 hr (fun t ht hW => ⟨rfl, by rw [ht]; exact hw.1, hw.2.F ht⟩) hw.2.2.2 dec
end SR
section SC
variable {p : Program} {l : Launch} {e : Env} {R : Room} {s : State} {m : MethodId} {args : Array Value} {below : List Frame} {meth : Method} {c : Code} {H : Heap} {locs : List Loc} {cells slots : Nat} {Q : State → Prop}
variable {cc : ByteArray} {pc nL : Nat} {ls : Array Slot} {rest : List Value} {own : String} {g : Gw} {A : Nat → Prop} {μ μ' : Mu} {o : Option Value}
theorem sCt.blind {sz : Nat} {av : List Value} : FrameBlind (va_Pc av (fun U => U.heap.size = sz ∧ va_P g.1 vwCl (swl g μ) U.heap ∧ Kn g U)) := fun a U g9 mk h => ⟨h.1, h.2.1, h.2.2.1, Kn.same (s := U) (U := U.calling g9 mk a) rfl h.2.2.2⟩
theorem sCx.free (C : sCx p s m args c cc nL own g A) (hS : va_S A s.heap H locs) : ∀ q, sAw g H.size q → A q := fun q h => by
  rcases h with ⟨i, hi, rfl⟩ | h
  · exact C.2.2.2.2.2.2.1 i hi
  · exact C.2.2.2.2.2.2.2 q (Nat.le_trans hS.1 h)
theorem scl_go (C : sCx p s m args c cc nL own g A) (hw : swd g μ s A H locs) {a : Array Value} {st0 : List Value} (hr : va_Run p l e R s m args below meth c H locs cells slots 0 0 (F0 m pc ls st0) rest (sQf g H.size o μ' a) (sAw g H.size))
    (kk : ∀ (H1 : Heap) (locs1 : List Loc), swd g μ' s A H1 locs1 → W p l e R s m args below meth c H1 locs1 cells slots Q (F0 m (pc + 3) ls (o.toList ++ rest))) : W p l e R s m args below meth c H locs cells slots Q (F0 m pc ls st0) := by
  intro T hT X
  obtain ⟨v, st₀, t, T', L, h0, X', hL, e1, e2, ⟨hv, hP, hz, hk⟩, st⟩ := hr T hT X
  cases hv
  rw [h0] at hz hk
  have hF := C.free hw.2
  obtain ⟨t2, a1, b1⟩ := kk T'.heap (locs ++ L) ⟨by rw [e1]; exact hP, ⟨Nat.le_trans hw.2.1 (by rw [e1]; exact hz), fun q h1 h2 => by rw [e1, hk q (Nat.lt_of_lt_of_le h1 hw.2.1) (fun z => h2 (hF q z))]; exact hw.2.2.1 q h1 h2, fun q hq => by
      rcases List.mem_append.mp hq with h | h
      · exact hw.2.2.2 q h
      · exact hF _ (hL q h)⟩⟩ T' rfl X'
  exact ⟨t2, st t2 a1, b1⟩
theorem scV (C : sCx p s m args c cc nL own g A) (hw : swd g μ s A H locs) {y : MethodName} {cc' : ByteArray} {nL' idx n b ci d NF : Nat} {rt : Option FieldType} {CN : String} {T : u_T} {As st1 : List Value} (hM : sCt l g y cc' nL' rt d (.ref (g.2.2 b) :: As) μ o μ') (ml : ML own idx y cc' nL' rt n) (hi : Cond.instanceMethod y ∈ gt) (hsl : Cond.selects y.cls y y ∈ gt)
    (hb : oK b = ci) (hc : vwCl[ci]? = some (CN, T, NF)) (hcn : CN = y.cls) (hci : ci < 13) (hn : As.length = n) (hsz : ls.size = nL) (hR : d + 1 ≤ R.frames ∧ 8 + (nL' + 11) + 40 * d ≤ R.locals) (hrm : (rest.map fun v => v.category).sum ≤ 8) (hcs : cells ≤ R.cells ∧ slots ≤ R.slots) (hst : o.toList ++ rest = st1) (hs : sIn b) (dec : decode cc pc = .ok (.invokevirtual idx, 3))
    (kk : ∀ (H1 : Heap) (locs1 : List Loc), swd g μ' s A H1 locs1 → W p l e R s m args below meth c H1 locs1 cells slots Q (F0 m (pc + 3) ls st1)) : W p l e R s m args below meth c H locs cells slots Q (F0 m pc ls (As.reverse ++ .ref (g.2.2 b) :: rest)) := by
  subst hst
  have hts := C.2.2.2.2.1
  subst hcn
  have hcell := hw.1 (b - 1) _ (swl_get hs)
  rw [ce_obj hb hci] at hcell
  obtain ⟨r, h1, cell, q1, q2, q3, q4⟩ := hcell
  have hr : r = (y.cls, T, NF) := Option.some.inj (h1.symm.trans hc)
  subst hr
  obtain ⟨hS, hfc, kC, hkC, hkind⟩ := C.2.2.2.2.2.1.1.1 ci _ hc
  refine scl_go C hw (va_runV (C := y.cls) (b := g.2.2 b) (As := As) (rest := rest) ⟨C.1, C.2.1, C.2.2.1, C.2.2.2.1, hts⟩ (hM H.size) ⟨callB_of n hts (gt_in ml.2.1) rfl rfl rfl (hts _ ml.2.2.1) (hts _ ml.1) ml.2.2.2 hR, hts _ hi, hts _ hsl⟩ ⟨sCt.blind, ⟨cell, q1, by rw [q3]; rfl, by rw [q2]; exact hfc⟩, fun U hU hW => ⟨rfl, by rw [hU], by rw [hU]; exact hw.1, Kn.moved hW C.2.2.2.2.2.1⟩⟩ rfl hn hsz rfl (lv_room hrm) dec hcs) kk
end SC
set_option maxRecDepth 100000 in
set_option maxHeartbeats 4000000 in
theorem sc_X5_isLacking (l : Launch) (g : Gw) (n : Nat) (v1 : Int32) (μ : Mu) (r : Int32 × Mu) (h : X5_isLacking n 1 v1 μ = some r) : sCt l g yX5_isLacking cX5_isLacking 2 (some .boolean) 0 [.ref (g.2.2 1), .int v1] μ (some (.int r.1)) r.2 := by
  rw [X5_isLacking] at h
  obtain ⟨hk0, h⟩ := kd_some h
  refine sCt.of (by decide) (Nat.le_of_ble_eq_true rfl) ?_
  intro p e s m args below meth c ls hC hw hr hlocks hl
  have hx := hC.1
  have hb := hC.2.1
  have hl : lv_has ls 2 [(0, .ref (g.2.2 1)), (1, .int v1)] := hl
  have B17 : ∀ (s0 : Int32) (μ : Mu) (H : Heap) (locs : List Loc) (ls : Array Slot), swd g μ s (sAw g s.heap.size) H locs → lv_has ls 2 [] → X5_isLacking_17 n 1 v1 s0 μ = some r → sWQ p l e (rmD 0) s m args below meth c g (some (.int r.1)) r.2 H locs (F0 m 17 ls [.int s0]) := by
    intro s0 μ H locs ls hw hl h
    rw [X5_isLacking_17] at h
    obtain ⟨hz17, h⟩ := bz_some h
    exact srZ hC hw hr hlocks hz17 (by rw [← Option.some.inj h]) (by rw [← Option.some.inj h]) dX5_isLacking_17
  refine lv_aload_n hx hb dX5_isLacking_0 rfl (lv_at hl 0 rfl) ?_
  refine sgI hC hw fl_X5_21 hk0 (by decide) (by decide) dX5_isLacking_1 ?_
  refine lv_iload_n hx hb dX5_isLacking_4 rfl (lv_at hl 1 rfl) ?_
  refine lv_iushr hx hb dX5_isLacking_5 rfl ?_
  refine lv_iconst (v := (1 : Int32)) hx hb dX5_isLacking_6 (by decide) ?_
  refine lv_iand hx hb dX5_isLacking_7 ?_
  refine lv_iconst (v := (1 : Int32)) hx hb dX5_isLacking_8 (by decide) ?_
  refine lv_icmp_ne (tgt := 16) hx hb dX5_isLacking_9 (by decide) (fun hc => ?_) (fun hc => ?_)
  · rw [if_neg hc] at h
    refine lv_iconst (v := (0 : Int32)) hx hb dX5_isLacking_16 (by decide) ?_
    exact B17 (0 : Int32) μ _ _ _ hw (lv_sub hl [] rfl) h
  · rw [if_pos hc] at h
    refine lv_iconst (v := (1 : Int32)) hx hb dX5_isLacking_12 (by decide) ?_
    refine lv_goto (tgt := 17) hx hb dX5_isLacking_13 (by decide) ?_
    exact B17 (1 : Int32) μ _ _ _ hw (lv_sub hl [] rfl) h
set_option maxRecDepth 100000 in
set_option maxHeartbeats 4000000 in
theorem sc_X1_pitAsSeen (l : Launch) (g : Gw) (n : Nat) (v1 : Int32) (v2 : Int32) (μ : Mu) (r : Int32 × Mu) (h : X1_pitAsSeen n v1 v2 μ = some r) : sCt l g yX1_pitAsSeen cX1_pitAsSeen 4 (some .int) 0 [.ref (g.2.2 2), .int v1, .int v2] μ (some (.int r.1)) r.2 := by
  rw [X1_pitAsSeen] at h
  refine sCt.of (by decide) (Nat.le_of_ble_eq_true rfl) ?_
  intro p e s m args below meth c ls hC hw hr hlocks hl
  have hx := hC.1
  have hb := hC.2.1
  have hl : lv_has ls 4 [(0, .ref (g.2.2 2)), (1, .int v1), (2, .int v2)] := hl
  have B40 : ∀ (s0 : Int32) (μ : Mu) (H : Heap) (locs : List Loc) (ls : Array Slot), swd g μ s (sAw g s.heap.size) H locs → lv_has ls 4 [] → X1_pitAsSeen_40 n v1 v2 s0 μ = some r → sWQ p l e (rmD 0) s m args below meth c g (some (.int r.1)) r.2 H locs (F0 m 40 ls [.int s0]) := by
    intro s0 μ H locs ls hw hl h
    rw [X1_pitAsSeen_40] at h
    exact srI hC hw hr hlocks (by rw [← Option.some.inj h]) (by rw [← Option.some.inj h]) dX1_pitAsSeen_40
  refine lv_iload_n hx hb dX1_pitAsSeen_0 rfl (lv_at hl 1 rfl) ?_
  refine lv_aload_n hx hb dX1_pitAsSeen_1 rfl (lv_at hl 0 rfl) ?_
  refine sgR (t := 1) hC hw fl_X1_21 ok2 (by decide) ot2_4 (by decide) dX1_pitAsSeen_2 ?_
  refine sgI hC hw fl_X1_66 ok1 (by decide) (by decide) dX1_pitAsSeen_5 ?_
  refine lv_imul hx hb dX1_pitAsSeen_8 ?_
  refine lv_iload_n hx hb dX1_pitAsSeen_9 rfl (lv_at hl 2 rfl) ?_
  refine lv_iadd hx hb dX1_pitAsSeen_10 ?_
  refine lv_istore_n (lv' := [(3, .int ((v1 * (μ.1 1 1)) + v2)), (0, .ref (g.2.2 2)), (1, .int v1), (2, .int v2)]) hx hb dX1_pitAsSeen_11 rfl hl (by decide) rfl (fun ls hl => ?_)
  refine lv_iload_n hx hb dX1_pitAsSeen_12 rfl (lv_at hl 0 rfl) ?_
  refine lv_iconst (v := (2 : Int32)) hx hb dX1_pitAsSeen_13 (by decide) ?_
  refine lv_aload_n hx hb dX1_pitAsSeen_14 rfl (lv_at hl 1 rfl) ?_
  refine sgR (t := 1) hC hw fl_X1_21 ok2 (by decide) ot2_4 (by decide) dX1_pitAsSeen_15 ?_
  refine sgI hC hw fl_X1_66 ok1 (by decide) (by decide) dX1_pitAsSeen_18 ?_
  refine lv_imul hx hb dX1_pitAsSeen_21 ?_
  refine lv_icmp_ge (tgt := 29) hx hb dX1_pitAsSeen_22 (by decide) (fun hc => ?_) (fun hc => ?_)
  · rw [if_pos hc] at h
    refine lv_iload_n hx hb dX1_pitAsSeen_29 rfl (lv_at hl 0 rfl) ?_
    refine lv_iconst (v := (2 : Int32)) hx hb dX1_pitAsSeen_30 (by decide) ?_
    refine lv_aload_n hx hb dX1_pitAsSeen_31 rfl (lv_at hl 1 rfl) ?_
    refine sgR (t := 1) hC hw fl_X1_21 ok2 (by decide) ot2_4 (by decide) dX1_pitAsSeen_32 ?_
    refine sgI hC hw fl_X1_66 ok1 (by decide) (by decide) dX1_pitAsSeen_35 ?_
    refine lv_imul hx hb dX1_pitAsSeen_38 ?_
    refine lv_isub hx hb dX1_pitAsSeen_39 ?_
    exact B40 (((v1 * (μ.1 1 1)) + v2) - ((2 : Int32) * (μ.1 1 1))) μ _ _ _ hw (lv_sub hl [] rfl) h
  · rw [if_neg hc] at h
    refine lv_iload_n hx hb dX1_pitAsSeen_25 rfl (lv_at hl 0 rfl) ?_
    refine lv_goto (tgt := 40) hx hb dX1_pitAsSeen_26 (by decide) ?_
    exact B40 ((v1 * (μ.1 1 1)) + v2) μ _ _ _ hw (lv_sub hl [] rfl) h
set_option maxRecDepth 100000 in
set_option maxHeartbeats 4000000 in
theorem sc_X1_cellOnWay (l : Launch) (g : Gw) (n : Nat) (v1 : Int32) (v2 : Int32) (μ : Mu) (r : Int32 × Mu) (h : X1_cellOnWay n v1 v2 μ = some r) : sCt l g yX1_cellOnWay cX1_cellOnWay 4 (some .int) 1 [.ref (g.2.2 2), .int v1, .int v2] μ (some (.int r.1)) r.2 := by
  rw [X1_cellOnWay] at h
  refine sCt.of (by decide) (Nat.le_of_ble_eq_true rfl) ?_
  intro p e s m args below meth c ls hC hw hr hlocks hl
  have hx := hC.1
  have hb := hC.2.1
  have hl : lv_has ls 4 [(0, .ref (g.2.2 2)), (1, .int v1), (2, .int v2)] := hl
  have B29 : ∀ (s0 : Int32) (μ : Mu) (H : Heap) (locs : List Loc) (ls : Array Slot), swd g μ s (sAw g s.heap.size) H locs → lv_has ls 4 [] → X1_cellOnWay_29 n v1 v2 s0 μ = some r → sWQ p l e (rmD 1) s m args below meth c g (some (.int r.1)) r.2 H locs (F0 m 29 ls [.int s0]) := by
    intro s0 μ H locs ls hw hl h
    rw [X1_cellOnWay_29] at h
    exact srI hC hw hr hlocks (by rw [← Option.some.inj h]) (by rw [← Option.some.inj h]) dX1_cellOnWay_29
  have B70 : ∀ (s0 : Int32) (μ : Mu) (H : Heap) (locs : List Loc) (ls : Array Slot), swd g μ s (sAw g s.heap.size) H locs → lv_has ls 4 [] → X1_cellOnWay_70 n v1 v2 s0 μ = some r → sWQ p l e (rmD 1) s m args below meth c g (some (.int r.1)) r.2 H locs (F0 m 70 ls [.int s0]) := by
    intro s0 μ H locs ls hw hl h
    rw [X1_cellOnWay_70] at h
    exact srI hC hw hr hlocks (by rw [← Option.some.inj h]) (by rw [← Option.some.inj h]) dX1_cellOnWay_70
  have B50 : ∀ (s1 : Int32) (s2 : Int32) (μ : Mu) (H : Heap) (locs : List Loc) (ls : Array Slot), swd g μ s (sAw g s.heap.size) H locs → lv_has ls 4 [(0, .ref (g.2.2 2))] → X1_cellOnWay_50 n v1 v2 s1 s2 μ = some r → sWQ p l e (rmD 1) s m args below meth c g (some (.int r.1)) r.2 H locs (F0 m 50 ls [.int s2, .int s1, .ref (g.2.2 2)]) := by
    intro s1 s2 μ H locs ls hw hl h
    rw [X1_cellOnWay_50] at h
    obtain ⟨r50, hr50, h⟩ := bnd h
    refine scV (b := 2) (As := [.int s1, .int s2]) (rest := []) (st1 := [.int r50.1]) hC hw (sc_X1_pitAsSeen l g n s1 s2 μ r50 hr50) ml_X1_72 im_X1_pitAsSeen se_X1_pitAsSeen ok2 (CN := RX1) (T := TX1) (NF := 7) rfl rfl (by decide) rfl hl.1 ⟨Nat.le_of_ble_eq_true rfl, Nat.le_of_ble_eq_true rfl⟩ (Nat.le_of_ble_eq_true rfl) ⟨Nat.zero_le _, Nat.zero_le _⟩ rfl (by decide) dX1_cellOnWay_50 (fun H locs hw => ?_)
    refine lv_istore_n (lv' := [(3, .int r50.1), (0, .ref (g.2.2 2))]) hx hb dX1_cellOnWay_53 rfl hl (by decide) rfl (fun ls hl => ?_)
    refine lv_aload_n hx hb dX1_cellOnWay_54 rfl (lv_at hl 1 rfl) ?_
    refine sgR (t := 1) hC hw fl_X1_21 ok2 (by decide) ot2_4 (by decide) dX1_cellOnWay_55 ?_
    refine lv_iload_n hx hb dX1_cellOnWay_58 rfl (lv_at hl 0 rfl) ?_
    obtain ⟨r59, hr59, h⟩ := bnd h
    refine scV (b := 1) (As := [.int r50.1]) (rest := []) (st1 := [.int r59.1]) hC hw (sc_X5_isLacking l g n r50.1 r50.2 r59 hr59) ml_X1_75 im_X5_isLacking se_X5_isLacking ok1 (CN := RX5) (T := TX5) (NF := 9) rfl rfl (by decide) rfl hl.1 ⟨Nat.le_of_ble_eq_true rfl, Nat.le_of_ble_eq_true rfl⟩ (Nat.le_of_ble_eq_true rfl) ⟨Nat.zero_le _, Nat.zero_le _⟩ rfl (by decide) dX1_cellOnWay_59 (fun H locs hw => ?_)
    refine lv_if_eq (tgt := 69) hx hb dX1_cellOnWay_62 (by decide) (fun hc => ?_) (fun hc => ?_)
    · rw [if_pos hc] at h
      refine lv_iload_n hx hb dX1_cellOnWay_69 rfl (lv_at hl 0 rfl) ?_
      exact B70 r50.1 r59.2 _ _ _ hw (lv_sub hl [] rfl) h
    · rw [if_neg hc] at h
      refine lv_iconst (v := ((-1) : Int32)) hx hb dX1_cellOnWay_65 (by decide) ?_
      refine lv_goto (tgt := 70) hx hb dX1_cellOnWay_66 (by decide) ?_
      exact B70 ((-1) : Int32) r59.2 _ _ _ hw (lv_sub hl [] rfl) h
  refine lv_iload_n hx hb dX1_cellOnWay_0 rfl (lv_at hl 2 rfl) ?_
  refine lv_aload_n hx hb dX1_cellOnWay_1 rfl (lv_at hl 0 rfl) ?_
  refine sgR (t := 1) hC hw fl_X1_21 ok2 (by decide) ot2_4 (by decide) dX1_cellOnWay_2 ?_
  refine sgI hC hw fl_X1_66 ok1 (by decide) (by decide) dX1_cellOnWay_5 ?_
  refine lv_icmp_ne (tgt := 30) hx hb dX1_cellOnWay_8 (by decide) (fun hc => ?_) (fun hc => ?_)
  · rw [if_neg hc] at h
    refine lv_aload_n hx hb dX1_cellOnWay_30 rfl (lv_at hl 0 rfl) ?_
    refine lv_iload_n hx hb dX1_cellOnWay_31 rfl (lv_at hl 1 rfl) ?_
    refine lv_iload_n hx hb dX1_cellOnWay_32 rfl (lv_at hl 2 rfl) ?_
    refine lv_aload_n hx hb dX1_cellOnWay_33 rfl (lv_at hl 0 rfl) ?_
    refine sgR (t := 1) hC hw fl_X1_21 ok2 (by decide) ot2_4 (by decide) dX1_cellOnWay_34 ?_
    refine sgI hC hw fl_X1_66 ok1 (by decide) (by decide) dX1_cellOnWay_37 ?_
    refine lv_icmp_ge (tgt := 47) hx hb dX1_cellOnWay_40 (by decide) (fun hc => ?_) (fun hc => ?_)
    · rw [if_pos hc] at h
      refine lv_iload_n hx hb dX1_cellOnWay_47 rfl (lv_at hl 2 rfl) ?_
      refine lv_iconst (v := (1 : Int32)) hx hb dX1_cellOnWay_48 (by decide) ?_
      refine lv_isub hx hb dX1_cellOnWay_49 ?_
      exact B50 v1 (v2 - (1 : Int32)) μ _ _ _ hw (lv_sub hl [0] rfl) h
    · rw [if_neg hc] at h
      refine lv_iload_n hx hb dX1_cellOnWay_43 rfl (lv_at hl 2 rfl) ?_
      refine lv_goto (tgt := 50) hx hb dX1_cellOnWay_44 (by decide) ?_
      exact B50 v1 v2 μ _ _ _ hw (lv_sub hl [0] rfl) h
  · rw [if_pos hc] at h
    refine lv_aload_n hx hb dX1_cellOnWay_11 rfl (lv_at hl 0 rfl) ?_
    refine sgR (t := 1) hC hw fl_X1_21 ok2 (by decide) ot2_4 (by decide) dX1_cellOnWay_12 ?_
    refine sgI hC hw fl_X1_57 ok1 (by decide) (by decide) dX1_cellOnWay_15 ?_
    refine lv_if_eq (tgt := 28) hx hb dX1_cellOnWay_18 (by decide) (fun hc => ?_) (fun hc => ?_)
    · rw [if_pos hc] at h
      refine lv_iconst (v := ((-1) : Int32)) hx hb dX1_cellOnWay_28 (by decide) ?_
      exact B29 ((-1) : Int32) μ _ _ _ hw (lv_sub hl [] rfl) h
    · rw [if_neg hc] at h
      refine lv_bipush (v := (12 : Int32)) hx hb dX1_cellOnWay_21 (by decide) ?_
      refine lv_iload_n hx hb dX1_cellOnWay_23 rfl (lv_at hl 1 rfl) ?_
      refine lv_iadd hx hb dX1_cellOnWay_24 ?_
      refine lv_goto (tgt := 29) hx hb dX1_cellOnWay_25 (by decide) ?_
      exact B29 ((12 : Int32) + v1) μ _ _ _ hw (lv_sub hl [] rfl) h
set_option maxRecDepth 100000 in
set_option maxHeartbeats 4000000 in
theorem sc_X1_linkWay (l : Launch) (g : Gw) (n : Nat) (v1 : Int32) (μ : Mu) (r : Unit × Mu) (h : X1_linkWay n v1 μ = some r) : sCt l g yX1_linkWay cX1_linkWay 7 none 2 [.ref (g.2.2 2), .int v1] μ none r.2 := by
  rw [X1_linkWay] at h
  refine sCt.of (by decide) (Nat.le_of_ble_eq_true rfl) ?_
  intro p e s m args below meth c ls hC hw hr hlocks hl
  have hx := hC.1
  have hb := hC.2.1
  have hl : lv_has ls 7 [(0, .ref (g.2.2 2)), (1, .int v1)] := hl
  have B93 : ∀ (μ : Mu) (H : Heap) (locs : List Loc) (ls : Array Slot), swd g μ s (sAw g s.heap.size) H locs → lv_has ls 7 [] → X1_linkWay_93 n v1  μ = some r → sWQ p l e (rmD 2) s m args below meth c g none r.2 H locs (F0 m 93 ls []) := by
    intro μ H locs ls hw hl h
    rw [X1_linkWay_93] at h
    exact srV hC hw hr hlocks rfl (by rw [← Option.some.inj h]) dX1_linkWay_93
  have B13 : ∀ (k : Nat), ∀ (v2 : Int32) (v3 : Int32) (v4 : Int32) (v5 : Int32) (μ : Mu) (H : Heap) (locs : List Loc) (ls : Array Slot), swd g μ s (sAw g s.heap.size) H locs → lv_has ls 7 [(0, .ref (g.2.2 2)), (1, .int v1), (2, .int v2), (3, .int v3), (4, .int v4), (5, .int v5)] → lpF (fun _ _ _ _ _ => none) (X1_linkWay_13b n v1) k v2 v3 v4 v5 μ = some r → sWQ p l e (rmD 2) s m args below meth c g none r.2 H locs (F0 m 13 ls []) := by
    intro k
    induction k with
    | zero =>
      intro v2 v3 v4 v5 μ H locs ls hw hl h
      cases h
    | succ k ih13 =>
      rw [lpF_s]
      generalize lpF (fun _ _ _ _ _ => none) (X1_linkWay_13b n v1) k = k13 at ih13 ⊢
      intro v2 v3 v4 v5 μ H locs ls hw hl h
      have B71 : ∀ (v2 : Int32) (v3 : Int32) (v4 : Int32) (v5 : Int32) (μ : Mu) (H : Heap) (locs : List Loc) (ls : Array Slot), swd g μ s (sAw g s.heap.size) H locs → lv_has ls 7 [(0, .ref (g.2.2 2)), (1, .int v1), (2, .int v2), (3, .int v3), (4, .int v4), (5, .int v5)] → X1_linkWay_71 n v1 k13 v2 v3 v4 v5 μ = some r → sWQ p l e (rmD 2) s m args below meth c g none r.2 H locs (F0 m 71 ls []) := by
        intro v2 v3 v4 v5 μ H locs ls hw hl h
        rw [X1_linkWay_71] at h
        refine lv_iinc (v := (v5 + (1 : Int32))) (lv' := [(5, .int (v5 + (1 : Int32))), (0, .ref (g.2.2 2)), (1, .int v1), (2, .int v2), (3, .int v3), (4, .int v4)]) hx hb dX1_linkWay_71 hl (k := 5) rfl rfl (by decide) rfl (fun ls hl => ?_)
        refine lv_goto (tgt := 13) hx hb dX1_linkWay_74 (by decide) ?_
        exact ih13 v2 v3 v4 (v5 + (1 : Int32)) μ _ _ _ hw (lv_sub hl [1, 2, 3, 4, 5, 0] rfl) h
      have B67 : ∀ (v2 : Int32) (v3 : Int32) (v5 : Int32) (v6 : Int32) (μ : Mu) (H : Heap) (locs : List Loc) (ls : Array Slot), swd g μ s (sAw g s.heap.size) H locs → lv_has ls 7 [(0, .ref (g.2.2 2)), (1, .int v1), (2, .int v2), (3, .int v3), (5, .int v5), (6, .int v6)] → X1_linkWay_67 n v1 k13 v2 v3 v5 v6 μ = some r → sWQ p l e (rmD 2) s m args below meth c g none r.2 H locs (F0 m 67 ls []) := by
        intro v2 v3 v5 v6 μ H locs ls hw hl h
        rw [X1_linkWay_67] at h
        refine lv_iload hx hb dX1_linkWay_67 (lv_at hl 5 rfl) ?_
        refine lv_istore (lv' := [(4, .int v6), (0, .ref (g.2.2 2)), (1, .int v1), (2, .int v2), (3, .int v3), (5, .int v5), (6, .int v6)]) hx hb dX1_linkWay_69 hl (by decide) rfl (fun ls hl => ?_)
        exact B71 v2 v3 v6 v5 μ _ _ _ hw (lv_sub hl [1, 2, 3, 4, 0, 5] rfl) h
      rw [X1_linkWay_13b] at h
      refine lv_iload hx hb dX1_linkWay_13 (lv_at hl 5 rfl) ?_
      refine lv_iconst (v := (2 : Int32)) hx hb dX1_linkWay_15 (by decide) ?_
      refine lv_aload_n hx hb dX1_linkWay_16 rfl (lv_at hl 0 rfl) ?_
      refine sgR (t := 1) hC hw fl_X1_21 ok2 (by decide) ot2_4 (by decide) dX1_linkWay_17 ?_
      refine sgI hC hw fl_X1_66 ok1 (by decide) (by decide) dX1_linkWay_20 ?_
      refine lv_imul hx hb dX1_linkWay_23 ?_
      refine lv_icmp_gt (tgt := 77) hx hb dX1_linkWay_24 (by decide) (fun hc => ?_) (fun hc => ?_)
      · rw [if_pos hc] at h
        refine lv_iload hx hb dX1_linkWay_77 (lv_at hl 4 rfl) ?_
        refine lv_iconst (v := ((-1) : Int32)) hx hb dX1_linkWay_79 (by decide) ?_
        refine lv_icmp_eq (tgt := 93) hx hb dX1_linkWay_80 (by decide) (fun hc => ?_) (fun hc => ?_)
        · rw [if_pos hc] at h
          exact B93 μ _ _ _ hw (lv_sub hl [] rfl) h
        · rw [if_neg hc] at h
          refine lv_aload_n hx hb dX1_linkWay_83 rfl (lv_at hl 0 rfl) ?_
          refine sgR (t := 3) hC hw fl_X1_9 ok2 (by decide) ot2_0 (by decide) dX1_linkWay_84 ?_
          refine lv_iload_n hx hb dX1_linkWay_87 rfl (lv_at hl 2 rfl) ?_
          refine lv_iload hx hb dX1_linkWay_88 (lv_at hl 4 rfl) ?_
          refine lv_iadd hx hb dX1_linkWay_90 ?_
          refine lv_iload_n hx hb dX1_linkWay_91 rfl (lv_at hl 3 rfl) ?_
          obtain ⟨hi92, h⟩ := gd_some h
          refine ssI (j := (v2 + v4).toNatClampNeg) hC hw ok3 on3 hi92 rfl (by decide) dX1_linkWay_92 (fun H locs hw => ?_)
          exact B93 (si μ 3 (v2 + v4).toNatClampNeg v3) _ _ _ hw (lv_sub hl [] rfl) h
      · rw [if_neg hc] at h
        refine lv_aload_n hx hb dX1_linkWay_27 rfl (lv_at hl 0 rfl) ?_
        refine lv_iload_n hx hb dX1_linkWay_28 rfl (lv_at hl 1 rfl) ?_
        refine lv_iload hx hb dX1_linkWay_29 (lv_at hl 5 rfl) ?_
        obtain ⟨r31, hr31, h⟩ := bnd h
        refine scV (b := 2) (As := [.int v1, .int v5]) (rest := []) (st1 := [.int r31.1]) hC hw (sc_X1_cellOnWay l g n v1 v5 μ r31 hr31) ml_X1_69 im_X1_cellOnWay se_X1_cellOnWay ok2 (CN := RX1) (T := TX1) (NF := 7) rfl rfl (by decide) rfl hl.1 ⟨Nat.le_of_ble_eq_true rfl, Nat.le_of_ble_eq_true rfl⟩ (Nat.le_of_ble_eq_true rfl) ⟨Nat.zero_le _, Nat.zero_le _⟩ rfl (by decide) dX1_linkWay_31 (fun H locs hw => ?_)
        refine lv_istore (lv' := [(6, .int r31.1), (0, .ref (g.2.2 2)), (1, .int v1), (2, .int v2), (3, .int v3), (4, .int v4), (5, .int v5)]) hx hb dX1_linkWay_34 hl (by decide) rfl (fun ls hl => ?_)
        refine lv_iload hx hb dX1_linkWay_36 (lv_at hl 0 rfl) ?_
        refine lv_iconst (v := ((-1) : Int32)) hx hb dX1_linkWay_38 (by decide) ?_
        refine lv_icmp_ne (tgt := 45) hx hb dX1_linkWay_39 (by decide) (fun hc => ?_) (fun hc => ?_)
        · rw [if_neg hc] at h
          refine lv_iload_n hx hb dX1_linkWay_45 rfl (lv_at hl 4 rfl) ?_
          refine lv_iconst (v := ((-1) : Int32)) hx hb dX1_linkWay_46 (by decide) ?_
          refine lv_icmp_ne (tgt := 56) hx hb dX1_linkWay_47 (by decide) (fun hc => ?_) (fun hc => ?_)
          · rw [if_neg hc] at h
            refine lv_aload_n hx hb dX1_linkWay_56 rfl (lv_at hl 1 rfl) ?_
            refine sgR (t := 3) hC hw fl_X1_9 ok2 (by decide) ot2_0 (by decide) dX1_linkWay_57 ?_
            refine lv_iload_n hx hb dX1_linkWay_60 rfl (lv_at hl 3 rfl) ?_
            refine lv_iload hx hb dX1_linkWay_61 (lv_at hl 5 rfl) ?_
            refine lv_iadd hx hb dX1_linkWay_63 ?_
            refine lv_iload hx hb dX1_linkWay_64 (lv_at hl 0 rfl) ?_
            obtain ⟨hi66, h⟩ := gd_some h
            refine ssI (j := (v2 + v4).toNatClampNeg) hC hw ok3 on3 hi66 rfl (by decide) dX1_linkWay_66 (fun H locs hw => ?_)
            exact B67 v2 v3 v5 r31.1 (si r31.2 3 (v2 + v4).toNatClampNeg r31.1) _ _ _ hw (lv_sub hl [1, 2, 3, 4, 6, 0] rfl) h
          · rw [if_pos hc] at h
            refine lv_iload hx hb dX1_linkWay_50 (lv_at hl 0 rfl) ?_
            refine lv_istore_n (lv' := [(3, .int r31.1), (6, .int r31.1), (0, .ref (g.2.2 2)), (1, .int v1), (2, .int v2), (4, .int v4), (5, .int v5)]) hx hb dX1_linkWay_52 rfl hl (by decide) rfl (fun ls hl => ?_)
            refine lv_goto (tgt := 67) hx hb dX1_linkWay_53 (by decide) ?_
            exact B67 v2 r31.1 v5 r31.1 r31.2 _ _ _ hw (lv_sub hl [2, 3, 4, 0, 6, 1] rfl) h
        · rw [if_pos hc] at h
          refine lv_goto (tgt := 71) hx hb dX1_linkWay_42 (by decide) ?_
          exact B71 v2 v3 v4 v5 r31.2 _ _ _ hw (lv_sub hl [1, 2, 3, 4, 5, 6] rfl) h
  refine lv_iload_n hx hb dX1_linkWay_0 rfl (lv_at hl 1 rfl) ?_
  refine lv_bipush (v := (14 : Int32)) hx hb dX1_linkWay_1 (by decide) ?_
  refine lv_imul hx hb dX1_linkWay_3 ?_
  refine lv_istore_n (lv' := [(2, .int (v1 * (14 : Int32))), (0, .ref (g.2.2 2)), (1, .int v1)]) hx hb dX1_linkWay_4 rfl hl (by decide) rfl (fun ls hl => ?_)
  refine lv_iconst (v := ((-1) : Int32)) hx hb dX1_linkWay_5 (by decide) ?_
  refine lv_istore_n (lv' := [(3, .int ((-1) : Int32)), (2, .int (v1 * (14 : Int32))), (0, .ref (g.2.2 2)), (1, .int v1)]) hx hb dX1_linkWay_6 rfl hl (by decide) rfl (fun ls hl => ?_)
  refine lv_iconst (v := ((-1) : Int32)) hx hb dX1_linkWay_7 (by decide) ?_
  refine lv_istore (lv' := [(4, .int ((-1) : Int32)), (3, .int ((-1) : Int32)), (2, .int (v1 * (14 : Int32))), (0, .ref (g.2.2 2)), (1, .int v1)]) hx hb dX1_linkWay_8 hl (by decide) rfl (fun ls hl => ?_)
  refine lv_iconst (v := (0 : Int32)) hx hb dX1_linkWay_10 (by decide) ?_
  refine lv_istore (lv' := [(5, .int (0 : Int32)), (4, .int ((-1) : Int32)), (3, .int ((-1) : Int32)), (2, .int (v1 * (14 : Int32))), (0, .ref (g.2.2 2)), (1, .int v1)]) hx hb dX1_linkWay_11 hl (by decide) rfl (fun ls hl => ?_)
  exact B13 n (v1 * (14 : Int32)) ((-1) : Int32) ((-1) : Int32) (0 : Int32) μ _ _ _ hw (lv_sub hl [4, 5, 3, 2, 1, 0] rfl) h
set_option maxRecDepth 100000 in
set_option maxHeartbeats 4000000 in
theorem sc_X1_listSeen (l : Launch) (g : Gw) (n : Nat) (v1 : Int32) (μ : Mu) (r : Unit × Mu) (h : X1_listSeen n v1 μ = some r) : sCt l g yX1_listSeen cX1_listSeen 4 none 1 [.ref (g.2.2 2), .int v1] μ none r.2 := by
  rw [X1_listSeen] at h
  refine sCt.of (by decide) (Nat.le_of_ble_eq_true rfl) ?_
  intro p e s m args below meth c ls hC hw hr hlocks hl
  have hx := hC.1
  have hb := hC.2.1
  have hl : lv_has ls 4 [(0, .ref (g.2.2 2)), (1, .int v1)] := hl
  have B7 : ∀ (k : Nat), ∀ (v2 : Int32) (μ : Mu) (H : Heap) (locs : List Loc) (ls : Array Slot), swd g μ s (sAw g s.heap.size) H locs → lv_has ls 4 [(0, .ref (g.2.2 2)), (1, .int v1), (2, .int v2)] → lpF (fun _ _ => none) (X1_listSeen_7b n v1) k v2 μ = some r → sWQ p l e (rmD 1) s m args below meth c g none r.2 H locs (F0 m 7 ls []) := by
    intro k
    induction k with
    | zero =>
      intro v2 μ H locs ls hw hl h
      cases h
    | succ k ih7 =>
      rw [lpF_s]
      generalize lpF (fun _ _ => none) (X1_listSeen_7b n v1) k = k7 at ih7 ⊢
      intro v2 μ H locs ls hw hl h
      have B87 : ∀ (v2 : Int32) (μ : Mu) (H : Heap) (locs : List Loc) (ls : Array Slot), swd g μ s (sAw g s.heap.size) H locs → lv_has ls 4 [(0, .ref (g.2.2 2)), (1, .int v1), (2, .int v2)] → X1_listSeen_87 n v1 k7 v2 μ = some r → sWQ p l e (rmD 1) s m args below meth c g none r.2 H locs (F0 m 87 ls []) := by
        intro v2 μ H locs ls hw hl h
        rw [X1_listSeen_87] at h
        refine lv_iinc (v := (v2 + (1 : Int32))) (lv' := [(2, .int (v2 + (1 : Int32))), (0, .ref (g.2.2 2)), (1, .int v1)]) hx hb dX1_listSeen_87 hl (k := 2) rfl rfl (by decide) rfl (fun ls hl => ?_)
        refine lv_goto (tgt := 7) hx hb dX1_listSeen_90 (by decide) ?_
        exact ih7 (v2 + (1 : Int32)) μ _ _ _ hw (lv_sub hl [1, 2, 0] rfl) h
      have B51 : ∀ (v2 : Int32) (v3 : Int32) (μ : Mu) (H : Heap) (locs : List Loc) (ls : Array Slot), swd g μ s (sAw g s.heap.size) H locs → lv_has ls 4 [(0, .ref (g.2.2 2)), (1, .int v1), (2, .int v2), (3, .int v3)] → X1_listSeen_51 n v1 k7 v2 v3 μ = some r → sWQ p l e (rmD 1) s m args below meth c g none r.2 H locs (F0 m 51 ls []) := by
        intro v2 v3 μ H locs ls hw hl h
        rw [X1_listSeen_51] at h
        refine lv_aload_n hx hb dX1_listSeen_51 rfl (lv_at hl 0 rfl) ?_
        refine sgR (t := 1) hC hw fl_X1_21 ok2 (by decide) ot2_4 (by decide) dX1_listSeen_52 ?_
        refine lv_iload_n hx hb dX1_listSeen_55 rfl (lv_at hl 3 rfl) ?_
        obtain ⟨r56, hr56, h⟩ := bnd h
        refine scV (b := 1) (As := [.int v3]) (rest := []) (st1 := [.int r56.1]) hC hw (sc_X5_isLacking l g n v3 μ r56 hr56) ml_X1_75 im_X5_isLacking se_X5_isLacking ok1 (CN := RX5) (T := TX5) (NF := 9) rfl rfl (by decide) rfl hl.1 ⟨Nat.le_of_ble_eq_true rfl, Nat.le_of_ble_eq_true rfl⟩ (Nat.le_of_ble_eq_true rfl) ⟨Nat.zero_le _, Nat.zero_le _⟩ rfl (by decide) dX1_listSeen_56 (fun H locs hw => ?_)
        refine lv_if_ne (tgt := 87) hx hb dX1_listSeen_59 (by decide) (fun hc => ?_) (fun hc => ?_)
        · rw [if_neg hc] at h
          exact B87 v2 r56.2 _ _ _ hw (lv_sub hl [0, 1, 2] rfl) h
        · rw [if_pos hc] at h
          refine lv_aload_n hx hb dX1_listSeen_62 rfl (lv_at hl 0 rfl) ?_
          refine sgR (t := 4) hC hw fl_X1_15 ok2 (by decide) ot2_5 (by decide) dX1_listSeen_63 ?_
          refine lv_iload_n hx hb dX1_listSeen_66 rfl (lv_at hl 1 rfl) ?_
          refine lv_bipush (v := (12 : Int32)) hx hb dX1_listSeen_67 (by decide) ?_
          refine lv_imul hx hb dX1_listSeen_69 ?_
          refine lv_aload_n hx hb dX1_listSeen_70 rfl (lv_at hl 0 rfl) ?_
          refine sgI hC hw fl_X1_60 ok2 (by decide) (by decide) dX1_listSeen_71 ?_
          refine lv_iadd hx hb dX1_listSeen_74 ?_
          refine lv_iload_n hx hb dX1_listSeen_75 rfl (lv_at hl 3 rfl) ?_
          obtain ⟨hi76, h⟩ := gd_some h
          refine ssI (j := ((v1 * (12 : Int32)) + (r56.2.1 2 1)).toNatClampNeg) hC hw ok4 on4 hi76 rfl (by decide) dX1_listSeen_76 (fun H locs hw => ?_)
          refine lv_aload_n hx hb dX1_listSeen_77 rfl (lv_at hl 0 rfl) ?_
          refine lv_dup hx hb dX1_listSeen_78 rfl ?_
          refine sgI hC hw fl_X1_60 ok2 (by decide) (by decide) dX1_listSeen_79 ?_
          refine lv_iconst (v := (1 : Int32)) hx hb dX1_listSeen_82 (by decide) ?_
          refine lv_iadd hx hb dX1_listSeen_83 ?_
          refine spI hC hw fl_X1_60 fp_1_1 ok2 (by decide) dX1_listSeen_84 (fun H locs hw => ?_)
          exact B87 v2 (si (si r56.2 4 ((v1 * (12 : Int32)) + (r56.2.1 2 1)).toNatClampNeg v3) 2 1 (((si r56.2 4 ((v1 * (12 : Int32)) + (r56.2.1 2 1)).toNatClampNeg v3).1 2 1) + (1 : Int32))) _ _ _ hw (lv_sub hl [0, 1, 2] rfl) h
      rw [X1_listSeen_7b] at h
      refine lv_iload_n hx hb dX1_listSeen_7 rfl (lv_at hl 2 rfl) ?_
      refine lv_iconst (v := (2 : Int32)) hx hb dX1_listSeen_8 (by decide) ?_
      refine lv_aload_n hx hb dX1_listSeen_9 rfl (lv_at hl 0 rfl) ?_
      refine sgR (t := 1) hC hw fl_X1_21 ok2 (by decide) ot2_4 (by decide) dX1_listSeen_10 ?_
      refine sgI hC hw fl_X1_66 ok1 (by decide) (by decide) dX1_listSeen_13 ?_
      refine lv_imul hx hb dX1_listSeen_16 ?_
      refine lv_icmp_ge (tgt := 93) hx hb dX1_listSeen_17 (by decide) (fun hc => ?_) (fun hc => ?_)
      · rw [if_pos hc] at h
        exact srV hC hw hr hlocks rfl (by rw [← Option.some.inj h]) dX1_listSeen_93
      · rw [if_neg hc] at h
        refine lv_aload_n hx hb dX1_listSeen_20 rfl (lv_at hl 0 rfl) ?_
        refine lv_iload_n hx hb dX1_listSeen_21 rfl (lv_at hl 1 rfl) ?_
        refine lv_iload_n hx hb dX1_listSeen_22 rfl (lv_at hl 2 rfl) ?_
        obtain ⟨r23, hr23, h⟩ := bnd h
        refine scV (b := 2) (As := [.int v1, .int v2]) (rest := []) (st1 := [.int r23.1]) hC hw (sc_X1_pitAsSeen l g n v1 v2 μ r23 hr23) ml_X1_72 im_X1_pitAsSeen se_X1_pitAsSeen ok2 (CN := RX1) (T := TX1) (NF := 7) rfl rfl (by decide) rfl hl.1 ⟨Nat.le_of_ble_eq_true rfl, Nat.le_of_ble_eq_true rfl⟩ (Nat.le_of_ble_eq_true rfl) ⟨Nat.zero_le _, Nat.zero_le _⟩ rfl (by decide) dX1_listSeen_23 (fun H locs hw => ?_)
        refine lv_istore_n (lv' := [(3, .int r23.1), (0, .ref (g.2.2 2)), (1, .int v1), (2, .int v2)]) hx hb dX1_listSeen_26 rfl hl (by decide) rfl (fun ls hl => ?_)
        refine lv_aload_n hx hb dX1_listSeen_27 rfl (lv_at hl 1 rfl) ?_
        refine sgR (t := 1) hC hw fl_X1_21 ok2 (by decide) ot2_4 (by decide) dX1_listSeen_28 ?_
        refine lv_iload_n hx hb dX1_listSeen_31 rfl (lv_at hl 0 rfl) ?_
        obtain ⟨r32, hr32, h⟩ := bnd h
        refine scV (b := 1) (As := [.int r23.1]) (rest := []) (st1 := [.int r32.1]) hC hw (sc_X5_isLacking l g n r23.1 r23.2 r32 hr32) ml_X1_75 im_X5_isLacking se_X5_isLacking ok1 (CN := RX5) (T := TX5) (NF := 9) rfl rfl (by decide) rfl hl.1 ⟨Nat.le_of_ble_eq_true rfl, Nat.le_of_ble_eq_true rfl⟩ (Nat.le_of_ble_eq_true rfl) ⟨Nat.zero_le _, Nat.zero_le _⟩ rfl (by decide) dX1_listSeen_32 (fun H locs hw => ?_)
        refine lv_aload_n hx hb dX1_listSeen_35 rfl (lv_at hl 1 rfl) ?_
        refine sgR (t := 1) hC hw fl_X1_21 ok2 (by decide) ot2_4 (by decide) dX1_listSeen_36 ?_
        refine lv_iload_n hx hb dX1_listSeen_39 rfl (lv_at hl 3 rfl) ?_
        obtain ⟨r40, hr40, h⟩ := bnd h
        refine scV (b := 1) (As := [.int v2]) (rest := [.int r32.1]) (st1 := [.int r40.1, .int r32.1]) hC hw (sc_X5_isLacking l g n v2 r32.2 r40 hr40) ml_X1_75 im_X5_isLacking se_X5_isLacking ok1 (CN := RX5) (T := TX5) (NF := 9) rfl rfl (by decide) rfl hl.1 ⟨Nat.le_of_ble_eq_true rfl, Nat.le_of_ble_eq_true rfl⟩ (Nat.le_of_ble_eq_true rfl) ⟨Nat.zero_le _, Nat.zero_le _⟩ rfl (by decide) dX1_listSeen_40 (fun H locs hw => ?_)
        refine lv_icmp_eq (tgt := 51) hx hb dX1_listSeen_43 (by decide) (fun hc => ?_) (fun hc => ?_)
        · rw [if_pos hc] at h
          exact B51 v2 r23.1 r40.2 _ _ _ hw (lv_sub hl [1, 2, 3, 0] rfl) h
        · rw [if_neg hc] at h
          refine lv_aload_n hx hb dX1_listSeen_46 rfl (lv_at hl 1 rfl) ?_
          refine lv_iconst (v := (0 : Int32)) hx hb dX1_listSeen_47 (by decide) ?_
          refine spZ hC hw fl_X1_37 fp_1_2 ok2 (Or.inl rfl) (by decide) dX1_listSeen_48 (fun H locs hw => ?_)
          exact B51 v2 r23.1 (si r40.2 2 2 (0 : Int32)) _ _ _ hw (lv_sub hl [1, 2, 3, 0] rfl) h
  refine lv_aload_n hx hb dX1_listSeen_0 rfl (lv_at hl 0 rfl) ?_
  refine lv_iconst (v := (0 : Int32)) hx hb dX1_listSeen_1 (by decide) ?_
  refine spI hC hw fl_X1_60 fp_1_1 ok2 (by decide) dX1_listSeen_2 (fun H locs hw => ?_)
  refine lv_iconst (v := (0 : Int32)) hx hb dX1_listSeen_5 (by decide) ?_
  refine lv_istore_n (lv' := [(2, .int (0 : Int32)), (0, .ref (g.2.2 2)), (1, .int v1)]) hx hb dX1_listSeen_6 rfl hl (by decide) rfl (fun ls hl => ?_)
  exact B7 n (0 : Int32) (si μ 2 1 (0 : Int32)) _ _ _ hw (lv_sub hl [1, 2, 0] rfl) h
set_option maxRecDepth 100000 in
set_option maxHeartbeats 4000000 in
theorem sc_X1_countWays (l : Launch) (g : Gw) (n : Nat) (μ : Mu) (r : Unit × Mu) (h : X1_countWays n  μ = some r) : sCt l g yX1_countWays cX1_countWays 5 none 1 [.ref (g.2.2 2)] μ none r.2 := by
  rw [X1_countWays] at h
  refine sCt.of (by decide) (Nat.le_of_ble_eq_true rfl) ?_
  intro p e s m args below meth c ls hC hw hr hlocks hl
  have hx := hC.1
  have hb := hC.2.1
  have hl : lv_has ls 5 [(0, .ref (g.2.2 2))] := hl
  have B9 : ∀ (k : Nat), ∀ (v1 : Int32) (μ : Mu) (H : Heap) (locs : List Loc) (ls : Array Slot), swd g μ s (sAw g s.heap.size) H locs → lv_has ls 5 [(0, .ref (g.2.2 2)), (1, .int v1)] → lpF (fun _ _ => none) (X1_countWays_9b n) k v1 μ = some r → sWQ p l e (rmD 1) s m args below meth c g none r.2 H locs (F0 m 9 ls []) := by
    intro k
    induction k with
    | zero =>
      intro v1 μ H locs ls hw hl h
      cases h
    | succ k ih9 =>
      rw [lpF_s]
      generalize lpF (fun _ _ => none) (X1_countWays_9b n) k = k9 at ih9 ⊢
      intro v1 μ H locs ls hw hl h
      have B17 : ∀ (k : Nat), ∀ (v1 : Int32) (v2 : Int32) (μ : Mu) (H : Heap) (locs : List Loc) (ls : Array Slot), swd g μ s (sAw g s.heap.size) H locs → lv_has ls 5 [(0, .ref (g.2.2 2)), (1, .int v1), (2, .int v2)] → lpF (fun _ _ _ => none) (X1_countWays_17b n k9) k v1 v2 μ = some r → sWQ p l e (rmD 1) s m args below meth c g none r.2 H locs (F0 m 17 ls []) := by
        intro k
        induction k with
        | zero =>
          intro v1 v2 μ H locs ls hw hl h
          cases h
        | succ k ih17 =>
          rw [lpF_s]
          generalize lpF (fun _ _ _ => none) (X1_countWays_17b n k9) k = k17 at ih17 ⊢
          intro v1 v2 μ H locs ls hw hl h
          have B58 : ∀ (v1 : Int32) (v2 : Int32) (v3 : Int32) (s0 : Int32) (μ : Mu) (H : Heap) (locs : List Loc) (ls : Array Slot), swd g μ s (sAw g s.heap.size) H locs → lv_has ls 5 [(0, .ref (g.2.2 2)), (1, .int v1), (2, .int v2), (3, .int v3)] → X1_countWays_58 n k9 k17 v1 v2 v3 s0 μ = some r → sWQ p l e (rmD 1) s m args below meth c g none r.2 H locs (F0 m 58 ls [.int s0]) := by
            intro v1 v2 v3 s0 μ H locs ls hw hl h
            rw [X1_countWays_58] at h
            refine lv_istore (lv' := [(4, .int s0), (0, .ref (g.2.2 2)), (1, .int v1), (2, .int v2), (3, .int v3)]) hx hb dX1_countWays_58 hl (by decide) rfl (fun ls hl => ?_)
            refine lv_aload_n hx hb dX1_countWays_60 rfl (lv_at hl 1 rfl) ?_
            refine sgR (t := 5) hC hw fl_X1_18 ok2 (by decide) ot2_6 (by decide) dX1_countWays_61 ?_
            refine lv_iload_n hx hb dX1_countWays_64 rfl (lv_at hl 2 rfl) ?_
            refine lv_bipush (v := (41 : Int32)) hx hb dX1_countWays_65 (by decide) ?_
            refine lv_imul hx hb dX1_countWays_67 ?_
            refine lv_iload_n hx hb dX1_countWays_68 rfl (lv_at hl 3 rfl) ?_
            refine lv_iadd hx hb dX1_countWays_69 ?_
            refine lv_sipush (v := (6001 : Int32)) hx hb dX1_countWays_70 (by decide) ?_
            refine lv_iload_n hx hb dX1_countWays_73 rfl (lv_at hl 4 rfl) ?_
            refine lv_iload hx hb dX1_countWays_74 (lv_at hl 0 rfl) ?_
            refine lv_iadd hx hb dX1_countWays_76 ?_
            refine va_mmin (rest := [.int ((v1 * (41 : Int32)) + v2), .ref (g.2.2 5)]) hx hb (hC.2.2.1.trans hl.1.symm) hC.2.2.2.1 (hC.2.2.2.2.1 _ mm_X1_31) (hC.2.2.2.2.1 _ mw_min.1) (hC.2.2.2.2.1 _ mw_min.2.1) (hC.2.2.2.2.1 _ mw_min.2.2) (Nat.le_of_ble_eq_true rfl) (Nat.le_of_ble_eq_true rfl) (Nat.zero_le _) (Nat.zero_le _) dX1_countWays_77 ?_
            obtain ⟨hi80, h⟩ := gd_some h
            refine ssI (j := ((v1 * (41 : Int32)) + v2).toNatClampNeg) hC hw ok5 on5 hi80 rfl (by decide) dX1_countWays_80 (fun H locs hw => ?_)
            refine lv_iinc (v := (v2 + (1 : Int32))) (lv' := [(2, .int (v2 + (1 : Int32))), (4, .int s0), (0, .ref (g.2.2 2)), (1, .int v1), (3, .int v3)]) hx hb dX1_countWays_81 hl (k := 3) rfl rfl (by decide) rfl (fun ls hl => ?_)
            refine lv_goto (tgt := 17) hx hb dX1_countWays_84 (by decide) ?_
            exact ih17 v1 (v2 + (1 : Int32)) (si μ 5 ((v1 * (41 : Int32)) + v2).toNatClampNeg (if (v3 + s0) < (6001 : Int32) then (v3 + s0) else (6001 : Int32))) _ _ _ hw (lv_sub hl [2, 3, 0] rfl) h
          rw [X1_countWays_17b] at h
          refine lv_iload_n hx hb dX1_countWays_17 rfl (lv_at hl 2 rfl) ?_
          refine lv_bipush (v := (40 : Int32)) hx hb dX1_countWays_18 (by decide) ?_
          refine lv_icmp_gt (tgt := 87) hx hb dX1_countWays_20 (by decide) (fun hc => ?_) (fun hc => ?_)
          · rw [if_pos hc] at h
            refine lv_iinc (v := (v1 + (1 : Int32))) (lv' := [(1, .int (v1 + (1 : Int32))), (0, .ref (g.2.2 2)), (2, .int v2)]) hx hb dX1_countWays_87 hl (k := 1) rfl rfl (by decide) rfl (fun ls hl => ?_)
            refine lv_goto (tgt := 9) hx hb dX1_countWays_90 (by decide) ?_
            exact ih9 (v1 + (1 : Int32)) μ _ _ _ hw (lv_sub hl [1, 0] rfl) h
          · rw [if_neg hc] at h
            refine lv_aload_n hx hb dX1_countWays_23 rfl (lv_at hl 0 rfl) ?_
            refine sgR (t := 5) hC hw fl_X1_18 ok2 (by decide) ot2_6 (by decide) dX1_countWays_24 ?_
            refine lv_iload_n hx hb dX1_countWays_27 rfl (lv_at hl 1 rfl) ?_
            refine lv_iconst (v := (1 : Int32)) hx hb dX1_countWays_28 (by decide) ?_
            refine lv_isub hx hb dX1_countWays_29 ?_
            refine lv_bipush (v := (41 : Int32)) hx hb dX1_countWays_30 (by decide) ?_
            refine lv_imul hx hb dX1_countWays_32 ?_
            refine lv_iload_n hx hb dX1_countWays_33 rfl (lv_at hl 2 rfl) ?_
            refine lv_iadd hx hb dX1_countWays_34 ?_
            obtain ⟨hi35, h⟩ := gd_some h
            refine slI (j := (((v1 - (1 : Int32)) * (41 : Int32)) + v2).toNatClampNeg) hC hw ok5 on5 hi35 rfl (by decide) dX1_countWays_35 ?_
            refine lv_istore_n (lv' := [(3, .int (μ.1 5 (((v1 - (1 : Int32)) * (41 : Int32)) + v2).toNatClampNeg)), (0, .ref (g.2.2 2)), (1, .int v1), (2, .int v2)]) hx hb dX1_countWays_36 rfl hl (by decide) rfl (fun ls hl => ?_)
            refine lv_iload_n hx hb dX1_countWays_37 rfl (lv_at hl 3 rfl) ?_
            refine lv_if_ne (tgt := 45) hx hb dX1_countWays_38 (by decide) (fun hc => ?_) (fun hc => ?_)
            · rw [if_neg hc] at h
              refine lv_aload_n hx hb dX1_countWays_45 rfl (lv_at hl 1 rfl) ?_
              refine sgR (t := 5) hC hw fl_X1_18 ok2 (by decide) ot2_6 (by decide) dX1_countWays_46 ?_
              refine lv_iload_n hx hb dX1_countWays_49 rfl (lv_at hl 2 rfl) ?_
              refine lv_bipush (v := (41 : Int32)) hx hb dX1_countWays_50 (by decide) ?_
              refine lv_imul hx hb dX1_countWays_52 ?_
              refine lv_iload_n hx hb dX1_countWays_53 rfl (lv_at hl 3 rfl) ?_
              refine lv_iadd hx hb dX1_countWays_54 ?_
              refine lv_iconst (v := (1 : Int32)) hx hb dX1_countWays_55 (by decide) ?_
              refine lv_isub hx hb dX1_countWays_56 ?_
              obtain ⟨hi57, h⟩ := gd_some h
              refine slI (j := (((v1 * (41 : Int32)) + v2) - (1 : Int32)).toNatClampNeg) hC hw ok5 on5 hi57 rfl (by decide) dX1_countWays_57 ?_
              exact B58 v1 v2 (μ.1 5 (((v1 - (1 : Int32)) * (41 : Int32)) + v2).toNatClampNeg) (μ.1 5 (((v1 * (41 : Int32)) + v2) - (1 : Int32)).toNatClampNeg) μ _ _ _ hw (lv_sub hl [1, 2, 3, 0] rfl) h
            · rw [if_pos hc] at h
              refine lv_iconst (v := (0 : Int32)) hx hb dX1_countWays_41 (by decide) ?_
              refine lv_goto (tgt := 58) hx hb dX1_countWays_42 (by decide) ?_
              exact B58 v1 v2 (μ.1 5 (((v1 - (1 : Int32)) * (41 : Int32)) + v2).toNatClampNeg) (0 : Int32) μ _ _ _ hw (lv_sub hl [1, 2, 3, 0] rfl) h
      rw [X1_countWays_9b] at h
      refine lv_iload_n hx hb dX1_countWays_9 rfl (lv_at hl 1 rfl) ?_
      refine lv_bipush (v := (14 : Int32)) hx hb dX1_countWays_10 (by decide) ?_
      refine lv_icmp_ge (tgt := 93) hx hb dX1_countWays_12 (by decide) (fun hc => ?_) (fun hc => ?_)
      · rw [if_pos hc] at h
        exact srV hC hw hr hlocks rfl (by rw [← Option.some.inj h]) dX1_countWays_93
      · rw [if_neg hc] at h
        refine lv_iconst (v := (0 : Int32)) hx hb dX1_countWays_15 (by decide) ?_
        refine lv_istore_n (lv' := [(2, .int (0 : Int32)), (0, .ref (g.2.2 2)), (1, .int v1)]) hx hb dX1_countWays_16 rfl hl (by decide) rfl (fun ls hl => ?_)
        exact B17 n v1 (0 : Int32) μ _ _ _ hw (lv_sub hl [1, 2, 0] rfl) h
  refine lv_aload_n hx hb dX1_countWays_0 rfl (lv_at hl 0 rfl) ?_
  refine sgR (t := 5) hC hw fl_X1_18 ok2 (by decide) ot2_6 (by decide) dX1_countWays_1 ?_
  refine lv_iconst (v := (0 : Int32)) hx hb dX1_countWays_4 (by decide) ?_
  refine lv_iconst (v := (1 : Int32)) hx hb dX1_countWays_5 (by decide) ?_
  refine ssI (j := 0) hC hw ok5 on5 (vin (by decide)) (by decide) (by decide) dX1_countWays_6 (fun H locs hw => ?_)
  refine lv_iconst (v := (1 : Int32)) hx hb dX1_countWays_7 (by decide) ?_
  refine lv_istore_n (lv' := [(1, .int (1 : Int32)), (0, .ref (g.2.2 2))]) hx hb dX1_countWays_8 rfl hl (by decide) rfl (fun ls hl => ?_)
  exact B9 n (1 : Int32) (si μ 5 0 (1 : Int32)) _ _ _ hw (lv_sub hl [1, 0] rfl) h
set_option maxRecDepth 100000 in
set_option maxHeartbeats 4000000 in
theorem sc_X1_build (l : Launch) (g : Gw) (n : Nat) (μ : Mu) (r : Unit × Mu) (h : X1_build n  μ = some r) : sCt l g yX1_build cX1_build 2 none 3 [.ref (g.2.2 2)] μ none r.2 := by
  rw [X1_build] at h
  refine sCt.of (by decide) (Nat.le_of_ble_eq_true rfl) ?_
  intro p e s m args below meth c ls hC hw hr hlocks hl
  have hx := hC.1
  have hb := hC.2.1
  have hl : lv_has ls 2 [(0, .ref (g.2.2 2))] := hl
  have B72 : ∀ (s1 : Int32) (μ : Mu) (H : Heap) (locs : List Loc) (ls : Array Slot), swd g μ s (sAw g s.heap.size) H locs → lv_has ls 2 [] → X1_build_72 n s1 μ = some r → sWQ p l e (rmD 3) s m args below meth c g none r.2 H locs (F0 m 72 ls [.int s1, .ref (g.2.2 2)]) := by
    intro s1 μ H locs ls hw hl h
    rw [X1_build_72] at h
    obtain ⟨hz72, h⟩ := bz_some h
    refine spZ hC hw fl_X1_63 fp_1_3 ok2 hz72 (by decide) dX1_build_72 (fun H locs hw => ?_)
    exact srV hC hw hr hlocks rfl (by rw [← Option.some.inj h]) dX1_build_75
  have B67 : ∀ (μ : Mu) (H : Heap) (locs : List Loc) (ls : Array Slot), swd g μ s (sAw g s.heap.size) H locs → lv_has ls 2 [] → X1_build_67 n  μ = some r → sWQ p l e (rmD 3) s m args below meth c g none r.2 H locs (F0 m 67 ls [.ref (g.2.2 2)]) := by
    intro μ H locs ls hw hl h
    rw [X1_build_67] at h
    refine lv_iconst (v := (1 : Int32)) hx hb dX1_build_67 (by decide) ?_
    refine lv_goto (tgt := 72) hx hb dX1_build_68 (by decide) ?_
    exact B72 (1 : Int32) μ _ _ _ hw (lv_sub hl [] rfl) h
  have B71 : ∀ (μ : Mu) (H : Heap) (locs : List Loc) (ls : Array Slot), swd g μ s (sAw g s.heap.size) H locs → lv_has ls 2 [] → X1_build_71 n  μ = some r → sWQ p l e (rmD 3) s m args below meth c g none r.2 H locs (F0 m 71 ls [.ref (g.2.2 2)]) := by
    intro μ H locs ls hw hl h
    rw [X1_build_71] at h
    refine lv_iconst (v := (0 : Int32)) hx hb dX1_build_71 (by decide) ?_
    exact B72 (0 : Int32) μ _ _ _ hw (lv_sub hl [] rfl) h
  have B7 : ∀ (k : Nat), ∀ (v1 : Int32) (μ : Mu) (H : Heap) (locs : List Loc) (ls : Array Slot), swd g μ s (sAw g s.heap.size) H locs → lv_has ls 2 [(0, .ref (g.2.2 2)), (1, .int v1)] → lpF (fun _ _ => none) (X1_build_7b n) k v1 μ = some r → sWQ p l e (rmD 3) s m args below meth c g none r.2 H locs (F0 m 7 ls []) := by
    intro k
    induction k with
    | zero =>
      intro v1 μ H locs ls hw hl h
      cases h
    | succ k ih7 =>
      rw [lpF_s]
      generalize lpF (fun _ _ => none) (X1_build_7b n) k = k7 at ih7 ⊢
      intro v1 μ H locs ls hw hl h
      rw [X1_build_7b] at h
      refine lv_iload_n hx hb dX1_build_7 rfl (lv_at hl 1 rfl) ?_
      refine lv_iconst (v := (2 : Int32)) hx hb dX1_build_8 (by decide) ?_
      refine lv_icmp_ge (tgt := 28) hx hb dX1_build_9 (by decide) (fun hc => ?_) (fun hc => ?_)
      · rw [if_pos hc] at h
        refine lv_aload_n hx hb dX1_build_28 rfl (lv_at hl 0 rfl) ?_
        refine lv_aload_n hx hb dX1_build_29 rfl (lv_at hl 0 rfl) ?_
        refine sgR (t := 1) hC hw fl_X1_21 ok2 (by decide) ot2_4 (by decide) dX1_build_30 ?_
        refine sgI hC hw fl_X1_48 ok1 (by decide) (by decide) dX1_build_33 ?_
        refine lv_if_gt (tgt := 67) hx hb dX1_build_36 (by decide) (fun hc => ?_) (fun hc => ?_)
        · rw [if_pos hc] at h
          exact B67 μ _ _ _ hw (lv_sub hl [] rfl) h
        · rw [if_neg hc] at h
          refine lv_aload_n hx hb dX1_build_39 rfl (lv_at hl 0 rfl) ?_
          refine sgR (t := 1) hC hw fl_X1_21 ok2 (by decide) ot2_4 (by decide) dX1_build_40 ?_
          refine sgI hC hw fl_X1_54 ok1 (by decide) (by decide) dX1_build_43 ?_
          refine lv_if_eq (tgt := 71) hx hb dX1_build_46 (by decide) (fun hc => ?_) (fun hc => ?_)
          · rw [if_pos hc] at h
            exact B71 μ _ _ _ hw (lv_sub hl [] rfl) h
          · rw [if_neg hc] at h
            refine lv_aload_n hx hb dX1_build_49 rfl (lv_at hl 0 rfl) ?_
            refine sgR (t := 1) hC hw fl_X1_21 ok2 (by decide) ot2_4 (by decide) dX1_build_50 ?_
            refine sgI hC hw fl_X1_57 ok1 (by decide) (by decide) dX1_build_53 ?_
            refine lv_if_ne (tgt := 71) hx hb dX1_build_56 (by decide) (fun hc => ?_) (fun hc => ?_)
            · rw [if_neg hc] at h
              exact B71 μ _ _ _ hw (lv_sub hl [] rfl) h
            · rw [if_pos hc] at h
              refine lv_aload_n hx hb dX1_build_59 rfl (lv_at hl 0 rfl) ?_
              refine sgI hC hw fl_X1_60 ok2 (by decide) (by decide) dX1_build_60 ?_
              refine lv_iconst (v := (1 : Int32)) hx hb dX1_build_63 (by decide) ?_
              refine lv_icmp_ne (tgt := 71) hx hb dX1_build_64 (by decide) (fun hc => ?_) (fun hc => ?_)
              · rw [if_neg hc] at h
                exact B71 μ _ _ _ hw (lv_sub hl [] rfl) h
              · rw [if_pos hc] at h
                exact B67 μ _ _ _ hw (lv_sub hl [] rfl) h
      · rw [if_neg hc] at h
        refine lv_aload_n hx hb dX1_build_12 rfl (lv_at hl 0 rfl) ?_
        refine lv_iload_n hx hb dX1_build_13 rfl (lv_at hl 1 rfl) ?_
        obtain ⟨r14, hr14, h⟩ := bnd h
        refine scV (b := 2) (As := [.int v1]) (rest := []) (st1 := []) hC hw (sc_X1_linkWay l g n v1 μ r14 hr14) ml_X1_41 im_X1_linkWay se_X1_linkWay ok2 (CN := RX1) (T := TX1) (NF := 7) rfl rfl (by decide) rfl hl.1 ⟨Nat.le_of_ble_eq_true rfl, Nat.le_of_ble_eq_true rfl⟩ (Nat.le_of_ble_eq_true rfl) ⟨Nat.zero_le _, Nat.zero_le _⟩ rfl (by decide) dX1_build_14 (fun H locs hw => ?_)
        refine lv_aload_n hx hb dX1_build_17 rfl (lv_at hl 0 rfl) ?_
        refine lv_iload_n hx hb dX1_build_18 rfl (lv_at hl 1 rfl) ?_
        obtain ⟨r19, hr19, h⟩ := bnd h
        refine scV (b := 2) (As := [.int v1]) (rest := []) (st1 := []) hC hw (sc_X1_listSeen l g n v1 r14.2 r19 hr19) ml_X1_45 im_X1_listSeen se_X1_listSeen ok2 (CN := RX1) (T := TX1) (NF := 7) rfl rfl (by decide) rfl hl.1 ⟨Nat.le_of_ble_eq_true rfl, Nat.le_of_ble_eq_true rfl⟩ (Nat.le_of_ble_eq_true rfl) ⟨Nat.zero_le _, Nat.zero_le _⟩ rfl (by decide) dX1_build_19 (fun H locs hw => ?_)
        refine lv_iinc (v := (v1 + (1 : Int32))) (lv' := [(1, .int (v1 + (1 : Int32))), (0, .ref (g.2.2 2))]) hx hb dX1_build_22 hl (k := 1) rfl rfl (by decide) rfl (fun ls hl => ?_)
        refine lv_goto (tgt := 7) hx hb dX1_build_25 (by decide) ?_
        exact ih7 (v1 + (1 : Int32)) r19.2 _ _ _ hw (lv_sub hl [1, 0] rfl) h
  refine lv_aload_n hx hb dX1_build_0 rfl (lv_at hl 0 rfl) ?_
  refine lv_iconst (v := (1 : Int32)) hx hb dX1_build_1 (by decide) ?_
  refine spZ hC hw fl_X1_37 fp_1_2 ok2 (Or.inr rfl) (by decide) dX1_build_2 (fun H locs hw => ?_)
  refine lv_iconst (v := (0 : Int32)) hx hb dX1_build_5 (by decide) ?_
  refine lv_istore_n (lv' := [(1, .int (0 : Int32)), (0, .ref (g.2.2 2))]) hx hb dX1_build_6 rfl hl (by decide) rfl (fun ls hl => ?_)
  exact B7 n (0 : Int32) (si μ 2 2 (1 : Int32)) _ _ _ hw (lv_sub hl [1, 0] rfl) h
