/-! fields and elements that are set while the world is built; constructors' contracts -/
section KB
variable {p : Program} {l : Launch} {e : Env} {R : Room} {s : State} {m : MethodId} {args : Array Value} {below : List Frame} {meth : Method} {c : Code} {H : Heap} {locs : List Loc} {cells slots : Nat} {Q : State → Prop}
variable {cc : ByteArray} {pc nL : Nat} {ls : Array Slot} {rest : List Value} {own : String} {g : Gw} {B n : Nat} {E : Nat → va_E}
/-- a field that is set in a constructor -/
def FF (ci k : Nat) (T : u_T) (NF : Nat) (ty : Nat → FieldType) (t : FieldType) (fin : Bool) (own : String) : Prop := (T k).2.2.2 = fin ∧ (∀ k, k < NF → parseFieldDescriptor (T k).2.2.1 = some (ty k)) ∧ (∀ a, a < NF → ∀ b, b < NF → a ≠ b → (T a).2.1 ≠ (T b).2.1) ∧ parseFieldDescriptor (T k).2.2.1 = some t ∧ (T k).1 = own
theorem k_fin (C : Dx p s m args c cc nL own g B) {o ci k idx NF : Nat} {CN : String} {T : u_T} {ty : Nat → FieldType} {t : FieldType} {fs fs' : List Value} {v : Value} (hw : pd g B n (eset E o (.inr (ci, fs))) s H locs) (hin2 : meth.name = "<init>") (fl : FL own idx ci k CN T NF) (ff : FF ci k T NF ty t true own) (hi : o < NN) (hp : pi o < n) (hn : narrow t v = v) (hfit : fits t v = true) (hl : k < fs.length) (hfs : fs.set k v = fs') (dec : decode cc pc = .ok (.putfield idx, 3))
    (kk : ∀ H1 locs1, pd g B n (eset E o (.inr (ci, fs'))) s H1 locs1 → W p l e R s m args below meth c H1 locs1 cells slots Q (F0 m (pc + 3) ls rest)) : W p l e R s m args below meth c H locs cells slots Q (F0 m pc ls (v :: .ref (g.2.2 o) :: rest)) := by
  subst hfs
  obtain ⟨hx, hb, hml, hown, hts, hK, hG, hO⟩ := id C
  obtain ⟨hc, _, h3, h4, hin, h6⟩ := fl
  obtain ⟨hfin, hty, hnm, hd, hdecl⟩ := ff
  have hk : k < NF := by omega
  have hap := va_apart (own := own) hts hin ty hty hnm hK.1 hc
  have h0 := hw.1.2 o hi hp
  rw [eset_a] at h0
  obtain ⟨r, h1, cell, q1, q2, q3, q4⟩ := h0
  obtain rfl : r = (CN, T, NF) := Option.some.inj (h1.symm.trans hc)
  obtain ⟨hS, hfc, kC, hkC, hkind⟩ := hK.1.1 ci _ hc
  obtain ⟨cf, kf, fi, f, hif, hsl⟩ := hS k hk
  have hlay := hts _ (hin _ (u_in_lay hk))
  unfold u_lay at hlay
  rw [if_pos hfin] at hlay
  have hst := (u_facts hfc hkC (u_lays hts hin hk) hif).1
  have hcf : m.cls = cf := by
    obtain ⟨_, _, c', _, _, _, -, -, hf', -, -, -, hown2, -⟩ := Cond.laysFinal_spec hlay
    have e1 : c' = cf := by have := hif.symm.trans hf'; simp at this; exact this.1.symm
    rw [hdecl] at hown2
    rw [← e1]; exact Option.some.inj (hown.symm.trans hown2)
  have h7 := u_fits hfc hkC hkind (Or.inr hlay) hif hd hn hfit
  refine W.putFinK hx hb hown (hts _ h6) hif hst hcf hin2 (by rw [q2]; exact h7) q1 q3 (by rw [hsl]; exact k2_hasslot (q4 k hk)) rfl rfl dec fun H' e1 e2 e3 => ?_
  rw [hsl] at e1 ⊢
  have hP := PW_set (x := .inr (ci, fs.set k v)) hG hw.1 hi e2 e3 ⟨_, hc, t_OB.to (V := updV (vp_V fs) k v) ⟨_, e1, q2, q3, t_set q4 hap hk v⟩ (fun j _ => vp_updV_set hl v j)⟩
  rw [eset_s] at hP
  exact kk H' _ ⟨hP, pd_put C hw hi e2 e3⟩
theorem k_put (C : Dx p s m args c cc nL own g B) {o ci k idx NF : Nat} {CN : String} {T : u_T} {ty : Nat → FieldType} {t : FieldType} {fs fs' : List Value} {v : Value} (hw : pd g B n (eset E o (.inr (ci, fs))) s H locs) (fl : FL own idx ci k CN T NF) (ff : FF ci k T NF ty t false own) (hi : o < NN) (hp : pi o < n) (hn : narrow t v = v) (hfit : fits t v = true) (hl : k < fs.length) (hfs : fs.set k v = fs') (dec : decode cc pc = .ok (.putfield idx, 3))
    (kk : ∀ H1 locs1, pd g B n (eset E o (.inr (ci, fs'))) s H1 locs1 → W p l e R s m args below meth c H1 locs1 cells slots Q (F0 m (pc + 3) ls rest)) : W p l e R s m args below meth c H locs cells slots Q (F0 m pc ls (v :: .ref (g.2.2 o) :: rest)) := by
  subst hfs
  obtain ⟨hx, hb, hml, hown, hts, hK, hG, hO⟩ := id C
  obtain ⟨hc, _, h3, h4, hin, h6⟩ := fl
  obtain ⟨hfin, hty, hnm, hd, hdecl⟩ := ff
  have hk : k < NF := by omega
  have hap := va_apart (own := own) hts hin ty hty hnm hK.1 hc
  have h0 := hw.1.2 o hi hp
  rw [eset_a] at h0
  obtain ⟨r, h1, cell, q1, q2, q3, q4⟩ := h0
  obtain rfl : r = (CN, T, NF) := Option.some.inj (h1.symm.trans hc)
  obtain ⟨hS, hfc, kC, hkC, hkind⟩ := hK.1.1 ci _ hc
  obtain ⟨cf, kf, fi, f, hif, hsl⟩ := hS k hk
  have hlay := hts _ (hin _ (u_in_lay hk))
  unfold u_lay at hlay
  rw [if_neg (by rw [hfin]; decide)] at hlay
  have hst := (u_facts hfc hkC (u_lays hts hin hk) hif).1
  have h7 := u_store hfc hkC hkind hlay hif hd hn hfit
  refine W.putK hx hb (f := f) ⟨hown, hts _ h6, ⟨_, _, _, hif⟩, hst⟩ (by rw [q2]; exact h7) q1 q3 (by rw [hsl]; exact k2_hasslot (q4 k hk)) rfl rfl dec fun H' e1 e2 e3 => ?_
  rw [hsl] at e1 ⊢
  have hP := PW_set (x := .inr (ci, fs.set k v)) hG hw.1 hi e2 e3 ⟨_, hc, t_OB.to (V := updV (vp_V fs) k v) ⟨_, e1, q2, q3, t_set q4 hap hk v⟩ (fun j _ => vp_updV_set hl v j)⟩
  rw [eset_s] at hP
  exact kk H' _ ⟨hP, pd_put C hw hi e2 e3⟩
theorem k_ast (C : Dx p s m args c cc nL own g B) {o k0 o2 ci : Nat} {r : vw_C} {N : Nat} {vs : List Value} {f : Nat → Option Nat} {i : Int32} (hw : pd g B n (eset E o (.inl (g.2.1 k0, N, .inr (.inr (.inr (.inr f)))))) s H locs) (hi : o < NN) (hp : pi o < n) (ht : (tyL g)[k0]? = some (g.2.1 k0, .object r.1)) (hi2 : o2 < NN) (hp2 : pi o2 < n) (hne : o2 ≠ o) (hv : E o2 = .inr (ci, vs)) (hc : vwCl[ci]? = some r) (hin : vp_in i N) (dec : decode cc pc = .ok (.aastore, 1))
    (kk : ∀ H1 locs1, pd g B n (eset E o (.inl (g.2.1 k0, N, .inr (.inr (.inr (.inr (va_up f i.toNatClampNeg (some (g.2.2 o2)))))))))  s H1 locs1 → W p l e R s m args below meth c H1 locs1 cells slots Q (F0 m (pc + 1) ls rest)) : W p l e R s m args below meth c H locs cells slots Q (F0 m pc ls (.ref (g.2.2 o2) :: .int i :: .ref (g.2.2 o) :: rest)) := by
  obtain ⟨hx, hb, hml, hown, hts, hK, hG, hO⟩ := id C
  have hlt : i.toNatClampNeg < N := Nat.not_le.mp fun q => hin (Or.inr q)
  have h0 : ¬ i < 0 := fun q => hin (Or.inl q)
  have a0 := hw.1.2 o hi hp
  rw [eset_a] at a0
  have a2 := hw.1.2 o2 hi2 hp2
  rw [eset_b hne, hv] at a2
  obtain ⟨r', hr', cellV, g1, g2, g3, -⟩ := a2
  have hcls := (hK.1.1 ci r hc).2
  obtain ⟨kA, comp, k1, k2, k3, -⟩ := (hK.1.2 k0 _ ht).2
  have hcomp : comp = g.1.1 ci := Option.some.inj (k3.symm.trans hcls.1)
  subst hcomp
  obtain ⟨kC, hkC, -⟩ := hcls.2
  refine W.aast hx hb a0 (fun q h => by cases h) (fun h => by cases h) k1 k2 rfl hkC ⟨h0, by show _ < (arrV _ _ _).slots.size; rw [arrV_size]; exact hlt⟩ g1 (fun q h => by rw [g3] at h; cases h) (by rw [g2]; exact hkC) (by rw [g2]; exact va_assign hcls) rfl rfl dec fun H1 e1 z oq => ?_
  have hP := PW_set (x := .inl (g.2.1 k0, N, .inr (.inr (.inr (.inr (va_up f i.toNatClampNeg (some (g.2.2 o2)))))))) hG hw.1 hi z oq (by
    show H1[g.2.2 o]? = some (vp_cell _ _)
    rw [e1, vp_cell_q, vp_cell_q, arrV_store]
    congr 2
    funext q
    by_cases hq : q = i.toNatClampNeg
    · subst hq
      simp [updV, va_up, va_rf]
    · simp [updV, va_up, hq])
  rw [eset_s] at hP
  exact kk H1 _ ⟨hP, pd_put C hw hi z oq⟩
theorem k_ias (C : Dx p s m args c cc nL own g B) {o : Nat} {N : Nat} {f : Nat → Int32} {i x : Int32} (hw : pd g B n (eset E o (.inl (g.2.1 0, N, .inl f))) s H locs) (hi : o < NN) (hp : pi o < n) (hin : vp_in i N) (dec : decode cc pc = .ok (.iastore, 1))
    (kk : ∀ H1 locs1, pd g B n (eset E o (.inl (g.2.1 0, N, .inl (upd f i.toNatClampNeg x)))) s H1 locs1 → W p l e R s m args below meth c H1 locs1 cells slots Q (F0 m (pc + 1) ls rest)) : W p l e R s m args below meth c H locs cells slots Q (F0 m pc ls (.int x :: .int i :: .ref (g.2.2 o) :: rest)) := by
  obtain ⟨hx, hb, hml, hown, hts, hK, hG, hO⟩ := id C
  have a0 := hw.1.2 o hi hp
  rw [eset_a] at a0
  refine W.iast hx hb a0 ((hK.1.2 0 _ rfl).1 N (fun j => .int (f j))) (fun q => by cases q) (by show ¬ (i < 0 ∨ (arrV _ _ _).slots.size ≤ _); rw [arrV_size]; exact hin) rfl rfl dec fun H1 e1 z oq => ?_
  have hP := PW_set (x := .inl (g.2.1 0, N, .inl (upd f i.toNatClampNeg x))) hG hw.1 hi z oq (by
    show H1[g.2.2 o]? = some (vp_cell _ _)
    rw [e1, vp_cell_i, vp_cell_i, arrV_store]
    congr 2
    funext q
    by_cases hq : q = i.toNatClampNeg
    · subst hq
      simp [updV, upd]
    · simp [updV, upd, hq])
  rw [eset_s] at hP
  exact kk H1 _ ⟨hP, pd_put C hw hi z oq⟩
end KB
/-- a constructor's contract: from n cells that hold E to n + k that hold E' -/
def KT (l : Launch) (g : Gw) (B : Nat) (y : MethodName) (cc : ByteArray) (nL d k sl : Nat) (av : List Value) (n : Nat) (E E' : Nat → va_E) : Prop :=
  Met l y (Cond.code y cc nL none :: gt) { frames := d, cells := k, slots := sl, locals := 40 * d } (va_Pc av (fun U => PW g B n E U.heap ∧ Kn g U ∧ AOs U)) (fun _ st oc t => oc = .returned none ∧ PW g B (n + k) E' t.heap ∧ ∀ q, q < B → t.heap[q]? = st.heap[q]?) k sl (fun q => B ≤ q)
def QKb (g : Gw) (B n : Nat) (E' : Nat → va_E) : Array Value → State → Outcome → State → Prop := fun _ st oc t => oc = .returned none ∧ PW g B n E' t.heap ∧ ∀ q, q < B → t.heap[q]? = st.heap[q]?
theorem KT.of {l : Launch} {g : Gw} {B : Nat} {y : MethodName} {cc : ByteArray} {nL d k sl : Nat} {av : List Value} {n : Nat} {E E' : Nat → va_E} (hG : GB g B) (hy : plainName y.cls = true) (hlen : (lg_sl av).length ≤ nL)
    (body : ∀ (p : Program) (e : Env) (s : State) (m : MethodId) (args : Array Value) (below : List Frame) (meth : Method) (c : Code) (ls : Array Slot), Dx p s m args c cc nL y.cls g B → pd g B n E s s.heap [] → meth.sig.returnType = none → meth.locks = false → meth.name = y.name → lv_has ls nL (lv_args 0 av) →
      W p l e { frames := d, cells := k, slots := sl, locals := 40 * d } s m args below meth c s.heap [] 0 0 (MQ below (QKb g B (n + k) E') args s k sl (fun q => B ≤ q)) (F0 m 0 ls [])) : KT l g B y cc nL d k sl av n E E' := by
  refine Met.ofW (cc := cc) (maxL := nL) (ret := none) hy rfl ?_
  intro p e s m args below meth c s₁ B0 hml hv
  obtain ⟨rfl, hP, hK, hO⟩ := hv
  have hts := atoms_spec (ws := Cond.code y cc nL none :: gt) B0.pre
  have hown : s.vm.findClass y.cls = some m.cls := findClass_of_methodNamed B0.named
  have hl := lv_entry av (n := nL) hlen
  rw [lg_entry_eq]
  exact body p e s m _ below meth c _ ⟨B0.exec, B0.bytes, hml, hown, fun w hw => hts w (List.mem_cons_of_mem _ hw), hK, hG, hO, by rw [hP.1]; omega⟩ ⟨hP, va_S.rf⟩ B0.returns B0.notSynchronized (name_of_methodNamed B0.named B0.method).1 hl
section KC
variable {p : Program} {l : Launch} {e : Env} {R : Room} {s : State} {m : MethodId} {args : Array Value} {below : List Frame} {meth : Method} {c : Code} {H : Heap} {locs : List Loc} {cells slots : Nat} {Q : State → Prop}
variable {cc : ByteArray} {pc nL : Nat} {ls : Array Slot} {rest : List Value} {own : String} {g : Gw} {B n : Nat} {E : Nat → va_E}
theorem k_ret (C : Dx p s m args c cc nL own g B) (hw : pd g B n E s H locs) (hr : meth.sig.returnType = none) (hlocks : meth.locks = false) {N k sl : Nat} {E' : Nat → va_E} (hE : E = E') (hn : n = N) (h1 : cells ≤ k) (h2 : slots ≤ sl) (dec : decode cc pc = .ok (.return_, 1)) : W p l e R s m args below meth c H locs cells slots (MQ below (QKb g B N E') args s k sl (fun q => B ≤ q)) (F0 m pc ls []) := by
  subst hE
  subst hn
  refine W.widen h1 h2 ?_
  exact W.vret C.1 C.2.1 hr (fun t ht hW => ⟨rfl, by rw [ht]; exact hw.1, fun q hq => by
    rw [ht]
    exact hw.2.2.1 q (Nat.lt_of_lt_of_le hq C.2.2.2.2.2.2.2.2) (by omega)⟩) hw.2.2.2 dec
theorem k_ctor (C : Dx p s m args c cc nL own g B) (hw : pd g B n E s H locs) {y : MethodName} {cc' : ByteArray} {nL' idx na b d k sl : Nat} {As : List Value} {E' : Nat → va_E} (hM : KT l g B y cc' nL' d k sl (.ref (g.2.2 b) :: As) n E E') (ml : ML own idx y cc' nL' none na) (hi : Cond.instanceMethod y ∈ gt) (hy : y.name = "<init>") (hn : As.length = na) (hsz : ls.size = nL) (hR : d + 1 ≤ R.frames ∧ 8 + (nL' + 11) + 40 * d ≤ R.locals) (hrm : (rest.map fun v => v.category).sum ≤ 8) (h1 : cells + k ≤ R.cells) (h2 : slots + sl ≤ R.slots) (dec : decode cc pc = .ok (.invokespecial idx, 3))
    (kk : ∀ (H1 : Heap) (locs1 : List Loc), pd g B (n + k) E' s H1 locs1 → W p l e R s m args below meth c H1 locs1 (cells + k) (slots + sl) Q (F0 m (pc + 3) ls rest)) : W p l e R s m args below meth c H locs cells slots Q (F0 m pc ls (As.reverse ++ .ref (g.2.2 b) :: rest)) := by
  obtain ⟨hx, hb, hml, hown, hts, hK, hG, hO, hB⟩ := id C
  have hr := va_runI (l := l) (e := e) (R := R) (below := below) (meth := meth) (H := H) (locs := locs) (cells := cells) (slots := slots) (g := F0 m pc ls (As.reverse ++ .ref (g.2.2 b) :: rest)) (b := g.2.2 b) (As := As) (rest := rest) ⟨hx, hb, hml, hown, hts⟩ hM (cwI na hts (gt_in ml.2.1) rfl rfl rfl (hts _ ml.2.2.1) (hts _ ml.1) (hts _ hi) hy ml.2.2.2 hR)
    ⟨fun a U g9 mk h => ⟨h.1, h.2.1, Kn.same (s := U) (U := U.calling g9 mk a) rfl h.2.2.1, AOs.moved (s := U) (U := U.calling g9 mk a) (Vm.Alike.refl U.vm) h.2.2.2⟩, fun U hU hW => ⟨rfl, by rw [hU]; exact hw.1, Kn.moved hW hK, AOs.moved hW.alike hO⟩⟩ rfl hn hsz rfl (lv_room hrm) dec ⟨h1, h2⟩
  intro T hT X
  obtain ⟨v, st₀, t, T', L, h0, X', hL, e1, e2, ⟨hv, hP, hk⟩, st⟩ := hr T hT X
  cases hv
  obtain ⟨t2, a1, b1⟩ := kk T'.heap (locs ++ L) ⟨by rw [e1]; exact hP, (by have h3 := hw.2.1; rw [hw.1.1] at h3; rw [e1, hP.1]; omega), fun q q1 q2 => by
      rw [e1, hk q (by omega), h0]
      exact hw.2.2.1 q q1 q2, fun q hq => by
      rcases List.mem_append.mp hq with h | h
      · exact hw.2.2.2 q h
      · exact hL q h⟩ T' rfl X'
  exact ⟨t2, st t2 a1, b1⟩
end KC
