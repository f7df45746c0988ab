/-! the world is built: its cells come in a fixed order -/
def ordL : List Nat := [0, 1, 2, 3, 4, 5, 6, 7, 8, 57, 58, 59, 60, 61, 62, 63, 64, 65, 66, 67, 68, 53, 54, 55, 56, 9, 10, 11, 69, 70, 71, 72, 73, 74, 75, 76, 77, 78, 79, 80, 81, 82, 83, 84, 85, 86, 87, 88, 89, 90, 91, 92, 93, 94, 95, 96, 97, 98, 99, 100, 101, 102, 103, 104, 105, 106, 107, 108, 109, 110, 111, 112, 113, 114, 115, 116, 117, 118, 119, 120, 121, 122, 123, 124, 125, 126, 127, 128, 129, 130, 131, 132, 133, 134, 135, 136, 137, 138, 139, 140, 141, 142, 143, 144, 145, 146, 147, 148, 12, 13, 149, 150, 14, 15, 16, 17, 151, 152, 18, 19, 20, 21, 22, 153, 154, 23, 24, 25, 26, 27, 169, 170, 28, 29, 30, 155, 156, 157, 158, 159, 160, 161, 162, 163, 164, 165, 166, 167, 168, 31, 32, 33, 34, 35, 36, 37, 38, 39, 40, 41, 42, 43, 44, 45, 46, 47, 48, 49, 50, 51, 52, 171, 172, 173, 174, 175, 176, 177, 178, 179, 180, 181, 182, 183, 184, 185, 186, 187, 188, 189, 190, 191, 192, 193, 194, 195, 196, 197, 198, 199, 200, 201]
def piL : List Nat := [0, 1, 2, 3, 4, 5, 6, 7, 8, 25, 26, 27, 108, 109, 112, 113, 114, 115, 118, 119, 120, 121, 122, 125, 126, 127, 128, 129, 132, 133, 134, 149, 150, 151, 152, 153, 154, 155, 156, 157, 158, 159, 160, 161, 162, 163, 164, 165, 166, 167, 168, 169, 170, 21, 22, 23, 24, 9, 10, 11, 12, 13, 14, 15, 16, 17, 18, 19, 20, 28, 29, 30, 31, 32, 33, 34, 35, 36, 37, 38, 39, 40, 41, 42, 43, 44, 45, 46, 47, 48, 49, 50, 51, 52, 53, 54, 55, 56, 57, 58, 59, 60, 61, 62, 63, 64, 65, 66, 67, 68, 69, 70, 71, 72, 73, 74, 75, 76, 77, 78, 79, 80, 81, 82, 83, 84, 85, 86, 87, 88, 89, 90, 91, 92, 93, 94, 95, 96, 97, 98, 99, 100, 101, 102, 103, 104, 105, 106, 107, 110, 111, 116, 117, 123, 124, 135, 136, 137, 138, 139, 140, 141, 142, 143, 144, 145, 146, 147, 148, 130, 131, 171, 172, 173, 174, 175, 176, 177, 178, 179, 180, 181, 182, 183, 184, 185, 186, 187, 188, 189, 190, 191, 192, 193, 194, 195, 196, 197, 198, 199, 200, 201]
def pi (i : Nat) : Nat := piL.getD i 0
theorem pi_o : ∀ i, i < NN → ordL.getD (pi i) 0 = i := by decide +kernel
theorem pi_inj {i j : Nat} (hi : i < NN) (hj : j < NN) (h : pi i = pi j) : i = j := by
  rw [← pi_o i hi, h, pi_o j hj]
theorem pi_lt : ∀ i, i < NN → pi i < NN := by decide +kernel
def eset (E : Nat → va_E) (k : Nat) (x : va_E) : Nat → va_E := fun j => if j = k then x else E j
theorem eset_a {E : Nat → va_E} {k : Nat} {x : va_E} : eset E k x k = x := if_pos rfl
theorem eset_b {E : Nat → va_E} {k j : Nat} {x : va_E} (h : j ≠ k) : eset E k x j = E j := if_neg h
theorem eset_e {E : Nat → va_E} {k : Nat} {x : va_E} (h : E k = x) : eset E k x = E := by
  funext j
  unfold eset
  by_cases c : j = k
  · rw [if_pos c, c]; exact h.symm
  · rw [if_neg c]
theorem eset_s {E : Nat → va_E} {k : Nat} {x y : va_E} : eset (eset E k x) k y = eset E k y := by
  funext j
  unfold eset
  by_cases c : j = k
  · rw [if_pos c, if_pos c]
  · rw [if_neg c, if_neg c, if_neg c]
theorem eset_c {E : Nat → va_E} {a b : Nat} {x y : va_E} (h : a ≠ b) : eset (eset E a x) b y = eset (eset E b y) a x := by
  funext j
  unfold eset
  by_cases c : j = a
  · rw [if_neg (fun q => h (c.symm.trans q)), if_pos c, if_pos c]
  · rw [if_neg c, if_neg c]
/-- the first n cells lie from B on, the cell i holds E i -/
def PW (g : Gw) (B n : Nat) (E : Nat → va_E) (H : Heap) : Prop := H.size = B + n ∧ ∀ i, i < NN → pi i < n → va_at g.1 vwCl (g.2.2 i, E i) H
def GB (g : Gw) (B : Nat) : Prop := ∀ i, i < NN → g.2.2 i = B + pi i
def AOs (U : State) : Prop := va_AO "SowingHouse$Scene" U ∧ va_AO "SowingHouse$Tray" U ∧ va_AO "SowingHouse$Image" U
theorem AOs.moved {s U : State} (hvm : s.vm.Alike U.vm) (h : AOs s) : AOs U := ⟨h.1.moved hvm, h.2.1.moved hvm, h.2.2.moved hvm⟩
theorem PW_cg {g : Gw} {B n : Nat} {E E' : Nat → va_E} {H : Heap} (h : PW g B n E H) (e : ∀ i, i < NN → pi i < n → E' i = E i) : PW g B n E' H := ⟨h.1, fun i h1 h2 => by rw [e i h1 h2]; exact h.2 i h1 h2⟩
/-- the fixed things of a walk that builds -/
def Dx (p : Program) (s : State) (m : MethodId) (args : Array Value) (c : Code) (cc : ByteArray) (nL : Nat) (own : String) (g : Gw) (B : Nat) : Prop :=
  p.tables.exec = Jvm.exec ∧ c.code = cc ∧ c.maxLocals = nL ∧ s.vm.findClass own = some m.cls ∧ (∀ w ∈ gt, w.before args s = true) ∧ Kn g s ∧ GB g B ∧ AOs s ∧ B ≤ s.heap.size
def pd (g : Gw) (B n : Nat) (E : Nat → va_E) (s : State) (H : Heap) (locs : List Loc) : Prop := PW g B n E H ∧ va_S (fun q => B ≤ q) s.heap H locs
theorem pd_cg {g : Gw} {B n : Nat} {E E' : Nat → va_E} {s : State} {H : Heap} {locs : List Loc} (h : pd g B n E s H locs) (e : ∀ i, i < NN → pi i < n → E' i = E i) : pd g B n E' s H locs := ⟨PW_cg h.1 e, h.2⟩
/-- a new cell: what was there stays -/
theorem PW_new {g : Gw} {B n i : Nat} {E : Nat → va_E} {x : va_E} {H H1 : Heap} (hG : GB g B) (h : PW g B n E H) (hi : i < NN) (hp : pi i = n) (z : H1.size = H.size + 1) (o1 : ∀ q, q < H.size → H1[q]? = H[q]?) (hx : va_at g.1 vwCl (g.2.2 i, x) H1) : PW g B (n + 1) (eset E i x) H1 := by
  refine ⟨by rw [z, h.1]; omega, fun j hj hpj => ?_⟩
  by_cases c : j = i
  · rw [c, eset_a]; exact hx
  · rw [eset_b c]
    have c2 : pi j ≠ n := fun q => c (pi_inj hj hi (q.trans hp.symm))
    refine (h.2 j hj (by omega)).kept (o1 _ ?_)
    show g.2.2 j < H.size
    rw [hG j hj, h.1]
    omega
/-- a cell that is changed -/
theorem PW_set {g : Gw} {B n o : Nat} {E : Nat → va_E} {x : va_E} {H H1 : Heap} (hG : GB g B) (h : PW g B n E H) (hi : o < NN) (z : H1.size = H.size) (o1 : ∀ q : Nat, q ≠ g.2.2 o → H1[q]? = H[q]?) (hx : va_at g.1 vwCl (g.2.2 o, x) H1) : PW g B n (eset E o x) H1 := by
  refine ⟨by rw [z, h.1], fun j hj hpj => ?_⟩
  by_cases c : j = o
  · rw [c, eset_a]; exact hx
  · rw [eset_b c]
    refine (h.2 j hj hpj).kept (o1 _ ?_)
    show g.2.2 j ≠ g.2.2 o
    rw [hG j hj, hG o hi]
    exact fun q => c (pi_inj hj hi (by omega))
section KB
variable {p : Program} {l : Launch} {e : Env} {R : Room} {s : State} {m : MethodId} {args : Array Value} {below : List Frame} {meth : Method} {c : Code} {H : Heap} {locs : List Loc} {cells slots : Nat} {Q : State → Prop}
variable {cc : ByteArray} {pc nL : Nat} {ls : Array Slot} {rest : List Value} {own : String} {g : Gw} {B n : Nat} {E : Nat → va_E}
theorem pd_S (C : Dx p s m args c cc nL own g B) (hw : pd g B n E s H locs) {H1 : Heap} (z : H1.size = H.size + 1) (o1 : ∀ q, q < H.size → H1[q]? = H[q]?) : va_S (fun q => B ≤ q) s.heap H1 locs :=
  ⟨Nat.le_trans hw.2.1 (by omega), fun q h1 h2 => (o1 q (Nat.lt_of_lt_of_le h1 hw.2.1)).trans (hw.2.2.1 q h1 h2), hw.2.2.2⟩
theorem k_new (C : Dx p s m args c cc nL own g B) (hw : pd g B n E s H locs) {i ci idx NF : Nat} {CN : String} {T : u_T} (ty : Nat → FieldType) {fs : List Value} (hi : i < NN) (hpi : pi i = n) (hc : vwCl[ci]? = some (CN, T, NF)) (hin : ∀ w ∈ u_ws CN T NF, w ∈ gt) (hty : ∀ k, k < NF → parseFieldDescriptor (T k).2.2.1 = some (ty k)) (hcl : Cond.classLink own idx CN ∈ gt) (hins : Cond.instantiable CN NF ∈ gt) (hini : Cond.initialized CN ∈ gt) (hfs : ∀ j, j < NF → defaultValue (ty j) = vp_V fs j) (h1 : cells + 1 ≤ R.cells) (h2 : slots + NF ≤ R.slots) (dec : decode cc pc = .ok (.new idx, 3))
    (kk : ∀ H1, pd g B (n + 1) (eset E i (.inr (ci, fs))) s H1 locs → W p l e R s m args below meth c H1 locs (cells + 1) (slots + NF) Q (F0 m (pc + 3) ls (.ref (g.2.2 i) :: rest))) : W p l e R s m args below meth c H locs cells slots Q (F0 m pc ls rest) := by
  obtain ⟨hx, hb, hml, hown, hts, hK, hG, hO⟩ := id C
  have hKn := hK.1.1 ci _ hc
  have ea : g.2.2 i = H.size := by rw [hG i hi, hw.1.1, hpi]
  refine W.newcK hx hb hown (hts _ hcl) (hts _ hins) (hts _ hini) rfl dec h1 h2 hKn.2.1 ea.symm fun H1 kC hkC e1 z1 o1 => ?_
  rw [ea] at z1 o1
  refine kk H1 ⟨PW_new hG hw.1 hi hpi z1 o1 ⟨_, hc, (u_born ty hts hin hKn hkC e1 hty).to hfs⟩, pd_S C hw z1 o1⟩
theorem k_arr (C : Dx p s m args c cc nL own g B) (hw : pd g B n E s H locs) {i k : Nat} {atype : ArrayType} {N : Int32} {N' : Nat} {a0 : vp_A} (hi : i < NN) (hpi : pi i = n) (harr : Cond.arrayClass (newarray.typeOf atype) ∈ gt) (hra : s.vm.findClass ("[" ++ (newarray.typeOf atype).toString) = some (g.2.1 k)) (hE : E i = .inl (g.2.1 k, a0)) (ha : ∀ cA : ClassId, vp_cell cA a0 = arrV cA N' (fun _ => defaultValue (newarray.typeOf atype))) (hn : ¬ N < 0) (hN : N.toNatClampNeg = N') (hbytes : N' * componentBytes (newarray.typeOf atype) ≤ 536870912) (h1 : cells + 1 ≤ R.cells) (h2 : slots + N' ≤ R.slots) (dec : decode cc pc = .ok (.newarray atype, 2))
    (kk : ∀ H1, pd g B (n + 1) E s H1 locs → W p l e R s m args below meth c H1 locs (cells + 1) (slots + N') Q (F0 m (pc + 2) ls (.ref (g.2.2 i) :: rest))) : W p l e R s m args below meth c H locs cells slots Q (F0 m pc ls (.int N :: rest)) := by
  obtain ⟨hx, hb, hml, hown, hts, hK, hG, hO⟩ := id C
  have ea : g.2.2 i = H.size := by rw [hG i hi, hw.1.1, hpi]
  refine va_newaK hx hb (hts _ harr) rfl dec rfl hn hN hbytes h1 h2 ea.symm fun H1 cA e1 z1 o1 hAr hNm => ?_
  obtain rfl : g.2.1 k = cA := Option.some.inj (hra.symm.trans hNm)
  rw [ea] at z1 o1
  have hx : va_at g.1 vwCl (g.2.2 i, E i) H1 := by
    rw [hE]
    show H1[g.2.2 i]? = some (vp_cell _ _)
    rw [ha]
    exact e1
  have hp := PW_new (x := E i) hG hw.1 hi hpi z1 o1 hx
  rw [eset_e rfl] at hp
  exact kk H1 ⟨hp, pd_S C hw z1 o1⟩
theorem k_ref (C : Dx p s m args c cc nL own g B) (hw : pd g B n E s H locs) {i k idx : Nat} {CN : String} {N : Int32} {N' : Nat} (hi : i < NN) (hpi : pi i = n) (hcl : Cond.classLink own idx CN ∈ gt) (hov : va_AO CN s) (hk : (tyL g)[k]? = some (g.2.1 k, .object CN)) (hn : ¬ N < 0) (hN : N.toNatClampNeg = N') (hbytes : N' * 4 ≤ 536870912) (h1 : cells + 1 ≤ R.cells) (h2 : slots + N' ≤ R.slots) (dec : decode cc pc = .ok (.anewarray idx, 3))
    (kk : ∀ H1, pd g B (n + 1) (eset E i (.inl (g.2.1 k, N', .inr (.inr (.inr (.inr (fun _ => none))))))) s H1 locs → W p l e R s m args below meth c H1 locs (cells + 1) (slots + N') Q (F0 m (pc + 3) ls (.ref (g.2.2 i) :: rest))) : W p l e R s m args below meth c H locs cells slots Q (F0 m pc ls (.int N :: rest)) := by
  obtain ⟨hx, hb, hml, hown, hts, hK, hG, hO⟩ := id C
  have ea : g.2.2 i = H.size := by rw [hG i hi, hw.1.1, hpi]
  subst hN
  refine W.anew hx hb hown (hts _ hcl) (va_AO.use hov) rfl dec rfl hn hbytes h1 h2 fun cA kA comp f1 f2 f3 f4 => ?_
  obtain ⟨kA', comp', _, _, _, r4⟩ := (hK.1.2 k _ hk).2
  obtain rfl : g.2.1 k = cA := Option.some.inj (r4.symm.trans f1)
  generalize hH1 : H.push ({ cls := g.2.1 k, slots := Array.replicate N.toNatClampNeg .null, vm := .none } : Cell) = H1
  have z1 : H1.size = H.size + 1 := by rw [← hH1, Array.size_push]
  have e1 : H1[H.size]? = some (arrV (g.2.1 k) N.toNatClampNeg (fun _ => .null)) := by rw [← hH1, Array.getElem?_push_size, ← arrV_new]
  have o1 : ∀ q : Nat, q < H.size → H1[q]? = H[q]? := fun q hq => by rw [← hH1, Array.getElem?_push, if_neg (Nat.ne_of_lt hq)]
  have := kk H1 ⟨PW_new hG hw.1 hi hpi z1 o1 (by
    show H1[g.2.2 i]? = some (vp_cell _ _)
    rw [ea, vp_cell_q]
    exact e1), pd_S C hw z1 o1⟩
  rw [ea] at this
  exact this
theorem pd_put (C : Dx p s m args c cc nL own g B) (hw : pd g B n E s H locs) {o k : Nat} (hi : o < NN) {H1 : Heap} (z : H1.size = H.size) (o1 : ∀ q, q ≠ g.2.2 o → H1[q]? = H[q]?) : va_S (fun q => B ≤ q) s.heap H1 (locs ++ [⟨g.2.2 o, k⟩]) := by
  have hA : B ≤ g.2.2 o := by rw [C.2.2.2.2.2.2.1 o hi]; omega
  exact hw.2.put z o1 hA
theorem k_get (C : Dx p s m args c cc nL own g B) (hw : pd g B n E s H locs) {o ci k idx NF : Nat} {CN : String} {T : u_T} {fs : List Value} {v : Value} (fl : FL own idx ci k CN T NF) (hi : o < NN) (hp : pi o < n) (hE : E o = .inr (ci, fs)) (hv : fs[k]? = some v) (dec : decode cc pc = .ok (.getfield idx, 3))
    (kk : W p l e R s m args below meth c H locs cells slots Q (F0 m (pc + 3) ls (v :: rest))) : W p l e R s m args below meth c H locs cells slots Q (F0 m pc ls (.ref (g.2.2 o) :: rest)) := by
  obtain ⟨hx, hb, hml, hown, hts, hK, hG, hO⟩ := id C
  obtain ⟨h1, h2, h3, h4, h5, h6⟩ := fl
  have hP : va_P g.1 vwCl [(g.2.2 o, .inr (ci, fs))] H := fun j q hj => by
    have hj0 : j = 0 := by have := (List.getElem?_eq_some_iff.mp hj).1; simpa using this
    subst hj0
    obtain rfl := (Option.some.inj hj).symm
    rw [← hE]
    exact hw.1.2 o hi hp
  exact va_get (D := g.1) (cl := vwCl) (tys := tyL g) (ci := ci) (v := v) (C := CN) (T := T) (N := NF) hx hb hts h5 hown hK.1 hP 0 (fs := fs) rfl h1 k (by omega) (hts _ h6) (fun _ h9 => h9) hv dec kk
end KB
