/-! a call in the small world, while the large one is built -/
theorem Met.sz {l : Launch} {y : MethodName} {ws : List Cond} {rm : Room} {Pc : Array Value → State → Prop} {Qc : Array Value → State → Outcome → State → Prop} {ms : Nat} {free : Addr → Prop} (h : Met l y ws rm Pc Qc 0 ms free) : Met l y ws rm Pc (fun a st o t => Qc a st o t ∧ t.heap.size ≤ st.heap.size) 0 ms free := by
  intro p e a1 a2 a3 s m args below b1 b2 b3 b4
  obtain ⟨n, o, h1, h2, h3, hq, L, hF, hL⟩ := h p e a1 a2 a3 s m args below b1 b2 b3 b4
  exact ⟨n, o, h1, h2, h3, ⟨hq, hF.2.2.2.2.1⟩, L, hF, hL⟩
section KM
variable {p : Program} {l : Launch} {e : Env} {R : Room} {s : State} {m : MethodId} {args : Array Value} {below : List Frame} {meth : Method} {c : Code} {H : Heap} {locs : List Loc} {cells slots : Nat} {Q : State → Prop}
variable {cc : ByteArray} {pc nL : Nat} {ls : Array Slot} {rest : List Value} {own : String} {g : Gw} {B n : Nat} {E : Nat → va_E} {μ μ' : Mu}
theorem k_ctorN (C : Dx p s m args c cc nL own g B) (hw : pd g B n E s H locs) {y : MethodName} {cc' : ByteArray} {nL' idx na b d k sl : Nat} {As : List Value} {E' : Nat → va_E} (hM : KT l g B y cc' nL' d k sl (.ref (g.2.2 b) :: As) n E E') {host : String} (ml : MLN own idx y host cc' nL' none na) (hi : Cond.instanceMethod y ∈ gt) (hy : y.name = "<init>") (hn : As.length = na) (hsz : ls.size = nL) (hR : d + 1 ≤ R.frames ∧ 8 + (nL' + 11) + 40 * d ≤ R.locals) (hrm : (rest.map fun v => v.category).sum ≤ 8) (h1 : cells + k ≤ R.cells) (h2 : slots + sl ≤ R.slots) (dec : decode cc pc = .ok (.invokespecial idx, 3))
    (kk : ∀ (H1 : Heap) (locs1 : List Loc), pd g B (n + k) E' s H1 locs1 → W p l e R s m args below meth c H1 locs1 (cells + k) (slots + sl) Q (F0 m (pc + 3) ls rest)) : W p l e R s m args below meth c H locs cells slots Q (F0 m pc ls (As.reverse ++ .ref (g.2.2 b) :: rest)) := by
  obtain ⟨hx, hb, hml, hown, hts, hK, hG, hO, hB⟩ := id C
  have hr := va_runIN (l := l) (e := e) (R := R) (below := below) (meth := meth) (H := H) (locs := locs) (cells := cells) (slots := slots) (g := F0 m pc ls (As.reverse ++ .ref (g.2.2 b) :: rest)) (b := g.2.2 b) (As := As) (rest := rest) ⟨hx, hb, hml, hown, hts⟩ hM ⟨va_cnB na hts (gt_in ml.2.1) rfl rfl rfl (hK.2.1.1 _ ml.1) (hts _ ml.2.2.1) ml.2.2.2 hR, hy, hts _ hi⟩
    ⟨fun a U g9 mk h => ⟨h.1, h.2.1, Kn.same (s := U) (U := U.calling g9 mk a) rfl h.2.2.1, AOs.moved (s := U) (U := U.calling g9 mk a) (Vm.Alike.refl U.vm) h.2.2.2⟩, fun U hU hW => ⟨rfl, by rw [hU]; exact hw.1, Kn.moved hW hK, AOs.moved hW.alike hO⟩⟩ rfl hn hsz rfl (lv_room hrm) dec ⟨h1, h2⟩
  intro T hT X
  obtain ⟨v, st₀, t, T', L, h0, X', hL, e1, e2, ⟨hv, hP, hk⟩, st⟩ := hr T hT X
  cases hv
  obtain ⟨t2, a1, b1⟩ := kk T'.heap (locs ++ L) ⟨by rw [e1]; exact hP, (by have h3 := hw.2.1; rw [hw.1.1] at h3; rw [e1, hP.1]; omega), fun q q1 q2 => by
      rw [e1, hk q (by omega), h0]
      exact hw.2.2.1 q q1 q2, fun q hq => by
      rcases List.mem_append.mp hq with h | h
      · exact hw.2.2.2 q h
      · exact hL q h⟩ T' rfl X'
  exact ⟨t2, st t2 a1, b1⟩
def sE (g : Gw) (μ : Mu) (E : Nat → va_E) : Nat → va_E := fun i => if sIn i then ce g μ i else E i
theorem k_meth (C : Dx p s m args c cc nL own g B) (hw : pd g B n (sE g μ E) s H locs) (hp : ∀ i, sIn i → pi i < n) {y : MethodName} {cc' : ByteArray} {nL' idx na b ci d NF : Nat} {CN : String} {T : u_T} {As : List Value} (hM : sCt l g y cc' nL' none d (.ref (g.2.2 b) :: As) μ none μ') (ml : ML own idx y cc' nL' none na) (hi : Cond.instanceMethod y ∈ gt) (hsl : Cond.selects y.cls y y ∈ gt) (hsb : sIn b) (hb : oK b = ci) (hc : vwCl[ci]? = some (CN, T, NF)) (hcn : CN = y.cls) (hci : ci < 13) (hn : As.length = na) (hsz : ls.size = nL) (hR : d + 1 ≤ R.frames ∧ 8 + (nL' + 11) + 40 * d ≤ R.locals) (hrm : (rest.map fun v => v.category).sum ≤ 8) (h1 : cells ≤ R.cells) (h2 : slots ≤ R.slots) (dec : decode cc pc = .ok (.invokevirtual idx, 3))
    (kk : ∀ (H1 : Heap) (locs1 : List Loc), pd g B n (sE g μ' E) s H1 locs1 → W p l e R s m args below meth c H1 locs1 cells slots Q (F0 m (pc + 3) ls rest)) : W p l e R s m args below meth c H locs cells slots Q (F0 m pc ls (As.reverse ++ .ref (g.2.2 b) :: rest)) := by
  obtain ⟨hx, hbc, hml, hown, hts, hK, hG, hO, hB⟩ := id C
  subst hcn
  have lt5 : ∀ i, sIn i → i < NN := fun i h => Nat.lt_of_le_of_lt h.2 (by decide)
  have hP : va_P g.1 vwCl (swl g μ) H := fun k q hk => by
    obtain ⟨a1, rfl⟩ := swl_inv hk
    have := hw.1.2 (k + 1) (lt5 _ a1) (hp _ a1)
    unfold sE at this
    rw [if_pos a1] at this
    exact this
  have hcell := hP (b - 1) _ (swl_get hsb)
  rw [ce_obj hb hci] at hcell
  obtain ⟨r, r1, cell, q1, q2, q3, q4⟩ := hcell
  have hr : r = (y.cls, T, NF) := Option.some.inj (r1.symm.trans hc)
  subst hr
  obtain ⟨hS, hfc, kC, hkC, hkind⟩ := hK.1.1 ci _ hc
  have hr := va_runV (l := l) (e := e) (R := R) (below := below) (meth := meth) (H := H) (locs := locs) (cells := cells) (slots := slots) (g := F0 m pc ls (As.reverse ++ .ref (g.2.2 b) :: rest)) (C := y.cls) (b := g.2.2 b) (As := As) (rest := rest) ⟨hx, hbc, hml, hown, hts⟩ (Met.sz (hM H.size)) ⟨callB_of na hts (gt_in ml.2.1) rfl rfl rfl (hts _ ml.2.2.1) (hts _ ml.1) ml.2.2.2 hR, hts _ hi, hts _ hsl⟩ ⟨sCt.blind, ⟨cell, q1, by rw [q3]; rfl, by rw [q2]; exact hfc⟩, fun U hU hW => ⟨rfl, by rw [hU], by rw [hU]; exact hP, Kn.moved hW hK⟩⟩ rfl hn hsz rfl (lv_room hrm) dec ⟨h1, h2⟩
  intro T0 hT X
  obtain ⟨v, st₀, t, T', L, h0, X', hL, e1, e2, ⟨⟨hv, hP', hz, hk⟩, hs2⟩, st⟩ := hr T0 hT X
  cases hv
  rw [h0] at hz hk hs2
  have hge : ∀ q, sAw g H.size q → B ≤ q := fun q h => by
    rcases h with ⟨i, a1, rfl⟩ | h
    · rw [hG i (lt5 i a1)]; omega
    · rw [hw.1.1] at h; omega
  obtain ⟨t2, a1, b1⟩ := kk T'.heap (locs ++ L) ⟨⟨by rw [e1, ← hw.1.1]; omega, fun i hi2 hpi => by
      by_cases c2 : sIn i
      · unfold sE
        rw [if_pos c2, e1]
        exact hP' (i - 1) _ (swl_get c2)
      · have h3 := hw.1.2 i hi2 hpi
        unfold sE at h3 ⊢
        rw [if_neg c2] at h3 ⊢
        have hlt : g.2.2 i < H.size := by rw [hG i hi2, hw.1.1]; omega
        refine h3.kept ?_
        rw [e1]
        refine hk (g.2.2 i) hlt (fun h => ?_)
        rcases h with ⟨j, j1, j2⟩ | h
        · exact c2 (by rw [hK.2.2 i j hi2 (lt5 j j1) j2]; exact j1)
        · omega⟩, by rw [e1]; exact Nat.le_trans hw.2.1 hz, fun q d1 d2 => by
      rw [e1, hk q (Nat.lt_of_lt_of_le d1 hw.2.1) (fun h => d2 (hge q h))]
      exact hw.2.2.1 q d1 d2, fun q hq => by
      rcases List.mem_append.mp hq with h | h
      · exact hw.2.2.2 q h
      · exact hge _ (hL q h)⟩ T' rfl X'
  exact ⟨t2, st t2 a1, b1⟩
end KM
/-! the memory that the constructors make, but for the ground -/
def mI : Mu := (fun o k => if o = 1 then (if k = 1 then 3 else 0) else if o = 12 then (if k = 3 then -1 else 0) else if o = 13 then (if k = 1 then 3 else 0) else if o = 15 then (if k = 7 then -1 else 0) else if o = 33 then (if k = 1 then -1 else 0) else if o = 35 then (if k = 1 then -1 else 0) else if o = 37 then (if k = 1 then -1 else 0) else if o = 39 then (if k = 1 then -1 else 0) else if o = 42 then (if k = 1 then 3 else 0) else if o = 46 then (if k = 1 then 3 else 0) else if o = 50 then (if k = 1 then 3 else 0) else if o = 171 then (if k = 16 then -1 else if k = 40 then -1 else 0) else if o = 172 then (if k = 1 then 3 else 0) else if o = 198 then (if k = 3 then -1 else if k = 2 then -1 else if k = 1 then -1 else if k = 0 then -1 else 0) else 0, fun _ _ => 0)
theorem ce_t1 (g : Gw) : ce g mI 3 = .inl (g.2.1 0, 28, .inl (fun _ => 0)) := rfl
theorem ce_t2 (g : Gw) : ce g mI 12 = .inr (4, [.ref (g.2.2 13), .ref (g.2.2 149), .int 0, .int (-1), .int 0, .ref (g.2.2 14), .int 0, .int 0, .int 0, .int 0, .int 0]) := rfl
theorem ce_t3 (g : Gw) : ce g mI 200 = .inl (g.2.1 1, 160, .inr (.inl (fun _ => 0))) := rfl
theorem ce_t4 (g : Gw) : ce g mI 176 = .inl (g.2.1 2, 3, .inl (fun _ => 0)) := rfl
