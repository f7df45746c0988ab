/-! calls: move, undo, redo -/
theorem KP_fr {R : Nat → Prop} {μ μ' : Mu} {L : List (Nat × Nat × Nat)} (h : KP R μ μ') (hs : ∀ o, R o → ∃ lo hi, (lo, hi, 9999) ∈ L ∧ lo ≤ o ∧ o ≤ hi) : Fr (fun o k => inL L o k) μ μ' := by
  intro o k hn
  have : ¬ R o := fun q => by
    obtain ⟨lo, hi, a, b, c⟩ := hs o q
    exact hn ⟨_, a, b, c, Or.inl rfl⟩
  exact ⟨by rw [h.1 o this], by rw [h.2]⟩
def L_rs : List (Nat × Nat × Nat) := [(6, 6, 9999), (8, 8, 9999), (57, 68, 9999)]
theorem RS_fr {μ μ' : Mu} (h : KP RS μ μ') : Fr (fun o k => inL L_rs o k) μ μ' := KP_fr h (fun o q => by
  rcases q with rfl | rfl | q
  · exact ⟨6, 6, by decide, by decide, by decide⟩
  · exact ⟨8, 8, by decide, by decide, by decide⟩
  · exact ⟨57, 68, by decide, q.1, q.2⟩)
theorem RS_all {μ μ' : Mu} (h : KP RS μ μ') : AG (D_all ++ [(172, 172, 9999)]) μ μ' := Fr_ag (RS_fr h) (by decide +kernel)
def L_kr : List (Nat × Nat × Nat) := [(171, 171, 5), (171, 171, 18), (171, 171, 19), (171, 171, 20), (171, 171, 21), (171, 171, 22), (171, 171, 23), (178, 178, 9999)]
theorem KR_fr {μ μ' : Mu} (h : KR μ μ') : Fr (fun o k => inL L_kr o k) μ μ' := by
  intro o k hn
  refine ⟨?_, by rw [h.2.1]⟩
  by_cases z : o = 171
  · subst z
    refine h.2.2 k ?_
    refine Decidable.byContradiction (fun q => hn ?_)
    have : k = 18 ∨ k = 19 ∨ k = 20 ∨ k = 21 ∨ k = 22 ∨ k = 23 := by omega
    rcases this with rfl | rfl | rfl | rfl | rfl | rfl
    all_goals exact inL_mk 171 171 _ (by decide) (by decide) (by decide) (Or.inr rfl)
  · rw [h.1 o z (fun q => hn (by rw [q]; exact inL_mk 178 178 9999 (by decide) (by decide) (by decide) (Or.inl rfl)))]
theorem th_fr {μ : Mu} {v : Int32} : Fr (fun o k => inL L_kr o k) μ (si μ 171 5 v) := Fr.si Fr.rf (inL_mk 171 171 5 (by decide) (by decide) (by decide) (Or.inr rfl))
theorem KR_all {μ μ' : Mu} {v : Int32} (h : KR (si μ 171 5 v) μ') : AG (D_all ++ [(172, 172, 9999)]) μ μ' := (Fr_ag (th_fr (v := v)) (by decide +kernel)).tr (Fr_ag (KR_fr h) (by decide +kernel))
def D_o4 : List (Nat × Nat × Nat) := D_rdr ++ (D_xpl ++ (D_trs ++ D_img))
theorem INT_mk {μ μ' : Mu} {T T' : Nat → Nat} (h : INT μ T) (w : W1 T') (t : TD μ' T') (nw : NOW μ' T') (p : PAST μ' T') (g : AG (D_ci ++ (D_ri ++ D_o4)) μ μ') : INT μ' T' := by
  obtain ⟨_, _, _, c, r, _, b1, b2, b3, b4⟩ := h
  obtain ⟨g1, g⟩ := AG_ap g
  obtain ⟨g2, g⟩ := AG_ap g
  unfold D_o4 at g
  obtain ⟨g3, g⟩ := AG_ap g
  obtain ⟨g4, g⟩ := AG_ap g
  obtain ⟨g5, g6⟩ := AG_ap g
  exact ⟨w, t, nw, CI_ag c g1, RI_ag r g2, p, RDR_ag b1 g3, XPL_ag b2 g4, TRS_ag b3 g5, IMG_ag b4 g6⟩
theorem NOW_of {μ μ' : Mu} {T T' : Nat → Nat} (h : NOW μ T) (r : RE T T') (h0 : T' 0 = T 0) (e : ∀ o, 1 ≤ o → o ≤ 5 → μ'.1 o = μ.1 o) (hs : SC μ' 53 T') : NOW μ' T' := ⟨GA_re r (GA_o h.1 e), by rw [e 1 (by omega) (by omega), h0]; exact h.2.1, hs⟩
def gnW (T c' : Nat → Nat) : Nat := c' (12 + T 2) - cT T (12 + T 2)
/-- the class keeps and makes a move -/
theorem cmv_s (n : Nat) (μ : Mu) {α : Type} {T c' : Nat → Nat} {d u st w l k t : Nat} {B : Nat → Nat → Nat} {m : Nat → Nat} {F : Int32 × Mu → Option (α × Mu)} {Q : α → Mu → Prop} (hT : W1 T) (hst : st < 40) (hC : CHN T d u B m) (hP : CPS μ d u st B m) (hN : NOW μ T) (hw : w < T 1) (hc : canW T w = true) (hm : mvW T w = some (l, k, t, c')) (hn : 1000 < n)
    (hq : ∀ a μ2, NOW μ2 (upT T c' (thN T (T 2) l)) → CPS μ2 (doD d) 0 (doS st d) (doB d B (upT T c' (thN T (T 2) l))) (doM d m (offN (T 1) (T 2) + w)) → KP (fun x => x = 6 ∨ x = 9 ∨ x = 10 ∨ x = 53 ∨ x = 54 ∨ (69 ≤ x ∧ x ≤ 148)) μ μ2 → μ2.1 6 3 = nI (gnW T c') → Ok (F (a, μ2)) Q) :
    Ok ((X3_keep n 53 (nI (offN (T 1) (T 2) + w)) μ).bind (fun r => (X8_sow n 53 (nI (offN (T 1) (T 2) + w)) r.2).bind F)) Q := by
  have hW := hT.1
  refine Ok_b (keep_s n μ (T' := upT T c' (thN T (T 2) l)) hst hC hP hN.2.2) ?_
  rintro _ μ1 ⟨c1, k1⟩
  dsimp only
  have e1 : ∀ o, 1 ≤ o → o ≤ 5 → μ1.1 o = μ.1 o := fun o a b => k1.1 o (by omega)
  have hG1 : GA μ1 T := GA_o hN.1 e1
  have hS1 : SC μ1 53 T := SC_o hN.2.2 (k1.1 53 (by omega)) (k1.1 54 (by omega))
  refine Ok_b (sowT_s n μ1 (T := T) (o := 53) (by decide) (by decide) hW hG1.1.1 hS1 hw (can_fs hc).1 hn) ?_
  rintro a μ2 ⟨k2, _, q⟩
  obtain ⟨q1, q2, q3, q4, q5, q6⟩ := q l k t c' hm
  have hdd := (CHN_do hC hT hw (mvR_i hc hm)).1
  refine hq a μ2 (NOW_of hN RE_up rfl (fun o h1 h2 => by rw [k2.1 o (by omega)]; exact e1 o h1 h2) q2) ?_ ((k1.up (fun o q => by omega)).tr k2 (fun o q => by omega)) q6
  refine CPS_ag (doS_lt hst) hdd c1 (Fr_ag (L := [(53, 54, 9999), (6, 6, 9999)]) (KP_fr k2 (fun o q => ?_)) (by decide +kernel))
  rcases q with rfl | rfl | rfl
  · exact ⟨53, 54, by decide, by decide, by decide⟩
  · exact ⟨53, 54, by decide, by decide, by decide⟩
  · exact ⟨6, 6, by decide, by decide, by decide⟩
theorem KK_td {μ μ' : Mu} {T : Nat → Nat} (h : KK μ μ') (t : TD μ T) : TD μ' T := TD_o t (h.1 172 (by decide) (by decide) (by decide))
/-- the reference keeps and makes a move -/
theorem does_s (n : Nat) (μ : Mu) {T c' : Nat → Nat} {d u w l k t : Nat} {B : Nat → Nat → Nat} {m : Nat → Nat} (hT : W1 T) (hC : CHN T d u B m) (hR : RPS μ d u B m) (hD : TD μ T) (hw : w < T 1) (hc : canW T w = true) (hm : mvW T w = some (l, k, t, c')) (hn : 2000 < n) :
    Ok (X12_does n (nI (offN (T 1) (T 2) + w)) μ) (fun a μ' => a = nI (gnW T c') ∧ TD μ' (upT T c' (thN T (T 2) l)) ∧ RPS μ' (doD d) 0 (doB d B (upT T c' (thN T (T 2) l))) (doM d m (offN (T 1) (T 2) + w)) ∧ (∀ k, k < 18 → μ'.1 171 k = μ.1 171 k)) := by
  unfold X12_does
  refine Ok_b (keeps_s n μ (T' := upT T c' (thN T (T 2) l)) hC hR.1 hR.2.2.1 hD hn) ?_
  rintro _ μ1 ⟨q1, q2, q3⟩
  dsimp only
  have t1 : TD (si μ1 171 29 0) T := TD_o (KK_td q3 hD) (by rw [si_o (by decide)])
  rw [← cI_own2 hw]
  refine Ok_b (moves_s n (si μ1 171 29 0) hT.1 t1 hw (can_fs hc).1 hm (by omega)) ?_
  rintro _ μ2 ⟨rfl, t2, km⟩
  have e : ∀ o, o ≠ 171 → o ≠ 172 → o ≠ 178 → μ2.1 o = μ1.1 o := fun o a b c => by rw [km.1 o a b c, si_o a]
  refine Ok_r ⟨rfl, t2, ⟨?_, ?_, fun i hi => ?_, fun j hj => by omega⟩, fun k hk => ?_⟩
  · rw [km.2.2 28 (by omega), si_c (by decide)]; exact q1
  · rw [km.2.2 29 (by omega), si_a]; rfl
  · rw [e 179 (by decide) (by decide) (by decide), e 180 (by decide) (by decide) (by decide), cI_own2 hw]; exact q2 i hi
  · rw [km.2.2 k (by omega), si_c (by omega), q3.2.2 k (by omega)]
theorem iv_nz {k : Nat} (h : k ≠ 0) (hk : k < 2 ^ 31) : ¬ nI k = 0 := fun q => h ((nI_eq hk (by decide)).mp q)
theorem whyI_lt {T : Nat → Nat} {v : Int32} : whyI T v < 6 := by
  unfold whyI whyW whyN
  repeat' split
  all_goals omega
theorem whyI_0 {T : Nat → Nat} {v : Int32} (b6 : T 1 < 7) (h : whyI T v = 0) : ∃ w, w < T 1 ∧ v = nI (offN (T 1) (T 2) + w) ∧ canW T w = true := by
  rcases own_cs T v with ⟨w, hw, rfl⟩ | q
  · rw [whyI_w b6 hw] at h
    exact ⟨w, hw, rfl, (why_0 hw).mp h⟩
  · rw [whyI_x q] at h
    unfold whyN at h
    split at h <;> omega
theorem call_move (n : Nat) (μ : Mu) (v : Int32) (h : INV μ) (hn : 2000 < n) : CAx (X11_move n v μ) (X12_move n v) := by
  obtain ⟨T, hI⟩ := h
  have hT := hI.1
  have hW := hT.1
  have b6 := hW.1.2.1
  obtain ⟨hG, hl, hS⟩ := id hI.2.2.1
  have hlt := whyI_lt (T := T) (v := v)
  obtain ⟨a0, μ1, e1, k1, rfl⟩ := reasonI n μ v os53 hW hG.1.1 hS (by omega)
  have ag1 := RS_all k1
  have h1 : INT μ1 T := INT_td hI ag1
  by_cases z : whyI T v = 0
  · obtain ⟨w, hw, rfl, hc⟩ := whyI_0 b6 z
    obtain ⟨hf, l, k, t, c', hm⟩ := can_fs hc
    obtain ⟨d, u, st, B, m, hp⟩ := h1.2.2.2.2.2.1
    obtain ⟨hst, hC, hP, hR⟩ := PST_i.mp hp
    obtain ⟨hw1, hre, h00⟩ := W1_mv hT hw (mvR_i hc hm)
    -- the class
    have cl : Ok (X11_move n (nI (offN (T 1) (T 2) + w)) μ) (fun a μ2 => a = nI (gnW T c') ∧ NOW μ2 (upT T c' (thN T (T 2) l)) ∧ CPS μ2 (doD d) 0 (doS st d) (doB d B (upT T c' (thN T (T 2) l))) (doM d m (offN (T 1) (T 2) + w))) := by
      unfold X11_move
      rw [bS e1]
      dsimp only
      rw [z, if_pos (show nI 0 = 0 from rfl)]
      refine cmv_s n μ1 hT hst hC hP h1.2.2.1 hw hc hm (by omega) (fun a μ2 q1 q2 q3 q4 => ?_)
      exact Ok_r ⟨q4, q1, q2⟩
    obtain ⟨_, μ2, e2, rfl, n2, c2⟩ := cl
    have ag2 := fr_X11_move n _ μ _ e2
    have r2 : RPS μ2 d u B m := RPS_ag (RPS_ag hR (AG_ap (AG_ap (AG.rf : AG ((D_rps ++ []) ++ []) μ1 μ1)).1).1) (by
      have a1 : AG D_rps μ μ1 := Fr_ag (RS_fr k1) (by decide +kernel)
      have a2 : AG D_rps μ μ2 := Fr_ag ag2 (by decide +kernel)
      exact fun o k q => ⟨by rw [(a2 o k q).1, (a1 o k q).1], by rw [(a2 o k q).2, (a1 o k q).2]⟩)
    have t2 : TD μ2 T := TD_ag hI.2.1 (Fr_ag ag2 (by decide +kernel))
    -- the reference
    have rf : Ok (X12_move n (nI (offN (T 1) (T 2) + w)) μ2) (fun a μ' => a = nI (gnW T c') ∧ TD μ' (upT T c' (thN T (T 2) l)) ∧ RPS μ' (doD d) 0 (doB d B (upT T c' (thN T (T 2) l))) (doM d m (offN (T 1) (T 2) + w))) := by
      unfold X12_move X12_move_25
      refine Ok_b (whyNotI n _ _ hW (td_th t2) (by omega)) ?_
      rintro _ μ3 ⟨kr, rfl⟩
      dsimp only
      rw [z, if_pos (show nI 0 = 0 from rfl)]
      have r3 : RPS μ3 d u B m := RPS_ag r2 ((Fr_ag (th_fr (v := 0)) (by decide +kernel)).tr (Fr_ag (KR_fr kr) (by decide +kernel)))
      refine Ok_b (does_s n μ3 hT hC r3 (KR_TD kr (td_th t2)) hw hc hm hn) ?_
      rintro _ μ4 ⟨rfl, t4, r4, _⟩
      exact Ok_r ⟨rfl, t4, r4⟩
    obtain ⟨_, μ4, e4, rfl, t4, r4⟩ := rf
    have ag4 := fr_X12_move n _ μ2 _ e4
    refine ⟨_, μ2, μ4, e2, e4, upT T c' (thN T (T 2) l), INT_mk hI hw1 t4 (NOW_ag n2 (Fr_ag ag4 (by decide +kernel))) ⟨_, _, _, _, _, PST_i.mpr ⟨doS_lt hst, CHN_do hC hT hw (mvR_i hc hm), CPS_ag (doS_lt hst) (CHN_do hC hT hw (mvR_i hc hm)).1 c2 (Fr_ag ag4 (by decide +kernel)), r4⟩⟩ ((Fr_ag ag2 (by decide +kernel)).tr (Fr_ag ag4 (by decide +kernel)))⟩
  · have nz := iv_nz z (by omega)
    have e2 : X11_move n v μ = some (-nI (whyI T v), μ1) := by
      unfold X11_move
      rw [bS e1]
      dsimp only
      rw [if_neg nz]
    obtain ⟨_, μ3, e3, kr, rfl⟩ := whyNotI n (si μ1 171 5 0) v hW (td_th h1.2.1) (by omega)
    refine ⟨_, μ1, μ3, e2, ?_, T, INT_td h1 (KR_all kr)⟩
    unfold X12_move X12_move_25
    rw [bS e3]
    dsimp only
    rw [if_neg nz]
