/-! calls: worth, swapped, valueOf -/
theorem call_worth (n : Nat) (μ : Mu) (v : Int32) (h : INV μ) (hn : 20000 < n) : CAx (X11_worth n v μ) (X12_worth n v) := by
  obtain ⟨T, hI⟩ := h
  have hT := hI.1
  have hW := hT.1
  have b6 := hW.1.2.1
  have b1 := hW.1.1
  have hol := off_le (T 1) (T 2)
  obtain ⟨hG, _, hS⟩ := id hI.2.2.1
  obtain ⟨to, o1, o2⟩ := isOwn_I n μ v (by decide) hW hG.1.1 hS
  by_cases hv : ∃ w, w < T 1 ∧ v = nI (offN (T 1) (T 2) + w) ∧ canW T w = true
  · obtain ⟨w, hw, rfl, hc⟩ := hv
    obtain ⟨hf, l, k, t, c', hm⟩ := can_fs hc
    have hto : to = true := o2.mpr (FV_ov ⟨w, hw, rfl, hf⟩)
    obtain ⟨g, st, k', hd⟩ := mvD_yes (T := T) (sd := T 2) (s := sT T) (k := kT T) (w := w) (by rw [can_now hW hw]; exact hc)
    refine CAs_mk (v := if bhS T (sT T + 1) ≤ 6000 then iv (woX T (sT T) (T 2) (g, st, k')) else -1000) hI ?_ (fun r e => fr_X11_worth n _ μ r e) (by decide +kernel) (fun μ1 h1 => ?_) (fun μ1 r e => fr_X12_worth n _ μ1 r e) (by decide +kernel)
    · unfold X11_worth X11_worth_48 X11_worth_51
      rw [bS o1, hto]
      dsimp only
      rw [if_neg (show ¬ b2i true = 0 by decide)]
      refine up_c n μ hI hn (fun z μ1 c1 => ?_) (fun z μ1 S c1 n1 hs hv => ?_)
      · exact Ok_r ⟨by rw [if_neg z], c1⟩
      · dsimp only
        obtain ⟨a, μ2, e2, _, q2⟩ := worthBy_s n μ1 os53 hW n1.1 n1.2.2 hv hs hw (by omega)
        rw [if_neg (show ¬ b2i true = 0 by decide), bS e2, q2 _ hd]
        exact Ok_r ⟨by rw [if_pos z], CI_ag c1 (Fr_ag (fr_X7_worthBy n _ _ μ1 (a, μ2) e2) (by decide +kernel))⟩
    · unfold X12_worth X12_worth_24
      refine up_r n μ1 h1 hn (fun z μ2 t2 r2 _ => ?_) (fun z μ2 S t2 r2 _ hs hv => ?_)
      · exact Ok_r ⟨by rw [if_neg z], t2, r2⟩
      · dsimp only
        rw [if_neg (show ¬ b2i true = 0 by decide)]
        refine Ok_b (whyNotI n μ2 _ hW t2 (by omega)) ?_
        rintro _ μ3 ⟨kr, rfl⟩
        dsimp only
        rw [whyI_w b6 hw, (why_0 hw).mpr hc, if_pos (show nI 0 = 0 from rfl)]
        have t3 := KR_TD kr t2
        have r3 : RI μ3 := RI_ag r2 (Fr_ag (KR_fr kr) (by decide +kernel))
        have v3 : RV μ3 T S := RV_ag hv (Fr_ag (KR_fr kr) (by decide +kernel))
        refine Ok_b (seatNow_s n μ3 hW t3 v3 (by omega) (by omega)) ?_
        rintro _ μ4 ⟨rfl, kn⟩
        dsimp only
        have t4 := KN_td kn t3
        have em : (offN (T 1) (T 2) + w) % T 1 = w := by
          unfold offN
          by_cases z2 : T 2 = 0
          · rw [if_pos z2, Nat.zero_add, Nat.mod_eq_of_lt hw]
          · rw [if_neg z2, Nat.add_mod_left, Nat.mod_eq_of_lt hw]
        rw [t4 1 (by omega), dv_of (show ¬ nI (T 1) = (0 : Int32) from nI_ne0 (by omega) (by omega)), pk_rem (by omega) (by omega) (by omega), em, bS (worthV_s n μ4 hW (KN_rv kn v3) hs hW.2.1 (kT_lt hW) hw hd).1]
        exact Ok_r ⟨by rw [if_pos z], t4, KN_ri kn r3⟩
  · -- no such move
    have hwhy : whyI T v ≠ 0 := fun q => hv (whyI_0 b6 q)
    refine CAs_mk (v := -1000) hI ?_ (fun r e => fr_X11_worth n _ μ r e) (by decide +kernel) (fun μ1 h1 => ?_) (fun μ1 r e => fr_X12_worth n _ μ1 r e) (by decide +kernel)
    · unfold X11_worth X11_worth_48 X11_worth_51
      rw [bS o1]
      dsimp only
      cases to with
      | false => rw [if_pos (show b2i false = 0 from rfl)]; exact Ok_r ⟨rfl, hI.2.2.2.1⟩
      | true =>
        obtain ⟨w, hw, rfl, hl⟩ := o2.mp rfl
        have hcf : canW T w = false := by
          cases e : canW T w with
          | false => rfl
          | true => exact absurd ⟨w, hw, rfl, e⟩ hv
        rw [if_neg (show ¬ b2i true = 0 by decide)]
        refine up_c n μ hI hn (fun z μ1 c1 => ?_) (fun z μ1 S c1 n1 hs hv => ?_)
        · exact Ok_r ⟨rfl, c1⟩
        · dsimp only
          obtain ⟨a, μ2, e2, q1, _⟩ := worthBy_s n μ1 os53 hW n1.1 n1.2.2 hv hs hw (by omega)
          rw [if_neg (show ¬ b2i true = 0 by decide), bS e2, q1 (mvD_nno hW hw hcf)]
          exact Ok_r ⟨iv_m1000.symm, CI_ag c1 (Fr_ag (fr_X7_worthBy n _ _ μ1 (a, μ2) e2) (by decide +kernel))⟩
    · unfold X12_worth X12_worth_24
      refine up_r n μ1 h1 hn (fun z μ2 t2 r2 _ => ?_) (fun z μ2 S t2 r2 _ hs hv => ?_)
      · exact Ok_r ⟨rfl, t2, r2⟩
      · dsimp only
        rw [if_neg (show ¬ b2i true = 0 by decide)]
        refine Ok_b (whyNotI n μ2 _ hW t2 (by omega)) ?_
        rintro _ μ3 ⟨kr, rfl⟩
        dsimp only
        rw [if_neg (iv_nz hwhy (by have := whyI_lt (T := T) (v := v); omega))]
        exact Ok_r ⟨rfl, KR_TD kr t2, RI_ag r2 (Fr_ag (KR_fr kr) (by decide +kernel))⟩
/-! the other side to move -/
def swT (T : Nat → Nat) : Nat → Nat := upT T (cT T) (1 - T 2)
theorem swT_c {T : Nat → Nat} {k : Nat} (hk : k < 14) : cT (swT T) k = cT T k := cT_up hk
theorem WF_sw {T : Nat → Nat} (hW : WF T) : WF (swT T) := by
  obtain ⟨h1, h2, h3, h4, h5, h6, h7⟩ := hW
  have e12 : sumF (cT (swT T)) 12 = sumF (cT T) 12 := sum_cg _ (fun x hx => swT_c (by omega))
  refine ⟨BD_re RE_up h1, by show 1 - T 2 < 2; omega, h3, by rw [e12]; exact h4, by rw [e12]; exact h5, by rw [e12]; exact h6, fun p hp q => ?_⟩
  have : swT T (13 + p) = cT T p := by
    unfold swT upT
    rw [if_neg (by omega), if_neg (by omega), if_neg (by omega), if_pos (by omega), Nat.add_sub_cancel_left]
  rw [this]
  unfold cT
  rw [if_pos hp]
  exact h7 p hp q
theorem sT_sw {T : Nat → Nat} : sT (swT T) = sT T := sum_cg _ (fun x hx => swT_c (by omega))
theorem kT_sw {T : Nat → Nat} (hW : WF T) : kT (swT T) = nbT T (cT T) (1 - T 2) := by
  have b6 := hW.1.2.1
  unfold kT
  rw [nb_re (T := T) (T2 := swT T) RE_up]
  show nbT T (cT (swT T)) (1 - T 2) = _
  exact nbT_cg (by omega) (fun x hx => swT_c (by omega))
theorem call_swapped (n : Nat) (μ : Mu) (h : INV μ) (hn : 20000 < n) : CAx (X11_swapped n μ) (X12_swapped n) := by
  obtain ⟨T, hI⟩ := h
  have hT := hI.1
  have hW := hT.1
  have b6 := hW.1.2.1
  have h2 := hW.2.1
  have h40 := sT_40 hW
  have hz : ∀ p, p < 2 * T 1 → (T 3).testBit p = true → cT T p = 0 := fun p a b => cT_z hW p (by omega) (Or.inl b)
  have hk : nbT T (cT T) (1 - T 2) < Wn (opnN T) (sT T) := nb_now (by omega) hz (sT_2 hW)
  refine CAs_mk (v := if bhS T (sT T + 1) ≤ 6000 then iv (VL T 41 (1 - T 2) (sT T) (nbT T (cT T) (1 - T 2))) else -1000) hI ?_ (fun r e => fr_X11_swapped n μ r e) (by decide +kernel) (fun μ1 h1 => ?_) (fun μ1 r e => fr_X12_swapped n μ1 r e) (by decide +kernel)
  · unfold X11_swapped
    refine up_c n μ hI hn (fun z μ1 c1 => ?_) (fun z μ1 S c1 n1 hs hv => ?_)
    · exact Ok_r ⟨by rw [if_neg z], c1⟩
    · dsimp only
      rw [if_neg (show ¬ b2i true = 0 by decide)]
      obtain ⟨hG, _, hS⟩ := id n1
      refine Ok_b (copy_s n μ1 (o := 55) (o1 := 53) (by decide) (by decide) (by decide) (by decide) (by decide) hS.1 hS.2) ?_
      rintro _ μ2 ⟨q1, q2, q3⟩
      dsimp only
      rw [q3.1 53 (by omega), hS.1, i_1, pk_sub (by omega)]
      have s3 : SC (si μ2 55 1 (nI (1 - T 2))) 55 (swT T) := SC_up si_a (fun k hk => by rw [si_b (by decide)]; exact q2 k hk)
      have re : RE T (swT T) := RE_up
      have g3 : GA (si μ2 55 1 (nI (1 - T 2))) (swT T) := GA_re re (GA_o hG (fun o a b => by rw [si_o (by omega), q3.1 o (by omega)]))
      have v3 : CV (si μ2 55 1 (nI (1 - T 2))) (swT T) S := CV_re re.sy (WF_sw hW) (CV_o hv (by rw [si_b (by decide), q3.1 15 (by omega)]) (by rw [si_o (by decide), q3.1 16 (by omega)]) (by rw [si_o (by decide), q3.1 17 (by omega)]))
      rw [bS (valueAt_s n _ (by decide) (WF_sw hW) g3 s3 v3 (by rw [sT_sw]; exact hs) (by omega)), sT_sw, kT_sw hW, show swT T 2 = 1 - T 2 from rfl, (VL_re re hW 41 (by omega) (1 - T 2) (sT T) _ (by omega) (by omega) hk).1]
      refine Ok_r ⟨by rw [if_pos z], CI_o c1 ?_ ?_ ?_ ?_⟩
      · rw [si_b (by decide), q3.1 15 (by omega)]
      · rw [si_b (by decide), q3.1 15 (by omega)]
      · rw [si_o (by decide), q3.1 16 (by omega)]
      · rw [si_o (by decide), q3.1 17 (by omega)]
  · unfold X12_swapped
    refine up_r n μ1 h1 hn (fun z μ2 t2 r2 _ => ?_) (fun z μ2 S t2 r2 _ hs hv => ?_)
    · exact Ok_r ⟨by rw [if_neg z], t2, r2⟩
    · dsimp only
      rw [if_neg (show ¬ b2i true = 0 by decide), bS (takesUp_s n μ2 (t2 1 (by omega)) (by omega) (by omega))]
      dsimp only
      have t3 : TD (tuF μ2 (2 * T 1)) T := TD_o t2 (funext (fun k => tuF_o μ2 (by decide) _))
      rw [bS (seedsNow_s n _ hW t3 (by omega))]
      dsimp only
      rw [t3 2 (by omega), i_1, pk_sub (by omega)]
      refine Ok_b (numberOfR_s n _ (c := cT T) hW.1 t3 (by omega) (tu_HD hW t2) hz (by rw [sT_2 hW]; exact h40) (by omega)) ?_
      rintro _ μ4 ⟨rfl, ko⟩
      dsimp only
      have kn : KN μ2 μ4 := ⟨fun o a b c => by rw [ko.1 o a c]; exact funext (fun k => tuF_o μ2 b _), by rw [ko.2.1, tuF_2], fun k hk => by rw [ko.2.2 k hk, tuF_o μ2 (by decide)]⟩
      have v4 := KN_rv kn hv
      obtain ⟨_, hx, w1, _, _⟩ := rv_at v4 hs (show 1 - T 2 < 2 by omega) hk
      rw [bS (seat_s n μ4 (v4.2.2.2.1 _ (by omega)) (by omega))]
      dsimp only
      rw [gd_n hx (by decide), nI_clamp (by omega), w1]
      exact Ok_r ⟨by rw [if_pos z], KN_td kn t2, KN_ri kn r2⟩
