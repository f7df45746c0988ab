/-! the reference plays on -/
theorem nc_cut {T : Nat → Nat} (b6 : T 1 < 7) : sumF (fun p => if canP T p = true then 1 else 0) (2 * T 1) = ncP T := by
  unfold ncP
  refine (sum_12 b6 (fun x h1 _ => ?_)).symm
  rw [if_neg]
  intro q
  have := canP_lt q
  omega
theorem drawn_s (n : Nat) (μ : Mu) {T : Nat → Nat} (hW : WF T) (hT : TD μ T) (ho : overT T = false) (hn : 1000 < n) : Ok (X12_drawn n μ) (fun a μ' => a = oI (pkP T (drN (drX (μ.1 171 49)))) ∧ μ'.1 171 49 = drX (μ.1 171 49)) := by
  have b6 := hW.1.2.1
  have hle := nc_le T
  have hnz : ncP T ≠ 0 := fun q => by rw [(ov_nc b6).mpr q] at ho; exact nomatch ho
  have hnc := nc_cut (T := T) b6
  have hlt := dr_lt (drX (μ.1 171 49))
  unfold X12_drawn X12_drawn_4
  rw [i_0]
  refine Ok_lp2 (fun f x1 x2 μ' => ∃ p, p ≤ 2 * T 1 ∧ f = 2 * T 1 - p ∧ x2 = nI p ∧ x1 = nI (sumF (fun p => if canP T p = true then 1 else 0) p) ∧ KR μ μ') ?_ (2 * T 1) (by omega) ⟨0, by omega, rfl, rfl, rfl, KR.rf⟩
  rintro K f x1 x2 μ1 ⟨p, hp, rfl, rfl, rfl, k1⟩ hK
  have t1 := KR_TD k1 hT
  unfold X12_drawn_4b X12_drawn_26
  rw [bS (pitMany_s n μ1 (t1 1 (by omega)))]
  dsimp only
  rw [ifLe (by omega) (by omega)]
  by_cases c : 2 * T 1 ≤ p
  · obtain rfl : p = 2 * T 1 := by omega
    rw [if_pos c, hnc]
    unfold X12_draw
    rw [dv_of (nI_ne0 (by omega) (by omega)), si_a, k1.2.2 49 (by omega)]
    have e1 : ((1103515245 : Int32) * μ.1 171 49) + (12345 : Int32) = drX (μ.1 171 49) := rfl
    rw [e1, dr_e, pk_rem (by omega) (by omega) (by omega)]
    show Ok (X12_drawn_42 n (nI (drN (drX (μ.1 171 49)) % ncP T)) (0 : Int32) (si μ1 171 49 (drX (μ.1 171 49)))) _
    have hpk : ∃ q, pkP T (drN (drX (μ.1 171 49))) = some q := by
      cases e : pkP T (drN (drX (μ.1 171 49))) with
      | none => rw [(pk_n b6).mp e] at ho; exact nomatch ho
      | some q => exact ⟨q, rfl⟩
    obtain ⟨q, hq⟩ := hpk
    have hq2 : fnF (canP T) 12 0 (drN (drX (μ.1 171 49)) % ncP T) = some q := by
      unfold pkP at hq
      rw [if_neg hnz] at hq
      exact hq
    have hmod := Nat.mod_lt (drN (drX (μ.1 171 49))) (show 0 < ncP T by omega)
    rw [hq]
    unfold X12_drawn_42
    rw [i_0]
    refine Ok_lp2 (fun f y2 y3 μ' => ∃ p l, p ≤ 12 ∧ f = 12 - p ∧ y3 = nI p ∧ y2 = nI l ∧ l < 12 ∧ TD μ' T ∧ μ'.1 171 49 = drX (μ.1 171 49) ∧ fnF (canP T) (12 - p) p l = some q) ?_ 12 (by omega) ⟨0, _, by omega, rfl, rfl, rfl, by omega, TD_o t1 (by rw [si_o (by decide)]), si_a, hq2⟩
    rintro K2 f y2 y3 μ3 ⟨p, l, hp, rfl, rfl, rfl, hl, t3, h49, hf⟩ hK2
    have hp2 : p < 12 := by
      by_cases z : p = 12
      · rw [z] at hf; exact nomatch hf
      · omega
    obtain ⟨c', hc'⟩ : ∃ c', 12 - p = c' + 1 := ⟨12 - p - 1, by omega⟩
    unfold X12_drawn_42b X12_drawn_54 X12_drawn_68
    refine Ok_b (ask_s n μ3 hW t3 (by omega) hn) ?_
    rintro a μ4 ⟨kr, ha⟩
    dsimp only
    have t4 := KR_TD kr t3
    have h494 : μ4.1 171 49 = drX (μ.1 171 49) := by rw [kr.2.2 49 (by omega)]; exact h49
    have nxt : ¬ (canP T p = true ∧ l = 0) → Ok ((X12_whyNot n (nI p) μ4).bind fun r57 => if r57.1 = 0 then K2 (nI l - (1 : Int32)) (nI p + (1 : Int32)) r57.2 else K2 (nI l - (0 : Int32)) (nI p + (1 : Int32)) r57.2) (fun a μ' => a = oI (some q) ∧ μ'.1 171 49 = drX (μ.1 171 49)) := by
      intro no
      refine Ok_b (ask_s n μ4 hW t4 (by omega) hn) ?_
      rintro a2 μ5 ⟨kr5, ha2⟩
      dsimp only
      have t5 := KR_TD kr5 t4
      have h495 : μ5.1 171 49 = drX (μ.1 171 49) := by rw [kr5.2.2 49 (by omega)]; exact h494
      by_cases hc : canP T p = true
      · have hl0 : l ≠ 0 := fun z => no ⟨hc, z⟩
        rw [hc', fn_y hc, if_neg hl0] at hf
        rw [if_pos (ha2.mpr hc), i_1, pk_sub (by omega), nI_add]
        exact hK2 (12 - (p + 1)) _ _ _ (by omega) ⟨p + 1, l - 1, by omega, rfl, rfl, rfl, by omega, t5, h495, by rw [← hf, show 12 - (p + 1) = c' by omega]⟩
      · rw [hc', fn_n hc] at hf
        rw [if_neg (fun z => hc (ha2.mp z)), i_0, pk_sub (by omega), i_1, nI_add]
        exact hK2 (12 - (p + 1)) _ _ _ (by omega) ⟨p + 1, l - 0, by omega, rfl, rfl, rfl, by omega, t5, h495, by rw [← hf, show 12 - (p + 1) = c' by omega]; rfl⟩
    by_cases hc : canP T p = true
    · rw [if_pos (ha.mpr hc)]
      by_cases hl0 : l = 0
      · rw [hc', fn_y hc, if_pos hl0] at hf
        rw [hl0, if_pos (show nI 0 ≤ 0 by decide), ← hf]
        exact Ok_r ⟨rfl, h494⟩
      · rw [if_neg (nI_nle (by omega) (by omega))]
        exact nxt (fun z => hl0 z.2)
    · rw [if_neg (fun z => hc (ha.mp z))]
      exact nxt (fun z => hc z.1)
  · rw [if_neg c]
    refine Ok_b (ask_s n μ1 hW t1 (by omega) hn) ?_
    rintro a μ2 ⟨kr, ha⟩
    dsimp only
    by_cases hc : canP T p = true
    · rw [if_pos (ha.mpr hc), i_1, nI_add, nI_add]
      exact hK (2 * T 1 - (p + 1)) _ _ _ (by omega) ⟨p + 1, by omega, rfl, rfl, by rw [sumF, hc, if_pos rfl], k1.tr kr⟩
    · rw [if_neg (fun z => hc (ha.mp z)), i_0, nI_add, i_1, nI_add]
      exact hK (2 * T 1 - (p + 1)) _ _ _ (by omega) ⟨p + 1, by omega, rfl, rfl, by rw [sumF, if_neg hc], k1.tr kr⟩
def D_pl : List (Nat × Nat × Nat) := [(171, 171, 40), (171, 171, 50), (172, 172, 9999), (175, 175, 9999), (184, 185, 9999), (187, 191, 9999)]
theorem RV_pl {μ μ' : Mu} {T : Nat → Nat} {S : Nat} (h : RV μ T S) (g : AG D_pl μ μ') : RV μ' T S := RV_ag h (g.sub (fun x hx => by
  unfold D_ri at hx
  unfold D_pl
  simp only [List.mem_cons, List.not_mem_nil, or_false] at hx ⊢
  rcases hx with h | h | h
  · exact Or.inl h
  · exact Or.inr (Or.inr (Or.inr (Or.inr (Or.inl h))))
  · exact Or.inr (Or.inr (Or.inr (Or.inr (Or.inr h))))))
theorem RV_km {μ μ' : Mu} {T : Nat → Nat} {S : Nat} (h : RV μ T S) (k : KM μ μ') : RV μ' T S := RV_o h (k.2.2 40 (by omega)) (fun o a b c => k.1 o (by omega) (by omega) (by omega))
theorem playOf_s (n : Nat) (μ : Mu) (x : Int32) {b : Bool} {T : Nat → Nat} {S w : Nat} (hw : w ≤ 2) (hT : W1 T) (hD : TD μ T) (hV : b = true → sT T < S ∧ RV μ T S) (hn : 1000 < n) : Ok (X12_playOf n x (b2i b) (nI w) μ) (fun a μ' => a = plA b T x w ∧ TD μ' T) := by
  unfold X12_playOf
  obtain ⟨e1, t1, s1, o1⟩ := save_s n μ hD hn
  rw [bS e1]
  dsimp only
  unfold X12_playOf_21
  have o171 : ∀ (ν : Mu) (y z : Int32), (si (si ν 171 49 y) 171 50 z).1 171 49 = y := fun ν y z => by rw [si_c (by decide), si_a]
  refine Ok_lp0 (fun f μ' => ∃ i Tc xc, i ≤ 100 ∧ f = 100 - i ∧ μ'.1 171 50 = nI i ∧ μ'.1 171 49 = xc ∧ W1 Tc ∧ TD μ' Tc ∧ (∀ k, k < 25 → μ'.1 175 k = nI (T k)) ∧ (b = true → sT Tc < S ∧ RV μ' Tc S) ∧ i + (plF b (100 - i) Tc xc).1 = (plF b 100 T x).1 ∧ (plF b (100 - i) Tc xc).2 = (plF b 100 T x).2) ?_ 100 (by omega) ⟨0, T, x, by omega, rfl, si_a, o171 _ _ _, hT, TD_o t1 (by rw [si_o (by decide), si_o (by decide)]), fun k hk => by rw [si_b (by decide), si_b (by decide)]; exact s1 k hk, fun q => ⟨(hV q).1, RV_o (hV q).2 (by rw [si_c (by decide), si_c (by decide), o1 171 (by decide)]) (fun o a b' c => by rw [si_o (by omega), si_o (by omega), o1 o (by omega)])⟩, Nat.zero_add _, rfl⟩
  rintro K f μ2 ⟨i, Tc, xc, hi, rfl, h50, rfl, hTc, t2, sv, hVc, hf1, hf2⟩ hK
  have hWc := hTc.1
  have fin : ∀ μ3, TD μ3 Tc → (∀ k, k < 25 → μ3.1 175 k = nI (T k)) → μ3.1 171 50 = nI i → i = (plF b 100 T x).1 → Tc = (plF b 100 T x).2 → Ok (X12_playOf_80 n x (b2i b) (nI w) μ3) (fun a μ' => a = plA b T x w ∧ TD μ' T) := by
    intro μ3 t3 sv3 h503 q1 q2
    unfold X12_playOf_80
    refine Ok_b (scoreNow_s n μ3 hWc t3 hn) ?_
    rintro _ μ4 ⟨k4, rfl⟩
    dsimp only
    refine Ok_b (isOver_s n μ4 hWc (KR_TD k4 t3) hn) ?_
    rintro _ μ5 ⟨k5, rfl⟩
    dsimp only
    have sv5 := KM_td (KM_td sv3 k4.km) k5.km
    have h505 : μ5.1 171 50 = nI i := by rw [k5.2.2 50 (by omega), k4.2.2 50 (by omega)]; exact h503
    have h98 : ∀ s0 : Int32, s0 = b2i (overT Tc) → Ok (X12_playOf_98 n x (b2i b) (nI w) (scI Tc) s0 μ5) (fun a μ' => a = plA b T x w ∧ TD μ' T) := by
      intro s0 es
      unfold X12_playOf_98 X12_playOf_134 plA
      obtain ⟨b1, b2, b3⟩ := back_s n μ5 sv5 hn
      rw [bS b1]
      dsimp only
      rw [b3, h505, i_1, ifEq (by omega) (by decide), ← q1, ← q2]
      by_cases z0 : w = 0
      · rw [z0, if_pos (show nI 0 = 0 from rfl), if_pos rfl]
        exact Ok_r ⟨rfl, b2⟩
      · rw [if_neg (nI_ne0 (by omega) (by omega)), if_neg z0]
        by_cases z1 : w = 1
        · rw [if_pos z1, if_pos z1]
          exact Ok_r ⟨rfl, b2⟩
        · rw [if_neg z1, if_neg z1]
          exact Ok_r ⟨es, b2⟩
    cases ho : overT Tc with
    | false => rw [if_pos (show b2i false = 0 from rfl)]; exact h98 0 (by rw [ho]; rfl)
    | true => rw [if_neg (show ¬ b2i true = 0 by decide)]; exact h98 1 (by rw [ho]; rfl)
  unfold X12_playOf_21b
  rw [h50, i_100, ifLe (by decide) (by omega)]
  by_cases c : 100 ≤ i
  · obtain rfl : i = 100 := by omega
    rw [if_pos c]
    have e0 : plF b (100 - 100) Tc (μ2.1 171 49) = (0, Tc) := rfl
    rw [e0] at hf1 hf2
    exact fin μ2 t2 sv h50 hf1 hf2
  · obtain ⟨c', hc'⟩ : ∃ c', 100 - i = c' + 1 := ⟨100 - i - 1, by omega⟩
    rw [if_neg c]
    rw [hc'] at hf1 hf2
    have h6 : b = true → bhS Tc (sT Tc + 1) ≤ 6000 := fun q => Nat.le_trans (bh_mo (by have := (hVc q).1; omega)) (hVc q).2.2.1
    refine Ok_b (isOver_s n μ2 hWc t2 hn) ?_
    rintro _ μ3 ⟨k3, rfl⟩
    dsimp only
    have t3 := KR_TD k3 t2
    have sv3 := KM_td sv k3.km
    have h503 : μ3.1 171 50 = nI i := by rw [k3.2.2 50 (by omega)]; exact h50
    have h493 : μ3.1 171 49 = μ2.1 171 49 := k3.2.2 49 (by omega)
    have v3 : b = true → RV μ3 Tc S := fun q => RV_km (hVc q).2 k3.km
    cases ho : overT Tc with
    | true =>
      rw [if_neg (show ¬ b2i true = 0 by decide)]
      rw [pl_n ((sp_n hWc h6).mpr ho)] at hf1 hf2
      exact fin μ3 t3 sv3 h503 hf1 hf2
    | false =>
      rw [if_pos (show b2i false = 0 from rfl)]
      cases hp : spP b Tc (μ2.1 171 49) with
      | none => rw [(sp_n hWc h6).mp hp] at ho; exact nomatch ho
      | some p =>
        obtain ⟨n2, n3⟩ := sp_t hWc hp
        obtain ⟨_, _, _, _, _, _, _, _, _, _, _, w1, re, _⟩ := nxB_d hTc n2
        rw [pl_s hp] at hf1 hf2
        have nxt : ∀ μ4, TD μ4 Tc → (∀ k, k < 25 → μ4.1 175 k = nI (T k)) → μ4.1 171 50 = nI i → μ4.1 171 49 = spX b Tc (μ2.1 171 49) → (b = true → RV μ4 Tc S) → Ok (X12_playOf_63 n x (b2i b) (nI w) K (oI (some p)) μ4) (fun a μ' => a = plA b T x w ∧ TD μ' T) := by
          intro μ4 t4 sv4 h504 h494 v4
          unfold X12_playOf_63
          rw [oI_s]
          refine Ok_b (mvP_s n μ4 hTc t4 n2 hn) ?_
          rintro _ μ5 ⟨t5, k5⟩
          dsimp only
          rw [k5.2.2 50 (by omega), h504, i_1, nI_add]
          have sn := sT_nx hTc n2
          refine hK (100 - (i + 1)) _ (by omega) ⟨i + 1, nxB Tc p, spX b Tc (μ2.1 171 49), by omega, rfl, si_a, ?_, w1, TD_o t5 (by rw [si_o (by decide)]), fun k hk => by rw [si_b (by decide)]; exact KM_td sv4 k5 k hk, fun q => ⟨by have := (hVc q).1; omega, ?_⟩, ?_, ?_⟩
          · rw [si_c (by decide), k5.2.2 49 (by omega), h494]
          · exact RV_re re.sy w1.1 (RV_o (RV_km (v4 q) k5) (by rw [si_c (by decide)]) (fun o a b' c => by rw [si_o (by omega)]))
          · rw [← hf1, show 100 - (i + 1) = c' by omega]
            dsimp only
            omega
          · rw [← hf2, show 100 - (i + 1) = c' by omega]
        have drw : ¬ (b = true ∧ Tc 2 = 1) → Ok (X12_playOf_59 n x (b2i b) (nI w) K μ3) (fun a μ' => a = plA b T x w ∧ TD μ' T) := by
          intro no
          unfold X12_playOf_59
          obtain ⟨a, μ4, e4, q1, q2⟩ := drawn_s n μ3 hWc t3 ho hn
          have ag : AG D_pl μ3 μ4 := Fr_ag (fr_X12_drawn n μ3 _ e4) (by decide +kernel)
          rw [bS e4]
          dsimp only
          have hp2 : pkP Tc (drN (drX (μ2.1 171 49))) = some p := by
            rw [← hp]
            exact (if_neg no).symm
          rw [q1, h493, hp2]
          refine nxt μ4 (TD_o t3 (ag.o 172 172 172 (by decide) (by decide) (by decide)).1) (fun k hk => by rw [(ag.o 175 175 175 (by decide) (by decide) (by decide)).1]; exact sv3 k hk) (by rw [(ag.f 171 50 (by decide)).1]; exact h503) ?_ (fun q => RV_pl (v3 q) ag)
          rw [q2, h493]
          exact (if_neg no).symm
        cases b with
        | false =>
          rw [if_pos (show b2i false = 0 from rfl)]
          exact drw (fun q => nomatch q.1)
        | true =>
          rw [if_neg (show ¬ b2i true = 0 by decide), t3 2 (by omega), i_1, ifEq (by have := hWc.2.1; omega) (by decide)]
          by_cases z : Tc 2 = 1
          · rw [if_pos z]
            refine Ok_b (bestNow_s n μ3 hWc t3 (v3 rfl) (hVc rfl).1 hn) ?_
            rintro _ μ4 ⟨rfl, kn⟩
            dsimp only
            rw [bsI_P]
            have hp2 : bsP Tc = some p := by
              rw [← hp]
              exact (if_pos ⟨rfl, z⟩).symm
            rw [hp2]
            refine nxt μ4 (KN_td kn t3) (fun k hk => by rw [kn.1 175 (by decide) (by decide) (by decide)]; exact sv3 k hk) (by rw [kn.2.2 50 (by decide)]; exact h503) ?_ (fun _ => KN_rv kn (v3 rfl))
            rw [kn.2.2 49 (by decide), h493]
            exact (if_pos ⟨rfl, z⟩).symm
          · rw [if_neg z]
            exact drw (fun q => z q.2)
