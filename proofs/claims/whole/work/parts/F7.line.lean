/-! call: line -/
theorem goesOn_s (n : Nat) (μ : Mu) {T U : Nat → Nat} {S : Nat} (hT : W1 T) (hD : TD μ T) (hs : sT T < S) (hV : RV μ T S) (sv0 : ∀ k, k < 25 → μ.1 175 k = nI (U k)) (hn : 1000 < n) :
    Ok (X12_goesOn n μ) (fun a μ' => ∃ N, STP T N ∧ a = b2i (rgB (fun j => stN (bdF T j)) N) ∧ W1 (bdF T N) ∧ TD μ' (bdF T N) ∧ μ'.1 171 44 = nI N ∧ (∀ j, j < N → μ'.1 193 j = oI (bsP (bdF T j))) ∧ ∀ k, k < 25 → μ'.1 175 k = nI (U k)) := by
  have hL : LB S T := ⟨hT, hs, hV.2.1⟩
  unfold X12_goesOn
  have v1 : RV (si μ 171 44 0) T S := RV_o hV (by rw [si_c (by decide)]) (fun o a b c => by rw [si_o (by omega)])
  refine Ok_b (seatNow_s n _ hT.1 (TD_o hD (by rw [si_o (by decide)])) v1 (by omega) hn) ?_
  rintro _ μ1 ⟨rfl, kn⟩
  dsimp only
  unfold X12_goesOn_15
  refine Ok_lp0 (fun f μ' => ∃ i, i ≤ 60 ∧ f = 60 - i ∧ PRE T i ∧ rgB (fun j => stN (bdF T j)) i = false ∧ μ'.1 171 44 = nI i ∧ TD μ' (bdF T i) ∧ RV μ' (bdF T i) S ∧ (∀ k, k < 25 → μ'.1 175 k = nI (U k)) ∧ (∀ j, j < i → μ'.1 193 j = oI (bsP (bdF T j))) ∧ ∀ j, j ≤ i → μ'.1 194 j = nI (stN (bdF T j))) ?_ 60 (by omega) ⟨0, by omega, rfl, fun j q => by omega, rg_f.mpr (fun j q => by omega), by rw [si_b (by decide), kn.2.2 44 (by decide), si_a]; rfl, TD_o (KN_td kn (TD_o hD (by rw [si_o (by decide)]))) (by rw [si_o (by decide)]), RV_o (KN_rv kn v1) (by rw [si_b (by decide)]) (fun o a b c => by rw [si_o (by omega)]), fun k hk => by rw [si_b (by decide), kn.1 175 (by decide) (by decide) (by decide), si_b (by decide)]; exact sv0 k hk, fun j q => by omega, fun j q => by
      obtain rfl : j = 0 := by omega
      exact si_a⟩
  rintro K f μ2 ⟨i, hi, rfl, hP, hr, h44, t2, hVc, sv, h193, h194⟩ hK
  have hLi := LB_bd hL i (fun j q => (hP j q).1)
  have hTc := hLi.1
  unfold X12_goesOn_15b X12_goesOn_120
  rw [h44, i_60, ifLe (by decide) (by omega)]
  by_cases c : 60 ≤ i
  · obtain rfl : i = 60 := by omega
    rw [if_pos c]
    exact Ok_r ⟨60, ⟨by omega, hP, Or.inl rfl⟩, by rw [hr]; rfl, hTc, t2, h44, h193, sv⟩
  · rw [if_neg c]
    refine Ok_b (isOver_s n μ2 hTc.1 t2 hn) ?_
    rintro _ μ3 ⟨k3, rfl⟩
    dsimp only
    have t3 := KR_TD k3 t2
    have sv3 := KM_td sv k3.km
    have h443 : μ3.1 171 44 = nI i := by rw [k3.2.2 44 (by omega)]; exact h44
    have v3 : RV μ3 (bdF T i) S := RV_km hVc k3.km
    have e193 : μ3.1 193 = μ2.1 193 := k3.1 193 (by decide) (by decide)
    have e194 : μ3.1 194 = μ2.1 194 := k3.1 194 (by decide) (by decide)
    cases hp : bsP (bdF T i) with
    | none =>
      rw [(bsP_n hTc.1 (LB_b hLi).1).mp hp, if_neg (show ¬ b2i true = 0 by decide)]
      exact Ok_r ⟨i, ⟨by omega, hP, Or.inr (Or.inr hp)⟩, by rw [hr]; rfl, hTc, t3, h443, fun j q => by rw [e193]; exact h193 j q, sv3⟩
    | some p =>
      have ho : overT (bdF T i) = false := by
        cases e : overT (bdF T i) with
        | false => rfl
        | true => rw [(bsP_n hTc.1 (LB_b hLi).1).mpr e] at hp; exact nomatch hp
      obtain ⟨n2, n3⟩ := bsP_t hTc.1 hp
      obtain ⟨hLn, re⟩ := LB_nx hLi hp
      have e1 := bd_s hp
      rw [ho, if_pos (show b2i false = 0 from rfl)]
      refine Ok_b (bestNow_s n μ3 hTc.1 t3 v3 hLi.2.1 hn) ?_
      rintro _ μ4 ⟨rfl, kn4⟩
      dsimp only
      rw [bsI_P, hp, oI_s, h443, gd_n (by omega) (by decide), nI_clamp (by omega), si_b (by decide), kn4.2.2 44 (by decide), h443, gd_n (by omega) (by decide), nI_clamp (by omega), si_a]
      have t4 : TD (si μ4 193 i (nI p)) (bdF T i) := TD_o (KN_td kn4 t3) (by rw [si_o (by decide)])
      refine Ok_b (mvP_s n _ hTc t4 n2 hn) ?_
      rintro _ μ5 ⟨t5, k5⟩
      dsimp only
      have h445 : μ5.1 171 44 = nI i := by rw [k5.2.2 44 (by omega), si_b (by decide), kn4.2.2 44 (by decide)]; exact h443
      rw [h445, i_1, nI_add]
      have v5 : RV (si μ5 171 44 (nI (i + 1))) (nxB (bdF T i) p) S := RV_re re.sy hLn.1.1 (RV_o (RV_km (RV_o (KN_rv kn4 v3) (by rw [si_b (by decide)]) (fun o a b c => by rw [si_o (by omega)])) k5) (by rw [si_c (by decide)]) (fun o a b c => by rw [si_o (by omega)]))
      have t5' : TD (si μ5 171 44 (nI (i + 1))) (nxB (bdF T i) p) := TD_o t5 (by rw [si_o (by decide)])
      have hsn := hLn.2.1
      refine Ok_b (seatNow_s n _ hLn.1.1 t5' v5 (by omega) hn) ?_
      rintro _ μ6 ⟨rfl, kn6⟩
      dsimp only
      rw [si_a, gd_n (by omega) (by decide), nI_clamp (by omega)]
      have hP1 : PRE T (i + 1) := fun j q => by
        by_cases z : j = i
        · rw [z]; exact ⟨by rw [hp]; exact (fun q => (nomatch q)), hr⟩
        · exact hP j (by omega)
      have f44 : (si μ6 194 (i + 1) (nI (xS (nxB (bdF T i) p) (nxB (bdF T i) p 2) (sT (nxB (bdF T i) p)) (kT (nxB (bdF T i) p))))).1 171 44 = nI (i + 1) := by
        rw [si_b (by decide), kn6.2.2 44 (by decide), si_a]
      have fT : TD (si μ6 194 (i + 1) (nI (xS (nxB (bdF T i) p) (nxB (bdF T i) p 2) (sT (nxB (bdF T i) p)) (kT (nxB (bdF T i) p))))) (bdF T (i + 1)) := by
        rw [e1]; exact TD_o (KN_td kn6 t5') (by rw [si_o (by decide)])
      have fV : RV (si μ6 194 (i + 1) (nI (xS (nxB (bdF T i) p) (nxB (bdF T i) p 2) (sT (nxB (bdF T i) p)) (kT (nxB (bdF T i) p))))) (bdF T (i + 1)) S := by
        rw [e1]; exact RV_o (KN_rv kn6 v5) (by rw [si_b (by decide)]) (fun o a b c => by rw [si_o (by omega)])
      have fsv : ∀ k, k < 25 → (si μ6 194 (i + 1) (nI (xS (nxB (bdF T i) p) (nxB (bdF T i) p 2) (sT (nxB (bdF T i) p)) (kT (nxB (bdF T i) p))))).1 175 k = nI (U k) := fun k hk => by
        rw [si_b (by decide), kn6.1 175 (by decide) (by decide) (by decide), si_b (by decide), k5.1 175 (by decide) (by decide) (by decide), si_b (by decide), kn4.1 175 (by decide) (by decide) (by decide)]
        exact sv3 k hk
      have f193 : ∀ j, j < i + 1 → (si μ6 194 (i + 1) (nI (xS (nxB (bdF T i) p) (nxB (bdF T i) p 2) (sT (nxB (bdF T i) p)) (kT (nxB (bdF T i) p))))).1 193 j = oI (bsP (bdF T j)) := fun j hj => by
        rw [si_b (by decide), kn6.1 193 (by decide) (by decide) (by decide), si_b (by decide), k5.1 193 (by decide) (by decide) (by decide)]
        by_cases z : j = i
        · rw [z, si_a, hp]; rfl
        · rw [si_c z, kn4.1 193 (by decide) (by decide) (by decide), e193]; exact h193 j (by omega)
      have f194 : ∀ j, j ≤ i + 1 → (si μ6 194 (i + 1) (nI (xS (nxB (bdF T i) p) (nxB (bdF T i) p 2) (sT (nxB (bdF T i) p)) (kT (nxB (bdF T i) p))))).1 194 j = nI (stN (bdF T j)) := fun j hj => by
        by_cases z : j = i + 1
        · rw [z, si_a, e1]; rfl
        · rw [si_c z, kn6.1 194 (by decide) (by decide) (by decide), si_b (by decide), k5.1 194 (by decide) (by decide) (by decide), si_b (by decide), kn4.1 194 (by decide) (by decide) (by decide), e194]; exact h194 j (by omega)
      generalize (si μ6 194 (i + 1) (nI (xS (nxB (bdF T i) p) (nxB (bdF T i) p 2) (sT (nxB (bdF T i) p)) (kT (nxB (bdF T i) p))))) = μ7 at *
      have hLb : ∀ j, j ≤ i + 1 → stN (bdF T j) < 12000 := fun j hj => (LB_b (LB_bd hL j (fun j' q => (hP1 j' (by omega)).1))).2.2.2
      unfold X12_goesOn_83
      rw [i_0]
      refine Ok_lp1 (fun f x1 μ' => ∃ j, j ≤ i + 1 ∧ f = i + 1 - j ∧ x1 = nI j ∧ μ' = μ7 ∧ ∀ j', j' < j → stN (bdF T j') ≠ stN (bdF T (i + 1))) ?_ (i + 1) (by omega) ⟨0, by omega, rfl, rfl, rfl, fun j' q => by omega⟩
      rintro K2 f x1 μ8 ⟨j, hj, rfl, rfl, rfl, hno⟩ hK2
      unfold X12_goesOn_83b
      rw [f44, ifLe (by omega) (by omega)]
      by_cases c2 : i + 1 ≤ j
      · obtain rfl : j = i + 1 := by omega
        rw [if_pos c2]
        exact hK (60 - (i + 1)) _ (by omega) ⟨i + 1, by omega, rfl, hP1, rg_f.mpr hno, f44, fT, fV, fsv, f193, f194⟩
      · have l1 := hLb j (by omega)
        have l2 := hLb (i + 1) (by omega)
        rw [if_neg c2, gd_n (by omega) (by decide), gd_n (by omega) (by decide), nI_clamp (by omega), nI_clamp (by omega), f194 j (by omega), f194 (i + 1) (by omega), ifEq (by omega) (by omega)]
        by_cases z : stN (bdF T j) = stN (bdF T (i + 1))
        · rw [if_pos z]
          have hrt : rgB (fun j => stN (bdF T j)) (i + 1) = true := rg_t.mpr ⟨j, by omega, z⟩
          refine Ok_r ⟨i + 1, ⟨by omega, hP1, Or.inr (Or.inl hrt)⟩, by rw [hrt]; rfl, by rw [e1]; exact hLn.1, fT, f44, f193, fsv⟩
        · rw [if_neg z, i_1, nI_add]
          refine hK2 (i + 1 - (j + 1)) _ _ (by omega) ⟨j + 1, by omega, rfl, rfl, rfl, fun j' q => ?_⟩
          by_cases z2 : j' = j
          · rw [z2]; exact z
          · exact hno j' (by omega)
