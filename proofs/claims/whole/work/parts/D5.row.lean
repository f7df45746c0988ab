/-! calls: valueOf, row -/
def vf (T : Nat → Nat) (sd s k : Int32) : Nat := if ¬ (sd = nI 0 ∨ sd = nI 1) then 1 else if ¬ (nI 0 ≤ s ∧ s ≤ nI 40) then 2 else if ¬ bhS T (s.toNatClampNeg + 1) ≤ 6000 then 3 else if ¬ (∃ c, c < Wn (opnN T) s.toNatClampNeg ∧ k = nI c) then 4 else 0
theorem sd_or {a : Nat} (h : a < 2) : nI a = nI 0 ∨ nI a = nI 1 := by
  obtain rfl | rfl : a = 0 ∨ a = 1 := by omega
  · exact Or.inl rfl
  · exact Or.inr rfl
theorem vf_1 {T : Nat → Nat} {sd s k : Int32} (h : ¬ (sd = nI 0 ∨ sd = nI 1)) : vf T sd s k = 1 := if_pos h
theorem vf_2 {T : Nat → Nat} {a : Nat} {s k : Int32} (ha : a < 2) (h : ¬ inR s 0 40) : vf T (nI a) s k = 2 := by
  unfold vf
  rw [if_neg (fun q => q (sd_or ha)), if_pos (show ¬ (nI 0 ≤ s ∧ s ≤ nI 40) from h)]
theorem in40 {b : Nat} (h : b ≤ 40) : nI 0 ≤ nI b ∧ nI b ≤ nI 40 := (inR_j (by decide) (by decide) (by omega)).mpr ⟨by omega, h⟩
theorem vf_3 {T : Nat → Nat} {a b : Nat} {k : Int32} (ha : a < 2) (hb : b ≤ 40) (h : ¬ bhS T (b + 1) ≤ 6000) : vf T (nI a) (nI b) k = 3 := by
  unfold vf
  rw [if_neg (fun q => q (sd_or ha)), if_neg (fun q => q (in40 hb)), nI_clamp (by omega), if_pos h]
theorem vf_4 {T : Nat → Nat} {a b : Nat} {k : Int32} (ha : a < 2) (hb : b ≤ 40) (h : bhS T (b + 1) ≤ 6000) (hk : ¬ ∃ c, c < Wn (opnN T) b ∧ k = nI c) : vf T (nI a) (nI b) k = 4 := by
  unfold vf
  rw [if_neg (fun q => q (sd_or ha)), if_neg (fun q => q (in40 hb)), nI_clamp (by omega), if_neg (fun q => q h), if_pos hk]
theorem vf_0 {T : Nat → Nat} {a b c : Nat} (ha : a < 2) (hb : b ≤ 40) (h : bhS T (b + 1) ≤ 6000) (hc : c < Wn (opnN T) b) : vf T (nI a) (nI b) (nI c) = 0 := by
  unfold vf
  rw [if_neg (fun q => q (sd_or ha)), if_neg (fun q => q (in40 hb)), nI_clamp (by omega), if_neg (fun q => q h), if_neg (fun q => q ⟨c, hc, rfl⟩)]
/-- what an input tells: a solved position, or the fault -/
theorem vf_d (T : Nat → Nat) (sd s k : Int32) : (∃ a b c, a < 2 ∧ b ≤ 40 ∧ bhS T (b + 1) ≤ 6000 ∧ c < Wn (opnN T) b ∧ sd = nI a ∧ s = nI b ∧ k = nI c ∧ vf T sd s k = 0) ∨ (1 ≤ vf T sd s k ∧ vf T sd s k ≤ 4) := by
  rcases side_d sd with ⟨a, ha, rfl⟩ | ⟨hs1, _⟩
  · by_cases hr : inR s 0 40
    · obtain ⟨b, _, hb, rfl⟩ := inR_d (by decide) (by decide) hr
      by_cases z : bhS T (b + 1) ≤ 6000
      · by_cases hk : ∃ c, c < Wn (opnN T) b ∧ k = nI c
        · obtain ⟨c, hc, rfl⟩ := hk
          exact Or.inl ⟨a, b, c, ha, hb, z, hc, rfl, rfl, rfl, vf_0 ha hb z hc⟩
        · exact Or.inr (by rw [vf_4 ha hb z hk]; omega)
      · exact Or.inr (by rw [vf_3 ha hb z]; omega)
    · exact Or.inr (by rw [vf_2 ha hr]; omega)
  · exact Or.inr (by rw [vf_1 hs1]; omega)
/-- the fault's exception, and its code -/
def veX (j : Nat) : Nat := if j = 2 then 1 else if j = 3 then 2 else 0
def veK (j : Nat) : Int32 := if j = 2 then 2 else if j = 3 then 3 else 1
theorem ls_0 {T : Nat → Nat} {sd s k : Int32} {x : Unit ⊕ Nat} {μ1 : Mu} (h : lsX T sd s k x μ1) (h0 : vf T sd s k = 0) : x = .inl () ∧ NOW μ1 T ∧ ∃ a b c, a < 2 ∧ b ≤ 40 ∧ bhS T (b + 1) ≤ 6000 ∧ c < Wn (opnN T) b ∧ sd = nI a ∧ s = nI b ∧ k = nI c ∧ SC μ1 55 (laT T a b c) ∧ ∃ S, b < S ∧ CV μ1 T S := by
  rcases h with ⟨a, b, c, q1, q2, q3, q4, q5, q6, q7, q8, q9, q10, q11⟩ | ⟨q1, _⟩ | ⟨a, q1, q2, q3, _⟩ | ⟨a, b, q1, q2, q3, q4, q5, _⟩ | ⟨a, b, q1, q2, q3, q4, q5, q6, _⟩
  · exact ⟨q8, q9, a, b, c, q1, q2, q3, q4, q5, q6, q7, q10, q11⟩
  · rw [vf_1 q1] at h0; omega
  · rw [q2, vf_2 q1 q3] at h0; omega
  · rw [q3, q4, vf_3 q1 q2 q5] at h0; omega
  · rw [q3, q4, vf_4 q1 q2 q5 q6] at h0; omega
theorem ls_e {T : Nat → Nat} {sd s k : Int32} {x : Unit ⊕ Nat} {μ1 : Mu} (h : lsX T sd s k x μ1) (h0 : 1 ≤ vf T sd s k) : x = .inr (veX (vf T sd s k)) := by
  rcases h with ⟨a, b, c, q1, q2, q3, q4, rfl, rfl, rfl, _⟩ | ⟨q1, q2⟩ | ⟨a, q1, rfl, q3, q4⟩ | ⟨a, b, q1, q2, rfl, rfl, q5, q6⟩ | ⟨a, b, q1, q2, rfl, rfl, q5, q6, q7⟩
  · rw [vf_0 q1 q2 q3 q4] at h0; omega
  · rw [vf_1 q1, q2]; rfl
  · rw [vf_2 q1 q3, q4]; rfl
  · rw [vf_3 q1 q2 q5, q6]; rfl
  · rw [vf_4 q1 q2 q5 q6, q7]; rfl
theorem vo_0 {T : Nat → Nat} {sd s k x : Int32} {μ1 : Mu} (h : voX T sd s k x μ1) (h0 : vf T sd s k = 0) : μ1.1 171 5 = 0 ∧ ∃ a b c, a < 2 ∧ b ≤ 40 ∧ bhS T (b + 1) ≤ 6000 ∧ c < Wn (opnN T) b ∧ sd = nI a ∧ s = nI b ∧ k = nI c ∧ x = iv (VL T 41 a b c) ∧ ∃ S, b < S ∧ RV μ1 T S := by
  rcases h with ⟨a, b, c, q1, q2, q3, q4, q5, q6, q7, q8, q9, q10⟩ | ⟨q1, _⟩ | ⟨a, q1, q2, q3, _⟩ | ⟨a, b, q1, q2, q3, q4, q5, _⟩ | ⟨a, b, q1, q2, q3, q4, q5, q6, _⟩
  · exact ⟨q9, a, b, c, q1, q2, q3, q4, q5, q6, q7, q8, q10⟩
  · rw [vf_1 q1] at h0; omega
  · rw [q2, vf_2 q1 q3] at h0; omega
  · rw [q3, q4, vf_3 q1 q2 q5] at h0; omega
  · rw [q3, q4, vf_4 q1 q2 q5 q6] at h0; omega
theorem vo_e {T : Nat → Nat} {sd s k x : Int32} {μ1 : Mu} (h : voX T sd s k x μ1) (h0 : 1 ≤ vf T sd s k) : μ1.1 171 5 = veK (vf T sd s k) := by
  rcases h with ⟨a, b, c, q1, q2, q3, q4, rfl, rfl, rfl, _⟩ | ⟨q1, q2⟩ | ⟨a, q1, rfl, q3, q4⟩ | ⟨a, b, q1, q2, rfl, rfl, q5, q6⟩ | ⟨a, b, q1, q2, rfl, rfl, q5, q6, q7⟩
  · rw [vf_0 q1 q2 q3 q4] at h0; omega
  · rw [vf_1 q1, q2]; rfl
  · rw [vf_2 q1 q3, q4]; rfl
  · rw [vf_3 q1 q2 q5, q6]; rfl
  · rw [vf_4 q1 q2 q5 q6, q7]; rfl
theorem ve_k {j : Nat} (h : 1 ≤ j ∧ j ≤ 4) : veK j ≠ 0 ∧ ¬ veK j ≤ 0 ∧ (if veX j = 0 then some (1 : Int32) else if veX j = 1 then some 2 else if veX j = 2 then some 3 else none) = some (veK j) := by
  obtain rfl | rfl | rfl | rfl : j = 1 ∨ j = 2 ∨ j = 3 ∨ j = 4 := by omega
  all_goals decide
theorem ve_o {j : Nat} {μ1 : Mu} (h : 1 ≤ j ∧ j ≤ 4) : (if veX j = 0 then some ((1 : Int32), μ1) else if veX j = 1 then some (2, μ1) else if veX j = 2 then some (3, μ1) else none) = some (veK j, μ1) := by
  obtain rfl | rfl | rfl | rfl : j = 1 ∨ j = 2 ∨ j = 3 ∨ j = 4 := by omega
  all_goals rfl
theorem call_valueOf (n : Nat) (μ : Mu) (sd s k : Int32) (h : INV μ) (hn : 20000 < n) : CBx (L_valueOf n sd s k μ) (X12_valueOf n sd s k) := by
  obtain ⟨T, hI⟩ := h
  have hW := hI.1.1
  have b6 := hW.1.2.1
  rcases vf_d T sd s k with ⟨a, b, c, ha, hb, hz, hc, rfl, rfl, rfl, h0⟩ | hj
  · refine CBs_mk (x := .inl (iv (VL T 41 a b c))) (k := 0) hI ?_ (fun r e => fr_X11_valueOf n _ _ _ μ r e) (by decide +kernel) (fun μ1 e => ⟨_, by unfold L_valueOf; rw [e], fun v q => by rw [Sum.inl.inj q], fun e q => nomatch q⟩) (Or.inl ⟨_, rfl⟩) (fun μ1 h1 => ?_) (fun μ1 r e => fr_X12_valueOf n _ _ _ μ1 r e) (by decide +kernel)
    · unfold X11_valueOf
      refine thr_ok (laySolved_s n μ _ _ _ hI hn) (fun v μ1 q => ?_) (fun e μ1 q => ?_)
      · obtain ⟨_, n1, a', b', c', q1, q2, q3, q4, q5, q6, q7, s1, S, hs, hv⟩ := ls_0 q.2 h0
        obtain rfl := nI_inj (by omega) (by omega) q5
        obtain rfl := nI_inj (by omega) (by omega) q6
        rw [bh_s] at q3
        obtain rfl := nI_inj (by omega) (by omega) q7
        have hWl := WF_la hW ha hb hc
        rw [bS (valueAt_s n μ1 (o := 55) (by decide) hWl (GA_re la_re n1.1) s1 (CV_re la_re.sy hWl hv) (by rw [sT_la b6 ha hc]; exact hs) (by omega)), sT_la b6 ha hc, kT_la b6 ha hc, show laT T a b c 2 = a from rfl, (VL_re la_re hW 41 (by omega) a b c ha (by omega) hc).1]
        exact Ok_r ⟨rfl, q.1⟩
      · have := (ls_0 q.2 h0).1
        exact nomatch this
    · refine Ok_m (valueOfR_s n μ1 _ _ _ h1 hn) ?_
      rintro y μ2 ⟨t2, r2, vo⟩
      obtain ⟨z5, a', b', c', q1, q2, q3, q4, q5, q6, q7, rfl, _⟩ := vo_0 vo h0
      obtain rfl := nI_inj (by omega) (by omega) q5
      obtain rfl := nI_inj (by omega) (by omega) q6
      rw [bh_s] at q3
      obtain rfl := nI_inj (by omega) (by omega) q7
      exact ⟨z5, fun v q => Sum.inl.inj q, t2, r2⟩
  · refine CBs_mk (x := .inr (veX (vf T sd s k))) (k := veK (vf T sd s k)) hI ?_ (fun r e => fr_X11_valueOf n _ _ _ μ r e) (by decide +kernel) (fun μ1 e => ⟨μ1, by unfold L_valueOf; rw [e]; exact ve_o hj, fun v q => (nomatch q), fun e q => rfl⟩) (Or.inr (ve_k hj).1) (fun μ1 h1 => ?_) (fun μ1 r e => fr_X12_valueOf n _ _ _ μ1 r e) (by decide +kernel)
    · unfold X11_valueOf
      refine thr_ok (laySolved_s n μ _ _ _ hI hn) (fun v μ1 q => ?_) (fun e μ1 q => ?_)
      · have := ls_e q.2 hj.1
        exact nomatch this
      · exact ⟨by rw [Sum.inr.inj (ls_e q.2 hj.1)], q.1⟩
    · refine Ok_m (valueOfR_s n μ1 _ _ _ h1 hn) ?_
      rintro y μ2 ⟨t2, r2, vo⟩
      exact ⟨vo_e vo hj.1, fun v q => (nomatch q), t2, r2⟩
