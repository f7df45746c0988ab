/-! calls: valueOf, row -/
theorem thr_ok {A U : Type} {x : Option ((A ⊕ Nat) × Mu)} {f : A → Mu → Option ((U ⊕ Nat) × Mu)} {P : A ⊕ Nat → Mu → Prop} {Q : U ⊕ Nat → Mu → Prop} (h : Ok x P) (h1 : ∀ v μ1, P (.inl v) μ1 → Ok (f v μ1) Q) (h2 : ∀ e μ1, P (.inr e) μ1 → Q (.inr e) μ1) : Ok (thr x f) Q := by
  obtain ⟨a, μ1, e, p⟩ := h
  cases a with
  | inl v => rw [thr_l e]; exact h1 v μ1 p
  | inr k => rw [thr_r e]; exact Ok_r (h2 k μ1 p)
theorem sT_la {T : Nat → Nat} {sd s k : Nat} (b6 : T 1 < 7) (hs : sd < 2) (hk : k < Wn (opnN T) s) : sT (laT T sd s k) = s := by
  obtain ⟨h1, h2⟩ := laC_p (T := T) hs hk
  unfold sT laT
  rw [sum_cg 12 (fun x hx => cT_up (by omega)), sum_12 b6 (fun x a b => h2 x (Or.inl a)), h1]
theorem kT_la {T : Nat → Nat} {sd s k : Nat} (b6 : T 1 < 7) (hs : sd < 2) (hk : k < Wn (opnN T) s) : kT (laT T sd s k) = k := by
  unfold kT
  rw [nb_re (T := T) (T2 := laT T sd s k) la_re, show laT T sd s k 2 = sd from rfl, nbT_cg hs (fun x hx => la_ct (T := T) (sd := sd) (s := s) (k := k) (show x < 14 by omega))]
  exact nbT_la hs hk
/-- the outcome of laying a solved position -/
def lsX (T : Nat → Nat) (sd s k : Int32) (x : Unit ⊕ Nat) (μ1 : Mu) : Prop :=
  (∃ a b c, a < 2 ∧ b ≤ 40 ∧ bhS T (b + 1) ≤ 6000 ∧ c < Wn (opnN T) b ∧ sd = nI a ∧ s = nI b ∧ k = nI c ∧ x = .inl () ∧ NOW μ1 T ∧ SC μ1 55 (laT T a b c) ∧ ∃ S, b < S ∧ CV μ1 T S) ∨
  ((¬ (sd = nI 0 ∨ sd = nI 1)) ∧ x = .inr 0) ∨
  (∃ a, a < 2 ∧ sd = nI a ∧ ¬ inR s 0 40 ∧ x = .inr 1) ∨
  (∃ a b, a < 2 ∧ b ≤ 40 ∧ sd = nI a ∧ s = nI b ∧ ¬ bhS T (b + 1) ≤ 6000 ∧ x = .inr 2) ∨
  (∃ a b, a < 2 ∧ b ≤ 40 ∧ sd = nI a ∧ s = nI b ∧ bhS T (b + 1) ≤ 6000 ∧ (¬ ∃ c, c < Wn (opnN T) b ∧ k = nI c) ∧ x = .inr 0)
theorem laySolved_s (n : Nat) (μ : Mu) {T : Nat → Nat} (sd s k : Int32) (hI : INT μ T) (hn : 20000 < n) : Ok (X11_laySolved n sd s k μ) (fun x μ1 => CI μ1 ∧ lsX T sd s k x μ1) := by
  have hW := hI.1.1
  have b6 := hW.1.2.1
  unfold X11_laySolved
  rcases side_d sd with ⟨a, ha, rfl⟩ | ⟨hs1, hs2⟩
  · rw [thr_l (needSide_l n μ ha)]
    by_cases hr : inR s 0 40
    · obtain ⟨b, _, hb, rfl⟩ := inR_d (by decide) (by decide) hr
      rw [thr_l (needSeeds_l n μ hb)]
      refine Ok_b (rea_s n μ hW hI.2.2.1 hb hI.2.2.2.1 hn) ?_
      rintro _ μ1 ⟨rfl, c1, n1, q⟩
      dsimp only
      by_cases z : bhS T (b + 1) ≤ 6000
      · have z' := z
        rw [bh_s] at z'
        rw [decide_eq_true z, if_neg (show ¬ b2i true = 0 by decide), bS (posC_s n μ1 hW.1 n1.1 hb)]
        dsimp only
        rw [Nat.min_eq_right (by omega)]
        by_cases hk : ∃ c, c < Wn (opnN T) b ∧ k = nI c
        · obtain ⟨c, hc, rfl⟩ := hk
          rw [thr_l (needPos_l n μ1 (by omega) hc)]
          refine Ok_b (lay_s n μ1 (o := 55) (by decide) (by decide) b6 ha (GA_sn n1.1 ha) n1.1.1.2.2.2.1 n1.1.2 hb hc (by omega) (by omega)) ?_
          rintro _ μ2 ⟨l1, l2, l3⟩
          obtain ⟨S, hs, hv⟩ := q z
          have ag : ∀ {D : List (Nat × Nat × Nat)}, djB [(55, 56, 9999)] D = true → AG D μ1 μ2 := fun hd => Fr_ag (KP_fr l3 (fun o q => ⟨55, 56, by decide, by omega, by omega⟩)) hd
          exact Ok_r ⟨CI_ag c1 (ag (by decide +kernel)), Or.inl ⟨a, b, c, ha, hb, z, hc, rfl, rfl, rfl, rfl, NOW_ag n1 (ag (by decide +kernel)), ⟨l1, fun x hx => by rw [la_ct hx]; exact l2 x hx⟩, S, hs, CV_ag hv (ag (by decide +kernel))⟩⟩
        · rw [thr_r (needPos_r n μ1 (by omega) hk)]
          exact Ok_r ⟨c1, Or.inr (Or.inr (Or.inr (Or.inr ⟨a, b, ha, hb, rfl, rfl, z, hk, rfl⟩)))⟩
      · rw [decide_eq_false z, if_pos (show b2i false = 0 from rfl)]
        exact Ok_r ⟨c1, Or.inr (Or.inr (Or.inr (Or.inl ⟨a, b, ha, hb, rfl, rfl, z, rfl⟩)))⟩
    · rw [thr_r (needSeeds_r n μ hr)]
      exact Ok_r ⟨hI.2.2.2.1, Or.inr (Or.inr (Or.inl ⟨a, ha, rfl, hr, rfl⟩))⟩
  · rw [thr_r (needSide_r n μ hs2)]
    exact Ok_r ⟨hI.2.2.2.1, Or.inr (Or.inl ⟨hs1, rfl⟩)⟩
/-- the reference's valueOf -/
def voX (T : Nat → Nat) (sd s k : Int32) (x : Int32) (μ1 : Mu) : Prop :=
  (∃ a b c, a < 2 ∧ b ≤ 40 ∧ bhS T (b + 1) ≤ 6000 ∧ c < Wn (opnN T) b ∧ sd = nI a ∧ s = nI b ∧ k = nI c ∧ x = iv (VL T 41 a b c) ∧ μ1.1 171 5 = 0 ∧ ∃ S, b < S ∧ RV μ1 T S) ∨
  ((¬ (sd = nI 0 ∨ sd = nI 1)) ∧ μ1.1 171 5 = 1) ∨
  (∃ a, a < 2 ∧ sd = nI a ∧ ¬ inR s 0 40 ∧ μ1.1 171 5 = 2) ∨
  (∃ a b, a < 2 ∧ b ≤ 40 ∧ sd = nI a ∧ s = nI b ∧ ¬ bhS T (b + 1) ≤ 6000 ∧ μ1.1 171 5 = 3) ∨
  (∃ a b, a < 2 ∧ b ≤ 40 ∧ sd = nI a ∧ s = nI b ∧ bhS T (b + 1) ≤ 6000 ∧ (¬ ∃ c, c < Wn (opnN T) b ∧ k = nI c) ∧ μ1.1 171 5 = 1)
theorem valueOfR_s (n : Nat) (μ : Mu) {T : Nat → Nat} (sd s k : Int32) (hI : INT μ T) (hn : 20000 < n) : Ok (X12_valueOf n sd s k μ) (fun x μ1 => TD μ1 T ∧ RI μ1 ∧ voX T sd s k x μ1) := by
  have hW := hI.1.1
  have b6 := hW.1.2.1
  unfold X12_valueOf X12_valueOf_29 X12_valueOf_102 X12_fails
  rcases side_d sd with ⟨a, ha, rfl⟩ | ⟨hs1, hs2⟩
  · rw [bS (isSide_l n μ ha)]
    dsimp only
    rw [if_neg (show ¬ b2i true = 0 by decide)]
    by_cases hr : inR s 0 40
    · rw [bS (within_l n μ (b := 40) (y := 40) (by decide) rfl hr)]
      dsimp only
      rw [if_neg (show ¬ b2i true = 0 by decide), si_a, if_pos (show (0 : Int32) ≤ 0 by decide)]
      obtain ⟨b, _, hb, rfl⟩ := inR_d (by decide) (by decide) hr
      refine Ok_b (sol_s n _ hI.1 hb (td_th hI.2.1) (RI_th hI.2.2.2.2.1) hn) ?_
      rintro _ μ1 ⟨rfl, t1, r1, z5, q⟩
      rw [si_a] at z5
      dsimp only
      by_cases z : bhS T (b + 1) ≤ 6000
      · have z' := z
        rw [bh_s] at z'
        obtain ⟨S, hs, hv⟩ := q z
        obtain ⟨v1, v2, v3, v4, v5⟩ := id hv
        rw [decide_eq_true z, if_neg (show ¬ b2i true = 0 by decide), i_1, nI_add, gd_n (by omega) (by decide), gd_n (by omega) (by decide), nI_clamp (by omega), nI_clamp (by omega), v4 (b + 1) (by omega), v4 b (by omega), pk_sub (bh_mo (by omega)), bh_s, Nat.add_sub_cancel_left]
        have ey : (nI (Wn (opnN T) b) - nI 1).toInt64 = lN (Wn (opnN T) b) - 1 := by
          rcases Nat.eq_zero_or_pos (Wn (opnN T) b) with e | e
          · rw [e]; decide
          · rw [pk_sub (by omega), nI_l (by omega), show (1 : Int64) = lN 1 from rfl, lN_sub (by omega)]
        rw [ey]
        by_cases hk : ∃ c, c < Wn (opnN T) b ∧ k = nI c
        · rw [bS ((within_lt n μ1 k (M := Wn (opnN T) b) (by omega)).1 hk)]
          dsimp only
          rw [if_neg (show ¬ b2i true = 0 by decide)]
          obtain ⟨c, hc, rfl⟩ := hk
          obtain ⟨_, hx, w1, _, _⟩ := rv_at hv hs ha hc
          rw [bS (seat_s n μ1 (v4 b (by omega)) (by omega))]
          dsimp only
          rw [gd_n hx (by decide), nI_clamp (by omega), w1]
          exact Ok_r ⟨t1, r1, Or.inl ⟨a, b, c, ha, hb, z, hc, rfl, rfl, rfl, rfl, z5, S, hs, hv⟩⟩
        · rw [bS ((within_lt n μ1 k (M := Wn (opnN T) b) (by omega)).2 hk)]
          dsimp only
          rw [if_pos (show b2i false = 0 from rfl)]
          exact Ok_r ⟨td_th t1, RI_th r1, Or.inr (Or.inr (Or.inr (Or.inr ⟨a, b, ha, hb, rfl, rfl, z, hk, si_a⟩)))⟩
      · rw [decide_eq_false z, if_pos (show b2i false = 0 from rfl)]
        exact Ok_r ⟨td_th t1, RI_th r1, Or.inr (Or.inr (Or.inr (Or.inl ⟨a, b, ha, hb, rfl, rfl, z, si_a⟩)))⟩
    · rw [bS (within_r n μ (b := 40) (y := 40) (by decide) rfl hr)]
      dsimp only
      rw [if_pos (show b2i false = 0 from rfl), si_a, if_neg (by decide)]
      exact Ok_r ⟨td_th hI.2.1, RI_th hI.2.2.2.2.1, Or.inr (Or.inr (Or.inl ⟨a, ha, rfl, hr, si_a⟩))⟩
  · rw [bS (isSide_r n μ hs1)]
    dsimp only
    rw [if_pos (show b2i false = 0 from rfl), si_a, if_neg (by decide)]
    exact Ok_r ⟨td_th hI.2.1, RI_th hI.2.2.2.2.1, Or.inr (Or.inl ⟨hs1, si_a⟩)⟩
theorem nI_inj {a b : Nat} (ha : a < 2 ^ 31) (hb : b < 2 ^ 31) (h : nI a = nI b) : a = b := (nI_eq ha hb).mp h
