/-! the soonest end -/
theorem sch_y {g : Nat → Option (List Nat)} {c i : Nat} {x : List Nat} (h : g i = some x) : schW g (c + 1) i = some x := by rw [schW, h]
theorem sch_n {g : Nat → Option (List Nat)} {c i : Nat} (h : g i = none) : schW g (c + 1) i = schW g c (i + 1) := by rw [schW, h]
theorem sch_no {g : Nat → Option (List Nat)} : ∀ c i, (∀ x, i ≤ x → x < i + c → g x = none) → schW g c i = none := by
  intro c
  induction c with
  | zero => intro i _; rfl
  | succ c ih =>
    intro i h
    rw [sch_n (h i (Nat.le_refl _) (by omega))]
    exact ih (i + 1) (fun x a b => h x (by omega) (by omega))
theorem sch_off {g h : Nat → Option (List Nat)} (o : Nat) : ∀ c i, (∀ x, i ≤ x → x < i + c → g x = h (o + x)) → schW g c i = schW h c (o + i) := by
  intro c
  induction c with
  | zero => intro i _; rfl
  | succ c ih =>
    intro i q
    have e := q i (Nat.le_refl _) (by omega)
    cases hg : g i with
    | some x => rw [sch_y hg, sch_y (by rw [← e]; exact hg)]
    | none =>
      rw [sch_n hg, sch_n (by rw [← e]; exact hg)]
      exact ih (i + 1) (fun x a b => q x (by omega) (by omega))
theorem sch_skip {g : Nat → Option (List Nat)} : ∀ a c i, (∀ x, i ≤ x → x < i + a → g x = none) → schW g (a + c) i = schW g c (i + a) := by
  intro a
  induction a with
  | zero => intro c i _; rw [Nat.zero_add, Nat.add_zero]
  | succ a ih =>
    intro c i h
    rw [show a + 1 + c = (a + c) + 1 by omega, sch_n (h i (Nat.le_refl _) (by omega)), ih c (i + 1) (fun x p q => h x (by omega) (by omega)), show i + 1 + a = i + (a + 1) by omega]
theorem sch_cut {g : Nat → Option (List Nat)} : ∀ a c i, (∀ x, i + a ≤ x → x < i + a + c → g x = none) → schW g (a + c) i = schW g a i := by
  intro a
  induction a with
  | zero => intro c i h; rw [Nat.zero_add]; exact sch_no c i (fun x p q => h x (by omega) (by omega))
  | succ a ih =>
    intro c i h
    rw [show a + 1 + c = (a + c) + 1 by omega]
    cases hg : g i with
    | some x => rw [sch_y hg, sch_y hg]
    | none => rw [sch_n hg, sch_n hg]; exact ih c (i + 1) (fun x p q => h x (by omega) (by omega))
def enG (f : Nat) (T : Nat → Nat) (p : Nat) : Option (List Nat) := if canP T p = true then (endP f (nxB T p)).bind (fun ps => some (p :: ps)) else none
theorem enG_n {f : Nat} {T : Nat → Nat} {p : Nat} (h : ¬ canP T p = true) : enG f T p = none := if_neg h
theorem enG_0 {f : Nat} {T : Nat → Nat} {p : Nat} (h : canP T p = true) (e : endP f (nxB T p) = none) : enG f T p = none := by unfold enG; rw [if_pos h, e]; rfl
theorem enG_1 {f : Nat} {T : Nat → Nat} {p : Nat} {ps : List Nat} (h : canP T p = true) (e : endP f (nxB T p) = some ps) : enG f T p = some (p :: ps) := by unfold enG; rw [if_pos h, e]; rfl
def enW (f : Nat) (T : Nat → Nat) (w : Nat) : Option (List Nat) := match mvR T w with
    | none => none
    | some T' => match endP f T' with
      | none => none
      | some ps => some ((offN (T 1) (T 2) + w) :: ps)
theorem end_s {f : Nat} {T : Nat → Nat} : endP (f + 1) T = schW (enW f T) (T 1) 0 := rfl
theorem enW_0 {f : Nat} {T : Nat → Nat} {w : Nat} (h : mvR T w = none) : enW f T w = none := by unfold enW; rw [h]
theorem enW_1 {f : Nat} {T T' : Nat → Nat} {w : Nat} (h : mvR T w = some T') : enW f T w = (endP f T').bind (fun ps => some ((offN (T 1) (T 2) + w) :: ps)) := by
  unfold enW; rw [h]
  dsimp only
  cases endP f T' <;> rfl
theorem end_p {f : Nat} {T : Nat → Nat} (b6 : T 1 < 7) : endP (f + 1) T = schW (enG f T) 12 0 := by
  have hol := off_le (T 1) (T 2)
  have e1 : schW (enW f T) (T 1) 0 = schW (enG f T) (T 1) (offN (T 1) (T 2)) := by
    refine sch_off (offN (T 1) (T 2)) (T 1) 0 (fun w _ hw => ?_)
    cases hm : mvR T w with
    | none =>
      rw [enW_0 hm, enG_n]
      intro q
      obtain ⟨w', _, e, hc⟩ := canP_t.mp q
      obtain rfl : w' = w := by omega
      rw [mvR_n.mp hm] at hc
      exact nomatch hc
    | some T' =>
      have hc : canP T (offN (T 1) (T 2) + w) = true := canP_t.mpr ⟨w, by omega, rfl, (mvR_e hm).1⟩
      have hx : nxB T (offN (T 1) (T 2) + w) = T' := by unfold nxB; rw [Nat.add_sub_cancel_left, hm]; rfl
      rw [enW_1 hm]
      unfold enG
      rw [if_pos hc, hx]
  have far : ∀ p, (p < offN (T 1) (T 2) ∨ offN (T 1) (T 2) + T 1 ≤ p) → enG f T p = none := by
    intro p hp
    refine enG_n (fun q => ?_)
    obtain ⟨w', hw, e, _⟩ := canP_t.mp q
    omega
  rw [end_s, e1, ← sch_cut (T 1) (12 - offN (T 1) (T 2) - T 1) _ (fun x p q => far x (Or.inr p)), show schW (enG f T) 12 0 = schW (enG f T) (offN (T 1) (T 2) + (T 1 + (12 - offN (T 1) (T 2) - T 1))) 0 by rw [show offN (T 1) (T 2) + (T 1 + (12 - offN (T 1) (T 2) - T 1)) = 12 by omega], sch_skip _ _ 0 (fun x _ q => far x (Or.inl (by omega))), Nat.zero_add]
theorem end_ov {f : Nat} {T : Nat → Nat} (h : overT T = true) : endP (f + 1) T = none := by
  rw [end_s]
  exact sch_no _ _ (fun w _ hw => enW_0 (mvR_n.mpr (over_no.mp h w (by omega))))
theorem sch_len {g : Nat → Option (List Nat)} {l : Nat} (h : ∀ p ps, g p = some ps → ps.length = l) : ∀ c i ps, schW g c i = some ps → ps.length = l := by
  intro c
  induction c with
  | zero => intro i ps q; exact (nomatch q)
  | succ c ih =>
    intro i ps q
    cases hg : g i with
    | some x => rw [sch_y hg] at q; rw [← Option.some.inj q]; exact h i x hg
    | none => rw [sch_n hg] at q; exact ih _ _ q
theorem end_len : ∀ f T ps, endP f T = some ps → ps.length = f := by
  intro f
  induction f with
  | zero =>
    intro T ps h
    unfold endP at h
    split at h
    · rw [← Option.some.inj h]; rfl
    · exact nomatch h
  | succ f ih =>
    intro T ps h
    refine sch_len (g := enW f T) (fun p qs q => ?_) _ _ ps h
    cases hm : mvR T p with
    | none => rw [enW_0 hm] at q; exact (nomatch q)
    | some T' =>
      rw [enW_1 hm] at q
      cases he : endP f T' with
      | none => rw [he] at q; exact (nomatch q)
      | some x =>
        rw [he] at q
        rw [← Option.some.inj q]
        show x.length + 1 = f + 1
        rw [ih T' x he]
/-- alike boards end alike -/
theorem end_sb : ∀ f T T2, WF T → SB T T2 → endP f T2 = endP f T := by
  intro f
  induction f with
  | zero => intro T T2 hW h; show (if _ then _ else _) = (if _ then _ else _); rw [SB_o hW h]
  | succ f ih =>
    intro T T2 hW h
    have r := h.1
    have e1 : T2 1 = T 1 := r 1 ⟨by omega, by omega⟩ (by decide)
    rw [end_s, end_s, e1]
    have := sch_off (g := enW f T2) (h := enW f T) 0 (T 1) 0 (fun w _ hw => ?_)
    · exact this
    · rw [Nat.zero_add]
      have hw2 : w < T 1 := by omega
      have hc := SB_c hW h hw2
      cases ec : canW T w with
      | false => rw [enW_0 (mvR_n.mpr (by rw [hc]; exact ec)), enW_0 (mvR_n.mpr ec)]
      | true =>
        obtain ⟨hf, _⟩ := can_fs ec
        rcases SB_w hW h hw2 hf with ⟨h1, _⟩ | ⟨l, k, t, c1, c3, h1, h2, h3, _⟩
        · obtain ⟨_, l, k, t, c', e⟩ := can_fs ec
          rw [h1] at e; exact nomatch e
        · rw [enW_1 (mvR_i (by rw [hc]; exact ec) h2), enW_1 (mvR_i ec h1), e1, h.2.1]
          rw [ih (upT T c1 (thN T (T 2) l)) (upT T2 c3 (thN T2 (T 2) l)) (WF_mv hW hw2 hf h1) ⟨(RE_up.sy.tr r).tr RE_up, by rw [thN_re r]; rfl, fun p hp => by rw [cT_up (by omega), cT_up (by omega)]; exact h3 p hp⟩]
theorem soo_sb {T T2 : Nat → Nat} (hW : WF T) (h : SB T T2) : sooP T2 = sooP T := by
  have : ∀ c i, sooN T2 c i = sooN T c i := by
    intro c
    induction c with
    | zero => intro i; rfl
    | succ c ih => intro i; rw [sooN, sooN, end_sb i T T2 hW h, ih]
  exact this 7 0
theorem soo_y {T : Nat → Nat} {c i : Nat} {ps : List Nat} (h : endP i T = some ps) : sooN T (c + 1) i = some (i, ps) := by rw [sooN, h]
theorem soo_n {T : Nat → Nat} {c i : Nat} (h : endP i T = none) : sooN T (c + 1) i = sooN T c (i + 1) := by rw [sooN, h]
/-! the class's search -/
def KE (i x : Nat) : Prop := KD i x ∨ x = 26
theorem GE_ke {μ μ' : Mu} {T : Nat → Nat} {i : Nat} (h : GE μ T) (k : KP (KE i) μ μ') : GE μ' T := GE_o h (k.1 1 (by unfold KE KD RS; omega)) (k.1 2 (by unfold KE KD RS; omega)) (k.1 3 (by unfold KE KD RS; omega))
theorem SC_ke {μ μ' : Mu} {T : Nat → Nat} {i : Nat} (hi : i < 7) (h : SC μ (155 + 2 * i) T) (k : KP (KE i) μ μ') : SC μ' (155 + 2 * i) T := SC_o h (k.1 _ (by unfold KE KD RS; omega)) (k.1 _ (by unfold KE KD RS; omega))
def ENC (f : Nat) (T : Nat → Nat) (i : Nat) (μ : Mu) (a : Int32) (μ' : Mu) : Prop := (endP f T = none → a = 0) ∧ (∀ ps, endP f T = some ps → a = 1 ∧ ∀ j p, ps[j]? = some p → μ'.1 26 (i + j) = nI p) ∧ (∀ k, k < i → μ'.1 26 k = μ.1 26 k) ∧ KP (KE i) μ μ'
theorem endC_s (n : Nat) (hn : 1000 < n) : ∀ f fuel i, f < fuel → i + f ≤ 6 → ∀ (μ : Mu) (T : Nat → Nat), W1 T → GE μ T → SC μ (155 + 2 * i) T → Ok (lpF (fun _ _ _ => none) (X0_endsWithin_body n) fuel (nI i) (nI (i + f)) μ) (ENC f T i μ) := by
  intro f
  induction f with
  | zero =>
    intro fuel i hf hi μ T hT hG hS
    obtain ⟨fu, rfl⟩ : ∃ fu, fuel = fu + 1 := ⟨fuel - 1, by omega⟩
    rw [lpF_s]
    unfold X0_endsWithin_body X0_endsWithin_11
    rw [ifLe (by omega) (by omega), if_pos (by omega), gd_n (by omega) (by decide), nI_clamp (by omega)]
    refine Ok_b (isOverC_s n μ (osr i (by omega)) hT.1 hG hS hn) ?_
    rintro _ μ1 ⟨k1, rfl⟩
    dsimp only
    rw [bz_b]
    have e26 : μ1.1 26 = μ.1 26 := k1.1 26 (by unfold RS; omega)
    refine Ok_r ⟨fun q => ?_, fun ps q => ?_, fun k _ => by rw [e26], k1.up (fun o q => Or.inl (Or.inl q))⟩
    · unfold endP at q
      cases ho : overT T with
      | false => rfl
      | true => rw [ho, if_pos rfl] at q; exact (nomatch q)
    · unfold endP at q
      cases ho : overT T with
      | false => rw [ho, if_neg (by decide)] at q; exact (nomatch q)
      | true =>
        rw [ho, if_pos rfl] at q
        refine ⟨rfl, fun j p hj => ?_⟩
        rw [← Option.some.inj q] at hj
        exact nomatch hj
  | succ f ih =>
    intro fuel i hf hi μ T hT hG hS
    obtain ⟨fu, rfl⟩ : ∃ fu, fuel = fu + 1 := ⟨fuel - 1, by omega⟩
    have hos := osr i (by omega)
    have b6 := hT.1.1.2.1
    rw [lpF_s]
    generalize hKe : lpF (fun _ _ _ => none) (X0_endsWithin_body n) fu = K
    unfold X0_endsWithin_body
    rw [ifLe (by omega) (by omega), if_neg (by omega), i_6, ifLt (by omega) (by decide), if_pos (by omega), gd_n (by omega) (by decide), nI_clamp (by omega)]
    refine Ok_b (choices_s n μ hos hT.1 hG hS hn) ?_
    rintro _ μ1 ⟨k1, B, rfl, cb⟩
    dsimp only
    have kd1 : KP (KE i) μ μ1 := k1.up (fun o q => Or.inl (Or.inl q))
    have e261 : μ1.1 26 = μ.1 26 := k1.1 26 (by unfold RS; omega)
    unfold X0_endsWithin_42
    rw [i_0]
    refine Ok_lp2 (fun fl x3 x4 μ' => ∃ p, p ≤ 12 ∧ fl = 12 - p ∧ x3 = nI B ∧ x4 = nI p ∧ schW (enG f T) (12 - p) p = endP (f + 1) T ∧ (∀ k, k < i → μ'.1 26 k = μ.1 26 k) ∧ KP (KE i) μ μ') ?_ 12 (by omega) ⟨0, by omega, rfl, rfl, rfl, (end_p b6).symm, fun k _ => by rw [e261], kd1⟩
    rintro K2 fl x3 x4 μ2 ⟨p, hp, rfl, rfl, rfl, hs, h26, k2⟩ hK2
    unfold X0_endsWithin_42b X0_endsWithin_86
    rw [i_12, ifLe (by decide) (by omega)]
    by_cases c : 12 ≤ p
    · obtain rfl : p = 12 := by omega
      rw [if_pos c]
      have hs2 : none = endP (f + 1) T := hs
      exact Ok_r ⟨fun _ => rfl, fun ps q => by rw [← hs2] at q; exact (nomatch q), h26, k2⟩
    · obtain ⟨c', hc'⟩ : ∃ c', 12 - p = c' + 1 := ⟨12 - p - 1, by omega⟩
      rw [if_neg c, bS (has_s n μ2 (Nat.lt_trans cb.1 (by decide)) (by omega)), CB_p cb]
      dsimp only
      rw [hc'] at hs
      cases hc : canP T p with
      | false =>
        rw [if_pos (show b2i false = 0 from rfl), i_1, nI_add]
        rw [sch_n (enG_n (by rw [hc]; decide))] at hs
        exact hK2 (12 - (p + 1)) _ _ _ (by omega) ⟨p + 1, by omega, rfl, rfl, rfl, by rw [← hs, show 12 - (p + 1) = c' by omega], h26, k2⟩
      | true =>
        rw [if_neg (show ¬ b2i true = 0 by decide), gd_n (by omega) (by decide), nI_clamp (by omega)]
        have k2' : KP (KE i) μ (si μ2 26 i (nI p)) := k2.si (Or.inr rfl)
        refine Ok_b (down_s n (si μ2 26 i (nI p)) (show i < 6 by omega) hT (GE_ke hG k2') (SC_ke (by omega) hS k2') hc hn) ?_
        rintro _ μ3 ⟨s3, k3⟩
        dsimp only
        obtain ⟨_, _, _, _, _, _, _, _, _, _, _, w1, re, _⟩ := nxB_d hT hc
        rw [i_1, nI_add, ← hKe]
        have := ih fu (i + 1) (by omega) (by omega) μ3 (nxB T p) w1 (GE_re re (GE_kd (GE_ke hG k2') k3)) s3
        rw [show i + 1 + f = i + (f + 1) by omega] at this
        have e263 : μ3.1 26 = (si μ2 26 i (nI p)).1 26 := k3.1 26 (by unfold KD RS; omega)
        refine Ok_b this ?_
        rintro a μ4 ⟨p1, p2, p3, k4⟩
        dsimp only
        have k5 : KP (KE i) μ μ4 := (k2'.tr k3 (fun o q => Or.inl q)).tr k4 (fun o q => by
          rcases q with q | q
          · exact Or.inl (KD_s q)
          · exact Or.inr q)
        have h264 : ∀ k, k < i → μ4.1 26 k = μ.1 26 k := fun k hk => by rw [p3 k (by omega), e263, si_c (by omega)]; exact h26 k hk
        cases he : endP f (nxB T p) with
        | none =>
          rw [p1 he, if_pos rfl, nI_add]
          rw [sch_n (enG_0 hc he)] at hs
          exact hK2 (12 - (p + 1)) _ _ _ (by omega) ⟨p + 1, by omega, rfl, rfl, rfl, by rw [← hs, show 12 - (p + 1) = c' by omega], h264, k5⟩
        | some ps =>
          obtain ⟨r1, r2⟩ := p2 ps he
          rw [r1, if_neg (by decide)]
          rw [sch_y (enG_1 hc he)] at hs
          refine Ok_r ⟨fun q => by rw [← hs] at q; exact (nomatch q), fun qs q => ?_, h264, k5⟩
          rw [← hs] at q
          rw [← Option.some.inj q]
          refine ⟨rfl, fun j x hj => ?_⟩
          cases j with
          | zero =>
            have : p = x := Option.some.inj hj
            rw [Nat.add_zero, p3 i (by omega), e263, si_a, this]
          | succ j =>
            have := r2 j x hj
            rw [show i + (j + 1) = i + 1 + j by omega]
            exact this
/-! the reference's search -/
def ENR (f : Nat) (T : Nat → Nat) (μ : Mu) (a : Int32) (μ' : Mu) : Prop := (endP f T = none → a = 0) ∧ (∀ ps, endP f T = some ps → a = 1 ∧ ∀ j p, ps[j]? = some p → μ'.1 197 (f - j) = nI p) ∧ TD μ' T ∧ ∀ k, 25 * f + 25 ≤ k → μ'.1 195 k = μ.1 195 k
theorem endR_s (n : Nat) (hn : 1000 < n) : ∀ f fuel, f < fuel → f ≤ 6 → ∀ (μ : Mu) (T : Nat → Nat), W1 T → TD μ T → Ok (lpF (fun _ _ => none) (X12_ends_body n) fuel (nI f) μ) (ENR f T μ) := by
  intro f
  induction f with
  | zero =>
    intro fuel hf hi μ T hT hD
    obtain ⟨fu, rfl⟩ : ∃ fu, fuel = fu + 1 := ⟨fuel - 1, by omega⟩
    rw [lpF_s]
    unfold X12_ends_body X12_ends_11 X12_ends_26 X12_ends_27
    rw [if_pos (show nI 0 = 0 from rfl), if_pos (show nI 0 = 0 from rfl)]
    refine Ok_b (isOver_s n μ hT.1 hD hn) ?_
    rintro _ μ1 ⟨k1, rfl⟩
    dsimp only
    have e195 : μ1.1 195 = μ.1 195 := k1.1 195 (by decide) (by decide)
    cases ho : overT T with
    | false =>
      rw [if_pos (show b2i false = 0 from rfl)]
      refine Ok_r ⟨fun _ => rfl, fun ps q => ?_, KR_TD k1 hD, fun k _ => by rw [e195]⟩
      unfold endP at q
      rw [ho, if_neg (by decide)] at q; exact (nomatch q)
    | true =>
      rw [if_neg (show ¬ b2i true = 0 by decide)]
      refine Ok_r ⟨fun q => ?_, fun ps q => ⟨rfl, fun j p hj => ?_⟩, KR_TD k1 hD, fun k _ => by rw [e195]⟩
      · unfold endP at q
        rw [ho, if_pos rfl] at q; exact (nomatch q)
      · unfold endP at q
        rw [ho, if_pos rfl] at q
        rw [← Option.some.inj q] at hj
        exact nomatch hj
  | succ f ih =>
    intro fuel hf hi μ T hT hD
    obtain ⟨fu, rfl⟩ : ∃ fu, fuel = fu + 1 := ⟨fuel - 1, by omega⟩
    have hW := hT.1
    have b6 := hW.1.2.1
    have h195 : oN 195 = 175 := by decide
    rw [lpF_s]
    generalize hKe : lpF (fun _ _ => none) (X12_ends_body n) fu = K
    unfold X12_ends_body X12_ends_11 X12_ends_26 X12_ends_27
    rw [if_neg (nI_ne0 (by omega) (by omega))]
    refine Ok_b (isOver_s n μ hW hD hn) ?_
    rintro _ μ' ⟨k', rfl⟩
    dsimp only
    have hD' := KR_TD k' hD
    have e' : μ'.1 195 = μ.1 195 := k'.1 195 (by decide) (by decide)
    cases ho : overT T with
    | true =>
      rw [if_neg (show ¬ b2i true = 0 by decide), if_neg (nI_ne0 (by omega) (by omega))]
      have := end_ov (f := f) ho
      exact Ok_r ⟨fun _ => rfl, fun ps q => by rw [this] at q; exact (nomatch q), hD', fun k _ => by rw [e']⟩
    | false =>
      rw [if_pos (show b2i false = 0 from rfl), bS (puts_s n μ' (a := 195) (b := 172) (by decide) (by decide) (by rw [h195]; omega) (by decide) (by decide) (by decide) (by decide) (by omega))]
      dsimp only
      unfold X12_ends_42
      rw [i_0]
      have t0 : TD (mvF μ' 172 0 195 (25 * (f + 1)) 25) T := TD_o hD' (funext (fun k => mvF_o μ' (by decide) 25))
      have r0 : ∀ k, k < 25 → (mvF μ' 172 0 195 (25 * (f + 1)) 25).1 195 (25 * (f + 1) + k) = nI (T k) := fun k hk => by
        rw [mvF_d, if_pos ⟨by omega, by omega⟩, Nat.add_sub_cancel_left, Nat.zero_add]
        exact hD' k hk
      have r1 : ∀ k, 25 * (f + 1) + 25 ≤ k → (mvF μ' 172 0 195 (25 * (f + 1)) 25).1 195 k = μ.1 195 k := fun k hk => by
        rw [mvF_d, if_neg (by omega), e']
      generalize mvF μ' 172 0 195 (25 * (f + 1)) 25 = μ0 at *
      refine Ok_lp1 (fun fl x2 μ' => ∃ p, p ≤ 2 * T 1 ∧ fl = 2 * T 1 - p ∧ x2 = nI p ∧ schW (enG f T) (12 - p) p = endP (f + 1) T ∧ TD μ' T ∧ (∀ k, k < 25 → μ'.1 195 (25 * (f + 1) + k) = nI (T k)) ∧ ∀ k, 25 * (f + 1) + 25 ≤ k → μ'.1 195 k = μ.1 195 k) ?_ (2 * T 1) (by omega) ⟨0, by omega, rfl, rfl, (end_p b6).symm, t0, r0, r1⟩
      rintro K2 fl x2 μ1 ⟨p, hp, rfl, rfl, hs, t1, q0, q1⟩ hK2
      unfold X12_ends_42b X12_ends_100
      rw [bS (pitMany_s n μ1 (t1 1 (by omega)))]
      dsimp only
      rw [ifLe (by omega) (by omega)]
      by_cases c : 2 * T 1 ≤ p
      · obtain rfl : p = 2 * T 1 := by omega
        rw [if_pos c]
        rw [sch_no _ _ (fun x a _ => enG_n (fun q => by have := canP_lt q; omega))] at hs
        exact Ok_r ⟨fun _ => rfl, fun ps q => by rw [← hs] at q; exact (nomatch q), t1, q1⟩
      · obtain ⟨c', hc'⟩ : ∃ c', 12 - p = c' + 1 := ⟨12 - p - 1, by omega⟩
        rw [hc'] at hs
        rw [if_neg c]
        refine Ok_b (ask_s n μ1 hW t1 (by omega) hn) ?_
        rintro a μ2 ⟨kr, ha⟩
        dsimp only
        have t2 := KR_TD kr t1
        have e2 : μ2.1 195 = μ1.1 195 := kr.1 195 (by decide) (by decide)
        by_cases hc : canP T p = true
        · rw [if_pos (ha.mpr hc)]
          refine Ok_b (mvP_s n μ2 hT t2 hc hn) ?_
          rintro _ μ3 ⟨t3, k3⟩
          dsimp only
          have e3 : μ3.1 195 = μ2.1 195 := k3.1 195 (by decide) (by decide) (by decide)
          obtain ⟨_, _, _, _, _, _, _, _, _, _, _, w1, re, _⟩ := nxB_d hT hc
          rw [i_1, pk_sub (by omega), Nat.add_sub_cancel, ← hKe]
          refine Ok_b (ih fu (by omega) (by omega) μ3 (nxB T p) w1 t3) ?_
          rintro a4 μ4 ⟨p1, p2, t4, r4⟩
          dsimp only
          rw [bS (gets_s n μ4 (a := 195) (b := 172) (by decide) (by decide) (by rw [h195]; omega) (by decide) (by decide) (by decide) (by decide) (by omega))]
          dsimp only
          rw [gd_n (by omega) (by decide), nI_clamp (by omega), nI_add]
          have e5 : ∀ o, o ≠ 172 → (mvF μ4 195 (25 * (f + 1)) 172 0 25).1 o = μ4.1 o := fun o ho => funext (fun k => mvF_o μ4 ho 25)
          have t5 : TD (mvF μ4 195 (25 * (f + 1)) 172 0 25) T := fun k hk => by
            rw [mvF_d, if_pos ⟨by omega, by omega⟩, Nat.sub_zero, r4 _ (by omega), e3, e2]
            exact q0 k hk
          have q05 : ∀ k, k < 25 → (mvF μ4 195 (25 * (f + 1)) 172 0 25).1 195 (25 * (f + 1) + k) = nI (T k) := fun k hk => by
            rw [e5 195 (by decide), r4 _ (by omega), e3, e2]
            exact q0 k hk
          have q15 : ∀ k, 25 * (f + 1) + 25 ≤ k → (mvF μ4 195 (25 * (f + 1)) 172 0 25).1 195 k = μ.1 195 k := fun k hk => by
            rw [e5 195 (by decide), r4 _ (by omega), e3, e2]
            exact q1 k hk
          have e197 : (mvF μ4 195 (25 * (f + 1)) 172 0 25).1 197 = μ4.1 197 := e5 197 (by decide)
          generalize mvF μ4 195 (25 * (f + 1)) 172 0 25 = μ5 at *
          cases he : endP f (nxB T p) with
          | none =>
            rw [p1 he, if_pos rfl]
            rw [sch_n (enG_0 hc he)] at hs
            exact hK2 (2 * T 1 - (p + 1)) _ _ (by omega) ⟨p + 1, by omega, rfl, rfl, by rw [← hs, show 12 - (p + 1) = c' by omega], TD_o t5 (by rw [si_o (by decide)]), fun k hk => by rw [si_b (by decide)]; exact q05 k hk, fun k hk => by rw [si_b (by decide)]; exact q15 k hk⟩
          | some ps =>
            obtain ⟨s1, s2⟩ := p2 ps he
            rw [s1, if_neg (by decide)]
            rw [sch_y (enG_1 hc he)] at hs
            refine Ok_r ⟨fun q => by rw [← hs] at q; exact (nomatch q), fun qs q => ?_, TD_o t5 (by rw [si_o (by decide)]), fun k hk => by rw [si_b (by decide)]; exact q15 k hk⟩
            rw [← hs] at q
            rw [← Option.some.inj q]
            refine ⟨rfl, fun j x hj => ?_⟩
            cases j with
            | zero =>
              have : p = x := Option.some.inj hj
              rw [Nat.sub_zero, si_a, this]
            | succ j =>
              rw [show f + 1 - (j + 1) = f - j by omega, si_c (by omega), e197]
              exact s2 j x hj
        · rw [if_neg (fun z => hc (ha.mp z)), i_1, nI_add]
          rw [sch_n (enG_n hc)] at hs
          exact hK2 (2 * T 1 - (p + 1)) _ _ (by omega) ⟨p + 1, by omega, rfl, rfl, by rw [← hs, show 12 - (p + 1) = c' by omega], t2, fun k hk => by rw [e2]; exact q0 k hk, fun k hk => by rw [e2]; exact q1 k hk⟩
