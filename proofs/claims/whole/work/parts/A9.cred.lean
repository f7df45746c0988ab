/-! the class reads the moves of a position -/
def PMi (μ : Mu) (T : Nat → Nat) (s : Nat) (lo : Nat → Nat → Nat → Int) (h k i : Nat) : Prop :=
  (∃ e : Int, μ.1 18 (h * 3003 + k) = iv e ∧ e ≤ 1000 ∧ ∀ z, e ≤ z ↔ -1000 ≤ z ∧ ∀ w, w < i → ∀ g st k', mvD T h s k w = some (g, st, k') → 0 < g → woV s lo (fun _ _ => 0) h (g, st, k') ≤ z) ∧
  (∃ q, ∃ kk : Nat → Nat, q ≤ i ∧ μ.1 20 (h * 3003 + k) = nI q ∧ (∀ j, j < q → μ.1 21 ((h * 3003 + k) * 6 + j) = nI (ixC T (1 - h) s (kk j)) ∧ ∃ w st, w < i ∧ mvD T h s k w = some (0, st, kk j)) ∧ ∀ w st k', w < i → mvD T h s k w = some (0, st, k') → ∃ j, j < q ∧ kk j = k')
def KW (y : Nat) (μ μ' : Mu) : Prop := (∀ o, o ≠ 18 → o ≠ 20 → o ≠ 21 → μ'.1 o = μ.1 o) ∧ μ'.2 = μ.2 ∧ (∀ x, x ≠ y → μ'.1 18 x = μ.1 18 x ∧ μ'.1 20 x = μ.1 20 x) ∧ (∀ x, ¬ (y * 6 ≤ x ∧ x < y * 6 + 6) → μ'.1 21 x = μ.1 21 x)
theorem KW.rf {y : Nat} {μ : Mu} : KW y μ μ := ⟨fun _ _ _ _ => rfl, rfl, fun _ _ => ⟨rfl, rfl⟩, fun _ _ => rfl⟩
theorem KW.tr {y : Nat} {μ μ1 μ2 : Mu} (h : KW y μ μ1) (g : KW y μ1 μ2) : KW y μ μ2 := ⟨fun o a b c => by rw [g.1 o a b c, h.1 o a b c], by rw [g.2.1, h.2.1], fun x hx => ⟨by rw [(g.2.2.1 x hx).1, (h.2.2.1 x hx).1], by rw [(g.2.2.1 x hx).2, (h.2.2.1 x hx).2]⟩, fun x hx => by rw [g.2.2.2 x hx, h.2.2.2 x hx]⟩
theorem PMi_0 {μ : Mu} {T : Nat → Nat} {s : Nat} {lo : Nat → Nat → Nat → Int} {h k : Nat} (h1 : μ.1 18 (h * 3003 + k) = iv (-1000)) (h2 : μ.1 20 (h * 3003 + k) = nI 0) : PMi μ T s lo h k 0 :=
  ⟨⟨-1000, h1, by omega, fun z => ⟨fun a => ⟨a, fun w hw => by omega⟩, fun a => a.1⟩⟩, 0, fun _ => 0, by omega, h2, fun j hj => by omega, fun w st k' hw => by omega⟩
theorem PMi_o {μ μ' : Mu} {T : Nat → Nat} {s : Nat} {lo : Nat → Nat → Nat → Int} {h k i : Nat} (hP : PMi μ T s lo h k i) (hi : i ≤ 6) (e1 : μ'.1 18 (h * 3003 + k) = μ.1 18 (h * 3003 + k)) (e2 : μ'.1 20 (h * 3003 + k) = μ.1 20 (h * 3003 + k)) (e3 : ∀ j, j < 6 → μ'.1 21 ((h * 3003 + k) * 6 + j) = μ.1 21 ((h * 3003 + k) * 6 + j)) : PMi μ' T s lo h k i := by
  obtain ⟨⟨e, a1, a2⟩, q, kk, b1, b2, b3, b4⟩ := hP
  exact ⟨⟨e, by rw [e1]; exact a1, a2⟩, q, kk, b1, by rw [e2]; exact b2, fun j hj => ⟨by rw [e3 j (by omega)]; exact (b3 j hj).1, (b3 j hj).2⟩, b4⟩
/-- a pit that has no move leaves all as it was -/
theorem PMi_no {μ : Mu} {T : Nat → Nat} {s : Nat} {lo : Nat → Nat → Nat → Int} {h k i : Nat} (hP : PMi μ T s lo h k i) (hn : mvD T h s k i = none) : PMi μ T s lo h k (i + 1) := by
  obtain ⟨⟨e, a1, a2, a3⟩, q, kk, b1, b2, b3, b4⟩ := hP
  refine ⟨⟨e, a1, a2, fun z => ?_⟩, q, kk, by omega, b2, fun j hj => ?_, fun w st k' hw e => ?_⟩
  · rw [a3 z]
    refine ⟨fun q => ⟨q.1, fun w hw g st k' e hg => ?_⟩, fun q => ⟨q.1, fun w hw => q.2 w (by omega)⟩⟩
    by_cases z2 : w = i
    · rw [z2, hn] at e; exact nomatch e
    · exact q.2 w (by omega) g st k' e hg
  · obtain ⟨c1, w, st, c2, c3⟩ := b3 j hj
    exact ⟨c1, w, st, by omega, c3⟩
  · by_cases z2 : w = i
    · rw [z2, hn] at e; exact nomatch e
    · exact b4 w st k' (by omega) e
theorem readMove_s (n : Nat) (μ : Mu) {T : Nat → Nat} {lo : Nat → Nat → Nat → Int} {s h k w g k' : Nat} {st : Bool} (hW : WF T) (hG : GA μ T) (hh : h < 2) (h40 : s ≤ 40) (h6 : bhS T (s + 1) ≤ 6000) (h3 : Wn (opnN T) s ≤ 3003) (hk : k < Wn (opnN T) s) (hw : w < T 1) (hm : mvD T h s k w = some (g, st, k')) (hAF : AF μ (laT T h s k) (T 1)) (hfs : μ.1 151 1 = nI h) (hlo : loB T s lo) (hL : ∀ sd' s' k', sd' < 2 → s' < s → k' < Wn (opnN T) s' → μ.1 16 (ixC T sd' s' k') = iv (lo sd' s' k')) (hP : PMi μ T s lo h k w) (hn : 1000 < n) :
    Ok (X7_readMove n (nI (h * 3003 + k)) (nI s) (nI w) μ) (fun _ μ' => PMi μ' T s lo h k (w + 1) ∧ KW (h * 3003 + k) μ μ') := by
  obtain ⟨p1, p2, p3, p4, l, r, t, c', q1, q2, q3, q4, q5, q6, q7, q8⟩ := mvD_p hW hh h40 hk hw hm
  have b6 := hW.1.2.1
  have hf := (can_fs p4).1
  obtain ⟨sc, gn⟩ := hAF w hw hf l r t c' q1
  have eth : thN (laT T h s k) (laT T h s k 2) l = thN T h l := by
    rw [show laT T h s k 2 = h from rfl]
    exact thN_re la_re
  have hth : thN T h l < 2 := thN_lt hh
  have hce : CE μ (57 + 2 * w) c' := fun x hx => by
    have := sc.2 x hx
    rw [cT_up hx] at this
    exact this
  have hsd : μ.1 (57 + 2 * w) 1 = nI (thN T h l) := by
    have := sc.1
    rw [upT_2, eth] at this
    exact this
  have hgn : μ.1 8 w = nI g := by
    rw [gn, show laT T h s k 2 = h from rfl, la_ct (by omega), (laC_p hh hk).2 (12 + h) (Or.inl (by omega)), Nat.sub_zero, q2]
  have hsl : h * 3003 + k < 6006 := by omega
  have h6g : bhS T (s - g + 1) ≤ 6000 := Nat.le_trans (bh_mo (by omega)) h6
  unfold X7_readMove
  rw [gd_n (by omega) (by decide), nI_clamp (by omega), hgn, pk_sub p1, bS (indexAt_s n μ (aft_k w (by omega)) hW.1 hG hth hsd hce q6 q5 (by omega) h6g hn), ← q4]
  dsimp only
  obtain ⟨⟨e, e1, e2, e3⟩, q, kk, hq, hq1, hq2, hq3⟩ := hP
  have e4 : -1000 ≤ e := ((e3 e).mp (Int.le_refl e)).1
  by_cases g0 : g = 0
  · subst g0
    have hst := p3 rfl
    have eth2 : thN T h l = 1 - h := by
      rw [hst] at q3
      have := of_decide_eq_false q3.symm
      omega
    rw [if_pos (show nI 0 ≤ 0 by decide), gd_n hsl (by decide), nI_clamp (by omega), hq1, i_6, pk_mul, nI_add, gd_n (by omega) (by decide), nI_clamp (by omega), si_b (by decide), hq1, i_1, nI_add, Nat.sub_zero, eth2]
    unfold X7_readMove_128
    refine Ok_r ⟨⟨⟨e, ?_, e2, fun z => ?_⟩, q + 1, ups kk q k', by omega, si_a, fun j hj => ?_, fun w2 st2 k2 hw2 em => ?_⟩, fun o a b c => ?_, rfl, fun x hx => ?_, fun x hx => ?_⟩
    · rw [si_b (by decide), si_b (by decide)]; exact e1
    · rw [e3 z]
      refine ⟨fun y => ⟨y.1, fun w2 hw2 g2 st2 k2 em hg => ?_⟩, fun y => ⟨y.1, fun w2 hw2 => y.2 w2 (by omega)⟩⟩
      by_cases z2 : w2 = w
      · rw [z2, hm] at em
        have := (Prod.mk.inj (Option.some.inj em)).1
        omega
      · exact y.2 w2 (by omega) g2 st2 k2 em hg
    · by_cases z : j = q
      · rw [z, si_b (by decide), si_a, ups_a]
        exact ⟨rfl, w, st, by omega, hm⟩
      · obtain ⟨c1, w2, st2, c2, c3⟩ := hq2 j (by omega)
        rw [si_b (by decide), si_c (by omega), ups_b z]
        exact ⟨c1, w2, st2, by omega, c3⟩
    · by_cases z2 : w2 = w
      · rw [z2, hm] at em
        have := (Prod.mk.inj (Prod.mk.inj (Option.some.inj em)).2).2
        exact ⟨q, by omega, by rw [ups_a, this]⟩
      · obtain ⟨j, c1, c2⟩ := hq3 w2 st2 k2 (by omega) em
        exact ⟨j, by omega, by rw [ups_b (by omega), c2]⟩
    · rw [si_o b, si_o c]
    · exact ⟨by rw [si_b (by decide), si_b (by decide)], by rw [si_c hx, si_b (by decide)]⟩
    · rw [si_b (by decide), si_c (by omega)]
  · have hgp : 0 < g := by omega
    have hlt : s - g < s := by omega
    have fin : ∀ v : Int, -40 ≤ v → v ≤ 40 → woV s lo (fun _ _ => 0) h (g, st, k') = (g : Int) + v → Ok (X7_readMove_75 n (nI (h * 3003 + k)) (nI s) (nI w) (nI g) (iv v) μ) (fun _ μ' => PMi μ' T s lo h k (w + 1) ∧ KW (h * 3003 + k) μ μ') := by
      intro v v1 v2 ev
      unfold X7_readMove_75 X7_readMove_128
      rw [gd_n hsl (by decide), nI_clamp (by omega), e1, iv_n, iv_add]
      have emx : (if iv e < iv ((g : Int) + v) then iv ((g : Int) + v) else iv e) = iv (if e < (g : Int) + v then (g : Int) + v else e) := by
        by_cases z : e < (g : Int) + v
        · rw [if_pos z, if_pos ((iv_lt (by omega) (by omega) (by omega) (by omega)).mpr z)]
        · rw [if_neg z, if_neg (fun y => z ((iv_lt (by omega) (by omega) (by omega) (by omega)).mp y))]
      rw [emx]
      refine Ok_r ⟨⟨⟨_, si_a, by split <;> omega, fun z => ?_⟩, q, kk, by omega, by rw [si_b (by decide)]; exact hq1, fun j hj => ?_, fun w2 st2 k2 hw2 em => ?_⟩, fun o a b c => ?_, rfl, fun x hx => ?_, fun x hx => ?_⟩
      · have hspl : (if e < (g : Int) + v then (g : Int) + v else e) ≤ z ↔ e ≤ z ∧ (g : Int) + v ≤ z := by
          split <;> omega
        rw [hspl, e3 z]
        refine ⟨fun y => ⟨y.1.1, fun w2 hw2 g2 st2 k2 em hg => ?_⟩, fun y => ⟨⟨y.1, fun w2 hw2 => y.2 w2 (by omega)⟩, ?_⟩⟩
        · by_cases z2 : w2 = w
          · rw [z2, hm] at em
            rw [← Option.some.inj em, ev]
            exact y.2
          · exact y.1.2 w2 (by omega) g2 st2 k2 em hg
        · rw [← ev]
          exact y.2 w (by omega) g st k' hm hgp
      · obtain ⟨c1, w2, st2, c2, c3⟩ := hq2 j hj
        exact ⟨by rw [si_b (by decide)]; exact c1, w2, st2, by omega, c3⟩
      · by_cases z2 : w2 = w
        · rw [z2, hm] at em
          have := (Prod.mk.inj (Option.some.inj em)).1
          omega
        · exact hq3 w2 st2 k2 (by omega) em
      · rw [si_o a]
      · exact ⟨by rw [si_c hx], by rw [si_b (by decide)]⟩
      · rw [si_b (by decide)]
    have hix := ix_lt hth h6g p2
    rw [if_neg (nI_nle hgp (by omega)), hsd, hfs, ifEq (by omega) (by omega)]
    by_cases z : thN T h l = h
    · have hlb := hlo h (s - g) k' hh hlt p2
      rw [if_pos z, gd_n hix (by decide), nI_clamp (by omega), z, hL h (s - g) k' hh hlt p2]
      refine fin _ (by omega) (by omega) ?_
      rw [q3, decide_eq_true z]
      unfold woV
      rw [if_pos hgp, if_pos rfl]
    · have hlb := hlo (1 - h) (s - g) k' (by omega) hlt p2
      rw [if_neg z, gd_n hix (by decide), nI_clamp (by omega), show thN T h l = 1 - h by omega, hL (1 - h) (s - g) k' (by omega) hlt p2, iv_neg]
      refine fin _ (by omega) (by omega) ?_
      rw [q3, decide_eq_false z]
      unfold woV
      rw [if_pos hgp, if_neg (show ¬ false = true by decide)]
/-- all is kept but one position's own -/
def ZC (o : Nat) : Prop := o = 6 ∨ o = 8 ∨ (57 ≤ o ∧ o ≤ 68) ∨ o = 151 ∨ o = 152 ∨ o = 16 ∨ o = 17 ∨ o = 18 ∨ o = 20 ∨ o = 21
def KX (y x : Nat) (μ μ' : Mu) : Prop := (∀ o, ¬ ZC o → μ'.1 o = μ.1 o) ∧ μ'.2 = μ.2 ∧ (∀ z, z ≠ x → μ'.1 16 z = μ.1 16 z ∧ μ'.1 17 z = μ.1 17 z) ∧ (∀ z, z ≠ y → μ'.1 18 z = μ.1 18 z ∧ μ'.1 20 z = μ.1 20 z) ∧ (∀ z, ¬ (y * 6 ≤ z ∧ z < y * 6 + 6) → μ'.1 21 z = μ.1 21 z)
theorem KX.rf {y x : Nat} {μ : Mu} : KX y x μ μ := ⟨fun _ _ => rfl, rfl, fun _ _ => ⟨rfl, rfl⟩, fun _ _ => ⟨rfl, rfl⟩, fun _ _ => rfl⟩
theorem KX.tr {y x : Nat} {μ μ1 μ2 : Mu} (h : KX y x μ μ1) (g : KX y x μ1 μ2) : KX y x μ μ2 := ⟨fun o a => by rw [g.1 o a, h.1 o a], by rw [g.2.1, h.2.1], fun z hz => ⟨by rw [(g.2.2.1 z hz).1, (h.2.2.1 z hz).1], by rw [(g.2.2.1 z hz).2, (h.2.2.1 z hz).2]⟩, fun z hz => ⟨by rw [(g.2.2.2.1 z hz).1, (h.2.2.2.1 z hz).1], by rw [(g.2.2.2.1 z hz).2, (h.2.2.2.1 z hz).2]⟩, fun z hz => by rw [g.2.2.2.2 z hz, h.2.2.2.2 z hz]⟩
theorem KP.kx {R : Nat → Prop} {y x : Nat} {μ μ' : Mu} (h : KP R μ μ') (hs : ∀ o, R o → o = 6 ∨ o = 8 ∨ (57 ≤ o ∧ o ≤ 68) ∨ o = 151 ∨ o = 152) : KX y x μ μ' :=
  have k : ∀ o, ¬ (o = 6 ∨ o = 8 ∨ (57 ≤ o ∧ o ≤ 68) ∨ o = 151 ∨ o = 152) → μ'.1 o = μ.1 o := fun o ho => h.1 o (fun q => ho (hs o q))
  ⟨fun o a => k o (fun q => a (by unfold ZC; omega)), h.2, fun z _ => ⟨by rw [k 16 (by omega)], by rw [k 17 (by omega)]⟩, fun z _ => ⟨by rw [k 18 (by omega)], by rw [k 20 (by omega)]⟩, fun z _ => by rw [k 21 (by omega)]⟩
theorem KW.kx {y x : Nat} {μ μ' : Mu} (h : KW y μ μ') : KX y x μ μ' := ⟨fun o a => h.1 o (fun q => a (by unfold ZC; omega)) (fun q => a (by unfold ZC; omega)) (fun q => a (by unfold ZC; omega)), h.2.1, fun z _ => ⟨by rw [h.1 16 (by decide) (by decide) (by decide)], by rw [h.1 17 (by decide) (by decide) (by decide)]⟩, fun z hz => h.2.2.1 z hz, fun z hz => h.2.2.2 z hz⟩
theorem KX.v {y x : Nat} {μ μ' : Mu} (h : KX y x μ μ') {a b : Int32} : KX y x μ (si (si μ' 16 x a) 17 x b) := ⟨fun o ho => by rw [si_o (fun q => ho (by unfold ZC; omega)), si_o (fun q => ho (by unfold ZC; omega)), h.1 o ho], h.2.1, fun z hz => ⟨by rw [si_b (by decide), si_c hz, (h.2.2.1 z hz).1], by rw [si_c hz, si_b (by decide), (h.2.2.1 z hz).2]⟩, fun z hz => ⟨by rw [si_b (by decide), si_b (by decide), (h.2.2.2.1 z hz).1], by rw [si_b (by decide), si_b (by decide), (h.2.2.2.1 z hz).2]⟩, fun z hz => by rw [si_b (by decide), si_b (by decide), h.2.2.2.2 z hz]⟩
theorem KX.m {y x : Nat} {μ μ' : Mu} (h : KX y x μ μ') {a b : Int32} : KX y x μ (si (si μ' 18 y a) 20 y b) := ⟨fun o ho => by rw [si_o (fun q => ho (by unfold ZC; omega)), si_o (fun q => ho (by unfold ZC; omega)), h.1 o ho], h.2.1, fun z hz => ⟨by rw [si_b (by decide), si_b (by decide), (h.2.2.1 z hz).1], by rw [si_b (by decide), si_b (by decide), (h.2.2.1 z hz).2]⟩, fun z hz => ⟨by rw [si_b (by decide), si_c hz, (h.2.2.2.1 z hz).1], by rw [si_c hz, si_b (by decide), (h.2.2.2.1 z hz).2]⟩, fun z hz => by rw [si_b (by decide), si_b (by decide), h.2.2.2.2 z hz]⟩
/-- a value and a rank behind r turns -/
def VC (μ : Mu) (T : Nat → Nat) (s : Nat) (lo : Nat → Nat → Nat → Int) (r h k : Nat) : Prop := μ.1 16 (ixC T h s k) = iv (itV T s lo r h k) ∧ μ.1 17 (ixC T h s k) = if enD T h s k = true then -nI 1 else nI (itR T s lo r h k)
theorem AF_o {μ μ' : Mu} {T : Nat → Nat} {i : Nat} (h : AF μ T i) (hi : i ≤ 6) (e : ∀ o, 57 ≤ o → o ≤ 68 → μ'.1 o = μ.1 o) (e8 : μ'.1 8 = μ.1 8) : AF μ' T i := by
  intro w hw hf l k t c' hm
  obtain ⟨a, b⟩ := h w hw hf l k t c' hm
  exact ⟨SC_o a (e _ (by omega) (by omega)) (e _ (by omega) (by omega)), by rw [e8]; exact b⟩
theorem mvD_no {T : Nat → Nat} {sd s k w : Nat} (h : canW (laT T sd s k) w = false) : mvD T sd s k w = none := by
  unfold mvD
  rw [if_neg (by rw [h]; decide)]
theorem mvD_yes {T : Nat → Nat} {sd s k w : Nat} (h : canW (laT T sd s k) w = true) : ∃ g st k', mvD T sd s k w = some (g, st, k') := by
  obtain ⟨_, l, r, t, c', e⟩ := can_fs h
  unfold mvD
  rw [if_pos h, e]
  exact ⟨_, _, _, rfl⟩
theorem os151 : OS 151 := ⟨by decide, by decide, by decide, by decide⟩
theorem readPos_s (n : Nat) (μ : Mu) {T : Nat → Nat} {lo : Nat → Nat → Nat → Int} {s h k : Nat} (hW : WF T) (hG : GA μ T) (hh : h ≤ hlf T 1) (h40 : s ≤ 40) (h6 : bhS T (s + 1) ≤ 6000) (h3 : Wn (opnN T) s ≤ 3003) (hk : k < Wn (opnN T) s) (hlo : loB T s lo) (hL : ∀ sd' s' k', sd' < 2 → s' < s → k' < Wn (opnN T) s' → μ.1 16 (ixC T sd' s' k') = iv (lo sd' s' k')) (hn : 1000 < n) :
    Ok (X7_readPosition n (nI h) (nI s) (nI k) μ) (fun _ μ' => PMi μ' T s lo h k (T 1) ∧ VC μ' T s lo 0 h k ∧ KX (h * 3003 + k) (ixC T h s k) μ μ') := by
  have hh2 : h < 2 := Nat.lt_of_le_of_lt hh (hlf_lt (by decide))
  have hB := hW.1
  have b6 := hB.2.1
  have h6' := h6
  rw [bh_s] at h6'
  have hix := ix_lt (k := k) hh2 h6 hk
  have hsl : h * 3003 + k < 6006 := by omega
  have kpG : ∀ μ', KX (h * 3003 + k) (ixC T h s k) μ μ' → GA μ' T := fun μ' q => GA_o hG (fun o a b => q.1 o (by unfold ZC; omega))
  have kpL : ∀ μ', KX (h * 3003 + k) (ixC T h s k) μ μ' → ∀ sd' s' k', sd' < 2 → s' < s → k' < Wn (opnN T) s' → μ'.1 16 (ixC T sd' s' k') = iv (lo sd' s' k') := fun μ' q sd' s' k' a b c => by rw [(q.2.2.1 _ (ix_low h6 hh2 a hk b c)).1]; exact hL sd' s' k' a b c
  unfold X7_readPosition
  rw [bS (indexOf_s n μ hB hG (by omega) (by omega))]
  dsimp only
  refine Ok_b (lay_s n μ (o := 151) (by decide) (by decide) b6 hh2 (GA_sn hG hh2) hG.1.2.2.2.1 hG.2 h40 hk (by omega) hn) ?_
  rintro _ μ1 ⟨l1, l2, l3⟩
  dsimp only
  rw [i_3003, pk_mul, nI_add, gd_n hsl (by decide), gd_n hix (by decide), nI_clamp (by omega), nI_clamp (by omega), i_0, iv_m1000]
  have k1 : KX (h * 3003 + k) (ixC T h s k) μ (si (si (si (si μ1 18 (h * 3003 + k) (iv (-1000))) 20 (h * 3003 + k) (nI 0)) 16 (ixC T h s k) (nI 0)) 17 (ixC T h s k) (nI 0)) := (KX.m (KP.kx l3 (fun o q => by omega))).v
  generalize hμ2 : si (si (si (si μ1 18 (h * 3003 + k) (iv (-1000))) 20 (h * 3003 + k) (nI 0)) 16 (ixC T h s k) (nI 0)) 17 (ixC T h s k) (nI 0) = μ2 at k1
  have m151 : μ2.1 151 = μ1.1 151 := by rw [← hμ2, si_o (by decide), si_o (by decide), si_o (by decide), si_o (by decide)]
  have m152 : μ2.1 152 = μ1.1 152 := by rw [← hμ2, si_o (by decide), si_o (by decide), si_o (by decide), si_o (by decide)]
  have p0 : PMi μ2 T s lo h k 0 := PMi_0 (by rw [← hμ2, si_b (by decide), si_b (by decide), si_b (by decide), si_a]) (by rw [← hμ2, si_b (by decide), si_b (by decide), si_a])
  have v16 : μ2.1 16 (ixC T h s k) = nI 0 := by rw [← hμ2, si_b (by decide), si_a]
  have v17 : μ2.1 17 (ixC T h s k) = nI 0 := by rw [← hμ2, si_a]
  have hce : CE μ2 151 (laC T h s k) := CE_o l2 m152
  have hsc : SC μ2 151 (laT T h s k) := ⟨by rw [m151]; exact l1, fun x hx => by rw [la_ct hx]; exact hce x hx⟩
  have hWl := WF_la hW hh2 h40 hk
  refine Ok_b (tryAll_s n μ2 os151 hWl (GE_re la_re (kpG μ2 k1).1.1) hsc hn) ?_
  rintro _ μ3 ⟨kp, af, B, rfl, cb⟩
  dsimp only
  have k3 : KX (h * 3003 + k) (ixC T h s k) μ μ3 := k1.tr (KP.kx kp (fun o q => by unfold RS at q; omega))
  have e11 : μ3.1 1 1 = nI (T 1) := (kpG μ3 k3).1.1.1.1
  rw [e11, pk_mul, mul_off hh2, pk_ushrN (Nat.lt_trans cb.1 (by decide)) _ (offN (T 1) h) (ush_l _ (by have := off_le (T 1) h; omega))]
  have off7 : offN (T 1) h < 7 := by have := off_le (T 1) h; omega
  have bit : ∀ w, w < T 1 → (B / 2 ^ offN (T 1) h).testBit w = canW (laT T h s k) w := by
    intro w hw
    rw [← Nat.shiftRight_eq_div_pow, Nat.testBit_shiftRight]
    exact CB_w cb hw
  have hB0 : B / 2 ^ offN (T 1) h = 0 ↔ enD T h s k = true := by
    unfold enD
    constructor
    · intro z
      rw [over_no]
      intro w hw
      rw [← bit w hw, z, Nat.zero_testBit]
    · intro z
      rw [(CB_0 cb).mpr z, Nat.zero_div]
  have hBl : B / 2 ^ offN (T 1) h < 2 ^ 31 := Nat.lt_of_le_of_lt (Nat.div_le_self _ _) (Nat.lt_trans cb.1 (by decide))
  have af3 : AF μ3 (laT T h s k) (T 1) := af
  have m3o : ∀ o, ¬ RS o → μ3.1 o = μ2.1 o := fun o q => kp.1 o q
  have s3 : μ3.1 151 1 = nI h := by rw [m3o 151 (by unfold RS; omega), m151]; exact l1
  have p3 : PMi μ3 T s lo h k 0 := PMi_o p0 (by omega) (by rw [m3o 18 (by unfold RS; omega)]) (by rw [m3o 20 (by unfold RS; omega)]) (fun j _ => by rw [m3o 21 (by unfold RS; omega)])
  have fin : ∀ μ4, KX (h * 3003 + k) (ixC T h s k) μ μ4 → AF μ4 (laT T h s k) (T 1) → μ4.1 151 1 = nI h → PMi μ4 T s lo h k 0 → VC μ4 T s lo 0 h k → Ok (X7_readPosition_142 n (nI h) (nI s) (nI k) (nI (h * 3003 + k)) (nI (B / 2 ^ offN (T 1) h)) μ4) (fun _ μ' => PMi μ' T s lo h k (T 1) ∧ VC μ' T s lo 0 h k ∧ KX (h * 3003 + k) (ixC T h s k) μ μ') := by
    intro μ4 k4 af4 s4 p4 v4
    unfold X7_readPosition_142 X7_readPosition_145
    rw [i_0]
    refine Ok_lp3 (fun f x4 x6 x7 μ' => ∃ i, i ≤ T 1 ∧ f = T 1 - i ∧ x4 = nI (h * 3003 + k) ∧ x6 = nI (B / 2 ^ offN (T 1) h) ∧ x7 = nI i ∧ PMi μ' T s lo h k i ∧ KW (h * 3003 + k) μ4 μ') ?_ (T 1) (by omega) ⟨0, by omega, rfl, rfl, rfl, rfl, p4, KW.rf⟩
    rintro K f x4 x6 x7 μ5 ⟨i, hi, rfl, rfl, rfl, rfl, p5, kw5⟩ hK
    have k5 := k4.tr (kw5.kx (x := ixC T h s k))
    unfold X7_readPosition_145b X7_readPosition_176
    rw [show μ5.1 1 1 = nI (T 1) from (kpG μ5 k5).1.1.1.1, ifLe (by omega) (by omega)]
    by_cases c : T 1 ≤ i
    · obtain rfl : i = T 1 := by omega
      rw [if_pos c]
      exact Ok_r ⟨p5, ⟨by rw [kw5.1 16 (by decide) (by decide) (by decide)]; exact v4.1, by rw [kw5.1 17 (by decide) (by decide) (by decide)]; exact v4.2⟩, k5⟩
    · rw [if_neg c, bS (has_s n μ5 hBl (by omega)), bit i (by omega)]
      dsimp only
      rw [i_1, nI_add]
      cases hc : canW (laT T h s k) i with
      | false =>
        rw [if_pos (show b2i false = 0 from rfl)]
        exact hK (T 1 - (i + 1)) _ _ _ _ (by omega) ⟨i + 1, by omega, rfl, rfl, rfl, rfl, PMi_no p5 (mvD_no hc), kw5⟩
      | true =>
        rw [if_neg (show ¬ b2i true = 0 by decide)]
        obtain ⟨g, st, k', hm⟩ := mvD_yes hc
        refine Ok_b (readMove_s n μ5 hW (kpG μ5 k5) hh2 h40 h6 h3 hk (by omega) hm (AF_o af4 (by omega) (fun o a b => kw5.1 o (by omega) (by omega) (by omega)) (kw5.1 8 (by decide) (by decide) (by decide))) (by rw [kw5.1 151 (by decide) (by decide) (by decide)]; exact s4) hlo (kpL μ5 k5) p5 hn) ?_
        rintro _ μ6 ⟨p6, kw6⟩
        exact hK (T 1 - (i + 1)) _ _ _ _ (by omega) ⟨i + 1, by omega, rfl, rfl, rfl, rfl, p6, kw5.tr kw6⟩
  by_cases z : B / 2 ^ offN (T 1) h = 0
  · have hen := hB0.mp z
    have hce3 : CE μ3 151 (laC T h s k) := CE_o hce (m3o 152 (by unfold RS; omega))
    rw [if_pos (by rw [z]), bS (inRow_s n μ3 (by decide) b6 hh2 hce3 (by omega))]
    dsimp only
    rw [e11, i_1, pk_sub (by omega), bS (inRow_s n μ3 (by decide) b6 (show 1 - h < 2 by omega) hce3 (by omega))]
    dsimp only
    refine fin _ (k3.v) (AF_o af3 (by omega) (fun o a b => by rw [si_o (by omega), si_o (by omega)]) (by rw [si_o (by decide), si_o (by decide)])) (by rw [si_b (by decide), si_b (by decide)]; exact s3) (PMi_o p3 (by omega) (by rw [si_b (by decide), si_b (by decide)]) (by rw [si_b (by decide), si_b (by decide)]) (fun j _ => by rw [si_b (by decide), si_b (by decide)])) ⟨?_, ?_⟩
    · rw [si_b (by decide), si_a, (it_en hen 0).1, iv_n, iv_n, iv_sub]
      rfl
    · rw [si_a, if_pos hen]
  · have hen : enD T h s k = false := by
      cases e : enD T h s k with
      | false => rfl
      | true => exact absurd (hB0.mpr e) z
    rw [if_neg (fun q => z ((nI_eq hBl (by decide)).mp q))]
    refine fin μ3 k3 af3 s3 p3 ⟨?_, ?_⟩
    · rw [m3o 16 (by unfold RS; omega), v16]
      show nI 0 = iv (if enD T h s k = true then edV T h s k else 0)
      rw [hen, if_neg (by decide)]
      rfl
    · rw [m3o 17 (by unfold RS; omega), v17, hen, if_neg (by decide)]
      rfl
