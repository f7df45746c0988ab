/-! what holds between calls; where it lies -/
def AG (D : List (Nat × Nat × Nat)) (μ μ' : Mu) : Prop := ∀ o k, inL D o k → μ'.1 o k = μ.1 o k ∧ μ'.2 o k = μ.2 o k
def djB (L D : List (Nat × Nat × Nat)) : Bool := L.all (fun q => D.all (fun d => decide (q.2.1 < d.1) || decide (d.2.1 < q.1) || (decide (q.2.2 ≠ 9999) && decide (d.2.2 ≠ 9999) && decide (q.2.2 ≠ d.2.2))))
theorem Fr_ag {L D : List (Nat × Nat × Nat)} {μ μ' : Mu} (h : Fr (fun o k => inL L o k) μ μ') (hd : djB L D = true) : AG D μ μ' := by
  intro o k hD
  refine h o k (fun hL => ?_)
  obtain ⟨q, hq, q1, q2, q3⟩ := hL
  obtain ⟨d, hd2, d1, d2, d3⟩ := hD
  have := List.all_eq_true.mp (List.all_eq_true.mp hd q hq) d hd2
  simp only [Bool.or_eq_true, Bool.and_eq_true, decide_eq_true_eq] at this
  omega
theorem AG.tr {D : List (Nat × Nat × Nat)} {μ μ1 μ2 : Mu} (h : AG D μ μ1) (g : AG D μ1 μ2) : AG D μ μ2 := fun o k q => ⟨by rw [(g o k q).1, (h o k q).1], by rw [(g o k q).2, (h o k q).2]⟩
theorem AG.rf {D : List (Nat × Nat × Nat)} {μ : Mu} : AG D μ μ := fun _ _ _ => ⟨rfl, rfl⟩
theorem AG.o {D : List (Nat × Nat × Nat)} {μ μ' : Mu} (h : AG D μ μ') (o lo hi : Nat) (hm : (lo, hi, 9999) ∈ D) (h1 : lo ≤ o) (h2 : o ≤ hi) : μ'.1 o = μ.1 o ∧ μ'.2 o = μ.2 o := ⟨funext (fun k => (h o k ⟨_, hm, h1, h2, Or.inl rfl⟩).1), funext (fun k => (h o k ⟨_, hm, h1, h2, Or.inl rfl⟩).2)⟩
theorem AG.f {D : List (Nat × Nat × Nat)} {μ μ' : Mu} (h : AG D μ μ') (o k : Nat) (hm : (o, o, k) ∈ D) : μ'.1 o k = μ.1 o k ∧ μ'.2 o k = μ.2 o k := h o k ⟨_, hm, Nat.le_refl _, Nat.le_refl _, Or.inr rfl⟩
theorem AG.sub {D D2 : List (Nat × Nat × Nat)} {μ μ' : Mu} (h : AG D μ μ') (hs : ∀ x, x ∈ D2 → x ∈ D) : AG D2 μ μ' := fun o k q => by
  obtain ⟨d, hd, r⟩ := q
  exact h o k ⟨d, hs d hd, r⟩
theorem AG.sj {D : List (Nat × Nat × Nat)} {μ : Mu} {v : Int64} (hd : djB [(201, 201, 9999)] D = true) : AG D μ (sj μ 201 0 v) := by
  refine Fr_ag (L := [(201, 201, 9999)]) ?_ hd
  exact Fr.sj Fr.rf (inL_mk 201 201 9999 (by decide) (by decide) (by decide) (Or.inl rfl))
/-- a board's bounds -/
def W1 (T : Nat → Nat) : Prop := WF T ∧ sT T + T 11 ≤ 139 ∧ sT T + T 12 ≤ 139 ∧ T 0 < 1000
def NOW (μ : Mu) (T : Nat → Nat) : Prop := GA μ T ∧ μ.1 1 0 = nI (T 0) ∧ SC μ 53 T
def D_now : List (Nat × Nat × Nat) := [(1, 5, 9999), (53, 54, 9999)]
theorem NOW_ag {μ μ' : Mu} {T : Nat → Nat} (h : NOW μ T) (g : AG D_now μ μ') : NOW μ' T := by
  obtain ⟨a, b, c⟩ := h
  have e : ∀ o, 1 ≤ o → o ≤ 5 → μ'.1 o = μ.1 o := fun o h1 h2 => (g.o o 1 5 (by decide) h1 h2).1
  exact ⟨GA_o a e, by rw [e 1 (by omega) (by omega)]; exact b, SC_o c (g.o 53 53 54 (by decide) (by decide) (by decide)).1 (g.o 54 53 54 (by decide) (by decide) (by decide)).1⟩
def D_ci : List (Nat × Nat × Nat) := [(15, 15, 6), (15, 15, 7), (16, 17, 9999)]
theorem CI_ag {μ μ' : Mu} (h : CI μ) (g : AG D_ci μ μ') : CI μ' := CI_o h (g.f 15 6 (by decide)).1 (g.f 15 7 (by decide)).1 (g.o 16 16 17 (by decide) (by decide) (by decide)).1 (g.o 17 16 17 (by decide) (by decide) (by decide)).1
theorem CV_ag {μ μ' : Mu} {T : Nat → Nat} {S : Nat} (h : CV μ T S) (g : AG D_ci μ μ') : CV μ' T S := CV_o h (g.f 15 7 (by decide)).1 (g.o 16 16 17 (by decide) (by decide) (by decide)).1 (g.o 17 16 17 (by decide) (by decide) (by decide)).1
def D_ri : List (Nat × Nat × Nat) := [(171, 171, 40), (184, 185, 9999), (187, 191, 9999)]
theorem RI_ag {μ μ' : Mu} (h : RI μ) (g : AG D_ri μ μ') : RI μ' := RI_o h (g.f 171 40 (by decide)).1 (fun o a b c => by
  by_cases z : o < 186
  · exact (g.o o 184 185 (by decide) a (by omega)).1
  · exact (g.o o 187 191 (by decide) (by omega) b).1)
theorem RV_ag {μ μ' : Mu} {T : Nat → Nat} {S : Nat} (h : RV μ T S) (g : AG D_ri μ μ') : RV μ' T S := RV_o h (g.f 171 40 (by decide)).1 (fun o a b c => by
  by_cases z : o < 186
  · exact (g.o o 184 185 (by decide) a (by omega)).1
  · exact (g.o o 187 191 (by decide) (by omega) (by omega)).1)
theorem TD_ag {μ μ' : Mu} {T : Nat → Nat} (h : TD μ T) (g : AG [(172, 172, 9999)] μ μ') : TD μ' T := TD_o h (g.o 172 172 172 (by decide) (by decide) (by decide)).1
/-! what a move leads to -/
def mvR (T : Nat → Nat) (w : Nat) : Option (Nat → Nat) := if canW T w = true then (mvW T w).bind (fun x => some (upT T x.2.2.2 (thN T (T 2) x.1))) else none
theorem mvR_e {T T' : Nat → Nat} {w : Nat} (h : mvR T w = some T') : canW T w = true ∧ ∃ l k t c', mvW T w = some (l, k, t, c') ∧ T' = upT T c' (thN T (T 2) l) := by
  unfold mvR at h
  cases hc : canW T w with
  | false => rw [hc, if_neg (by decide)] at h; exact nomatch h
  | true =>
    obtain ⟨_, l, k, t, c', e⟩ := can_fs hc
    rw [hc, if_pos rfl, e] at h
    exact ⟨rfl, l, k, t, c', e, (Option.some.inj h).symm⟩
theorem mvR_i {T : Nat → Nat} {w l k t : Nat} {c' : Nat → Nat} (hc : canW T w = true) (e : mvW T w = some (l, k, t, c')) : mvR T w = some (upT T c' (thN T (T 2) l)) := by
  unfold mvR
  rw [if_pos hc, e]
  rfl
theorem mvR_n {T : Nat → Nat} {w : Nat} : mvR T w = none ↔ canW T w = false := by
  unfold mvR
  cases hc : canW T w with
  | false => exact ⟨fun _ => rfl, fun _ => if_neg (by decide)⟩
  | true =>
    obtain ⟨_, l, k, t, c', e⟩ := can_fs hc
    rw [if_pos rfl, e]
    exact ⟨fun q => (nomatch q), fun q => (nomatch q)⟩
theorem sT_up {T c : Nat → Nat} {th : Nat} : sT (upT T c th) = sumF c 12 := sum_cg _ (fun x hx => cT_up (by omega))
theorem W1_mv {T T' : Nat → Nat} {w : Nat} (h : W1 T) (hw : w < T 1) (e : mvR T w = some T') : W1 T' ∧ RE T T' ∧ T' 0 = T 0 := by
  obtain ⟨hW, h11, h12, h0⟩ := h
  obtain ⟨hc, l, k, t, c', hm, rfl⟩ := mvR_e e
  have hf := (can_fs hc).1
  obtain ⟨p1, p2, p3, p4, p5, p6⟩ := mv_p hW.1.2.1 hW.1.1 hW.2.1 hw (ful_t.mp hf).1 (ful_t.mp hf).2 hm
  rw [sum14, sum14] at p3
  have c11 : cT T 12 = T 11 := rfl
  have c12 : cT T 13 = T 12 := rfl
  have u11 : upT T c' (thN T (T 2) l) 11 = c' 12 := rfl
  have u12 : upT T c' (thN T (T 2) l) 12 = c' 13 := rfl
  have hs : sT T = sumF (cT T) 12 := rfl
  refine ⟨⟨WF_mv hW hw hf hm, ?_, ?_, h0⟩, RE_up, rfl⟩
  · rw [sT_up, u11]
    obtain z | z : T 2 = 0 ∨ T 2 = 1 := by have := hW.2.1; omega
    all_goals
      rw [z] at p4 p5
      simp only [Nat.add_zero, Nat.sub_zero, Nat.reduceAdd, Nat.reduceSub] at p4 p5
      omega
  · rw [sT_up, u12]
    obtain z | z : T 2 = 0 ∨ T 2 = 1 := by have := hW.2.1; omega
    all_goals
      rw [z] at p4 p5
      simp only [Nat.add_zero, Nat.sub_zero, Nat.reduceAdd, Nat.reduceSub] at p4 p5
      omega
/-! the past -/
def slN (st i : Nat) : Nat := if st + i < 40 then st + i else st + i - 40
def stepP (B : Nat → Nat) (m : Nat) (B' : Nat → Nat) : Prop := ∃ w, w < B 1 ∧ m = offN (B 1) (B 2) + w ∧ mvR B w = some B'
def PST (μ : Mu) (T : Nat → Nat) (d u st : Nat) (B : Nat → Nat → Nat) (m : Nat → Nat) : Prop :=
  d + u ≤ 40 ∧ st < 40 ∧ μ.1 9 0 = nI d ∧ μ.1 9 1 = nI u ∧ μ.1 9 2 = nI st ∧ μ.1 171 28 = nI d ∧ μ.1 171 29 = nI u ∧ B d = T ∧
  (∀ i, i < d + u → W1 (B i) ∧ stepP (B i) (m i) (B (i + 1)) ∧ μ.1 10 (slN st i) = nI (m i) ∧ SC μ (69 + 2 * slN st i) (B i)) ∧
  (∀ i, i < d → (∀ k, k < 25 → μ.1 179 (25 * i + k) = nI (B i k)) ∧ μ.1 180 i = nI (m i)) ∧
  (∀ j, j < u → (∀ k, k < 25 → μ.1 181 (25 * j + k) = nI (B (d + u - j) k)) ∧ μ.1 182 j = nI (m (d + u - 1 - j)))
def PAST (μ : Mu) (T : Nat → Nat) : Prop := ∃ d u st B m, PST μ T d u st B m
def D_past : List (Nat × Nat × Nat) := [(9, 9, 0), (9, 9, 1), (9, 9, 2), (10, 10, 9999), (69, 148, 9999), (171, 171, 28), (171, 171, 29), (179, 182, 9999)]
theorem slN_lt {st i : Nat} (h : st < 40) (hi : i < 40) : slN st i < 40 := by unfold slN; split <;> omega
theorem PST_ag {μ μ' : Mu} {T : Nat → Nat} {d u st : Nat} {B : Nat → Nat → Nat} {m : Nat → Nat} (h : PST μ T d u st B m) (g : AG D_past μ μ') : PST μ' T d u st B m := by
  obtain ⟨h1, h2, h3, h4, h5, h6, h7, h8, h9, h10, h11⟩ := h
  have e179 : ∀ o, 179 ≤ o → o ≤ 182 → μ'.1 o = μ.1 o := fun o a b => (g.o o 179 182 (by decide) a b).1
  refine ⟨h1, h2, by rw [(g.f 9 0 (by decide)).1]; exact h3, by rw [(g.f 9 1 (by decide)).1]; exact h4, by rw [(g.f 9 2 (by decide)).1]; exact h5, by rw [(g.f 171 28 (by decide)).1]; exact h6, by rw [(g.f 171 29 (by decide)).1]; exact h7, h8, fun i hi => ?_, fun i hi => ?_, fun j hj => ?_⟩
  · obtain ⟨a, b, c, e⟩ := h9 i hi
    have := slN_lt h2 (show i < 40 by omega)
    exact ⟨a, b, by rw [(g.o 10 10 10 (by decide) (by decide) (by decide)).1]; exact c, SC_o e (g.o _ 69 148 (by decide) (by omega) (by omega)).1 (g.o _ 69 148 (by decide) (by omega) (by omega)).1⟩
  · rw [e179 179 (by decide) (by decide), e179 180 (by decide) (by decide)]; exact h10 i hi
  · rw [e179 181 (by decide) (by decide), e179 182 (by decide) (by decide)]; exact h11 j hj
theorem PAST_ag {μ μ' : Mu} {T : Nat → Nat} (h : PAST μ T) (g : AG D_past μ μ') : PAST μ' T := by
  obtain ⟨d, u, st, B, m, q⟩ := h
  exact ⟨d, u, st, B, m, PST_ag q g⟩
/-! tapes and faults -/
def RDR (μ : Mu) : Prop := (∃ z, z ≤ 500 ∧ μ.1 12 4 = nI z ∧ μ.1 171 7 = nI z ∧ ∀ i, i < z → ∃ b, b < 256 ∧ μ.1 14 i = nI b ∧ μ.1 177 i = nI b) ∧ μ.1 12 2 = μ.1 171 15 ∧ μ.1 12 3 = μ.1 171 16
def D_rdr : List (Nat × Nat × Nat) := [(12, 12, 4), (12, 12, 2), (12, 12, 3), (14, 14, 9999), (171, 171, 7), (171, 171, 15), (171, 171, 16), (177, 177, 9999)]
theorem RDR_ag {μ μ' : Mu} (h : RDR μ) (g : AG D_rdr μ μ') : RDR μ' := by
  obtain ⟨⟨z, z1, z2, z3, z4⟩, h2, h3⟩ := h
  refine ⟨⟨z, z1, by rw [(g.f 12 4 (by decide)).1]; exact z2, by rw [(g.f 171 7 (by decide)).1]; exact z3, fun i hi => ?_⟩, by rw [(g.f 12 2 (by decide)).1, (g.f 171 15 (by decide)).1]; exact h2, by rw [(g.f 12 3 (by decide)).1, (g.f 171 16 (by decide)).1]; exact h3⟩
  rw [(g.o 14 14 14 (by decide) (by decide) (by decide)).1, (g.o 177 177 177 (by decide) (by decide) (by decide)).1]
  exact z4 i hi
/-! the search for an end -/
def schW (g : Nat → Option (List Nat)) : Nat → Nat → Option (List Nat)
  | 0, _ => none
  | c + 1, i => match g i with
    | some ps => some ps
    | none => schW g c (i + 1)
def endP : Nat → (Nat → Nat) → Option (List Nat)
  | 0, T => if overT T = true then some [] else none
  | f + 1, T => schW (fun w => match mvR T w with
    | none => none
    | some T' => match endP f T' with
      | none => none
      | some ps => some ((offN (T 1) (T 2) + w) :: ps)) (T 1) 0
def sooN (T : Nat → Nat) : Nat → Nat → Option (Nat × List Nat)
  | 0, _ => none
  | c + 1, i => match endP i T with
    | some ps => some (i, ps)
    | none => sooN T c (i + 1)
def sooP (T : Nat → Nat) : Option (Nat × List Nat) := sooN T 7 0
/-- what the explorer holds of a search -/
def SOK (μ : Mu) (T : Nat → Nat) : Prop := (sooP T = none → μ.1 25 6 = -nI 1) ∧ ∀ x, sooP T = some x → μ.1 25 6 = nI x.1 ∧ x.2.length = x.1 ∧ x.1 ≤ 6 ∧ ∀ i, i < x.1 → ∀ p, x.2[i]? = some p → μ.1 26 i = nI p
def XPL (μ : Mu) : Prop := μ.1 25 7 = nI 0 ∨ (μ.1 25 7 = nI 1 ∧ ∃ T0, W1 T0 ∧ μ.1 25 5 = nI (keyA T0) ∧ SC μ 169 T0 ∧ SOK μ T0)
def D_xpl : List (Nat × Nat × Nat) := [(25, 25, 5), (25, 25, 6), (25, 25, 7), (26, 26, 9999), (169, 170, 9999)]
theorem XPL_ag {μ μ' : Mu} (h : XPL μ) (g : AG D_xpl μ μ') : XPL μ' := by
  rcases h with h | ⟨h1, T0, h2, h3, h4, h5, h6⟩
  · exact Or.inl (by rw [(g.f 25 7 (by decide)).1]; exact h)
  · refine Or.inr ⟨by rw [(g.f 25 7 (by decide)).1]; exact h1, T0, h2, by rw [(g.f 25 5 (by decide)).1]; exact h3, SC_o h4 (g.o 169 169 170 (by decide) (by decide) (by decide)).1 (g.o 170 169 170 (by decide) (by decide) (by decide)).1, ?_⟩
    unfold SOK
    rw [(g.f 25 6 (by decide)).1, (g.o 26 26 26 (by decide) (by decide) (by decide)).1]
    exact ⟨h5, h6⟩
/-! trays -/
def TRO (μ : Mu) (t : Nat) : Prop := μ.1 (33 + 2 * t) 1 = μ.1 198 t ∧ (μ.1 198 t = -nI 1 ∨ ∃ s, s < 4 ∧ μ.1 198 t = nI s) ∧ (∃ m, m ≤ 40 ∧ μ.1 (33 + 2 * t) 2 = nI m ∧ μ.1 199 t = nI m) ∧ ∀ k, k < 40 → μ.2 (34 + 2 * t) k = μ.2 200 (40 * t + k)
def TRS (μ : Mu) : Prop := ∀ t, t < 4 → TRO μ t
def D_trs : List (Nat × Nat × Nat) := [(33, 40, 9999), (198, 200, 9999)]
theorem TRS_ag {μ μ' : Mu} (h : TRS μ) (g : AG D_trs μ μ') : TRS μ' := by
  intro t ht
  obtain ⟨a, b, c, d⟩ := h t ht
  have e1 := g.o (33 + 2 * t) 33 40 (by decide) (by omega) (by omega)
  have e2 := g.o (34 + 2 * t) 33 40 (by decide) (by omega) (by omega)
  have e3 := g.o 198 198 200 (by decide) (by decide) (by decide)
  have e4 := g.o 199 198 200 (by decide) (by decide) (by decide)
  have e5 := g.o 200 198 200 (by decide) (by decide) (by decide)
  exact ⟨by rw [e1.1, e3.1]; exact a, by rw [e3.1]; exact b, by rw [e1.1, e4.1]; exact c, fun k hk => by rw [e2.2, e5.2]; exact d k hk⟩
/-! images -/
def RUL (μ : Mu) (o : Nat) (T : Nat → Nat) : Prop := μ.1 o 0 = nI (T 0) ∧ μ.1 o 1 = nI (T 1) ∧ μ.1 o 2 = nI (T 3) ∧ μ.1 o 3 = nI (T 6) ∧ μ.1 o 4 = nI (tkC T) ∧ μ.1 o 5 = nI (T 4) ∧ μ.1 o 6 = nI (T 5) ∧ μ.1 o 7 = nI (T 9) ∧ μ.1 o 8 = nI (T 10)
theorem RUL_o {μ μ' : Mu} {o : Nat} {T : Nat → Nat} (h : RUL μ o T) (e : μ'.1 o = μ.1 o) : RUL μ' o T := by unfold RUL; rw [e]; exact h
def IMO (μ : Mu) (i : Nat) : Prop := (μ.1 (41 + 4 * i) 0 = nI 0 ∧ μ.1 176 i = nI 0) ∨ (μ.1 (41 + 4 * i) 0 = nI 1 ∧ μ.1 176 i = nI 1 ∧ ∃ T, W1 T ∧ RUL μ (42 + 4 * i) T ∧ SC μ (43 + 4 * i) T ∧ ∀ k, k < 25 → μ.1 174 (25 * i + k) = nI (T k))
def IMG (μ : Mu) : Prop := ∀ i, i < 3 → IMO μ i
def D_img : List (Nat × Nat × Nat) := [(41, 52, 9999), (174, 174, 9999), (176, 176, 9999)]
theorem IMG_ag {μ μ' : Mu} (h : IMG μ) (g : AG D_img μ μ') : IMG μ' := by
  intro i hi
  have e1 : ∀ o, 41 ≤ o → o ≤ 52 → μ'.1 o = μ.1 o := fun o a b => (g.o o 41 52 (by decide) a b).1
  have e2 := (g.o 174 174 174 (by decide) (by decide) (by decide)).1
  have e3 := (g.o 176 176 176 (by decide) (by decide) (by decide)).1
  rcases h i hi with ⟨a, b⟩ | ⟨a, b, T, c, d, e, f⟩
  · exact Or.inl ⟨by rw [e1 _ (by omega) (by omega)]; exact a, by rw [e3]; exact b⟩
  · exact Or.inr ⟨by rw [e1 _ (by omega) (by omega)]; exact a, by rw [e3]; exact b, T, c, RUL_o d (e1 _ (by omega) (by omega)), SC_o e (e1 _ (by omega) (by omega)) (e1 _ (by omega) (by omega)), fun k hk => by rw [e2]; exact f k hk⟩
/-! all of it -/
def RST (μ : Mu) (T : Nat → Nat) : Prop := PAST μ T ∧ RDR μ ∧ XPL μ ∧ TRS μ ∧ IMG μ
def D_rst : List (Nat × Nat × Nat) := D_past ++ (D_rdr ++ (D_xpl ++ (D_trs ++ D_img)))
theorem RST_ag {μ μ' : Mu} {T : Nat → Nat} (h : RST μ T) (g : AG D_rst μ μ') : RST μ' T := by
  obtain ⟨a, b, c, d, e⟩ := h
  unfold D_rst at g
  have s1 : ∀ {A B : List (Nat × Nat × Nat)} {ν ν' : Mu}, AG (A ++ B) ν ν' → AG A ν ν' ∧ AG B ν ν' := fun q => ⟨q.sub (fun x hx => List.mem_append_left _ hx), q.sub (fun x hx => List.mem_append_right _ hx)⟩
  obtain ⟨g1, g2⟩ := s1 g
  obtain ⟨g2, g3⟩ := s1 g2
  obtain ⟨g3, g4⟩ := s1 g3
  obtain ⟨g4, g5⟩ := s1 g4
  exact ⟨PAST_ag a g1, RDR_ag b g2, XPL_ag c g3, TRS_ag d g4, IMG_ag e g5⟩
def INT (μ : Mu) (T : Nat → Nat) : Prop := W1 T ∧ TD μ T ∧ NOW μ T ∧ CI μ ∧ RI μ ∧ RST μ T
def INV (μ : Mu) : Prop := ∃ T, INT μ T
/-- all but the told row, and what was solved -/
def D_nr : List (Nat × Nat × Nat) := D_now ++ D_rst
def D_all : List (Nat × Nat × Nat) := D_nr ++ (D_ci ++ D_ri)
theorem AG_ap {A B : List (Nat × Nat × Nat)} {ν ν' : Mu} (q : AG (A ++ B) ν ν') : AG A ν ν' ∧ AG B ν ν' := ⟨q.sub (fun x hx => List.mem_append_left _ hx), q.sub (fun x hx => List.mem_append_right _ hx)⟩
theorem INT_nr {μ μ' : Mu} {T : Nat → Nat} (h : INT μ T) (g : AG D_nr μ μ') (t : TD μ' T) (c : CI μ') (r : RI μ') : INT μ' T := by
  obtain ⟨a, _, b, _, _, e⟩ := h
  obtain ⟨g1, g2⟩ := AG_ap g
  exact ⟨a, t, NOW_ag b g1, c, r, RST_ag e g2⟩
theorem INT_all {μ μ' : Mu} {T : Nat → Nat} (h : INT μ T) (g : AG D_all μ μ') (t : TD μ' T) : INT μ' T := by
  obtain ⟨g1, g2⟩ := AG_ap g
  obtain ⟨g2, g3⟩ := AG_ap g2
  exact INT_nr h g1 t (CI_ag h.2.2.2.1 g2) (RI_ag h.2.2.2.2.1 g3)
theorem INT_td {μ μ' : Mu} {T : Nat → Nat} (h : INT μ T) (g : AG (D_all ++ [(172, 172, 9999)]) μ μ') : INT μ' T := by
  obtain ⟨g1, g2⟩ := AG_ap g
  exact INT_all h g1 (TD_ag h.2.1 g2)
/-- one call without a throw: equal answers, and all holds again -/
def CA (f : Mu → Option (Int32 × Mu)) (g : Mu → Option (Int32 × Mu)) (μ : Mu) : Prop := ∃ a μ1 μ2, f μ = some (a, μ1) ∧ g μ1 = some (a, μ2) ∧ INV μ2
/-- one call that may throw -/
def CB2 (f : Mu → Option (Int32 × Mu)) (g : Mu → Option (Int32 × Mu)) (μ : Mu) : Prop := ∃ k μ1 b μ2, f μ = some (k, μ1) ∧ g μ1 = some (b, μ2) ∧ μ2.1 171 5 = k ∧ (k = 0 → μ2.2 201 0 = b.toInt64) ∧ INV μ2
