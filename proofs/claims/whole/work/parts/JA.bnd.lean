/-! a line keeps the bounds, and its place moves on -/
theorem ly_pl {b : Nat → Nat} {m : Nat} : ∀ c i T p T' p', p ≤ m → lyF b m c i T p = .inr (T', p') → p ≤ p' ∧ p' ≤ m := by
  intro c
  induction c with
  | zero => intro i T p T' p' _ h; exact nomatch h
  | succ c ih =>
    intro i T p T' p' hp h
    obtain ⟨e1, e2⟩ := tE_b (b := b) hp
    obtain ⟨s1, s2⟩ := tS_b (b := b) hp
    cases e : nuF b m p 0 20 with
    | inl f => rw [ly_l e] at h; exact nomatch h
    | inr r =>
      rw [ly_r e] at h
      obtain ⟨_, _, _, r2⟩ := nu_r e
      by_cases z : i < 2 * T 1
      · rw [if_pos z] at h
        by_cases z2 : tK b m r.2 = 2
        · rw [if_pos z2] at h
          obtain ⟨a1, a2⟩ := ih _ _ _ _ _ (by omega) h
          exact ⟨by omega, a2⟩
        · rw [if_neg z2] at h
          have e4 : r.2 = p' := congrArg Prod.snd (Sum.inr.inj h)
          omega
      · rw [if_neg z] at h; exact nomatch h
theorem tk_pl {b : Nat → Nat} {m p : Nat} {T T' : Nat → Nat} {p' : Nat} (hp : p ≤ m) (h : tkF b m T p = .inr (T', p')) : p ≤ p' ∧ p' ≤ m := by
  obtain ⟨e1, e2⟩ := tE_b (b := b) hp
  obtain ⟨s1, s2⟩ := tS_b (b := b) hp
  obtain ⟨e3, e4⟩ := tE_b (b := b) e2
  obtain ⟨s3, s4⟩ := tS_b (b := b) e2
  have fin : ∀ a s q, p ≤ q → q ≤ m → (.inr (stT T a s, q) : (Nat × Nat) ⊕ ((Nat → Nat) × Nat)) = .inr (T', p') → p ≤ p' ∧ p' ≤ m := by
    intro a s q q1 q2 e
    have e1 : q = p' := congrArg Prod.snd (Sum.inr.inj e)
    omega
  unfold tkF at h
  by_cases c4 : isW b m p 4 = true
  · rw [if_pos c4] at h; exact fin 0 0 _ (by omega) e2 h
  · rw [if_neg c4] at h
    by_cases c5 : isW b m p 5 = true
    · rw [if_pos c5] at h; exact fin 1 0 _ (by omega) e2 h
    · rw [if_neg c5] at h
      by_cases c6 : isW b m p 6 = true
      · rw [if_pos c6] at h
        by_cases c7 : isW b m (tE b m p) 7 = true
        · rw [if_pos c7] at h; exact fin 2 1 _ (by omega) e4 h
        · rw [if_neg c7] at h; exact fin 2 0 _ (by omega) e2 h
      · rw [if_neg c6] at h; exact nomatch h
theorem nu_pl {b : Nat → Nat} {m p a c : Nat} {r : Nat × Nat} (hp : p ≤ m) (e : nuF b m p a c = .inr r) : p ≤ r.2 ∧ r.2 ≤ m := by
  obtain ⟨e1, e2⟩ := tE_b (b := b) hp
  obtain ⟨s1, s2⟩ := tS_b (b := b) hp
  obtain ⟨_, _, _, r2⟩ := nu_r e
  omega
theorem st_pl {b : Nat → Nat} {m p : Nat} {T T' : Nat → Nat} {p' : Nat} (hp : p ≤ m) (h : stF b m T p = .inr (T', p')) : p ≤ p' ∧ p' ≤ m := by
  cases e : nuF b m p 0 99 with
  | inl f => rw [st_l e] at h; exact nomatch h
  | inr r =>
    rw [st_r e] at h
    obtain ⟨r2, e2, _, rfl⟩ := mp_i h
    obtain ⟨a1, a2⟩ := nu_pl hp e
    obtain ⟨c1, c2⟩ := nu_pl a2 e2
    exact ⟨by omega, c2⟩
theorem BB_li {b : Nat → Nat} {m p : Nat} {T T' : Nat → Nat} {p' : Nat} (hp : p ≤ m) (hT : BB T) (hF : FLn T) (h : liF b m T p = .inr (T', p')) : (BB T' ∧ T' 0 = T 0) ∧ tE b m p ≤ p' ∧ p' ≤ m := by
  obtain ⟨_, e2⟩ := tE_b (b := b) hp
  have one : ∀ {a c : Nat} {g : Nat → Nat → Nat}, (∀ v, a ≤ v → v ≤ c → BB (g v) ∧ g v 0 = T 0) → mpN (nuF b m (tE b m p) a c) g = .inr (T', p') → (BB T' ∧ T' 0 = T 0) ∧ tE b m p ≤ p' ∧ p' ≤ m := by
    intro a c g hg q
    obtain ⟨r, e, rfl, rfl⟩ := mp_i q
    obtain ⟨r1, r2, _, _⟩ := nu_r e
    exact ⟨hg _ r1 r2, nu_pl e2 e⟩
  have fl : ∀ {g : Nat → Nat}, (BB g ∧ g 0 = T 0) → (.inr (g, tE b m p) : (Nat × Nat) ⊕ ((Nat → Nat) × Nat)) = .inr (T', p') → (BB T' ∧ T' 0 = T 0) ∧ tE b m p ≤ p' ∧ p' ≤ m := by
    intro g hg q
    have q1 : g = T' := congrArg Prod.fst (Sum.inr.inj q)
    have q2 : tE b m p = p' := congrArg Prod.snd (Sum.inr.inj q)
    rw [← q1, ← q2]
    exact ⟨hg, Nat.le_refl _, e2⟩
  cases e1 : isW b m p 1 with
  | true =>
    rw [li_1 e1] at h
    by_cases z : T 0 = 0
    · rw [if_pos z] at h; exact one (fun v v1 v2 => BB_pits hT hF z v1 v2) h
    · rw [if_neg z] at h; exact nomatch h
  | false =>
    cases e2 : isW b m p 2 with
    | true => rw [li_2 e1 e2] at h; exact ⟨BB_ly _ _ _ _ _ _ hT h, ly_pl _ _ _ _ _ _ (by assumption) h⟩
    | false =>
      cases e3 : isW b m p 3 with
      | true => rw [li_3 e1 e2 e3] at h; exact ⟨BB_tk hT h, tk_pl (by assumption) h⟩
      | false =>
        cases e8 : isW b m p 8 with
        | true => rw [li_8 e1 e2 e3 e8] at h; exact ⟨BB_sto hT h, st_pl (by assumption) h⟩
        | false =>
          cases e9 : isW b m p 9 with
          | true => rw [li_9 e1 e2 e3 e8 e9] at h; exact one (fun v _ v2 => BB_lack hT v2) h
          | false =>
            cases e10 : isW b m p 10 with
            | true => rw [li_10 e1 e2 e3 e8 e9 e10] at h; exact one (fun v _ v2 => BB_u2 hT (by omega)) h
            | false =>
              cases e11 : isW b m p 11 with
              | true => rw [li_11 e1 e2 e3 e8 e9 e10 e11] at h; exact one (fun v _ v2 => BB_u6 hT v2) h
              | false =>
                cases e12 : isW b m p 12 with
                | true => rw [li_12 e1 e2 e3 e8 e9 e10 e11 e12] at h; exact fl (BB_u4 hT (by decide)) h
                | false =>
                  cases e13 : isW b m p 13 with
                  | true => rw [li_13 e1 e2 e3 e8 e9 e10 e11 e12 e13] at h; exact fl (BB_u5 hT (by decide)) h
                  | false =>
                    cases e14 : isW b m p 14 with
                    | true => rw [li_14 e1 e2 e3 e8 e9 e10 e11 e12 e13 e14] at h; exact fl (BB_u9 hT (by decide)) h
                    | false =>
                      cases e15 : isW b m p 15 with
                      | true => rw [li_15 e1 e2 e3 e8 e9 e10 e11 e12 e13 e14 e15] at h; exact fl (BB_u10 hT (by decide)) h
                      | false => rw [li_0 e1 e2 e3 e8 e9 e10 e11 e12 e13 e14 e15] at h; exact nomatch h
/-- a bad token -/
theorem li_4 {b : Nat → Nat} {m p : Nat} {T : Nat → Nat} (h4 : tK b m p = 4) : liF b m T p = .inl (1, tS b m p) := by
  have f : ∀ i, isW b m p i = false := fun i => decide_eq_false (fun q => by omega)
  rw [li_0 (f 1) (f 2) (f 3) (f 8) (f 9) (f 10) (f 11) (f 12) (f 13) (f 14) (f 15)]
  unfold blF
  rw [if_pos h4]
theorem BB_u0 {T : Nat → Nat} {v : Nat} (hT : BB T) : BB (ups T 0 v) := by
  have g : ∀ k, k ≠ 0 → ups T 0 v k = T k := fun k hk => ups_b hk
  unfold BB
  rw [g 1 (by decide), g 2 (by decide), g 3 (by decide), g 4 (by decide), g 5 (by decide), g 6 (by decide), g 7 (by decide), g 8 (by decide), g 9 (by decide), g 10 (by decide), g 11 (by decide), g 12 (by decide)]
  obtain ⟨h1, h2, h3, h4, h5, h6, h7, h8, h9, h10, h11, h12, h13, h14, h15, h16⟩ := hT
  exact ⟨h1, h2, h3, h4, h5, h6, h7, h8, h9, h10, h11, h12, h13, h14, fun k hk => by rw [g _ (by omega)]; exact h15 k hk, fun k hk q => by rw [g _ (by omega)]; exact h16 k hk q⟩
/-- a whole line -/
theorem BB_ln {b : Nat → Nat} {m p : Nat} {T T' : Nat → Nat} {p' : Nat} (hp : p ≤ m) (hk : tK b m p ≠ 0) (hT : BB T) (hF : FLn T) (h : edF b m (liF b m T p) = .inr (T', p')) : BB T' ∧ FLn T' ∧ T' 0 = T 0 + 1 ∧ p < p' ∧ p' ≤ m := by
  cases e : liF b m T p with
  | inl f => rw [e, ed_l] at h; exact nomatch h
  | inr r =>
    rw [e, ed_r] at h
    obtain ⟨⟨b1, b2⟩, b3, b4⟩ := BB_li hp hT hF (T' := r.1) (p' := r.2) e
    obtain ⟨g1, g2⟩ := tE_gt hp hk
    obtain ⟨s1, s2⟩ := tS_b (b := b) hp
    obtain ⟨e1, e2⟩ := tE_b (b := b) b4
    obtain ⟨s3, s4⟩ := tS_b (b := b) b4
    by_cases z : tK b m r.2 = 3
    · rw [if_pos z] at h
      have q1 : ups r.1 0 (r.1 0 + 1) = T' := congrArg Prod.fst (Sum.inr.inj h)
      have q2 : tE b m r.2 = p' := congrArg Prod.snd (Sum.inr.inj h)
      have q3 : T' 0 = T 0 + 1 := by rw [← q1, ups_a, b2]
      refine ⟨by rw [← q1]; exact BB_u0 b1, fun q => by omega, q3, by omega, by omega⟩
    · rw [if_neg z] at h; exact nomatch h
