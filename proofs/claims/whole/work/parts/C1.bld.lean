/-! calls: the builders -/
def bcI (v0 : Int32) : Int32 := ((((((((v0 - (((v0.toUInt32 >>> ((1 : Int32).toUInt32 &&& Int32.toUInt32 31)).toInt32) &&& (1431655765 : Int32))) &&& (858993459 : Int32)) + ((((v0 - (((v0.toUInt32 >>> ((1 : Int32).toUInt32 &&& Int32.toUInt32 31)).toInt32) &&& (1431655765 : Int32))).toUInt32 >>> ((2 : Int32).toUInt32 &&& Int32.toUInt32 31)).toInt32) &&& (858993459 : Int32))) + (((((v0 - (((v0.toUInt32 >>> ((1 : Int32).toUInt32 &&& Int32.toUInt32 31)).toInt32) &&& (1431655765 : Int32))) &&& (858993459 : Int32)) + ((((v0 - (((v0.toUInt32 >>> ((1 : Int32).toUInt32 &&& Int32.toUInt32 31)).toInt32) &&& (1431655765 : Int32))).toUInt32 >>> ((2 : Int32).toUInt32 &&& Int32.toUInt32 31)).toInt32) &&& (858993459 : Int32))).toUInt32 >>> ((4 : Int32).toUInt32 &&& Int32.toUInt32 31)).toInt32)) &&& (252645135 : Int32)) + (((((((v0 - (((v0.toUInt32 >>> ((1 : Int32).toUInt32 &&& Int32.toUInt32 31)).toInt32) &&& (1431655765 : Int32))) &&& (858993459 : Int32)) + ((((v0 - (((v0.toUInt32 >>> ((1 : Int32).toUInt32 &&& Int32.toUInt32 31)).toInt32) &&& (1431655765 : Int32))).toUInt32 >>> ((2 : Int32).toUInt32 &&& Int32.toUInt32 31)).toInt32) &&& (858993459 : Int32))) + (((((v0 - (((v0.toUInt32 >>> ((1 : Int32).toUInt32 &&& Int32.toUInt32 31)).toInt32) &&& (1431655765 : Int32))) &&& (858993459 : Int32)) + ((((v0 - (((v0.toUInt32 >>> ((1 : Int32).toUInt32 &&& Int32.toUInt32 31)).toInt32) &&& (1431655765 : Int32))).toUInt32 >>> ((2 : Int32).toUInt32 &&& Int32.toUInt32 31)).toInt32) &&& (858993459 : Int32))).toUInt32 >>> ((4 : Int32).toUInt32 &&& Int32.toUInt32 31)).toInt32)) &&& (252645135 : Int32)).toUInt32 >>> ((8 : Int32).toUInt32 &&& Int32.toUInt32 31)).toInt32)) + ((((((((v0 - (((v0.toUInt32 >>> ((1 : Int32).toUInt32 &&& Int32.toUInt32 31)).toInt32) &&& (1431655765 : Int32))) &&& (858993459 : Int32)) + ((((v0 - (((v0.toUInt32 >>> ((1 : Int32).toUInt32 &&& Int32.toUInt32 31)).toInt32) &&& (1431655765 : Int32))).toUInt32 >>> ((2 : Int32).toUInt32 &&& Int32.toUInt32 31)).toInt32) &&& (858993459 : Int32))) + (((((v0 - (((v0.toUInt32 >>> ((1 : Int32).toUInt32 &&& Int32.toUInt32 31)).toInt32) &&& (1431655765 : Int32))) &&& (858993459 : Int32)) + ((((v0 - (((v0.toUInt32 >>> ((1 : Int32).toUInt32 &&& Int32.toUInt32 31)).toInt32) &&& (1431655765 : Int32))).toUInt32 >>> ((2 : Int32).toUInt32 &&& Int32.toUInt32 31)).toInt32) &&& (858993459 : Int32))).toUInt32 >>> ((4 : Int32).toUInt32 &&& Int32.toUInt32 31)).toInt32)) &&& (252645135 : Int32)) + (((((((v0 - (((v0.toUInt32 >>> ((1 : Int32).toUInt32 &&& Int32.toUInt32 31)).toInt32) &&& (1431655765 : Int32))) &&& (858993459 : Int32)) + ((((v0 - (((v0.toUInt32 >>> ((1 : Int32).toUInt32 &&& Int32.toUInt32 31)).toInt32) &&& (1431655765 : Int32))).toUInt32 >>> ((2 : Int32).toUInt32 &&& Int32.toUInt32 31)).toInt32) &&& (858993459 : Int32))) + (((((v0 - (((v0.toUInt32 >>> ((1 : Int32).toUInt32 &&& Int32.toUInt32 31)).toInt32) &&& (1431655765 : Int32))) &&& (858993459 : Int32)) + ((((v0 - (((v0.toUInt32 >>> ((1 : Int32).toUInt32 &&& Int32.toUInt32 31)).toInt32) &&& (1431655765 : Int32))).toUInt32 >>> ((2 : Int32).toUInt32 &&& Int32.toUInt32 31)).toInt32) &&& (858993459 : Int32))).toUInt32 >>> ((4 : Int32).toUInt32 &&& Int32.toUInt32 31)).toInt32)) &&& (252645135 : Int32)).toUInt32 >>> ((8 : Int32).toUInt32 &&& Int32.toUInt32 31)).toInt32)).toUInt32 >>> ((16 : Int32).toUInt32 &&& Int32.toUInt32 31)).toInt32)) &&& (63 : Int32))
theorem J6_e (n : Nat) (v : Int32) (μ : Mu) : J6_bitCount_0f7a4 n v μ = some (bcI v, μ) := rfl
def pcN (x : Nat) : Nat := sumF (fun p => if x.testBit p = true then 1 else 0) 12
theorem bc_64 : ∀ a, a < 64 → ∀ b, b < 64 → bcI (nI (a * 64 + b)) = nI (pcN (a * 64 + b)) := by decide +kernel
theorem bitCount_s (n : Nat) (μ : Mu) {x : Nat} (h : x < 4096) : J6_bitCount_0f7a4 n (nI x) μ = some (nI (pcN x), μ) := by
  rw [J6_e]
  have := bc_64 (x / 64) (by omega) (x % 64) (by omega)
  rw [show x / 64 * 64 + x % 64 = x by omega] at this
  rw [this]
def CAx (F : Option (Int32 × Mu)) (g : Mu → Option (Int32 × Mu)) : Prop := ∃ a μ1 μ2, F = some (a, μ1) ∧ g μ1 = some (a, μ2) ∧ INV μ2
def CBx (L : Option (Int32 × Mu)) (g : Mu → Option (Int32 × Mu)) : Prop := ∃ k μ1 b μ2, L = some (k, μ1) ∧ g μ1 = some (b, μ2) ∧ μ2.1 171 5 = k ∧ (k = 0 → μ2.2 201 0 = b.toInt64) ∧ INV μ2
/-- a call that changes nothing of what is kept -/
theorem CA_mk {F : Option (Int32 × Mu)} {g : Mu → Option (Int32 × Mu)} {μ : Mu} {T : Nat → Nat} {v : Int32} {Lf Lg : List (Nat × Nat × Nat)} (hI : INT μ T) (hf : Ok F (fun a _ => a = v)) (frf : ∀ r, F = some r → Fr (fun o k => inL Lf o k) μ r.2) (df : djB Lf (D_all ++ [(172, 172, 9999)]) = true) (hg : ∀ μ1, INT μ1 T → AG D_all μ μ1 → Ok (g μ1) (fun a μ2 => a = v ∧ TD μ2 T)) (frg : ∀ μ1 r, g μ1 = some r → Fr (fun o k => inL Lg o k) μ1 r.2) (dg : djB Lg D_all = true) : CAx F g := by
  obtain ⟨a, μ1, e1, rfl⟩ := hf
  have ag := Fr_ag (frf _ e1) df
  have h1 : INT μ1 T := INT_td hI ag
  obtain ⟨b, μ2, e2, rfl, t2⟩ := hg μ1 h1 (AG_ap ag).1
  exact ⟨_, μ1, μ2, e1, e2, T, INT_all h1 (Fr_ag (frg μ1 _ e2) dg) t2⟩
/-- the same, of a call that may throw -/
theorem CB_mk {F : Option ((Int32 ⊕ Nat) × Mu)} {L : Option (Int32 × Mu)} {g : Mu → Option (Int32 × Mu)} {μ : Mu} {T : Nat → Nat} {x : Int32 ⊕ Nat} {k : Int32} {Lf Lg : List (Nat × Nat × Nat)} (hI : INT μ T) (hf : Ok F (fun a _ => a = x)) (frf : ∀ r, F = some r → Fr (fun o k => inL Lf o k) μ r.2) (df : djB Lf (D_all ++ [(172, 172, 9999)]) = true)
    (hL : ∀ μ1, F = some (x, μ1) → ∃ μ2, L = some (k, μ2) ∧ (∀ v, x = .inl v → μ2 = sj μ1 201 0 v.toInt64) ∧ (∀ e, x = .inr e → μ2 = μ1)) (hk : (∃ v, x = .inl v) ∨ k ≠ 0)
    (hg : ∀ μ1, INT μ1 T → AG D_all μ μ1 → Ok (g μ1) (fun b μ2 => μ2.1 171 5 = k ∧ (∀ v, x = .inl v → b = v) ∧ TD μ2 T)) (frg : ∀ μ1 r, g μ1 = some r → Fr (fun o k => inL Lg o k) μ1 r.2) (dg : djB Lg (D_all ++ [(201, 201, 9999)]) = true) : CBx L g := by
  obtain ⟨a, μ1, e1, rfl⟩ := hf
  have ag := Fr_ag (frf _ e1) df
  have h1 : INT μ1 T := INT_td hI ag
  obtain ⟨μ2, e2, q1, q2⟩ := hL μ1 e1
  have h2 : INT μ2 T ∧ AG D_all μ μ2 ∧ ∀ v, a = .inl v → μ2.2 201 0 = v.toInt64 := by
    cases a with
    | inl v =>
      rw [q1 v rfl]
      have ag2 : AG (D_all ++ [(172, 172, 9999)]) μ1 (sj μ1 201 0 v.toInt64) := AG.sj (by decide +kernel)
      exact ⟨INT_td h1 ag2, (AG_ap (ag.tr ag2)).1, fun w e => by rw [Sum.inl.inj e, sj_a]⟩
    | inr e => rw [q2 e rfl]; exact ⟨h1, (AG_ap ag).1, fun w e => nomatch e⟩
  obtain ⟨b, μ3, e3, t1, t2, t3⟩ := hg μ2 h2.1 h2.2.1
  obtain ⟨g1, g2⟩ := AG_ap (Fr_ag (frg μ2 _ e3) dg)
  refine ⟨k, μ2, b, μ3, e2, e3, t1, fun z => ?_, T, INT_all h2.1 g1 t3⟩
  rcases hk with ⟨v, rfl⟩ | hk
  · rw [(g2.o 201 201 201 (by decide) (by decide) (by decide)).2, h2.2.2 v rfl, t2 v rfl]
  · exact absurd z hk
theorem i64_in {a b : Int32} (h : a.toInt64 = b.toInt64) : a = b := by
  have := congrArg Int64.toInt h
  rw [Int32.toInt_toInt64, Int32.toInt_toInt64] at this
  exact Int32.toInt_inj.mp this
theorem td_th {μ : Mu} {T : Nat → Nat} {v : Int32} (h : TD μ T) : TD (si μ 171 5 v) T := TD_o h (by rw [si_o (by decide)])
theorem os53 : OS 53 := ⟨by decide, by decide, by decide, by decide⟩
theorem os55 : OS 55 := ⟨by decide, by decide, by decide, by decide⟩
theorem os153 : OS 153 := ⟨by decide, by decide, by decide, by decide⟩
