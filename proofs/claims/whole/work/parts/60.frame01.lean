set_option maxRecDepth 100000 in
set_option maxHeartbeats 4000000 in
theorem fr_X12_keeps (n : Nat) (v1 : Int32) (μ : Mu) (r : Unit × Mu) (h : X12_keeps n v1 μ = some r) : Fr (S_X12_keeps v1) μ r.2 := by
  rw [X12_keeps] at h
  have hF : Fr (S_X12_keeps v1) μ μ := Fr.rf
  obtain ⟨μ0, hμ0⟩ : ∃ z, z = μ := ⟨_, rfl⟩
  rw [← hμ0]
  have hF : Fr (S_X12_keeps v1) μ0 μ := by rw [hμ0]; exact hF
  have B78 : ∀ (μ : Mu), Fr (S_X12_keeps v1) μ0 μ → X12_keeps_78 n v1  μ = some r → Fr (S_X12_keeps v1) μ0 r.2 := by
    intro μ hF h
    rw [X12_keeps_78] at h
    obtain ⟨r90, hr90, h⟩ := bnd h
    have hF := hF.tr (fr_X12_puts n 179 (μ.1 171 28) 172 μ r90 hr90) (fun o k hS => by
  unfold S_X12_puts at hS
  rcases hS with hS | hS
  · exact (subL_of (by decide +kernel) hS)
  · exact inL_mk 179 179 9999 (by decide) (by omega) (by omega) (by omega))
    obtain ⟨hi102, h⟩ := gd_some h
    have hjhi102 := vin_lt hi102 rfl
    have hF := hF.si (o := 180) (k := (r90.2.1 171 28).toNatClampNeg) (v := v1) (by unfold S_X12_keeps; exact inL_mk 180 180 9999 (by decide) (by omega) (by omega) (by omega))
    have hF := hF.si (o := 171) (k := 28) (v := (((si r90.2 180 (r90.2.1 171 28).toNatClampNeg v1).1 171 28) + (1 : Int32))) (by unfold S_X12_keeps; exact inL_mk 171 171 28 (by decide) (by omega) (by omega) (by omega))
    rw [← Option.some.inj h]; exact hF
  have B42 : ∀ (k : Nat), ∀ (v2 : Int32) (μ : Mu), Fr (S_X12_keeps v1) μ0 μ → lpF (fun _ _ => none) (X12_keeps_42b n v1) k v2 μ = some r → Fr (S_X12_keeps v1) μ0 r.2 := by
    intro k
    induction k with
    | zero =>
      intro v2 μ hF h
      cases h
    | succ k ih42 =>
      rw [lpF_s]
      generalize lpF (fun _ _ => none) (X12_keeps_42b n v1) k = k42 at ih42 ⊢
      intro v2 μ hF h
      rw [X12_keeps_42b] at h
      split at h
      · skip
        have hF := hF.si (o := 171) (k := 28) (v := ((μ.1 171 28) - (1 : Int32))) (by unfold S_X12_keeps; exact inL_mk 171 171 28 (by decide) (by omega) (by omega) (by omega))
        exact B78 (si μ 171 28 ((μ.1 171 28) - (1 : Int32))) hF h
      · skip
        obtain ⟨hi60, h⟩ := gd_some h
        have hjhi60 := vin_lt hi60 rfl
        obtain ⟨hi61, h⟩ := gd_some h
        have hjhi61 := vin_lt hi61 rfl
        have hF := hF.si (o := 180) (k := (v2 - (1 : Int32)).toNatClampNeg) (v := (μ.1 180 v2.toNatClampNeg)) (by unfold S_X12_keeps; exact inL_mk 180 180 9999 (by decide) (by omega) (by omega) (by omega))
        exact ih42 (v2 + (1 : Int32)) (si μ 180 (v2 - (1 : Int32)).toNatClampNeg (μ.1 180 v2.toNatClampNeg)) hF h
  have B12 : ∀ (k : Nat), ∀ (v2 : Int32) (μ : Mu), Fr (S_X12_keeps v1) μ0 μ → lpF (fun _ _ => none) (X12_keeps_12b n v1) k v2 μ = some r → Fr (S_X12_keeps v1) μ0 r.2 := by
    intro k
    induction k with
    | zero =>
      intro v2 μ hF h
      cases h
    | succ k ih12 =>
      rw [lpF_s]
      generalize lpF (fun _ _ => none) (X12_keeps_12b n v1) k = k12 at ih12 ⊢
      intro v2 μ hF h
      rw [X12_keeps_12b] at h
      split at h
      · skip
        exact B42 n (1 : Int32) μ hF h
      · skip
        obtain ⟨hi32, h⟩ := gd_some h
        have hjhi32 := vin_lt hi32 rfl
        obtain ⟨hi33, h⟩ := gd_some h
        have hjhi33 := vin_lt hi33 rfl
        have hF := hF.si (o := 179) (k := (v2 - (25 : Int32)).toNatClampNeg) (v := (μ.1 179 v2.toNatClampNeg)) (by unfold S_X12_keeps; exact inL_mk 179 179 9999 (by decide) (by omega) (by omega) (by omega))
        exact ih12 (v2 + (1 : Int32)) (si μ 179 (v2 - (25 : Int32)).toNatClampNeg (μ.1 179 v2.toNatClampNeg)) hF h
  split at h
  rotate_left
  · skip
    exact B78 μ hF h
  · skip
    exact B12 n (25 : Int32) μ hF h
set_option maxRecDepth 100000 in
set_option maxHeartbeats 4000000 in
theorem fr_X12_undo (n : Nat) (μ : Mu) (r : Int32 × Mu) (h : X12_undo n  μ = some r) : Fr S_X12_undo μ r.2 := by
  rw [X12_undo] at h
  have hF : Fr S_X12_undo μ μ := Fr.rf
  obtain ⟨μ0, hμ0⟩ : ∃ z, z = μ := ⟨_, rfl⟩
  rw [← hμ0]
  have hF : Fr S_X12_undo μ0 μ := by rw [hμ0]; exact hF
  have hF := hF.si (o := 171) (k := 5) (v := (0 : Int32)) (by unfold S_X12_undo; exact inL_mk 171 171 5 (by decide) (by omega) (by omega) (by omega))
  split at h
  rotate_left
  · skip
    have hF := hF.si (o := 171) (k := 28) (v := (((si μ 171 5 (0 : Int32)).1 171 28) - (1 : Int32))) (by unfold S_X12_undo; exact inL_mk 171 171 28 (by decide) (by omega) (by omega) (by omega))
    obtain ⟨r36, hr36, h⟩ := bnd h
    have hF := hF.tr (fr_X12_puts n 181 ((si (si μ 171 5 (0 : Int32)) 171 28 (((si μ 171 5 (0 : Int32)).1 171 28) - (1 : Int32))).1 171 29) 172 (si (si μ 171 5 (0 : Int32)) 171 28 (((si μ 171 5 (0 : Int32)).1 171 28) - (1 : Int32))) r36 hr36) (fun o k hS => by
    unfold S_X12_puts at hS
    rcases hS with hS | hS
    · exact (subL_of (by decide +kernel) hS)
    · exact inL_mk 181 181 9999 (by decide) (by omega) (by omega) (by omega))
    obtain ⟨hi55, h⟩ := gd_some h
    have hjhi55 := vin_lt hi55 rfl
    obtain ⟨hi56, h⟩ := gd_some h
    have hjhi56 := vin_lt hi56 rfl
    have hF := hF.si (o := 182) (k := (r36.2.1 171 29).toNatClampNeg) (v := (r36.2.1 180 (r36.2.1 171 28).toNatClampNeg)) (by unfold S_X12_undo; exact inL_mk 182 182 9999 (by decide) (by omega) (by omega) (by omega))
    have hF := hF.si (o := 171) (k := 29) (v := (((si r36.2 182 (r36.2.1 171 29).toNatClampNeg (r36.2.1 180 (r36.2.1 171 28).toNatClampNeg)).1 171 29) + (1 : Int32))) (by unfold S_X12_undo; exact inL_mk 171 171 29 (by decide) (by omega) (by omega) (by omega))
    obtain ⟨r79, hr79, h⟩ := bnd h
    have hF := hF.tr (fr_X12_gets n 179 ((si (si r36.2 182 (r36.2.1 171 29).toNatClampNeg (r36.2.1 180 (r36.2.1 171 28).toNatClampNeg)) 171 29 (((si r36.2 182 (r36.2.1 171 29).toNatClampNeg (r36.2.1 180 (r36.2.1 171 28).toNatClampNeg)).1 171 29) + (1 : Int32))).1 171 28) 172 (si (si r36.2 182 (r36.2.1 171 29).toNatClampNeg (r36.2.1 180 (r36.2.1 171 28).toNatClampNeg)) 171 29 (((si r36.2 182 (r36.2.1 171 29).toNatClampNeg (r36.2.1 180 (r36.2.1 171 28).toNatClampNeg)).1 171 29) + (1 : Int32))) r79 hr79) (fun o k hS => by
    unfold S_X12_gets at hS
    rcases hS with hS | hS
    · exact (subL_of (by decide +kernel) hS)
    · exact inL_mk 172 172 9999 (by decide) (by omega) (by omega) (by omega))
    rw [← Option.some.inj h]; exact hF
  · skip
    rw [← Option.some.inj h]; exact hF
set_option maxRecDepth 100000 in
set_option maxHeartbeats 4000000 in
theorem fr_X12_redo (n : Nat) (μ : Mu) (r : Int32 × Mu) (h : X12_redo n  μ = some r) : Fr S_X12_redo μ r.2 := by
  rw [X12_redo] at h
  have hF : Fr S_X12_redo μ μ := Fr.rf
  obtain ⟨μ0, hμ0⟩ : ∃ z, z = μ := ⟨_, rfl⟩
  rw [← hμ0]
  have hF : Fr S_X12_redo μ0 μ := by rw [hμ0]; exact hF
  have hF := hF.si (o := 171) (k := 5) (v := (0 : Int32)) (by unfold S_X12_redo; exact inL_mk 171 171 5 (by decide) (by omega) (by omega) (by omega))
  split at h
  rotate_left
  · skip
    have hF := hF.si (o := 171) (k := 29) (v := (((si μ 171 5 (0 : Int32)).1 171 29) - (1 : Int32))) (by unfold S_X12_redo; exact inL_mk 171 171 29 (by decide) (by omega) (by omega) (by omega))
    obtain ⟨hi33, h⟩ := gd_some h
    have hjhi33 := vin_lt hi33 rfl
    obtain ⟨r34, hr34, h⟩ := bnd h
    have hF := hF.tr (fr_X12_keeps n ((si (si μ 171 5 (0 : Int32)) 171 29 (((si μ 171 5 (0 : Int32)).1 171 29) - (1 : Int32))).1 182 ((si (si μ 171 5 (0 : Int32)) 171 29 (((si μ 171 5 (0 : Int32)).1 171 29) - (1 : Int32))).1 171 29).toNatClampNeg) (si (si μ 171 5 (0 : Int32)) 171 29 (((si μ 171 5 (0 : Int32)).1 171 29) - (1 : Int32))) r34 hr34) (fun o k hS => (subL_of (L1 := [(171, 171, 28), (179, 179, 9999), (180, 180, 9999)]) (by decide +kernel) hS))
    obtain ⟨r49, hr49, h⟩ := bnd h
    have hF := hF.tr (fr_X12_gets n 181 (r34.2.1 171 29) 172 r34.2 r49 hr49) (fun o k hS => by
    unfold S_X12_gets at hS
    rcases hS with hS | hS
    · exact (subL_of (by decide +kernel) hS)
    · exact inL_mk 172 172 9999 (by decide) (by omega) (by omega) (by omega))
    rw [← Option.some.inj h]; exact hF
  · skip
    rw [← Option.some.inj h]; exact hF
set_option maxRecDepth 100000 in
set_option maxHeartbeats 4000000 in
theorem fr_X12_sees (n : Nat) (v1 : Int32) (μ : Mu) (r : Unit × Mu) (h : X12_sees n v1 μ = some r) : Fr (S_X12_sees v1) μ r.2 := by
  rw [X12_sees] at h
  have hF : Fr (S_X12_sees v1) μ μ := Fr.rf
  obtain ⟨μ0, hμ0⟩ : ∃ z, z = μ := ⟨_, rfl⟩
  rw [← hμ0]
  have hF : Fr (S_X12_sees v1) μ0 μ := by rw [hμ0]; exact hF
  have B7 : ∀ (k : Nat), ∀ (v2 : Int32) (μ : Mu), Fr (S_X12_sees v1) μ0 μ → lpF (fun _ _ => none) (X12_sees_7b n v1) k v2 μ = some r → Fr (S_X12_sees v1) μ0 r.2 := by
    intro k
    induction k with
    | zero =>
      intro v2 μ hF h
      cases h
    | succ k ih7 =>
      rw [lpF_s]
      generalize lpF (fun _ _ => none) (X12_sees_7b n v1) k = k7 at ih7 ⊢
      intro v2 μ hF h
      have B68 : ∀ (v2 : Int32) (μ : Mu), Fr (S_X12_sees v1) μ0 μ → X12_sees_68 n v1 k7 v2 μ = some r → Fr (S_X12_sees v1) μ0 r.2 := by
        intro v2 μ hF h
        rw [X12_sees_68] at h
        exact ih7 (v2 + (1 : Int32)) μ hF h
      have B30 : ∀ (v2 : Int32) (s0 : Int32) (s1 : Int32) (μ : Mu), Fr (S_X12_sees v1) μ0 μ → X12_sees_30 n v1 k7 v2 s0 s1 μ = some r → Fr (S_X12_sees v1) μ0 r.2 := by
        intro v2 s0 s1 μ hF h
        rw [X12_sees_30] at h
        obtain ⟨r32, hr32, h⟩ := bnd h
        have hF := hF.tr (fr_X12_pitMany n μ r32 hr32) (fun o k hS => (subL_of (L1 := []) (by decide +kernel) hS))
        obtain ⟨hd35, h⟩ := dv_some h
        obtain ⟨r39, hr39, h⟩ := bnd h
        have hF := hF.tr (fr_X12_isLacking n ((s0 + s1) - (s0 + s1) / r32.1 * r32.1) r32.2 r39 hr39) (fun o k hS => (subL_of (L1 := []) (by decide +kernel) hS))
        split at h
        · skip
          obtain ⟨hi57, h⟩ := gd_some h
          have hjhi57 := vin_lt hi57 rfl
          have hF := hF.si (o := 183) (k := (r39.2.1 171 31).toNatClampNeg) (v := ((s0 + s1) - (s0 + s1) / r32.1 * r32.1)) (by unfold S_X12_sees; exact inL_mk 183 183 9999 (by decide) (by omega) (by omega) (by omega))
          have hF := hF.si (o := 171) (k := 31) (v := (((si r39.2 183 (r39.2.1 171 31).toNatClampNeg ((s0 + s1) - (s0 + s1) / r32.1 * r32.1)).1 171 31) + (1 : Int32))) (by unfold S_X12_sees; exact inL_mk 171 171 31 (by decide) (by omega) (by omega) (by omega))
          exact B68 v2 (si (si r39.2 183 (r39.2.1 171 31).toNatClampNeg ((s0 + s1) - (s0 + s1) / r32.1 * r32.1)) 171 31 (((si r39.2 183 (r39.2.1 171 31).toNatClampNeg ((s0 + s1) - (s0 + s1) / r32.1 * r32.1)).1 171 31) + (1 : Int32))) hF h
        · skip
          exact B68 v2 r39.2 hF h
      rw [X12_sees_7b] at h
      obtain ⟨r9, hr9, h⟩ := bnd h
      have hF := hF.tr (fr_X12_pitMany n μ r9 hr9) (fun o k hS => (subL_of (L1 := []) (by decide +kernel) hS))
      split at h
      · skip
        rw [← Option.some.inj h]; exact hF
      · skip
        split at h
        rotate_left
        · skip
          exact B30 v2 v2 (r9.2.1 172 1) r9.2 hF h
        · skip
          exact B30 v2 v2 (0 : Int32) r9.2 hF h
  have hF := hF.si (o := 171) (k := 31) (v := (0 : Int32)) (by unfold S_X12_sees; exact inL_mk 171 171 31 (by decide) (by omega) (by omega) (by omega))
  exact B7 n (0 : Int32) (si μ 171 31 (0 : Int32)) hF h
set_option maxRecDepth 100000 in
set_option maxHeartbeats 4000000 in
theorem fr_X12_ways (n : Nat) (v0 : Int32) (v1 : Int32) (μ : Mu) (r : Int64 × Mu) (h : X12_ways n v0 v1 μ = some r) : Fr (S_X12_ways v0 v1) μ r.2 := by
  rw [X12_ways] at h
  have hF : Fr (S_X12_ways v0 v1) μ μ := Fr.rf
  obtain ⟨μ0, hμ0⟩ : ∃ z, z = μ := ⟨_, rfl⟩
  rw [← hμ0]
  have hF : Fr (S_X12_ways v0 v1) μ0 μ := by rw [hμ0]; exact hF
  have B13 : ∀ (s0 : Int64) (μ : Mu), Fr (S_X12_ways v0 v1) μ0 μ → X12_ways_13 n v0 v1 s0 μ = some r → Fr (S_X12_ways v0 v1) μ0 r.2 := by
    intro s0 μ hF h
    rw [X12_ways_13] at h
    rw [← Option.some.inj h]; exact hF
  have B19 : ∀ (k : Nat), ∀ (v2 : Int64) (v4 : Int32) (μ : Mu), Fr (S_X12_ways v0 v1) μ0 μ → lpF (fun _ _ _ => none) (X12_ways_19b n v0 v1) k v2 v4 μ = some r → Fr (S_X12_ways v0 v1) μ0 r.2 := by
    intro k
    induction k with
    | zero =>
      intro v2 v4 μ hF h
      cases h
    | succ k ih19 =>
      rw [lpF_s]
      generalize lpF (fun _ _ _ => none) (X12_ways_19b n v0 v1) k = k19 at ih19 ⊢
      intro v2 v4 μ hF h
      rw [X12_ways_19b] at h
      split at h
      · skip
        rw [← Option.some.inj h]; exact hF
      · skip
        obtain ⟨hd35, h⟩ := dvl_some h
        exact ih19 ((v2 * ((v0 + v4).toInt64)) / (v4.toInt64)) (v4 + (1 : Int32)) μ hF h
  split at h
  rotate_left
  · skip
    exact B19 n (1 : Int64) (1 : Int32) μ hF h
  · skip
    split at h
    rotate_left
    · skip
      exact B13 (0 : Int64) μ hF h
    · skip
      exact B13 (1 : Int64) μ hF h
set_option maxRecDepth 100000 in
set_option maxHeartbeats 4000000 in
theorem fr_X12_positionsOf (n : Nat) (v1 : Int32) (μ : Mu) (r : Int64 × Mu) (h : X12_positionsOf n v1 μ = some r) : Fr (S_X12_positionsOf v1) μ r.2 := by
  rw [X12_positionsOf] at h
  have hF : Fr (S_X12_positionsOf v1) μ μ := Fr.rf
  obtain ⟨μ0, hμ0⟩ : ∃ z, z = μ := ⟨_, rfl⟩
  rw [← hμ0]
  have hF : Fr (S_X12_positionsOf v1) μ0 μ := by rw [hμ0]; exact hF
  obtain ⟨r2, hr2, h⟩ := bnd h
  have hF := hF.tr (fr_X12_sees n (0 : Int32) μ r2 hr2) (fun o k hS => (subL_of (L1 := [(171, 171, 31), (183, 183, 9999)]) (by decide +kernel) hS))
  obtain ⟨r10, hr10, h⟩ := bnd h
  have hF := hF.tr (fr_X12_ways n v1 (r2.2.1 171 31) r2.2 r10 hr10) (fun o k hS => (subL_of (L1 := []) (by decide +kernel) hS))
  rw [← Option.some.inj h]; exact hF
set_option maxRecDepth 100000 in
set_option maxHeartbeats 4000000 in
theorem fr_X12_numberOf (n : Nat) (v1 : Int32) (μ : Mu) (r : Int32 × Mu) (h : X12_numberOf n v1 μ = some r) : Fr (S_X12_numberOf v1) μ r.2 := by
  rw [X12_numberOf] at h
  have hF : Fr (S_X12_numberOf v1) μ μ := Fr.rf
  obtain ⟨μ0, hμ0⟩ : ∃ z, z = μ := ⟨_, rfl⟩
  rw [← hμ0]
  have hF : Fr (S_X12_numberOf v1) μ0 μ := by rw [hμ0]; exact hF
  have B42 : ∀ (k : Nat), ∀ (v2 : Int32) (v3 : Int64) (v5 : Int32) (μ : Mu), Fr (S_X12_numberOf v1) μ0 μ → lpF (fun _ _ _ _ => none) (X12_numberOf_42b n v1) k v2 v3 v5 μ = some r → Fr (S_X12_numberOf v1) μ0 r.2 := by
    intro k
    induction k with
    | zero =>
      intro v2 v3 v5 μ hF h
      cases h
    | succ k ih42 =>
      rw [lpF_s]
      generalize lpF (fun _ _ _ _ => none) (X12_numberOf_42b n v1) k = k42 at ih42 ⊢
      intro v2 v3 v5 μ hF h
      have B54 : ∀ (k : Nat), ∀ (v2 : Int32) (v3 : Int64) (v5 : Int32) (v6 : Int32) (μ : Mu), Fr (S_X12_numberOf v1) μ0 μ → lpF (fun _ _ _ _ _ => none) (X12_numberOf_54b n v1 k42) k v2 v3 v5 v6 μ = some r → Fr (S_X12_numberOf v1) μ0 r.2 := by
        intro k
        induction k with
        | zero =>
          intro v2 v3 v5 v6 μ hF h
          cases h
        | succ k ih54 =>
          rw [lpF_s]
          generalize lpF (fun _ _ _ _ _ => none) (X12_numberOf_54b n v1 k42) k = k54 at ih54 ⊢
          intro v2 v3 v5 v6 μ hF h
          rw [X12_numberOf_54b] at h
          obtain ⟨hi66, h⟩ := gd_some h
          have hjhi66 := vin_lt hi66 rfl
          obtain ⟨hi67, h⟩ := gd_some h
          have hjhi67 := vin_lt hi67 rfl
          split at h
          · skip
            exact ih42 (v2 - (μ.1 178 (μ.1 183 v5.toNatClampNeg).toNatClampNeg)) v3 (v5 + (1 : Int32)) μ hF h
          · skip
            obtain ⟨r85, hr85, h⟩ := bnd h
            have hF := hF.tr (fr_X12_ways n (v2 - v6) (((μ.1 171 31) - v5) - (1 : Int32)) μ r85 hr85) (fun o k hS => (subL_of (L1 := []) (by decide +kernel) hS))
            exact ih54 v2 (v3 + r85.1) v5 (v6 + ((-1) : Int32)) r85.2 hF h
      rw [X12_numberOf_42b] at h
      split at h
      · skip
        rw [← Option.some.inj h]; exact hF
      · skip
        exact B54 n v2 v3 v5 v2 μ hF h
  have B9 : ∀ (k : Nat), ∀ (v2 : Int32) (v3 : Int32) (μ : Mu), Fr (S_X12_numberOf v1) μ0 μ → lpF (fun _ _ _ => none) (X12_numberOf_9b n v1) k v2 v3 μ = some r → Fr (S_X12_numberOf v1) μ0 r.2 := by
    intro k
    induction k with
    | zero =>
      intro v2 v3 μ hF h
      cases h
    | succ k ih9 =>
      rw [lpF_s]
      generalize lpF (fun _ _ _ => none) (X12_numberOf_9b n v1) k = k9 at ih9 ⊢
      intro v2 v3 μ hF h
      rw [X12_numberOf_9b] at h
      split at h
      · skip
        exact B42 n v2 (0 : Int64) (0 : Int32) μ hF h
      · skip
        obtain ⟨hi27, h⟩ := gd_some h
        have hjhi27 := vin_lt hi27 rfl
        obtain ⟨hi28, h⟩ := gd_some h
        have hjhi28 := vin_lt hi28 rfl
        exact ih9 (v2 + (μ.1 178 (μ.1 183 v3.toNatClampNeg).toNatClampNeg)) (v3 + (1 : Int32)) μ hF h
  obtain ⟨r2, hr2, h⟩ := bnd h
  have hF := hF.tr (fr_X12_sees n v1 μ r2 hr2) (fun o k hS => (subL_of (L1 := [(171, 171, 31), (183, 183, 9999)]) (by decide +kernel) hS))
  exact B9 n (0 : Int32) (0 : Int32) r2.2 hF h
set_option maxRecDepth 100000 in
set_option maxHeartbeats 4000000 in
theorem fr_X12_lays (n : Nat) (v1 : Int32) (v2 : Int32) (v3 : Int32) (μ : Mu) (r : Unit × Mu) (h : X12_lays n v1 v2 v3 μ = some r) : Fr (S_X12_lays v1 v2 v3) μ r.2 := by
  rw [X12_lays] at h
  have hF : Fr (S_X12_lays v1 v2 v3) μ μ := Fr.rf
  obtain ⟨μ0, hμ0⟩ : ∃ z, z = μ := ⟨_, rfl⟩
  rw [← hμ0]
  have hF : Fr (S_X12_lays v1 v2 v3) μ0 μ := by rw [hμ0]; exact hF
  have B39 : ∀ (k : Nat), ∀ (v4 : Int32) (v5 : Int64) (v7 : Int32) (μ : Mu), Fr (S_X12_lays v1 v2 v3) μ0 μ → lpF (fun _ _ _ _ => none) (X12_lays_39b n v1 v2 v3) k v4 v5 v7 μ = some r → Fr (S_X12_lays v1 v2 v3) μ0 r.2 := by
    intro k
    induction k with
    | zero =>
      intro v4 v5 v7 μ hF h
      cases h
    | succ k ih39 =>
      rw [lpF_s]
      generalize lpF (fun _ _ _ _ => none) (X12_lays_39b n v1 v2 v3) k = k39 at ih39 ⊢
      intro v4 v5 v7 μ hF h
      have B52 : ∀ (k : Nat), ∀ (v4 : Int32) (v5 : Int64) (v7 : Int32) (v8 : Int32) (μ : Mu), Fr (S_X12_lays v1 v2 v3) μ0 μ → lpF (fun _ _ _ _ _ => none) (X12_lays_52b n v1 v2 v3 k39) k v4 v5 v7 v8 μ = some r → Fr (S_X12_lays v1 v2 v3) μ0 r.2 := by
        intro k
        induction k with
        | zero =>
          intro v4 v5 v7 v8 μ hF h
          cases h
        | succ k ih52 =>
          rw [lpF_s]
          generalize lpF (fun _ _ _ _ _ => none) (X12_lays_52b n v1 v2 v3 k39) k = k52 at ih52 ⊢
          intro v4 v5 v7 v8 μ hF h
          rw [X12_lays_52b] at h
          obtain ⟨r68, hr68, h⟩ := bnd h
          have hF := hF.tr (fr_X12_ways n (v4 - v8) (((μ.1 171 31) - v7) - (1 : Int32)) μ r68 hr68) (fun o k hS => (subL_of (L1 := []) (by decide +kernel) hS))
          split at h
          · skip
            obtain ⟨hi113, h⟩ := gd_some h
            have hjhi113 := vin_lt hi113 rfl
            obtain ⟨hi116, h⟩ := gd_some h
            have hjhi116 := vin_lt hi116 rfl
            have hF := hF.si (o := 178) (k := (r68.2.1 183 v7.toNatClampNeg).toNatClampNeg) (v := v8) (by unfold S_X12_lays; exact inL_mk 178 178 9999 (by decide) (by omega) (by omega) (by omega))
            exact ih39 (v4 - v8) v5 (v7 + (1 : Int32)) (si r68.2 178 (r68.2.1 183 v7.toNatClampNeg).toNatClampNeg v8) hF h
          · skip
            obtain ⟨r91, hr91, h⟩ := bnd h
            have hF := hF.tr (fr_X12_ways n (v4 - v8) (((r68.2.1 171 31) - v7) - (1 : Int32)) r68.2 r91 hr91) (fun o k hS => (subL_of (L1 := []) (by decide +kernel) hS))
            exact ih52 v4 (v5 - r91.1) v7 (v8 + ((-1) : Int32)) r91.2 hF h
      rw [X12_lays_39b] at h
      split at h
      · skip
        rw [← Option.some.inj h]; exact hF
      · skip
        exact B52 n v4 v5 v7 v4 μ hF h
  have B8 : ∀ (k : Nat), ∀ (v4 : Int32) (μ : Mu), Fr (S_X12_lays v1 v2 v3) μ0 μ → lpF (fun _ _ => none) (X12_lays_8b n v1 v2 v3) k v4 μ = some r → Fr (S_X12_lays v1 v2 v3) μ0 r.2 := by
    intro k
    induction k with
    | zero =>
      intro v4 μ hF h
      cases h
    | succ k ih8 =>
      rw [lpF_s]
      generalize lpF (fun _ _ => none) (X12_lays_8b n v1 v2 v3) k = k8 at ih8 ⊢
      intro v4 μ hF h
      rw [X12_lays_8b] at h
      split at h
      · skip
        exact B39 n v2 (v3.toInt64) (0 : Int32) μ hF h
      · skip
        obtain ⟨hi22, h⟩ := gd_some h
        have hjhi22 := vin_lt hi22 rfl
        have hF := hF.si (o := 178) (k := v4.toNatClampNeg) (v := (0 : Int32)) (by unfold S_X12_lays; exact inL_mk 178 178 9999 (by decide) (by omega) (by omega) (by omega))
        exact ih8 (v4 + (1 : Int32)) (si μ 178 v4.toNatClampNeg (0 : Int32)) hF h
  obtain ⟨r2, hr2, h⟩ := bnd h
  have hF := hF.tr (fr_X12_sees n v1 μ r2 hr2) (fun o k hS => (subL_of (L1 := [(171, 171, 31), (183, 183, 9999)]) (by decide +kernel) hS))
  exact B8 n (0 : Int32) r2.2 hF h
set_option maxRecDepth 100000 in
set_option maxHeartbeats 4000000 in
theorem fr_X12_seedsNow (n : Nat) (μ : Mu) (r : Int32 × Mu) (h : X12_seedsNow n  μ = some r) : Fr S_X12_seedsNow μ r.2 := by
  rw [X12_seedsNow] at h
  have hF : Fr S_X12_seedsNow μ μ := Fr.rf
  obtain ⟨μ0, hμ0⟩ : ∃ z, z = μ := ⟨_, rfl⟩
  rw [← hμ0]
  have hF : Fr S_X12_seedsNow μ0 μ := by rw [hμ0]; exact hF
  have B4 : ∀ (k : Nat), ∀ (v1 : Int32) (v2 : Int32) (μ : Mu), Fr S_X12_seedsNow μ0 μ → lpF (fun _ _ _ => none) (X12_seedsNow_4b n) k v1 v2 μ = some r → Fr S_X12_seedsNow μ0 r.2 := by
    intro k
    induction k with
    | zero =>
      intro v1 v2 μ hF h
      cases h
    | succ k ih4 =>
      rw [lpF_s]
      generalize lpF (fun _ _ _ => none) (X12_seedsNow_4b n) k = k4 at ih4 ⊢
      intro v1 v2 μ hF h
      rw [X12_seedsNow_4b] at h
      obtain ⟨r6, hr6, h⟩ := bnd h
      have hF := hF.tr (fr_X12_pitMany n μ r6 hr6) (fun o k hS => (subL_of (L1 := []) (by decide +kernel) hS))
      split at h
      · skip
        rw [← Option.some.inj h]; exact hF
      · skip
        obtain ⟨hi21, h⟩ := gd_some h
        have hjhi21 := vin_lt hi21 rfl
        exact ih4 (v1 + (r6.2.1 172 ((13 : Int32) + v2).toNatClampNeg)) (v2 + (1 : Int32)) r6.2 hF h
  exact B4 n (0 : Int32) (0 : Int32) μ hF h
set_option maxRecDepth 100000 in
set_option maxHeartbeats 4000000 in
theorem fr_X12_positions (n : Nat) (v1 : Int32) (v2 : Int32) (μ : Mu) (r : Int32 × Mu) (h : X12_positions n v1 v2 μ = some r) : Fr (S_X12_positions v1 v2) μ r.2 := by
  rw [X12_positions] at h
  have hF : Fr (S_X12_positions v1 v2) μ μ := Fr.rf
  obtain ⟨μ0, hμ0⟩ : ∃ z, z = μ := ⟨_, rfl⟩
  rw [← hμ0]
  have hF : Fr (S_X12_positions v1 v2) μ0 μ := by rw [hμ0]; exact hF
  have B63 : ∀ (s0 : Int32) (μ : Mu), Fr (S_X12_positions v1 v2) μ0 μ → X12_positions_63 n v1 v2 s0 μ = some r → Fr (S_X12_positions v1 v2) μ0 r.2 := by
    intro s0 μ hF h
    rw [X12_positions_63] at h
    rw [← Option.some.inj h]; exact hF
  have B29 : ∀ (s1 : Int32) (μ : Mu), Fr (S_X12_positions v1 v2) μ0 μ → X12_positions_29 n v1 v2 s1 μ = some r → Fr (S_X12_positions v1 v2) μ0 r.2 := by
    intro s1 μ hF h
    rw [X12_positions_29] at h
    have hF := hF.si (o := 171) (k := 5) (v := s1) (by unfold S_X12_positions; exact inL_mk 171 171 5 (by decide) (by omega) (by omega) (by omega))
    split at h
    · skip
      obtain ⟨r43, hr43, h⟩ := bnd h
      have hF := hF.tr (fr_X12_positionsOf n v2 (si μ 171 5 s1) r43 hr43) (fun o k hS => (subL_of (L1 := [(171, 171, 31), (183, 183, 9999)]) (by decide +kernel) hS))
      split at h
      · skip
        exact B63 (r43.1.toInt32) r43.2 hF h
      · skip
        exact B63 ((-1000) : Int32) r43.2 hF h
    · skip
      rw [← Option.some.inj h]; exact hF
  obtain ⟨r2, hr2, h⟩ := bnd h
  have hF := hF.tr (fr_X12_isSide n v1 μ r2 hr2) (fun o k hS => (subL_of (L1 := []) (by decide +kernel) hS))
  split at h
  rotate_left
  · skip
    obtain ⟨r18, hr18, h⟩ := bnd h
    have hF := hF.tr (fr_X12_within n (v2.toInt64) (0 : Int64) (40 : Int64) r2.2 r18 hr18) (fun o k hS => (subL_of (L1 := []) (by decide +kernel) hS))
    split at h
    · skip
      exact B29 (2 : Int32) r18.2 hF h
    · skip
      exact B29 (0 : Int32) r18.2 hF h
  · skip
    exact B29 (1 : Int32) r2.2 hF h
set_option maxRecDepth 100000 in
set_option maxHeartbeats 4000000 in
theorem fr_X12_place (n : Nat) (μ : Mu) (r : Int32 × Mu) (h : X12_place n  μ = some r) : Fr S_X12_place μ r.2 := by
  rw [X12_place] at h
  have hF : Fr S_X12_place μ μ := Fr.rf
  obtain ⟨μ0, hμ0⟩ : ∃ z, z = μ := ⟨_, rfl⟩
  rw [← hμ0]
  have hF : Fr S_X12_place μ0 μ := by rw [hμ0]; exact hF
  have hF := hF.si (o := 171) (k := 5) (v := (0 : Int32)) (by unfold S_X12_place; exact inL_mk 171 171 5 (by decide) (by omega) (by omega) (by omega))
  obtain ⟨r7, hr7, h⟩ := bnd h
  have hF := hF.tr (fr_X12_seedsNow n (si μ 171 5 (0 : Int32)) r7 hr7) (fun o k hS => (subL_of (L1 := []) (by decide +kernel) hS))
  obtain ⟨r10, hr10, h⟩ := bnd h
  have hF := hF.tr (fr_X12_positionsOf n r7.1 r7.2 r10 hr10) (fun o k hS => (subL_of (L1 := [(171, 171, 31), (183, 183, 9999)]) (by decide +kernel) hS))
  split at h
  · skip
    obtain ⟨r25, hr25, h⟩ := bnd h
    have hF := hF.tr (fr_X12_takesUp n r10.2 r25 hr25) (fun o k hS => (subL_of (L1 := [(178, 178, 9999)]) (by decide +kernel) hS))
    obtain ⟨r35, hr35, h⟩ := bnd h
    have hF := hF.tr (fr_X12_numberOf n (r25.2.1 172 2) r25.2 r35 hr35) (fun o k hS => (subL_of (L1 := [(171, 171, 31), (183, 183, 9999)]) (by decide +kernel) hS))
    rw [← Option.some.inj h]; exact hF
  · skip
    rw [← Option.some.inj h]; exact hF
set_option maxRecDepth 100000 in
set_option maxHeartbeats 4000000 in
theorem fr_X12_ofPlace (n : Nat) (v1 : Int32) (v2 : Int32) (v3 : Int32) (v4 : Int32) (μ : Mu) (r : Int32 × Mu) (h : X12_ofPlace n v1 v2 v3 v4 μ = some r) : Fr (S_X12_ofPlace v1 v2 v3 v4) μ r.2 := by
  rw [X12_ofPlace] at h
  have hF : Fr (S_X12_ofPlace v1 v2 v3 v4) μ μ := Fr.rf
  obtain ⟨μ0, hμ0⟩ : ∃ z, z = μ := ⟨_, rfl⟩
  rw [← hμ0]
  have hF : Fr (S_X12_ofPlace v1 v2 v3 v4) μ0 μ := by rw [hμ0]; exact hF
  have B157 : ∀ (s0 : Int32) (μ : Mu), Fr (S_X12_ofPlace v1 v2 v3 v4) μ0 μ → X12_ofPlace_157 n v1 v2 v3 v4 s0 μ = some r → Fr (S_X12_ofPlace v1 v2 v3 v4) μ0 r.2 := by
    intro s0 μ hF h
    rw [X12_ofPlace_157] at h
    rw [← Option.some.inj h]; exact hF
  have B129 : ∀ (s0 : Int32) (s1 : Int32) (μ : Mu), Fr (S_X12_ofPlace v1 v2 v3 v4) μ0 μ → X12_ofPlace_129 n v1 v2 v3 v4 s0 s1 μ = some r → Fr (S_X12_ofPlace v1 v2 v3 v4) μ0 r.2 := by
    intro s0 s1 μ hF h
    rw [X12_ofPlace_129] at h
    obtain ⟨r131, hr131, h⟩ := bnd h
    have hF := hF.tr (fr_X12_pitMany n μ r131 hr131) (fun o k hS => (subL_of (L1 := []) (by decide +kernel) hS))
    obtain ⟨hd134, h⟩ := dv_some h
    obtain ⟨r140, hr140, h⟩ := bnd h
    have hF := hF.tr (fr_X12_isLacking n ((s0 + s1) - (s0 + s1) / r131.1 * r131.1) r131.2 r140 hr140) (fun o k hS => (subL_of (L1 := []) (by decide +kernel) hS))
    split at h
    · skip
      obtain ⟨hi156, h⟩ := gd_some h
      have hjhi156 := vin_lt hi156 rfl
      exact B157 (r140.2.1 178 ((s0 + s1) - (s0 + s1) / r131.1 * r131.1).toNatClampNeg) r140.2 hF h
    · skip
      exact B157 ((-1) : Int32) r140.2 hF h
  have B97 : ∀ (μ : Mu), Fr (S_X12_ofPlace v1 v2 v3 v4) μ0 μ → X12_ofPlace_97 n v1 v2 v3 v4  μ = some r → Fr (S_X12_ofPlace v1 v2 v3 v4) μ0 r.2 := by
    intro μ hF h
    rw [X12_ofPlace_97] at h
    split at h
    · skip
      obtain ⟨r110, hr110, h⟩ := bnd h
      have hF := hF.tr (fr_X12_lays n v1 v2 v3 μ r110 hr110) (fun o k hS => (subL_of (L1 := [(171, 171, 31), (178, 178, 9999), (183, 183, 9999)]) (by decide +kernel) hS))
      split at h
      rotate_left
      · skip
        exact B129 v4 (r110.2.1 172 1) r110.2 hF h
      · skip
        exact B129 v4 (0 : Int32) r110.2 hF h
    · skip
      rw [← Option.some.inj h]; exact hF
  have B65 : ∀ (s1 : Int32) (μ : Mu), Fr (S_X12_ofPlace v1 v2 v3 v4) μ0 μ → X12_ofPlace_65 n v1 v2 v3 v4 s1 μ = some r → Fr (S_X12_ofPlace v1 v2 v3 v4) μ0 r.2 := by
    intro s1 μ hF h
    rw [X12_ofPlace_65] at h
    have hF := hF.si (o := 171) (k := 5) (v := s1) (by unfold S_X12_ofPlace; exact inL_mk 171 171 5 (by decide) (by omega) (by omega) (by omega))
    split at h
    rotate_left
    · skip
      exact B97 (si μ 171 5 s1) hF h
    · skip
      obtain ⟨r80, hr80, h⟩ := bnd h
      have hF := hF.tr (fr_X12_pitMany n (si μ 171 5 s1) r80 hr80) (fun o k hS => (subL_of (L1 := []) (by decide +kernel) hS))
      obtain ⟨r86, hr86, h⟩ := bnd h
      have hF := hF.tr (fr_X12_within n (v4.toInt64) (0 : Int64) ((r80.1 - (1 : Int32)).toInt64) r80.2 r86 hr86) (fun o k hS => (subL_of (L1 := []) (by decide +kernel) hS))
      split at h
      rotate_left
      · skip
        exact B97 r86.2 hF h
      · skip
        have hF := hF.si (o := 171) (k := 5) (v := (4 : Int32)) (by unfold S_X12_ofPlace; exact inL_mk 171 171 5 (by decide) (by omega) (by omega) (by omega))
        exact B97 (si r86.2 171 5 (4 : Int32)) hF h
  obtain ⟨r2, hr2, h⟩ := bnd h
  have hF := hF.tr (fr_X12_isSide n v1 μ r2 hr2) (fun o k hS => (subL_of (L1 := []) (by decide +kernel) hS))
  split at h
  rotate_left
  · skip
    obtain ⟨r18, hr18, h⟩ := bnd h
    have hF := hF.tr (fr_X12_within n (v2.toInt64) (0 : Int64) (40 : Int64) r2.2 r18 hr18) (fun o k hS => (subL_of (L1 := []) (by decide +kernel) hS))
    split at h
    rotate_left
    · skip
      obtain ⟨r30, hr30, h⟩ := bnd h
      have hF := hF.tr (fr_X12_positionsOf n v2 r18.2 r30 hr30) (fun o k hS => (subL_of (L1 := [(171, 171, 31), (183, 183, 9999)]) (by decide +kernel) hS))
      split at h
      · skip
        obtain ⟨r49, hr49, h⟩ := bnd h
        have hF := hF.tr (fr_X12_positionsOf n v2 r30.2 r49 hr49) (fun o k hS => (subL_of (L1 := [(171, 171, 31), (183, 183, 9999)]) (by decide +kernel) hS))
        obtain ⟨r54, hr54, h⟩ := bnd h
        have hF := hF.tr (fr_X12_within n (v3.toInt64) (0 : Int64) (r49.1 - (1 : Int64)) r49.2 r54 hr54) (fun o k hS => (subL_of (L1 := []) (by decide +kernel) hS))
        split at h
        · skip
          exact B65 (1 : Int32) r54.2 hF h
        · skip
          exact B65 (0 : Int32) r54.2 hF h
      · skip
        exact B65 (3 : Int32) r30.2 hF h
    · skip
      exact B65 (2 : Int32) r18.2 hF h
  · skip
    exact B65 (1 : Int32) r2.2 hF h
set_option maxRecDepth 100000 in
set_option maxHeartbeats 4000000 in
theorem fr_X12_areRules (n : Nat) (μ : Mu) (r : Int32 × Mu) (h : X12_areRules n  μ = some r) : Fr S_X12_areRules μ r.2 := by
  rw [X12_areRules] at h
  have hF : Fr S_X12_areRules μ μ := Fr.rf
  obtain ⟨μ0, hμ0⟩ : ∃ z, z = μ := ⟨_, rfl⟩
  rw [← hμ0]
  have hF : Fr S_X12_areRules μ0 μ := by rw [hμ0]; exact hF
  have B4 : ∀ (k : Nat), ∀ (v1 : Int32) (v2 : Int32) (μ : Mu), Fr S_X12_areRules μ0 μ → lpF (fun _ _ _ => none) (X12_areRules_4b n) k v1 v2 μ = some r → Fr S_X12_areRules μ0 r.2 := by
    intro k
    induction k with
    | zero =>
      intro v1 v2 μ hF h
      cases h
    | succ k ih4 =>
      rw [lpF_s]
      generalize lpF (fun _ _ _ => none) (X12_areRules_4b n) k = k4 at ih4 ⊢
      intro v1 v2 μ hF h
      have B39 : ∀ (v2 : Int32) (s0 : Int32) (μ : Mu), Fr S_X12_areRules μ0 μ → X12_areRules_39 n k4 v2 s0 μ = some r → Fr S_X12_areRules μ0 r.2 := by
        intro v2 s0 μ hF h
        rw [X12_areRules_39] at h
        exact ih4 s0 (v2 + (1 : Int32)) μ hF h
      have B34 : ∀ (v2 : Int32) (μ : Mu), Fr S_X12_areRules μ0 μ → X12_areRules_34 n k4 v2 μ = some r → Fr S_X12_areRules μ0 r.2 := by
        intro v2 μ hF h
        rw [X12_areRules_34] at h
        exact B39 v2 (1 : Int32) μ hF h
      have B38 : ∀ (v2 : Int32) (μ : Mu), Fr S_X12_areRules μ0 μ → X12_areRules_38 n k4 v2 μ = some r → Fr S_X12_areRules μ0 r.2 := by
        intro v2 μ hF h
        rw [X12_areRules_38] at h
        exact B39 v2 (0 : Int32) μ hF h
      rw [X12_areRules_4b] at h
      split at h
      · skip
        obtain ⟨hz47, h⟩ := bz_some h
        rw [← Option.some.inj h]; exact hF
      · skip
        split at h
        · skip
          exact B38 v2 μ hF h
        · skip
          split at h
          · skip
            exact B34 v2 μ hF h
          · skip
            obtain ⟨hi24, h⟩ := gd_some h
            have hjhi24 := vin_lt hi24 rfl
            obtain ⟨hi30, h⟩ := gd_some h
            have hjhi30 := vin_lt hi30 rfl
            split at h
            rotate_left
            · skip
              exact B38 v2 μ hF h
            · skip
              exact B34 v2 μ hF h
  exact B4 n (1 : Int32) (1 : Int32) μ hF h
set_option maxRecDepth 100000 in
set_option maxHeartbeats 4000000 in
theorem fr_X12_seat (n : Nat) (v1 : Int32) (v2 : Int32) (v3 : Int32) (μ : Mu) (r : Int32 × Mu) (h : X12_seat n v1 v2 v3 μ = some r) : Fr (S_X12_seat v1 v2 v3) μ r.2 := by
  rw [X12_seat] at h
  have hF : Fr (S_X12_seat v1 v2 v3) μ μ := Fr.rf
  obtain ⟨μ0, hμ0⟩ : ∃ z, z = μ := ⟨_, rfl⟩
  rw [← hμ0]
  have hF : Fr (S_X12_seat v1 v2 v3) μ0 μ := by rw [hμ0]; exact hF
  obtain ⟨hi10, h⟩ := gd_some h
  have hjhi10 := vin_lt hi10 rfl
  rw [← Option.some.inj h]; exact hF
set_option maxRecDepth 100000 in
set_option maxHeartbeats 4000000 in
theorem fr_X12_worthOf (n : Nat) (v1 : Int32) (v2 : Int32) (v3 : Nat) (μ : Mu) (r : Int32 × Mu) (h : X12_worthOf n v1 v2 v3 μ = some r) : Fr (S_X12_worthOf v1 v2 v3) μ r.2 := by
  rw [X12_worthOf] at h
  obtain ⟨hk3, h⟩ := kd_some h
  have hF : Fr (S_X12_worthOf v1 v2 v3) μ μ := Fr.rf
  obtain ⟨μ0, hμ0⟩ : ∃ z, z = μ := ⟨_, rfl⟩
  rw [← hμ0]
  have hF : Fr (S_X12_worthOf v1 v2 v3) μ0 μ := by rw [hμ0]; exact hF
  have B50 : ∀ (s0 : Int32) (s1 : Int32) (μ : Mu), Fr (S_X12_worthOf v1 v2 v3) μ0 μ → X12_worthOf_50 n v1 v2 v3 s0 s1 μ = some r → Fr (S_X12_worthOf v1 v2 v3) μ0 r.2 := by
    intro s0 s1 μ hF h
    rw [X12_worthOf_50] at h
    rw [← Option.some.inj h]; exact hF
  obtain ⟨hi10, h⟩ := gd_some h
  have hjhi10 := vin_lt hi10 rfl
  split at h
  rotate_left
  · skip
    obtain ⟨hi48, h⟩ := gd_some h
    have hjhi48 := vin_lt hi48 rfl
    exact B50 (μ.1 188 (((6 : Int32) * v1) + v2).toNatClampNeg) (-(μ.1 v3 (μ.1 187 (((6 : Int32) * v1) + v2).toNatClampNeg).toNatClampNeg)) μ hF h
  · skip
    obtain ⟨hi41, h⟩ := gd_some h
    have hjhi41 := vin_lt hi41 rfl
    exact B50 (μ.1 188 (((6 : Int32) * v1) + v2).toNatClampNeg) (μ.1 v3 (μ.1 187 (((6 : Int32) * v1) + v2).toNatClampNeg).toNatClampNeg) μ hF h
set_option maxRecDepth 100000 in
set_option maxHeartbeats 4000000 in
theorem fr_X12_ownLess (n : Nat) (v1 : Int32) (v2 : Int32) (v3 : Int32) (μ : Mu) (r : Int32 × Mu) (h : X12_ownLess n v1 v2 v3 μ = some r) : Fr (S_X12_ownLess v1 v2 v3) μ r.2 := by
  rw [X12_ownLess] at h
  have hF : Fr (S_X12_ownLess v1 v2 v3) μ μ := Fr.rf
  obtain ⟨μ0, hμ0⟩ : ∃ z, z = μ := ⟨_, rfl⟩
  rw [← hμ0]
  have hF : Fr (S_X12_ownLess v1 v2 v3) μ0 μ := by rw [hμ0]; exact hF
  obtain ⟨r4, hr4, h⟩ := bnd h
  have hF := hF.tr (fr_X12_lays n v1 v2 v3 μ r4 hr4) (fun o k hS => (subL_of (L1 := [(171, 171, 31), (178, 178, 9999), (183, 183, 9999)]) (by decide +kernel) hS))
  obtain ⟨r9, hr9, h⟩ := bnd h
  have hF := hF.tr (fr_X12_sum n v1 r4.2 r9 hr9) (fun o k hS => (subL_of (L1 := []) (by decide +kernel) hS))
  obtain ⟨r16, hr16, h⟩ := bnd h
  have hF := hF.tr (fr_X12_sum n ((1 : Int32) - v1) r9.2 r16 hr16) (fun o k hS => (subL_of (L1 := []) (by decide +kernel) hS))
  rw [← Option.some.inj h]; exact hF
set_option maxRecDepth 100000 in
set_option maxHeartbeats 4000000 in
theorem fr_X12_betters (n : Nat) (v1 : Int32) (v2 : Int32) (v3 : Int32) (μ : Mu) (r : Int32 × Mu) (h : X12_betters n v1 v2 v3 μ = some r) : Fr (S_X12_betters v1 v2 v3) μ r.2 := by
  rw [X12_betters] at h
  have hF : Fr (S_X12_betters v1 v2 v3) μ μ := Fr.rf
  obtain ⟨μ0, hμ0⟩ : ∃ z, z = μ := ⟨_, rfl⟩
  rw [← hμ0]
  have hF : Fr (S_X12_betters v1 v2 v3) μ0 μ := by rw [hμ0]; exact hF
  have B19 : ∀ (k : Nat), ∀ (v4 : Int32) (v5 : Int32) (μ : Mu), Fr (S_X12_betters v1 v2 v3) μ0 μ → lpF (fun _ _ _ => none) (X12_betters_19b n v1 v2 v3) k v4 v5 μ = some r → Fr (S_X12_betters v1 v2 v3) μ0 r.2 := by
    intro k
    induction k with
    | zero =>
      intro v4 v5 μ hF h
      cases h
    | succ k ih19 =>
      rw [lpF_s]
      generalize lpF (fun _ _ _ => none) (X12_betters_19b n v1 v2 v3) k = k19 at ih19 ⊢
      intro v4 v5 μ hF h
      have B93 : ∀ (v4 : Int32) (v5 : Int32) (μ : Mu), Fr (S_X12_betters v1 v2 v3) μ0 μ → X12_betters_93 n v1 v2 v3 k19 v4 v5 μ = some r → Fr (S_X12_betters v1 v2 v3) μ0 r.2 := by
        intro v4 v5 μ hF h
        rw [X12_betters_93] at h
        exact ih19 v4 (v5 + (1 : Int32)) μ hF h
      have B85 : ∀ (v5 : Int32) (s0 : Int32) (s2 : Int32) (s3 : Int32) (s4 : Nat) (μ : Mu), Fr (S_X12_betters v1 v2 v3) μ0 μ → X12_betters_85 n v1 v2 v3 k19 v5 s0 s2 s3 s4 μ = some r → Fr (S_X12_betters v1 v2 v3) μ0 r.2 := by
        intro v5 s0 s2 s3 s4 μ hF h
        rw [X12_betters_85] at h
        obtain ⟨hqs4_85, h⟩ := kd_some h
        have hjhqs4_85 := kdI hqs4_85
        obtain ⟨r85, hr85, h⟩ := bnd h
        have hF := hF.tr (fr_X12_worthOf n s2 s3 s4 μ r85 hr85) (fun o k hS => (subL_of (L1 := []) (by decide +kernel) hS))
        exact B93 (if s0 < r85.1 then r85.1 else s0) v5 r85.2 hF h
      rw [X12_betters_19b] at h
      split at h
      · skip
        obtain ⟨hi106, h⟩ := gd_some h
        have hjhi106 := vin_lt hi106 rfl
        split at h
        rotate_left
        · skip
          have hF := hF.si (o := 184) (k := v1.toNatClampNeg) (v := v4) (by unfold S_X12_betters; exact inL_mk 184 184 9999 (by decide) (by omega) (by omega) (by omega))
          have hF := hF.si (o := 185) (k := v1.toNatClampNeg) (v := v3) (by unfold S_X12_betters; exact inL_mk 185 185 9999 (by decide) (by omega) (by omega) (by omega))
          rw [← Option.some.inj h]; exact hF
        · skip
          rw [← Option.some.inj h]; exact hF
      · skip
        obtain ⟨hi41, h⟩ := gd_some h
        have hjhi41 := vin_lt hi41 rfl
        split at h
        rotate_left
        · skip
          split at h
          · skip
            exact B85 v5 v4 v1 v5 186 μ hF h
          · skip
            exact B85 v5 v4 v1 v5 184 μ hF h
        · skip
          exact B93 v4 v5 μ hF h
  obtain ⟨hi5, h⟩ := gd_some h
  have hjhi5 := vin_lt hi5 rfl
  split at h
  · skip
    exact B19 n ((-1000) : Int32) (0 : Int32) μ hF h
  · skip
    rw [← Option.some.inj h]; exact hF
set_option maxRecDepth 100000 in
set_option maxHeartbeats 4000000 in
theorem fr_X12_seatNow (n : Nat) (μ : Mu) (r : Int32 × Mu) (h : X12_seatNow n  μ = some r) : Fr S_X12_seatNow μ r.2 := by
  rw [X12_seatNow] at h
  have hF : Fr S_X12_seatNow μ μ := Fr.rf
  obtain ⟨μ0, hμ0⟩ : ∃ z, z = μ := ⟨_, rfl⟩
  rw [← hμ0]
  have hF : Fr S_X12_seatNow μ0 μ := by rw [hμ0]; exact hF
  obtain ⟨r1, hr1, h⟩ := bnd h
  have hF := hF.tr (fr_X12_takesUp n μ r1 hr1) (fun o k hS => (subL_of (L1 := [(178, 178, 9999)]) (by decide +kernel) hS))
  obtain ⟨r12, hr12, h⟩ := bnd h
  have hF := hF.tr (fr_X12_seedsNow n r1.2 r12 hr12) (fun o k hS => (subL_of (L1 := []) (by decide +kernel) hS))
  obtain ⟨r22, hr22, h⟩ := bnd h
  have hF := hF.tr (fr_X12_numberOf n (r12.2.1 172 2) r12.2 r22 hr22) (fun o k hS => (subL_of (L1 := [(171, 171, 31), (183, 183, 9999)]) (by decide +kernel) hS))
  obtain ⟨r25, hr25, h⟩ := bnd h
  have hF := hF.tr (fr_X12_seat n (r1.2.1 172 2) r12.1 r22.1 r22.2 r25 hr25) (fun o k hS => (subL_of (L1 := []) (by decide +kernel) hS))
  rw [← Option.some.inj h]; exact hF
set_option maxRecDepth 100000 in
set_option maxHeartbeats 4000000 in
theorem fr_X12_bestAt (n : Nat) (v1 : Int32) (μ : Mu) (r : Int32 × Mu) (h : X12_bestAt n v1 μ = some r) : Fr (S_X12_bestAt v1) μ r.2 := by
  rw [X12_bestAt] at h
  have hF : Fr (S_X12_bestAt v1) μ μ := Fr.rf
  obtain ⟨μ0, hμ0⟩ : ∃ z, z = μ := ⟨_, rfl⟩
  rw [← hμ0]
  have hF : Fr (S_X12_bestAt v1) μ0 μ := by rw [hμ0]; exact hF
  have B124 : ∀ (v2 : Int32) (μ : Mu), Fr (S_X12_bestAt v1) μ0 μ → X12_bestAt_124 n v1 v2 μ = some r → Fr (S_X12_bestAt v1) μ0 r.2 := by
    intro v2 μ hF h
    rw [X12_bestAt_124] at h
    rw [← Option.some.inj h]; exact hF
  have B7 : ∀ (k : Nat), ∀ (v2 : Int32) (v3 : Int32) (v4 : Int32) (μ : Mu), Fr (S_X12_bestAt v1) μ0 μ → lpF (fun _ _ _ _ => none) (X12_bestAt_7b n v1) k v2 v3 v4 μ = some r → Fr (S_X12_bestAt v1) μ0 r.2 := by
    intro k
    induction k with
    | zero =>
      intro v2 v3 v4 μ hF h
      cases h
    | succ k ih7 =>
      rw [lpF_s]
      generalize lpF (fun _ _ _ _ => none) (X12_bestAt_7b n v1) k = k7 at ih7 ⊢
      intro v2 v3 v4 μ hF h
      have B118 : ∀ (v2 : Int32) (v3 : Int32) (v4 : Int32) (μ : Mu), Fr (S_X12_bestAt v1) μ0 μ → X12_bestAt_118 n v1 k7 v2 v3 v4 μ = some r → Fr (S_X12_bestAt v1) μ0 r.2 := by
        intro v2 v3 v4 μ hF h
        rw [X12_bestAt_118] at h
        exact ih7 v2 v3 (v4 + (1 : Int32)) μ hF h
      have B112 : ∀ (v4 : Int32) (v6 : Int32) (μ : Mu), Fr (S_X12_bestAt v1) μ0 μ → X12_bestAt_112 n v1 k7 v4 v6 μ = some r → Fr (S_X12_bestAt v1) μ0 r.2 := by
        intro v4 v6 μ hF h
        rw [X12_bestAt_112] at h
        exact B118 v4 v6 v4 μ hF h
      have B96 : ∀ (v2 : Int32) (v3 : Int32) (v4 : Int32) (s0 : Int32) (μ : Mu), Fr (S_X12_bestAt v1) μ0 μ → X12_bestAt_96 n v1 k7 v2 v3 v4 s0 μ = some r → Fr (S_X12_bestAt v1) μ0 r.2 := by
        intro v2 v3 v4 s0 μ hF h
        rw [X12_bestAt_96] at h
        split at h
        · skip
          exact B112 v4 s0 μ hF h
        · skip
          split at h
          · skip
            exact B112 v4 s0 μ hF h
          · skip
            exact B118 v2 v3 v4 μ hF h
      rw [X12_bestAt_7b] at h
      split at h
      · skip
        exact B124 v2 μ hF h
      · skip
        obtain ⟨hi23, h⟩ := gd_some h
        have hjhi23 := vin_lt hi23 rfl
        split at h
        rotate_left
        · skip
          exact B124 v2 μ hF h
        · skip
          obtain ⟨hi38, h⟩ := gd_some h
          have hjhi38 := vin_lt hi38 rfl
          split at h
          · skip
            exact B118 v2 v3 v4 μ hF h
          · skip
            obtain ⟨r55, hr55, h⟩ := bnd h
            have hF := hF.tr (fr_X12_worthOf n v1 v4 184 μ r55 hr55) (fun o k hS => (subL_of (L1 := []) (by decide +kernel) hS))
            split at h
            · skip
              split at h
              · skip
                obtain ⟨hi95, h⟩ := gd_some h
                have hjhi95 := vin_lt hi95 rfl
                exact B96 v2 v3 v4 (r55.2.1 185 (μ.1 187 (((6 : Int32) * v1) + v4).toNatClampNeg).toNatClampNeg) r55.2 hF h
              · skip
                exact B96 v2 v3 v4 (0 : Int32) r55.2 hF h
            · skip
              exact B118 v2 v3 v4 r55.2 hF h
  exact B7 n ((-1) : Int32) (0 : Int32) (0 : Int32) μ hF h
set_option maxRecDepth 100000 in
set_option maxHeartbeats 4000000 in
theorem fr_X12_bestNow (n : Nat) (μ : Mu) (r : Int32 × Mu) (h : X12_bestNow n  μ = some r) : Fr S_X12_bestNow μ r.2 := by
  rw [X12_bestNow] at h
  have hF : Fr S_X12_bestNow μ μ := Fr.rf
  obtain ⟨μ0, hμ0⟩ : ∃ z, z = μ := ⟨_, rfl⟩
  rw [← hμ0]
  have hF : Fr S_X12_bestNow μ0 μ := by rw [hμ0]; exact hF
  have B39 : ∀ (s0 : Int32) (μ : Mu), Fr S_X12_bestNow μ0 μ → X12_bestNow_39 n s0 μ = some r → Fr S_X12_bestNow μ0 r.2 := by
    intro s0 μ hF h
    rw [X12_bestNow_39] at h
    rw [← Option.some.inj h]; exact hF
  have B38 : ∀ (s0 : Int32) (s1 : Int32) (μ : Mu), Fr S_X12_bestNow μ0 μ → X12_bestNow_38 n s0 s1 μ = some r → Fr S_X12_bestNow μ0 r.2 := by
    intro s0 s1 μ hF h
    rw [X12_bestNow_38] at h
    exact B39 (s0 + s1) μ hF h
  obtain ⟨r2, hr2, h⟩ := bnd h
  have hF := hF.tr (fr_X12_seatNow n μ r2 hr2) (fun o k hS => (subL_of (L1 := [(171, 171, 31), (178, 178, 9999), (183, 183, 9999)]) (by decide +kernel) hS))
  obtain ⟨r5, hr5, h⟩ := bnd h
  have hF := hF.tr (fr_X12_bestAt n r2.1 r2.2 r5 hr5) (fun o k hS => (subL_of (L1 := []) (by decide +kernel) hS))
  split at h
  rotate_left
  · skip
    split at h
    rotate_left
    · skip
      exact B38 r5.1 (r5.2.1 172 1) r5.2 hF h
    · skip
      exact B38 r5.1 (0 : Int32) r5.2 hF h
  · skip
    exact B39 ((-1) : Int32) r5.2 hF h
set_option maxRecDepth 100000 in
set_option maxHeartbeats 4000000 in
theorem fr_X12_canAt (n : Nat) (v1 : Int32) (v2 : Int32) (μ : Mu) (r : Int32 × Mu) (h : X12_canAt n v1 v2 μ = some r) : Fr (S_X12_canAt v1 v2) μ r.2 := by
  rw [X12_canAt] at h
  have hF : Fr (S_X12_canAt v1 v2) μ μ := Fr.rf
  obtain ⟨μ0, hμ0⟩ : ∃ z, z = μ := ⟨_, rfl⟩
  rw [← hμ0]
  have hF : Fr (S_X12_canAt v1 v2) μ0 μ := by rw [hμ0]; exact hF
  have B5 : ∀ (k : Nat), ∀ (v3 : Int32) (v4 : Int32) (μ : Mu), Fr (S_X12_canAt v1 v2) μ0 μ → lpF (fun _ _ _ => none) (X12_canAt_5b n v1 v2) k v3 v4 μ = some r → Fr (S_X12_canAt v1 v2) μ0 r.2 := by
    intro k
    induction k with
    | zero =>
      intro v3 v4 μ hF h
      cases h
    | succ k ih5 =>
      rw [lpF_s]
      generalize lpF (fun _ _ _ => none) (X12_canAt_5b n v1 v2) k = k5 at ih5 ⊢
      intro v3 v4 μ hF h
      have B62 : ∀ (v4 : Int32) (s0 : Int32) (s1 : Int32) (μ : Mu), Fr (S_X12_canAt v1 v2) μ0 μ → X12_canAt_62 n v1 v2 k5 v4 s0 s1 μ = some r → Fr (S_X12_canAt v1 v2) μ0 r.2 := by
        intro v4 s0 s1 μ hF h
        rw [X12_canAt_62] at h
        exact ih5 (s0 + s1) (v4 + (1 : Int32)) μ hF h
      have B57 : ∀ (v4 : Int32) (s0 : Int32) (μ : Mu), Fr (S_X12_canAt v1 v2) μ0 μ → X12_canAt_57 n v1 v2 k5 v4 s0 μ = some r → Fr (S_X12_canAt v1 v2) μ0 r.2 := by
        intro v4 s0 μ hF h
        rw [X12_canAt_57] at h
        exact B62 v4 s0 (1 : Int32) μ hF h
      have B61 : ∀ (v4 : Int32) (s0 : Int32) (μ : Mu), Fr (S_X12_canAt v1 v2) μ0 μ → X12_canAt_61 n v1 v2 k5 v4 s0 μ = some r → Fr (S_X12_canAt v1 v2) μ0 r.2 := by
        intro v4 s0 μ hF h
        rw [X12_canAt_61] at h
        exact B62 v4 s0 (0 : Int32) μ hF h
      rw [X12_canAt_5b] at h
      split at h
      · skip
        rw [← Option.some.inj h]; exact hF
      · skip
        obtain ⟨hi28, h⟩ := gd_some h
        have hjhi28 := vin_lt hi28 rfl
        split at h
        · skip
          exact B61 v4 v3 μ hF h
        · skip
          split at h
          · skip
            exact B57 v4 v3 μ hF h
          · skip
            obtain ⟨r45, hr45, h⟩ := bnd h
            have hF := hF.tr (fr_X12_worthOf n v1 v4 184 μ r45 hr45) (fun o k hS => (subL_of (L1 := []) (by decide +kernel) hS))
            obtain ⟨hi53, h⟩ := gd_some h
            have hjhi53 := vin_lt hi53 rfl
            split at h
            rotate_left
            · skip
              exact B61 v4 v3 r45.2 hF h
            · skip
              exact B57 v4 v3 r45.2 hF h
  exact B5 n (0 : Int32) (0 : Int32) μ hF h
set_option maxRecDepth 100000 in
set_option maxHeartbeats 4000000 in
theorem fr_X12_isBoard (n : Nat) (v1 : Int32) (μ : Mu) (r : Int32 × Mu) (h : X12_isBoard n v1 μ = some r) : Fr (S_X12_isBoard v1) μ r.2 := by
  rw [X12_isBoard] at h
  have hF : Fr (S_X12_isBoard v1) μ μ := Fr.rf
  obtain ⟨μ0, hμ0⟩ : ∃ z, z = μ := ⟨_, rfl⟩
  rw [← hμ0]
  have hF : Fr (S_X12_isBoard v1) μ0 μ := by rw [hμ0]; exact hF
  have B2 : ∀ (k : Nat), ∀ (v2 : Int32) (μ : Mu), Fr (S_X12_isBoard v1) μ0 μ → lpF (fun _ _ => none) (X12_isBoard_2b n v1) k v2 μ = some r → Fr (S_X12_isBoard v1) μ0 r.2 := by
    intro k
    induction k with
    | zero =>
      intro v2 μ hF h
      cases h
    | succ k ih2 =>
      rw [lpF_s]
      generalize lpF (fun _ _ => none) (X12_isBoard_2b n v1) k = k2 at ih2 ⊢
      intro v2 μ hF h
      rw [X12_isBoard_2b] at h
      split at h
      · skip
        rw [← Option.some.inj h]; exact hF
      · skip
        obtain ⟨hi18, h⟩ := gd_some h
        have hjhi18 := vin_lt hi18 rfl
        obtain ⟨hi24, h⟩ := gd_some h
        have hjhi24 := vin_lt hi24 rfl
        split at h
        · skip
          exact ih2 (v2 + (1 : Int32)) μ hF h
        · skip
          rw [← Option.some.inj h]; exact hF
  exact B2 n (0 : Int32) μ hF h
set_option maxRecDepth 100000 in
set_option maxHeartbeats 4000000 in
theorem fr_X12_draw (n : Nat) (v1 : Int32) (μ : Mu) (r : Int32 × Mu) (h : X12_draw n v1 μ = some r) : Fr (S_X12_draw v1) μ r.2 := by
  rw [X12_draw] at h
  have hF : Fr (S_X12_draw v1) μ μ := Fr.rf
  obtain ⟨μ0, hμ0⟩ : ∃ z, z = μ := ⟨_, rfl⟩
  rw [← hμ0]
  have hF : Fr (S_X12_draw v1) μ0 μ := by rw [hμ0]; exact hF
  have hF := hF.si (o := 171) (k := 49) (v := (((1103515245 : Int32) * (μ.1 171 49)) + (12345 : Int32))) (by unfold S_X12_draw; exact inL_mk 171 171 49 (by decide) (by omega) (by omega) (by omega))
  obtain ⟨hd24, h⟩ := dv_some h
  rw [← Option.some.inj h]; exact hF
set_option maxRecDepth 100000 in
set_option maxHeartbeats 4000000 in
theorem fr_X12_isTray (n : Nat) (v0 : Int32) (μ : Mu) (r : Int32 × Mu) (h : X12_isTray n v0 μ = some r) : Fr (S_X12_isTray v0) μ r.2 := by
  rw [X12_isTray] at h
  have hF : Fr (S_X12_isTray v0) μ μ := Fr.rf
  obtain ⟨μ0, hμ0⟩ : ∃ z, z = μ := ⟨_, rfl⟩
  rw [← hμ0]
  have hF : Fr (S_X12_isTray v0) μ0 μ := by rw [hμ0]; exact hF
  obtain ⟨r6, hr6, h⟩ := bnd h
  have hF := hF.tr (fr_X12_within n (v0.toInt64) (0 : Int64) (3 : Int64) μ r6 hr6) (fun o k hS => (subL_of (L1 := []) (by decide +kernel) hS))
  obtain ⟨hz9, h⟩ := bz_some h
  rw [← Option.some.inj h]; exact hF
set_option maxRecDepth 100000 in
set_option maxHeartbeats 4000000 in
theorem fr_X12_tray (n : Nat) (v1 : Int32) (v2 : Int32) (v3 : Int32) (μ : Mu) (r : Unit × Mu) (h : X12_tray n v1 v2 v3 μ = some r) : Fr (S_X12_tray v1 v2 v3) μ r.2 := by
  rw [X12_tray] at h
  have hF : Fr (S_X12_tray v1 v2 v3) μ μ := Fr.rf
  obtain ⟨μ0, hμ0⟩ : ∃ z, z = μ := ⟨_, rfl⟩
  rw [← hμ0]
  have hF : Fr (S_X12_tray v1 v2 v3) μ0 μ := by rw [hμ0]; exact hF
  have B69 : ∀ (k : Nat), ∀ (v4 : Int32) (μ : Mu), Fr (S_X12_tray v1 v2 v3) μ0 μ → lpF (fun _ _ => none) (X12_tray_69b n v1 v2 v3) k v4 μ = some r → Fr (S_X12_tray v1 v2 v3) μ0 r.2 := by
    intro k
    induction k with
    | zero =>
      intro v4 μ hF h
      cases h
    | succ k ih69 =>
      rw [lpF_s]
      generalize lpF (fun _ _ => none) (X12_tray_69b n v1 v2 v3) k = k69 at ih69 ⊢
      intro v4 μ hF h
      rw [X12_tray_69b] at h
      split at h
      · skip
        rw [← Option.some.inj h]; exact hF
      · skip
        obtain ⟨hi88, h⟩ := gd_some h
        have hjhi88 := vin_lt hi88 rfl
        have hF := hF.sj (o := 200) (k := (((40 : Int32) * v1) + v4).toNatClampNeg) (v := (0 : Int64)) (by unfold S_X12_tray; exact inL_mk 200 200 9999 (by decide) (by omega) (by omega) (by omega))
        exact ih69 (v4 + (1 : Int32)) (sj μ 200 (((40 : Int32) * v1) + v4).toNatClampNeg (0 : Int64)) hF h
  have B41 : ∀ (s1 : Int32) (μ : Mu), Fr (S_X12_tray v1 v2 v3) μ0 μ → X12_tray_41 n v1 v2 v3 s1 μ = some r → Fr (S_X12_tray v1 v2 v3) μ0 r.2 := by
    intro s1 μ hF h
    rw [X12_tray_41] at h
    have hF := hF.si (o := 171) (k := 5) (v := s1) (by unfold S_X12_tray; exact inL_mk 171 171 5 (by decide) (by omega) (by omega) (by omega))
    split at h
    · skip
      obtain ⟨hi58, h⟩ := gd_some h
      have hjhi58 := vin_lt hi58 rfl
      have hF := hF.si (o := 198) (k := v1.toNatClampNeg) (v := v2) (by unfold S_X12_tray; exact inL_mk 198 198 9999 (by decide) (by omega) (by omega) (by omega))
      have hF := hF.si (o := 199) (k := v1.toNatClampNeg) (v := v3) (by unfold S_X12_tray; exact inL_mk 199 199 9999 (by decide) (by omega) (by omega) (by omega))
      exact B69 n (0 : Int32) (si (si (si μ 171 5 s1) 198 v1.toNatClampNeg v2) 199 v1.toNatClampNeg v3) hF h
    · skip
      rw [← Option.some.inj h]; exact hF
  have B36 : ∀ (μ : Mu), Fr (S_X12_tray v1 v2 v3) μ0 μ → X12_tray_36 n v1 v2 v3  μ = some r → Fr (S_X12_tray v1 v2 v3) μ0 r.2 := by
    intro μ hF h
    rw [X12_tray_36] at h
    exact B41 (2 : Int32) μ hF h
  obtain ⟨r2, hr2, h⟩ := bnd h
  have hF := hF.tr (fr_X12_isTray n v1 μ r2 hr2) (fun o k hS => (subL_of (L1 := []) (by decide +kernel) hS))
  split at h
  rotate_left
  · skip
    obtain ⟨r18, hr18, h⟩ := bnd h
    have hF := hF.tr (fr_X12_within n (v2.toInt64) (0 : Int64) (3 : Int64) r2.2 r18 hr18) (fun o k hS => (subL_of (L1 := []) (by decide +kernel) hS))
    split at h
    · skip
      exact B36 r18.2 hF h
    · skip
      obtain ⟨r30, hr30, h⟩ := bnd h
      have hF := hF.tr (fr_X12_within n (v3.toInt64) (0 : Int64) (40 : Int64) r18.2 r30 hr30) (fun o k hS => (subL_of (L1 := []) (by decide +kernel) hS))
      split at h
      rotate_left
      · skip
        exact B41 (0 : Int32) r30.2 hF h
      · skip
        exact B36 r30.2 hF h
  · skip
    exact B41 (1 : Int32) r2.2 hF h
set_option maxRecDepth 100000 in
set_option maxHeartbeats 4000000 in
theorem fr_X12_cut (n : Nat) (v1 : Int32) (v2 : Int32) (v3 : Int64) (μ : Mu) (r : Int64 × Mu) (h : X12_cut n v1 v2 v3 μ = some r) : Fr (S_X12_cut v1 v2 v3) μ r.2 := by
  rw [X12_cut] at h
  have hF : Fr (S_X12_cut v1 v2 v3) μ μ := Fr.rf
  obtain ⟨μ0, hμ0⟩ : ∃ z, z = μ := ⟨_, rfl⟩
  rw [← hμ0]
  have hF : Fr (S_X12_cut v1 v2 v3) μ0 μ := by rw [hμ0]; exact hF
  obtain ⟨hi9, h⟩ := gd_some h
  have hjhi9 := vin_lt hi9 rfl
  obtain ⟨hi31, h⟩ := gd_some h
  have hjhi31 := vin_lt hi31 rfl
  have hF := hF.sj (o := 200) (k := (((40 : Int32) * v1) + v2).toNatClampNeg) (v := ((v3 <<< (((64 : Int32) - ((8 : Int32) <<< ((μ.1 198 v1.toNatClampNeg) &&& 31))).toInt64 &&& 63)) >>> (((64 : Int32) - ((8 : Int32) <<< ((μ.1 198 v1.toNatClampNeg) &&& 31))).toInt64 &&& 63))) (by unfold S_X12_cut; exact inL_mk 200 200 9999 (by decide) (by omega) (by omega) (by omega))
  rw [← Option.some.inj h]; exact hF
set_option maxRecDepth 100000 in
set_option maxHeartbeats 4000000 in
theorem fr_X12_image (n : Nat) (v1 : Int32) (μ : Mu) (r : Unit × Mu) (h : X12_image n v1 μ = some r) : Fr (S_X12_image v1) μ r.2 := by
  rw [X12_image] at h
  have hF : Fr (S_X12_image v1) μ μ := Fr.rf
  obtain ⟨μ0, hμ0⟩ : ∃ z, z = μ := ⟨_, rfl⟩
  rw [← hμ0]
  have hF : Fr (S_X12_image v1) μ0 μ := by rw [hμ0]; exact hF
  have B18 : ∀ (s1 : Int32) (μ : Mu), Fr (S_X12_image v1) μ0 μ → X12_image_18 n v1 s1 μ = some r → Fr (S_X12_image v1) μ0 r.2 := by
    intro s1 μ hF h
    rw [X12_image_18] at h
    have hF := hF.si (o := 171) (k := 5) (v := s1) (by unfold S_X12_image; exact inL_mk 171 171 5 (by decide) (by omega) (by omega) (by omega))
    split at h
    · skip
      obtain ⟨hi35, h⟩ := gd_some h
      have hjhi35 := vin_lt hi35 rfl
      have hF := hF.si (o := 176) (k := v1.toNatClampNeg) (v := (1 : Int32)) (by unfold S_X12_image; exact inL_mk 176 176 9999 (by decide) (by omega) (by omega) (by omega))
      obtain ⟨r45, hr45, h⟩ := bnd h
      have hF := hF.tr (fr_X12_puts n 174 v1 172 (si (si μ 171 5 s1) 176 v1.toNatClampNeg (1 : Int32)) r45 hr45) (fun o k hS => by
    unfold S_X12_puts at hS
    rcases hS with hS | hS
    · exact (subL_of (by decide +kernel) hS)
    · exact inL_mk 174 174 9999 (by decide) (by omega) (by omega) (by omega))
      rw [← Option.some.inj h]; exact hF
    · skip
      rw [← Option.some.inj h]; exact hF
  obtain ⟨r7, hr7, h⟩ := bnd h
  have hF := hF.tr (fr_X12_within n (v1.toInt64) (0 : Int64) (2 : Int64) μ r7 hr7) (fun o k hS => (subL_of (L1 := []) (by decide +kernel) hS))
  split at h
  · skip
    exact B18 (1 : Int32) r7.2 hF h
  · skip
    exact B18 (0 : Int32) r7.2 hF h
set_option maxRecDepth 100000 in
set_option maxHeartbeats 4000000 in
theorem fr_X12_restore (n : Nat) (v1 : Int32) (μ : Mu) (r : Unit × Mu) (h : X12_restore n v1 μ = some r) : Fr (S_X12_restore v1) μ r.2 := by
  rw [X12_restore] at h
  have hF : Fr (S_X12_restore v1) μ μ := Fr.rf
  obtain ⟨μ0, hμ0⟩ : ∃ z, z = μ := ⟨_, rfl⟩
  rw [← hμ0]
  have hF : Fr (S_X12_restore v1) μ0 μ := by rw [hμ0]; exact hF
  have B31 : ∀ (s1 : Int32) (μ : Mu), Fr (S_X12_restore v1) μ0 μ → X12_restore_31 n v1 s1 μ = some r → Fr (S_X12_restore v1) μ0 r.2 := by
    intro s1 μ hF h
    rw [X12_restore_31] at h
    have hF := hF.si (o := 171) (k := 5) (v := s1) (by unfold S_X12_restore; exact inL_mk 171 171 5 (by decide) (by omega) (by omega) (by omega))
    split at h
    · skip
      obtain ⟨r51, hr51, h⟩ := bnd h
      have hF := hF.tr (fr_X12_gets n 174 v1 172 (si μ 171 5 s1) r51 hr51) (fun o k hS => by
    unfold S_X12_gets at hS
    rcases hS with hS | hS
    · exact (subL_of (by decide +kernel) hS)
    · exact inL_mk 172 172 9999 (by decide) (by omega) (by omega) (by omega))
      have hF := hF.si (o := 171) (k := 28) (v := (0 : Int32)) (by unfold S_X12_restore; exact inL_mk 171 171 28 (by decide) (by omega) (by omega) (by omega))
      have hF := hF.si (o := 171) (k := 29) (v := (0 : Int32)) (by unfold S_X12_restore; exact inL_mk 171 171 29 (by decide) (by omega) (by omega) (by omega))
      rw [← Option.some.inj h]; exact hF
    · skip
      rw [← Option.some.inj h]; exact hF
  obtain ⟨r7, hr7, h⟩ := bnd h
  have hF := hF.tr (fr_X12_within n (v1.toInt64) (0 : Int64) (2 : Int64) μ r7 hr7) (fun o k hS => (subL_of (L1 := []) (by decide +kernel) hS))
  split at h
  rotate_left
  · skip
    obtain ⟨hi22, h⟩ := gd_some h
    have hjhi22 := vin_lt hi22 rfl
    split at h
    rotate_left
    · skip
      exact B31 (0 : Int32) r7.2 hF h
    · skip
      exact B31 (2 : Int32) r7.2 hF h
  · skip
    exact B31 (1 : Int32) r7.2 hF h
set_option maxRecDepth 100000 in
set_option maxHeartbeats 4000000 in
theorem fr_X12_count (n : Nat) (v1 : Int32) (μ : Mu) (r : Int32 × Mu) (h : X12_count n v1 μ = some r) : Fr (S_X12_count v1) μ r.2 := by
  rw [X12_count] at h
  have hF : Fr (S_X12_count v1) μ μ := Fr.rf
  obtain ⟨μ0, hμ0⟩ : ∃ z, z = μ := ⟨_, rfl⟩
  rw [← hμ0]
  have hF : Fr (S_X12_count v1) μ0 μ := by rw [hμ0]; exact hF
  have B9 : ∀ (k : Nat), ∀ (v2 : Int32) (v3 : Int32) (μ : Mu), Fr (S_X12_count v1) μ0 μ → lpF (fun _ _ _ => none) (X12_count_9b n v1) k v2 v3 μ = some r → Fr (S_X12_count v1) μ0 r.2 := by
    intro k
    induction k with
    | zero =>
      intro v2 v3 μ hF h
      cases h
    | succ k ih9 =>
      rw [lpF_s]
      generalize lpF (fun _ _ _ => none) (X12_count_9b n v1) k = k9 at ih9 ⊢
      intro v2 v3 μ hF h
      have B31 : ∀ (v3 : Int32) (s0 : Int32) (s1 : Int32) (μ : Mu), Fr (S_X12_count v1) μ0 μ → X12_count_31 n v1 k9 v3 s0 s1 μ = some r → Fr (S_X12_count v1) μ0 r.2 := by
        intro v3 s0 s1 μ hF h
        rw [X12_count_31] at h
        exact ih9 (s0 + s1) (v3 + (1 : Int32)) μ hF h
      rw [X12_count_9b] at h
      obtain ⟨r11, hr11, h⟩ := bnd h
      have hF := hF.tr (fr_X12_pitMany n μ r11 hr11) (fun o k hS => (subL_of (L1 := []) (by decide +kernel) hS))
      split at h
      · skip
        by_cases hs40_0 : v1 = (0 : Int32)
        · rw [if_pos hs40_0] at h
          rw [← Option.some.inj h]; exact hF
        rw [if_neg hs40_0] at h
        by_cases hs40_1 : v1 = (1 : Int32)
        · rw [if_pos hs40_1] at h
          rw [← Option.some.inj h]; exact hF
        rw [if_neg hs40_1] at h
        by_cases hs40_2 : v1 = (2 : Int32)
        · rw [if_pos hs40_2] at h
          obtain ⟨r99, hr99, h⟩ := bnd h
          have hF := hF.tr (fr_X12_seedsNow n r11.2 r99 hr99) (fun o k hS => (subL_of (L1 := []) (by decide +kernel) hS))
          rw [← Option.some.inj h]; exact hF
        rw [if_neg hs40_2] at h
        by_cases hs40_3 : v1 = (3 : Int32)
        · rw [if_pos hs40_3] at h
          rw [← Option.some.inj h]; exact hF
        rw [if_neg hs40_3] at h
        by_cases hs40_4 : v1 = (4 : Int32)
        · rw [if_pos hs40_4] at h
          rw [← Option.some.inj h]; exact hF
        rw [if_neg hs40_4] at h
        by_cases hs40_5 : v1 = (5 : Int32)
        · rw [if_pos hs40_5] at h
          rw [← Option.some.inj h]; exact hF
        rw [if_neg hs40_5] at h
        by_cases hs40_6 : v1 = (6 : Int32)
        · rw [if_pos hs40_6] at h
          rw [← Option.some.inj h]; exact hF
        rw [if_neg hs40_6] at h
        rw [← Option.some.inj h]; exact hF
      · skip
        obtain ⟨r20, hr20, h⟩ := bnd h
        have hF := hF.tr (fr_X12_isLacking n v3 r11.2 r20 hr20) (fun o k hS => (subL_of (L1 := []) (by decide +kernel) hS))
        split at h
        · skip
          exact B31 v3 v2 (0 : Int32) r20.2 hF h
        · skip
          exact B31 v3 v2 (1 : Int32) r20.2 hF h
  have hF := hF.si (o := 171) (k := 5) (v := (0 : Int32)) (by unfold S_X12_count; exact inL_mk 171 171 5 (by decide) (by omega) (by omega) (by omega))
  exact B9 n (0 : Int32) (0 : Int32) (si μ 171 5 (0 : Int32)) hF h
set_option maxRecDepth 100000 in
set_option maxHeartbeats 4000000 in
theorem fr_J6_bitCount_0f7a4 (n : Nat) (v0 : Int32) (μ : Mu) (r : Int32 × Mu) (h : J6_bitCount_0f7a4 n v0 μ = some r) : Fr (S_J6_bitCount_0f7a4 v0) μ r.2 := by
  rw [J6_bitCount_0f7a4] at h
  have hF : Fr (S_J6_bitCount_0f7a4 v0) μ μ := Fr.rf
  obtain ⟨μ0, hμ0⟩ : ∃ z, z = μ := ⟨_, rfl⟩
  rw [← hμ0]
  have hF : Fr (S_J6_bitCount_0f7a4 v0) μ0 μ := by rw [hμ0]; exact hF
  rw [← Option.some.inj h]; exact hF
set_option maxRecDepth 100000 in
set_option maxHeartbeats 4000000 in
theorem fr_X0_note (n : Nat) (v1 : Nat) (μ : Mu) (r : Unit × Mu) (h : X0_note n v1 μ = some r) : Fr (S_X0_note v1) μ r.2 := by
  rw [X0_note] at h
  obtain ⟨hk1, h⟩ := kd_some h
  have hF : Fr (S_X0_note v1) μ μ := Fr.rf
  obtain ⟨μ0, hμ0⟩ : ∃ z, z = μ := ⟨_, rfl⟩
  rw [← hμ0]
  have hF : Fr (S_X0_note v1) μ0 μ := by rw [hμ0]; exact hF
  have B180 : ∀ (μ : Mu), Fr (S_X0_note v1) μ0 μ → X0_note_180 n v1  μ = some r → Fr (S_X0_note v1) μ0 r.2 := by
    intro μ hF h
    rw [X0_note_180] at h
    rw [← Option.some.inj h]; exact hF
  have B59 : ∀ (k : Nat), ∀ (v2 : Int64) (v4 : Int64) (v8 : Int32) (v9 : Int32) (μ : Mu), Fr (S_X0_note v1) μ0 μ → lpF (fun _ _ _ _ _ => none) (X0_note_59b n v1) k v2 v4 v8 v9 μ = some r → Fr (S_X0_note v1) μ0 r.2 := by
    intro k
    induction k with
    | zero =>
      intro v2 v4 v8 v9 μ hF h
      cases h
    | succ k ih59 =>
      rw [lpF_s]
      generalize lpF (fun _ _ _ _ _ => none) (X0_note_59b n v1) k = k59 at ih59 ⊢
      intro v2 v4 v8 v9 μ hF h
      have B164 : ∀ (v2 : Int64) (v4 : Int64) (v8 : Int32) (v9 : Int32) (μ : Mu), Fr (S_X0_note v1) μ0 μ → X0_note_164 n v1 k59 v2 v4 v8 v9 μ = some r → Fr (S_X0_note v1) μ0 r.2 := by
        intro v2 v4 v8 v9 μ hF h
        rw [X0_note_164] at h
        exact ih59 v2 v4 ((v8 + (1 : Int32)) &&& (4095 : Int32)) (v9 + (1 : Int32)) μ hF h
      rw [X0_note_59b] at h
      split at h
      · skip
        exact B180 μ hF h
      · skip
        split at h
        · skip
          exact B180 μ hF h
        · skip
          obtain ⟨hi83, h⟩ := gd_some h
          have hjhi83 := vin_lt hi83 rfl
          split at h
          rotate_left
          · skip
            obtain ⟨hi142, h⟩ := gd_some h
            have hjhi142 := vin_lt hi142 rfl
            split at h
            rotate_left
            · skip
              exact B164 v2 v4 v8 v9 μ hF h
            · skip
              split at h
              rotate_left
              · skip
                exact B164 v2 v4 v8 v9 μ hF h
              · skip
                rw [← Option.some.inj h]; exact hF
          · skip
            obtain ⟨hi100, h⟩ := gd_some h
            have hjhi100 := vin_lt hi100 rfl
            have hF := hF.sj (o := 28) (k := (μ.1 25 11).toNatClampNeg) (v := v2) (by unfold S_X0_note; exact inL_mk 28 28 9999 (by decide) (by omega) (by omega) (by omega))
            obtain ⟨hi111, h⟩ := gd_some h
            have hjhi111 := vin_lt hi111 rfl
            have hF := hF.sj (o := 29) (k := ((sj μ 28 (μ.1 25 11).toNatClampNeg v2).1 25 11).toNatClampNeg) (v := v4) (by unfold S_X0_note; exact inL_mk 29 29 9999 (by decide) (by omega) (by omega) (by omega))
            have hF := hF.si (o := 25) (k := 11) (v := (((sj (sj μ 28 (μ.1 25 11).toNatClampNeg v2) 29 ((sj μ 28 (μ.1 25 11).toNatClampNeg v2).1 25 11).toNatClampNeg v4).1 25 11) + (1 : Int32))) (by unfold S_X0_note; exact inL_mk 25 25 11 (by decide) (by omega) (by omega) (by omega))
            have hF := hF.si (o := 30) (k := v8.toNatClampNeg) (v := ((si (sj (sj μ 28 (μ.1 25 11).toNatClampNeg v2) 29 ((sj μ 28 (μ.1 25 11).toNatClampNeg v2).1 25 11).toNatClampNeg v4) 25 11 (((sj (sj μ 28 (μ.1 25 11).toNatClampNeg v2) 29 ((sj μ 28 (μ.1 25 11).toNatClampNeg v2).1 25 11).toNatClampNeg v4).1 25 11) + (1 : Int32))).1 25 11)) (by unfold S_X0_note; exact inL_mk 30 30 9999 (by decide) (by omega) (by omega) (by omega))
            rw [← Option.some.inj h]; exact hF
  obtain ⟨r7, hr7, h⟩ := bnd h
  have hF := hF.tr (fr_X0_packed n (v1 + 1) (0 : Int32) (7 : Int32) μ r7 hr7) (fun o k hS => (subL_of (L1 := []) (by decide +kernel) hS))
  obtain ⟨r19, hr19, h⟩ := bnd h
  have hF := hF.tr (fr_X0_packed n (v1 + 1) (7 : Int32) (14 : Int32) r7.2 r19 hr19) (fun o k hS => (subL_of (L1 := []) (by decide +kernel) hS))
  exact B59 n r7.1 ((r19.1 * (2 : Int64)) + ((r19.2.1 v1 1).toInt64)) ((((((r7.1 * (31 : Int64)) + ((r19.1 * (2 : Int64)) + ((r19.2.1 v1 1).toInt64))) * ((-7046029254386353131) : Int64)).toUInt64 >>> ((52 : Int32).toInt64.toUInt64 &&& Int64.toUInt64 63)).toInt64).toInt32) (0 : Int32) r19.2 hF h
set_option maxRecDepth 100000 in
set_option maxHeartbeats 4000000 in
theorem fr_X1_cellOnWay (n : Nat) (v1 : Int32) (v2 : Int32) (μ : Mu) (r : Int32 × Mu) (h : X1_cellOnWay n v1 v2 μ = some r) : Fr (S_X1_cellOnWay v1 v2) μ r.2 := by
  rw [X1_cellOnWay] at h
  have hF : Fr (S_X1_cellOnWay v1 v2) μ μ := Fr.rf
  obtain ⟨μ0, hμ0⟩ : ∃ z, z = μ := ⟨_, rfl⟩
  rw [← hμ0]
  have hF : Fr (S_X1_cellOnWay v1 v2) μ0 μ := by rw [hμ0]; exact hF
  have B29 : ∀ (s0 : Int32) (μ : Mu), Fr (S_X1_cellOnWay v1 v2) μ0 μ → X1_cellOnWay_29 n v1 v2 s0 μ = some r → Fr (S_X1_cellOnWay v1 v2) μ0 r.2 := by
    intro s0 μ hF h
    rw [X1_cellOnWay_29] at h
    rw [← Option.some.inj h]; exact hF
  have B70 : ∀ (s0 : Int32) (μ : Mu), Fr (S_X1_cellOnWay v1 v2) μ0 μ → X1_cellOnWay_70 n v1 v2 s0 μ = some r → Fr (S_X1_cellOnWay v1 v2) μ0 r.2 := by
    intro s0 μ hF h
    rw [X1_cellOnWay_70] at h
    rw [← Option.some.inj h]; exact hF
  have B50 : ∀ (s1 : Int32) (s2 : Int32) (μ : Mu), Fr (S_X1_cellOnWay v1 v2) μ0 μ → X1_cellOnWay_50 n v1 v2 s1 s2 μ = some r → Fr (S_X1_cellOnWay v1 v2) μ0 r.2 := by
    intro s1 s2 μ hF h
    rw [X1_cellOnWay_50] at h
    obtain ⟨r50, hr50, h⟩ := bnd h
    have hF := hF.tr (fr_X1_pitAsSeen n s1 s2 μ r50 hr50) (fun o k hS => (subL_of (L1 := []) (by decide +kernel) hS))
    obtain ⟨r59, hr59, h⟩ := bnd h
    have hF := hF.tr (fr_X5_isLacking n 1 r50.1 r50.2 r59 hr59) (fun o k hS => (subL_of (L1 := []) (by decide +kernel) hS))
    split at h
    · skip
      exact B70 r50.1 r59.2 hF h
    · skip
      exact B70 ((-1) : Int32) r59.2 hF h
  split at h
  rotate_left
  · skip
    split at h
    · skip
      exact B50 v1 (v2 - (1 : Int32)) μ hF h
    · skip
      exact B50 v1 v2 μ hF h
  · skip
    split at h
    · skip
      exact B29 ((-1) : Int32) μ hF h
    · skip
      exact B29 ((12 : Int32) + v1) μ hF h
set_option maxRecDepth 100000 in
set_option maxHeartbeats 4000000 in
theorem fr_X1_listSeen (n : Nat) (v1 : Int32) (μ : Mu) (r : Unit × Mu) (h : X1_listSeen n v1 μ = some r) : Fr (S_X1_listSeen v1) μ r.2 := by
  rw [X1_listSeen] at h
  have hF : Fr (S_X1_listSeen v1) μ μ := Fr.rf
  obtain ⟨μ0, hμ0⟩ : ∃ z, z = μ := ⟨_, rfl⟩
  rw [← hμ0]
  have hF : Fr (S_X1_listSeen v1) μ0 μ := by rw [hμ0]; exact hF
  have B7 : ∀ (k : Nat), ∀ (v2 : Int32) (μ : Mu), Fr (S_X1_listSeen v1) μ0 μ → lpF (fun _ _ => none) (X1_listSeen_7b n v1) k v2 μ = some r → Fr (S_X1_listSeen v1) μ0 r.2 := by
    intro k
    induction k with
    | zero =>
      intro v2 μ hF h
      cases h
    | succ k ih7 =>
      rw [lpF_s]
      generalize lpF (fun _ _ => none) (X1_listSeen_7b n v1) k = k7 at ih7 ⊢
      intro v2 μ hF h
      have B87 : ∀ (v2 : Int32) (μ : Mu), Fr (S_X1_listSeen v1) μ0 μ → X1_listSeen_87 n v1 k7 v2 μ = some r → Fr (S_X1_listSeen v1) μ0 r.2 := by
        intro v2 μ hF h
        rw [X1_listSeen_87] at h
        exact ih7 (v2 + (1 : Int32)) μ hF h
      have B51 : ∀ (v2 : Int32) (v3 : Int32) (μ : Mu), Fr (S_X1_listSeen v1) μ0 μ → X1_listSeen_51 n v1 k7 v2 v3 μ = some r → Fr (S_X1_listSeen v1) μ0 r.2 := by
        intro v2 v3 μ hF h
        rw [X1_listSeen_51] at h
        obtain ⟨r56, hr56, h⟩ := bnd h
        have hF := hF.tr (fr_X5_isLacking n 1 v3 μ r56 hr56) (fun o k hS => (subL_of (L1 := []) (by decide +kernel) hS))
        split at h
        rotate_left
        · skip
          exact B87 v2 r56.2 hF h
        · skip
          obtain ⟨hi76, h⟩ := gd_some h
          have hjhi76 := vin_lt hi76 rfl
          have hF := hF.si (o := 4) (k := ((v1 * (12 : Int32)) + (r56.2.1 2 1)).toNatClampNeg) (v := v3) (by unfold S_X1_listSeen; exact inL_mk 4 4 9999 (by decide) (by omega) (by omega) (by omega))
          have hF := hF.si (o := 2) (k := 1) (v := (((si r56.2 4 ((v1 * (12 : Int32)) + (r56.2.1 2 1)).toNatClampNeg v3).1 2 1) + (1 : Int32))) (by unfold S_X1_listSeen; exact inL_mk 2 2 1 (by decide) (by omega) (by omega) (by omega))
          exact B87 v2 (si (si r56.2 4 ((v1 * (12 : Int32)) + (r56.2.1 2 1)).toNatClampNeg v3) 2 1 (((si r56.2 4 ((v1 * (12 : Int32)) + (r56.2.1 2 1)).toNatClampNeg v3).1 2 1) + (1 : Int32))) hF h
      rw [X1_listSeen_7b] at h
      split at h
      · skip
        rw [← Option.some.inj h]; exact hF
      · skip
        obtain ⟨r23, hr23, h⟩ := bnd h
        have hF := hF.tr (fr_X1_pitAsSeen n v1 v2 μ r23 hr23) (fun o k hS => (subL_of (L1 := []) (by decide +kernel) hS))
        obtain ⟨r32, hr32, h⟩ := bnd h
        have hF := hF.tr (fr_X5_isLacking n 1 r23.1 r23.2 r32 hr32) (fun o k hS => (subL_of (L1 := []) (by decide +kernel) hS))
        obtain ⟨r40, hr40, h⟩ := bnd h
        have hF := hF.tr (fr_X5_isLacking n 1 v2 r32.2 r40 hr40) (fun o k hS => (subL_of (L1 := []) (by decide +kernel) hS))
        split at h
        · skip
          exact B51 v2 r23.1 r40.2 hF h
        · skip
          have hF := hF.si (o := 2) (k := 2) (v := (0 : Int32)) (by unfold S_X1_listSeen; exact inL_mk 2 2 2 (by decide) (by omega) (by omega) (by omega))
          exact B51 v2 r23.1 (si r40.2 2 2 (0 : Int32)) hF h
  have hF := hF.si (o := 2) (k := 1) (v := (0 : Int32)) (by unfold S_X1_listSeen; exact inL_mk 2 2 1 (by decide) (by omega) (by omega) (by omega))
  exact B7 n (0 : Int32) (si μ 2 1 (0 : Int32)) hF h
set_option maxRecDepth 100000 in
set_option maxHeartbeats 4000000 in
theorem fr_X1_lay (n : Nat) (v1 : Nat) (v2 : Int32) (v3 : Int32) (v4 : Int32) (μ : Mu) (r : Unit × Mu) (h : X1_lay n v1 v2 v3 v4 μ = some r) : Fr (S_X1_lay v1 v2 v3 v4) μ r.2 := by
  rw [X1_lay] at h
  obtain ⟨hk1, h⟩ := kd_some h
  have hF : Fr (S_X1_lay v1 v2 v3 v4) μ μ := Fr.rf
  obtain ⟨μ0, hμ0⟩ : ∃ z, z = μ := ⟨_, rfl⟩
  rw [← hμ0]
  have hF : Fr (S_X1_lay v1 v2 v3 v4) μ0 μ := by rw [hμ0]; exact hF
  have B134 : ∀ (μ : Mu), Fr (S_X1_lay v1 v2 v3 v4) μ0 μ → X1_lay_134 n v1 v2 v3 v4  μ = some r → Fr (S_X1_lay v1 v2 v3 v4) μ0 r.2 := by
    intro μ hF h
    rw [X1_lay_134] at h
    rw [← Option.some.inj h]; exact hF
  have B25 : ∀ (k : Nat), ∀ (v5 : Int32) (v6 : Int32) (v7 : Int32) (v8 : Int32) (μ : Mu), Fr (S_X1_lay v1 v2 v3 v4) μ0 μ → lpF (fun _ _ _ _ _ => none) (X1_lay_25b n v1 v2 v3 v4) k v5 v6 v7 v8 μ = some r → Fr (S_X1_lay v1 v2 v3 v4) μ0 r.2 := by
    intro k
    induction k with
    | zero =>
      intro v5 v6 v7 v8 μ hF h
      cases h
    | succ k ih25 =>
      rw [lpF_s]
      generalize lpF (fun _ _ _ _ _ => none) (X1_lay_25b n v1 v2 v3 v4) k = k25 at ih25 ⊢
      intro v5 v6 v7 v8 μ hF h
      have B104 : ∀ (v5 : Int32) (v6 : Int32) (v7 : Int32) (v8 : Int32) (v10 : Int32) (μ : Mu), Fr (S_X1_lay v1 v2 v3 v4) μ0 μ → X1_lay_104 n v1 v2 v3 v4 k25 v5 v6 v7 v8 v10 μ = some r → Fr (S_X1_lay v1 v2 v3 v4) μ0 r.2 := by
        intro v5 v6 v7 v8 v10 μ hF h
        rw [X1_lay_104] at h
        obtain ⟨hi117, h⟩ := gd_some h
        have hjhi117 := vin_lt hi117 rfl
        obtain ⟨hi123, h⟩ := gd_some h
        have hjhi123 := vin_lt hi123 rfl
        have hF := hF.si (o := (v1 + 1)) (k := (μ.1 4 (v5 + v8).toNatClampNeg).toNatClampNeg) (v := (v6 - v10)) (by unfold S_X1_lay; exact Or.inr (by omega))
        exact ih25 v5 v10 v7 (v8 + (1 : Int32)) (si μ (v1 + 1) (μ.1 4 (v5 + v8).toNatClampNeg).toNatClampNeg (v6 - v10)) hF h
      have B82 : ∀ (v5 : Int32) (v6 : Int32) (v7 : Int32) (v8 : Int32) (v9 : Int32) (v10 : Int32) (μ : Mu), Fr (S_X1_lay v1 v2 v3 v4) μ0 μ → X1_lay_82 n v1 v2 v3 v4 k25 v5 v6 v7 v8 v9 v10 μ = some r → Fr (S_X1_lay v1 v2 v3 v4) μ0 r.2 := by
        intro v5 v6 v7 v8 v9 v10 μ hF h
        rw [X1_lay_82] at h
        split at h
        · skip
          exact B104 v5 v6 v7 v8 v10 μ hF h
        · skip
          obtain ⟨hi100, h⟩ := gd_some h
          have hjhi100 := vin_lt hi100 rfl
          exact B104 v5 v6 (v7 - (μ.1 5 ((v9 + v10) - (1 : Int32)).toNatClampNeg)) v8 v10 μ hF h
      have B54 : ∀ (k : Nat), ∀ (v5 : Int32) (v6 : Int32) (v7 : Int32) (v8 : Int32) (v9 : Int32) (v10 : Int32) (μ : Mu), Fr (S_X1_lay v1 v2 v3 v4) μ0 μ → lpF (fun _ _ _ _ _ _ _ => none) (X1_lay_54b n v1 v2 v3 v4 k25) k v5 v6 v7 v8 v9 v10 μ = some r → Fr (S_X1_lay v1 v2 v3 v4) μ0 r.2 := by
        intro k
        induction k with
        | zero =>
          intro v5 v6 v7 v8 v9 v10 μ hF h
          cases h
        | succ k ih54 =>
          rw [lpF_s]
          generalize lpF (fun _ _ _ _ _ _ _ => none) (X1_lay_54b n v1 v2 v3 v4 k25) k = k54 at ih54 ⊢
          intro v5 v6 v7 v8 v9 v10 μ hF h
          rw [X1_lay_54b] at h
          split at h
          · skip
            exact B82 v5 v6 v7 v8 v9 v10 μ hF h
          · skip
            obtain ⟨hi72, h⟩ := gd_some h
            have hjhi72 := vin_lt hi72 rfl
            split at h
            · skip
              exact B82 v5 v6 v7 v8 v9 v10 μ hF h
            · skip
              exact ih54 v5 v6 v7 v8 v9 (v10 + (1 : Int32)) μ hF h
      rw [X1_lay_25b] at h
      split at h
      · skip
        exact B134 μ hF h
      · skip
        split at h
        · skip
          exact B134 μ hF h
        · skip
          exact B54 n v5 v6 v7 v8 (((μ.1 2 1) - v8) * (41 : Int32)) (0 : Int32) μ hF h
  obtain ⟨r1, hr1, h⟩ := bnd h
  have hF := hF.tr (fr_X6_clear n v1 μ r1 hr1) (fun o k hS => by
  unfold S_X6_clear at hS
  rcases hS with hS | hS | hS
  · exact Or.inl (subL_of (by decide +kernel) hS)
  · exact Or.inr (by omega)
  · exact Or.inr (by omega))
  have hF := hF.si (o := v1) (k := 1) (v := v2) (by unfold S_X1_lay; exact Or.inr (by omega))
  exact B25 n (v2 * (12 : Int32)) v3 v4 (0 : Int32) (si r1.2 v1 1 v2) hF h
set_option maxRecDepth 100000 in
set_option maxHeartbeats 4000000 in
theorem fr_X3_keep (n : Nat) (v1 : Nat) (v2 : Int32) (μ : Mu) (r : Unit × Mu) (h : X3_keep n v1 v2 μ = some r) : Fr (S_X3_keep v1 v2) μ r.2 := by
  rw [X3_keep] at h
  obtain ⟨hk1, h⟩ := kd_some h
  have hF : Fr (S_X3_keep v1 v2) μ μ := Fr.rf
  obtain ⟨μ0, hμ0⟩ : ∃ z, z = μ := ⟨_, rfl⟩
  rw [← hμ0]
  have hF : Fr (S_X3_keep v1 v2) μ0 μ := by rw [hμ0]; exact hF
  have B28 : ∀ (μ : Mu), Fr (S_X3_keep v1 v2) μ0 μ → X3_keep_28 n v1 v2  μ = some r → Fr (S_X3_keep v1 v2) μ0 r.2 := by
    intro μ hF h
    rw [X3_keep_28] at h
    obtain ⟨r33, hr33, h⟩ := bnd h
    have hF := hF.tr (fr_X3_slot n (μ.1 9 0) μ r33 hr33) (fun o k hS => (subL_of (L1 := []) (by decide +kernel) hS))
    obtain ⟨hi43, h⟩ := gd_some h
    have hjhi43 := vin_lt hi43 rfl
    have hF := hF.si (o := 10) (k := r33.1.toNatClampNeg) (v := v2) (by unfold S_X3_keep; exact inL_mk 10 10 9999 (by decide) (by omega) (by omega) (by omega))
    obtain ⟨r51, hr51, h⟩ := bnd h
    have hF := hF.tr (fr_X6_copy n (69 + 2 * r33.1.toNatClampNeg) v1 (si r33.2 10 r33.1.toNatClampNeg v2) r51 hr51) (fun o k hS => by
  unfold S_X6_copy at hS
  rcases hS with hS | hS | hS
  · exact (subL_of (by decide +kernel) hS)
  · exact inL_mk 69 148 1 (by decide) (by omega) (by omega) (by omega)
  · exact inL_mk 69 148 9999 (by decide) (by omega) (by omega) (by omega))
    have hF := hF.si (o := 9) (k := 0) (v := ((r51.2.1 9 0) + (1 : Int32))) (by unfold S_X3_keep; exact inL_mk 9 9 0 (by decide) (by omega) (by omega) (by omega))
    have hF := hF.si (o := 9) (k := 1) (v := (0 : Int32)) (by unfold S_X3_keep; exact inL_mk 9 9 1 (by decide) (by omega) (by omega) (by omega))
    rw [← Option.some.inj h]; exact hF
  split at h
  rotate_left
  · skip
    exact B28 μ hF h
  · skip
    obtain ⟨r12, hr12, h⟩ := bnd h
    have hF := hF.tr (fr_X3_slot n (1 : Int32) μ r12 hr12) (fun o k hS => (subL_of (L1 := []) (by decide +kernel) hS))
    have hF := hF.si (o := 9) (k := 2) (v := r12.1) (by unfold S_X3_keep; exact inL_mk 9 9 2 (by decide) (by omega) (by omega) (by omega))
    have hF := hF.si (o := 9) (k := 0) (v := (((si r12.2 9 2 r12.1).1 9 0) - (1 : Int32))) (by unfold S_X3_keep; exact inL_mk 9 9 0 (by decide) (by omega) (by omega) (by omega))
    exact B28 (si (si r12.2 9 2 r12.1) 9 0 (((si r12.2 9 2 r12.1).1 9 0) - (1 : Int32))) hF h
set_option maxRecDepth 100000 in
set_option maxHeartbeats 4000000 in
theorem fr_X3_back (n : Nat) (v1 : Nat) (μ : Mu) (r : Unit × Mu) (h : X3_back n v1 μ = some r) : Fr (S_X3_back v1) μ r.2 := by
  rw [X3_back] at h
  obtain ⟨hk1, h⟩ := kd_some h
  have hF : Fr (S_X3_back v1) μ μ := Fr.rf
  obtain ⟨μ0, hμ0⟩ : ∃ z, z = μ := ⟨_, rfl⟩
  rw [← hμ0]
  have hF : Fr (S_X3_back v1) μ0 μ := by rw [hμ0]; exact hF
  have hF := hF.si (o := 9) (k := 0) (v := ((μ.1 9 0) - (1 : Int32))) (by unfold S_X3_back; exact Or.inl (inL_mk 9 9 0 (by decide) (by omega) (by omega) (by omega)))
  have hF := hF.si (o := 9) (k := 1) (v := (((si μ 9 0 ((μ.1 9 0) - (1 : Int32))).1 9 1) + (1 : Int32))) (by unfold S_X3_back; exact Or.inl (inL_mk 9 9 1 (by decide) (by omega) (by omega) (by omega)))
  obtain ⟨r30, hr30, h⟩ := bnd h
  have hF := hF.tr (fr_X3_slot n ((si (si μ 9 0 ((μ.1 9 0) - (1 : Int32))) 9 1 (((si μ 9 0 ((μ.1 9 0) - (1 : Int32))).1 9 1) + (1 : Int32))).1 9 0) (si (si μ 9 0 ((μ.1 9 0) - (1 : Int32))) 9 1 (((si μ 9 0 ((μ.1 9 0) - (1 : Int32))).1 9 1) + (1 : Int32))) r30 hr30) (fun o k hS => Or.inl (subL_of (L1 := []) (by decide +kernel) hS))
  obtain ⟨hi33, h⟩ := gd_some h
  have hjhi33 := vin_lt hi33 rfl
  obtain ⟨r34, hr34, h⟩ := bnd h
  have hF := hF.tr (fr_X6_copy n v1 (69 + 2 * r30.1.toNatClampNeg) r30.2 r34 hr34) (fun o k hS => by
  unfold S_X6_copy at hS
  rcases hS with hS | hS | hS
  · exact Or.inl (subL_of (by decide +kernel) hS)
  · exact Or.inr (by omega)
  · exact Or.inr (by omega))
  rw [← Option.some.inj h]; exact hF
set_option maxRecDepth 100000 in
set_option maxHeartbeats 4000000 in
theorem fr_X4_isSound (n : Nat) (μ : Mu) (r : Int32 × Mu) (h : X4_isSound n  μ = some r) : Fr S_X4_isSound μ r.2 := by
  rw [X4_isSound] at h
  have hF : Fr S_X4_isSound μ μ := Fr.rf
  obtain ⟨μ0, hμ0⟩ : ∃ z, z = μ := ⟨_, rfl⟩
  rw [← hμ0]
  have hF : Fr S_X4_isSound μ0 μ := by rw [hμ0]; exact hF
  have B56 : ∀ (s0 : Int32) (μ : Mu), Fr S_X4_isSound μ0 μ → X4_isSound_56 n s0 μ = some r → Fr S_X4_isSound μ0 r.2 := by
    intro s0 μ hF h
    rw [X4_isSound_56] at h
    obtain ⟨hz56, h⟩ := bz_some h
    rw [← Option.some.inj h]; exact hF
  have B2 : ∀ (k : Nat), ∀ (v1 : Int32) (μ : Mu), Fr S_X4_isSound μ0 μ → lpF (fun _ _ => none) (X4_isSound_2b n) k v1 μ = some r → Fr S_X4_isSound μ0 r.2 := by
    intro k
    induction k with
    | zero =>
      intro v1 μ hF h
      cases h
    | succ k ih2 =>
      rw [lpF_s]
      generalize lpF (fun _ _ => none) (X4_isSound_2b n) k = k2 at ih2 ⊢
      intro v1 μ hF h
      have B33 : ∀ (v1 : Int32) (μ : Mu), Fr S_X4_isSound μ0 μ → X4_isSound_33 n k2 v1 μ = some r → Fr S_X4_isSound μ0 r.2 := by
        intro v1 μ hF h
        rw [X4_isSound_33] at h
        exact ih2 (v1 + (1 : Int32)) μ hF h
      rw [X4_isSound_2b] at h
      split at h
      · skip
        obtain ⟨r43, hr43, h⟩ := bnd h
        have hF := hF.tr (fr_X6_inPits n 149 μ r43 hr43) (fun o k hS => (subL_of (L1 := []) (by decide +kernel) hS))
        split at h
        · skip
          exact B56 (0 : Int32) r43.2 hF h
        · skip
          exact B56 (1 : Int32) r43.2 hF h
      · skip
        obtain ⟨r13, hr13, h⟩ := bnd h
        have hF := hF.tr (fr_X5_isLacking n 13 v1 μ r13 hr13) (fun o k hS => (subL_of (L1 := []) (by decide +kernel) hS))
        split at h
        · skip
          exact B33 v1 r13.2 hF h
        · skip
          obtain ⟨hi27, h⟩ := gd_some h
          have hjhi27 := vin_lt hi27 rfl
          split at h
          · skip
            exact B33 v1 r13.2 hF h
          · skip
            rw [← Option.some.inj h]; exact hF
  exact B2 n (0 : Int32) μ hF h
set_option maxRecDepth 100000 in
set_option maxHeartbeats 4000000 in
theorem fr_X4_stepNumber (n : Nat) (μ : Mu) (r : Unit × Mu) (h : X4_stepNumber n  μ = some r) : Fr S_X4_stepNumber μ r.2 := by
  rw [X4_stepNumber] at h
  have hF : Fr S_X4_stepNumber μ μ := Fr.rf
  obtain ⟨μ0, hμ0⟩ : ∃ z, z = μ := ⟨_, rfl⟩
  rw [← hμ0]
  have hF : Fr S_X4_stepNumber μ0 μ := by rw [hμ0]; exact hF
  have B105 : ∀ (μ : Mu), Fr S_X4_stepNumber μ0 μ → X4_stepNumber_105 n  μ = some r → Fr S_X4_stepNumber μ0 r.2 := by
    intro μ hF h
    rw [X4_stepNumber_105] at h
    rw [← Option.some.inj h]; exact hF
  have B82 : ∀ (μ : Mu), Fr S_X4_stepNumber μ0 μ → X4_stepNumber_82 n  μ = some r → Fr S_X4_stepNumber μ0 r.2 := by
    intro μ hF h
    rw [X4_stepNumber_82] at h
    split at h
    · skip
      exact B105 μ hF h
    · skip
      have hF := hF.si (o := 12) (k := 7) (v := (4 : Int32)) (by unfold S_X4_stepNumber; exact inL_mk 12 12 7 (by decide) (by omega) (by omega) (by omega))
      obtain ⟨r102, hr102, h⟩ := bnd h
      have hF := hF.tr (fr_X4_refuse n (1 : Int32) (si μ 12 7 (4 : Int32)) r102 hr102) (fun o k hS => (subL_of (L1 := [(12, 12, 2), (12, 12, 3)]) (by decide +kernel) hS))
      exact B105 r102.2 hF h
  have B10 : ∀ (k : Nat), ∀ (μ : Mu), Fr S_X4_stepNumber μ0 μ → lpF (fun _ => none) (X4_stepNumber_10b n) k  μ = some r → Fr S_X4_stepNumber μ0 r.2 := by
    intro k
    induction k with
    | zero =>
      intro μ hF h
      cases h
    | succ k ih10 =>
      rw [lpF_s]
      generalize lpF (fun _ => none) (X4_stepNumber_10b n) k = k10 at ih10 ⊢
      intro μ hF h
      rw [X4_stepNumber_10b] at h
      split at h
      · skip
        exact B82 μ hF h
      · skip
        split at h
        · skip
          exact B82 μ hF h
        · skip
          obtain ⟨r39, hr39, h⟩ := bnd h
          have hF := hF.tr (fr_X4_isDigit n (μ.1 12 9) μ r39 hr39) (fun o k hS => (subL_of (L1 := []) (by decide +kernel) hS))
          split at h
          · skip
            exact B82 r39.2 hF h
          · skip
            obtain ⟨hi61, h⟩ := gd_some h
            have hjhi61 := vin_lt hi61 rfl
            have hF := hF.si (o := 12) (k := 10) (v := ((((10 : Int32) * (r39.2.1 12 10)) + (r39.2.1 14 (r39.2.1 12 9).toNatClampNeg)) - (48 : Int32))) (by unfold S_X4_stepNumber; exact inL_mk 12 12 10 (by decide) (by omega) (by omega) (by omega))
            have hF := hF.si (o := 12) (k := 9) (v := (((si r39.2 12 10 ((((10 : Int32) * (r39.2.1 12 10)) + (r39.2.1 14 (r39.2.1 12 9).toNatClampNeg)) - (48 : Int32))).1 12 9) + (1 : Int32))) (by unfold S_X4_stepNumber; exact inL_mk 12 12 9 (by decide) (by omega) (by omega) (by omega))
            exact ih10 (si (si r39.2 12 10 ((((10 : Int32) * (r39.2.1 12 10)) + (r39.2.1 14 (r39.2.1 12 9).toNatClampNeg)) - (48 : Int32))) 12 9 (((si r39.2 12 10 ((((10 : Int32) * (r39.2.1 12 10)) + (r39.2.1 14 (r39.2.1 12 9).toNatClampNeg)) - (48 : Int32))).1 12 9) + (1 : Int32))) hF h
  have hF := hF.si (o := 12) (k := 7) (v := (2 : Int32)) (by unfold S_X4_stepNumber; exact inL_mk 12 12 7 (by decide) (by omega) (by omega) (by omega))
  have hF := hF.si (o := 12) (k := 10) (v := (0 : Int32)) (by unfold S_X4_stepNumber; exact inL_mk 12 12 10 (by decide) (by omega) (by omega) (by omega))
  exact B10 n (si (si μ 12 7 (2 : Int32)) 12 10 (0 : Int32)) hF h
set_option maxRecDepth 100000 in
set_option maxHeartbeats 4000000 in
theorem fr_X4_stepWord (n : Nat) (μ : Mu) (r : Unit × Mu) (h : X4_stepWord n  μ = some r) : Fr S_X4_stepWord μ r.2 := by
  rw [X4_stepWord] at h
  have hF : Fr S_X4_stepWord μ μ := Fr.rf
  obtain ⟨μ0, hμ0⟩ : ∃ z, z = μ := ⟨_, rfl⟩
  rw [← hμ0]
  have hF : Fr S_X4_stepWord μ0 μ := by rw [hμ0]; exact hF
  have B40 : ∀ (μ : Mu), Fr S_X4_stepWord μ0 μ → X4_stepWord_40 n  μ = some r → Fr S_X4_stepWord μ0 r.2 := by
    intro μ hF h
    rw [X4_stepWord_40] at h
    rw [← Option.some.inj h]; exact hF
  have B5 : ∀ (k : Nat), ∀ (μ : Mu), Fr S_X4_stepWord μ0 μ → lpF (fun _ => none) (X4_stepWord_5b n) k  μ = some r → Fr S_X4_stepWord μ0 r.2 := by
    intro k
    induction k with
    | zero =>
      intro μ hF h
      cases h
    | succ k ih5 =>
      rw [lpF_s]
      generalize lpF (fun _ => none) (X4_stepWord_5b n) k = k5 at ih5 ⊢
      intro μ hF h
      rw [X4_stepWord_5b] at h
      split at h
      · skip
        exact B40 μ hF h
      · skip
        obtain ⟨r21, hr21, h⟩ := bnd h
        have hF := hF.tr (fr_X4_isLetter n (μ.1 12 9) μ r21 hr21) (fun o k hS => (subL_of (L1 := []) (by decide +kernel) hS))
        split at h
        · skip
          exact B40 r21.2 hF h
        · skip
          have hF := hF.si (o := 12) (k := 9) (v := ((r21.2.1 12 9) + (1 : Int32))) (by unfold S_X4_stepWord; exact inL_mk 12 12 9 (by decide) (by omega) (by omega) (by omega))
          exact ih5 (si r21.2 12 9 ((r21.2.1 12 9) + (1 : Int32))) hF h
  have hF := hF.si (o := 12) (k := 7) (v := (1 : Int32)) (by unfold S_X4_stepWord; exact inL_mk 12 12 7 (by decide) (by omega) (by omega) (by omega))
  exact B5 n (si μ 12 7 (1 : Int32)) hF h
set_option maxRecDepth 100000 in
set_option maxHeartbeats 4000000 in
theorem fr_X7_weighLevel (n : Nat) (v1 : Int32) (μ : Mu) (r : Unit × Mu) (h : X7_weighLevel n v1 μ = some r) : Fr (S_X7_weighLevel v1) μ r.2 := by
  rw [X7_weighLevel] at h
  have hF : Fr (S_X7_weighLevel v1) μ μ := Fr.rf
  obtain ⟨μ0, hμ0⟩ : ∃ z, z = μ := ⟨_, rfl⟩
  rw [← hμ0]
  have hF : Fr (S_X7_weighLevel v1) μ0 μ := by rw [hμ0]; exact hF
  have B79 : ∀ (μ : Mu), Fr (S_X7_weighLevel v1) μ0 μ → X7_weighLevel_79 n v1  μ = some r → Fr (S_X7_weighLevel v1) μ0 r.2 := by
    intro μ hF h
    rw [X7_weighLevel_79] at h
    rw [← Option.some.inj h]; exact hF
  have B4 : ∀ (k : Nat), ∀ (v2 : Int32) (v3 : Int32) (μ : Mu), Fr (S_X7_weighLevel v1) μ0 μ → lpF (fun _ _ _ => none) (X7_weighLevel_4b n v1) k v2 v3 μ = some r → Fr (S_X7_weighLevel v1) μ0 r.2 := by
    intro k
    induction k with
    | zero =>
      intro v2 v3 μ hF h
      cases h
    | succ k ih4 =>
      rw [lpF_s]
      generalize lpF (fun _ _ _ => none) (X7_weighLevel_4b n v1) k = k4 at ih4 ⊢
      intro v2 v3 μ hF h
      have B46 : ∀ (k : Nat), ∀ (v2 : Int32) (v3 : Int32) (v4 : Int32) (μ : Mu), Fr (S_X7_weighLevel v1) μ0 μ → lpF (fun _ _ _ _ => none) (X7_weighLevel_46b n v1 k4) k v2 v3 v4 μ = some r → Fr (S_X7_weighLevel v1) μ0 r.2 := by
        intro k
        induction k with
        | zero =>
          intro v2 v3 v4 μ hF h
          cases h
        | succ k ih46 =>
          rw [lpF_s]
          generalize lpF (fun _ _ _ _ => none) (X7_weighLevel_46b n v1 k4) k = k46 at ih46 ⊢
          intro v2 v3 v4 μ hF h
          rw [X7_weighLevel_46b] at h
          obtain ⟨r50, hr50, h⟩ := bnd h
          have hF := hF.tr (fr_X7_halfOf n (1 : Int32) μ r50 hr50) (fun o k hS => (subL_of (L1 := []) (by decide +kernel) hS))
          split at h
          · skip
            exact ih4 v2 (v3 + (1 : Int32)) r50.2 hF h
          · skip
            obtain ⟨r62, hr62, h⟩ := bnd h
            have hF := hF.tr (fr_X7_settleAll n v4 v1 v3 r50.2 r62 hr62) (fun o k hS => (subL_of (L1 := [(16, 16, 9999), (17, 17, 9999)]) (by decide +kernel) hS))
            exact ih46 (v2 ||| r62.1) v3 (v4 + (1 : Int32)) r62.2 hF h
      have B20 : ∀ (k : Nat), ∀ (v2 : Int32) (v3 : Int32) (v4 : Int32) (μ : Mu), Fr (S_X7_weighLevel v1) μ0 μ → lpF (fun _ _ _ _ => none) (X7_weighLevel_20b n v1 k4) k v2 v3 v4 μ = some r → Fr (S_X7_weighLevel v1) μ0 r.2 := by
        intro k
        induction k with
        | zero =>
          intro v2 v3 v4 μ hF h
          cases h
        | succ k ih20 =>
          rw [lpF_s]
          generalize lpF (fun _ _ _ _ => none) (X7_weighLevel_20b n v1 k4) k = k20 at ih20 ⊢
          intro v2 v3 v4 μ hF h
          rw [X7_weighLevel_20b] at h
          obtain ⟨r24, hr24, h⟩ := bnd h
          have hF := hF.tr (fr_X7_halfOf n (1 : Int32) μ r24 hr24) (fun o k hS => (subL_of (L1 := []) (by decide +kernel) hS))
          split at h
          · skip
            exact B46 n v2 v3 (0 : Int32) r24.2 hF h
          · skip
            obtain ⟨r34, hr34, h⟩ := bnd h
            have hF := hF.tr (fr_X7_weighAll n v4 v1 r24.2 r34 hr34) (fun o k hS => (subL_of (L1 := [(19, 19, 9999)]) (by decide +kernel) hS))
            exact ih20 v2 v3 (v4 + (1 : Int32)) r34.2 hF h
      rw [X7_weighLevel_4b] at h
      split at h
      · skip
        exact B79 μ hF h
      · skip
        split at h
        · skip
          exact B79 μ hF h
        · skip
          exact B20 n (0 : Int32) v3 (0 : Int32) μ hF h
  exact B4 n (1 : Int32) (1 : Int32) μ hF h
set_option maxRecDepth 100000 in
set_option maxHeartbeats 4000000 in
theorem fr_X7_rankAt (n : Nat) (v1 : Nat) (μ : Mu) (r : Int32 × Mu) (h : X7_rankAt n v1 μ = some r) : Fr (S_X7_rankAt v1) μ r.2 := by
  rw [X7_rankAt] at h
  obtain ⟨hk1, h⟩ := kd_some h
  have hF : Fr (S_X7_rankAt v1) μ μ := Fr.rf
  obtain ⟨μ0, hμ0⟩ : ∃ z, z = μ := ⟨_, rfl⟩
  rw [← hμ0]
  have hF : Fr (S_X7_rankAt v1) μ0 μ := by rw [hμ0]; exact hF
  obtain ⟨r4, hr4, h⟩ := bnd h
  have hF := hF.tr (fr_X6_inPits n v1 μ r4 hr4) (fun o k hS => (subL_of (L1 := []) (by decide +kernel) hS))
  obtain ⟨r7, hr7, h⟩ := bnd h
  have hF := hF.tr (fr_X7_indexAt n v1 r4.1 r4.2 r7 hr7) (fun o k hS => (subL_of (L1 := []) (by decide +kernel) hS))
  obtain ⟨r10, hr10, h⟩ := bnd h
  have hF := hF.tr (fr_X7_rankOf n r7.1 r7.2 r10 hr10) (fun o k hS => (subL_of (L1 := []) (by decide +kernel) hS))
  rw [← Option.some.inj h]; exact hF
set_option maxRecDepth 100000 in
set_option maxHeartbeats 4000000 in
theorem fr_X8_sow (n : Nat) (v1 : Nat) (v2 : Int32) (μ : Mu) (r : Int32 × Mu) (h : X8_sow n v1 v2 μ = some r) : Fr (S_X8_sow v1 v2) μ r.2 := by
  rw [X8_sow] at h
  obtain ⟨hk1, h⟩ := kd_some h
  have hF : Fr (S_X8_sow v1 v2) μ μ := Fr.rf
  obtain ⟨μ0, hμ0⟩ : ∃ z, z = μ := ⟨_, rfl⟩
  rw [← hμ0]
  have hF : Fr (S_X8_sow v1 v2) μ0 μ := by rw [hμ0]; exact hF
  have B207 : ∀ (s1 : Int32) (μ : Mu), Fr (S_X8_sow v1 v2) μ0 μ → X8_sow_207 n v1 v2 s1 μ = some r → Fr (S_X8_sow v1 v2) μ0 r.2 := by
    intro s1 μ hF h
    rw [X8_sow_207] at h
    have hF := hF.si (o := v1) (k := 1) (v := s1) (by unfold S_X8_sow; exact Or.inr (by omega))
    rw [← Option.some.inj h]; exact hF
  have B201 : ∀ (μ : Mu), Fr (S_X8_sow v1 v2) μ0 μ → X8_sow_201 n v1 v2  μ = some r → Fr (S_X8_sow v1 v2) μ0 r.2 := by
    intro μ hF h
    rw [X8_sow_201] at h
    exact B207 ((1 : Int32) - (μ.1 v1 1)) μ hF h
  have B152 : ∀ (v4 : Int32) (s1 : Int32) (μ : Mu), Fr (S_X8_sow v1 v2) μ0 μ → X8_sow_152 n v1 v2 v4 s1 μ = some r → Fr (S_X8_sow v1 v2) μ0 r.2 := by
    intro v4 s1 μ hF h
    rw [X8_sow_152] at h
    have hF := hF.si (o := 6) (k := 2) (v := s1) (by unfold S_X8_sow; exact Or.inl (inL_mk 6 6 2 (by decide) (by omega) (by omega) (by omega)))
    obtain ⟨hi167, h⟩ := gd_some h
    have hjhi167 := vin_lt hi167 rfl
    have hF := hF.si (o := 6) (k := 3) (v := (((si μ 6 2 s1).1 (v1 + 1) ((12 : Int32) + ((si μ 6 2 s1).1 v1 1)).toNatClampNeg) - v4)) (by unfold S_X8_sow; exact Or.inl (inL_mk 6 6 3 (by decide) (by omega) (by omega) (by omega)))
    split at h
    · skip
      exact B201 (si (si μ 6 2 s1) 6 3 (((si μ 6 2 s1).1 (v1 + 1) ((12 : Int32) + ((si μ 6 2 s1).1 v1 1)).toNatClampNeg) - v4)) hF h
    · skip
      split at h
      · skip
        exact B201 (si (si μ 6 2 s1) 6 3 (((si μ 6 2 s1).1 (v1 + 1) ((12 : Int32) + ((si μ 6 2 s1).1 v1 1)).toNatClampNeg) - v4)) hF h
      · skip
        exact B207 ((si (si μ 6 2 s1) 6 3 (((si μ 6 2 s1).1 (v1 + 1) ((12 : Int32) + ((si μ 6 2 s1).1 v1 1)).toNatClampNeg) - v4)).1 v1 1) (si (si μ 6 2 s1) 6 3 (((si μ 6 2 s1).1 (v1 + 1) ((12 : Int32) + ((si μ 6 2 s1).1 v1 1)).toNatClampNeg) - v4)) hF h
  have B106 : ∀ (v4 : Int32) (v5 : Int32) (μ : Mu), Fr (S_X8_sow v1 v2) μ0 μ → X8_sow_106 n v1 v2 v4 v5 μ = some r → Fr (S_X8_sow v1 v2) μ0 r.2 := by
    intro v4 v5 μ hF h
    rw [X8_sow_106] at h
    have hF := hF.si (o := 6) (k := 1) (v := v5) (by unfold S_X8_sow; exact Or.inl (inL_mk 6 6 1 (by decide) (by omega) (by omega) (by omega)))
    split at h
    · skip
      obtain ⟨r133, hr133, h⟩ := bnd h
      have hF := hF.tr (fr_X8_isOwn n v1 (((si μ 6 1 v5).1 6 0).toInt64) (si μ 6 1 v5) r133 hr133) (fun o k hS => Or.inl (subL_of (L1 := []) (by decide +kernel) hS))
      split at h
      · skip
        obtain ⟨r149, hr149, h⟩ := bnd h
        have hF := hF.tr (fr_X8_takeGrand n v1 r133.2 r149 hr149) (fun o k hS => by
      unfold S_X8_takeGrand at hS
      rcases hS with hS | hS
      · exact Or.inl (subL_of (by decide +kernel) hS)
      · exact Or.inr (by omega))
        exact B152 v4 r149.1 r149.2 hF h
      · skip
        obtain ⟨r141, hr141, h⟩ := bnd h
        have hF := hF.tr (fr_X8_takeOpposite n v1 r133.2 r141 hr141) (fun o k hS => by
      unfold S_X8_takeOpposite at hS
      rcases hS with hS | hS
      · exact Or.inl (subL_of (by decide +kernel) hS)
      · exact Or.inr (by omega))
        exact B152 v4 r141.1 r141.2 hF h
    · skip
      exact B152 v4 (0 : Int32) (si μ 6 1 v5) hF h
  have B19 : ∀ (k : Nat), ∀ (v3 : Int32) (v4 : Int32) (v5 : Int32) (μ : Mu), Fr (S_X8_sow v1 v2) μ0 μ → lpF (fun _ _ _ _ => none) (X8_sow_19b n v1 v2) k v3 v4 v5 μ = some r → Fr (S_X8_sow v1 v2) μ0 r.2 := by
    intro k
    induction k with
    | zero =>
      intro v3 v4 v5 μ hF h
      cases h
    | succ k ih19 =>
      rw [lpF_s]
      generalize lpF (fun _ _ _ _ => none) (X8_sow_19b n v1 v2) k = k19 at ih19 ⊢
      intro v3 v4 v5 μ hF h
      have B64 : ∀ (v3 : Int32) (v4 : Int32) (v5 : Int32) (μ : Mu), Fr (S_X8_sow v1 v2) μ0 μ → X8_sow_64 n v1 v2 k19 v3 v4 v5 μ = some r → Fr (S_X8_sow v1 v2) μ0 r.2 := by
        intro v3 v4 v5 μ hF h
        rw [X8_sow_64] at h
        obtain ⟨r68, hr68, h⟩ := bnd h
        have hF := hF.tr (fr_X8_scatter n v1 v3 μ r68 hr68) (fun o k hS => by
  unfold S_X8_scatter at hS
  rcases hS with hS | hS
  · exact Or.inl (subL_of (by decide +kernel) hS)
  · exact Or.inr (by omega))
        have hF := hF.si (o := 6) (k := 0) (v := r68.1) (by unfold S_X8_sow; exact Or.inl (inL_mk 6 6 0 (by decide) (by omega) (by omega) (by omega)))
        split at h
        · skip
          exact B106 v4 v5 (si r68.2 6 0 r68.1) hF h
        · skip
          split at h
          · skip
            exact B106 v4 v5 (si r68.2 6 0 r68.1) hF h
          · skip
            obtain ⟨hi101, h⟩ := gd_some h
            have hjhi101 := vin_lt hi101 rfl
            split at h
            rotate_left
            · skip
              exact ih19 ((si r68.2 6 0 r68.1).1 6 0) v4 (v5 + (1 : Int32)) (si r68.2 6 0 r68.1) hF h
            · skip
              exact B106 v4 v5 (si r68.2 6 0 r68.1) hF h
      rw [X8_sow_19b] at h
      split at h
      · skip
        rw [← Option.some.inj h]; exact hF
      · skip
        split at h
        · skip
          exact B64 v3 v4 v5 μ hF h
        · skip
          obtain ⟨hi57, h⟩ := gd_some h
          have hjhi57 := vin_lt hi57 rfl
          split at h
          rotate_left
          · skip
            exact B64 v3 v4 v5 μ hF h
          · skip
            rw [← Option.some.inj h]; exact hF
  obtain ⟨hi13, h⟩ := gd_some h
  have hjhi13 := vin_lt hi13 rfl
  exact B19 n v2 (μ.1 (v1 + 1) ((12 : Int32) + (μ.1 v1 1)).toNatClampNeg) (0 : Int32) μ hF h
set_option maxRecDepth 100000 in
set_option maxHeartbeats 4000000 in
theorem fr_X8_tryAll (n : Nat) (v1 : Nat) (μ : Mu) (r : Int32 × Mu) (h : X8_tryAll n v1 μ = some r) : Fr (S_X8_tryAll v1) μ r.2 := by
  rw [X8_tryAll] at h
  obtain ⟨hk1, h⟩ := kd_some h
  have hF : Fr (S_X8_tryAll v1) μ μ := Fr.rf
  obtain ⟨μ0, hμ0⟩ : ∃ z, z = μ := ⟨_, rfl⟩
  rw [← hμ0]
  have hF : Fr (S_X8_tryAll v1) μ0 μ := by rw [hμ0]; exact hF
  have B161 : ∀ (s0 : Int32) (μ : Mu), Fr (S_X8_tryAll v1) μ0 μ → X8_tryAll_161 n v1 s0 μ = some r → Fr (S_X8_tryAll v1) μ0 r.2 := by
    intro s0 μ hF h
    rw [X8_tryAll_161] at h
    rw [← Option.some.inj h]; exact hF
  have B160 : ∀ (v3 : Int32) (μ : Mu), Fr (S_X8_tryAll v1) μ0 μ → X8_tryAll_160 n v1 v3 μ = some r → Fr (S_X8_tryAll v1) μ0 r.2 := by
    intro v3 μ hF h
    rw [X8_tryAll_160] at h
    exact B161 v3 μ hF h
  have B21 : ∀ (k : Nat), ∀ (v2 : Int32) (v3 : Int32) (v4 : Int32) (v5 : Int32) (μ : Mu), Fr (S_X8_tryAll v1) μ0 μ → lpF (fun _ _ _ _ _ => none) (X8_tryAll_21b n v1) k v2 v3 v4 v5 μ = some r → Fr (S_X8_tryAll v1) μ0 r.2 := by
    intro k
    induction k with
    | zero =>
      intro v2 v3 v4 v5 μ hF h
      cases h
    | succ k ih21 =>
      rw [lpF_s]
      generalize lpF (fun _ _ _ _ _ => none) (X8_tryAll_21b n v1) k = k21 at ih21 ⊢
      intro v2 v3 v4 v5 μ hF h
      have B134 : ∀ (v2 : Int32) (v3 : Int32) (v4 : Int32) (v5 : Int32) (μ : Mu), Fr (S_X8_tryAll v1) μ0 μ → X8_tryAll_134 n v1 k21 v2 v3 v4 v5 μ = some r → Fr (S_X8_tryAll v1) μ0 r.2 := by
        intro v2 v3 v4 v5 μ hF h
        rw [X8_tryAll_134] at h
        exact ih21 v2 v3 v4 (v5 + (1 : Int32)) μ hF h
      rw [X8_tryAll_21b] at h
      split at h
      · skip
        split at h
        · skip
          exact B160 v3 μ hF h
        · skip
          split at h
          · skip
            exact B160 v3 μ hF h
          · skip
            exact B161 v4 μ hF h
      · skip
        obtain ⟨hi41, h⟩ := gd_some h
        have hjhi41 := vin_lt hi41 rfl
        split at h
        rotate_left
        · skip
          obtain ⟨hi54, h⟩ := gd_some h
          have hjhi54 := vin_lt hi54 rfl
          obtain ⟨r56, hr56, h⟩ := bnd h
          have hF := hF.tr (fr_X6_copy n (57 + 2 * v5.toNatClampNeg) v1 μ r56 hr56) (fun o k hS => by
      unfold S_X6_copy at hS
      rcases hS with hS | hS | hS
      · exact (subL_of (by decide +kernel) hS)
      · exact inL_mk 57 68 1 (by decide) (by omega) (by omega) (by omega)
      · exact inL_mk 57 68 9999 (by decide) (by omega) (by omega) (by omega))
          obtain ⟨r71, hr71, h⟩ := bnd h
          have hF := hF.tr (fr_X8_sow n (57 + 2 * v5.toNatClampNeg) (v2 + v5) r56.2 r71 hr71) (fun o k hS => by
      unfold S_X8_sow at hS
      rcases hS with hS | hS | hS
      · exact (subL_of (by decide +kernel) hS)
      · exact inL_mk 57 68 1 (by decide) (by omega) (by omega) (by omega)
      · exact inL_mk 57 68 9999 (by decide) (by omega) (by omega) (by omega))
          split at h
          · skip
            exact B134 v2 v3 v4 v5 r71.2 hF h
          · skip
            have hF := hF.si (o := 8) (k := v5.toNatClampNeg) (v := (r71.2.1 6 3)) (by unfold S_X8_tryAll; exact inL_mk 8 8 9999 (by decide) (by omega) (by omega) (by omega))
            obtain ⟨r117, hr117, h⟩ := bnd h
            have hF := hF.tr (fr_X6_inRow n (57 + 2 * v5.toNatClampNeg) ((1 : Int32) - ((si r71.2 8 v5.toNatClampNeg (r71.2.1 6 3)).1 v1 1)) ((si r71.2 8 v5.toNatClampNeg (r71.2.1 6 3)).1 1 1) (si r71.2 8 v5.toNatClampNeg (r71.2.1 6 3)) r117 hr117) (fun o k hS => (subL_of (L1 := []) (by decide +kernel) hS))
            split at h
            · skip
              exact B134 v2 (v3 ||| ((1 : Int32) <<< ((v2 + v5) &&& 31))) v4 v5 r117.2 hF h
            · skip
              exact B134 v2 (v3 ||| ((1 : Int32) <<< ((v2 + v5) &&& 31))) (v4 ||| ((1 : Int32) <<< ((v2 + v5) &&& 31))) v5 r117.2 hF h
        · skip
          exact B134 v2 v3 v4 v5 μ hF h
  exact B21 n ((μ.1 v1 1) * (μ.1 1 1)) (0 : Int32) (0 : Int32) (0 : Int32) μ hF h
set_option maxRecDepth 100000 in
set_option maxHeartbeats 4000000 in
theorem fr_X8_isLong (n : Nat) (v1 : Nat) (v2 : Int32) (μ : Mu) (r : Int32 × Mu) (h : X8_isLong n v1 v2 μ = some r) : Fr (S_X8_isLong v1 v2) μ r.2 := by
  rw [X8_isLong] at h
  obtain ⟨hk1, h⟩ := kd_some h
  have hF : Fr (S_X8_isLong v1 v2) μ μ := Fr.rf
  obtain ⟨μ0, hμ0⟩ : ∃ z, z = μ := ⟨_, rfl⟩
  rw [← hμ0]
  have hF : Fr (S_X8_isLong v1 v2) μ0 μ := by rw [hμ0]; exact hF
  have B42 : ∀ (s0 : Int32) (μ : Mu), Fr (S_X8_isLong v1 v2) μ0 μ → X8_isLong_42 n v1 v2 s0 μ = some r → Fr (S_X8_isLong v1 v2) μ0 r.2 := by
    intro s0 μ hF h
    rw [X8_isLong_42] at h
    obtain ⟨hz42, h⟩ := bz_some h
    rw [← Option.some.inj h]; exact hF
  obtain ⟨hi5, h⟩ := gd_some h
  have hjhi5 := vin_lt hi5 rfl
  obtain ⟨r7, hr7, h⟩ := bnd h
  have hF := hF.tr (fr_X6_copy n (57 + 2 * v2.toNatClampNeg) v1 μ r7 hr7) (fun o k hS => by
  unfold S_X6_copy at hS
  rcases hS with hS | hS | hS
  · exact (subL_of (by decide +kernel) hS)
  · exact inL_mk 57 68 1 (by decide) (by omega) (by omega) (by omega)
  · exact inL_mk 57 68 9999 (by decide) (by omega) (by omega) (by omega))
  obtain ⟨r31, hr31, h⟩ := bnd h
  have hF := hF.tr (fr_X8_sow n (57 + 2 * v2.toNatClampNeg) (((r7.2.1 v1 1) * (r7.2.1 1 1)) + v2) r7.2 r31 hr31) (fun o k hS => by
  unfold S_X8_sow at hS
  rcases hS with hS | hS | hS
  · exact (subL_of (by decide +kernel) hS)
  · exact inL_mk 57 68 1 (by decide) (by omega) (by omega) (by omega)
  · exact inL_mk 57 68 9999 (by decide) (by omega) (by omega) (by omega))
  split at h
  rotate_left
  · skip
    exact B42 (0 : Int32) r31.2 hF h
  · skip
    exact B42 (1 : Int32) r31.2 hF h
set_option maxRecDepth 100000 in
set_option maxHeartbeats 4000000 in
theorem fr_X8_isOver (n : Nat) (v1 : Nat) (μ : Mu) (r : Int32 × Mu) (h : X8_isOver n v1 μ = some r) : Fr (S_X8_isOver v1) μ r.2 := by
  rw [X8_isOver] at h
  obtain ⟨hk1, h⟩ := kd_some h
  have hF : Fr (S_X8_isOver v1) μ μ := Fr.rf
  obtain ⟨μ0, hμ0⟩ : ∃ z, z = μ := ⟨_, rfl⟩
  rw [← hμ0]
  have hF : Fr (S_X8_isOver v1) μ0 μ := by rw [hμ0]; exact hF
  have B56 : ∀ (μ : Mu), Fr (S_X8_isOver v1) μ0 μ → X8_isOver_56 n v1  μ = some r → Fr (S_X8_isOver v1) μ0 r.2 := by
    intro μ hF h
    rw [X8_isOver_56] at h
    rw [← Option.some.inj h]; exact hF
  have B15 : ∀ (k : Nat), ∀ (v2 : Int32) (v3 : Int32) (μ : Mu), Fr (S_X8_isOver v1) μ0 μ → lpF (fun _ _ _ => none) (X8_isOver_15b n v1) k v2 v3 μ = some r → Fr (S_X8_isOver v1) μ0 r.2 := by
    intro k
    induction k with
    | zero =>
      intro v2 v3 μ hF h
      cases h
    | succ k ih15 =>
      rw [lpF_s]
      generalize lpF (fun _ _ _ => none) (X8_isOver_15b n v1) k = k15 at ih15 ⊢
      intro v2 v3 μ hF h
      have B58 : ∀ (v2 : Int32) (v3 : Int32) (μ : Mu), Fr (S_X8_isOver v1) μ0 μ → X8_isOver_58 n v1 k15 v2 v3 μ = some r → Fr (S_X8_isOver v1) μ0 r.2 := by
        intro v2 v3 μ hF h
        rw [X8_isOver_58] at h
        exact ih15 v2 (v3 + (1 : Int32)) μ hF h
      rw [X8_isOver_15b] at h
      split at h
      · skip
        rw [← Option.some.inj h]; exact hF
      · skip
        obtain ⟨hi33, h⟩ := gd_some h
        have hjhi33 := vin_lt hi33 rfl
        split at h
        · skip
          exact B58 v2 v3 μ hF h
        · skip
          split at h
          · skip
            exact B56 μ hF h
          · skip
            obtain ⟨r50, hr50, h⟩ := bnd h
            have hF := hF.tr (fr_X8_isLong n v1 v3 μ r50 hr50) (fun o k hS => (subL_of (L1 := [(6, 6, 0), (6, 6, 1), (6, 6, 2), (6, 6, 3), (57, 68, 1), (57, 68, 9999)]) (by decide +kernel) hS))
            split at h
            rotate_left
            · skip
              exact B58 v2 v3 r50.2 hF h
            · skip
              exact B56 r50.2 hF h
  exact B15 n ((μ.1 v1 1) * (μ.1 1 1)) (0 : Int32) μ hF h
set_option maxRecDepth 100000 in
set_option maxHeartbeats 4000000 in
theorem fr_X8_scoreOf (n : Nat) (v1 : Nat) (μ : Mu) (r : Int32 × Mu) (h : X8_scoreOf n v1 μ = some r) : Fr (S_X8_scoreOf v1) μ r.2 := by
  rw [X8_scoreOf] at h
  obtain ⟨hk1, h⟩ := kd_some h
  have hF : Fr (S_X8_scoreOf v1) μ μ := Fr.rf
  obtain ⟨μ0, hμ0⟩ : ∃ z, z = μ := ⟨_, rfl⟩
  rw [← hμ0]
  have hF : Fr (S_X8_scoreOf v1) μ0 μ := by rw [hμ0]; exact hF
  obtain ⟨r18, hr18, h⟩ := bnd h
  have hF := hF.tr (fr_X8_isOver n v1 μ r18 hr18) (fun o k hS => (subL_of (L1 := [(6, 6, 0), (6, 6, 1), (6, 6, 2), (6, 6, 3), (57, 68, 1), (57, 68, 9999)]) (by decide +kernel) hS))
  split at h
  rotate_left
  · skip
    obtain ⟨r36, hr36, h⟩ := bnd h
    have hF := hF.tr (fr_X6_inRow n v1 (0 : Int32) (r18.2.1 1 1) r18.2 r36 hr36) (fun o k hS => (subL_of (L1 := []) (by decide +kernel) hS))
    obtain ⟨r49, hr49, h⟩ := bnd h
    have hF := hF.tr (fr_X6_inRow n v1 (1 : Int32) (r36.2.1 1 1) r36.2 r49 hr49) (fun o k hS => (subL_of (L1 := []) (by decide +kernel) hS))
    rw [← Option.some.inj h]; exact hF
  · skip
    rw [← Option.some.inj h]; exact hF
set_option maxRecDepth 100000 in
set_option maxHeartbeats 4000000 in
theorem fr_X10_go (n : Nat) (v1 : Int32) (μ : Mu) (r : Unit × Mu) (h : X10_go n v1 μ = some r) : Fr (S_X10_go v1) μ r.2 := by
  rw [X10_go] at h
  have hF : Fr (S_X10_go v1) μ μ := Fr.rf
  obtain ⟨μ0, hμ0⟩ : ∃ z, z = μ := ⟨_, rfl⟩
  rw [← hμ0]
  have hF : Fr (S_X10_go v1) μ0 μ := by rw [hμ0]; exact hF
  obtain ⟨r9, hr9, h⟩ := bnd h
  have hF := hF.tr (fr_X8_sow n 153 v1 μ r9 hr9) (fun o k hS => by
  unfold S_X8_sow at hS
  rcases hS with hS | hS | hS
  · exact (subL_of (by decide +kernel) hS)
  · exact inL_mk 153 153 1 (by decide) (by omega) (by omega) (by omega)
  · exact inL_mk 154 154 9999 (by decide) (by omega) (by omega) (by omega))
  obtain ⟨hi22, h⟩ := gd_some h
  have hjhi22 := vin_lt hi22 rfl
  have hF := hF.si (o := 23) (k := (r9.2.1 22 2).toNatClampNeg) (v := v1) (by unfold S_X10_go; exact inL_mk 23 23 9999 (by decide) (by omega) (by omega) (by omega))
  have hF := hF.si (o := 22) (k := 2) (v := (((si r9.2 23 (r9.2.1 22 2).toNatClampNeg v1).1 22 2) + (1 : Int32))) (by unfold S_X10_go; exact inL_mk 22 22 2 (by decide) (by omega) (by omega) (by omega))
  rw [← Option.some.inj h]; exact hF
set_option maxRecDepth 100000 in
set_option maxHeartbeats 4000000 in
theorem fr_X10_pick (n : Nat) (v0 : Int32) (v1 : Int32) (μ : Mu) (r : Int32 × Mu) (h : X10_pick n v0 v1 μ = some r) : Fr (S_X10_pick v0 v1) μ r.2 := by
  rw [X10_pick] at h
  have hF : Fr (S_X10_pick v0 v1) μ μ := Fr.rf
  obtain ⟨μ0, hμ0⟩ : ∃ z, z = μ := ⟨_, rfl⟩
  rw [← hμ0]
  have hF : Fr (S_X10_pick v0 v1) μ0 μ := by rw [hμ0]; exact hF
  have B20 : ∀ (k : Nat), ∀ (v3 : Int32) (v4 : Int32) (μ : Mu), Fr (S_X10_pick v0 v1) μ0 μ → lpF (fun _ _ _ => none) (X10_pick_20b n v0 v1) k v3 v4 μ = some r → Fr (S_X10_pick v0 v1) μ0 r.2 := by
    intro k
    induction k with
    | zero =>
      intro v3 v4 μ hF h
      cases h
    | succ k ih20 =>
      rw [lpF_s]
      generalize lpF (fun _ _ _ => none) (X10_pick_20b n v0 v1) k = k20 at ih20 ⊢
      intro v3 v4 μ hF h
      have B46 : ∀ (v3 : Int32) (v4 : Int32) (μ : Mu), Fr (S_X10_pick v0 v1) μ0 μ → X10_pick_46 n v0 v1 k20 v3 v4 μ = some r → Fr (S_X10_pick v0 v1) μ0 r.2 := by
        intro v3 v4 μ hF h
        rw [X10_pick_46] at h
        exact ih20 v3 (v4 + (1 : Int32)) μ hF h
      rw [X10_pick_20b] at h
      split at h
      · skip
        rw [← Option.some.inj h]; exact hF
      · skip
        obtain ⟨r30, hr30, h⟩ := bnd h
        have hF := hF.tr (fr_X11_has n v0 v4 μ r30 hr30) (fun o k hS => (subL_of (L1 := []) (by decide +kernel) hS))
        split at h
        · skip
          exact B46 v3 v4 r30.2 hF h
        · skip
          split at h
          rotate_left
          · skip
            exact B46 (v3 + ((-1) : Int32)) v4 r30.2 hF h
          · skip
            rw [← Option.some.inj h]; exact hF
  have B16 : ∀ (s0 : Int32) (μ : Mu), Fr (S_X10_pick v0 v1) μ0 μ → X10_pick_16 n v0 v1 s0 μ = some r → Fr (S_X10_pick v0 v1) μ0 r.2 := by
    intro s0 μ hF h
    rw [X10_pick_16] at h
    exact B20 n s0 (0 : Int32) μ hF h
  obtain ⟨r1, hr1, h⟩ := bnd h
  have hF := hF.tr (fr_J6_bitCount_0f7a4 n v0 μ r1 hr1) (fun o k hS => (subL_of (L1 := []) (by decide +kernel) hS))
  split at h
  rotate_left
  · skip
    obtain ⟨hd15, h⟩ := dv_some h
    exact B16 (v1 - v1 / r1.1 * r1.1) r1.2 hF h
  · skip
    exact B16 (0 : Int32) r1.2 hF h
set_option maxRecDepth 100000 in
set_option maxHeartbeats 4000000 in
theorem fr_X11_pit (n : Nat) (v1 : Int32) (μ : Mu) (r : (Int32 ⊕ Nat) × Mu) (h : X11_pit n v1 μ = some r) : Fr (S_X11_pit v1) μ r.2 := by
  rw [X11_pit] at h
  have hF : Fr (S_X11_pit v1) μ μ := Fr.rf
  obtain ⟨μ0, hμ0⟩ : ∃ z, z = μ := ⟨_, rfl⟩
  rw [← hμ0]
  have hF : Fr (S_X11_pit v1) μ0 μ := by rw [hμ0]; exact hF
  have B17 : ∀ (μ : Mu), Fr (S_X11_pit v1) μ0 μ → X11_pit_17 n v1  μ = some r → Fr (S_X11_pit v1) μ0 r.2 := by
    intro μ hF h
    rw [X11_pit_17] at h
    rw [← Option.some.inj h]; exact hF
  split at h
  · skip
    exact B17 μ hF h
  · skip
    split at h
    · skip
      obtain ⟨r33, hr33, h⟩ := bnd h
      have hF := hF.tr (fr_X11_seedsOrLacking n 53 v1 μ r33 hr33) (fun o k hS => (subL_of (L1 := []) (by decide +kernel) hS))
      rw [← Option.some.inj h]; exact hF
    · skip
      exact B17 μ hF h
set_option maxRecDepth 100000 in
set_option maxHeartbeats 4000000 in
theorem fr_X11_store (n : Nat) (v1 : Int32) (μ : Mu) (r : (Int32 ⊕ Nat) × Mu) (h : X11_store n v1 μ = some r) : Fr (S_X11_store v1) μ r.2 := by
  rw [X11_store] at h
  have hF : Fr (S_X11_store v1) μ μ := Fr.rf
  obtain ⟨μ0, hμ0⟩ : ∃ z, z = μ := ⟨_, rfl⟩
  rw [← hμ0]
  have hF : Fr (S_X11_store v1) μ0 μ := by rw [hμ0]; exact hF
  rcases thr_cs h with ⟨kq, m1, hr1, h⟩ | ⟨r1, m1, hr1, h⟩
  · rw [← Option.some.inj h]; exact hF.tr (fr_X11_needSide n v1 μ _ hr1) (fun o k hS => (subL_of (L1 := []) (by decide +kernel) hS))
  have hF := hF.tr (fr_X11_needSide n v1 μ _ hr1) (fun o k hS => (subL_of (L1 := []) (by decide +kernel) hS))
  obtain ⟨hi15, h⟩ := gd_some h
  have hjhi15 := vin_lt hi15 rfl
  rw [← Option.some.inj h]; exact hF
set_option maxRecDepth 100000 in
set_option maxHeartbeats 4000000 in
theorem fr_X11_sown (n : Nat) (v1 : Int32) (v2 : Int32) (μ : Mu) (r : (Int32 ⊕ Nat) × Mu) (h : X11_sown n v1 v2 μ = some r) : Fr (S_X11_sown v1 v2) μ r.2 := by
  rw [X11_sown] at h
  have hF : Fr (S_X11_sown v1 v2) μ μ := Fr.rf
  obtain ⟨μ0, hμ0⟩ : ∃ z, z = μ := ⟨_, rfl⟩
  rw [← hμ0]
  have hF : Fr (S_X11_sown v1 v2) μ0 μ := by rw [hμ0]; exact hF
  have B28 : ∀ (μ : Mu), Fr (S_X11_sown v1 v2) μ0 μ → X11_sown_28 n v1 v2  μ = some r → Fr (S_X11_sown v1 v2) μ0 r.2 := by
    intro μ hF h
    rw [X11_sown_28] at h
    rw [← Option.some.inj h]; exact hF
  have B127 : ∀ (s0 : Int32) (μ : Mu), Fr (S_X11_sown v1 v2) μ0 μ → X11_sown_127 n v1 v2 s0 μ = some r → Fr (S_X11_sown v1 v2) μ0 r.2 := by
    intro s0 μ hF h
    rw [X11_sown_127] at h
    rw [← Option.some.inj h]; exact hF
  obtain ⟨r10, hr10, h⟩ := bnd h
  have hF := hF.tr (fr_X8_isOwn n 53 (v1.toInt64) μ r10 hr10) (fun o k hS => (subL_of (L1 := []) (by decide +kernel) hS))
  split at h
  · skip
    exact B28 r10.2 hF h
  · skip
    obtain ⟨hi24, h⟩ := gd_some h
    have hjhi24 := vin_lt hi24 rfl
    split at h
    rotate_left
    · skip
      obtain ⟨r46, hr46, h⟩ := bnd h
      have hF := hF.tr (fr_X6_copy n 55 53 r10.2 r46 hr46) (fun o k hS => by
      unfold S_X6_copy at hS
      rcases hS with hS | hS | hS
      · exact (subL_of (by decide +kernel) hS)
      · exact inL_mk 55 55 1 (by decide) (by omega) (by omega) (by omega)
      · exact inL_mk 56 56 9999 (by decide) (by omega) (by omega) (by omega))
      obtain ⟨r58, hr58, h⟩ := bnd h
      have hF := hF.tr (fr_X8_sow n 55 v1 r46.2 r58 hr58) (fun o k hS => by
      unfold S_X8_sow at hS
      rcases hS with hS | hS | hS
      · exact (subL_of (by decide +kernel) hS)
      · exact inL_mk 55 55 1 (by decide) (by omega) (by omega) (by omega)
      · exact inL_mk 56 56 9999 (by decide) (by omega) (by omega) (by omega))
      split at h
      rotate_left
      · skip
        by_cases hs75_0 : v2 = (0 : Int32)
        · rw [if_pos hs75_0] at h
          split at h
          · skip
            exact B127 ((-1) : Int32) r58.2 hF h
          · skip
            exact B127 (r58.2.1 6 0) r58.2 hF h
        rw [if_neg hs75_0] at h
        by_cases hs75_1 : v2 = (1 : Int32)
        · rw [if_pos hs75_1] at h
          rw [← Option.some.inj h]; exact hF
        rw [if_neg hs75_1] at h
        by_cases hs75_2 : v2 = (2 : Int32)
        · rw [if_pos hs75_2] at h
          rw [← Option.some.inj h]; exact hF
        rw [if_neg hs75_2] at h
        by_cases hs75_3 : v2 = (3 : Int32)
        · rw [if_pos hs75_3] at h
          rw [← Option.some.inj h]; exact hF
        rw [if_neg hs75_3] at h
        rw [← Option.some.inj h]; exact hF
      · skip
        rw [← Option.some.inj h]; exact hF
    · skip
      exact B28 r10.2 hF h
set_option maxRecDepth 100000 in
set_option maxHeartbeats 4000000 in
theorem fr_X11_undo (n : Nat) (μ : Mu) (r : Int32 × Mu) (h : X11_undo n  μ = some r) : Fr S_X11_undo μ r.2 := by
  rw [X11_undo] at h
  have hF : Fr S_X11_undo μ μ := Fr.rf
  obtain ⟨μ0, hμ0⟩ : ∃ z, z = μ := ⟨_, rfl⟩
  rw [← hμ0]
  have hF : Fr S_X11_undo μ0 μ := by rw [hμ0]; exact hF
  split at h
  rotate_left
  · skip
    obtain ⟨r20, hr20, h⟩ := bnd h
    have hF := hF.tr (fr_X3_back n 53 μ r20 hr20) (fun o k hS => by
    unfold S_X3_back at hS
    rcases hS with hS | hS | hS
    · exact (subL_of (by decide +kernel) hS)
    · exact inL_mk 53 53 1 (by decide) (by omega) (by omega) (by omega)
    · exact inL_mk 54 54 9999 (by decide) (by omega) (by omega) (by omega))
    rw [← Option.some.inj h]; exact hF
  · skip
    rw [← Option.some.inj h]; exact hF
set_option maxRecDepth 100000 in
set_option maxHeartbeats 4000000 in
theorem fr_X11_redo (n : Nat) (μ : Mu) (r : Int32 × Mu) (h : X11_redo n  μ = some r) : Fr S_X11_redo μ r.2 := by
  rw [X11_redo] at h
  have hF : Fr S_X11_redo μ μ := Fr.rf
  obtain ⟨μ0, hμ0⟩ : ∃ z, z = μ := ⟨_, rfl⟩
  rw [← hμ0]
  have hF : Fr S_X11_redo μ0 μ := by rw [hμ0]; exact hF
  split at h
  rotate_left
  · skip
    obtain ⟨r24, hr24, h⟩ := bnd h
    have hF := hF.tr (fr_X3_again n μ r24 hr24) (fun o k hS => (subL_of (L1 := [(9, 9, 0), (9, 9, 1)]) (by decide +kernel) hS))
    obtain ⟨r27, hr27, h⟩ := bnd h
    have hF := hF.tr (fr_X8_sow n 53 r24.1 r24.2 r27 hr27) (fun o k hS => by
    unfold S_X8_sow at hS
    rcases hS with hS | hS | hS
    · exact (subL_of (by decide +kernel) hS)
    · exact inL_mk 53 53 1 (by decide) (by omega) (by omega) (by omega)
    · exact inL_mk 54 54 9999 (by decide) (by omega) (by omega) (by omega))
    rw [← Option.some.inj h]; exact hF
  · skip
    rw [← Option.some.inj h]; exact hF
set_option maxRecDepth 100000 in
set_option maxHeartbeats 4000000 in
theorem fr_X11_over (n : Nat) (μ : Mu) (r : Int32 × Mu) (h : X11_over n  μ = some r) : Fr S_X11_over μ r.2 := by
  rw [X11_over] at h
  have hF : Fr S_X11_over μ μ := Fr.rf
  obtain ⟨μ0, hμ0⟩ : ∃ z, z = μ := ⟨_, rfl⟩
  rw [← hμ0]
  have hF : Fr S_X11_over μ0 μ := by rw [hμ0]; exact hF
  obtain ⟨r8, hr8, h⟩ := bnd h
  have hF := hF.tr (fr_X8_isOver n 53 μ r8 hr8) (fun o k hS => (subL_of (L1 := [(6, 6, 0), (6, 6, 1), (6, 6, 2), (6, 6, 3), (57, 68, 1), (57, 68, 9999)]) (by decide +kernel) hS))
  obtain ⟨hz11, h⟩ := bz_some h
  rw [← Option.some.inj h]; exact hF
set_option maxRecDepth 100000 in
set_option maxHeartbeats 4000000 in
theorem fr_X11_score (n : Nat) (μ : Mu) (r : Int32 × Mu) (h : X11_score n  μ = some r) : Fr S_X11_score μ r.2 := by
  rw [X11_score] at h
  have hF : Fr S_X11_score μ μ := Fr.rf
  obtain ⟨μ0, hμ0⟩ : ∃ z, z = μ := ⟨_, rfl⟩
  rw [← hμ0]
  have hF : Fr S_X11_score μ0 μ := by rw [hμ0]; exact hF
  obtain ⟨r8, hr8, h⟩ := bnd h
  have hF := hF.tr (fr_X8_scoreOf n 53 μ r8 hr8) (fun o k hS => (subL_of (L1 := [(6, 6, 0), (6, 6, 1), (6, 6, 2), (6, 6, 3), (57, 68, 1), (57, 68, 9999)]) (by decide +kernel) hS))
  rw [← Option.some.inj h]; exact hF
set_option maxRecDepth 100000 in
set_option maxHeartbeats 4000000 in
theorem fr_X11_positions (n : Nat) (v1 : Int32) (v2 : Int32) (μ : Mu) (r : (Int32 ⊕ Nat) × Mu) (h : X11_positions n v1 v2 μ = some r) : Fr (S_X11_positions v1 v2) μ r.2 := by
  rw [X11_positions] at h
  have hF : Fr (S_X11_positions v1 v2) μ μ := Fr.rf
  obtain ⟨μ0, hμ0⟩ : ∃ z, z = μ := ⟨_, rfl⟩
  rw [← hμ0]
  have hF : Fr (S_X11_positions v1 v2) μ0 μ := by rw [hμ0]; exact hF
  have B31 : ∀ (s0 : Int32) (μ : Mu), Fr (S_X11_positions v1 v2) μ0 μ → X11_positions_31 n v1 v2 s0 μ = some r → Fr (S_X11_positions v1 v2) μ0 r.2 := by
    intro s0 μ hF h
    rw [X11_positions_31] at h
    rw [← Option.some.inj h]; exact hF
  rcases thr_cs h with ⟨kq, m1, hr1, h⟩ | ⟨r1, m1, hr1, h⟩
  · rw [← Option.some.inj h]; exact hF.tr (fr_X11_needSide n v1 μ _ hr1) (fun o k hS => (subL_of (L1 := []) (by decide +kernel) hS))
  have hF := hF.tr (fr_X11_needSide n v1 μ _ hr1) (fun o k hS => (subL_of (L1 := []) (by decide +kernel) hS))
  rcases thr_cs h with ⟨kq, m5, hr5, h⟩ | ⟨r5, m5, hr5, h⟩
  · rw [← Option.some.inj h]; exact hF.tr (fr_X11_needSeeds n v2 m1 _ hr5) (fun o k hS => (subL_of (L1 := []) (by decide +kernel) hS))
  have hF := hF.tr (fr_X11_needSeeds n v2 m1 _ hr5) (fun o k hS => (subL_of (L1 := []) (by decide +kernel) hS))
  obtain ⟨r13, hr13, h⟩ := bnd h
  have hF := hF.tr (fr_X1_positionsOf n v2 m5 r13 hr13) (fun o k hS => (subL_of (L1 := []) (by decide +kernel) hS))
  split at h
  · skip
    exact B31 r13.1 r13.2 hF h
  · skip
    exact B31 ((-1000) : Int32) r13.2 hF h
set_option maxRecDepth 100000 in
set_option maxHeartbeats 4000000 in
theorem fr_X11_ofPlace (n : Nat) (v1 : Int32) (v2 : Int32) (v3 : Int32) (v4 : Int32) (μ : Mu) (r : (Int32 ⊕ Nat) × Mu) (h : X11_ofPlace n v1 v2 v3 v4 μ = some r) : Fr (S_X11_ofPlace v1 v2 v3 v4) μ r.2 := by
  rw [X11_ofPlace] at h
  have hF : Fr (S_X11_ofPlace v1 v2 v3 v4) μ μ := Fr.rf
  obtain ⟨μ0, hμ0⟩ : ∃ z, z = μ := ⟨_, rfl⟩
  rw [← hμ0]
  have hF : Fr (S_X11_ofPlace v1 v2 v3 v4) μ0 μ := by rw [hμ0]; exact hF
  have B61 : ∀ (μ : Mu), Fr (S_X11_ofPlace v1 v2 v3 v4) μ0 μ → X11_ofPlace_61 n v1 v2 v3 v4  μ = some r → Fr (S_X11_ofPlace v1 v2 v3 v4) μ0 r.2 := by
    intro μ hF h
    rw [X11_ofPlace_61] at h
    rw [← Option.some.inj h]; exact hF
  rcases thr_cs h with ⟨kq, m1, hr1, h⟩ | ⟨r1, m1, hr1, h⟩
  · rw [← Option.some.inj h]; exact hF.tr (fr_X11_needSide n v1 μ _ hr1) (fun o k hS => (subL_of (L1 := []) (by decide +kernel) hS))
  have hF := hF.tr (fr_X11_needSide n v1 μ _ hr1) (fun o k hS => (subL_of (L1 := []) (by decide +kernel) hS))
  rcases thr_cs h with ⟨kq, m5, hr5, h⟩ | ⟨r5, m5, hr5, h⟩
  · rw [← Option.some.inj h]; exact hF.tr (fr_X11_needSeeds n v2 m1 _ hr5) (fun o k hS => (subL_of (L1 := []) (by decide +kernel) hS))
  have hF := hF.tr (fr_X11_needSeeds n v2 m1 _ hr5) (fun o k hS => (subL_of (L1 := []) (by decide +kernel) hS))
  obtain ⟨r13, hr13, h⟩ := bnd h
  have hF := hF.tr (fr_X1_positionsOf n v2 m5 r13 hr13) (fun o k hS => (subL_of (L1 := []) (by decide +kernel) hS))
  split at h
  · skip
    rcases thr_cs h with ⟨kq, m39, hr39, h⟩ | ⟨r39, m39, hr39, h⟩
    · rw [← Option.some.inj h]; exact hF.tr (fr_X11_needPosition n v3 r13.1 r13.2 _ hr39) (fun o k hS => (subL_of (L1 := []) (by decide +kernel) hS))
    have hF := hF.tr (fr_X11_needPosition n v3 r13.1 r13.2 _ hr39) (fun o k hS => (subL_of (L1 := []) (by decide +kernel) hS))
    split at h
    · skip
      exact B61 m39 hF h
    · skip
      split at h
      · skip
        obtain ⟨r82, hr82, h⟩ := bnd h
        have hF := hF.tr (fr_X1_lay n 55 v1 v2 v3 m39 r82 hr82) (fun o k hS => by
        unfold S_X1_lay at hS
        rcases hS with hS | hS | hS
        · exact (subL_of (by decide +kernel) hS)
        · exact inL_mk 55 55 1 (by decide) (by omega) (by omega) (by omega)
        · exact inL_mk 56 56 9999 (by decide) (by omega) (by omega) (by omega))
        obtain ⟨r97, hr97, h⟩ := bnd h
        have hF := hF.tr (fr_X1_pitAsSeen n v1 v4 r82.2 r97 hr97) (fun o k hS => (subL_of (L1 := []) (by decide +kernel) hS))
        obtain ⟨r100, hr100, h⟩ := bnd h
        have hF := hF.tr (fr_X11_seedsOrLacking n 55 r97.1 r97.2 r100 hr100) (fun o k hS => (subL_of (L1 := []) (by decide +kernel) hS))
        rw [← Option.some.inj h]; exact hF
      · skip
        exact B61 m39 hF h
  · skip
    rw [← Option.some.inj h]; exact hF
set_option maxRecDepth 100000 in
set_option maxHeartbeats 4000000 in
theorem fr_X11_tray (n : Nat) (v1 : Int32) (v2 : Int32) (v3 : Int32) (μ : Mu) (r : (Unit ⊕ Nat) × Mu) (h : X11_tray n v1 v2 v3 μ = some r) : Fr (S_X11_tray v1 v2 v3) μ r.2 := by
  rw [X11_tray] at h
  have hF : Fr (S_X11_tray v1 v2 v3) μ μ := Fr.rf
  obtain ⟨μ0, hμ0⟩ : ∃ z, z = μ := ⟨_, rfl⟩
  rw [← hμ0]
  have hF : Fr (S_X11_tray v1 v2 v3) μ0 μ := by rw [hμ0]; exact hF
  have B26 : ∀ (μ : Mu), Fr (S_X11_tray v1 v2 v3) μ0 μ → X11_tray_26 n v1 v2 v3  μ = some r → Fr (S_X11_tray v1 v2 v3) μ0 r.2 := by
    intro μ hF h
    rw [X11_tray_26] at h
    rw [← Option.some.inj h]; exact hF
  rcases thr_cs h with ⟨kq, m2, hr2, h⟩ | ⟨r2, m2, hr2, h⟩
  · rw [← Option.some.inj h]; exact hF.tr (fr_X11_anyTray n v1 μ _ hr2) (fun o k hS => (subL_of (L1 := []) (by decide +kernel) hS))
  have hF := hF.tr (fr_X11_anyTray n v1 μ _ hr2) (fun o k hS => (subL_of (L1 := []) (by decide +kernel) hS))
  obtain ⟨hkr2, h⟩ := kd_some h
  have hjhkr2 := kdI hkr2
  split at h
  · skip
    exact B26 m2 hF h
  · skip
    split at h
    · skip
      exact B26 m2 hF h
    · skip
      split at h
      · skip
        exact B26 m2 hF h
      · skip
        split at h
        · skip
          obtain ⟨r41, hr41, h⟩ := bnd h
          have hF := hF.tr (fr_X9_lay n r2 v2 v3 m2 r41 hr41) (fun o k hS => by
          unfold S_X9_lay at hS
          rcases hS with hS | hS | hS | hS
          · exact (subL_of (by decide +kernel) hS)
          · exact inL_mk 33 52 1 (by decide) (by omega) (by omega) (by omega)
          · exact inL_mk 33 52 2 (by decide) (by omega) (by omega) (by omega)
          · exact inL_mk 33 52 9999 (by decide) (by omega) (by omega) (by omega))
          rw [← Option.some.inj h]; exact hF
        · skip
          exact B26 m2 hF h
set_option maxRecDepth 100000 in
set_option maxHeartbeats 4000000 in
theorem fr_X11_write (n : Nat) (v1 : Int32) (v2 : Int32) (v3 : Int64) (μ : Mu) (r : (Int64 ⊕ Nat) × Mu) (h : X11_write n v1 v2 v3 μ = some r) : Fr (S_X11_write v1 v2 v3) μ r.2 := by
  rw [X11_write] at h
  have hF : Fr (S_X11_write v1 v2 v3) μ μ := Fr.rf
  obtain ⟨μ0, hμ0⟩ : ∃ z, z = μ := ⟨_, rfl⟩
  rw [← hμ0]
  have hF : Fr (S_X11_write v1 v2 v3) μ0 μ := by rw [hμ0]; exact hF
  have B20 : ∀ (μ : Mu), Fr (S_X11_write v1 v2 v3) μ0 μ → X11_write_20 n v1 v2 v3  μ = some r → Fr (S_X11_write v1 v2 v3) μ0 r.2 := by
    intro μ hF h
    rw [X11_write_20] at h
    rw [← Option.some.inj h]; exact hF
  rcases thr_cs h with ⟨kq, m2, hr2, h⟩ | ⟨r2, m2, hr2, h⟩
  · rw [← Option.some.inj h]; exact hF.tr (fr_X11_laidTray n v1 μ _ hr2) (fun o k hS => (subL_of (L1 := []) (by decide +kernel) hS))
  have hF := hF.tr (fr_X11_laidTray n v1 μ _ hr2) (fun o k hS => (subL_of (L1 := []) (by decide +kernel) hS))
  obtain ⟨hkr2, h⟩ := kd_some h
  have hjhkr2 := kdI hkr2
  split at h
  · skip
    exact B20 m2 hF h
  · skip
    split at h
    · skip
      obtain ⟨r40, hr40, h⟩ := bnd h
      have hF := hF.tr (fr_X9_cut n r2 v3 m2 r40 hr40) (fun o k hS => (subL_of (L1 := []) (by decide +kernel) hS))
      obtain ⟨hi43, h⟩ := gd_some h
      have hjhi43 := vin_lt hi43 rfl
      have hF := hF.sj (o := (r2 + 1)) (k := v2.toNatClampNeg) (v := r40.1) (by unfold S_X11_write; exact inL_mk 33 52 9999 (by decide) (by omega) (by omega) (by omega))
      rw [← Option.some.inj h]; exact hF
    · skip
      exact B20 m2 hF h
set_option maxRecDepth 100000 in
set_option maxHeartbeats 4000000 in
theorem fr_X11_pour (n : Nat) (v1 : Int32) (μ : Mu) (r : (Int32 ⊕ Nat) × Mu) (h : X11_pour n v1 μ = some r) : Fr (S_X11_pour v1) μ r.2 := by
  rw [X11_pour] at h
  have hF : Fr (S_X11_pour v1) μ μ := Fr.rf
  obtain ⟨μ0, hμ0⟩ : ∃ z, z = μ := ⟨_, rfl⟩
  rw [← hμ0]
  have hF : Fr (S_X11_pour v1) μ0 μ := by rw [hμ0]; exact hF
  have B24 : ∀ (k : Nat), ∀ (v2 : Nat) (v3 : Int32) (v4 : Int32) (μ : Mu), Fr (S_X11_pour v1) μ0 μ → lpF (fun _ _ _ _ => none) (X11_pour_24b n v1) k v2 v3 v4 μ = some r → Fr (S_X11_pour v1) μ0 r.2 := by
    intro k
    induction k with
    | zero =>
      intro v2 v3 v4 μ hF h
      cases h
    | succ k ih24 =>
      rw [lpF_s]
      generalize lpF (fun _ _ _ _ => none) (X11_pour_24b n v1) k = k24 at ih24 ⊢
      intro v2 v3 v4 μ hF h
      rw [X11_pour_24b] at h
      obtain ⟨hqv2_24, h⟩ := kd_some h
      have hjhqv2_24 := kdI hqv2_24
      split at h
      · skip
        rw [← Option.some.inj h]; exact hF
      · skip
        obtain ⟨r42, hr42, h⟩ := bnd h
        have hF := hF.tr (fr_X3_moveAt n v4 μ r42 hr42) (fun o k hS => (subL_of (L1 := []) (by decide +kernel) hS))
        obtain ⟨hi46, h⟩ := gd_some h
        have hjhi46 := vin_lt hi46 rfl
        have hF := hF.sj (o := (v2 + 1)) (k := v4.toNatClampNeg) (v := (r42.1.toInt64)) (by unfold S_X11_pour; exact inL_mk 0 170 9999 (by decide) (by omega) (by omega) (by omega))
        exact ih24 v2 v3 (v4 + (1 : Int32)) (sj r42.2 (v2 + 1) v4.toNatClampNeg (r42.1.toInt64)) hF h
  rcases thr_cs h with ⟨kq, m2, hr2, h⟩ | ⟨r2, m2, hr2, h⟩
  · rw [← Option.some.inj h]; exact hF.tr (fr_X11_laidTray n v1 μ _ hr2) (fun o k hS => (subL_of (L1 := []) (by decide +kernel) hS))
  have hF := hF.tr (fr_X11_laidTray n v1 μ _ hr2) (fun o k hS => (subL_of (L1 := []) (by decide +kernel) hS))
  obtain ⟨hkr2, h⟩ := kd_some h
  have hjhkr2 := kdI hkr2
  exact B24 n r2 (if (m2.1 r2 2) < (m2.1 9 0) then (m2.1 r2 2) else (m2.1 9 0)) (0 : Int32) m2 hF h
set_option maxRecDepth 100000 in
set_option maxHeartbeats 4000000 in
theorem fr_X11_image (n : Nat) (v1 : Int32) (μ : Mu) (r : (Unit ⊕ Nat) × Mu) (h : X11_image n v1 μ = some r) : Fr (S_X11_image v1) μ r.2 := by
  rw [X11_image] at h
  have hF : Fr (S_X11_image v1) μ μ := Fr.rf
  obtain ⟨μ0, hμ0⟩ : ∃ z, z = μ := ⟨_, rfl⟩
  rw [← hμ0]
  have hF : Fr (S_X11_image v1) μ0 μ := by rw [hμ0]; exact hF
  rcases thr_cs h with ⟨kq, m2, hr2, h⟩ | ⟨r2, m2, hr2, h⟩
  · rw [← Option.some.inj h]; exact hF.tr (fr_X11_anyImage n v1 μ _ hr2) (fun o k hS => (subL_of (L1 := []) (by decide +kernel) hS))
  have hF := hF.tr (fr_X11_anyImage n v1 μ _ hr2) (fun o k hS => (subL_of (L1 := []) (by decide +kernel) hS))
  obtain ⟨hkr2, h⟩ := kd_some h
  have hjhkr2 := kdI hkr2
  have hF := hF.si (o := r2) (k := 0) (v := (1 : Int32)) (by unfold S_X11_image; exact inL_mk 33 52 0 (by decide) (by omega) (by omega) (by omega))
  obtain ⟨r19, hr19, h⟩ := bnd h
  have hF := hF.tr (fr_X5_copy n (r2 + 1) 1 (si m2 r2 0 (1 : Int32)) r19 hr19) (fun o k hS => by
  unfold S_X5_copy at hS
  rcases hS with hS | hS | hS | hS | hS | hS | hS | hS | hS | hS
  · exact (subL_of (by decide +kernel) hS)
  · exact inL_mk 33 52 0 (by decide) (by omega) (by omega) (by omega)
  · exact inL_mk 33 52 1 (by decide) (by omega) (by omega) (by omega)
  · exact inL_mk 33 52 2 (by decide) (by omega) (by omega) (by omega)
  · exact inL_mk 33 52 3 (by decide) (by omega) (by omega) (by omega)
  · exact inL_mk 33 52 4 (by decide) (by omega) (by omega) (by omega)
  · exact inL_mk 33 52 5 (by decide) (by omega) (by omega) (by omega)
  · exact inL_mk 33 52 6 (by decide) (by omega) (by omega) (by omega)
  · exact inL_mk 33 52 7 (by decide) (by omega) (by omega) (by omega)
  · exact inL_mk 33 52 8 (by decide) (by omega) (by omega) (by omega))
  obtain ⟨r30, hr30, h⟩ := bnd h
  have hF := hF.tr (fr_X6_copy n (r2 + 2) 53 r19.2 r30 hr30) (fun o k hS => by
  unfold S_X6_copy at hS
  rcases hS with hS | hS | hS
  · exact (subL_of (by decide +kernel) hS)
  · exact inL_mk 33 52 1 (by decide) (by omega) (by omega) (by omega)
  · exact inL_mk 33 52 9999 (by decide) (by omega) (by omega) (by omega))
  rw [← Option.some.inj h]; exact hF
set_option maxRecDepth 100000 in
set_option maxHeartbeats 4000000 in
theorem fr_X11_count (n : Nat) (v1 : Int32) (μ : Mu) (r : Int32 × Mu) (h : X11_count n v1 μ = some r) : Fr (S_X11_count v1) μ r.2 := by
  rw [X11_count] at h
  have hF : Fr (S_X11_count v1) μ μ := Fr.rf
  obtain ⟨μ0, hμ0⟩ : ∃ z, z = μ := ⟨_, rfl⟩
  rw [← hμ0]
  have hF : Fr (S_X11_count v1) μ0 μ := by rw [hμ0]; exact hF
  by_cases hs1_0 : v1 = (0 : Int32)
  · rw [if_pos hs1_0] at h
    rw [← Option.some.inj h]; exact hF
  rw [if_neg hs1_0] at h
  by_cases hs1_1 : v1 = (1 : Int32)
  · rw [if_pos hs1_1] at h
    rw [← Option.some.inj h]; exact hF
  rw [if_neg hs1_1] at h
  by_cases hs1_2 : v1 = (2 : Int32)
  · rw [if_pos hs1_2] at h
    obtain ⟨r64, hr64, h⟩ := bnd h
    have hF := hF.tr (fr_X6_inPits n 53 μ r64 hr64) (fun o k hS => (subL_of (L1 := []) (by decide +kernel) hS))
    rw [← Option.some.inj h]; exact hF
  rw [if_neg hs1_2] at h
  by_cases hs1_3 : v1 = (3 : Int32)
  · rw [if_pos hs1_3] at h
    obtain ⟨r75, hr75, h⟩ := bnd h
    have hF := hF.tr (fr_J6_bitCount_0f7a4 n (μ.1 1 2) μ r75 hr75) (fun o k hS => (subL_of (L1 := []) (by decide +kernel) hS))
    rw [← Option.some.inj h]; exact hF
  rw [if_neg hs1_3] at h
  by_cases hs1_4 : v1 = (4 : Int32)
  · rw [if_pos hs1_4] at h
    rw [← Option.some.inj h]; exact hF
  rw [if_neg hs1_4] at h
  by_cases hs1_5 : v1 = (5 : Int32)
  · rw [if_pos hs1_5] at h
    rw [← Option.some.inj h]; exact hF
  rw [if_neg hs1_5] at h
  by_cases hs1_6 : v1 = (6 : Int32)
  · rw [if_pos hs1_6] at h
    rw [← Option.some.inj h]; exact hF
  rw [if_neg hs1_6] at h
  rw [← Option.some.inj h]; exact hF
set_option maxRecDepth 100000 in
set_option maxHeartbeats 4000000 in
theorem fr_X11_isNotable (n : Nat) (v1 : Int32) (v2 : Int32) (μ : Mu) (r : Int32 × Mu) (h : X11_isNotable n v1 v2 μ = some r) : Fr (S_X11_isNotable v1 v2) μ r.2 := by
  rw [X11_isNotable] at h
  have hF : Fr (S_X11_isNotable v1 v2) μ μ := Fr.rf
  obtain ⟨μ0, hμ0⟩ : ∃ z, z = μ := ⟨_, rfl⟩
  rw [← hμ0]
  have hF : Fr (S_X11_isNotable v1 v2) μ0 μ := by rw [hμ0]; exact hF
  have B69 : ∀ (s0 : Int32) (μ : Mu), Fr (S_X11_isNotable v1 v2) μ0 μ → X11_isNotable_69 n v1 v2 s0 μ = some r → Fr (S_X11_isNotable v1 v2) μ0 r.2 := by
    intro s0 μ hF h
    rw [X11_isNotable_69] at h
    obtain ⟨hz69, h⟩ := bz_some h
    rw [← Option.some.inj h]; exact hF
  have B85 : ∀ (s0 : Int32) (μ : Mu), Fr (S_X11_isNotable v1 v2) μ0 μ → X11_isNotable_85 n v1 v2 s0 μ = some r → Fr (S_X11_isNotable v1 v2) μ0 r.2 := by
    intro s0 μ hF h
    rw [X11_isNotable_85] at h
    obtain ⟨hz85, h⟩ := bz_some h
    rw [← Option.some.inj h]; exact hF
  have B117 : ∀ (s0 : Int32) (μ : Mu), Fr (S_X11_isNotable v1 v2) μ0 μ → X11_isNotable_117 n v1 v2 s0 μ = some r → Fr (S_X11_isNotable v1 v2) μ0 r.2 := by
    intro s0 μ hF h
    rw [X11_isNotable_117] at h
    obtain ⟨hz117, h⟩ := bz_some h
    rw [← Option.some.inj h]; exact hF
  obtain ⟨r8, hr8, h⟩ := bnd h
  have hF := hF.tr (fr_X6_copy n 55 53 μ r8 hr8) (fun o k hS => by
  unfold S_X6_copy at hS
  rcases hS with hS | hS | hS
  · exact (subL_of (by decide +kernel) hS)
  · exact inL_mk 55 55 1 (by decide) (by omega) (by omega) (by omega)
  · exact inL_mk 56 56 9999 (by decide) (by omega) (by omega) (by omega))
  obtain ⟨r20, hr20, h⟩ := bnd h
  have hF := hF.tr (fr_X8_sow n 55 v1 r8.2 r20 hr20) (fun o k hS => by
  unfold S_X8_sow at hS
  rcases hS with hS | hS | hS
  · exact (subL_of (by decide +kernel) hS)
  · exact inL_mk 55 55 1 (by decide) (by omega) (by omega) (by omega)
  · exact inL_mk 56 56 9999 (by decide) (by omega) (by omega) (by omega))
  by_cases hs25_0 : v2 = (0 : Int32)
  · rw [if_pos hs25_0] at h
    split at h
    · skip
      exact B69 (0 : Int32) r20.2 hF h
    · skip
      exact B69 (1 : Int32) r20.2 hF h
  rw [if_neg hs25_0] at h
  by_cases hs25_1 : v2 = (1 : Int32)
  · rw [if_pos hs25_1] at h
    split at h
    · skip
      exact B85 (0 : Int32) r20.2 hF h
    · skip
      exact B85 (1 : Int32) r20.2 hF h
  rw [if_neg hs25_1] at h
  obtain ⟨r106, hr106, h⟩ := bnd h
  have hF := hF.tr (fr_X6_inRow n 55 ((1 : Int32) - (r20.2.1 53 1)) (r20.2.1 1 1) r20.2 r106 hr106) (fun o k hS => (subL_of (L1 := []) (by decide +kernel) hS))
  split at h
  rotate_left
  · skip
    exact B117 (0 : Int32) r106.2 hF h
  · skip
    exact B117 (1 : Int32) r106.2 hF h
set_option maxRecDepth 100000 in
set_option maxHeartbeats 4000000 in
theorem fr_X11_toldOfPlay (n : Nat) (v1 : Int32) (μ : Mu) (r : Int32 × Mu) (h : X11_toldOfPlay n v1 μ = some r) : Fr (S_X11_toldOfPlay v1) μ r.2 := by
  rw [X11_toldOfPlay] at h
  have hF : Fr (S_X11_toldOfPlay v1) μ μ := Fr.rf
  obtain ⟨μ0, hμ0⟩ : ∃ z, z = μ := ⟨_, rfl⟩
  rw [← hμ0]
  have hF : Fr (S_X11_toldOfPlay v1) μ0 μ := by rw [hμ0]; exact hF
  have B73 : ∀ (s0 : Int32) (μ : Mu), Fr (S_X11_toldOfPlay v1) μ0 μ → X11_toldOfPlay_73 n v1 s0 μ = some r → Fr (S_X11_toldOfPlay v1) μ0 r.2 := by
    intro s0 μ hF h
    rw [X11_toldOfPlay_73] at h
    rw [← Option.some.inj h]; exact hF
  by_cases hs1_0 : v1 = (0 : Int32)
  · rw [if_pos hs1_0] at h
    obtain ⟨r39, hr39, h⟩ := bnd h
    have hF := hF.tr (fr_X8_scoreOf n 153 μ r39 hr39) (fun o k hS => (subL_of (L1 := [(6, 6, 0), (6, 6, 1), (6, 6, 2), (6, 6, 3), (57, 68, 1), (57, 68, 9999)]) (by decide +kernel) hS))
    rw [← Option.some.inj h]; exact hF
  rw [if_neg hs1_0] at h
  by_cases hs1_1 : v1 = (1 : Int32)
  · rw [if_pos hs1_1] at h
    rw [← Option.some.inj h]; exact hF
  rw [if_neg hs1_1] at h
  obtain ⟨r62, hr62, h⟩ := bnd h
  have hF := hF.tr (fr_X8_isOver n 153 μ r62 hr62) (fun o k hS => (subL_of (L1 := [(6, 6, 0), (6, 6, 1), (6, 6, 2), (6, 6, 3), (57, 68, 1), (57, 68, 9999)]) (by decide +kernel) hS))
  split at h
  · skip
    exact B73 (0 : Int32) r62.2 hF h
  · skip
    exact B73 (1 : Int32) r62.2 hF h
set_option maxRecDepth 100000 in
set_option maxHeartbeats 4000000 in
theorem fr_X12_readLine (n : Nat) (v1 : Int32) (μ : Mu) (r : Unit × Mu) (h : X12_readLine n v1 μ = some r) : Fr (S_X12_readLine v1) μ r.2 := by
  rw [X12_readLine] at h
  have hF : Fr (S_X12_readLine v1) μ μ := Fr.rf
  obtain ⟨μ0, hμ0⟩ : ∃ z, z = μ := ⟨_, rfl⟩
  rw [← hμ0]
  have hF : Fr (S_X12_readLine v1) μ0 μ := by rw [hμ0]; exact hF
  have B282 : ∀ (μ : Mu), Fr (S_X12_readLine v1) μ0 μ → X12_readLine_282 n v1  μ = some r → Fr (S_X12_readLine v1) μ0 r.2 := by
    intro μ hF h
    rw [X12_readLine_282] at h
    rw [← Option.some.inj h]; exact hF
  have B265 : ∀ (μ : Mu), Fr (S_X12_readLine v1) μ0 μ → X12_readLine_265 n v1  μ = some r → Fr (S_X12_readLine v1) μ0 r.2 := by
    intro μ hF h
    rw [X12_readLine_265] at h
    split at h
    rotate_left
    · skip
      exact B282 μ hF h
    · skip
      have hF := hF.si (o := 173) (k := 0) (v := ((μ.1 173 0) + (1 : Int32))) (by unfold S_X12_readLine; exact inL_mk 173 173 9999 (by decide) (by omega) (by omega) (by omega))
      exact B282 (si μ 173 0 ((μ.1 173 0) + (1 : Int32))) hF h
  have B254 : ∀ (μ : Mu), Fr (S_X12_readLine v1) μ0 μ → X12_readLine_254 n v1  μ = some r → Fr (S_X12_readLine v1) μ0 r.2 := by
    intro μ hF h
    rw [X12_readLine_254] at h
    split at h
    rotate_left
    · skip
      exact B265 μ hF h
    · skip
      obtain ⟨r262, hr262, h⟩ := bnd h
      have hF := hF.tr (fr_X12_reads n μ r262 hr262) (fun o k hS => (subL_of (L1 := [(171, 171, 9), (171, 171, 10), (171, 171, 11), (171, 171, 12)]) (by decide +kernel) hS))
      exact B265 r262.2 hF h
  have B241 : ∀ (μ : Mu), Fr (S_X12_readLine v1) μ0 μ → X12_readLine_241 n v1  μ = some r → Fr (S_X12_readLine v1) μ0 r.2 := by
    intro μ hF h
    rw [X12_readLine_241] at h
    split at h
    · skip
      exact B254 μ hF h
    · skip
      obtain ⟨r251, hr251, h⟩ := bnd h
      have hF := hF.tr (fr_X12_blames n (2 : Int32) μ r251 hr251) (fun o k hS => (subL_of (L1 := [(171, 171, 13), (171, 171, 14)]) (by decide +kernel) hS))
      exact B254 r251.2 hF h
  have B29 : ∀ (μ : Mu), Fr (S_X12_readLine v1) μ0 μ → X12_readLine_29 n v1  μ = some r → Fr (S_X12_readLine v1) μ0 r.2 := by
    intro μ hF h
    rw [X12_readLine_29] at h
    obtain ⟨r32, hr32, h⟩ := bnd h
    have hF := hF.tr (fr_X12_took n 1033 μ r32 hr32) (fun o k hS => (subL_of (L1 := [(171, 171, 9), (171, 171, 10), (171, 171, 11), (171, 171, 12)]) (by decide +kernel) hS))
    split at h
    · skip
      obtain ⟨r48, hr48, h⟩ := bnd h
      have hF := hF.tr (fr_X12_took n 1034 r32.2 r48 hr48) (fun o k hS => (subL_of (L1 := [(171, 171, 9), (171, 171, 10), (171, 171, 11), (171, 171, 12)]) (by decide +kernel) hS))
      split at h
      · skip
        obtain ⟨r64, hr64, h⟩ := bnd h
        have hF := hF.tr (fr_X12_took n 1035 r48.2 r64 hr64) (fun o k hS => (subL_of (L1 := [(171, 171, 9), (171, 171, 10), (171, 171, 11), (171, 171, 12)]) (by decide +kernel) hS))
        split at h
        · skip
          obtain ⟨r95, hr95, h⟩ := bnd h
          have hF := hF.tr (fr_X12_took n 1036 r64.2 r95 hr95) (fun o k hS => (subL_of (L1 := [(171, 171, 9), (171, 171, 10), (171, 171, 11), (171, 171, 12)]) (by decide +kernel) hS))
          split at h
          · skip
            obtain ⟨r119, hr119, h⟩ := bnd h
            have hF := hF.tr (fr_X12_took n 1037 r95.2 r119 hr119) (fun o k hS => (subL_of (L1 := [(171, 171, 9), (171, 171, 10), (171, 171, 11), (171, 171, 12)]) (by decide +kernel) hS))
            split at h
            · skip
              obtain ⟨r138, hr138, h⟩ := bnd h
              have hF := hF.tr (fr_X12_took n 1038 r119.2 r138 hr138) (fun o k hS => (subL_of (L1 := [(171, 171, 9), (171, 171, 10), (171, 171, 11), (171, 171, 12)]) (by decide +kernel) hS))
              split at h
              · skip
                obtain ⟨r157, hr157, h⟩ := bnd h
                have hF := hF.tr (fr_X12_took n 1039 r138.2 r157 hr157) (fun o k hS => (subL_of (L1 := [(171, 171, 9), (171, 171, 10), (171, 171, 11), (171, 171, 12)]) (by decide +kernel) hS))
                split at h
                · skip
                  obtain ⟨r183, hr183, h⟩ := bnd h
                  have hF := hF.tr (fr_X12_took n 1040 r157.2 r183 hr183) (fun o k hS => (subL_of (L1 := [(171, 171, 9), (171, 171, 10), (171, 171, 11), (171, 171, 12)]) (by decide +kernel) hS))
                  split at h
                  · skip
                    obtain ⟨r199, hr199, h⟩ := bnd h
                    have hF := hF.tr (fr_X12_took n 1045 r183.2 r199 hr199) (fun o k hS => (subL_of (L1 := [(171, 171, 9), (171, 171, 10), (171, 171, 11), (171, 171, 12)]) (by decide +kernel) hS))
                    split at h
                    · skip
                      obtain ⟨r219, hr219, h⟩ := bnd h
                      have hF := hF.tr (fr_X12_took n 1046 r199.2 r219 hr219) (fun o k hS => (subL_of (L1 := [(171, 171, 9), (171, 171, 10), (171, 171, 11), (171, 171, 12)]) (by decide +kernel) hS))
                      split at h
                      · skip
                        obtain ⟨r238, hr238, h⟩ := bnd h
                        have hF := hF.tr (fr_X12_blames n (2 : Int32) r219.2 r238 hr238) (fun o k hS => (subL_of (L1 := [(171, 171, 13), (171, 171, 14)]) (by decide +kernel) hS))
                        exact B241 r238.2 hF h
                      · skip
                        have hF := hF.si (o := 173) (k := 10) (v := (1 : Int32)) (by unfold S_X12_readLine; exact inL_mk 173 173 9999 (by decide) (by omega) (by omega) (by omega))
                        exact B241 (si r219.2 173 10 (1 : Int32)) hF h
                    · skip
                      have hF := hF.si (o := 173) (k := 9) (v := (1 : Int32)) (by unfold S_X12_readLine; exact inL_mk 173 173 9999 (by decide) (by omega) (by omega) (by omega))
                      exact B241 (si r199.2 173 9 (1 : Int32)) hF h
                  · skip
                    obtain ⟨r190, hr190, h⟩ := bnd h
                    have hF := hF.tr (fr_X12_readTake n r183.2 r190 hr190) (fun o k hS => (subL_of (L1 := [(171, 171, 9), (171, 171, 10), (171, 171, 11), (171, 171, 12), (171, 171, 13), (171, 171, 14), (173, 173, 9999)]) (by decide +kernel) hS))
                    exact B241 r190.2 hF h
                · skip
                  obtain ⟨r173, hr173, h⟩ := bnd h
                  have hF := hF.tr (fr_X12_number n (1 : Int32) (20 : Int32) r157.2 r173 hr173) (fun o k hS => (subL_of (L1 := [(171, 171, 9), (171, 171, 10), (171, 171, 11), (171, 171, 12), (171, 171, 13), (171, 171, 14)]) (by decide +kernel) hS))
                  have hF := hF.si (o := 173) (k := 6) (v := r173.1) (by unfold S_X12_readLine; exact inL_mk 173 173 9999 (by decide) (by omega) (by omega) (by omega))
                  exact B241 (si r173.2 173 6 r173.1) hF h
              · skip
                have hF := hF.si (o := 173) (k := 5) (v := (1 : Int32)) (by unfold S_X12_readLine; exact inL_mk 173 173 9999 (by decide) (by omega) (by omega) (by omega))
                exact B241 (si r138.2 173 5 (1 : Int32)) hF h
            · skip
              have hF := hF.si (o := 173) (k := 4) (v := (1 : Int32)) (by unfold S_X12_readLine; exact inL_mk 173 173 9999 (by decide) (by omega) (by omega) (by omega))
              exact B241 (si r119.2 173 4 (1 : Int32)) hF h
          · skip
            obtain ⟨r109, hr109, h⟩ := bnd h
            have hF := hF.tr (fr_X12_number n (0 : Int32) (1 : Int32) r95.2 r109 hr109) (fun o k hS => (subL_of (L1 := [(171, 171, 9), (171, 171, 10), (171, 171, 11), (171, 171, 12), (171, 171, 13), (171, 171, 14)]) (by decide +kernel) hS))
            have hF := hF.si (o := 173) (k := 2) (v := r109.1) (by unfold S_X12_readLine; exact inL_mk 173 173 9999 (by decide) (by omega) (by omega) (by omega))
            exact B241 (si r109.2 173 2 r109.1) hF h
        · skip
          obtain ⟨r83, hr83, h⟩ := bnd h
          have hF := hF.tr (fr_X12_number n (0 : Int32) (((2 : Int32) * (r64.2.1 173 1)) - (1 : Int32)) r64.2 r83 hr83) (fun o k hS => (subL_of (L1 := [(171, 171, 9), (171, 171, 10), (171, 171, 11), (171, 171, 12), (171, 171, 13), (171, 171, 14)]) (by decide +kernel) hS))
          obtain ⟨r86, hr86, h⟩ := bnd h
          have hF := hF.tr (fr_X12_lacks n r83.1 r83.2 r86 hr86) (fun o k hS => (subL_of (L1 := [(173, 173, 9999)]) (by decide +kernel) hS))
          exact B241 r86.2 hF h
      · skip
        obtain ⟨r55, hr55, h⟩ := bnd h
        have hF := hF.tr (fr_X12_readStored n r48.2 r55 hr55) (fun o k hS => (subL_of (L1 := [(171, 171, 9), (171, 171, 10), (171, 171, 11), (171, 171, 12), (171, 171, 13), (171, 171, 14), (173, 173, 9999)]) (by decide +kernel) hS))
        exact B241 r55.2 hF h
    · skip
      obtain ⟨r39, hr39, h⟩ := bnd h
      have hF := hF.tr (fr_X12_readLay n r32.2 r39 hr39) (fun o k hS => (subL_of (L1 := [(171, 171, 9), (171, 171, 10), (171, 171, 11), (171, 171, 12), (171, 171, 13), (171, 171, 14), (173, 173, 9999)]) (by decide +kernel) hS))
      exact B241 r39.2 hF h
  split at h
  · skip
    exact B29 μ hF h
  · skip
    obtain ⟨r7, hr7, h⟩ := bnd h
    have hF := hF.tr (fr_X12_took n 1032 μ r7 hr7) (fun o k hS => (subL_of (L1 := [(171, 171, 9), (171, 171, 10), (171, 171, 11), (171, 171, 12)]) (by decide +kernel) hS))
    split at h
    · skip
      exact B29 r7.2 hF h
    · skip
      obtain ⟨r22, hr22, h⟩ := bnd h
      have hF := hF.tr (fr_X12_number n (1 : Int32) (6 : Int32) r7.2 r22 hr22) (fun o k hS => (subL_of (L1 := [(171, 171, 9), (171, 171, 10), (171, 171, 11), (171, 171, 12), (171, 171, 13), (171, 171, 14)]) (by decide +kernel) hS))
      have hF := hF.si (o := 173) (k := 1) (v := r22.1) (by unfold S_X12_readLine; exact inL_mk 173 173 9999 (by decide) (by omega) (by omega) (by omega))
      exact B241 (si r22.2 173 1 r22.1) hF h
set_option maxRecDepth 100000 in
set_option maxHeartbeats 4000000 in
theorem fr_X12_board (n : Nat) (v1 : Int32) (μ : Mu) (r : Int32 × Mu) (h : X12_board n v1 μ = some r) : Fr (S_X12_board v1) μ r.2 := by
  rw [X12_board] at h
  have hF : Fr (S_X12_board v1) μ μ := Fr.rf
  obtain ⟨μ0, hμ0⟩ : ∃ z, z = μ := ⟨_, rfl⟩
  rw [← hμ0]
  have hF : Fr (S_X12_board v1) μ0 μ := by rw [hμ0]; exact hF
  have B151 : ∀ (s1 : Int32) (μ : Mu), Fr (S_X12_board v1) μ0 μ → X12_board_151 n v1 s1 μ = some r → Fr (S_X12_board v1) μ0 r.2 := by
    intro s1 μ hF h
    rw [X12_board_151] at h
    have hF := hF.si (o := 171) (k := 16) (v := s1) (by unfold S_X12_board; exact inL_mk 171 171 16 (by decide) (by omega) (by omega) (by omega))
    split at h
    · skip
      obtain ⟨r177, hr177, h⟩ := bnd h
      have hF := hF.tr (fr_X12_copies n 173 172 (si μ 171 16 s1) r177 hr177) (fun o k hS => by
    unfold S_X12_copies at hS
    rcases hS with hS | hS
    · exact (subL_of (by decide +kernel) hS)
    · exact inL_mk 172 172 9999 (by decide) (by omega) (by omega) (by omega))
      have hF := hF.si (o := 171) (k := 28) (v := (0 : Int32)) (by unfold S_X12_board; exact inL_mk 171 171 28 (by decide) (by omega) (by omega) (by omega))
      have hF := hF.si (o := 171) (k := 29) (v := (0 : Int32)) (by unfold S_X12_board; exact inL_mk 171 171 29 (by decide) (by omega) (by omega) (by omega))
      rw [← Option.some.inj h]; exact hF
    · skip
      rw [← Option.some.inj h]; exact hF
  have B127 : ∀ (μ : Mu), Fr (S_X12_board v1) μ0 μ → X12_board_127 n v1  μ = some r → Fr (S_X12_board v1) μ0 r.2 := by
    intro μ hF h
    rw [X12_board_127] at h
    have hF := hF.si (o := 171) (k := 15) (v := (μ.1 171 13)) (by unfold S_X12_board; exact inL_mk 171 171 15 (by decide) (by omega) (by omega) (by omega))
    split at h
    rotate_left
    · skip
      exact B151 ((si μ 171 15 (μ.1 171 13)).1 171 14) (si μ 171 15 (μ.1 171 13)) hF h
    · skip
      exact B151 ((-1) : Int32) (si μ 171 15 (μ.1 171 13)) hF h
  have B103 : ∀ (μ : Mu), Fr (S_X12_board v1) μ0 μ → X12_board_103 n v1  μ = some r → Fr (S_X12_board v1) μ0 r.2 := by
    intro μ hF h
    rw [X12_board_103] at h
    split at h
    rotate_left
    · skip
      exact B127 μ hF h
    · skip
      obtain ⟨r111, hr111, h⟩ := bnd h
      have hF := hF.tr (fr_X12_isWrong n μ r111 hr111) (fun o k hS => (subL_of (L1 := []) (by decide +kernel) hS))
      split at h
      · skip
        exact B127 r111.2 hF h
      · skip
        have hF := hF.si (o := 171) (k := 13) (v := (5 : Int32)) (by unfold S_X12_board; exact inL_mk 171 171 13 (by decide) (by omega) (by omega) (by omega))
        have hF := hF.si (o := 171) (k := 14) (v := v1) (by unfold S_X12_board; exact inL_mk 171 171 14 (by decide) (by omega) (by omega) (by omega))
        exact B127 (si (si r111.2 171 13 (5 : Int32)) 171 14 v1) hF h
  have B79 : ∀ (k : Nat), ∀ (v2 : Int32) (μ : Mu), Fr (S_X12_board v1) μ0 μ → lpF (fun _ _ => none) (X12_board_79b n v1) k v2 μ = some r → Fr (S_X12_board v1) μ0 r.2 := by
    intro k
    induction k with
    | zero =>
      intro v2 μ hF h
      cases h
    | succ k ih79 =>
      rw [lpF_s]
      generalize lpF (fun _ _ => none) (X12_board_79b n v1) k = k79 at ih79 ⊢
      intro v2 μ hF h
      rw [X12_board_79b] at h
      split at h
      rotate_left
      · skip
        exact B103 μ hF h
      · skip
        split at h
        · skip
          exact B103 μ hF h
        · skip
          obtain ⟨r95, hr95, h⟩ := bnd h
          have hF := hF.tr (fr_X12_readLine n v2 μ r95 hr95) (fun o k hS => (subL_of (L1 := [(171, 171, 9), (171, 171, 10), (171, 171, 11), (171, 171, 12), (171, 171, 13), (171, 171, 14), (173, 173, 9999)]) (by decide +kernel) hS))
          exact ih79 (0 : Int32) r95.2 hF h
  have B47 : ∀ (k : Nat), ∀ (v2 : Int32) (μ : Mu), Fr (S_X12_board v1) μ0 μ → lpF (fun _ _ => none) (X12_board_47b n v1) k v2 μ = some r → Fr (S_X12_board v1) μ0 r.2 := by
    intro k
    induction k with
    | zero =>
      intro v2 μ hF h
      cases h
    | succ k ih47 =>
      rw [lpF_s]
      generalize lpF (fun _ _ => none) (X12_board_47b n v1) k = k47 at ih47 ⊢
      intro v2 μ hF h
      rw [X12_board_47b] at h
      split at h
      · skip
        have hF := hF.si (o := 173) (k := 1) (v := (3 : Int32)) (by unfold S_X12_board; exact inL_mk 173 173 9999 (by decide) (by omega) (by omega) (by omega))
        obtain ⟨r74, hr74, h⟩ := bnd h
        have hF := hF.tr (fr_X12_reads n (si μ 173 1 (3 : Int32)) r74 hr74) (fun o k hS => (subL_of (L1 := [(171, 171, 9), (171, 171, 10), (171, 171, 11), (171, 171, 12)]) (by decide +kernel) hS))
        exact B79 n (1 : Int32) r74.2 hF h
      · skip
        obtain ⟨hi59, h⟩ := gd_some h
        have hjhi59 := vin_lt hi59 rfl
        have hF := hF.si (o := 173) (k := v2.toNatClampNeg) (v := (0 : Int32)) (by unfold S_X12_board; exact inL_mk 173 173 9999 (by decide) (by omega) (by omega) (by omega))
        exact ih47 (v2 + (1 : Int32)) (si μ 173 v2.toNatClampNeg (0 : Int32)) hF h
  have hF := hF.si (o := 171) (k := 5) (v := (0 : Int32)) (by unfold S_X12_board; exact inL_mk 171 171 5 (by decide) (by omega) (by omega) (by omega))
  obtain ⟨r13, hr13, h⟩ := bnd h
  have hF := hF.tr (fr_X12_within n (v1.toInt64) (0 : Int64) (((si μ 171 5 (0 : Int32)).1 171 7).toInt64) (si μ 171 5 (0 : Int32)) r13 hr13) (fun o k hS => (subL_of (L1 := []) (by decide +kernel) hS))
  split at h
  rotate_left
  · skip
    have hF := hF.si (o := 171) (k := 8) (v := v1) (by unfold S_X12_board; exact inL_mk 171 171 8 (by decide) (by omega) (by omega) (by omega))
    have hF := hF.si (o := 171) (k := 7) (v := (0 : Int32)) (by unfold S_X12_board; exact inL_mk 171 171 7 (by decide) (by omega) (by omega) (by omega))
    have hF := hF.si (o := 171) (k := 9) (v := (0 : Int32)) (by unfold S_X12_board; exact inL_mk 171 171 9 (by decide) (by omega) (by omega) (by omega))
    have hF := hF.si (o := 171) (k := 13) (v := (0 : Int32)) (by unfold S_X12_board; exact inL_mk 171 171 13 (by decide) (by omega) (by omega) (by omega))
    exact B47 n (0 : Int32) (si (si (si (si r13.2 171 8 v1) 171 7 (0 : Int32)) 171 9 (0 : Int32)) 171 13 (0 : Int32)) hF h
  · skip
    obtain ⟨r21, hr21, h⟩ := bnd h
    have hF := hF.tr (fr_X12_fails n (1 : Int32) r13.2 r21 hr21) (fun o k hS => (subL_of (L1 := [(171, 171, 5)]) (by decide +kernel) hS))
    rw [← Option.some.inj h]; exact hF
