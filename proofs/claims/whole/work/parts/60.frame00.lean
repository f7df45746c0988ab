set_option maxRecDepth 100000 in
set_option maxHeartbeats 4000000 in
theorem fr_X0_packed (n : Nat) (v0 : Nat) (v1 : Int32) (v2 : Int32) (μ : Mu) (r : Int64 × Mu) (h : X0_packed n v0 v1 v2 μ = some r) : Fr (S_X0_packed v0 v1 v2) μ r.2 := by
  rw [X0_packed] at h
  obtain ⟨hk0, h⟩ := kd_some h
  have hF : Fr (S_X0_packed v0 v1 v2) μ μ := Fr.rf
  obtain ⟨μ0, hμ0⟩ : ∃ z, z = μ := ⟨_, rfl⟩
  rw [← hμ0]
  have hF : Fr (S_X0_packed v0 v1 v2) μ0 μ := by rw [hμ0]; exact hF
  have B5 : ∀ (k : Nat), ∀ (v3 : Int64) (v5 : Int32) (μ : Mu), Fr (S_X0_packed v0 v1 v2) μ0 μ → lpF (fun _ _ _ => none) (X0_packed_5b n v0 v1 v2) k v3 v5 μ = some r → Fr (S_X0_packed v0 v1 v2) μ0 r.2 := by
    intro k
    induction k with
    | zero =>
      intro v3 v5 μ hF h
      cases h
    | succ k ih5 =>
      rw [lpF_s]
      generalize lpF (fun _ _ _ => none) (X0_packed_5b n v0 v1 v2) k = k5 at ih5 ⊢
      intro v3 v5 μ hF h
      rw [X0_packed_5b] at h
      split at h
      · skip
        rw [← Option.some.inj h]; exact hF
      · skip
        obtain ⟨hi18, h⟩ := gd_some h
        have hjhi18 := vin_lt hi18 rfl
        exact ih5 ((v3 <<< ((8 : Int32).toInt64 &&& 63)) ||| ((μ.1 v0 v5.toNatClampNeg).toInt64)) (v5 + (1 : Int32)) μ hF h
  exact B5 n (0 : Int64) v1 μ hF h
set_option maxRecDepth 100000 in
set_option maxHeartbeats 4000000 in
theorem fr_X1_countWays (n : Nat) (μ : Mu) (r : Unit × Mu) (h : X1_countWays n  μ = some r) : Fr S_X1_countWays μ r.2 := by
  rw [X1_countWays] at h
  have hF : Fr S_X1_countWays μ μ := Fr.rf
  obtain ⟨μ0, hμ0⟩ : ∃ z, z = μ := ⟨_, rfl⟩
  rw [← hμ0]
  have hF : Fr S_X1_countWays μ0 μ := by rw [hμ0]; exact hF
  have B9 : ∀ (k : Nat), ∀ (v1 : Int32) (μ : Mu), Fr S_X1_countWays μ0 μ → lpF (fun _ _ => none) (X1_countWays_9b n) k v1 μ = some r → Fr S_X1_countWays μ0 r.2 := by
    intro k
    induction k with
    | zero =>
      intro v1 μ hF h
      cases h
    | succ k ih9 =>
      rw [lpF_s]
      generalize lpF (fun _ _ => none) (X1_countWays_9b n) k = k9 at ih9 ⊢
      intro v1 μ hF h
      have B17 : ∀ (k : Nat), ∀ (v1 : Int32) (v2 : Int32) (μ : Mu), Fr S_X1_countWays μ0 μ → lpF (fun _ _ _ => none) (X1_countWays_17b n k9) k v1 v2 μ = some r → Fr S_X1_countWays μ0 r.2 := by
        intro k
        induction k with
        | zero =>
          intro v1 v2 μ hF h
          cases h
        | succ k ih17 =>
          rw [lpF_s]
          generalize lpF (fun _ _ _ => none) (X1_countWays_17b n k9) k = k17 at ih17 ⊢
          intro v1 v2 μ hF h
          have B58 : ∀ (v1 : Int32) (v2 : Int32) (v3 : Int32) (s0 : Int32) (μ : Mu), Fr S_X1_countWays μ0 μ → X1_countWays_58 n k9 k17 v1 v2 v3 s0 μ = some r → Fr S_X1_countWays μ0 r.2 := by
            intro v1 v2 v3 s0 μ hF h
            rw [X1_countWays_58] at h
            obtain ⟨hi80, h⟩ := gd_some h
            have hjhi80 := vin_lt hi80 rfl
            have hF := hF.si (o := 5) (k := ((v1 * (41 : Int32)) + v2).toNatClampNeg) (v := (if (v3 + s0) < (6001 : Int32) then (v3 + s0) else (6001 : Int32))) (by unfold S_X1_countWays; exact inL_mk 5 5 9999 (by decide) (by omega) (by omega) (by omega))
            exact ih17 v1 (v2 + (1 : Int32)) (si μ 5 ((v1 * (41 : Int32)) + v2).toNatClampNeg (if (v3 + s0) < (6001 : Int32) then (v3 + s0) else (6001 : Int32))) hF h
          rw [X1_countWays_17b] at h
          split at h
          · skip
            exact ih9 (v1 + (1 : Int32)) μ hF h
          · skip
            obtain ⟨hi35, h⟩ := gd_some h
            have hjhi35 := vin_lt hi35 rfl
            split at h
            rotate_left
            · skip
              obtain ⟨hi57, h⟩ := gd_some h
              have hjhi57 := vin_lt hi57 rfl
              exact B58 v1 v2 (μ.1 5 (((v1 - (1 : Int32)) * (41 : Int32)) + v2).toNatClampNeg) (μ.1 5 (((v1 * (41 : Int32)) + v2) - (1 : Int32)).toNatClampNeg) μ hF h
            · skip
              exact B58 v1 v2 (μ.1 5 (((v1 - (1 : Int32)) * (41 : Int32)) + v2).toNatClampNeg) (0 : Int32) μ hF h
      rw [X1_countWays_9b] at h
      split at h
      · skip
        rw [← Option.some.inj h]; exact hF
      · skip
        exact B17 n v1 (0 : Int32) μ hF h
  have hF := hF.si (o := 5) (k := 0) (v := (1 : Int32)) (by unfold S_X1_countWays; exact inL_mk 5 5 9999 (by decide) (by omega) (by omega) (by omega))
  exact B9 n (1 : Int32) (si μ 5 0 (1 : Int32)) hF h
set_option maxRecDepth 100000 in
set_option maxHeartbeats 4000000 in
theorem fr_X1_pitAsSeen (n : Nat) (v1 : Int32) (v2 : Int32) (μ : Mu) (r : Int32 × Mu) (h : X1_pitAsSeen n v1 v2 μ = some r) : Fr (S_X1_pitAsSeen v1 v2) μ r.2 := by
  rw [X1_pitAsSeen] at h
  have hF : Fr (S_X1_pitAsSeen v1 v2) μ μ := Fr.rf
  obtain ⟨μ0, hμ0⟩ : ∃ z, z = μ := ⟨_, rfl⟩
  rw [← hμ0]
  have hF : Fr (S_X1_pitAsSeen v1 v2) μ0 μ := by rw [hμ0]; exact hF
  have B40 : ∀ (s0 : Int32) (μ : Mu), Fr (S_X1_pitAsSeen v1 v2) μ0 μ → X1_pitAsSeen_40 n v1 v2 s0 μ = some r → Fr (S_X1_pitAsSeen v1 v2) μ0 r.2 := by
    intro s0 μ hF h
    rw [X1_pitAsSeen_40] at h
    rw [← Option.some.inj h]; exact hF
  split at h
  · skip
    exact B40 (((v1 * (μ.1 1 1)) + v2) - ((2 : Int32) * (μ.1 1 1))) μ hF h
  · skip
    exact B40 ((v1 * (μ.1 1 1)) + v2) μ hF h
set_option maxRecDepth 100000 in
set_option maxHeartbeats 4000000 in
theorem fr_X1_positionsOf (n : Nat) (v1 : Int32) (μ : Mu) (r : Int32 × Mu) (h : X1_positionsOf n v1 μ = some r) : Fr (S_X1_positionsOf v1) μ r.2 := by
  rw [X1_positionsOf] at h
  have hF : Fr (S_X1_positionsOf v1) μ μ := Fr.rf
  obtain ⟨μ0, hμ0⟩ : ∃ z, z = μ := ⟨_, rfl⟩
  rw [← hμ0]
  have hF : Fr (S_X1_positionsOf v1) μ0 μ := by rw [hμ0]; exact hF
  obtain ⟨hi13, h⟩ := gd_some h
  have hjhi13 := vin_lt hi13 rfl
  rw [← Option.some.inj h]; exact hF
set_option maxRecDepth 100000 in
set_option maxHeartbeats 4000000 in
theorem fr_X1_positionsUpTo (n : Nat) (v1 : Int32) (μ : Mu) (r : Int32 × Mu) (h : X1_positionsUpTo n v1 μ = some r) : Fr (S_X1_positionsUpTo v1) μ r.2 := by
  rw [X1_positionsUpTo] at h
  have hF : Fr (S_X1_positionsUpTo v1) μ μ := Fr.rf
  obtain ⟨μ0, hμ0⟩ : ∃ z, z = μ := ⟨_, rfl⟩
  rw [← hμ0]
  have hF : Fr (S_X1_positionsUpTo v1) μ0 μ := by rw [hμ0]; exact hF
  have B24 : ∀ (s0 : Int32) (μ : Mu), Fr (S_X1_positionsUpTo v1) μ0 μ → X1_positionsUpTo_24 n v1 s0 μ = some r → Fr (S_X1_positionsUpTo v1) μ0 r.2 := by
    intro s0 μ hF h
    rw [X1_positionsUpTo_24] at h
    rw [← Option.some.inj h]; exact hF
  split at h
  · skip
    obtain ⟨hi23, h⟩ := gd_some h
    have hjhi23 := vin_lt hi23 rfl
    exact B24 (μ.1 5 ((((μ.1 2 1) + (1 : Int32)) * (41 : Int32)) + v1).toNatClampNeg) μ hF h
  · skip
    exact B24 (0 : Int32) μ hF h
set_option maxRecDepth 100000 in
set_option maxHeartbeats 4000000 in
theorem fr_X1_numberOf (n : Nat) (v1 : Nat) (v2 : Int32) (μ : Mu) (r : Int32 × Mu) (h : X1_numberOf n v1 v2 μ = some r) : Fr (S_X1_numberOf v1 v2) μ r.2 := by
  rw [X1_numberOf] at h
  obtain ⟨hk1, h⟩ := kd_some h
  have hF : Fr (S_X1_numberOf v1 v2) μ μ := Fr.rf
  obtain ⟨μ0, hμ0⟩ : ∃ z, z = μ := ⟨_, rfl⟩
  rw [← hμ0]
  have hF : Fr (S_X1_numberOf v1 v2) μ0 μ := by rw [hμ0]; exact hF
  have B86 : ∀ (v5 : Int32) (μ : Mu), Fr (S_X1_numberOf v1 v2) μ0 μ → X1_numberOf_86 n v1 v2 v5 μ = some r → Fr (S_X1_numberOf v1 v2) μ0 r.2 := by
    intro v5 μ hF h
    rw [X1_numberOf_86] at h
    rw [← Option.some.inj h]; exact hF
  have B17 : ∀ (k : Nat), ∀ (v3 : Int32) (v4 : Int32) (v5 : Int32) (v6 : Int32) (μ : Mu), Fr (S_X1_numberOf v1 v2) μ0 μ → lpF (fun _ _ _ _ _ => none) (X1_numberOf_17b n v1 v2) k v3 v4 v5 v6 μ = some r → Fr (S_X1_numberOf v1 v2) μ0 r.2 := by
    intro k
    induction k with
    | zero =>
      intro v3 v4 v5 v6 μ hF h
      cases h
    | succ k ih17 =>
      rw [lpF_s]
      generalize lpF (fun _ _ _ _ _ => none) (X1_numberOf_17b n v1 v2) k = k17 at ih17 ⊢
      intro v3 v4 v5 v6 μ hF h
      have B80 : ∀ (v3 : Int32) (v4 : Int32) (v5 : Int32) (v6 : Int32) (μ : Mu), Fr (S_X1_numberOf v1 v2) μ0 μ → X1_numberOf_80 n v1 v2 k17 v3 v4 v5 v6 μ = some r → Fr (S_X1_numberOf v1 v2) μ0 r.2 := by
        intro v3 v4 v5 v6 μ hF h
        rw [X1_numberOf_80] at h
        exact ih17 v3 v4 v5 (v6 + (1 : Int32)) μ hF h
      rw [X1_numberOf_17b] at h
      split at h
      · skip
        exact B86 v5 μ hF h
      · skip
        split at h
        · skip
          exact B86 v5 μ hF h
        · skip
          obtain ⟨hi45, h⟩ := gd_some h
          have hjhi45 := vin_lt hi45 rfl
          obtain ⟨hi46, h⟩ := gd_some h
          have hjhi46 := vin_lt hi46 rfl
          split at h
          · skip
            exact B80 v3 (v4 - (μ.1 (v1 + 1) (μ.1 4 (v3 + v6).toNatClampNeg).toNatClampNeg)) v5 v6 μ hF h
          · skip
            obtain ⟨hi76, h⟩ := gd_some h
            have hjhi76 := vin_lt hi76 rfl
            exact B80 v3 (v4 - (μ.1 (v1 + 1) (μ.1 4 (v3 + v6).toNatClampNeg).toNatClampNeg)) (v5 + (μ.1 5 (((((μ.1 2 1) - v6) * (41 : Int32)) + (v4 - (μ.1 (v1 + 1) (μ.1 4 (v3 + v6).toNatClampNeg).toNatClampNeg))) - (1 : Int32)).toNatClampNeg)) v6 μ hF h
  exact B17 n ((μ.1 v1 1) * (12 : Int32)) v2 (0 : Int32) (0 : Int32) μ hF h
set_option maxRecDepth 100000 in
set_option maxHeartbeats 4000000 in
theorem fr_X3_forget (n : Nat) (μ : Mu) (r : Unit × Mu) (h : X3_forget n  μ = some r) : Fr S_X3_forget μ r.2 := by
  rw [X3_forget] at h
  have hF : Fr S_X3_forget μ μ := Fr.rf
  obtain ⟨μ0, hμ0⟩ : ∃ z, z = μ := ⟨_, rfl⟩
  rw [← hμ0]
  have hF : Fr S_X3_forget μ0 μ := by rw [hμ0]; exact hF
  have hF := hF.si (o := 9) (k := 0) (v := (0 : Int32)) (by unfold S_X3_forget; exact inL_mk 9 9 0 (by decide) (by omega) (by omega) (by omega))
  have hF := hF.si (o := 9) (k := 1) (v := (0 : Int32)) (by unfold S_X3_forget; exact inL_mk 9 9 1 (by decide) (by omega) (by omega) (by omega))
  rw [← Option.some.inj h]; exact hF
set_option maxRecDepth 100000 in
set_option maxHeartbeats 4000000 in
theorem fr_X3_slot (n : Nat) (v1 : Int32) (μ : Mu) (r : Int32 × Mu) (h : X3_slot n v1 μ = some r) : Fr (S_X3_slot v1) μ r.2 := by
  rw [X3_slot] at h
  have hF : Fr (S_X3_slot v1) μ μ := Fr.rf
  obtain ⟨μ0, hμ0⟩ : ∃ z, z = μ := ⟨_, rfl⟩
  rw [← hμ0]
  have hF : Fr (S_X3_slot v1) μ0 μ := by rw [hμ0]; exact hF
  have B21 : ∀ (s0 : Int32) (μ : Mu), Fr (S_X3_slot v1) μ0 μ → X3_slot_21 n v1 s0 μ = some r → Fr (S_X3_slot v1) μ0 r.2 := by
    intro s0 μ hF h
    rw [X3_slot_21] at h
    rw [← Option.some.inj h]; exact hF
  split at h
  · skip
    exact B21 (((μ.1 9 2) + v1) - (40 : Int32)) μ hF h
  · skip
    exact B21 ((μ.1 9 2) + v1) μ hF h
set_option maxRecDepth 100000 in
set_option maxHeartbeats 4000000 in
theorem fr_X3_moveAt (n : Nat) (v1 : Int32) (μ : Mu) (r : Int32 × Mu) (h : X3_moveAt n v1 μ = some r) : Fr (S_X3_moveAt v1) μ r.2 := by
  rw [X3_moveAt] at h
  have hF : Fr (S_X3_moveAt v1) μ μ := Fr.rf
  obtain ⟨μ0, hμ0⟩ : ∃ z, z = μ := ⟨_, rfl⟩
  rw [← hμ0]
  have hF : Fr (S_X3_moveAt v1) μ0 μ := by rw [hμ0]; exact hF
  obtain ⟨r6, hr6, h⟩ := bnd h
  have hF := hF.tr (fr_X3_slot n v1 μ r6 hr6) (fun o k hS => (subL_of (L1 := []) (by decide +kernel) hS))
  obtain ⟨hi9, h⟩ := gd_some h
  have hjhi9 := vin_lt hi9 rfl
  rw [← Option.some.inj h]; exact hF
set_option maxRecDepth 100000 in
set_option maxHeartbeats 4000000 in
theorem fr_X3_again (n : Nat) (μ : Mu) (r : Int32 × Mu) (h : X3_again n  μ = some r) : Fr S_X3_again μ r.2 := by
  rw [X3_again] at h
  have hF : Fr S_X3_again μ μ := Fr.rf
  obtain ⟨μ0, hμ0⟩ : ∃ z, z = μ := ⟨_, rfl⟩
  rw [← hμ0]
  have hF : Fr S_X3_again μ0 μ := by rw [hμ0]; exact hF
  have hF := hF.si (o := 9) (k := 0) (v := ((μ.1 9 0) + (1 : Int32))) (by unfold S_X3_again; exact inL_mk 9 9 0 (by decide) (by omega) (by omega) (by omega))
  have hF := hF.si (o := 9) (k := 1) (v := (((si μ 9 0 ((μ.1 9 0) + (1 : Int32))).1 9 1) - (1 : Int32))) (by unfold S_X3_again; exact inL_mk 9 9 1 (by decide) (by omega) (by omega) (by omega))
  obtain ⟨r31, hr31, h⟩ := bnd h
  have hF := hF.tr (fr_X3_slot n (((si (si μ 9 0 ((μ.1 9 0) + (1 : Int32))) 9 1 (((si μ 9 0 ((μ.1 9 0) + (1 : Int32))).1 9 1) - (1 : Int32))).1 9 0) - (1 : Int32)) (si (si μ 9 0 ((μ.1 9 0) + (1 : Int32))) 9 1 (((si μ 9 0 ((μ.1 9 0) + (1 : Int32))).1 9 1) - (1 : Int32))) r31 hr31) (fun o k hS => (subL_of (L1 := []) (by decide +kernel) hS))
  obtain ⟨hi34, h⟩ := gd_some h
  have hjhi34 := vin_lt hi34 rfl
  rw [← Option.some.inj h]; exact hF
set_option maxRecDepth 100000 in
set_option maxHeartbeats 4000000 in
theorem fr_X4_append (n : Nat) (v1 : Int32) (μ : Mu) (r : Unit × Mu) (h : X4_append n v1 μ = some r) : Fr (S_X4_append v1) μ r.2 := by
  rw [X4_append] at h
  have hF : Fr (S_X4_append v1) μ μ := Fr.rf
  obtain ⟨μ0, hμ0⟩ : ∃ z, z = μ := ⟨_, rfl⟩
  rw [← hμ0]
  have hF : Fr (S_X4_append v1) μ0 μ := by rw [hμ0]; exact hF
  have B49 : ∀ (μ : Mu), Fr (S_X4_append v1) μ0 μ → X4_append_49 n v1  μ = some r → Fr (S_X4_append v1) μ0 r.2 := by
    intro μ hF h
    rw [X4_append_49] at h
    rw [← Option.some.inj h]; exact hF
  have B3 : ∀ (k : Nat), ∀ (v2 : Int32) (μ : Mu), Fr (S_X4_append v1) μ0 μ → lpF (fun _ _ => none) (X4_append_3b n v1) k v2 μ = some r → Fr (S_X4_append v1) μ0 r.2 := by
    intro k
    induction k with
    | zero =>
      intro v2 μ hF h
      cases h
    | succ k ih3 =>
      rw [lpF_s]
      generalize lpF (fun _ _ => none) (X4_append_3b n v1) k = k3 at ih3 ⊢
      intro v2 μ hF h
      rw [X4_append_3b] at h
      split at h
      · skip
        exact B49 μ hF h
      · skip
        split at h
        · skip
          exact B49 μ hF h
        · skip
          obtain ⟨hi32, h⟩ := gd_some h
          have hjhi32 := vin_lt hi32 rfl
          have hF := hF.si (o := 14) (k := (μ.1 12 4).toNatClampNeg) (v := (((v1.toUInt32 >>> (v2.toUInt32 &&& Int32.toUInt32 31)).toInt32) &&& (255 : Int32))) (by unfold S_X4_append; exact inL_mk 14 14 9999 (by decide) (by omega) (by omega) (by omega))
          have hF := hF.si (o := 12) (k := 4) (v := (((si μ 14 (μ.1 12 4).toNatClampNeg (((v1.toUInt32 >>> (v2.toUInt32 &&& Int32.toUInt32 31)).toInt32) &&& (255 : Int32))).1 12 4) + (1 : Int32))) (by unfold S_X4_append; exact inL_mk 12 12 4 (by decide) (by omega) (by omega) (by omega))
          exact ih3 (v2 + ((-8) : Int32)) (si (si μ 14 (μ.1 12 4).toNatClampNeg (((v1.toUInt32 >>> (v2.toUInt32 &&& Int32.toUInt32 31)).toInt32) &&& (255 : Int32))) 12 4 (((si μ 14 (μ.1 12 4).toNatClampNeg (((v1.toUInt32 >>> (v2.toUInt32 &&& Int32.toUInt32 31)).toInt32) &&& (255 : Int32))).1 12 4) + (1 : Int32))) hF h
  exact B3 n (24 : Int32) μ hF h
set_option maxRecDepth 100000 in
set_option maxHeartbeats 4000000 in
theorem fr_X4_refuse (n : Nat) (v1 : Int32) (μ : Mu) (r : Unit × Mu) (h : X4_refuse n v1 μ = some r) : Fr (S_X4_refuse v1) μ r.2 := by
  rw [X4_refuse] at h
  have hF : Fr (S_X4_refuse v1) μ μ := Fr.rf
  obtain ⟨μ0, hμ0⟩ : ∃ z, z = μ := ⟨_, rfl⟩
  rw [← hμ0]
  have hF : Fr (S_X4_refuse v1) μ0 μ := by rw [hμ0]; exact hF
  have B20 : ∀ (μ : Mu), Fr (S_X4_refuse v1) μ0 μ → X4_refuse_20 n v1  μ = some r → Fr (S_X4_refuse v1) μ0 r.2 := by
    intro μ hF h
    rw [X4_refuse_20] at h
    rw [← Option.some.inj h]; exact hF
  split at h
  rotate_left
  · skip
    exact B20 μ hF h
  · skip
    have hF := hF.si (o := 12) (k := 2) (v := v1) (by unfold S_X4_refuse; exact inL_mk 12 12 2 (by decide) (by omega) (by omega) (by omega))
    have hF := hF.si (o := 12) (k := 3) (v := ((si μ 12 2 v1).1 12 8)) (by unfold S_X4_refuse; exact inL_mk 12 12 3 (by decide) (by omega) (by omega) (by omega))
    exact B20 (si (si μ 12 2 v1) 12 3 ((si μ 12 2 v1).1 12 8)) hF h
set_option maxRecDepth 100000 in
set_option maxHeartbeats 4000000 in
theorem fr_X4_checkedNumber (n : Nat) (v1 : Int32) (v2 : Int32) (μ : Mu) (r : Int32 × Mu) (h : X4_checkedNumber n v1 v2 μ = some r) : Fr (S_X4_checkedNumber v1 v2) μ r.2 := by
  rw [X4_checkedNumber] at h
  have hF : Fr (S_X4_checkedNumber v1 v2) μ μ := Fr.rf
  obtain ⟨μ0, hμ0⟩ : ∃ z, z = μ := ⟨_, rfl⟩
  rw [← hμ0]
  have hF : Fr (S_X4_checkedNumber v1 v2) μ0 μ := by rw [hμ0]; exact hF
  have B31 : ∀ (μ : Mu), Fr (S_X4_checkedNumber v1 v2) μ0 μ → X4_checkedNumber_31 n v1 v2  μ = some r → Fr (S_X4_checkedNumber v1 v2) μ0 r.2 := by
    intro μ hF h
    rw [X4_checkedNumber_31] at h
    obtain ⟨r33, hr33, h⟩ := bnd h
    have hF := hF.tr (fr_X4_refuse n (3 : Int32) μ r33 hr33) (fun o k hS => (subL_of (L1 := [(12, 12, 2), (12, 12, 3)]) (by decide +kernel) hS))
    rw [← Option.some.inj h]; exact hF
  split at h
  · skip
    split at h
    · skip
      exact B31 μ hF h
    · skip
      split at h
      · skip
        rw [← Option.some.inj h]; exact hF
      · skip
        exact B31 μ hF h
  · skip
    obtain ⟨r10, hr10, h⟩ := bnd h
    have hF := hF.tr (fr_X4_refuse n (2 : Int32) μ r10 hr10) (fun o k hS => (subL_of (L1 := [(12, 12, 2), (12, 12, 3)]) (by decide +kernel) hS))
    rw [← Option.some.inj h]; exact hF
set_option maxRecDepth 100000 in
set_option maxHeartbeats 4000000 in
theorem fr_X4_isWord (n : Nat) (v1 : Nat) (μ : Mu) (r : Int32 × Mu) (h : X4_isWord n v1 μ = some r) : Fr (S_X4_isWord v1) μ r.2 := by
  rw [X4_isWord] at h
  obtain ⟨hk1, h⟩ := kd_some h
  have hF : Fr (S_X4_isWord v1) μ μ := Fr.rf
  obtain ⟨μ0, hμ0⟩ : ∃ z, z = μ := ⟨_, rfl⟩
  rw [← hμ0]
  have hF : Fr (S_X4_isWord v1) μ0 μ := by rw [hμ0]; exact hF
  have B24 : ∀ (μ : Mu), Fr (S_X4_isWord v1) μ0 μ → X4_isWord_24 n v1  μ = some r → Fr (S_X4_isWord v1) μ0 r.2 := by
    intro μ hF h
    rw [X4_isWord_24] at h
    rw [← Option.some.inj h]; exact hF
  have B28 : ∀ (k : Nat), ∀ (v2 : Int32) (μ : Mu), Fr (S_X4_isWord v1) μ0 μ → lpF (fun _ _ => none) (X4_isWord_28b n v1) k v2 μ = some r → Fr (S_X4_isWord v1) μ0 r.2 := by
    intro k
    induction k with
    | zero =>
      intro v2 μ hF h
      cases h
    | succ k ih28 =>
      rw [lpF_s]
      generalize lpF (fun _ _ => none) (X4_isWord_28b n v1) k = k28 at ih28 ⊢
      intro v2 μ hF h
      rw [X4_isWord_28b] at h
      obtain ⟨r30, hr30, h⟩ := bnd h
      have hF := hF.tr (fr_J0_length_8abf5 n v1 μ r30 hr30) (fun o k hS => (subL_of (L1 := []) (by decide +kernel) hS))
      split at h
      · skip
        rw [← Option.some.inj h]; exact hF
      · skip
        obtain ⟨hi46, h⟩ := gd_some h
        have hjhi46 := vin_lt hi46 rfl
        obtain ⟨r49, hr49, h⟩ := bnd h
        have hF := hF.tr (fr_J0_charAt_5068e n v1 v2 r30.2 r49 hr49) (fun o k hS => (subL_of (L1 := []) (by decide +kernel) hS))
        split at h
        · skip
          exact ih28 (v2 + (1 : Int32)) r49.2 hF h
        · skip
          rw [← Option.some.inj h]; exact hF
  split at h
  rotate_left
  · skip
    exact B24 μ hF h
  · skip
    obtain ⟨r18, hr18, h⟩ := bnd h
    have hF := hF.tr (fr_J0_length_8abf5 n v1 μ r18 hr18) (fun o k hS => (subL_of (L1 := []) (by decide +kernel) hS))
    split at h
    · skip
      exact B28 n (0 : Int32) r18.2 hF h
    · skip
      exact B24 r18.2 hF h
set_option maxRecDepth 100000 in
set_option maxHeartbeats 4000000 in
theorem fr_X4_isDigit (n : Nat) (v1 : Int32) (μ : Mu) (r : Int32 × Mu) (h : X4_isDigit n v1 μ = some r) : Fr (S_X4_isDigit v1) μ r.2 := by
  rw [X4_isDigit] at h
  have hF : Fr (S_X4_isDigit v1) μ μ := Fr.rf
  obtain ⟨μ0, hμ0⟩ : ∃ z, z = μ := ⟨_, rfl⟩
  rw [← hμ0]
  have hF : Fr (S_X4_isDigit v1) μ0 μ := by rw [hμ0]; exact hF
  have B27 : ∀ (s0 : Int32) (μ : Mu), Fr (S_X4_isDigit v1) μ0 μ → X4_isDigit_27 n v1 s0 μ = some r → Fr (S_X4_isDigit v1) μ0 r.2 := by
    intro s0 μ hF h
    rw [X4_isDigit_27] at h
    obtain ⟨hz27, h⟩ := bz_some h
    rw [← Option.some.inj h]; exact hF
  have B26 : ∀ (μ : Mu), Fr (S_X4_isDigit v1) μ0 μ → X4_isDigit_26 n v1  μ = some r → Fr (S_X4_isDigit v1) μ0 r.2 := by
    intro μ hF h
    rw [X4_isDigit_26] at h
    exact B27 (0 : Int32) μ hF h
  obtain ⟨hi5, h⟩ := gd_some h
  have hjhi5 := vin_lt hi5 rfl
  split at h
  · skip
    exact B26 μ hF h
  · skip
    split at h
    · skip
      exact B26 μ hF h
    · skip
      exact B27 (1 : Int32) μ hF h
set_option maxRecDepth 100000 in
set_option maxHeartbeats 4000000 in
theorem fr_X4_isLetter (n : Nat) (v1 : Int32) (μ : Mu) (r : Int32 × Mu) (h : X4_isLetter n v1 μ = some r) : Fr (S_X4_isLetter v1) μ r.2 := by
  rw [X4_isLetter] at h
  have hF : Fr (S_X4_isLetter v1) μ μ := Fr.rf
  obtain ⟨μ0, hμ0⟩ : ∃ z, z = μ := ⟨_, rfl⟩
  rw [← hμ0]
  have hF : Fr (S_X4_isLetter v1) μ0 μ := by rw [hμ0]; exact hF
  have B27 : ∀ (s0 : Int32) (μ : Mu), Fr (S_X4_isLetter v1) μ0 μ → X4_isLetter_27 n v1 s0 μ = some r → Fr (S_X4_isLetter v1) μ0 r.2 := by
    intro s0 μ hF h
    rw [X4_isLetter_27] at h
    obtain ⟨hz27, h⟩ := bz_some h
    rw [← Option.some.inj h]; exact hF
  have B26 : ∀ (μ : Mu), Fr (S_X4_isLetter v1) μ0 μ → X4_isLetter_26 n v1  μ = some r → Fr (S_X4_isLetter v1) μ0 r.2 := by
    intro μ hF h
    rw [X4_isLetter_26] at h
    exact B27 (0 : Int32) μ hF h
  obtain ⟨hi5, h⟩ := gd_some h
  have hjhi5 := vin_lt hi5 rfl
  split at h
  · skip
    exact B26 μ hF h
  · skip
    split at h
    · skip
      exact B26 μ hF h
    · skip
      exact B27 (1 : Int32) μ hF h
set_option maxRecDepth 100000 in
set_option maxHeartbeats 4000000 in
theorem fr_X5_clear (n : Nat) (v0 : Nat) (μ : Mu) (r : Unit × Mu) (h : X5_clear n v0 μ = some r) : Fr (S_X5_clear v0) μ r.2 := by
  rw [X5_clear] at h
  obtain ⟨hk0, h⟩ := kd_some h
  have hF : Fr (S_X5_clear v0) μ μ := Fr.rf
  obtain ⟨μ0, hμ0⟩ : ∃ z, z = μ := ⟨_, rfl⟩
  rw [← hμ0]
  have hF : Fr (S_X5_clear v0) μ0 μ := by rw [hμ0]; exact hF
  have hF := hF.si (o := v0) (k := 0) (v := (0 : Int32)) (by unfold S_X5_clear; exact Or.inr (by omega))
  have hF := hF.si (o := v0) (k := 1) (v := (3 : Int32)) (by unfold S_X5_clear; exact Or.inr (by omega))
  have hF := hF.si (o := v0) (k := 2) (v := (0 : Int32)) (by unfold S_X5_clear; exact Or.inr (by omega))
  have hF := hF.si (o := v0) (k := 3) (v := (0 : Int32)) (by unfold S_X5_clear; exact Or.inr (by omega))
  have hF := hF.si (o := v0) (k := 4) (v := (0 : Int32)) (by unfold S_X5_clear; exact Or.inr (by omega))
  have hF := hF.si (o := v0) (k := 5) (v := (0 : Int32)) (by unfold S_X5_clear; exact Or.inr (by omega))
  have hF := hF.si (o := v0) (k := 6) (v := (0 : Int32)) (by unfold S_X5_clear; exact Or.inr (by omega))
  have hF := hF.si (o := v0) (k := 7) (v := (0 : Int32)) (by unfold S_X5_clear; exact Or.inr (by omega))
  have hF := hF.si (o := v0) (k := 8) (v := (0 : Int32)) (by unfold S_X5_clear; exact Or.inr (by omega))
  rw [← Option.some.inj h]; exact hF
set_option maxRecDepth 100000 in
set_option maxHeartbeats 4000000 in
theorem fr_X5_copy (n : Nat) (v0 : Nat) (v1 : Nat) (μ : Mu) (r : Unit × Mu) (h : X5_copy n v0 v1 μ = some r) : Fr (S_X5_copy v0 v1) μ r.2 := by
  rw [X5_copy] at h
  obtain ⟨hk0, h⟩ := kd_some h
  obtain ⟨hk1, h⟩ := kd_some h
  have hF : Fr (S_X5_copy v0 v1) μ μ := Fr.rf
  obtain ⟨μ0, hμ0⟩ : ∃ z, z = μ := ⟨_, rfl⟩
  rw [← hμ0]
  have hF : Fr (S_X5_copy v0 v1) μ0 μ := by rw [hμ0]; exact hF
  have hF := hF.si (o := v0) (k := 0) (v := (μ.1 v1 0)) (by unfold S_X5_copy; exact Or.inr (by omega))
  have hF := hF.si (o := v0) (k := 1) (v := ((si μ v0 0 (μ.1 v1 0)).1 v1 1)) (by unfold S_X5_copy; exact Or.inr (by omega))
  have hF := hF.si (o := v0) (k := 2) (v := ((si (si μ v0 0 (μ.1 v1 0)) v0 1 ((si μ v0 0 (μ.1 v1 0)).1 v1 1)).1 v1 2)) (by unfold S_X5_copy; exact Or.inr (by omega))
  have hF := hF.si (o := v0) (k := 3) (v := ((si (si (si μ v0 0 (μ.1 v1 0)) v0 1 ((si μ v0 0 (μ.1 v1 0)).1 v1 1)) v0 2 ((si (si μ v0 0 (μ.1 v1 0)) v0 1 ((si μ v0 0 (μ.1 v1 0)).1 v1 1)).1 v1 2)).1 v1 3)) (by unfold S_X5_copy; exact Or.inr (by omega))
  have hF := hF.si (o := v0) (k := 4) (v := ((si (si (si (si μ v0 0 (μ.1 v1 0)) v0 1 ((si μ v0 0 (μ.1 v1 0)).1 v1 1)) v0 2 ((si (si μ v0 0 (μ.1 v1 0)) v0 1 ((si μ v0 0 (μ.1 v1 0)).1 v1 1)).1 v1 2)) v0 3 ((si (si (si μ v0 0 (μ.1 v1 0)) v0 1 ((si μ v0 0 (μ.1 v1 0)).1 v1 1)) v0 2 ((si (si μ v0 0 (μ.1 v1 0)) v0 1 ((si μ v0 0 (μ.1 v1 0)).1 v1 1)).1 v1 2)).1 v1 3)).1 v1 4)) (by unfold S_X5_copy; exact Or.inr (by omega))
  obtain ⟨hz45, h⟩ := bz_some h
  have hF := hF.si (o := v0) (k := 5) (v := ((si (si (si (si (si μ v0 0 (μ.1 v1 0)) v0 1 ((si μ v0 0 (μ.1 v1 0)).1 v1 1)) v0 2 ((si (si μ v0 0 (μ.1 v1 0)) v0 1 ((si μ v0 0 (μ.1 v1 0)).1 v1 1)).1 v1 2)) v0 3 ((si (si (si μ v0 0 (μ.1 v1 0)) v0 1 ((si μ v0 0 (μ.1 v1 0)).1 v1 1)) v0 2 ((si (si μ v0 0 (μ.1 v1 0)) v0 1 ((si μ v0 0 (μ.1 v1 0)).1 v1 1)).1 v1 2)).1 v1 3)) v0 4 ((si (si (si (si μ v0 0 (μ.1 v1 0)) v0 1 ((si μ v0 0 (μ.1 v1 0)).1 v1 1)) v0 2 ((si (si μ v0 0 (μ.1 v1 0)) v0 1 ((si μ v0 0 (μ.1 v1 0)).1 v1 1)).1 v1 2)) v0 3 ((si (si (si μ v0 0 (μ.1 v1 0)) v0 1 ((si μ v0 0 (μ.1 v1 0)).1 v1 1)) v0 2 ((si (si μ v0 0 (μ.1 v1 0)) v0 1 ((si μ v0 0 (μ.1 v1 0)).1 v1 1)).1 v1 2)).1 v1 3)).1 v1 4)).1 v1 5)) (by unfold S_X5_copy; exact Or.inr (by omega))
  obtain ⟨hz53, h⟩ := bz_some h
  have hF := hF.si (o := v0) (k := 6) (v := ((si (si (si (si (si (si μ v0 0 (μ.1 v1 0)) v0 1 ((si μ v0 0 (μ.1 v1 0)).1 v1 1)) v0 2 ((si (si μ v0 0 (μ.1 v1 0)) v0 1 ((si μ v0 0 (μ.1 v1 0)).1 v1 1)).1 v1 2)) v0 3 ((si (si (si μ v0 0 (μ.1 v1 0)) v0 1 ((si μ v0 0 (μ.1 v1 0)).1 v1 1)) v0 2 ((si (si μ v0 0 (μ.1 v1 0)) v0 1 ((si μ v0 0 (μ.1 v1 0)).1 v1 1)).1 v1 2)).1 v1 3)) v0 4 ((si (si (si (si μ v0 0 (μ.1 v1 0)) v0 1 ((si μ v0 0 (μ.1 v1 0)).1 v1 1)) v0 2 ((si (si μ v0 0 (μ.1 v1 0)) v0 1 ((si μ v0 0 (μ.1 v1 0)).1 v1 1)).1 v1 2)) v0 3 ((si (si (si μ v0 0 (μ.1 v1 0)) v0 1 ((si μ v0 0 (μ.1 v1 0)).1 v1 1)) v0 2 ((si (si μ v0 0 (μ.1 v1 0)) v0 1 ((si μ v0 0 (μ.1 v1 0)).1 v1 1)).1 v1 2)).1 v1 3)).1 v1 4)) v0 5 ((si (si (si (si (si μ v0 0 (μ.1 v1 0)) v0 1 ((si μ v0 0 (μ.1 v1 0)).1 v1 1)) v0 2 ((si (si μ v0 0 (μ.1 v1 0)) v0 1 ((si μ v0 0 (μ.1 v1 0)).1 v1 1)).1 v1 2)) v0 3 ((si (si (si μ v0 0 (μ.1 v1 0)) v0 1 ((si μ v0 0 (μ.1 v1 0)).1 v1 1)) v0 2 ((si (si μ v0 0 (μ.1 v1 0)) v0 1 ((si μ v0 0 (μ.1 v1 0)).1 v1 1)).1 v1 2)).1 v1 3)) v0 4 ((si (si (si (si μ v0 0 (μ.1 v1 0)) v0 1 ((si μ v0 0 (μ.1 v1 0)).1 v1 1)) v0 2 ((si (si μ v0 0 (μ.1 v1 0)) v0 1 ((si μ v0 0 (μ.1 v1 0)).1 v1 1)).1 v1 2)) v0 3 ((si (si (si μ v0 0 (μ.1 v1 0)) v0 1 ((si μ v0 0 (μ.1 v1 0)).1 v1 1)) v0 2 ((si (si μ v0 0 (μ.1 v1 0)) v0 1 ((si μ v0 0 (μ.1 v1 0)).1 v1 1)).1 v1 2)).1 v1 3)).1 v1 4)).1 v1 5)).1 v1 6)) (by unfold S_X5_copy; exact Or.inr (by omega))
  obtain ⟨hz61, h⟩ := bz_some h
  have hF := hF.si (o := v0) (k := 7) (v := ((si (si (si (si (si (si (si μ v0 0 (μ.1 v1 0)) v0 1 ((si μ v0 0 (μ.1 v1 0)).1 v1 1)) v0 2 ((si (si μ v0 0 (μ.1 v1 0)) v0 1 ((si μ v0 0 (μ.1 v1 0)).1 v1 1)).1 v1 2)) v0 3 ((si (si (si μ v0 0 (μ.1 v1 0)) v0 1 ((si μ v0 0 (μ.1 v1 0)).1 v1 1)) v0 2 ((si (si μ v0 0 (μ.1 v1 0)) v0 1 ((si μ v0 0 (μ.1 v1 0)).1 v1 1)).1 v1 2)).1 v1 3)) v0 4 ((si (si (si (si μ v0 0 (μ.1 v1 0)) v0 1 ((si μ v0 0 (μ.1 v1 0)).1 v1 1)) v0 2 ((si (si μ v0 0 (μ.1 v1 0)) v0 1 ((si μ v0 0 (μ.1 v1 0)).1 v1 1)).1 v1 2)) v0 3 ((si (si (si μ v0 0 (μ.1 v1 0)) v0 1 ((si μ v0 0 (μ.1 v1 0)).1 v1 1)) v0 2 ((si (si μ v0 0 (μ.1 v1 0)) v0 1 ((si μ v0 0 (μ.1 v1 0)).1 v1 1)).1 v1 2)).1 v1 3)).1 v1 4)) v0 5 ((si (si (si (si (si μ v0 0 (μ.1 v1 0)) v0 1 ((si μ v0 0 (μ.1 v1 0)).1 v1 1)) v0 2 ((si (si μ v0 0 (μ.1 v1 0)) v0 1 ((si μ v0 0 (μ.1 v1 0)).1 v1 1)).1 v1 2)) v0 3 ((si (si (si μ v0 0 (μ.1 v1 0)) v0 1 ((si μ v0 0 (μ.1 v1 0)).1 v1 1)) v0 2 ((si (si μ v0 0 (μ.1 v1 0)) v0 1 ((si μ v0 0 (μ.1 v1 0)).1 v1 1)).1 v1 2)).1 v1 3)) v0 4 ((si (si (si (si μ v0 0 (μ.1 v1 0)) v0 1 ((si μ v0 0 (μ.1 v1 0)).1 v1 1)) v0 2 ((si (si μ v0 0 (μ.1 v1 0)) v0 1 ((si μ v0 0 (μ.1 v1 0)).1 v1 1)).1 v1 2)) v0 3 ((si (si (si μ v0 0 (μ.1 v1 0)) v0 1 ((si μ v0 0 (μ.1 v1 0)).1 v1 1)) v0 2 ((si (si μ v0 0 (μ.1 v1 0)) v0 1 ((si μ v0 0 (μ.1 v1 0)).1 v1 1)).1 v1 2)).1 v1 3)).1 v1 4)).1 v1 5)) v0 6 ((si (si (si (si (si (si μ v0 0 (μ.1 v1 0)) v0 1 ((si μ v0 0 (μ.1 v1 0)).1 v1 1)) v0 2 ((si (si μ v0 0 (μ.1 v1 0)) v0 1 ((si μ v0 0 (μ.1 v1 0)).1 v1 1)).1 v1 2)) v0 3 ((si (si (si μ v0 0 (μ.1 v1 0)) v0 1 ((si μ v0 0 (μ.1 v1 0)).1 v1 1)) v0 2 ((si (si μ v0 0 (μ.1 v1 0)) v0 1 ((si μ v0 0 (μ.1 v1 0)).1 v1 1)).1 v1 2)).1 v1 3)) v0 4 ((si (si (si (si μ v0 0 (μ.1 v1 0)) v0 1 ((si μ v0 0 (μ.1 v1 0)).1 v1 1)) v0 2 ((si (si μ v0 0 (μ.1 v1 0)) v0 1 ((si μ v0 0 (μ.1 v1 0)).1 v1 1)).1 v1 2)) v0 3 ((si (si (si μ v0 0 (μ.1 v1 0)) v0 1 ((si μ v0 0 (μ.1 v1 0)).1 v1 1)) v0 2 ((si (si μ v0 0 (μ.1 v1 0)) v0 1 ((si μ v0 0 (μ.1 v1 0)).1 v1 1)).1 v1 2)).1 v1 3)).1 v1 4)) v0 5 ((si (si (si (si (si μ v0 0 (μ.1 v1 0)) v0 1 ((si μ v0 0 (μ.1 v1 0)).1 v1 1)) v0 2 ((si (si μ v0 0 (μ.1 v1 0)) v0 1 ((si μ v0 0 (μ.1 v1 0)).1 v1 1)).1 v1 2)) v0 3 ((si (si (si μ v0 0 (μ.1 v1 0)) v0 1 ((si μ v0 0 (μ.1 v1 0)).1 v1 1)) v0 2 ((si (si μ v0 0 (μ.1 v1 0)) v0 1 ((si μ v0 0 (μ.1 v1 0)).1 v1 1)).1 v1 2)).1 v1 3)) v0 4 ((si (si (si (si μ v0 0 (μ.1 v1 0)) v0 1 ((si μ v0 0 (μ.1 v1 0)).1 v1 1)) v0 2 ((si (si μ v0 0 (μ.1 v1 0)) v0 1 ((si μ v0 0 (μ.1 v1 0)).1 v1 1)).1 v1 2)) v0 3 ((si (si (si μ v0 0 (μ.1 v1 0)) v0 1 ((si μ v0 0 (μ.1 v1 0)).1 v1 1)) v0 2 ((si (si μ v0 0 (μ.1 v1 0)) v0 1 ((si μ v0 0 (μ.1 v1 0)).1 v1 1)).1 v1 2)).1 v1 3)).1 v1 4)).1 v1 5)).1 v1 6)).1 v1 7)) (by unfold S_X5_copy; exact Or.inr (by omega))
  obtain ⟨hz69, h⟩ := bz_some h
  have hF := hF.si (o := v0) (k := 8) (v := ((si (si (si (si (si (si (si (si μ v0 0 (μ.1 v1 0)) v0 1 ((si μ v0 0 (μ.1 v1 0)).1 v1 1)) v0 2 ((si (si μ v0 0 (μ.1 v1 0)) v0 1 ((si μ v0 0 (μ.1 v1 0)).1 v1 1)).1 v1 2)) v0 3 ((si (si (si μ v0 0 (μ.1 v1 0)) v0 1 ((si μ v0 0 (μ.1 v1 0)).1 v1 1)) v0 2 ((si (si μ v0 0 (μ.1 v1 0)) v0 1 ((si μ v0 0 (μ.1 v1 0)).1 v1 1)).1 v1 2)).1 v1 3)) v0 4 ((si (si (si (si μ v0 0 (μ.1 v1 0)) v0 1 ((si μ v0 0 (μ.1 v1 0)).1 v1 1)) v0 2 ((si (si μ v0 0 (μ.1 v1 0)) v0 1 ((si μ v0 0 (μ.1 v1 0)).1 v1 1)).1 v1 2)) v0 3 ((si (si (si μ v0 0 (μ.1 v1 0)) v0 1 ((si μ v0 0 (μ.1 v1 0)).1 v1 1)) v0 2 ((si (si μ v0 0 (μ.1 v1 0)) v0 1 ((si μ v0 0 (μ.1 v1 0)).1 v1 1)).1 v1 2)).1 v1 3)).1 v1 4)) v0 5 ((si (si (si (si (si μ v0 0 (μ.1 v1 0)) v0 1 ((si μ v0 0 (μ.1 v1 0)).1 v1 1)) v0 2 ((si (si μ v0 0 (μ.1 v1 0)) v0 1 ((si μ v0 0 (μ.1 v1 0)).1 v1 1)).1 v1 2)) v0 3 ((si (si (si μ v0 0 (μ.1 v1 0)) v0 1 ((si μ v0 0 (μ.1 v1 0)).1 v1 1)) v0 2 ((si (si μ v0 0 (μ.1 v1 0)) v0 1 ((si μ v0 0 (μ.1 v1 0)).1 v1 1)).1 v1 2)).1 v1 3)) v0 4 ((si (si (si (si μ v0 0 (μ.1 v1 0)) v0 1 ((si μ v0 0 (μ.1 v1 0)).1 v1 1)) v0 2 ((si (si μ v0 0 (μ.1 v1 0)) v0 1 ((si μ v0 0 (μ.1 v1 0)).1 v1 1)).1 v1 2)) v0 3 ((si (si (si μ v0 0 (μ.1 v1 0)) v0 1 ((si μ v0 0 (μ.1 v1 0)).1 v1 1)) v0 2 ((si (si μ v0 0 (μ.1 v1 0)) v0 1 ((si μ v0 0 (μ.1 v1 0)).1 v1 1)).1 v1 2)).1 v1 3)).1 v1 4)).1 v1 5)) v0 6 ((si (si (si (si (si (si μ v0 0 (μ.1 v1 0)) v0 1 ((si μ v0 0 (μ.1 v1 0)).1 v1 1)) v0 2 ((si (si μ v0 0 (μ.1 v1 0)) v0 1 ((si μ v0 0 (μ.1 v1 0)).1 v1 1)).1 v1 2)) v0 3 ((si (si (si μ v0 0 (μ.1 v1 0)) v0 1 ((si μ v0 0 (μ.1 v1 0)).1 v1 1)) v0 2 ((si (si μ v0 0 (μ.1 v1 0)) v0 1 ((si μ v0 0 (μ.1 v1 0)).1 v1 1)).1 v1 2)).1 v1 3)) v0 4 ((si (si (si (si μ v0 0 (μ.1 v1 0)) v0 1 ((si μ v0 0 (μ.1 v1 0)).1 v1 1)) v0 2 ((si (si μ v0 0 (μ.1 v1 0)) v0 1 ((si μ v0 0 (μ.1 v1 0)).1 v1 1)).1 v1 2)) v0 3 ((si (si (si μ v0 0 (μ.1 v1 0)) v0 1 ((si μ v0 0 (μ.1 v1 0)).1 v1 1)) v0 2 ((si (si μ v0 0 (μ.1 v1 0)) v0 1 ((si μ v0 0 (μ.1 v1 0)).1 v1 1)).1 v1 2)).1 v1 3)).1 v1 4)) v0 5 ((si (si (si (si (si μ v0 0 (μ.1 v1 0)) v0 1 ((si μ v0 0 (μ.1 v1 0)).1 v1 1)) v0 2 ((si (si μ v0 0 (μ.1 v1 0)) v0 1 ((si μ v0 0 (μ.1 v1 0)).1 v1 1)).1 v1 2)) v0 3 ((si (si (si μ v0 0 (μ.1 v1 0)) v0 1 ((si μ v0 0 (μ.1 v1 0)).1 v1 1)) v0 2 ((si (si μ v0 0 (μ.1 v1 0)) v0 1 ((si μ v0 0 (μ.1 v1 0)).1 v1 1)).1 v1 2)).1 v1 3)) v0 4 ((si (si (si (si μ v0 0 (μ.1 v1 0)) v0 1 ((si μ v0 0 (μ.1 v1 0)).1 v1 1)) v0 2 ((si (si μ v0 0 (μ.1 v1 0)) v0 1 ((si μ v0 0 (μ.1 v1 0)).1 v1 1)).1 v1 2)) v0 3 ((si (si (si μ v0 0 (μ.1 v1 0)) v0 1 ((si μ v0 0 (μ.1 v1 0)).1 v1 1)) v0 2 ((si (si μ v0 0 (μ.1 v1 0)) v0 1 ((si μ v0 0 (μ.1 v1 0)).1 v1 1)).1 v1 2)).1 v1 3)).1 v1 4)).1 v1 5)).1 v1 6)) v0 7 ((si (si (si (si (si (si (si μ v0 0 (μ.1 v1 0)) v0 1 ((si μ v0 0 (μ.1 v1 0)).1 v1 1)) v0 2 ((si (si μ v0 0 (μ.1 v1 0)) v0 1 ((si μ v0 0 (μ.1 v1 0)).1 v1 1)).1 v1 2)) v0 3 ((si (si (si μ v0 0 (μ.1 v1 0)) v0 1 ((si μ v0 0 (μ.1 v1 0)).1 v1 1)) v0 2 ((si (si μ v0 0 (μ.1 v1 0)) v0 1 ((si μ v0 0 (μ.1 v1 0)).1 v1 1)).1 v1 2)).1 v1 3)) v0 4 ((si (si (si (si μ v0 0 (μ.1 v1 0)) v0 1 ((si μ v0 0 (μ.1 v1 0)).1 v1 1)) v0 2 ((si (si μ v0 0 (μ.1 v1 0)) v0 1 ((si μ v0 0 (μ.1 v1 0)).1 v1 1)).1 v1 2)) v0 3 ((si (si (si μ v0 0 (μ.1 v1 0)) v0 1 ((si μ v0 0 (μ.1 v1 0)).1 v1 1)) v0 2 ((si (si μ v0 0 (μ.1 v1 0)) v0 1 ((si μ v0 0 (μ.1 v1 0)).1 v1 1)).1 v1 2)).1 v1 3)).1 v1 4)) v0 5 ((si (si (si (si (si μ v0 0 (μ.1 v1 0)) v0 1 ((si μ v0 0 (μ.1 v1 0)).1 v1 1)) v0 2 ((si (si μ v0 0 (μ.1 v1 0)) v0 1 ((si μ v0 0 (μ.1 v1 0)).1 v1 1)).1 v1 2)) v0 3 ((si (si (si μ v0 0 (μ.1 v1 0)) v0 1 ((si μ v0 0 (μ.1 v1 0)).1 v1 1)) v0 2 ((si (si μ v0 0 (μ.1 v1 0)) v0 1 ((si μ v0 0 (μ.1 v1 0)).1 v1 1)).1 v1 2)).1 v1 3)) v0 4 ((si (si (si (si μ v0 0 (μ.1 v1 0)) v0 1 ((si μ v0 0 (μ.1 v1 0)).1 v1 1)) v0 2 ((si (si μ v0 0 (μ.1 v1 0)) v0 1 ((si μ v0 0 (μ.1 v1 0)).1 v1 1)).1 v1 2)) v0 3 ((si (si (si μ v0 0 (μ.1 v1 0)) v0 1 ((si μ v0 0 (μ.1 v1 0)).1 v1 1)) v0 2 ((si (si μ v0 0 (μ.1 v1 0)) v0 1 ((si μ v0 0 (μ.1 v1 0)).1 v1 1)).1 v1 2)).1 v1 3)).1 v1 4)).1 v1 5)) v0 6 ((si (si (si (si (si (si μ v0 0 (μ.1 v1 0)) v0 1 ((si μ v0 0 (μ.1 v1 0)).1 v1 1)) v0 2 ((si (si μ v0 0 (μ.1 v1 0)) v0 1 ((si μ v0 0 (μ.1 v1 0)).1 v1 1)).1 v1 2)) v0 3 ((si (si (si μ v0 0 (μ.1 v1 0)) v0 1 ((si μ v0 0 (μ.1 v1 0)).1 v1 1)) v0 2 ((si (si μ v0 0 (μ.1 v1 0)) v0 1 ((si μ v0 0 (μ.1 v1 0)).1 v1 1)).1 v1 2)).1 v1 3)) v0 4 ((si (si (si (si μ v0 0 (μ.1 v1 0)) v0 1 ((si μ v0 0 (μ.1 v1 0)).1 v1 1)) v0 2 ((si (si μ v0 0 (μ.1 v1 0)) v0 1 ((si μ v0 0 (μ.1 v1 0)).1 v1 1)).1 v1 2)) v0 3 ((si (si (si μ v0 0 (μ.1 v1 0)) v0 1 ((si μ v0 0 (μ.1 v1 0)).1 v1 1)) v0 2 ((si (si μ v0 0 (μ.1 v1 0)) v0 1 ((si μ v0 0 (μ.1 v1 0)).1 v1 1)).1 v1 2)).1 v1 3)).1 v1 4)) v0 5 ((si (si (si (si (si μ v0 0 (μ.1 v1 0)) v0 1 ((si μ v0 0 (μ.1 v1 0)).1 v1 1)) v0 2 ((si (si μ v0 0 (μ.1 v1 0)) v0 1 ((si μ v0 0 (μ.1 v1 0)).1 v1 1)).1 v1 2)) v0 3 ((si (si (si μ v0 0 (μ.1 v1 0)) v0 1 ((si μ v0 0 (μ.1 v1 0)).1 v1 1)) v0 2 ((si (si μ v0 0 (μ.1 v1 0)) v0 1 ((si μ v0 0 (μ.1 v1 0)).1 v1 1)).1 v1 2)).1 v1 3)) v0 4 ((si (si (si (si μ v0 0 (μ.1 v1 0)) v0 1 ((si μ v0 0 (μ.1 v1 0)).1 v1 1)) v0 2 ((si (si μ v0 0 (μ.1 v1 0)) v0 1 ((si μ v0 0 (μ.1 v1 0)).1 v1 1)).1 v1 2)) v0 3 ((si (si (si μ v0 0 (μ.1 v1 0)) v0 1 ((si μ v0 0 (μ.1 v1 0)).1 v1 1)) v0 2 ((si (si μ v0 0 (μ.1 v1 0)) v0 1 ((si μ v0 0 (μ.1 v1 0)).1 v1 1)).1 v1 2)).1 v1 3)).1 v1 4)).1 v1 5)).1 v1 6)).1 v1 7)).1 v1 8)) (by unfold S_X5_copy; exact Or.inr (by omega))
  rw [← Option.some.inj h]; exact hF
set_option maxRecDepth 100000 in
set_option maxHeartbeats 4000000 in
theorem fr_X5_isLacking (n : Nat) (v0 : Nat) (v1 : Int32) (μ : Mu) (r : Int32 × Mu) (h : X5_isLacking n v0 v1 μ = some r) : Fr (S_X5_isLacking v0 v1) μ r.2 := by
  rw [X5_isLacking] at h
  obtain ⟨hk0, h⟩ := kd_some h
  have hF : Fr (S_X5_isLacking v0 v1) μ μ := Fr.rf
  obtain ⟨μ0, hμ0⟩ : ∃ z, z = μ := ⟨_, rfl⟩
  rw [← hμ0]
  have hF : Fr (S_X5_isLacking v0 v1) μ0 μ := by rw [hμ0]; exact hF
  have B17 : ∀ (s0 : Int32) (μ : Mu), Fr (S_X5_isLacking v0 v1) μ0 μ → X5_isLacking_17 n v0 v1 s0 μ = some r → Fr (S_X5_isLacking v0 v1) μ0 r.2 := by
    intro s0 μ hF h
    rw [X5_isLacking_17] at h
    obtain ⟨hz17, h⟩ := bz_some h
    rw [← Option.some.inj h]; exact hF
  split at h
  rotate_left
  · skip
    exact B17 (0 : Int32) μ hF h
  · skip
    exact B17 (1 : Int32) μ hF h
set_option maxRecDepth 100000 in
set_option maxHeartbeats 4000000 in
theorem fr_X5_key (n : Nat) (v0 : Nat) (μ : Mu) (r : Int32 × Mu) (h : X5_key n v0 μ = some r) : Fr (S_X5_key v0) μ r.2 := by
  rw [X5_key] at h
  obtain ⟨hk0, h⟩ := kd_some h
  have hF : Fr (S_X5_key v0) μ μ := Fr.rf
  obtain ⟨μ0, hμ0⟩ : ∃ z, z = μ := ⟨_, rfl⟩
  rw [← hμ0]
  have hF : Fr (S_X5_key v0) μ0 μ := by rw [hμ0]; exact hF
  have B51 : ∀ (s0 : Int32) (s1 : Int32) (μ : Mu), Fr (S_X5_key v0) μ0 μ → X5_key_51 n v0 s0 s1 μ = some r → Fr (S_X5_key v0) μ0 r.2 := by
    intro s0 s1 μ hF h
    rw [X5_key_51] at h
    rw [← Option.some.inj h]; exact hF
  have B37 : ∀ (s0 : Int32) (s1 : Int32) (μ : Mu), Fr (S_X5_key v0) μ0 μ → X5_key_37 n v0 s0 s1 μ = some r → Fr (S_X5_key v0) μ0 r.2 := by
    intro s0 s1 μ hF h
    rw [X5_key_37] at h
    split at h
    · skip
      exact B51 (s0 ||| s1) (0 : Int32) μ hF h
    · skip
      exact B51 (s0 ||| s1) (8 : Int32) μ hF h
  have B24 : ∀ (s0 : Int32) (s1 : Int32) (μ : Mu), Fr (S_X5_key v0) μ0 μ → X5_key_24 n v0 s0 s1 μ = some r → Fr (S_X5_key v0) μ0 r.2 := by
    intro s0 s1 μ hF h
    rw [X5_key_24] at h
    split at h
    · skip
      exact B37 (s0 ||| s1) (0 : Int32) μ hF h
    · skip
      exact B37 (s0 ||| s1) (4 : Int32) μ hF h
  have B12 : ∀ (s0 : Int32) (μ : Mu), Fr (S_X5_key v0) μ0 μ → X5_key_12 n v0 s0 μ = some r → Fr (S_X5_key v0) μ0 r.2 := by
    intro s0 μ hF h
    rw [X5_key_12] at h
    split at h
    · skip
      exact B24 s0 (0 : Int32) μ hF h
    · skip
      exact B24 s0 (2 : Int32) μ hF h
  split at h
  · skip
    exact B12 (0 : Int32) μ hF h
  · skip
    exact B12 (1 : Int32) μ hF h
set_option maxRecDepth 100000 in
set_option maxHeartbeats 4000000 in
theorem fr_X6_clear (n : Nat) (v0 : Nat) (μ : Mu) (r : Unit × Mu) (h : X6_clear n v0 μ = some r) : Fr (S_X6_clear v0) μ r.2 := by
  rw [X6_clear] at h
  obtain ⟨hk0, h⟩ := kd_some h
  have hF : Fr (S_X6_clear v0) μ μ := Fr.rf
  obtain ⟨μ0, hμ0⟩ : ∃ z, z = μ := ⟨_, rfl⟩
  rw [← hμ0]
  have hF : Fr (S_X6_clear v0) μ0 μ := by rw [hμ0]; exact hF
  have B2 : ∀ (k : Nat), ∀ (v1 : Int32) (μ : Mu), Fr (S_X6_clear v0) μ0 μ → lpF (fun _ _ => none) (X6_clear_2b n v0) k v1 μ = some r → Fr (S_X6_clear v0) μ0 r.2 := by
    intro k
    induction k with
    | zero =>
      intro v1 μ hF h
      cases h
    | succ k ih2 =>
      rw [lpF_s]
      generalize lpF (fun _ _ => none) (X6_clear_2b n v0) k = k2 at ih2 ⊢
      intro v1 μ hF h
      rw [X6_clear_2b] at h
      split at h
      · skip
        have hF := hF.si (o := v0) (k := 1) (v := (0 : Int32)) (by unfold S_X6_clear; exact Or.inr (by omega))
        rw [← Option.some.inj h]; exact hF
      · skip
        obtain ⟨hi14, h⟩ := gd_some h
        have hjhi14 := vin_lt hi14 rfl
        have hF := hF.si (o := (v0 + 1)) (k := v1.toNatClampNeg) (v := (0 : Int32)) (by unfold S_X6_clear; exact Or.inr (by omega))
        exact ih2 (v1 + (1 : Int32)) (si μ (v0 + 1) v1.toNatClampNeg (0 : Int32)) hF h
  exact B2 n (0 : Int32) μ hF h
set_option maxRecDepth 100000 in
set_option maxHeartbeats 4000000 in
theorem fr_X6_copy (n : Nat) (v0 : Nat) (v1 : Nat) (μ : Mu) (r : Unit × Mu) (h : X6_copy n v0 v1 μ = some r) : Fr (S_X6_copy v0 v1) μ r.2 := by
  rw [X6_copy] at h
  obtain ⟨hk0, h⟩ := kd_some h
  obtain ⟨hk1, h⟩ := kd_some h
  have hF : Fr (S_X6_copy v0 v1) μ μ := Fr.rf
  obtain ⟨μ0, hμ0⟩ : ∃ z, z = μ := ⟨_, rfl⟩
  rw [← hμ0]
  have hF : Fr (S_X6_copy v0 v1) μ0 μ := by rw [hμ0]; exact hF
  have hF := hF.cp (a := (v1 + 1)) (o := (v0 + 1)) (fun k => by unfold S_X6_copy; exact Or.inr (by omega))
  have hF := hF.si (o := v0) (k := 1) (v := ((cp14 μ (v1 + 1) (v0 + 1)).1 v1 1)) (by unfold S_X6_copy; exact Or.inr (by omega))
  rw [← Option.some.inj h]; exact hF
set_option maxRecDepth 100000 in
set_option maxHeartbeats 4000000 in
theorem fr_X6_isLike (n : Nat) (v0 : Nat) (v1 : Nat) (μ : Mu) (r : Int32 × Mu) (h : X6_isLike n v0 v1 μ = some r) : Fr (S_X6_isLike v0 v1) μ r.2 := by
  rw [X6_isLike] at h
  obtain ⟨hk0, h⟩ := kd_some h
  obtain ⟨hk1, h⟩ := kd_some h
  have hF : Fr (S_X6_isLike v0 v1) μ μ := Fr.rf
  obtain ⟨μ0, hμ0⟩ : ∃ z, z = μ := ⟨_, rfl⟩
  rw [← hμ0]
  have hF : Fr (S_X6_isLike v0 v1) μ0 μ := by rw [hμ0]; exact hF
  have B47 : ∀ (s0 : Int32) (μ : Mu), Fr (S_X6_isLike v0 v1) μ0 μ → X6_isLike_47 n v0 v1 s0 μ = some r → Fr (S_X6_isLike v0 v1) μ0 r.2 := by
    intro s0 μ hF h
    rw [X6_isLike_47] at h
    obtain ⟨hz47, h⟩ := bz_some h
    rw [← Option.some.inj h]; exact hF
  have B2 : ∀ (k : Nat), ∀ (v2 : Int32) (μ : Mu), Fr (S_X6_isLike v0 v1) μ0 μ → lpF (fun _ _ => none) (X6_isLike_2b n v0 v1) k v2 μ = some r → Fr (S_X6_isLike v0 v1) μ0 r.2 := by
    intro k
    induction k with
    | zero =>
      intro v2 μ hF h
      cases h
    | succ k ih2 =>
      rw [lpF_s]
      generalize lpF (fun _ _ => none) (X6_isLike_2b n v0 v1) k = k2 at ih2 ⊢
      intro v2 μ hF h
      rw [X6_isLike_2b] at h
      split at h
      · skip
        split at h
        rotate_left
        · skip
          exact B47 (0 : Int32) μ hF h
        · skip
          exact B47 (1 : Int32) μ hF h
      · skip
        obtain ⟨hi13, h⟩ := gd_some h
        have hjhi13 := vin_lt hi13 rfl
        split at h
        · skip
          exact ih2 (v2 + (1 : Int32)) μ hF h
        · skip
          rw [← Option.some.inj h]; exact hF
  exact B2 n (0 : Int32) μ hF h
set_option maxRecDepth 100000 in
set_option maxHeartbeats 4000000 in
theorem fr_X6_inPits (n : Nat) (v0 : Nat) (μ : Mu) (r : Int32 × Mu) (h : X6_inPits n v0 μ = some r) : Fr (S_X6_inPits v0) μ r.2 := by
  rw [X6_inPits] at h
  obtain ⟨hk0, h⟩ := kd_some h
  have hF : Fr (S_X6_inPits v0) μ μ := Fr.rf
  obtain ⟨μ0, hμ0⟩ : ∃ z, z = μ := ⟨_, rfl⟩
  rw [← hμ0]
  have hF : Fr (S_X6_inPits v0) μ0 μ := by rw [hμ0]; exact hF
  have B4 : ∀ (k : Nat), ∀ (v1 : Int32) (v2 : Int32) (μ : Mu), Fr (S_X6_inPits v0) μ0 μ → lpF (fun _ _ _ => none) (X6_inPits_4b n v0) k v1 v2 μ = some r → Fr (S_X6_inPits v0) μ0 r.2 := by
    intro k
    induction k with
    | zero =>
      intro v1 v2 μ hF h
      cases h
    | succ k ih4 =>
      rw [lpF_s]
      generalize lpF (fun _ _ _ => none) (X6_inPits_4b n v0) k = k4 at ih4 ⊢
      intro v1 v2 μ hF h
      rw [X6_inPits_4b] at h
      split at h
      · skip
        rw [← Option.some.inj h]; exact hF
      · skip
        obtain ⟨hi16, h⟩ := gd_some h
        have hjhi16 := vin_lt hi16 rfl
        exact ih4 (v1 + (μ.1 (v0 + 1) v2.toNatClampNeg)) (v2 + (1 : Int32)) μ hF h
  exact B4 n (0 : Int32) (0 : Int32) μ hF h
set_option maxRecDepth 100000 in
set_option maxHeartbeats 4000000 in
theorem fr_X6_filled (n : Nat) (v0 : Nat) (v1 : Int32) (μ : Mu) (r : Int32 × Mu) (h : X6_filled n v0 v1 μ = some r) : Fr (S_X6_filled v0 v1) μ r.2 := by
  rw [X6_filled] at h
  obtain ⟨hk0, h⟩ := kd_some h
  have hF : Fr (S_X6_filled v0 v1) μ μ := Fr.rf
  obtain ⟨μ0, hμ0⟩ : ∃ z, z = μ := ⟨_, rfl⟩
  rw [← hμ0]
  have hF : Fr (S_X6_filled v0 v1) μ0 μ := by rw [hμ0]; exact hF
  have B9 : ∀ (k : Nat), ∀ (v2 : Int32) (v3 : Int32) (μ : Mu), Fr (S_X6_filled v0 v1) μ0 μ → lpF (fun _ _ _ => none) (X6_filled_9b n v0 v1) k v2 v3 μ = some r → Fr (S_X6_filled v0 v1) μ0 r.2 := by
    intro k
    induction k with
    | zero =>
      intro v2 v3 μ hF h
      cases h
    | succ k ih9 =>
      rw [lpF_s]
      generalize lpF (fun _ _ _ => none) (X6_filled_9b n v0 v1) k = k9 at ih9 ⊢
      intro v2 v3 μ hF h
      have B36 : ∀ (v2 : Int32) (v3 : Int32) (μ : Mu), Fr (S_X6_filled v0 v1) μ0 μ → X6_filled_36 n v0 v1 k9 v2 v3 μ = some r → Fr (S_X6_filled v0 v1) μ0 r.2 := by
        intro v2 v3 μ hF h
        rw [X6_filled_36] at h
        exact ih9 v2 (v3 + (1 : Int32)) μ hF h
      rw [X6_filled_9b] at h
      split at h
      · skip
        rw [← Option.some.inj h]; exact hF
      · skip
        obtain ⟨hi26, h⟩ := gd_some h
        have hjhi26 := vin_lt hi26 rfl
        split at h
        · skip
          exact B36 v2 v3 μ hF h
        · skip
          exact B36 (v2 ||| ((1 : Int32) <<< (v3 &&& 31))) v3 μ hF h
  exact B9 n (0 : Int32) ((μ.1 v0 1) * v1) μ hF h
set_option maxRecDepth 100000 in
set_option maxHeartbeats 4000000 in
theorem fr_X6_inRow (n : Nat) (v0 : Nat) (v1 : Int32) (v2 : Int32) (μ : Mu) (r : Int32 × Mu) (h : X6_inRow n v0 v1 v2 μ = some r) : Fr (S_X6_inRow v0 v1 v2) μ r.2 := by
  rw [X6_inRow] at h
  obtain ⟨hk0, h⟩ := kd_some h
  have hF : Fr (S_X6_inRow v0 v1 v2) μ μ := Fr.rf
  obtain ⟨μ0, hμ0⟩ : ∃ z, z = μ := ⟨_, rfl⟩
  rw [← hμ0]
  have hF : Fr (S_X6_inRow v0 v1 v2) μ0 μ := by rw [hμ0]; exact hF
  have B7 : ∀ (k : Nat), ∀ (v3 : Int32) (v4 : Int32) (μ : Mu), Fr (S_X6_inRow v0 v1 v2) μ0 μ → lpF (fun _ _ _ => none) (X6_inRow_7b n v0 v1 v2) k v3 v4 μ = some r → Fr (S_X6_inRow v0 v1 v2) μ0 r.2 := by
    intro k
    induction k with
    | zero =>
      intro v3 v4 μ hF h
      cases h
    | succ k ih7 =>
      rw [lpF_s]
      generalize lpF (fun _ _ _ => none) (X6_inRow_7b n v0 v1 v2) k = k7 at ih7 ⊢
      intro v3 v4 μ hF h
      rw [X6_inRow_7b] at h
      split at h
      · skip
        rw [← Option.some.inj h]; exact hF
      · skip
        obtain ⟨hi24, h⟩ := gd_some h
        have hjhi24 := vin_lt hi24 rfl
        exact ih7 (v3 + (μ.1 (v0 + 1) v4.toNatClampNeg)) (v4 + (1 : Int32)) μ hF h
  exact B7 n (0 : Int32) (v1 * v2) μ hF h
set_option maxRecDepth 100000 in
set_option maxHeartbeats 4000000 in
theorem fr_X7_halfOf (n : Nat) (v1 : Int32) (μ : Mu) (r : Int32 × Mu) (h : X7_halfOf n v1 μ = some r) : Fr (S_X7_halfOf v1) μ r.2 := by
  rw [X7_halfOf] at h
  have hF : Fr (S_X7_halfOf v1) μ μ := Fr.rf
  obtain ⟨μ0, hμ0⟩ : ∃ z, z = μ := ⟨_, rfl⟩
  rw [← hμ0]
  have hF : Fr (S_X7_halfOf v1) μ0 μ := by rw [hμ0]; exact hF
  have B15 : ∀ (s0 : Int32) (μ : Mu), Fr (S_X7_halfOf v1) μ0 μ → X7_halfOf_15 n v1 s0 μ = some r → Fr (S_X7_halfOf v1) μ0 r.2 := by
    intro s0 μ hF h
    rw [X7_halfOf_15] at h
    rw [← Option.some.inj h]; exact hF
  split at h
  · skip
    exact B15 v1 μ hF h
  · skip
    exact B15 (0 : Int32) μ hF h
set_option maxRecDepth 100000 in
set_option maxHeartbeats 4000000 in
theorem fr_X7_indexOf (n : Nat) (v1 : Int32) (v2 : Int32) (v3 : Int32) (μ : Mu) (r : Int32 × Mu) (h : X7_indexOf n v1 v2 v3 μ = some r) : Fr (S_X7_indexOf v1 v2 v3) μ r.2 := by
  rw [X7_indexOf] at h
  have hF : Fr (S_X7_indexOf v1 v2 v3) μ μ := Fr.rf
  obtain ⟨μ0, hμ0⟩ : ∃ z, z = μ := ⟨_, rfl⟩
  rw [← hμ0]
  have hF : Fr (S_X7_indexOf v1 v2 v3) μ0 μ := by rw [hμ0]; exact hF
  obtain ⟨r2, hr2, h⟩ := bnd h
  have hF := hF.tr (fr_X7_halfOf n v1 μ r2 hr2) (fun o k hS => (subL_of (L1 := []) (by decide +kernel) hS))
  obtain ⟨r16, hr16, h⟩ := bnd h
  have hF := hF.tr (fr_X1_positionsUpTo n (v2 - (1 : Int32)) r2.2 r16 hr16) (fun o k hS => (subL_of (L1 := []) (by decide +kernel) hS))
  rw [← Option.some.inj h]; exact hF
set_option maxRecDepth 100000 in
set_option maxHeartbeats 4000000 in
theorem fr_X7_indexAt (n : Nat) (v1 : Nat) (v2 : Int32) (μ : Mu) (r : Int32 × Mu) (h : X7_indexAt n v1 v2 μ = some r) : Fr (S_X7_indexAt v1 v2) μ r.2 := by
  rw [X7_indexAt] at h
  obtain ⟨hk1, h⟩ := kd_some h
  have hF : Fr (S_X7_indexAt v1 v2) μ μ := Fr.rf
  obtain ⟨μ0, hμ0⟩ : ∃ z, z = μ := ⟨_, rfl⟩
  rw [← hμ0]
  have hF : Fr (S_X7_indexAt v1 v2) μ0 μ := by rw [hμ0]; exact hF
  obtain ⟨r12, hr12, h⟩ := bnd h
  have hF := hF.tr (fr_X1_numberOf n v1 v2 μ r12 hr12) (fun o k hS => (subL_of (L1 := []) (by decide +kernel) hS))
  obtain ⟨r15, hr15, h⟩ := bnd h
  have hF := hF.tr (fr_X7_indexOf n (μ.1 v1 1) v2 r12.1 r12.2 r15 hr15) (fun o k hS => (subL_of (L1 := []) (by decide +kernel) hS))
  rw [← Option.some.inj h]; exact hF
set_option maxRecDepth 100000 in
set_option maxHeartbeats 4000000 in
theorem fr_X7_readMove (n : Nat) (v1 : Int32) (v2 : Int32) (v3 : Int32) (μ : Mu) (r : Unit × Mu) (h : X7_readMove n v1 v2 v3 μ = some r) : Fr (S_X7_readMove v1 v2 v3) μ r.2 := by
  rw [X7_readMove] at h
  have hF : Fr (S_X7_readMove v1 v2 v3) μ μ := Fr.rf
  obtain ⟨μ0, hμ0⟩ : ∃ z, z = μ := ⟨_, rfl⟩
  rw [← hμ0]
  have hF : Fr (S_X7_readMove v1 v2 v3) μ0 μ := by rw [hμ0]; exact hF
  have B128 : ∀ (μ : Mu), Fr (S_X7_readMove v1 v2 v3) μ0 μ → X7_readMove_128 n v1 v2 v3  μ = some r → Fr (S_X7_readMove v1 v2 v3) μ0 r.2 := by
    intro μ hF h
    rw [X7_readMove_128] at h
    rw [← Option.some.inj h]; exact hF
  have B75 : ∀ (v4 : Int32) (s0 : Int32) (μ : Mu), Fr (S_X7_readMove v1 v2 v3) μ0 μ → X7_readMove_75 n v1 v2 v3 v4 s0 μ = some r → Fr (S_X7_readMove v1 v2 v3) μ0 r.2 := by
    intro v4 s0 μ hF h
    rw [X7_readMove_75] at h
    obtain ⟨hi87, h⟩ := gd_some h
    have hjhi87 := vin_lt hi87 rfl
    have hF := hF.si (o := 18) (k := v1.toNatClampNeg) (v := (if (μ.1 18 v1.toNatClampNeg) < (v4 + s0) then (v4 + s0) else (μ.1 18 v1.toNatClampNeg))) (by unfold S_X7_readMove; exact inL_mk 18 18 9999 (by decide) (by omega) (by omega) (by omega))
    exact B128 (si μ 18 v1.toNatClampNeg (if (μ.1 18 v1.toNatClampNeg) < (v4 + s0) then (v4 + s0) else (μ.1 18 v1.toNatClampNeg))) hF h
  obtain ⟨hi8, h⟩ := gd_some h
  have hjhi8 := vin_lt hi8 rfl
  obtain ⟨r25, hr25, h⟩ := bnd h
  have hF := hF.tr (fr_X7_indexAt n (57 + 2 * v3.toNatClampNeg) (v2 - (μ.1 8 v3.toNatClampNeg)) μ r25 hr25) (fun o k hS => (subL_of (L1 := []) (by decide +kernel) hS))
  split at h
  · skip
    obtain ⟨hi113, h⟩ := gd_some h
    have hjhi113 := vin_lt hi113 rfl
    obtain ⟨hi117, h⟩ := gd_some h
    have hjhi117 := vin_lt hi117 rfl
    have hF := hF.si (o := 21) (k := ((v1 * (6 : Int32)) + (r25.2.1 20 v1.toNatClampNeg)).toNatClampNeg) (v := r25.1) (by unfold S_X7_readMove; exact inL_mk 21 21 9999 (by decide) (by omega) (by omega) (by omega))
    have hF := hF.si (o := 20) (k := v1.toNatClampNeg) (v := (((si r25.2 21 ((v1 * (6 : Int32)) + (r25.2.1 20 v1.toNatClampNeg)).toNatClampNeg r25.1).1 20 v1.toNatClampNeg) + (1 : Int32))) (by unfold S_X7_readMove; exact inL_mk 20 20 9999 (by decide) (by omega) (by omega) (by omega))
    exact B128 (si (si r25.2 21 ((v1 * (6 : Int32)) + (r25.2.1 20 v1.toNatClampNeg)).toNatClampNeg r25.1) 20 v1.toNatClampNeg (((si r25.2 21 ((v1 * (6 : Int32)) + (r25.2.1 20 v1.toNatClampNeg)).toNatClampNeg r25.1).1 20 v1.toNatClampNeg) + (1 : Int32))) hF h
  · skip
    split at h
    rotate_left
    · skip
      obtain ⟨hi73, h⟩ := gd_some h
      have hjhi73 := vin_lt hi73 rfl
      exact B75 (μ.1 8 v3.toNatClampNeg) (-(r25.2.1 16 r25.1.toNatClampNeg)) r25.2 hF h
    · skip
      obtain ⟨hi63, h⟩ := gd_some h
      have hjhi63 := vin_lt hi63 rfl
      exact B75 (μ.1 8 v3.toNatClampNeg) (r25.2.1 16 r25.1.toNatClampNeg) r25.2 hF h
set_option maxRecDepth 100000 in
set_option maxHeartbeats 4000000 in
theorem fr_X7_weighAll (n : Nat) (v1 : Int32) (v2 : Int32) (μ : Mu) (r : Unit × Mu) (h : X7_weighAll n v1 v2 μ = some r) : Fr (S_X7_weighAll v1 v2) μ r.2 := by
  rw [X7_weighAll] at h
  have hF : Fr (S_X7_weighAll v1 v2) μ μ := Fr.rf
  obtain ⟨μ0, hμ0⟩ : ∃ z, z = μ := ⟨_, rfl⟩
  rw [← hμ0]
  have hF : Fr (S_X7_weighAll v1 v2) μ0 μ := by rw [hμ0]; exact hF
  have B22 : ∀ (k : Nat), ∀ (v3 : Int32) (v4 : Int32) (μ : Mu), Fr (S_X7_weighAll v1 v2) μ0 μ → lpF (fun _ _ _ => none) (X7_weighAll_22b n v1 v2) k v3 v4 μ = some r → Fr (S_X7_weighAll v1 v2) μ0 r.2 := by
    intro k
    induction k with
    | zero =>
      intro v3 v4 μ hF h
      cases h
    | succ k ih22 =>
      rw [lpF_s]
      generalize lpF (fun _ _ _ => none) (X7_weighAll_22b n v1 v2) k = k22 at ih22 ⊢
      intro v3 v4 μ hF h
      have B58 : ∀ (k : Nat), ∀ (v3 : Int32) (v4 : Int32) (v5 : Int32) (v6 : Int32) (v7 : Int32) (μ : Mu), Fr (S_X7_weighAll v1 v2) μ0 μ → lpF (fun _ _ _ _ _ _ => none) (X7_weighAll_58b n v1 v2 k22) k v3 v4 v5 v6 v7 μ = some r → Fr (S_X7_weighAll v1 v2) μ0 r.2 := by
        intro k
        induction k with
        | zero =>
          intro v3 v4 v5 v6 v7 μ hF h
          cases h
        | succ k ih58 =>
          rw [lpF_s]
          generalize lpF (fun _ _ _ _ _ _ => none) (X7_weighAll_58b n v1 v2 k22) k = k58 at ih58 ⊢
          intro v3 v4 v5 v6 v7 μ hF h
          have B91 : ∀ (v3 : Int32) (v4 : Int32) (v5 : Int32) (v6 : Int32) (v7 : Int32) (μ : Mu), Fr (S_X7_weighAll v1 v2) μ0 μ → X7_weighAll_91 n v1 v2 k22 k58 v3 v4 v5 v6 v7 μ = some r → Fr (S_X7_weighAll v1 v2) μ0 r.2 := by
            intro v3 v4 v5 v6 v7 μ hF h
            rw [X7_weighAll_91] at h
            exact ih58 v3 v4 v5 v6 (v7 + ((-1) : Int32)) μ hF h
          rw [X7_weighAll_58b] at h
          split at h
          · skip
            obtain ⟨hi105, h⟩ := gd_some h
            have hjhi105 := vin_lt hi105 rfl
            have hF := hF.si (o := 19) (k := v4.toNatClampNeg) (v := v5) (by unfold S_X7_weighAll; exact inL_mk 19 19 9999 (by decide) (by omega) (by omega) (by omega))
            exact ih22 v3 (v4 + (1 : Int32)) (si μ 19 v4.toNatClampNeg v5) hF h
          · skip
            obtain ⟨hi75, h⟩ := gd_some h
            have hjhi75 := vin_lt hi75 rfl
            obtain ⟨hi76, h⟩ := gd_some h
            have hjhi76 := vin_lt hi76 rfl
            split at h
            · skip
              exact B91 v3 v4 v5 v6 v7 μ hF h
            · skip
              exact B91 v3 v4 (-(μ.1 16 (μ.1 21 v7.toNatClampNeg).toNatClampNeg)) v6 v7 μ hF h
      rw [X7_weighAll_22b] at h
      split at h
      · skip
        rw [← Option.some.inj h]; exact hF
      · skip
        obtain ⟨hi34, h⟩ := gd_some h
        have hjhi34 := vin_lt hi34 rfl
        exact B58 n v3 v4 (μ.1 18 v4.toNatClampNeg) (v4 * (6 : Int32)) (((v4 * (6 : Int32)) + (μ.1 20 v4.toNatClampNeg)) - (1 : Int32)) μ hF h
  obtain ⟨r10, hr10, h⟩ := bnd h
  have hF := hF.tr (fr_X1_positionsOf n v2 μ r10 hr10) (fun o k hS => (subL_of (L1 := []) (by decide +kernel) hS))
  exact B22 n ((v1 * (3003 : Int32)) + r10.1) (v1 * (3003 : Int32)) r10.2 hF h
set_option maxRecDepth 100000 in
set_option maxHeartbeats 4000000 in
theorem fr_X7_settleAll (n : Nat) (v1 : Int32) (v2 : Int32) (v3 : Int32) (μ : Mu) (r : Int32 × Mu) (h : X7_settleAll n v1 v2 v3 μ = some r) : Fr (S_X7_settleAll v1 v2 v3) μ r.2 := by
  rw [X7_settleAll] at h
  have hF : Fr (S_X7_settleAll v1 v2 v3) μ μ := Fr.rf
  obtain ⟨μ0, hμ0⟩ : ∃ z, z = μ := ⟨_, rfl⟩
  rw [← hμ0]
  have hF : Fr (S_X7_settleAll v1 v2 v3) μ0 μ := by rw [hμ0]; exact hF
  have B25 : ∀ (k : Nat), ∀ (v4 : Int32) (v5 : Int32) (v6 : Int32) (v7 : Int32) (μ : Mu), Fr (S_X7_settleAll v1 v2 v3) μ0 μ → lpF (fun _ _ _ _ _ => none) (X7_settleAll_25b n v1 v2 v3) k v4 v5 v6 v7 μ = some r → Fr (S_X7_settleAll v1 v2 v3) μ0 r.2 := by
    intro k
    induction k with
    | zero =>
      intro v4 v5 v6 v7 μ hF h
      cases h
    | succ k ih25 =>
      rw [lpF_s]
      generalize lpF (fun _ _ _ _ _ => none) (X7_settleAll_25b n v1 v2 v3) k = k25 at ih25 ⊢
      intro v4 v5 v6 v7 μ hF h
      have B102 : ∀ (v4 : Int32) (v5 : Int32) (v6 : Int32) (v7 : Int32) (μ : Mu), Fr (S_X7_settleAll v1 v2 v3) μ0 μ → X7_settleAll_102 n v1 v2 v3 k25 v4 v5 v6 v7 μ = some r → Fr (S_X7_settleAll v1 v2 v3) μ0 r.2 := by
        intro v4 v5 v6 v7 μ hF h
        rw [X7_settleAll_102] at h
        exact ih25 v4 v5 v6 (v7 + (1 : Int32)) μ hF h
      rw [X7_settleAll_25b] at h
      split at h
      · skip
        obtain ⟨hz110, h⟩ := bz_some h
        rw [← Option.some.inj h]; exact hF
      · skip
        obtain ⟨hi44, h⟩ := gd_some h
        have hjhi44 := vin_lt hi44 rfl
        obtain ⟨hi56, h⟩ := gd_some h
        have hjhi56 := vin_lt hi56 rfl
        split at h
        · skip
          exact B102 v4 v5 v6 v7 μ hF h
        · skip
          split at h
          · skip
            exact B102 v4 v5 v6 v7 μ hF h
          · skip
            have hF := hF.si (o := 16) (k := (v5 + v7).toNatClampNeg) (v := (μ.1 19 ((v1 * (3003 : Int32)) + v7).toNatClampNeg)) (by unfold S_X7_settleAll; exact inL_mk 16 16 9999 (by decide) (by omega) (by omega) (by omega))
            have hF := hF.si (o := 17) (k := (v5 + v7).toNatClampNeg) (v := v3) (by unfold S_X7_settleAll; exact inL_mk 17 17 9999 (by decide) (by omega) (by omega) (by omega))
            exact B102 v4 v5 (1 : Int32) v7 (si (si μ 16 (v5 + v7).toNatClampNeg (μ.1 19 ((v1 * (3003 : Int32)) + v7).toNatClampNeg)) 17 (v5 + v7).toNatClampNeg v3) hF h
  obtain ⟨r5, hr5, h⟩ := bnd h
  have hF := hF.tr (fr_X1_positionsOf n v2 μ r5 hr5) (fun o k hS => (subL_of (L1 := []) (by decide +kernel) hS))
  obtain ⟨r14, hr14, h⟩ := bnd h
  have hF := hF.tr (fr_X7_indexOf n v1 v2 (0 : Int32) r5.2 r14 hr14) (fun o k hS => (subL_of (L1 := []) (by decide +kernel) hS))
  exact B25 n r5.1 r14.1 (0 : Int32) (0 : Int32) r14.2 hF h
set_option maxRecDepth 100000 in
set_option maxHeartbeats 4000000 in
theorem fr_X7_valueAt (n : Nat) (v1 : Nat) (μ : Mu) (r : Int32 × Mu) (h : X7_valueAt n v1 μ = some r) : Fr (S_X7_valueAt v1) μ r.2 := by
  rw [X7_valueAt] at h
  obtain ⟨hk1, h⟩ := kd_some h
  have hF : Fr (S_X7_valueAt v1) μ μ := Fr.rf
  obtain ⟨μ0, hμ0⟩ : ∃ z, z = μ := ⟨_, rfl⟩
  rw [← hμ0]
  have hF : Fr (S_X7_valueAt v1) μ0 μ := by rw [hμ0]; exact hF
  obtain ⟨r7, hr7, h⟩ := bnd h
  have hF := hF.tr (fr_X6_inPits n v1 μ r7 hr7) (fun o k hS => (subL_of (L1 := []) (by decide +kernel) hS))
  obtain ⟨r10, hr10, h⟩ := bnd h
  have hF := hF.tr (fr_X7_indexAt n v1 r7.1 r7.2 r10 hr10) (fun o k hS => (subL_of (L1 := []) (by decide +kernel) hS))
  obtain ⟨hi13, h⟩ := gd_some h
  have hjhi13 := vin_lt hi13 rfl
  rw [← Option.some.inj h]; exact hF
set_option maxRecDepth 100000 in
set_option maxHeartbeats 4000000 in
theorem fr_X7_rankOf (n : Nat) (v1 : Int32) (μ : Mu) (r : Int32 × Mu) (h : X7_rankOf n v1 μ = some r) : Fr (S_X7_rankOf v1) μ r.2 := by
  rw [X7_rankOf] at h
  have hF : Fr (S_X7_rankOf v1) μ μ := Fr.rf
  obtain ⟨μ0, hμ0⟩ : ∃ z, z = μ := ⟨_, rfl⟩
  rw [← hμ0]
  have hF : Fr (S_X7_rankOf v1) μ0 μ := by rw [hμ0]; exact hF
  obtain ⟨hi6, h⟩ := gd_some h
  have hjhi6 := vin_lt hi6 rfl
  rw [← Option.some.inj h]; exact hF
set_option maxRecDepth 100000 in
set_option maxHeartbeats 4000000 in
theorem fr_X7_markOf (n : Nat) (v1 : Nat) (μ : Mu) (r : Int32 × Mu) (h : X7_markOf n v1 μ = some r) : Fr (S_X7_markOf v1) μ r.2 := by
  rw [X7_markOf] at h
  obtain ⟨hk1, h⟩ := kd_some h
  have hF : Fr (S_X7_markOf v1) μ μ := Fr.rf
  obtain ⟨μ0, hμ0⟩ : ∃ z, z = μ := ⟨_, rfl⟩
  rw [← hμ0]
  have hF : Fr (S_X7_markOf v1) μ0 μ := by rw [hμ0]; exact hF
  obtain ⟨r1, hr1, h⟩ := bnd h
  have hF := hF.tr (fr_X6_inPits n v1 μ r1 hr1) (fun o k hS => (subL_of (L1 := []) (by decide +kernel) hS))
  obtain ⟨r13, hr13, h⟩ := bnd h
  have hF := hF.tr (fr_X1_positionsUpTo n (r1.1 - (1 : Int32)) r1.2 r13 hr13) (fun o k hS => (subL_of (L1 := []) (by decide +kernel) hS))
  obtain ⟨r22, hr22, h⟩ := bnd h
  have hF := hF.tr (fr_X1_numberOf n v1 r1.1 r13.2 r22 hr22) (fun o k hS => (subL_of (L1 := []) (by decide +kernel) hS))
  rw [← Option.some.inj h]; exact hF
set_option maxRecDepth 100000 in
set_option maxHeartbeats 4000000 in
theorem fr_X7_isOfKind (n : Nat) (v1 : Int32) (v2 : Int32) (μ : Mu) (r : Int32 × Mu) (h : X7_isOfKind n v1 v2 μ = some r) : Fr (S_X7_isOfKind v1 v2) μ r.2 := by
  rw [X7_isOfKind] at h
  have hF : Fr (S_X7_isOfKind v1 v2) μ μ := Fr.rf
  obtain ⟨μ0, hμ0⟩ : ∃ z, z = μ := ⟨_, rfl⟩
  rw [← hμ0]
  have hF : Fr (S_X7_isOfKind v1 v2) μ0 μ := by rw [hμ0]; exact hF
  have B42 : ∀ (s0 : Int32) (μ : Mu), Fr (S_X7_isOfKind v1 v2) μ0 μ → X7_isOfKind_42 n v1 v2 s0 μ = some r → Fr (S_X7_isOfKind v1 v2) μ0 r.2 := by
    intro s0 μ hF h
    rw [X7_isOfKind_42] at h
    obtain ⟨hz42, h⟩ := bz_some h
    rw [← Option.some.inj h]; exact hF
  have B57 : ∀ (s0 : Int32) (μ : Mu), Fr (S_X7_isOfKind v1 v2) μ0 μ → X7_isOfKind_57 n v1 v2 s0 μ = some r → Fr (S_X7_isOfKind v1 v2) μ0 r.2 := by
    intro s0 μ hF h
    rw [X7_isOfKind_57] at h
    obtain ⟨hz57, h⟩ := bz_some h
    rw [← Option.some.inj h]; exact hF
  have B72 : ∀ (s0 : Int32) (μ : Mu), Fr (S_X7_isOfKind v1 v2) μ0 μ → X7_isOfKind_72 n v1 v2 s0 μ = some r → Fr (S_X7_isOfKind v1 v2) μ0 r.2 := by
    intro s0 μ hF h
    rw [X7_isOfKind_72] at h
    obtain ⟨hz72, h⟩ := bz_some h
    rw [← Option.some.inj h]; exact hF
  have B88 : ∀ (s0 : Int32) (μ : Mu), Fr (S_X7_isOfKind v1 v2) μ0 μ → X7_isOfKind_88 n v1 v2 s0 μ = some r → Fr (S_X7_isOfKind v1 v2) μ0 r.2 := by
    intro s0 μ hF h
    rw [X7_isOfKind_88] at h
    obtain ⟨hz88, h⟩ := bz_some h
    rw [← Option.some.inj h]; exact hF
  by_cases hs1_0 : v2 = (0 : Int32)
  · rw [if_pos hs1_0] at h
    obtain ⟨hi33, h⟩ := gd_some h
    have hjhi33 := vin_lt hi33 rfl
    split at h
    · skip
      exact B42 (0 : Int32) μ hF h
    · skip
      exact B42 (1 : Int32) μ hF h
  rw [if_neg hs1_0] at h
  by_cases hs1_1 : v2 = (1 : Int32)
  · rw [if_pos hs1_1] at h
    obtain ⟨hi48, h⟩ := gd_some h
    have hjhi48 := vin_lt hi48 rfl
    split at h
    rotate_left
    · skip
      exact B57 (0 : Int32) μ hF h
    · skip
      exact B57 (1 : Int32) μ hF h
  rw [if_neg hs1_1] at h
  by_cases hs1_2 : v2 = (2 : Int32)
  · rw [if_pos hs1_2] at h
    obtain ⟨hi63, h⟩ := gd_some h
    have hjhi63 := vin_lt hi63 rfl
    split at h
    · skip
      exact B72 (0 : Int32) μ hF h
    · skip
      exact B72 (1 : Int32) μ hF h
  rw [if_neg hs1_2] at h
  obtain ⟨hi78, h⟩ := gd_some h
  have hjhi78 := vin_lt hi78 rfl
  split at h
  rotate_left
  · skip
    exact B88 (0 : Int32) μ hF h
  · skip
    exact B88 (1 : Int32) μ hF h
set_option maxRecDepth 100000 in
set_option maxHeartbeats 4000000 in
theorem fr_X7_measure (n : Nat) (v1 : Int32) (v2 : Int32) (μ : Mu) (r : Int32 × Mu) (h : X7_measure n v1 v2 μ = some r) : Fr (S_X7_measure v1 v2) μ r.2 := by
  rw [X7_measure] at h
  have hF : Fr (S_X7_measure v1 v2) μ μ := Fr.rf
  obtain ⟨μ0, hμ0⟩ : ∃ z, z = μ := ⟨_, rfl⟩
  rw [← hμ0]
  have hF : Fr (S_X7_measure v1 v2) μ0 μ := by rw [hμ0]; exact hF
  by_cases hs1_0 : v2 = (0 : Int32)
  · rw [if_pos hs1_0] at h
    obtain ⟨hi33, h⟩ := gd_some h
    have hjhi33 := vin_lt hi33 rfl
    rw [← Option.some.inj h]; exact hF
  rw [if_neg hs1_0] at h
  by_cases hs1_1 : v2 = (1 : Int32)
  · rw [if_pos hs1_1] at h
    obtain ⟨hi40, h⟩ := gd_some h
    have hjhi40 := vin_lt hi40 rfl
    rw [← Option.some.inj h]; exact hF
  rw [if_neg hs1_1] at h
  obtain ⟨r45, hr45, h⟩ := bnd h
  have hF := hF.tr (fr_X7_rankOf n v1 μ r45 hr45) (fun o k hS => (subL_of (L1 := []) (by decide +kernel) hS))
  rw [← Option.some.inj h]; exact hF
set_option maxRecDepth 100000 in
set_option maxHeartbeats 4000000 in
theorem fr_X7_worthOfTried (n : Nat) (v1 : Nat) (v2 : Int32) (μ : Mu) (r : Int32 × Mu) (h : X7_worthOfTried n v1 v2 μ = some r) : Fr (S_X7_worthOfTried v1 v2) μ r.2 := by
  rw [X7_worthOfTried] at h
  obtain ⟨hk1, h⟩ := kd_some h
  have hF : Fr (S_X7_worthOfTried v1 v2) μ μ := Fr.rf
  obtain ⟨μ0, hμ0⟩ : ∃ z, z = μ := ⟨_, rfl⟩
  rw [← hμ0]
  have hF : Fr (S_X7_worthOfTried v1 v2) μ0 μ := by rw [hμ0]; exact hF
  have B85 : ∀ (s0 : Int32) (s1 : Int32) (μ : Mu), Fr (S_X7_worthOfTried v1 v2) μ0 μ → X7_worthOfTried_85 n v1 v2 s0 s1 μ = some r → Fr (S_X7_worthOfTried v1 v2) μ0 r.2 := by
    intro s0 s1 μ hF h
    rw [X7_worthOfTried_85] at h
    rw [← Option.some.inj h]; exact hF
  have B44 : ∀ (v3 : Nat) (v4 : Int32) (s1 : Int32) (μ : Mu), Fr (S_X7_worthOfTried v1 v2) μ0 μ → X7_worthOfTried_44 n v1 v2 v3 v4 s1 μ = some r → Fr (S_X7_worthOfTried v1 v2) μ0 r.2 := by
    intro v3 v4 s1 μ hF h
    rw [X7_worthOfTried_44] at h
    obtain ⟨hqv3_44, h⟩ := kd_some h
    have hjhqv3_44 := kdI hqv3_44
    have hF := hF.si (o := 15) (k := 8) (v := s1) (by unfold S_X7_worthOfTried; exact inL_mk 15 15 8 (by decide) (by omega) (by omega) (by omega))
    obtain ⟨hi55, h⟩ := gd_some h
    have hjhi55 := vin_lt hi55 rfl
    split at h
    rotate_left
    · skip
      obtain ⟨hi83, h⟩ := gd_some h
      have hjhi83 := vin_lt hi83 rfl
      exact B85 ((si μ 15 8 s1).1 8 v2.toNatClampNeg) (-((si μ 15 8 s1).1 16 v4.toNatClampNeg)) (si μ 15 8 s1) hF h
    · skip
      obtain ⟨hi73, h⟩ := gd_some h
      have hjhi73 := vin_lt hi73 rfl
      exact B85 ((si μ 15 8 s1).1 8 v2.toNatClampNeg) ((si μ 15 8 s1).1 16 v4.toNatClampNeg) (si μ 15 8 s1) hF h
  obtain ⟨hi8, h⟩ := gd_some h
  have hjhi8 := vin_lt hi8 rfl
  obtain ⟨r13, hr13, h⟩ := bnd h
  have hF := hF.tr (fr_X6_inPits n (57 + 2 * v2.toNatClampNeg) μ r13 hr13) (fun o k hS => (subL_of (L1 := []) (by decide +kernel) hS))
  obtain ⟨r16, hr16, h⟩ := bnd h
  have hF := hF.tr (fr_X7_indexAt n (57 + 2 * v2.toNatClampNeg) r13.1 r13.2 r16 hr16) (fun o k hS => (subL_of (L1 := []) (by decide +kernel) hS))
  split at h
  · skip
    obtain ⟨r41, hr41, h⟩ := bnd h
    have hF := hF.tr (fr_X7_rankOf n r16.1 r16.2 r41 hr41) (fun o k hS => (subL_of (L1 := []) (by decide +kernel) hS))
    exact B44 (57 + 2 * v2.toNatClampNeg) r16.1 r41.1 r41.2 hF h
  · skip
    exact B44 (57 + 2 * v2.toNatClampNeg) r16.1 (0 : Int32) r16.2 hF h
set_option maxRecDepth 100000 in
set_option maxHeartbeats 4000000 in
theorem fr_X8_isOwn (n : Nat) (v1 : Nat) (v2 : Int64) (μ : Mu) (r : Int32 × Mu) (h : X8_isOwn n v1 v2 μ = some r) : Fr (S_X8_isOwn v1 v2) μ r.2 := by
  rw [X8_isOwn] at h
  obtain ⟨hk1, h⟩ := kd_some h
  have hF : Fr (S_X8_isOwn v1 v2) μ μ := Fr.rf
  obtain ⟨μ0, hμ0⟩ : ∃ z, z = μ := ⟨_, rfl⟩
  rw [← hμ0]
  have hF : Fr (S_X8_isOwn v1 v2) μ0 μ := by rw [hμ0]; exact hF
  have B55 : ∀ (s0 : Int32) (μ : Mu), Fr (S_X8_isOwn v1 v2) μ0 μ → X8_isOwn_55 n v1 v2 s0 μ = some r → Fr (S_X8_isOwn v1 v2) μ0 r.2 := by
    intro s0 μ hF h
    rw [X8_isOwn_55] at h
    obtain ⟨hz55, h⟩ := bz_some h
    rw [← Option.some.inj h]; exact hF
  have B54 : ∀ (μ : Mu), Fr (S_X8_isOwn v1 v2) μ0 μ → X8_isOwn_54 n v1 v2  μ = some r → Fr (S_X8_isOwn v1 v2) μ0 r.2 := by
    intro μ hF h
    rw [X8_isOwn_54] at h
    exact B55 (0 : Int32) μ hF h
  split at h
  · skip
    exact B54 μ hF h
  · skip
    split at h
    · skip
      exact B54 μ hF h
    · skip
      obtain ⟨r44, hr44, h⟩ := bnd h
      have hF := hF.tr (fr_X5_isLacking n 1 (v2.toInt32) μ r44 hr44) (fun o k hS => (subL_of (L1 := []) (by decide +kernel) hS))
      split at h
      rotate_left
      · skip
        exact B54 r44.2 hF h
      · skip
        exact B55 (1 : Int32) r44.2 hF h
set_option maxRecDepth 100000 in
set_option maxHeartbeats 4000000 in
theorem fr_X8_scatter (n : Nat) (v1 : Nat) (v2 : Int32) (μ : Mu) (r : Int32 × Mu) (h : X8_scatter n v1 v2 μ = some r) : Fr (S_X8_scatter v1 v2) μ r.2 := by
  rw [X8_scatter] at h
  obtain ⟨hk1, h⟩ := kd_some h
  have hF : Fr (S_X8_scatter v1 v2) μ μ := Fr.rf
  obtain ⟨μ0, hμ0⟩ : ∃ z, z = μ := ⟨_, rfl⟩
  rw [← hμ0]
  have hF : Fr (S_X8_scatter v1 v2) μ0 μ := by rw [hμ0]; exact hF
  have B35 : ∀ (k : Nat), ∀ (v5 : Int32) (v6 : Int32) (v7 : Int32) (μ : Mu), Fr (S_X8_scatter v1 v2) μ0 μ → lpF (fun _ _ _ _ => none) (X8_scatter_35b n v1 v2) k v5 v6 v7 μ = some r → Fr (S_X8_scatter v1 v2) μ0 r.2 := by
    intro k
    induction k with
    | zero =>
      intro v5 v6 v7 μ hF h
      cases h
    | succ k ih35 =>
      rw [lpF_s]
      generalize lpF (fun _ _ _ _ => none) (X8_scatter_35b n v1 v2) k = k35 at ih35 ⊢
      intro v5 v6 v7 μ hF h
      have B76 : ∀ (v5 : Int32) (v6 : Int32) (v7 : Int32) (μ : Mu), Fr (S_X8_scatter v1 v2) μ0 μ → X8_scatter_76 n v1 v2 k35 v5 v6 v7 μ = some r → Fr (S_X8_scatter v1 v2) μ0 r.2 := by
        intro v5 v6 v7 μ hF h
        rw [X8_scatter_76] at h
        obtain ⟨hi80, h⟩ := gd_some h
        have hjhi80 := vin_lt hi80 rfl
        have hF := hF.si (o := (v1 + 1)) (k := v6.toNatClampNeg) (v := ((μ.1 (v1 + 1) v6.toNatClampNeg) + (1 : Int32))) (by unfold S_X8_scatter; exact Or.inr (by omega))
        exact ih35 v5 v6 (v7 + ((-1) : Int32)) (si μ (v1 + 1) v6.toNatClampNeg ((μ.1 (v1 + 1) v6.toNatClampNeg) + (1 : Int32))) hF h
      rw [X8_scatter_35b] at h
      split at h
      · skip
        rw [← Option.some.inj h]; exact hF
      · skip
        obtain ⟨hi47, h⟩ := gd_some h
        have hjhi47 := vin_lt hi47 rfl
        split at h
        rotate_left
        · skip
          exact B76 v5 (μ.1 3 (v5 + v6).toNatClampNeg) v7 μ hF h
        · skip
          split at h
          · skip
            exact B76 v5 (μ.1 3 (v5 + v6).toNatClampNeg) v7 μ hF h
          · skip
            obtain ⟨hi73, h⟩ := gd_some h
            have hjhi73 := vin_lt hi73 rfl
            exact B76 v5 (μ.1 3 (v5 + (μ.1 3 (v5 + v6).toNatClampNeg)).toNatClampNeg) v7 μ hF h
  obtain ⟨hi28, h⟩ := gd_some h
  have hjhi28 := vin_lt hi28 rfl
  have hF := hF.si (o := (v1 + 1)) (k := v2.toNatClampNeg) (v := (0 : Int32)) (by unfold S_X8_scatter; exact Or.inr (by omega))
  exact B35 n ((μ.1 v1 1) * (14 : Int32)) v2 (μ.1 (v1 + 1) v2.toNatClampNeg) (si μ (v1 + 1) v2.toNatClampNeg (0 : Int32)) hF h
set_option maxRecDepth 100000 in
set_option maxHeartbeats 4000000 in
theorem fr_X8_takeOpposite (n : Nat) (v1 : Nat) (μ : Mu) (r : Int32 × Mu) (h : X8_takeOpposite n v1 μ = some r) : Fr (S_X8_takeOpposite v1) μ r.2 := by
  rw [X8_takeOpposite] at h
  obtain ⟨hk1, h⟩ := kd_some h
  have hF : Fr (S_X8_takeOpposite v1) μ μ := Fr.rf
  obtain ⟨μ0, hμ0⟩ : ∃ z, z = μ := ⟨_, rfl⟩
  rw [← hμ0]
  have hF : Fr (S_X8_takeOpposite v1) μ0 μ := by rw [hμ0]; exact hF
  have B50 : ∀ (μ : Mu), Fr (S_X8_takeOpposite v1) μ0 μ → X8_takeOpposite_50 n v1  μ = some r → Fr (S_X8_takeOpposite v1) μ0 r.2 := by
    intro μ hF h
    rw [X8_takeOpposite_50] at h
    rw [← Option.some.inj h]; exact hF
  split at h
  rotate_left
  · skip
    exact B50 μ hF h
  · skip
    obtain ⟨hi36, h⟩ := gd_some h
    have hjhi36 := vin_lt hi36 rfl
    split at h
    rotate_left
    · skip
      exact B50 μ hF h
    · skip
      obtain ⟨hi46, h⟩ := gd_some h
      have hjhi46 := vin_lt hi46 rfl
      split at h
      rotate_left
      · skip
        have hF := hF.si (o := (v1 + 1)) (k := ((((2 : Int32) * (μ.1 1 1)) - (1 : Int32)) - (μ.1 6 0)).toNatClampNeg) (v := (0 : Int32)) (by unfold S_X8_takeOpposite; exact Or.inr (by omega))
        obtain ⟨hi77, h⟩ := gd_some h
        have hjhi77 := vin_lt hi77 rfl
        have hF := hF.si (o := (v1 + 1)) (k := ((si μ (v1 + 1) ((((2 : Int32) * (μ.1 1 1)) - (1 : Int32)) - (μ.1 6 0)).toNatClampNeg (0 : Int32)).1 6 0).toNatClampNeg) (v := (0 : Int32)) (by unfold S_X8_takeOpposite; exact Or.inr (by omega))
        obtain ⟨hi90, h⟩ := gd_some h
        have hjhi90 := vin_lt hi90 rfl
        have hF := hF.si (o := (v1 + 1)) (k := ((12 : Int32) + ((si (si μ (v1 + 1) ((((2 : Int32) * (μ.1 1 1)) - (1 : Int32)) - (μ.1 6 0)).toNatClampNeg (0 : Int32)) (v1 + 1) ((si μ (v1 + 1) ((((2 : Int32) * (μ.1 1 1)) - (1 : Int32)) - (μ.1 6 0)).toNatClampNeg (0 : Int32)).1 6 0).toNatClampNeg (0 : Int32)).1 v1 1)).toNatClampNeg) (v := (((si (si μ (v1 + 1) ((((2 : Int32) * (μ.1 1 1)) - (1 : Int32)) - (μ.1 6 0)).toNatClampNeg (0 : Int32)) (v1 + 1) ((si μ (v1 + 1) ((((2 : Int32) * (μ.1 1 1)) - (1 : Int32)) - (μ.1 6 0)).toNatClampNeg (0 : Int32)).1 6 0).toNatClampNeg (0 : Int32)).1 (v1 + 1) ((12 : Int32) + ((si (si μ (v1 + 1) ((((2 : Int32) * (μ.1 1 1)) - (1 : Int32)) - (μ.1 6 0)).toNatClampNeg (0 : Int32)) (v1 + 1) ((si μ (v1 + 1) ((((2 : Int32) * (μ.1 1 1)) - (1 : Int32)) - (μ.1 6 0)).toNatClampNeg (0 : Int32)).1 6 0).toNatClampNeg (0 : Int32)).1 v1 1)).toNatClampNeg) + ((μ.1 (v1 + 1) ((((2 : Int32) * (μ.1 1 1)) - (1 : Int32)) - (μ.1 6 0)).toNatClampNeg) + (1 : Int32)))) (by unfold S_X8_takeOpposite; exact Or.inr (by omega))
        rw [← Option.some.inj h]; exact hF
      · skip
        exact B50 μ hF h
set_option maxRecDepth 100000 in
set_option maxHeartbeats 4000000 in
theorem fr_X8_takeGrand (n : Nat) (v1 : Nat) (μ : Mu) (r : Int32 × Mu) (h : X8_takeGrand n v1 μ = some r) : Fr (S_X8_takeGrand v1) μ r.2 := by
  rw [X8_takeGrand] at h
  obtain ⟨hk1, h⟩ := kd_some h
  have hF : Fr (S_X8_takeGrand v1) μ μ := Fr.rf
  obtain ⟨μ0, hμ0⟩ : ∃ z, z = μ := ⟨_, rfl⟩
  rw [← hμ0]
  have hF : Fr (S_X8_takeGrand v1) μ0 μ := by rw [hμ0]; exact hF
  have B143 : ∀ (k : Nat), ∀ (v3 : Int32) (v5 : Int32) (μ : Mu), Fr (S_X8_takeGrand v1) μ0 μ → lpF (fun _ _ _ => none) (X8_takeGrand_143b n v1) k v3 v5 μ = some r → Fr (S_X8_takeGrand v1) μ0 r.2 := by
    intro k
    induction k with
    | zero =>
      intro v3 v5 μ hF h
      cases h
    | succ k ih143 =>
      rw [lpF_s]
      generalize lpF (fun _ _ _ => none) (X8_takeGrand_143b n v1) k = k143 at ih143 ⊢
      intro v3 v5 μ hF h
      rw [X8_takeGrand_143b] at h
      split at h
      · skip
        obtain ⟨hi178, h⟩ := gd_some h
        have hjhi178 := vin_lt hi178 rfl
        have hF := hF.si (o := (v1 + 1)) (k := ((12 : Int32) + (μ.1 v1 1)).toNatClampNeg) (v := ((μ.1 (v1 + 1) ((12 : Int32) + (μ.1 v1 1)).toNatClampNeg) + v3)) (by unfold S_X8_takeGrand; exact Or.inr (by omega))
        rw [← Option.some.inj h]; exact hF
      · skip
        obtain ⟨hi159, h⟩ := gd_some h
        have hjhi159 := vin_lt hi159 rfl
        have hF := hF.si (o := (v1 + 1)) (k := v5.toNatClampNeg) (v := (0 : Int32)) (by unfold S_X8_takeGrand; exact Or.inr (by omega))
        exact ih143 v3 (v5 + (1 : Int32)) (si μ (v1 + 1) v5.toNatClampNeg (0 : Int32)) hF h
  have B137 : ∀ (v3 : Int32) (v4 : Int32) (μ : Mu), Fr (S_X8_takeGrand v1) μ0 μ → X8_takeGrand_137 n v1 v3 v4 μ = some r → Fr (S_X8_takeGrand v1) μ0 r.2 := by
    intro v3 v4 μ hF h
    rw [X8_takeGrand_137] at h
    exact B143 n v3 (v4 + (1 : Int32)) μ hF h
  have B103 : ∀ (v3 : Int32) (v4 : Int32) (μ : Mu), Fr (S_X8_takeGrand v1) μ0 μ → X8_takeGrand_103 n v1 v3 v4 μ = some r → Fr (S_X8_takeGrand v1) μ0 r.2 := by
    intro v3 v4 μ hF h
    rw [X8_takeGrand_103] at h
    split at h
    rotate_left
    · skip
      exact B137 v3 v4 μ hF h
    · skip
      obtain ⟨r129, hr129, h⟩ := bnd h
      have hF := hF.tr (fr_X6_inRow n v1 ((1 : Int32) - (μ.1 v1 1)) (μ.1 1 1) μ r129 hr129) (fun o k hS => Or.inl (subL_of (L1 := []) (by decide +kernel) hS))
      split at h
      rotate_left
      · skip
        exact B137 v3 v4 r129.2 hF h
      · skip
        rw [← Option.some.inj h]; exact hF
  have B47 : ∀ (k : Nat), ∀ (v2 : Int32) (v3 : Int32) (v4 : Int32) (μ : Mu), Fr (S_X8_takeGrand v1) μ0 μ → lpF (fun _ _ _ _ => none) (X8_takeGrand_47b n v1) k v2 v3 v4 μ = some r → Fr (S_X8_takeGrand v1) μ0 r.2 := by
    intro k
    induction k with
    | zero =>
      intro v2 v3 v4 μ hF h
      cases h
    | succ k ih47 =>
      rw [lpF_s]
      generalize lpF (fun _ _ _ _ => none) (X8_takeGrand_47b n v1) k = k47 at ih47 ⊢
      intro v2 v3 v4 μ hF h
      have B87 : ∀ (v2 : Int32) (v3 : Int32) (v4 : Int32) (μ : Mu), Fr (S_X8_takeGrand v1) μ0 μ → X8_takeGrand_87 n v1 k47 v2 v3 v4 μ = some r → Fr (S_X8_takeGrand v1) μ0 r.2 := by
        intro v2 v3 v4 μ hF h
        rw [X8_takeGrand_87] at h
        obtain ⟨hi94, h⟩ := gd_some h
        have hjhi94 := vin_lt hi94 rfl
        exact ih47 v2 (v3 + (μ.1 (v1 + 1) v4.toNatClampNeg)) (v4 + ((-1) : Int32)) μ hF h
      rw [X8_takeGrand_47b] at h
      split at h
      · skip
        exact B103 v3 v4 μ hF h
      · skip
        obtain ⟨r59, hr59, h⟩ := bnd h
        have hF := hF.tr (fr_X5_isLacking n 1 v4 μ r59 hr59) (fun o k hS => Or.inl (subL_of (L1 := []) (by decide +kernel) hS))
        split at h
        rotate_left
        · skip
          exact B87 v2 v3 v4 r59.2 hF h
        · skip
          obtain ⟨hi71, h⟩ := gd_some h
          have hjhi71 := vin_lt hi71 rfl
          split at h
          · skip
            exact B87 v2 v3 v4 r59.2 hF h
          · skip
            split at h
            rotate_left
            · skip
              exact B103 v3 v4 r59.2 hF h
            · skip
              exact B87 v2 v3 v4 r59.2 hF h
  have B24 : ∀ (μ : Mu), Fr (S_X8_takeGrand v1) μ0 μ → X8_takeGrand_24 n v1  μ = some r → Fr (S_X8_takeGrand v1) μ0 r.2 := by
    intro μ hF h
    rw [X8_takeGrand_24] at h
    exact B47 n (((1 : Int32) - (μ.1 v1 1)) * (μ.1 1 1)) (0 : Int32) (μ.1 6 0) μ hF h
  split at h
  · skip
    exact B24 μ hF h
  · skip
    split at h
    · skip
      exact B24 μ hF h
    · skip
      rw [← Option.some.inj h]; exact hF
set_option maxRecDepth 100000 in
set_option maxHeartbeats 4000000 in
theorem fr_X9_lay (n : Nat) (v0 : Nat) (v1 : Int32) (v2 : Int32) (μ : Mu) (r : Unit × Mu) (h : X9_lay n v0 v1 v2 μ = some r) : Fr (S_X9_lay v0 v1 v2) μ r.2 := by
  rw [X9_lay] at h
  obtain ⟨hk0, h⟩ := kd_some h
  have hF : Fr (S_X9_lay v0 v1 v2) μ μ := Fr.rf
  obtain ⟨μ0, hμ0⟩ : ∃ z, z = μ := ⟨_, rfl⟩
  rw [← hμ0]
  have hF : Fr (S_X9_lay v0 v1 v2) μ0 μ := by rw [hμ0]; exact hF
  have B12 : ∀ (k : Nat), ∀ (v3 : Int32) (μ : Mu), Fr (S_X9_lay v0 v1 v2) μ0 μ → lpF (fun _ _ => none) (X9_lay_12b n v0 v1 v2) k v3 μ = some r → Fr (S_X9_lay v0 v1 v2) μ0 r.2 := by
    intro k
    induction k with
    | zero =>
      intro v3 μ hF h
      cases h
    | succ k ih12 =>
      rw [lpF_s]
      generalize lpF (fun _ _ => none) (X9_lay_12b n v0 v1 v2) k = k12 at ih12 ⊢
      intro v3 μ hF h
      rw [X9_lay_12b] at h
      split at h
      · skip
        rw [← Option.some.inj h]; exact hF
      · skip
        obtain ⟨hi24, h⟩ := gd_some h
        have hjhi24 := vin_lt hi24 rfl
        have hF := hF.sj (o := (v0 + 1)) (k := v3.toNatClampNeg) (v := (0 : Int64)) (by unfold S_X9_lay; exact Or.inr (by omega))
        exact ih12 (v3 + (1 : Int32)) (sj μ (v0 + 1) v3.toNatClampNeg (0 : Int64)) hF h
  have hF := hF.si (o := v0) (k := 1) (v := v1) (by unfold S_X9_lay; exact Or.inr (by omega))
  have hF := hF.si (o := v0) (k := 2) (v := v2) (by unfold S_X9_lay; exact Or.inr (by omega))
  exact B12 n (0 : Int32) (si (si μ v0 1 v1) v0 2 v2) hF h
set_option maxRecDepth 100000 in
set_option maxHeartbeats 4000000 in
theorem fr_X9_cut (n : Nat) (v0 : Nat) (v1 : Int64) (μ : Mu) (r : Int64 × Mu) (h : X9_cut n v0 v1 μ = some r) : Fr (S_X9_cut v0 v1) μ r.2 := by
  rw [X9_cut] at h
  obtain ⟨hk0, h⟩ := kd_some h
  have hF : Fr (S_X9_cut v0 v1) μ μ := Fr.rf
  obtain ⟨μ0, hμ0⟩ : ∃ z, z = μ := ⟨_, rfl⟩
  rw [← hμ0]
  have hF : Fr (S_X9_cut v0 v1) μ0 μ := by rw [hμ0]; exact hF
  by_cases hs4_0 : (μ.1 v0 1) = (0 : Int32)
  · rw [if_pos hs4_0] at h
    rw [← Option.some.inj h]; exact hF
  rw [if_neg hs4_0] at h
  by_cases hs4_1 : (μ.1 v0 1) = (1 : Int32)
  · rw [if_pos hs4_1] at h
    rw [← Option.some.inj h]; exact hF
  rw [if_neg hs4_1] at h
  by_cases hs4_2 : (μ.1 v0 1) = (2 : Int32)
  · rw [if_pos hs4_2] at h
    rw [← Option.some.inj h]; exact hF
  rw [if_neg hs4_2] at h
  rw [← Option.some.inj h]; exact hF
set_option maxRecDepth 100000 in
set_option maxHeartbeats 4000000 in
theorem fr_X10_begin (n : Nat) (v1 : Nat) (μ : Mu) (r : Unit × Mu) (h : X10_begin n v1 μ = some r) : Fr (S_X10_begin v1) μ r.2 := by
  rw [X10_begin] at h
  obtain ⟨hk1, h⟩ := kd_some h
  have hF : Fr (S_X10_begin v1) μ μ := Fr.rf
  obtain ⟨μ0, hμ0⟩ : ∃ z, z = μ := ⟨_, rfl⟩
  rw [← hμ0]
  have hF : Fr (S_X10_begin v1) μ0 μ := by rw [hμ0]; exact hF
  obtain ⟨r5, hr5, h⟩ := bnd h
  have hF := hF.tr (fr_X6_copy n 153 v1 μ r5 hr5) (fun o k hS => by
  unfold S_X6_copy at hS
  rcases hS with hS | hS | hS
  · exact (subL_of (by decide +kernel) hS)
  · exact inL_mk 153 153 1 (by decide) (by omega) (by omega) (by omega)
  · exact inL_mk 154 154 9999 (by decide) (by omega) (by omega) (by omega))
  have hF := hF.si (o := 22) (k := 2) (v := (0 : Int32)) (by unfold S_X10_begin; exact inL_mk 22 22 2 (by decide) (by omega) (by omega) (by omega))
  have hF := hF.si (o := 22) (k := 3) (v := (0 : Int32)) (by unfold S_X10_begin; exact inL_mk 22 22 3 (by decide) (by omega) (by omega) (by omega))
  rw [← Option.some.inj h]; exact hF
set_option maxRecDepth 100000 in
set_option maxHeartbeats 4000000 in
theorem fr_X10_isMarkedAgain (n : Nat) (μ : Mu) (r : Int32 × Mu) (h : X10_isMarkedAgain n  μ = some r) : Fr S_X10_isMarkedAgain μ r.2 := by
  rw [X10_isMarkedAgain] at h
  have hF : Fr S_X10_isMarkedAgain μ μ := Fr.rf
  obtain ⟨μ0, hμ0⟩ : ∃ z, z = μ := ⟨_, rfl⟩
  rw [← hμ0]
  have hF : Fr S_X10_isMarkedAgain μ0 μ := by rw [hμ0]; exact hF
  have B2 : ∀ (k : Nat), ∀ (v1 : Int32) (μ : Mu), Fr S_X10_isMarkedAgain μ0 μ → lpF (fun _ _ => none) (X10_isMarkedAgain_2b n) k v1 μ = some r → Fr S_X10_isMarkedAgain μ0 r.2 := by
    intro k
    induction k with
    | zero =>
      intro v1 μ hF h
      cases h
    | succ k ih2 =>
      rw [lpF_s]
      generalize lpF (fun _ _ => none) (X10_isMarkedAgain_2b n) k = k2 at ih2 ⊢
      intro v1 μ hF h
      rw [X10_isMarkedAgain_2b] at h
      split at h
      · skip
        rw [← Option.some.inj h]; exact hF
      · skip
        obtain ⟨hi15, h⟩ := gd_some h
        have hjhi15 := vin_lt hi15 rfl
        obtain ⟨hi24, h⟩ := gd_some h
        have hjhi24 := vin_lt hi24 rfl
        split at h
        rotate_left
        · skip
          exact ih2 (v1 + (1 : Int32)) μ hF h
        · skip
          rw [← Option.some.inj h]; exact hF
  exact B2 n (0 : Int32) μ hF h
set_option maxRecDepth 100000 in
set_option maxHeartbeats 4000000 in
theorem fr_X11_feed (n : Nat) (v1 : Int32) (v2 : Int32) (v3 : Int32) (v4 : Int32) (v5 : Int32) (μ : Mu) (r : Int32 × Mu) (h : X11_feed n v1 v2 v3 v4 v5 μ = some r) : Fr (S_X11_feed v1 v2 v3 v4 v5) μ r.2 := by
  rw [X11_feed] at h
  have hF : Fr (S_X11_feed v1 v2 v3 v4 v5) μ μ := Fr.rf
  obtain ⟨μ0, hμ0⟩ : ∃ z, z = μ := ⟨_, rfl⟩
  rw [← hμ0]
  have hF : Fr (S_X11_feed v1 v2 v3 v4 v5) μ0 μ := by rw [hμ0]; exact hF
  split at h
  · skip
    obtain ⟨r23, hr23, h⟩ := bnd h
    have hF := hF.tr (fr_X4_append n v1 μ r23 hr23) (fun o k hS => (subL_of (L1 := [(12, 12, 4), (14, 14, 9999)]) (by decide +kernel) hS))
    obtain ⟨r31, hr31, h⟩ := bnd h
    have hF := hF.tr (fr_X4_append n v2 r23.2 r31 hr31) (fun o k hS => (subL_of (L1 := [(12, 12, 4), (14, 14, 9999)]) (by decide +kernel) hS))
    obtain ⟨r39, hr39, h⟩ := bnd h
    have hF := hF.tr (fr_X4_append n v3 r31.2 r39 hr39) (fun o k hS => (subL_of (L1 := [(12, 12, 4), (14, 14, 9999)]) (by decide +kernel) hS))
    obtain ⟨r48, hr48, h⟩ := bnd h
    have hF := hF.tr (fr_X4_append n v4 r39.2 r48 hr48) (fun o k hS => (subL_of (L1 := [(12, 12, 4), (14, 14, 9999)]) (by decide +kernel) hS))
    obtain ⟨r57, hr57, h⟩ := bnd h
    have hF := hF.tr (fr_X4_append n v5 r48.2 r57 hr57) (fun o k hS => (subL_of (L1 := [(12, 12, 4), (14, 14, 9999)]) (by decide +kernel) hS))
    rw [← Option.some.inj h]; exact hF
  · skip
    rw [← Option.some.inj h]; exact hF
set_option maxRecDepth 100000 in
set_option maxHeartbeats 4000000 in
theorem fr_X11_fault (n : Nat) (v1 : Int32) (μ : Mu) (r : Int32 × Mu) (h : X11_fault n v1 μ = some r) : Fr (S_X11_fault v1) μ r.2 := by
  rw [X11_fault] at h
  have hF : Fr (S_X11_fault v1) μ μ := Fr.rf
  obtain ⟨μ0, hμ0⟩ : ∃ z, z = μ := ⟨_, rfl⟩
  rw [← hμ0]
  have hF : Fr (S_X11_fault v1) μ0 μ := by rw [hμ0]; exact hF
  by_cases hs1_0 : v1 = (0 : Int32)
  · rw [if_pos hs1_0] at h
    rw [← Option.some.inj h]; exact hF
  rw [if_neg hs1_0] at h
  by_cases hs1_1 : v1 = (1 : Int32)
  · rw [if_pos hs1_1] at h
    rw [← Option.some.inj h]; exact hF
  rw [if_neg hs1_1] at h
  rw [← Option.some.inj h]; exact hF
set_option maxRecDepth 100000 in
set_option maxHeartbeats 4000000 in
theorem fr_X11_mover (n : Nat) (μ : Mu) (r : Int32 × Mu) (h : X11_mover n  μ = some r) : Fr S_X11_mover μ r.2 := by
  rw [X11_mover] at h
  have hF : Fr S_X11_mover μ μ := Fr.rf
  obtain ⟨μ0, hμ0⟩ : ∃ z, z = μ := ⟨_, rfl⟩
  rw [← hμ0]
  have hF : Fr S_X11_mover μ0 μ := by rw [hμ0]; exact hF
  rw [← Option.some.inj h]; exact hF
set_option maxRecDepth 100000 in
set_option maxHeartbeats 4000000 in
theorem fr_X11_place (n : Nat) (μ : Mu) (r : Int32 × Mu) (h : X11_place n  μ = some r) : Fr S_X11_place μ r.2 := by
  rw [X11_place] at h
  have hF : Fr S_X11_place μ μ := Fr.rf
  obtain ⟨μ0, hμ0⟩ : ∃ z, z = μ := ⟨_, rfl⟩
  rw [← hμ0]
  have hF : Fr S_X11_place μ0 μ := by rw [hμ0]; exact hF
  have B40 : ∀ (s0 : Int32) (μ : Mu), Fr S_X11_place μ0 μ → X11_place_40 n s0 μ = some r → Fr S_X11_place μ0 r.2 := by
    intro s0 μ hF h
    rw [X11_place_40] at h
    rw [← Option.some.inj h]; exact hF
  obtain ⟨r4, hr4, h⟩ := bnd h
  have hF := hF.tr (fr_X6_inPits n 53 μ r4 hr4) (fun o k hS => (subL_of (L1 := []) (by decide +kernel) hS))
  obtain ⟨r13, hr13, h⟩ := bnd h
  have hF := hF.tr (fr_X1_positionsOf n r4.1 r4.2 r13 hr13) (fun o k hS => (subL_of (L1 := []) (by decide +kernel) hS))
  split at h
  · skip
    obtain ⟨r37, hr37, h⟩ := bnd h
    have hF := hF.tr (fr_X1_numberOf n 53 r4.1 r13.2 r37 hr37) (fun o k hS => (subL_of (L1 := []) (by decide +kernel) hS))
    exact B40 r37.1 r37.2 hF h
  · skip
    exact B40 ((-1000) : Int32) r13.2 hF h
set_option maxRecDepth 100000 in
set_option maxHeartbeats 4000000 in
theorem fr_X11_has (n : Nat) (v0 : Int32) (v1 : Int32) (μ : Mu) (r : Int32 × Mu) (h : X11_has n v0 v1 μ = some r) : Fr (S_X11_has v0 v1) μ r.2 := by
  rw [X11_has] at h
  have hF : Fr (S_X11_has v0 v1) μ μ := Fr.rf
  obtain ⟨μ0, hμ0⟩ : ∃ z, z = μ := ⟨_, rfl⟩
  rw [← hμ0]
  have hF : Fr (S_X11_has v0 v1) μ0 μ := by rw [hμ0]; exact hF
  have B14 : ∀ (s0 : Int32) (μ : Mu), Fr (S_X11_has v0 v1) μ0 μ → X11_has_14 n v0 v1 s0 μ = some r → Fr (S_X11_has v0 v1) μ0 r.2 := by
    intro s0 μ hF h
    rw [X11_has_14] at h
    obtain ⟨hz14, h⟩ := bz_some h
    rw [← Option.some.inj h]; exact hF
  split at h
  rotate_left
  · skip
    exact B14 (0 : Int32) μ hF h
  · skip
    exact B14 (1 : Int32) μ hF h
set_option maxRecDepth 100000 in
set_option maxHeartbeats 4000000 in
theorem fr_X11_needSide (n : Nat) (v0 : Int32) (μ : Mu) (r : (Unit ⊕ Nat) × Mu) (h : X11_needSide n v0 μ = some r) : Fr (S_X11_needSide v0) μ r.2 := by
  rw [X11_needSide] at h
  have hF : Fr (S_X11_needSide v0) μ μ := Fr.rf
  obtain ⟨μ0, hμ0⟩ : ∃ z, z = μ := ⟨_, rfl⟩
  rw [← hμ0]
  have hF : Fr (S_X11_needSide v0) μ0 μ := by rw [hμ0]; exact hF
  have B9 : ∀ (μ : Mu), Fr (S_X11_needSide v0) μ0 μ → X11_needSide_9 n v0  μ = some r → Fr (S_X11_needSide v0) μ0 r.2 := by
    intro μ hF h
    rw [X11_needSide_9] at h
    rw [← Option.some.inj h]; exact hF
  split at h
  · skip
    exact B9 μ hF h
  · skip
    split at h
    · skip
      rw [← Option.some.inj h]; exact hF
    · skip
      exact B9 μ hF h
set_option maxRecDepth 100000 in
set_option maxHeartbeats 4000000 in
theorem fr_X11_needSeeds (n : Nat) (v0 : Int32) (μ : Mu) (r : (Unit ⊕ Nat) × Mu) (h : X11_needSeeds n v0 μ = some r) : Fr (S_X11_needSeeds v0) μ r.2 := by
  rw [X11_needSeeds] at h
  have hF : Fr (S_X11_needSeeds v0) μ μ := Fr.rf
  obtain ⟨μ0, hμ0⟩ : ∃ z, z = μ := ⟨_, rfl⟩
  rw [← hμ0]
  have hF : Fr (S_X11_needSeeds v0) μ0 μ := by rw [hμ0]; exact hF
  have B10 : ∀ (μ : Mu), Fr (S_X11_needSeeds v0) μ0 μ → X11_needSeeds_10 n v0  μ = some r → Fr (S_X11_needSeeds v0) μ0 r.2 := by
    intro μ hF h
    rw [X11_needSeeds_10] at h
    rw [← Option.some.inj h]; exact hF
  split at h
  · skip
    exact B10 μ hF h
  · skip
    split at h
    · skip
      rw [← Option.some.inj h]; exact hF
    · skip
      exact B10 μ hF h
set_option maxRecDepth 100000 in
set_option maxHeartbeats 4000000 in
theorem fr_X11_needPosition (n : Nat) (v0 : Int32) (v1 : Int32) (μ : Mu) (r : (Unit ⊕ Nat) × Mu) (h : X11_needPosition n v0 v1 μ = some r) : Fr (S_X11_needPosition v0 v1) μ r.2 := by
  rw [X11_needPosition] at h
  have hF : Fr (S_X11_needPosition v0 v1) μ μ := Fr.rf
  obtain ⟨μ0, hμ0⟩ : ∃ z, z = μ := ⟨_, rfl⟩
  rw [← hμ0]
  have hF : Fr (S_X11_needPosition v0 v1) μ0 μ := by rw [hμ0]; exact hF
  have B9 : ∀ (μ : Mu), Fr (S_X11_needPosition v0 v1) μ0 μ → X11_needPosition_9 n v0 v1  μ = some r → Fr (S_X11_needPosition v0 v1) μ0 r.2 := by
    intro μ hF h
    rw [X11_needPosition_9] at h
    rw [← Option.some.inj h]; exact hF
  split at h
  · skip
    exact B9 μ hF h
  · skip
    split at h
    · skip
      rw [← Option.some.inj h]; exact hF
    · skip
      exact B9 μ hF h
set_option maxRecDepth 100000 in
set_option maxHeartbeats 4000000 in
theorem fr_X11_anyTray (n : Nat) (v1 : Int32) (μ : Mu) (r : (Nat ⊕ Nat) × Mu) (h : X11_anyTray n v1 μ = some r) : Fr (S_X11_anyTray v1) μ r.2 := by
  rw [X11_anyTray] at h
  have hF : Fr (S_X11_anyTray v1) μ μ := Fr.rf
  obtain ⟨μ0, hμ0⟩ : ∃ z, z = μ := ⟨_, rfl⟩
  rw [← hμ0]
  have hF : Fr (S_X11_anyTray v1) μ0 μ := by rw [hμ0]; exact hF
  have B9 : ∀ (μ : Mu), Fr (S_X11_anyTray v1) μ0 μ → X11_anyTray_9 n v1  μ = some r → Fr (S_X11_anyTray v1) μ0 r.2 := by
    intro μ hF h
    rw [X11_anyTray_9] at h
    rw [← Option.some.inj h]; exact hF
  split at h
  · skip
    exact B9 μ hF h
  · skip
    split at h
    · skip
      obtain ⟨hi25, h⟩ := gd_some h
      have hjhi25 := vin_lt hi25 rfl
      rw [← Option.some.inj h]; exact hF
    · skip
      exact B9 μ hF h
set_option maxRecDepth 100000 in
set_option maxHeartbeats 4000000 in
theorem fr_X11_laidTray (n : Nat) (v1 : Int32) (μ : Mu) (r : (Nat ⊕ Nat) × Mu) (h : X11_laidTray n v1 μ = some r) : Fr (S_X11_laidTray v1) μ r.2 := by
  rw [X11_laidTray] at h
  have hF : Fr (S_X11_laidTray v1) μ μ := Fr.rf
  obtain ⟨μ0, hμ0⟩ : ∃ z, z = μ := ⟨_, rfl⟩
  rw [← hμ0]
  have hF : Fr (S_X11_laidTray v1) μ0 μ := by rw [hμ0]; exact hF
  rcases thr_cs h with ⟨kq, m2, hr2, h⟩ | ⟨r2, m2, hr2, h⟩
  · rw [← Option.some.inj h]; exact hF.tr (fr_X11_anyTray n v1 μ _ hr2) (fun o k hS => (subL_of (L1 := []) (by decide +kernel) hS))
  have hF := hF.tr (fr_X11_anyTray n v1 μ _ hr2) (fun o k hS => (subL_of (L1 := []) (by decide +kernel) hS))
  obtain ⟨hkr2, h⟩ := kd_some h
  have hjhkr2 := kdI hkr2
  split at h
  rotate_left
  · skip
    rw [← Option.some.inj h]; exact hF
  · skip
    rw [← Option.some.inj h]; exact hF
set_option maxRecDepth 100000 in
set_option maxHeartbeats 4000000 in
theorem fr_X11_anyImage (n : Nat) (v1 : Int32) (μ : Mu) (r : (Nat ⊕ Nat) × Mu) (h : X11_anyImage n v1 μ = some r) : Fr (S_X11_anyImage v1) μ r.2 := by
  rw [X11_anyImage] at h
  have hF : Fr (S_X11_anyImage v1) μ μ := Fr.rf
  obtain ⟨μ0, hμ0⟩ : ∃ z, z = μ := ⟨_, rfl⟩
  rw [← hμ0]
  have hF : Fr (S_X11_anyImage v1) μ0 μ := by rw [hμ0]; exact hF
  have B9 : ∀ (μ : Mu), Fr (S_X11_anyImage v1) μ0 μ → X11_anyImage_9 n v1  μ = some r → Fr (S_X11_anyImage v1) μ0 r.2 := by
    intro μ hF h
    rw [X11_anyImage_9] at h
    rw [← Option.some.inj h]; exact hF
  split at h
  · skip
    exact B9 μ hF h
  · skip
    split at h
    · skip
      obtain ⟨hi25, h⟩ := gd_some h
      have hjhi25 := vin_lt hi25 rfl
      rw [← Option.some.inj h]; exact hF
    · skip
      exact B9 μ hF h
set_option maxRecDepth 100000 in
set_option maxHeartbeats 4000000 in
theorem fr_X11_seedsOrLacking (n : Nat) (v1 : Nat) (v2 : Int32) (μ : Mu) (r : Int32 × Mu) (h : X11_seedsOrLacking n v1 v2 μ = some r) : Fr (S_X11_seedsOrLacking v1 v2) μ r.2 := by
  rw [X11_seedsOrLacking] at h
  obtain ⟨hk1, h⟩ := kd_some h
  have hF : Fr (S_X11_seedsOrLacking v1 v2) μ μ := Fr.rf
  obtain ⟨μ0, hμ0⟩ : ∃ z, z = μ := ⟨_, rfl⟩
  rw [← hμ0]
  have hF : Fr (S_X11_seedsOrLacking v1 v2) μ0 μ := by rw [hμ0]; exact hF
  have B21 : ∀ (s0 : Int32) (μ : Mu), Fr (S_X11_seedsOrLacking v1 v2) μ0 μ → X11_seedsOrLacking_21 n v1 v2 s0 μ = some r → Fr (S_X11_seedsOrLacking v1 v2) μ0 r.2 := by
    intro s0 μ hF h
    rw [X11_seedsOrLacking_21] at h
    rw [← Option.some.inj h]; exact hF
  obtain ⟨r5, hr5, h⟩ := bnd h
  have hF := hF.tr (fr_X5_isLacking n 1 v2 μ r5 hr5) (fun o k hS => (subL_of (L1 := []) (by decide +kernel) hS))
  split at h
  · skip
    obtain ⟨hi20, h⟩ := gd_some h
    have hjhi20 := vin_lt hi20 rfl
    exact B21 (r5.2.1 (v1 + 1) v2.toNatClampNeg) r5.2 hF h
  · skip
    exact B21 ((-1) : Int32) r5.2 hF h
set_option maxRecDepth 100000 in
set_option maxHeartbeats 4000000 in
theorem fr_X12_thrown (n : Nat) (μ : Mu) (r : Int32 × Mu) (h : X12_thrown n  μ = some r) : Fr S_X12_thrown μ r.2 := by
  rw [X12_thrown] at h
  have hF : Fr S_X12_thrown μ μ := Fr.rf
  obtain ⟨μ0, hμ0⟩ : ∃ z, z = μ := ⟨_, rfl⟩
  rw [← hμ0]
  have hF : Fr S_X12_thrown μ0 μ := by rw [hμ0]; exact hF
  rw [← Option.some.inj h]; exact hF
set_option maxRecDepth 100000 in
set_option maxHeartbeats 4000000 in
theorem fr_X12_fails (n : Nat) (v1 : Int32) (μ : Mu) (r : Int32 × Mu) (h : X12_fails n v1 μ = some r) : Fr (S_X12_fails v1) μ r.2 := by
  rw [X12_fails] at h
  have hF : Fr (S_X12_fails v1) μ μ := Fr.rf
  obtain ⟨μ0, hμ0⟩ : ∃ z, z = μ := ⟨_, rfl⟩
  rw [← hμ0]
  have hF : Fr (S_X12_fails v1) μ0 μ := by rw [hμ0]; exact hF
  have hF := hF.si (o := 171) (k := 5) (v := v1) (by unfold S_X12_fails; exact inL_mk 171 171 5 (by decide) (by omega) (by omega) (by omega))
  rw [← Option.some.inj h]; exact hF
set_option maxRecDepth 100000 in
set_option maxHeartbeats 4000000 in
theorem fr_X12_within (n : Nat) (v0 : Int64) (v2 : Int64) (v4 : Int64) (μ : Mu) (r : Int32 × Mu) (h : X12_within n v0 v2 v4 μ = some r) : Fr (S_X12_within v0 v2 v4) μ r.2 := by
  rw [X12_within] at h
  have hF : Fr (S_X12_within v0 v2 v4) μ μ := Fr.rf
  obtain ⟨μ0, hμ0⟩ : ∃ z, z = μ := ⟨_, rfl⟩
  rw [← hμ0]
  have hF : Fr (S_X12_within v0 v2 v4) μ0 μ := by rw [hμ0]; exact hF
  have B18 : ∀ (s0 : Int32) (μ : Mu), Fr (S_X12_within v0 v2 v4) μ0 μ → X12_within_18 n v0 v2 v4 s0 μ = some r → Fr (S_X12_within v0 v2 v4) μ0 r.2 := by
    intro s0 μ hF h
    rw [X12_within_18] at h
    obtain ⟨hz18, h⟩ := bz_some h
    rw [← Option.some.inj h]; exact hF
  have B17 : ∀ (μ : Mu), Fr (S_X12_within v0 v2 v4) μ0 μ → X12_within_17 n v0 v2 v4  μ = some r → Fr (S_X12_within v0 v2 v4) μ0 r.2 := by
    intro μ hF h
    rw [X12_within_17] at h
    exact B18 (0 : Int32) μ hF h
  split at h
  · skip
    exact B17 μ hF h
  · skip
    split at h
    · skip
      exact B17 μ hF h
    · skip
      exact B18 (1 : Int32) μ hF h
set_option maxRecDepth 100000 in
set_option maxHeartbeats 4000000 in
theorem fr_X12_copies (n : Nat) (v0 : Nat) (v1 : Nat) (μ : Mu) (r : Unit × Mu) (h : X12_copies n v0 v1 μ = some r) : Fr (S_X12_copies v0 v1) μ r.2 := by
  rw [X12_copies] at h
  obtain ⟨hk0, h⟩ := kd_some h
  obtain ⟨hk1, h⟩ := kd_some h
  have hF : Fr (S_X12_copies v0 v1) μ μ := Fr.rf
  obtain ⟨μ0, hμ0⟩ : ∃ z, z = μ := ⟨_, rfl⟩
  rw [← hμ0]
  have hF : Fr (S_X12_copies v0 v1) μ0 μ := by rw [hμ0]; exact hF
  have B2 : ∀ (k : Nat), ∀ (v2 : Int32) (μ : Mu), Fr (S_X12_copies v0 v1) μ0 μ → lpF (fun _ _ => none) (X12_copies_2b n v0 v1) k v2 μ = some r → Fr (S_X12_copies v0 v1) μ0 r.2 := by
    intro k
    induction k with
    | zero =>
      intro v2 μ hF h
      cases h
    | succ k ih2 =>
      rw [lpF_s]
      generalize lpF (fun _ _ => none) (X12_copies_2b n v0 v1) k = k2 at ih2 ⊢
      intro v2 μ hF h
      rw [X12_copies_2b] at h
      split at h
      · skip
        rw [← Option.some.inj h]; exact hF
      · skip
        obtain ⟨hi12, h⟩ := gd_some h
        have hjhi12 := vin_lt hi12 rfl
        obtain ⟨hi13, h⟩ := gd_some h
        have hjhi13 := vin_lt hi13 rfl
        have hF := hF.si (o := v1) (k := v2.toNatClampNeg) (v := (μ.1 v0 v2.toNatClampNeg)) (by unfold S_X12_copies; exact Or.inr (by omega))
        exact ih2 (v2 + (1 : Int32)) (si μ v1 v2.toNatClampNeg (μ.1 v0 v2.toNatClampNeg)) hF h
  exact B2 n (0 : Int32) μ hF h
set_option maxRecDepth 100000 in
set_option maxHeartbeats 4000000 in
theorem fr_X12_feed (n : Nat) (v1 : Int32) (v2 : Int32) (v3 : Int32) (v4 : Int32) (v5 : Int32) (μ : Mu) (r : Int32 × Mu) (h : X12_feed n v1 v2 v3 v4 v5 μ = some r) : Fr (S_X12_feed v1 v2 v3 v4 v5) μ r.2 := by
  rw [X12_feed] at h
  have hF : Fr (S_X12_feed v1 v2 v3 v4 v5) μ μ := Fr.rf
  obtain ⟨μ0, hμ0⟩ : ∃ z, z = μ := ⟨_, rfl⟩
  rw [← hμ0]
  have hF : Fr (S_X12_feed v1 v2 v3 v4 v5) μ0 μ := by rw [hμ0]; exact hF
  have B23 : ∀ (k : Nat), ∀ (v6 : Int32) (μ : Mu), Fr (S_X12_feed v1 v2 v3 v4 v5) μ0 μ → lpF (fun _ _ => none) (X12_feed_23b n v1 v2 v3 v4 v5) k v6 μ = some r → Fr (S_X12_feed v1 v2 v3 v4 v5) μ0 r.2 := by
    intro k
    induction k with
    | zero =>
      intro v6 μ hF h
      cases h
    | succ k ih23 =>
      rw [lpF_s]
      generalize lpF (fun _ _ => none) (X12_feed_23b n v1 v2 v3 v4 v5) k = k23 at ih23 ⊢
      intro v6 μ hF h
      have B76 : ∀ (v6 : Int32) (s0 : Int32) (μ : Mu), Fr (S_X12_feed v1 v2 v3 v4 v5) μ0 μ → X12_feed_76 n v1 v2 v3 v4 v5 k23 v6 s0 μ = some r → Fr (S_X12_feed v1 v2 v3 v4 v5) μ0 r.2 := by
        intro v6 s0 μ hF h
        rw [X12_feed_76] at h
        obtain ⟨hi103, h⟩ := gd_some h
        have hjhi103 := vin_lt hi103 rfl
        have hF := hF.si (o := 177) (k := (μ.1 171 7).toNatClampNeg) (v := (((s0.toUInt32 >>> (((24 : Int32) - ((8 : Int32) * (v6 &&& (3 : Int32)))).toUInt32 &&& Int32.toUInt32 31)).toInt32) &&& (255 : Int32))) (by unfold S_X12_feed; exact inL_mk 177 177 9999 (by decide) (by omega) (by omega) (by omega))
        have hF := hF.si (o := 171) (k := 7) (v := (((si μ 177 (μ.1 171 7).toNatClampNeg (((s0.toUInt32 >>> (((24 : Int32) - ((8 : Int32) * (v6 &&& (3 : Int32)))).toUInt32 &&& Int32.toUInt32 31)).toInt32) &&& (255 : Int32))).1 171 7) + (1 : Int32))) (by unfold S_X12_feed; exact inL_mk 171 171 7 (by decide) (by omega) (by omega) (by omega))
        exact ih23 (v6 + (1 : Int32)) (si (si μ 177 (μ.1 171 7).toNatClampNeg (((s0.toUInt32 >>> (((24 : Int32) - ((8 : Int32) * (v6 &&& (3 : Int32)))).toUInt32 &&& Int32.toUInt32 31)).toInt32) &&& (255 : Int32))) 171 7 (((si μ 177 (μ.1 171 7).toNatClampNeg (((s0.toUInt32 >>> (((24 : Int32) - ((8 : Int32) * (v6 &&& (3 : Int32)))).toUInt32 &&& Int32.toUInt32 31)).toInt32) &&& (255 : Int32))).1 171 7) + (1 : Int32))) hF h
      rw [X12_feed_23b] at h
      split at h
      · skip
        rw [← Option.some.inj h]; exact hF
      · skip
        split at h
        · skip
          split at h
          · skip
            split at h
            · skip
              split at h
              · skip
                exact B76 v6 v5 μ hF h
              · skip
                exact B76 v6 v4 μ hF h
            · skip
              exact B76 v6 v3 μ hF h
          · skip
            exact B76 v6 v2 μ hF h
        · skip
          exact B76 v6 v1 μ hF h
  have hF := hF.si (o := 171) (k := 5) (v := (0 : Int32)) (by unfold S_X12_feed; exact inL_mk 171 171 5 (by decide) (by omega) (by omega) (by omega))
  split at h
  · skip
    exact B23 n (0 : Int32) (si μ 171 5 (0 : Int32)) hF h
  · skip
    rw [← Option.some.inj h]; exact hF
set_option maxRecDepth 100000 in
set_option maxHeartbeats 4000000 in
theorem fr_X12_see (n : Nat) (v1 : Int32) (μ : Mu) (r : Int32 × Mu) (h : X12_see n v1 μ = some r) : Fr (S_X12_see v1) μ r.2 := by
  rw [X12_see] at h
  have hF : Fr (S_X12_see v1) μ μ := Fr.rf
  obtain ⟨μ0, hμ0⟩ : ∃ z, z = μ := ⟨_, rfl⟩
  rw [← hμ0]
  have hF : Fr (S_X12_see v1) μ0 μ := by rw [hμ0]; exact hF
  have B18 : ∀ (s0 : Int32) (μ : Mu), Fr (S_X12_see v1) μ0 μ → X12_see_18 n v1 s0 μ = some r → Fr (S_X12_see v1) μ0 r.2 := by
    intro s0 μ hF h
    rw [X12_see_18] at h
    rw [← Option.some.inj h]; exact hF
  split at h
  · skip
    exact B18 (0 : Int32) μ hF h
  · skip
    obtain ⟨hi13, h⟩ := gd_some h
    have hjhi13 := vin_lt hi13 rfl
    exact B18 (μ.1 177 v1.toNatClampNeg) μ hF h
set_option maxRecDepth 100000 in
set_option maxHeartbeats 4000000 in
theorem fr_X12_isLetter (n : Nat) (v0 : Int32) (μ : Mu) (r : Int32 × Mu) (h : X12_isLetter n v0 μ = some r) : Fr (S_X12_isLetter v0) μ r.2 := by
  rw [X12_isLetter] at h
  have hF : Fr (S_X12_isLetter v0) μ μ := Fr.rf
  obtain ⟨μ0, hμ0⟩ : ∃ z, z = μ := ⟨_, rfl⟩
  rw [← hμ0]
  have hF : Fr (S_X12_isLetter v0) μ0 μ := by rw [hμ0]; exact hF
  have B17 : ∀ (s0 : Int32) (μ : Mu), Fr (S_X12_isLetter v0) μ0 μ → X12_isLetter_17 n v0 s0 μ = some r → Fr (S_X12_isLetter v0) μ0 r.2 := by
    intro s0 μ hF h
    rw [X12_isLetter_17] at h
    obtain ⟨hz17, h⟩ := bz_some h
    rw [← Option.some.inj h]; exact hF
  have B16 : ∀ (μ : Mu), Fr (S_X12_isLetter v0) μ0 μ → X12_isLetter_16 n v0  μ = some r → Fr (S_X12_isLetter v0) μ0 r.2 := by
    intro μ hF h
    rw [X12_isLetter_16] at h
    exact B17 (0 : Int32) μ hF h
  split at h
  · skip
    exact B16 μ hF h
  · skip
    split at h
    · skip
      exact B16 μ hF h
    · skip
      exact B17 (1 : Int32) μ hF h
set_option maxRecDepth 100000 in
set_option maxHeartbeats 4000000 in
theorem fr_X12_isDigit (n : Nat) (v0 : Int32) (μ : Mu) (r : Int32 × Mu) (h : X12_isDigit n v0 μ = some r) : Fr (S_X12_isDigit v0) μ r.2 := by
  rw [X12_isDigit] at h
  have hF : Fr (S_X12_isDigit v0) μ μ := Fr.rf
  obtain ⟨μ0, hμ0⟩ : ∃ z, z = μ := ⟨_, rfl⟩
  rw [← hμ0]
  have hF : Fr (S_X12_isDigit v0) μ0 μ := by rw [hμ0]; exact hF
  have B17 : ∀ (s0 : Int32) (μ : Mu), Fr (S_X12_isDigit v0) μ0 μ → X12_isDigit_17 n v0 s0 μ = some r → Fr (S_X12_isDigit v0) μ0 r.2 := by
    intro s0 μ hF h
    rw [X12_isDigit_17] at h
    obtain ⟨hz17, h⟩ := bz_some h
    rw [← Option.some.inj h]; exact hF
  have B16 : ∀ (μ : Mu), Fr (S_X12_isDigit v0) μ0 μ → X12_isDigit_16 n v0  μ = some r → Fr (S_X12_isDigit v0) μ0 r.2 := by
    intro μ hF h
    rw [X12_isDigit_16] at h
    exact B17 (0 : Int32) μ hF h
  split at h
  · skip
    exact B16 μ hF h
  · skip
    split at h
    · skip
      exact B16 μ hF h
    · skip
      exact B17 (1 : Int32) μ hF h
set_option maxRecDepth 100000 in
set_option maxHeartbeats 4000000 in
theorem fr_X12_reads (n : Nat) (μ : Mu) (r : Unit × Mu) (h : X12_reads n  μ = some r) : Fr S_X12_reads μ r.2 := by
  rw [X12_reads] at h
  have hF : Fr S_X12_reads μ μ := Fr.rf
  obtain ⟨μ0, hμ0⟩ : ∃ z, z = μ := ⟨_, rfl⟩
  rw [← hμ0]
  have hF : Fr S_X12_reads μ0 μ := by rw [hμ0]; exact hF
  have B262 : ∀ (μ : Mu), Fr S_X12_reads μ0 μ → X12_reads_262 n  μ = some r → Fr S_X12_reads μ0 r.2 := by
    intro μ hF h
    rw [X12_reads_262] at h
    rw [← Option.some.inj h]; exact hF
  have B94 : ∀ (k : Nat), ∀ (μ : Mu), Fr S_X12_reads μ0 μ → lpF (fun _ => none) (X12_reads_94b n) k  μ = some r → Fr S_X12_reads μ0 r.2 := by
    intro k
    induction k with
    | zero =>
      intro μ hF h
      cases h
    | succ k ih94 =>
      rw [lpF_s]
      generalize lpF (fun _ => none) (X12_reads_94b n) k = k94 at ih94 ⊢
      intro μ hF h
      rw [X12_reads_94b] at h
      obtain ⟨r99, hr99, h⟩ := bnd h
      have hF := hF.tr (fr_X12_see n (μ.1 171 9) μ r99 hr99) (fun o k hS => (subL_of (L1 := []) (by decide +kernel) hS))
      obtain ⟨r102, hr102, h⟩ := bnd h
      have hF := hF.tr (fr_X12_isLetter n r99.1 r99.2 r102 hr102) (fun o k hS => (subL_of (L1 := []) (by decide +kernel) hS))
      split at h
      · skip
        have hF := hF.si (o := 171) (k := 11) (v := (1 : Int32)) (by unfold S_X12_reads; exact inL_mk 171 171 11 (by decide) (by omega) (by omega) (by omega))
        exact B262 (si r102.2 171 11 (1 : Int32)) hF h
      · skip
        have hF := hF.si (o := 171) (k := 9) (v := ((r102.2.1 171 9) + (1 : Int32))) (by unfold S_X12_reads; exact inL_mk 171 171 9 (by decide) (by omega) (by omega) (by omega))
        exact ih94 (si r102.2 171 9 ((r102.2.1 171 9) + (1 : Int32))) hF h
  have B231 : ∀ (s1 : Int32) (μ : Mu), Fr S_X12_reads μ0 μ → X12_reads_231 n s1 μ = some r → Fr S_X12_reads μ0 r.2 := by
    intro s1 μ hF h
    rw [X12_reads_231] at h
    have hF := hF.si (o := 171) (k := 11) (v := s1) (by unfold S_X12_reads; exact inL_mk 171 171 11 (by decide) (by omega) (by omega) (by omega))
    exact B262 (si μ 171 11 s1) hF h
  have B141 : ∀ (k : Nat), ∀ (μ : Mu), Fr S_X12_reads μ0 μ → lpF (fun _ => none) (X12_reads_141b n) k  μ = some r → Fr S_X12_reads μ0 r.2 := by
    intro k
    induction k with
    | zero =>
      intro μ hF h
      cases h
    | succ k ih141 =>
      rw [lpF_s]
      generalize lpF (fun _ => none) (X12_reads_141b n) k = k141 at ih141 ⊢
      intro μ hF h
      have B196 : ∀ (s1 : Int32) (μ : Mu), Fr S_X12_reads μ0 μ → X12_reads_196 n k141 s1 μ = some r → Fr S_X12_reads μ0 r.2 := by
        intro s1 μ hF h
        rw [X12_reads_196] at h
        have hF := hF.si (o := 171) (k := 12) (v := s1) (by unfold S_X12_reads; exact inL_mk 171 171 12 (by decide) (by omega) (by omega) (by omega))
        have hF := hF.si (o := 171) (k := 9) (v := (((si μ 171 12 s1).1 171 9) + (1 : Int32))) (by unfold S_X12_reads; exact inL_mk 171 171 9 (by decide) (by omega) (by omega) (by omega))
        exact ih141 (si (si μ 171 12 s1) 171 9 (((si μ 171 12 s1).1 171 9) + (1 : Int32))) hF h
      rw [X12_reads_141b] at h
      obtain ⟨r146, hr146, h⟩ := bnd h
      have hF := hF.tr (fr_X12_see n (μ.1 171 9) μ r146 hr146) (fun o k hS => (subL_of (L1 := []) (by decide +kernel) hS))
      obtain ⟨r149, hr149, h⟩ := bnd h
      have hF := hF.tr (fr_X12_isDigit n r146.1 r146.2 r149 hr149) (fun o k hS => (subL_of (L1 := []) (by decide +kernel) hS))
      split at h
      · skip
        split at h
        · skip
          exact B231 (2 : Int32) r149.2 hF h
        · skip
          exact B231 (4 : Int32) r149.2 hF h
      · skip
        split at h
        · skip
          exact B196 (r149.2.1 171 12) r149.2 hF h
        · skip
          obtain ⟨hi184, h⟩ := gd_some h
          have hjhi184 := vin_lt hi184 rfl
          exact B196 ((((10 : Int32) * (r149.2.1 171 12)) + (r149.2.1 177 (r149.2.1 171 9).toNatClampNeg)) - (48 : Int32)) r149.2 hF h
  have B249 : ∀ (s1 : Int32) (μ : Mu), Fr S_X12_reads μ0 μ → X12_reads_249 n s1 μ = some r → Fr S_X12_reads μ0 r.2 := by
    intro s1 μ hF h
    rw [X12_reads_249] at h
    have hF := hF.si (o := 171) (k := 11) (v := s1) (by unfold S_X12_reads; exact inL_mk 171 171 11 (by decide) (by omega) (by omega) (by omega))
    have hF := hF.si (o := 171) (k := 9) (v := (((si μ 171 11 s1).1 171 9) + (1 : Int32))) (by unfold S_X12_reads; exact inL_mk 171 171 9 (by decide) (by omega) (by omega) (by omega))
    exact B262 (si (si μ 171 11 s1) 171 9 (((si μ 171 11 s1).1 171 9) + (1 : Int32))) hF h
  have B52 : ∀ (μ : Mu), Fr S_X12_reads μ0 μ → X12_reads_52 n  μ = some r → Fr S_X12_reads μ0 r.2 := by
    intro μ hF h
    rw [X12_reads_52] at h
    have hF := hF.si (o := 171) (k := 10) (v := (μ.1 171 9)) (by unfold S_X12_reads; exact inL_mk 171 171 10 (by decide) (by omega) (by omega) (by omega))
    split at h
    · skip
      obtain ⟨hi85, h⟩ := gd_some h
      have hjhi85 := vin_lt hi85 rfl
      obtain ⟨r88, hr88, h⟩ := bnd h
      have hF := hF.tr (fr_X12_isLetter n ((si μ 171 10 (μ.1 171 9)).1 177 ((si μ 171 10 (μ.1 171 9)).1 171 9).toNatClampNeg) (si μ 171 10 (μ.1 171 9)) r88 hr88) (fun o k hS => (subL_of (L1 := []) (by decide +kernel) hS))
      split at h
      · skip
        obtain ⟨r130, hr130, h⟩ := bnd h
        have hF := hF.tr (fr_X12_isDigit n ((si μ 171 10 (μ.1 171 9)).1 177 ((si μ 171 10 (μ.1 171 9)).1 171 9).toNatClampNeg) r88.2 r130 hr130) (fun o k hS => (subL_of (L1 := []) (by decide +kernel) hS))
        split at h
        · skip
          split at h
          rotate_left
          · skip
            exact B249 (4 : Int32) r130.2 hF h
          · skip
            exact B249 (3 : Int32) r130.2 hF h
        · skip
          have hF := hF.si (o := 171) (k := 12) (v := (0 : Int32)) (by unfold S_X12_reads; exact inL_mk 171 171 12 (by decide) (by omega) (by omega) (by omega))
          exact B141 n (si r130.2 171 12 (0 : Int32)) hF h
      · skip
        exact B94 n r88.2 hF h
    · skip
      have hF := hF.si (o := 171) (k := 11) (v := (0 : Int32)) (by unfold S_X12_reads; exact inL_mk 171 171 11 (by decide) (by omega) (by omega) (by omega))
      rw [← Option.some.inj h]; exact hF
  have B0 : ∀ (k : Nat), ∀ (μ : Mu), Fr S_X12_reads μ0 μ → lpF (fun _ => none) (X12_reads_0b n) k  μ = some r → Fr S_X12_reads μ0 r.2 := by
    intro k
    induction k with
    | zero =>
      intro μ hF h
      cases h
    | succ k ih0 =>
      rw [lpF_s]
      generalize lpF (fun _ => none) (X12_reads_0b n) k = k0 at ih0 ⊢
      intro μ hF h
      have B39 : ∀ (μ : Mu), Fr S_X12_reads μ0 μ → X12_reads_39 n k0  μ = some r → Fr S_X12_reads μ0 r.2 := by
        intro μ hF h
        rw [X12_reads_39] at h
        have hF := hF.si (o := 171) (k := 9) (v := ((μ.1 171 9) + (1 : Int32))) (by unfold S_X12_reads; exact inL_mk 171 171 9 (by decide) (by omega) (by omega) (by omega))
        exact ih0 (si μ 171 9 ((μ.1 171 9) + (1 : Int32))) hF h
      rw [X12_reads_0b] at h
      split at h
      · skip
        exact B52 μ hF h
      · skip
        obtain ⟨hi19, h⟩ := gd_some h
        have hjhi19 := vin_lt hi19 rfl
        split at h
        · skip
          exact B39 μ hF h
        · skip
          split at h
          rotate_left
          · skip
            exact B52 μ hF h
          · skip
            exact B39 μ hF h
  exact B0 n μ hF h
set_option maxRecDepth 100000 in
set_option maxHeartbeats 4000000 in
theorem fr_X12_blames (n : Nat) (v1 : Int32) (μ : Mu) (r : Unit × Mu) (h : X12_blames n v1 μ = some r) : Fr (S_X12_blames v1) μ r.2 := by
  rw [X12_blames] at h
  have hF : Fr (S_X12_blames v1) μ μ := Fr.rf
  obtain ⟨μ0, hμ0⟩ : ∃ z, z = μ := ⟨_, rfl⟩
  rw [← hμ0]
  have hF : Fr (S_X12_blames v1) μ0 μ := by rw [hμ0]; exact hF
  have B22 : ∀ (s1 : Int32) (μ : Mu), Fr (S_X12_blames v1) μ0 μ → X12_blames_22 n v1 s1 μ = some r → Fr (S_X12_blames v1) μ0 r.2 := by
    intro s1 μ hF h
    rw [X12_blames_22] at h
    have hF := hF.si (o := 171) (k := 13) (v := s1) (by unfold S_X12_blames; exact inL_mk 171 171 13 (by decide) (by omega) (by omega) (by omega))
    have hF := hF.si (o := 171) (k := 14) (v := ((si μ 171 13 s1).1 171 10)) (by unfold S_X12_blames; exact inL_mk 171 171 14 (by decide) (by omega) (by omega) (by omega))
    rw [← Option.some.inj h]; exact hF
  split at h
  · skip
    split at h
    rotate_left
    · skip
      exact B22 v1 μ hF h
    · skip
      exact B22 (1 : Int32) μ hF h
  · skip
    rw [← Option.some.inj h]; exact hF
set_option maxRecDepth 100000 in
set_option maxHeartbeats 4000000 in
theorem fr_X12_isWord (n : Nat) (v1 : Nat) (μ : Mu) (r : Int32 × Mu) (h : X12_isWord n v1 μ = some r) : Fr (S_X12_isWord v1) μ r.2 := by
  rw [X12_isWord] at h
  obtain ⟨hk1, h⟩ := kd_some h
  have hF : Fr (S_X12_isWord v1) μ μ := Fr.rf
  obtain ⟨μ0, hμ0⟩ : ∃ z, z = μ := ⟨_, rfl⟩
  rw [← hμ0]
  have hF : Fr (S_X12_isWord v1) μ0 μ := by rw [hμ0]; exact hF
  have B82 : ∀ (v2 : Int32) (μ : Mu), Fr (S_X12_isWord v1) μ0 μ → X12_isWord_82 n v1 v2 μ = some r → Fr (S_X12_isWord v1) μ0 r.2 := by
    intro v2 μ hF h
    rw [X12_isWord_82] at h
    obtain ⟨hz83, h⟩ := bz_some h
    rw [← Option.some.inj h]; exact hF
  have B39 : ∀ (k : Nat), ∀ (v2 : Int32) (v3 : Int32) (μ : Mu), Fr (S_X12_isWord v1) μ0 μ → lpF (fun _ _ _ => none) (X12_isWord_39b n v1) k v2 v3 μ = some r → Fr (S_X12_isWord v1) μ0 r.2 := by
    intro k
    induction k with
    | zero =>
      intro v2 v3 μ hF h
      cases h
    | succ k ih39 =>
      rw [lpF_s]
      generalize lpF (fun _ _ _ => none) (X12_isWord_39b n v1) k = k39 at ih39 ⊢
      intro v2 v3 μ hF h
      have B75 : ∀ (v3 : Int32) (s0 : Int32) (μ : Mu), Fr (S_X12_isWord v1) μ0 μ → X12_isWord_75 n v1 k39 v3 s0 μ = some r → Fr (S_X12_isWord v1) μ0 r.2 := by
        intro v3 s0 μ hF h
        rw [X12_isWord_75] at h
        exact ih39 s0 (v3 + (1 : Int32)) μ hF h
      rw [X12_isWord_39b] at h
      split at h
      · skip
        exact B82 v2 μ hF h
      · skip
        obtain ⟨r45, hr45, h⟩ := bnd h
        have hF := hF.tr (fr_J0_length_8abf5 n v1 μ r45 hr45) (fun o k hS => (subL_of (L1 := []) (by decide +kernel) hS))
        split at h
        · skip
          exact B82 v2 r45.2 hF h
        · skip
          obtain ⟨hi61, h⟩ := gd_some h
          have hjhi61 := vin_lt hi61 rfl
          obtain ⟨r64, hr64, h⟩ := bnd h
          have hF := hF.tr (fr_J0_charAt_5068e n v1 v3 r45.2 r64 hr64) (fun o k hS => (subL_of (L1 := []) (by decide +kernel) hS))
          split at h
          rotate_left
          · skip
            exact B75 v3 (0 : Int32) r64.2 hF h
          · skip
            exact B75 v3 (1 : Int32) r64.2 hF h
  have B36 : ∀ (s0 : Int32) (μ : Mu), Fr (S_X12_isWord v1) μ0 μ → X12_isWord_36 n v1 s0 μ = some r → Fr (S_X12_isWord v1) μ0 r.2 := by
    intro s0 μ hF h
    rw [X12_isWord_36] at h
    exact B39 n s0 (0 : Int32) μ hF h
  have B35 : ∀ (μ : Mu), Fr (S_X12_isWord v1) μ0 μ → X12_isWord_35 n v1  μ = some r → Fr (S_X12_isWord v1) μ0 r.2 := by
    intro μ hF h
    rw [X12_isWord_35] at h
    exact B36 (0 : Int32) μ hF h
  split at h
  rotate_left
  · skip
    exact B35 μ hF h
  · skip
    split at h
    rotate_left
    · skip
      exact B35 μ hF h
    · skip
      obtain ⟨r25, hr25, h⟩ := bnd h
      have hF := hF.tr (fr_J0_length_8abf5 n v1 μ r25 hr25) (fun o k hS => (subL_of (L1 := []) (by decide +kernel) hS))
      split at h
      rotate_left
      · skip
        exact B35 r25.2 hF h
      · skip
        exact B36 (1 : Int32) r25.2 hF h
set_option maxRecDepth 100000 in
set_option maxHeartbeats 4000000 in
theorem fr_X12_took (n : Nat) (v1 : Nat) (μ : Mu) (r : Int32 × Mu) (h : X12_took n v1 μ = some r) : Fr (S_X12_took v1) μ r.2 := by
  rw [X12_took] at h
  obtain ⟨hk1, h⟩ := kd_some h
  have hF : Fr (S_X12_took v1) μ μ := Fr.rf
  obtain ⟨μ0, hμ0⟩ : ∃ z, z = μ := ⟨_, rfl⟩
  rw [← hμ0]
  have hF : Fr (S_X12_took v1) μ0 μ := by rw [hμ0]; exact hF
  have B14 : ∀ (v2 : Int32) (μ : Mu), Fr (S_X12_took v1) μ0 μ → X12_took_14 n v1 v2 μ = some r → Fr (S_X12_took v1) μ0 r.2 := by
    intro v2 μ hF h
    rw [X12_took_14] at h
    obtain ⟨hz15, h⟩ := bz_some h
    rw [← Option.some.inj h]; exact hF
  obtain ⟨r2, hr2, h⟩ := bnd h
  have hF := hF.tr (fr_X12_isWord n v1 μ r2 hr2) (fun o k hS => (subL_of (L1 := []) (by decide +kernel) hS))
  split at h
  · skip
    exact B14 r2.1 r2.2 hF h
  · skip
    obtain ⟨r11, hr11, h⟩ := bnd h
    have hF := hF.tr (fr_X12_reads n r2.2 r11 hr11) (fun o k hS => (subL_of (L1 := [(171, 171, 9), (171, 171, 10), (171, 171, 11), (171, 171, 12)]) (by decide +kernel) hS))
    exact B14 r2.1 r11.2 hF h
set_option maxRecDepth 100000 in
set_option maxHeartbeats 4000000 in
theorem fr_X12_number (n : Nat) (v1 : Int32) (v2 : Int32) (μ : Mu) (r : Int32 × Mu) (h : X12_number n v1 v2 μ = some r) : Fr (S_X12_number v1 v2) μ r.2 := by
  rw [X12_number] at h
  have hF : Fr (S_X12_number v1 v2) μ μ := Fr.rf
  obtain ⟨μ0, hμ0⟩ : ∃ z, z = μ := ⟨_, rfl⟩
  rw [← hμ0]
  have hF : Fr (S_X12_number v1 v2) μ0 μ := by rw [hμ0]; exact hF
  have B64 : ∀ (s0 : Int32) (μ : Mu), Fr (S_X12_number v1 v2) μ0 μ → X12_number_64 n v1 v2 s0 μ = some r → Fr (S_X12_number v1 v2) μ0 r.2 := by
    intro s0 μ hF h
    rw [X12_number_64] at h
    rw [← Option.some.inj h]; exact hF
  have B52 : ∀ (v3 : Int32) (μ : Mu), Fr (S_X12_number v1 v2) μ0 μ → X12_number_52 n v1 v2 v3 μ = some r → Fr (S_X12_number v1 v2) μ0 r.2 := by
    intro v3 μ hF h
    rw [X12_number_52] at h
    split at h
    rotate_left
    · skip
      exact B64 v1 μ hF h
    · skip
      exact B64 v3 μ hF h
  have B36 : ∀ (μ : Mu), Fr (S_X12_number v1 v2) μ0 μ → X12_number_36 n v1 v2  μ = some r → Fr (S_X12_number v1 v2) μ0 r.2 := by
    intro μ hF h
    rw [X12_number_36] at h
    split at h
    rotate_left
    · skip
      exact B52 (μ.1 171 12) μ hF h
    · skip
      obtain ⟨r49, hr49, h⟩ := bnd h
      have hF := hF.tr (fr_X12_reads n μ r49 hr49) (fun o k hS => (subL_of (L1 := [(171, 171, 9), (171, 171, 10), (171, 171, 11), (171, 171, 12)]) (by decide +kernel) hS))
      exact B52 (μ.1 171 12) r49.2 hF h
  split at h
  · skip
    obtain ⟨r25, hr25, h⟩ := bnd h
    have hF := hF.tr (fr_X12_within n ((μ.1 171 12).toInt64) (v1.toInt64) (v2.toInt64) μ r25 hr25) (fun o k hS => (subL_of (L1 := []) (by decide +kernel) hS))
    split at h
    rotate_left
    · skip
      exact B36 r25.2 hF h
    · skip
      obtain ⟨r33, hr33, h⟩ := bnd h
      have hF := hF.tr (fr_X12_blames n (3 : Int32) r25.2 r33 hr33) (fun o k hS => (subL_of (L1 := [(171, 171, 13), (171, 171, 14)]) (by decide +kernel) hS))
      exact B36 r33.2 hF h
  · skip
    obtain ⟨r10, hr10, h⟩ := bnd h
    have hF := hF.tr (fr_X12_blames n (2 : Int32) μ r10 hr10) (fun o k hS => (subL_of (L1 := [(171, 171, 13), (171, 171, 14)]) (by decide +kernel) hS))
    exact B36 r10.2 hF h
set_option maxRecDepth 100000 in
set_option maxHeartbeats 4000000 in
theorem fr_X12_readLay (n : Nat) (μ : Mu) (r : Unit × Mu) (h : X12_readLay n  μ = some r) : Fr S_X12_readLay μ r.2 := by
  rw [X12_readLay] at h
  have hF : Fr S_X12_readLay μ μ := Fr.rf
  obtain ⟨μ0, hμ0⟩ : ∃ z, z = μ := ⟨_, rfl⟩
  rw [← hμ0]
  have hF : Fr S_X12_readLay μ0 μ := by rw [hμ0]; exact hF
  have B2 : ∀ (k : Nat), ∀ (v1 : Int32) (μ : Mu), Fr S_X12_readLay μ0 μ → lpF (fun _ _ => none) (X12_readLay_2b n) k v1 μ = some r → Fr S_X12_readLay μ0 r.2 := by
    intro k
    induction k with
    | zero =>
      intro v1 μ hF h
      cases h
    | succ k ih2 =>
      rw [lpF_s]
      generalize lpF (fun _ _ => none) (X12_readLay_2b n) k = k2 at ih2 ⊢
      intro v1 μ hF h
      have B42 : ∀ (v1 : Int32) (μ : Mu), Fr S_X12_readLay μ0 μ → X12_readLay_42 n k2 v1 μ = some r → Fr S_X12_readLay μ0 r.2 := by
        intro v1 μ hF h
        rw [X12_readLay_42] at h
        obtain ⟨r46, hr46, h⟩ := bnd h
        have hF := hF.tr (fr_X12_number n (0 : Int32) (20 : Int32) μ r46 hr46) (fun o k hS => (subL_of (L1 := [(171, 171, 9), (171, 171, 10), (171, 171, 11), (171, 171, 12), (171, 171, 13), (171, 171, 14)]) (by decide +kernel) hS))
        split at h
        · skip
          obtain ⟨hi67, h⟩ := gd_some h
          have hjhi67 := vin_lt hi67 rfl
          have hF := hF.si (o := 173) (k := ((13 : Int32) + v1).toNatClampNeg) (v := r46.1) (by unfold S_X12_readLay; exact inL_mk 173 173 9999 (by decide) (by omega) (by omega) (by omega))
          split at h
          · skip
            exact ih2 (v1 + (1 : Int32)) (si r46.2 173 ((13 : Int32) + v1).toNatClampNeg r46.1) hF h
          · skip
            rw [← Option.some.inj h]; exact hF
        · skip
          rw [← Option.some.inj h]; exact hF
      rw [X12_readLay_2b] at h
      split at h
      rotate_left
      · skip
        exact B42 v1 μ hF h
      · skip
        split at h
        rotate_left
        · skip
          exact B42 v1 μ hF h
        · skip
          obtain ⟨r31, hr31, h⟩ := bnd h
          have hF := hF.tr (fr_X12_within n ((μ.1 171 12).toInt64) (0 : Int64) (20 : Int64) μ r31 hr31) (fun o k hS => (subL_of (L1 := []) (by decide +kernel) hS))
          split at h
          · skip
            exact B42 v1 r31.2 hF h
          · skip
            obtain ⟨r39, hr39, h⟩ := bnd h
            have hF := hF.tr (fr_X12_blames n (4 : Int32) r31.2 r39 hr39) (fun o k hS => (subL_of (L1 := [(171, 171, 13), (171, 171, 14)]) (by decide +kernel) hS))
            exact B42 v1 r39.2 hF h
  exact B2 n (0 : Int32) μ hF h
set_option maxRecDepth 100000 in
set_option maxHeartbeats 4000000 in
theorem fr_X12_readTake (n : Nat) (μ : Mu) (r : Unit × Mu) (h : X12_readTake n  μ = some r) : Fr S_X12_readTake μ r.2 := by
  rw [X12_readTake] at h
  have hF : Fr S_X12_readTake μ μ := Fr.rf
  obtain ⟨μ0, hμ0⟩ : ∃ z, z = μ := ⟨_, rfl⟩
  rw [← hμ0]
  have hF : Fr S_X12_readTake μ0 μ := by rw [hμ0]; exact hF
  have B96 : ∀ (s1 : Int32) (s2 : Int32) (μ : Mu), Fr S_X12_readTake μ0 μ → X12_readTake_96 n s1 s2 μ = some r → Fr S_X12_readTake μ0 r.2 := by
    intro s1 s2 μ hF h
    rw [X12_readTake_96] at h
    obtain ⟨hi96, h⟩ := gd_some h
    have hjhi96 := vin_lt hi96 rfl
    have hF := hF.si (o := 173) (k := s1.toNatClampNeg) (v := s2) (by unfold S_X12_readTake; exact inL_mk 173 173 9999 (by decide) (by omega) (by omega) (by omega))
    rw [← Option.some.inj h]; exact hF
  have B95 : ∀ (s1 : Int32) (μ : Mu), Fr S_X12_readTake μ0 μ → X12_readTake_95 n s1 μ = some r → Fr S_X12_readTake μ0 r.2 := by
    intro s1 μ hF h
    rw [X12_readTake_95] at h
    exact B96 s1 (0 : Int32) μ hF h
  have B51 : ∀ (v1 : Int32) (μ : Mu), Fr S_X12_readTake μ0 μ → X12_readTake_51 n v1 μ = some r → Fr S_X12_readTake μ0 r.2 := by
    intro v1 μ hF h
    rw [X12_readTake_51] at h
    split at h
    · skip
      obtain ⟨r60, hr60, h⟩ := bnd h
      have hF := hF.tr (fr_X12_reads n μ r60 hr60) (fun o k hS => (subL_of (L1 := [(171, 171, 9), (171, 171, 10), (171, 171, 11), (171, 171, 12)]) (by decide +kernel) hS))
      have hF := hF.si (o := 173) (k := 7) (v := v1) (by unfold S_X12_readTake; exact inL_mk 173 173 9999 (by decide) (by omega) (by omega) (by omega))
      split at h
      rotate_left
      · skip
        exact B95 (8 : Int32) (si r60.2 173 7 v1) hF h
      · skip
        obtain ⟨r85, hr85, h⟩ := bnd h
        have hF := hF.tr (fr_X12_took n 1044 (si r60.2 173 7 v1) r85 hr85) (fun o k hS => (subL_of (L1 := [(171, 171, 9), (171, 171, 10), (171, 171, 11), (171, 171, 12)]) (by decide +kernel) hS))
        split at h
        · skip
          exact B95 (8 : Int32) r85.2 hF h
        · skip
          exact B96 (8 : Int32) (1 : Int32) r85.2 hF h
    · skip
      rw [← Option.some.inj h]; exact hF
  have B40 : ∀ (s0 : Int32) (μ : Mu), Fr S_X12_readTake μ0 μ → X12_readTake_40 n s0 μ = some r → Fr S_X12_readTake μ0 r.2 := by
    intro s0 μ hF h
    rw [X12_readTake_40] at h
    split at h
    rotate_left
    · skip
      exact B51 s0 μ hF h
    · skip
      obtain ⟨r48, hr48, h⟩ := bnd h
      have hF := hF.tr (fr_X12_blames n (2 : Int32) μ r48 hr48) (fun o k hS => (subL_of (L1 := [(171, 171, 13), (171, 171, 14)]) (by decide +kernel) hS))
      exact B51 s0 r48.2 hF h
  obtain ⟨r3, hr3, h⟩ := bnd h
  have hF := hF.tr (fr_X12_isWord n 1041 μ r3 hr3) (fun o k hS => (subL_of (L1 := []) (by decide +kernel) hS))
  split at h
  · skip
    obtain ⟨r16, hr16, h⟩ := bnd h
    have hF := hF.tr (fr_X12_isWord n 1042 r3.2 r16 hr16) (fun o k hS => (subL_of (L1 := []) (by decide +kernel) hS))
    split at h
    · skip
      obtain ⟨r29, hr29, h⟩ := bnd h
      have hF := hF.tr (fr_X12_isWord n 1043 r16.2 r29 hr29) (fun o k hS => (subL_of (L1 := []) (by decide +kernel) hS))
      split at h
      · skip
        exact B40 ((-1) : Int32) r29.2 hF h
      · skip
        exact B40 (2 : Int32) r29.2 hF h
    · skip
      exact B40 (1 : Int32) r16.2 hF h
  · skip
    exact B40 (0 : Int32) r3.2 hF h
set_option maxRecDepth 100000 in
set_option maxHeartbeats 4000000 in
theorem fr_X12_readStored (n : Nat) (μ : Mu) (r : Unit × Mu) (h : X12_readStored n  μ = some r) : Fr S_X12_readStored μ r.2 := by
  rw [X12_readStored] at h
  have hF : Fr S_X12_readStored μ μ := Fr.rf
  obtain ⟨μ0, hμ0⟩ : ∃ z, z = μ := ⟨_, rfl⟩
  rw [← hμ0]
  have hF : Fr S_X12_readStored μ0 μ := by rw [hμ0]; exact hF
  obtain ⟨r4, hr4, h⟩ := bnd h
  have hF := hF.tr (fr_X12_number n (0 : Int32) (99 : Int32) μ r4 hr4) (fun o k hS => (subL_of (L1 := [(171, 171, 9), (171, 171, 10), (171, 171, 11), (171, 171, 12), (171, 171, 13), (171, 171, 14)]) (by decide +kernel) hS))
  obtain ⟨r12, hr12, h⟩ := bnd h
  have hF := hF.tr (fr_X12_number n (0 : Int32) (99 : Int32) r4.2 r12 hr12) (fun o k hS => (subL_of (L1 := [(171, 171, 9), (171, 171, 10), (171, 171, 11), (171, 171, 12), (171, 171, 13), (171, 171, 14)]) (by decide +kernel) hS))
  have hF := hF.si (o := 173) (k := 11) (v := r4.1) (by unfold S_X12_readStored; exact inL_mk 173 173 9999 (by decide) (by omega) (by omega) (by omega))
  have hF := hF.si (o := 173) (k := 12) (v := r12.1) (by unfold S_X12_readStored; exact inL_mk 173 173 9999 (by decide) (by omega) (by omega) (by omega))
  rw [← Option.some.inj h]; exact hF
set_option maxRecDepth 100000 in
set_option maxHeartbeats 4000000 in
theorem fr_X12_lacks (n : Nat) (v1 : Int32) (μ : Mu) (r : Unit × Mu) (h : X12_lacks n v1 μ = some r) : Fr (S_X12_lacks v1) μ r.2 := by
  rw [X12_lacks] at h
  have hF : Fr (S_X12_lacks v1) μ μ := Fr.rf
  obtain ⟨μ0, hμ0⟩ : ∃ z, z = μ := ⟨_, rfl⟩
  rw [← hμ0]
  have hF : Fr (S_X12_lacks v1) μ0 μ := by rw [hμ0]; exact hF
  have B19 : ∀ (μ : Mu), Fr (S_X12_lacks v1) μ0 μ → X12_lacks_19 n v1  μ = some r → Fr (S_X12_lacks v1) μ0 r.2 := by
    intro μ hF h
    rw [X12_lacks_19] at h
    rw [← Option.some.inj h]; exact hF
  split at h
  rotate_left
  · skip
    exact B19 μ hF h
  · skip
    have hF := hF.si (o := 173) (k := 3) (v := ((μ.1 173 3) ||| ((1 : Int32) <<< (v1 &&& 31)))) (by unfold S_X12_lacks; exact inL_mk 173 173 9999 (by decide) (by omega) (by omega) (by omega))
    exact B19 (si μ 173 3 ((μ.1 173 3) ||| ((1 : Int32) <<< (v1 &&& 31)))) hF h
set_option maxRecDepth 100000 in
set_option maxHeartbeats 4000000 in
theorem fr_X12_isWrong (n : Nat) (μ : Mu) (r : Int32 × Mu) (h : X12_isWrong n  μ = some r) : Fr S_X12_isWrong μ r.2 := by
  rw [X12_isWrong] at h
  have hF : Fr S_X12_isWrong μ μ := Fr.rf
  obtain ⟨μ0, hμ0⟩ : ∃ z, z = μ := ⟨_, rfl⟩
  rw [← hμ0]
  have hF : Fr S_X12_isWrong μ0 μ := by rw [hμ0]; exact hF
  have B87 : ∀ (s0 : Int32) (μ : Mu), Fr S_X12_isWrong μ0 μ → X12_isWrong_87 n s0 μ = some r → Fr S_X12_isWrong μ0 r.2 := by
    intro s0 μ hF h
    rw [X12_isWrong_87] at h
    obtain ⟨hz87, h⟩ := bz_some h
    rw [← Option.some.inj h]; exact hF
  have B82 : ∀ (μ : Mu), Fr S_X12_isWrong μ0 μ → X12_isWrong_82 n  μ = some r → Fr S_X12_isWrong μ0 r.2 := by
    intro μ hF h
    rw [X12_isWrong_82] at h
    exact B87 (1 : Int32) μ hF h
  have B6 : ∀ (k : Nat), ∀ (v1 : Int32) (v2 : Int32) (v3 : Int32) (μ : Mu), Fr S_X12_isWrong μ0 μ → lpF (fun _ _ _ _ => none) (X12_isWrong_6b n) k v1 v2 v3 μ = some r → Fr S_X12_isWrong μ0 r.2 := by
    intro k
    induction k with
    | zero =>
      intro v1 v2 v3 μ hF h
      cases h
    | succ k ih6 =>
      rw [lpF_s]
      generalize lpF (fun _ _ _ _ => none) (X12_isWrong_6b n) k = k6 at ih6 ⊢
      intro v1 v2 v3 μ hF h
      have B65 : ∀ (v1 : Int32) (v3 : Int32) (s0 : Int32) (μ : Mu), Fr S_X12_isWrong μ0 μ → X12_isWrong_65 n k6 v1 v3 s0 μ = some r → Fr S_X12_isWrong μ0 r.2 := by
        intro v1 v3 s0 μ hF h
        rw [X12_isWrong_65] at h
        exact ih6 v1 s0 (v3 + (1 : Int32)) μ hF h
      have B60 : ∀ (v1 : Int32) (v3 : Int32) (μ : Mu), Fr S_X12_isWrong μ0 μ → X12_isWrong_60 n k6 v1 v3 μ = some r → Fr S_X12_isWrong μ0 r.2 := by
        intro v1 v3 μ hF h
        rw [X12_isWrong_60] at h
        exact B65 v1 v3 (1 : Int32) μ hF h
      have B64 : ∀ (v1 : Int32) (v3 : Int32) (μ : Mu), Fr S_X12_isWrong μ0 μ → X12_isWrong_64 n k6 v1 v3 μ = some r → Fr S_X12_isWrong μ0 r.2 := by
        intro v1 v3 μ hF h
        rw [X12_isWrong_64] at h
        exact B65 v1 v3 (0 : Int32) μ hF h
      rw [X12_isWrong_6b] at h
      split at h
      · skip
        split at h
        rotate_left
        · skip
          exact B82 μ hF h
        · skip
          split at h
          · skip
            exact B87 (0 : Int32) μ hF h
          · skip
            exact B82 μ hF h
      · skip
        obtain ⟨hi27, h⟩ := gd_some h
        have hjhi27 := vin_lt hi27 rfl
        split at h
        rotate_left
        · skip
          exact B60 (v1 + (μ.1 173 ((13 : Int32) + v3).toNatClampNeg)) v3 μ hF h
        · skip
          split at h
          · skip
            exact B64 (v1 + (μ.1 173 ((13 : Int32) + v3).toNatClampNeg)) v3 μ hF h
          · skip
            split at h
            rotate_left
            · skip
              exact B64 (v1 + (μ.1 173 ((13 : Int32) + v3).toNatClampNeg)) v3 μ hF h
            · skip
              exact B60 (v1 + (μ.1 173 ((13 : Int32) + v3).toNatClampNeg)) v3 μ hF h
  exact B6 n (0 : Int32) (0 : Int32) (0 : Int32) μ hF h
set_option maxRecDepth 100000 in
set_option maxHeartbeats 4000000 in
theorem fr_X12_fault (n : Nat) (v1 : Int32) (μ : Mu) (r : Int32 × Mu) (h : X12_fault n v1 μ = some r) : Fr (S_X12_fault v1) μ r.2 := by
  rw [X12_fault] at h
  have hF : Fr (S_X12_fault v1) μ μ := Fr.rf
  obtain ⟨μ0, hμ0⟩ : ∃ z, z = μ := ⟨_, rfl⟩
  rw [← hμ0]
  have hF : Fr (S_X12_fault v1) μ0 μ := by rw [hμ0]; exact hF
  have B29 : ∀ (s0 : Int32) (μ : Mu), Fr (S_X12_fault v1) μ0 μ → X12_fault_29 n v1 s0 μ = some r → Fr (S_X12_fault v1) μ0 r.2 := by
    intro s0 μ hF h
    rw [X12_fault_29] at h
    rw [← Option.some.inj h]; exact hF
  have hF := hF.si (o := 171) (k := 5) (v := (0 : Int32)) (by unfold S_X12_fault; exact inL_mk 171 171 5 (by decide) (by omega) (by omega) (by omega))
  split at h
  rotate_left
  · skip
    split at h
    rotate_left
    · skip
      exact B29 ((-1) : Int32) (si μ 171 5 (0 : Int32)) hF h
    · skip
      exact B29 ((si μ 171 5 (0 : Int32)).1 171 16) (si μ 171 5 (0 : Int32)) hF h
  · skip
    exact B29 ((si μ 171 5 (0 : Int32)).1 171 15) (si μ 171 5 (0 : Int32)) hF h
set_option maxRecDepth 100000 in
set_option maxHeartbeats 4000000 in
theorem fr_X12_pitMany (n : Nat) (μ : Mu) (r : Int32 × Mu) (h : X12_pitMany n  μ = some r) : Fr S_X12_pitMany μ r.2 := by
  rw [X12_pitMany] at h
  have hF : Fr S_X12_pitMany μ μ := Fr.rf
  obtain ⟨μ0, hμ0⟩ : ∃ z, z = μ := ⟨_, rfl⟩
  rw [← hμ0]
  have hF : Fr S_X12_pitMany μ0 μ := by rw [hμ0]; exact hF
  rw [← Option.some.inj h]; exact hF
set_option maxRecDepth 100000 in
set_option maxHeartbeats 4000000 in
theorem fr_X12_isPit (n : Nat) (v1 : Int32) (μ : Mu) (r : Int32 × Mu) (h : X12_isPit n v1 μ = some r) : Fr (S_X12_isPit v1) μ r.2 := by
  rw [X12_isPit] at h
  have hF : Fr (S_X12_isPit v1) μ μ := Fr.rf
  obtain ⟨μ0, hμ0⟩ : ∃ z, z = μ := ⟨_, rfl⟩
  rw [← hμ0]
  have hF : Fr (S_X12_isPit v1) μ0 μ := by rw [hμ0]; exact hF
  obtain ⟨r4, hr4, h⟩ := bnd h
  have hF := hF.tr (fr_X12_pitMany n μ r4 hr4) (fun o k hS => (subL_of (L1 := []) (by decide +kernel) hS))
  obtain ⟨r10, hr10, h⟩ := bnd h
  have hF := hF.tr (fr_X12_within n (v1.toInt64) (0 : Int64) ((r4.1 - (1 : Int32)).toInt64) r4.2 r10 hr10) (fun o k hS => (subL_of (L1 := []) (by decide +kernel) hS))
  obtain ⟨hz13, h⟩ := bz_some h
  rw [← Option.some.inj h]; exact hF
set_option maxRecDepth 100000 in
set_option maxHeartbeats 4000000 in
theorem fr_X12_isLacking (n : Nat) (v1 : Int32) (μ : Mu) (r : Int32 × Mu) (h : X12_isLacking n v1 μ = some r) : Fr (S_X12_isLacking v1) μ r.2 := by
  rw [X12_isLacking] at h
  have hF : Fr (S_X12_isLacking v1) μ μ := Fr.rf
  obtain ⟨μ0, hμ0⟩ : ∃ z, z = μ := ⟨_, rfl⟩
  rw [← hμ0]
  have hF : Fr (S_X12_isLacking v1) μ0 μ := by rw [hμ0]; exact hF
  have B19 : ∀ (s0 : Int32) (μ : Mu), Fr (S_X12_isLacking v1) μ0 μ → X12_isLacking_19 n v1 s0 μ = some r → Fr (S_X12_isLacking v1) μ0 r.2 := by
    intro s0 μ hF h
    rw [X12_isLacking_19] at h
    obtain ⟨hz19, h⟩ := bz_some h
    rw [← Option.some.inj h]; exact hF
  split at h
  rotate_left
  · skip
    exact B19 (0 : Int32) μ hF h
  · skip
    exact B19 (1 : Int32) μ hF h
set_option maxRecDepth 100000 in
set_option maxHeartbeats 4000000 in
theorem fr_X12_sideOf (n : Nat) (v1 : Int32) (μ : Mu) (r : Int32 × Mu) (h : X12_sideOf n v1 μ = some r) : Fr (S_X12_sideOf v1) μ r.2 := by
  rw [X12_sideOf] at h
  have hF : Fr (S_X12_sideOf v1) μ μ := Fr.rf
  obtain ⟨μ0, hμ0⟩ : ∃ z, z = μ := ⟨_, rfl⟩
  rw [← hμ0]
  have hF : Fr (S_X12_sideOf v1) μ0 μ := by rw [hμ0]; exact hF
  have B15 : ∀ (s0 : Int32) (μ : Mu), Fr (S_X12_sideOf v1) μ0 μ → X12_sideOf_15 n v1 s0 μ = some r → Fr (S_X12_sideOf v1) μ0 r.2 := by
    intro s0 μ hF h
    rw [X12_sideOf_15] at h
    rw [← Option.some.inj h]; exact hF
  split at h
  · skip
    exact B15 (1 : Int32) μ hF h
  · skip
    exact B15 (0 : Int32) μ hF h
set_option maxRecDepth 100000 in
set_option maxHeartbeats 4000000 in
theorem fr_X12_pit (n : Nat) (v1 : Int32) (μ : Mu) (r : Int32 × Mu) (h : X12_pit n v1 μ = some r) : Fr (S_X12_pit v1) μ r.2 := by
  rw [X12_pit] at h
  have hF : Fr (S_X12_pit v1) μ μ := Fr.rf
  obtain ⟨μ0, hμ0⟩ : ∃ z, z = μ := ⟨_, rfl⟩
  rw [← hμ0]
  have hF : Fr (S_X12_pit v1) μ0 μ := by rw [hμ0]; exact hF
  have B40 : ∀ (s0 : Int32) (μ : Mu), Fr (S_X12_pit v1) μ0 μ → X12_pit_40 n v1 s0 μ = some r → Fr (S_X12_pit v1) μ0 r.2 := by
    intro s0 μ hF h
    rw [X12_pit_40] at h
    rw [← Option.some.inj h]; exact hF
  have hF := hF.si (o := 171) (k := 5) (v := (0 : Int32)) (by unfold S_X12_pit; exact inL_mk 171 171 5 (by decide) (by omega) (by omega) (by omega))
  obtain ⟨r7, hr7, h⟩ := bnd h
  have hF := hF.tr (fr_X12_isPit n v1 (si μ 171 5 (0 : Int32)) r7 hr7) (fun o k hS => (subL_of (L1 := []) (by decide +kernel) hS))
  split at h
  rotate_left
  · skip
    obtain ⟨r21, hr21, h⟩ := bnd h
    have hF := hF.tr (fr_X12_isLacking n v1 r7.2 r21 hr21) (fun o k hS => (subL_of (L1 := []) (by decide +kernel) hS))
    split at h
    · skip
      obtain ⟨hi39, h⟩ := gd_some h
      have hjhi39 := vin_lt hi39 rfl
      exact B40 (r21.2.1 172 ((13 : Int32) + v1).toNatClampNeg) r21.2 hF h
    · skip
      exact B40 ((-1) : Int32) r21.2 hF h
  · skip
    obtain ⟨r15, hr15, h⟩ := bnd h
    have hF := hF.tr (fr_X12_fails n (1 : Int32) r7.2 r15 hr15) (fun o k hS => (subL_of (L1 := [(171, 171, 5)]) (by decide +kernel) hS))
    rw [← Option.some.inj h]; exact hF
set_option maxRecDepth 100000 in
set_option maxHeartbeats 4000000 in
theorem fr_X12_isSide (n : Nat) (v0 : Int32) (μ : Mu) (r : Int32 × Mu) (h : X12_isSide n v0 μ = some r) : Fr (S_X12_isSide v0) μ r.2 := by
  rw [X12_isSide] at h
  have hF : Fr (S_X12_isSide v0) μ μ := Fr.rf
  obtain ⟨μ0, hμ0⟩ : ∃ z, z = μ := ⟨_, rfl⟩
  rw [← hμ0]
  have hF : Fr (S_X12_isSide v0) μ0 μ := by rw [hμ0]; exact hF
  obtain ⟨r4, hr4, h⟩ := bnd h
  have hF := hF.tr (fr_X12_within n (v0.toInt64) (0 : Int64) (1 : Int64) μ r4 hr4) (fun o k hS => (subL_of (L1 := []) (by decide +kernel) hS))
  obtain ⟨hz7, h⟩ := bz_some h
  rw [← Option.some.inj h]; exact hF
set_option maxRecDepth 100000 in
set_option maxHeartbeats 4000000 in
theorem fr_X12_store (n : Nat) (v1 : Int32) (μ : Mu) (r : Int32 × Mu) (h : X12_store n v1 μ = some r) : Fr (S_X12_store v1) μ r.2 := by
  rw [X12_store] at h
  have hF : Fr (S_X12_store v1) μ μ := Fr.rf
  obtain ⟨μ0, hμ0⟩ : ∃ z, z = μ := ⟨_, rfl⟩
  rw [← hμ0]
  have hF : Fr (S_X12_store v1) μ0 μ := by rw [hμ0]; exact hF
  have B29 : ∀ (s0 : Int32) (μ : Mu), Fr (S_X12_store v1) μ0 μ → X12_store_29 n v1 s0 μ = some r → Fr (S_X12_store v1) μ0 r.2 := by
    intro s0 μ hF h
    rw [X12_store_29] at h
    rw [← Option.some.inj h]; exact hF
  have hF := hF.si (o := 171) (k := 5) (v := (0 : Int32)) (by unfold S_X12_store; exact inL_mk 171 171 5 (by decide) (by omega) (by omega) (by omega))
  obtain ⟨r6, hr6, h⟩ := bnd h
  have hF := hF.tr (fr_X12_isSide n v1 (si μ 171 5 (0 : Int32)) r6 hr6) (fun o k hS => (subL_of (L1 := []) (by decide +kernel) hS))
  split at h
  · skip
    obtain ⟨r26, hr26, h⟩ := bnd h
    have hF := hF.tr (fr_X12_fails n (1 : Int32) r6.2 r26 hr26) (fun o k hS => (subL_of (L1 := [(171, 171, 5)]) (by decide +kernel) hS))
    exact B29 r26.1 r26.2 hF h
  · skip
    obtain ⟨hi20, h⟩ := gd_some h
    have hjhi20 := vin_lt hi20 rfl
    exact B29 (r6.2.1 172 ((11 : Int32) + v1).toNatClampNeg) r6.2 hF h
set_option maxRecDepth 100000 in
set_option maxHeartbeats 4000000 in
theorem fr_X12_mover (n : Nat) (μ : Mu) (r : Int32 × Mu) (h : X12_mover n  μ = some r) : Fr S_X12_mover μ r.2 := by
  rw [X12_mover] at h
  have hF : Fr S_X12_mover μ μ := Fr.rf
  obtain ⟨μ0, hμ0⟩ : ∃ z, z = μ := ⟨_, rfl⟩
  rw [← hμ0]
  have hF : Fr S_X12_mover μ0 μ := by rw [hμ0]; exact hF
  have hF := hF.si (o := 171) (k := 5) (v := (0 : Int32)) (by unfold S_X12_mover; exact inL_mk 171 171 5 (by decide) (by omega) (by omega) (by omega))
  rw [← Option.some.inj h]; exact hF
set_option maxRecDepth 100000 in
set_option maxHeartbeats 4000000 in
theorem fr_X12_takesUp (n : Nat) (μ : Mu) (r : Unit × Mu) (h : X12_takesUp n  μ = some r) : Fr S_X12_takesUp μ r.2 := by
  rw [X12_takesUp] at h
  have hF : Fr S_X12_takesUp μ μ := Fr.rf
  obtain ⟨μ0, hμ0⟩ : ∃ z, z = μ := ⟨_, rfl⟩
  rw [← hμ0]
  have hF : Fr S_X12_takesUp μ0 μ := by rw [hμ0]; exact hF
  have B2 : ∀ (k : Nat), ∀ (v1 : Int32) (μ : Mu), Fr S_X12_takesUp μ0 μ → lpF (fun _ _ => none) (X12_takesUp_2b n) k v1 μ = some r → Fr S_X12_takesUp μ0 r.2 := by
    intro k
    induction k with
    | zero =>
      intro v1 μ hF h
      cases h
    | succ k ih2 =>
      rw [lpF_s]
      generalize lpF (fun _ _ => none) (X12_takesUp_2b n) k = k2 at ih2 ⊢
      intro v1 μ hF h
      rw [X12_takesUp_2b] at h
      obtain ⟨r4, hr4, h⟩ := bnd h
      have hF := hF.tr (fr_X12_pitMany n μ r4 hr4) (fun o k hS => (subL_of (L1 := []) (by decide +kernel) hS))
      split at h
      · skip
        rw [← Option.some.inj h]; exact hF
      · skip
        obtain ⟨hi23, h⟩ := gd_some h
        have hjhi23 := vin_lt hi23 rfl
        obtain ⟨hi24, h⟩ := gd_some h
        have hjhi24 := vin_lt hi24 rfl
        have hF := hF.si (o := 178) (k := v1.toNatClampNeg) (v := (r4.2.1 172 ((13 : Int32) + v1).toNatClampNeg)) (by unfold S_X12_takesUp; exact inL_mk 178 178 9999 (by decide) (by omega) (by omega) (by omega))
        exact ih2 (v1 + (1 : Int32)) (si r4.2 178 v1.toNatClampNeg (r4.2.1 172 ((13 : Int32) + v1).toNatClampNeg)) hF h
  exact B2 n (0 : Int32) μ hF h
set_option maxRecDepth 100000 in
set_option maxHeartbeats 4000000 in
theorem fr_X12_next (n : Nat) (v1 : Int32) (v2 : Int32) (v3 : Int32) (μ : Mu) (r : Int32 × Mu) (h : X12_next n v1 v2 v3 μ = some r) : Fr (S_X12_next v1 v2 v3) μ r.2 := by
  rw [X12_next] at h
  have hF : Fr (S_X12_next v1 v2 v3) μ μ := Fr.rf
  obtain ⟨μ0, hμ0⟩ : ∃ z, z = μ := ⟨_, rfl⟩
  rw [← hμ0]
  have hF : Fr (S_X12_next v1 v2 v3) μ0 μ := by rw [hμ0]; exact hF
  have B6 : ∀ (k : Nat), ∀ (v4 : Int32) (v5 : Int32) (μ : Mu), Fr (S_X12_next v1 v2 v3) μ0 μ → lpF (fun _ _ _ => none) (X12_next_6b n v1 v2 v3) k v4 v5 μ = some r → Fr (S_X12_next v1 v2 v3) μ0 r.2 := by
    intro k
    induction k with
    | zero =>
      intro v4 v5 μ hF h
      cases h
    | succ k ih6 =>
      rw [lpF_s]
      generalize lpF (fun _ _ _ => none) (X12_next_6b n v1 v2 v3) k = k6 at ih6 ⊢
      intro v4 v5 μ hF h
      have B157 : ∀ (v4 : Int32) (v5 : Int32) (μ : Mu), Fr (S_X12_next v1 v2 v3) μ0 μ → X12_next_157 n v1 v2 v3 k6 v4 v5 μ = some r → Fr (S_X12_next v1 v2 v3) μ0 r.2 := by
        intro v4 v5 μ hF h
        rw [X12_next_157] at h
        exact ih6 v4 (v5 + (1 : Int32)) μ hF h
      have B131 : ∀ (v5 : Int32) (s0 : Int32) (s1 : Int32) (μ : Mu), Fr (S_X12_next v1 v2 v3) μ0 μ → X12_next_131 n v1 v2 v3 k6 v5 s0 s1 μ = some r → Fr (S_X12_next v1 v2 v3) μ0 r.2 := by
        intro v5 s0 s1 μ hF h
        rw [X12_next_131] at h
        obtain ⟨r133, hr133, h⟩ := bnd h
        have hF := hF.tr (fr_X12_pitMany n μ r133 hr133) (fun o k hS => (subL_of (L1 := []) (by decide +kernel) hS))
        obtain ⟨hd136, h⟩ := dv_some h
        obtain ⟨r142, hr142, h⟩ := bnd h
        have hF := hF.tr (fr_X12_isLacking n ((s0 + s1) - (s0 + s1) / r133.1 * r133.1) r133.2 r142 hr142) (fun o k hS => (subL_of (L1 := []) (by decide +kernel) hS))
        split at h
        rotate_left
        · skip
          exact B157 ((s0 + s1) - (s0 + s1) / r133.1 * r133.1) v5 r142.2 hF h
        · skip
          split at h
          · skip
            exact B157 ((s0 + s1) - (s0 + s1) / r133.1 * r133.1) v5 r142.2 hF h
          · skip
            rw [← Option.some.inj h]; exact hF
      have B104 : ∀ (v5 : Int32) (v6 : Int32) (μ : Mu), Fr (S_X12_next v1 v2 v3) μ0 μ → X12_next_104 n v1 v2 v3 k6 v5 v6 μ = some r → Fr (S_X12_next v1 v2 v3) μ0 r.2 := by
        intro v5 v6 μ hF h
        rw [X12_next_104] at h
        obtain ⟨r109, hr109, h⟩ := bnd h
        have hF := hF.tr (fr_X12_pitMany n μ r109 hr109) (fun o k hS => (subL_of (L1 := []) (by decide +kernel) hS))
        obtain ⟨hd112, h⟩ := dv_some h
        split at h
        rotate_left
        · skip
          exact B131 v5 ((v6 + (1 : Int32)) - (v6 + (1 : Int32)) / r109.1 * r109.1) (r109.2.1 172 1) r109.2 hF h
        · skip
          exact B131 v5 ((v6 + (1 : Int32)) - (v6 + (1 : Int32)) / r109.1 * r109.1) (0 : Int32) r109.2 hF h
      have B80 : ∀ (v5 : Int32) (v6 : Int32) (s0 : Int32) (μ : Mu), Fr (S_X12_next v1 v2 v3) μ0 μ → X12_next_80 n v1 v2 v3 k6 v5 v6 s0 μ = some r → Fr (S_X12_next v1 v2 v3) μ0 r.2 := by
        intro v5 v6 s0 μ hF h
        rw [X12_next_80] at h
        split at h
        · skip
          exact B104 v5 v6 μ hF h
        · skip
          split at h
          rotate_left
          · skip
            exact B104 v5 v6 μ hF h
          · skip
            rw [← Option.some.inj h]; exact hF
      have B79 : ∀ (v5 : Int32) (v6 : Int32) (μ : Mu), Fr (S_X12_next v1 v2 v3) μ0 μ → X12_next_79 n v1 v2 v3 k6 v5 v6 μ = some r → Fr (S_X12_next v1 v2 v3) μ0 r.2 := by
        intro v5 v6 μ hF h
        rw [X12_next_79] at h
        exact B80 v5 v6 (0 : Int32) μ hF h
      have B53 : ∀ (v4 : Int32) (v5 : Int32) (s0 : Int32) (μ : Mu), Fr (S_X12_next v1 v2 v3) μ0 μ → X12_next_53 n v1 v2 v3 k6 v4 v5 s0 μ = some r → Fr (S_X12_next v1 v2 v3) μ0 r.2 := by
        intro v4 v5 s0 μ hF h
        rw [X12_next_53] at h
        split at h
        · skip
          exact B79 v5 s0 μ hF h
        · skip
          split at h
          rotate_left
          · skip
            exact B79 v5 s0 μ hF h
          · skip
            exact B80 v5 s0 (1 : Int32) μ hF h
      have B47 : ∀ (v4 : Int32) (v5 : Int32) (s0 : Int32) (s1 : Int32) (μ : Mu), Fr (S_X12_next v1 v2 v3) μ0 μ → X12_next_47 n v1 v2 v3 k6 v4 v5 s0 s1 μ = some r → Fr (S_X12_next v1 v2 v3) μ0 r.2 := by
        intro v4 v5 s0 s1 μ hF h
        rw [X12_next_47] at h
        obtain ⟨r49, hr49, h⟩ := bnd h
        have hF := hF.tr (fr_X12_pitMany n μ r49 hr49) (fun o k hS => (subL_of (L1 := []) (by decide +kernel) hS))
        obtain ⟨hd52, h⟩ := dv_some h
        exact B53 v4 v5 ((s0 + s1) - (s0 + s1) / r49.1 * r49.1) r49.2 hF h
      rw [X12_next_6b] at h
      split at h
      · skip
        rw [← Option.some.inj h]; exact hF
      · skip
        split at h
        rotate_left
        · skip
          split at h
          rotate_left
          · skip
            exact B47 v4 v5 v4 (μ.1 172 1) μ hF h
          · skip
            exact B47 v4 v5 v4 (0 : Int32) μ hF h
        · skip
          exact B53 v4 v5 ((μ.1 172 1) - (1 : Int32)) μ hF h
  exact B6 n v2 (0 : Int32) μ hF h
set_option maxRecDepth 100000 in
set_option maxHeartbeats 4000000 in
theorem fr_X12_sum (n : Nat) (v1 : Int32) (μ : Mu) (r : Int32 × Mu) (h : X12_sum n v1 μ = some r) : Fr (S_X12_sum v1) μ r.2 := by
  rw [X12_sum] at h
  have hF : Fr (S_X12_sum v1) μ μ := Fr.rf
  obtain ⟨μ0, hμ0⟩ : ∃ z, z = μ := ⟨_, rfl⟩
  rw [← hμ0]
  have hF : Fr (S_X12_sum v1) μ0 μ := by rw [hμ0]; exact hF
  have B4 : ∀ (k : Nat), ∀ (v2 : Int32) (v3 : Int32) (μ : Mu), Fr (S_X12_sum v1) μ0 μ → lpF (fun _ _ _ => none) (X12_sum_4b n v1) k v2 v3 μ = some r → Fr (S_X12_sum v1) μ0 r.2 := by
    intro k
    induction k with
    | zero =>
      intro v2 v3 μ hF h
      cases h
    | succ k ih4 =>
      rw [lpF_s]
      generalize lpF (fun _ _ _ => none) (X12_sum_4b n v1) k = k4 at ih4 ⊢
      intro v2 v3 μ hF h
      have B32 : ∀ (v3 : Int32) (s0 : Int32) (s1 : Int32) (μ : Mu), Fr (S_X12_sum v1) μ0 μ → X12_sum_32 n v1 k4 v3 s0 s1 μ = some r → Fr (S_X12_sum v1) μ0 r.2 := by
        intro v3 s0 s1 μ hF h
        rw [X12_sum_32] at h
        exact ih4 (s0 + s1) (v3 + (1 : Int32)) μ hF h
      rw [X12_sum_4b] at h
      obtain ⟨r6, hr6, h⟩ := bnd h
      have hF := hF.tr (fr_X12_pitMany n μ r6 hr6) (fun o k hS => (subL_of (L1 := []) (by decide +kernel) hS))
      split at h
      · skip
        rw [← Option.some.inj h]; exact hF
      · skip
        obtain ⟨r15, hr15, h⟩ := bnd h
        have hF := hF.tr (fr_X12_sideOf n v3 r6.2 r15 hr15) (fun o k hS => (subL_of (L1 := []) (by decide +kernel) hS))
        split at h
        rotate_left
        · skip
          exact B32 v3 v2 (0 : Int32) r15.2 hF h
        · skip
          obtain ⟨hi27, h⟩ := gd_some h
          have hjhi27 := vin_lt hi27 rfl
          exact B32 v3 v2 (r15.2.1 178 v3.toNatClampNeg) r15.2 hF h
  exact B4 n (0 : Int32) (0 : Int32) μ hF h
set_option maxRecDepth 100000 in
set_option maxHeartbeats 4000000 in
theorem fr_X12_ahead (n : Nat) (v1 : Int32) (μ : Mu) (r : Int32 × Mu) (h : X12_ahead n v1 μ = some r) : Fr (S_X12_ahead v1) μ r.2 := by
  rw [X12_ahead] at h
  have hF : Fr (S_X12_ahead v1) μ μ := Fr.rf
  obtain ⟨μ0, hμ0⟩ : ∃ z, z = μ := ⟨_, rfl⟩
  rw [← hμ0]
  have hF : Fr (S_X12_ahead v1) μ0 μ := by rw [hμ0]; exact hF
  have B57 : ∀ (s0 : Int32) (μ : Mu), Fr (S_X12_ahead v1) μ0 μ → X12_ahead_57 n v1 s0 μ = some r → Fr (S_X12_ahead v1) μ0 r.2 := by
    intro s0 μ hF h
    rw [X12_ahead_57] at h
    rw [← Option.some.inj h]; exact hF
  have B56 : ∀ (μ : Mu), Fr (S_X12_ahead v1) μ0 μ → X12_ahead_56 n v1  μ = some r → Fr (S_X12_ahead v1) μ0 r.2 := by
    intro μ hF h
    rw [X12_ahead_56] at h
    exact B57 ((-1) : Int32) μ hF h
  have B35 : ∀ (v2 : Int32) (μ : Mu), Fr (S_X12_ahead v1) μ0 μ → X12_ahead_35 n v1 v2 μ = some r → Fr (S_X12_ahead v1) μ0 r.2 := by
    intro v2 μ hF h
    rw [X12_ahead_35] at h
    split at h
    · skip
      exact B56 μ hF h
    · skip
      obtain ⟨r41, hr41, h⟩ := bnd h
      have hF := hF.tr (fr_X12_sideOf n v2 μ r41 hr41) (fun o k hS => (subL_of (L1 := []) (by decide +kernel) hS))
      obtain ⟨r46, hr46, h⟩ := bnd h
      have hF := hF.tr (fr_X12_sideOf n v1 r41.2 r46 hr46) (fun o k hS => (subL_of (L1 := []) (by decide +kernel) hS))
      split at h
      rotate_left
      · skip
        exact B56 r46.2 hF h
      · skip
        exact B57 v2 r46.2 hF h
  have B4 : ∀ (k : Nat), ∀ (v2 : Int32) (μ : Mu), Fr (S_X12_ahead v1) μ0 μ → lpF (fun _ _ => none) (X12_ahead_4b n v1) k v2 μ = some r → Fr (S_X12_ahead v1) μ0 r.2 := by
    intro k
    induction k with
    | zero =>
      intro v2 μ hF h
      cases h
    | succ k ih4 =>
      rw [lpF_s]
      generalize lpF (fun _ _ => none) (X12_ahead_4b n v1) k = k4 at ih4 ⊢
      intro v2 μ hF h
      rw [X12_ahead_4b] at h
      split at h
      · skip
        exact B35 v2 μ hF h
      · skip
        obtain ⟨r10, hr10, h⟩ := bnd h
        have hF := hF.tr (fr_X12_sideOf n v2 μ r10 hr10) (fun o k hS => (subL_of (L1 := []) (by decide +kernel) hS))
        obtain ⟨r15, hr15, h⟩ := bnd h
        have hF := hF.tr (fr_X12_sideOf n v1 r10.2 r15 hr15) (fun o k hS => (subL_of (L1 := []) (by decide +kernel) hS))
        split at h
        rotate_left
        · skip
          exact B35 v2 r15.2 hF h
        · skip
          obtain ⟨r23, hr23, h⟩ := bnd h
          have hF := hF.tr (fr_X12_isLacking n v2 r15.2 r23 hr23) (fun o k hS => (subL_of (L1 := []) (by decide +kernel) hS))
          split at h
          · skip
            exact B35 v2 r23.2 hF h
          · skip
            exact ih4 (v2 + ((-1) : Int32)) r23.2 hF h
  exact B4 n (v1 - (1 : Int32)) μ hF h
set_option maxRecDepth 100000 in
set_option maxHeartbeats 4000000 in
theorem fr_X12_isFull (n : Nat) (v1 : Int32) (μ : Mu) (r : Int32 × Mu) (h : X12_isFull n v1 μ = some r) : Fr (S_X12_isFull v1) μ r.2 := by
  rw [X12_isFull] at h
  have hF : Fr (S_X12_isFull v1) μ μ := Fr.rf
  obtain ⟨μ0, hμ0⟩ : ∃ z, z = μ := ⟨_, rfl⟩
  rw [← hμ0]
  have hF : Fr (S_X12_isFull v1) μ0 μ := by rw [hμ0]; exact hF
  have B47 : ∀ (s0 : Int32) (μ : Mu), Fr (S_X12_isFull v1) μ0 μ → X12_isFull_47 n v1 s0 μ = some r → Fr (S_X12_isFull v1) μ0 r.2 := by
    intro s0 μ hF h
    rw [X12_isFull_47] at h
    obtain ⟨hz47, h⟩ := bz_some h
    rw [← Option.some.inj h]; exact hF
  have B46 : ∀ (μ : Mu), Fr (S_X12_isFull v1) μ0 μ → X12_isFull_46 n v1  μ = some r → Fr (S_X12_isFull v1) μ0 r.2 := by
    intro μ hF h
    rw [X12_isFull_46] at h
    exact B47 (0 : Int32) μ hF h
  obtain ⟨r2, hr2, h⟩ := bnd h
  have hF := hF.tr (fr_X12_isPit n v1 μ r2 hr2) (fun o k hS => (subL_of (L1 := []) (by decide +kernel) hS))
  split at h
  · skip
    exact B46 r2.2 hF h
  · skip
    obtain ⟨r10, hr10, h⟩ := bnd h
    have hF := hF.tr (fr_X12_sideOf n v1 r2.2 r10 hr10) (fun o k hS => (subL_of (L1 := []) (by decide +kernel) hS))
    split at h
    rotate_left
    · skip
      exact B46 r10.2 hF h
    · skip
      obtain ⟨r24, hr24, h⟩ := bnd h
      have hF := hF.tr (fr_X12_isLacking n v1 r10.2 r24 hr24) (fun o k hS => (subL_of (L1 := []) (by decide +kernel) hS))
      split at h
      rotate_left
      · skip
        exact B46 r24.2 hF h
      · skip
        obtain ⟨hi38, h⟩ := gd_some h
        have hjhi38 := vin_lt hi38 rfl
        split at h
        · skip
          exact B46 r24.2 hF h
        · skip
          exact B47 (1 : Int32) r24.2 hF h
set_option maxRecDepth 100000 in
set_option maxHeartbeats 4000000 in
theorem fr_X12_puts (n : Nat) (v0 : Nat) (v1 : Int32) (v2 : Nat) (μ : Mu) (r : Unit × Mu) (h : X12_puts n v0 v1 v2 μ = some r) : Fr (S_X12_puts v0 v1 v2) μ r.2 := by
  rw [X12_puts] at h
  obtain ⟨hk0, h⟩ := kd_some h
  obtain ⟨hk2, h⟩ := kd_some h
  have hF : Fr (S_X12_puts v0 v1 v2) μ μ := Fr.rf
  obtain ⟨μ0, hμ0⟩ : ∃ z, z = μ := ⟨_, rfl⟩
  rw [← hμ0]
  have hF : Fr (S_X12_puts v0 v1 v2) μ0 μ := by rw [hμ0]; exact hF
  have B2 : ∀ (k : Nat), ∀ (v3 : Int32) (μ : Mu), Fr (S_X12_puts v0 v1 v2) μ0 μ → lpF (fun _ _ => none) (X12_puts_2b n v0 v1 v2) k v3 μ = some r → Fr (S_X12_puts v0 v1 v2) μ0 r.2 := by
    intro k
    induction k with
    | zero =>
      intro v3 μ hF h
      cases h
    | succ k ih2 =>
      rw [lpF_s]
      generalize lpF (fun _ _ => none) (X12_puts_2b n v0 v1 v2) k = k2 at ih2 ⊢
      intro v3 μ hF h
      rw [X12_puts_2b] at h
      split at h
      · skip
        rw [← Option.some.inj h]; exact hF
      · skip
        obtain ⟨hi17, h⟩ := gd_some h
        have hjhi17 := vin_lt hi17 rfl
        obtain ⟨hi18, h⟩ := gd_some h
        have hjhi18 := vin_lt hi18 rfl
        have hF := hF.si (o := v0) (k := (((25 : Int32) * v1) + v3).toNatClampNeg) (v := (μ.1 v2 v3.toNatClampNeg)) (by unfold S_X12_puts; exact Or.inr (by omega))
        exact ih2 (v3 + (1 : Int32)) (si μ v0 (((25 : Int32) * v1) + v3).toNatClampNeg (μ.1 v2 v3.toNatClampNeg)) hF h
  exact B2 n (0 : Int32) μ hF h
set_option maxRecDepth 100000 in
set_option maxHeartbeats 4000000 in
theorem fr_X12_gets (n : Nat) (v0 : Nat) (v1 : Int32) (v2 : Nat) (μ : Mu) (r : Unit × Mu) (h : X12_gets n v0 v1 v2 μ = some r) : Fr (S_X12_gets v0 v1 v2) μ r.2 := by
  rw [X12_gets] at h
  obtain ⟨hk0, h⟩ := kd_some h
  obtain ⟨hk2, h⟩ := kd_some h
  have hF : Fr (S_X12_gets v0 v1 v2) μ μ := Fr.rf
  obtain ⟨μ0, hμ0⟩ : ∃ z, z = μ := ⟨_, rfl⟩
  rw [← hμ0]
  have hF : Fr (S_X12_gets v0 v1 v2) μ0 μ := by rw [hμ0]; exact hF
  have B2 : ∀ (k : Nat), ∀ (v3 : Int32) (μ : Mu), Fr (S_X12_gets v0 v1 v2) μ0 μ → lpF (fun _ _ => none) (X12_gets_2b n v0 v1 v2) k v3 μ = some r → Fr (S_X12_gets v0 v1 v2) μ0 r.2 := by
    intro k
    induction k with
    | zero =>
      intro v3 μ hF h
      cases h
    | succ k ih2 =>
      rw [lpF_s]
      generalize lpF (fun _ _ => none) (X12_gets_2b n v0 v1 v2) k = k2 at ih2 ⊢
      intro v3 μ hF h
      rw [X12_gets_2b] at h
      split at h
      · skip
        rw [← Option.some.inj h]; exact hF
      · skip
        obtain ⟨hi17, h⟩ := gd_some h
        have hjhi17 := vin_lt hi17 rfl
        obtain ⟨hi18, h⟩ := gd_some h
        have hjhi18 := vin_lt hi18 rfl
        have hF := hF.si (o := v2) (k := v3.toNatClampNeg) (v := (μ.1 v0 (((25 : Int32) * v1) + v3).toNatClampNeg)) (by unfold S_X12_gets; exact Or.inr (by omega))
        exact ih2 (v3 + (1 : Int32)) (si μ v2 v3.toNatClampNeg (μ.1 v0 (((25 : Int32) * v1) + v3).toNatClampNeg)) hF h
  exact B2 n (0 : Int32) μ hF h
