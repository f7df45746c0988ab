set_option maxRecDepth 100000 in
set_option maxHeartbeats 4000000 in
theorem fr_X12_takes (n : Nat) (v1 : Int32) (v2 : Int32) (μ : Mu) (r : Unit × Mu) (h : X12_takes n v1 v2 μ = some r) : Fr (S_X12_takes v1 v2) μ r.2 := by
  rw [X12_takes] at h
  have hF : Fr (S_X12_takes v1 v2) μ μ := Fr.rf
  obtain ⟨μ0, hμ0⟩ : ∃ z, z = μ := ⟨_, rfl⟩
  rw [← hμ0]
  have hF : Fr (S_X12_takes v1 v2) μ0 μ := by rw [hμ0]; exact hF
  have B56 : ∀ (μ : Mu), Fr (S_X12_takes v1 v2) μ0 μ → X12_takes_56 n v1 v2  μ = some r → Fr (S_X12_takes v1 v2) μ0 r.2 := by
    intro μ hF h
    rw [X12_takes_56] at h
    rw [← Option.some.inj h]; exact hF
  have B253 : ∀ (μ : Mu), Fr (S_X12_takes v1 v2) μ0 μ → X12_takes_253 n v1 v2  μ = some r → Fr (S_X12_takes v1 v2) μ0 r.2 := by
    intro μ hF h
    rw [X12_takes_253] at h
    rw [← Option.some.inj h]; exact hF
  have B220 : ∀ (k : Nat), ∀ (v3 : Int32) (v5 : Int32) (μ : Mu), Fr (S_X12_takes v1 v2) μ0 μ → lpF (fun _ _ _ => none) (X12_takes_220b n v1 v2) k v3 v5 μ = some r → Fr (S_X12_takes v1 v2) μ0 r.2 := by
    intro k
    induction k with
    | zero =>
      intro v3 v5 μ hF h
      cases h
    | succ k ih220 =>
      rw [lpF_s]
      generalize lpF (fun _ _ _ => none) (X12_takes_220b n v1 v2) k = k220 at ih220 ⊢
      intro v3 v5 μ hF h
      have B247 : ∀ (v3 : Int32) (v5 : Int32) (μ : Mu), Fr (S_X12_takes v1 v2) μ0 μ → X12_takes_247 n v1 v2 k220 v3 v5 μ = some r → Fr (S_X12_takes v1 v2) μ0 r.2 := by
        intro v3 v5 μ hF h
        rw [X12_takes_247] at h
        exact ih220 v3 (v5 + (1 : Int32)) μ hF h
      rw [X12_takes_220b] at h
      obtain ⟨r223, hr223, h⟩ := bnd h
      have hF := hF.tr (fr_X12_pitMany n μ r223 hr223) (fun o k hS => (subL_of (L1 := []) (by decide +kernel) hS))
      split at h
      · skip
        exact B253 r223.2 hF h
      · skip
        split at h
        rotate_left
        · skip
          exact B247 v3 v5 r223.2 hF h
        · skip
          obtain ⟨hi246, h⟩ := gd_some h
          have hjhi246 := vin_lt hi246 rfl
          have hF := hF.si (o := 178) (k := v5.toNatClampNeg) (v := (0 : Int32)) (by unfold S_X12_takes; exact inL_mk 178 178 9999 (by decide) (by omega) (by omega) (by omega))
          exact B247 v3 v5 (si r223.2 178 v5.toNatClampNeg (0 : Int32)) hF h
  have B211 : ∀ (v3 : Int32) (v4 : Int32) (μ : Mu), Fr (S_X12_takes v1 v2) μ0 μ → X12_takes_211 n v1 v2 v3 v4 μ = some r → Fr (S_X12_takes v1 v2) μ0 r.2 := by
    intro v3 v4 μ hF h
    rw [X12_takes_211] at h
    have hF := hF.si (o := 171) (k := 20) (v := v4) (by unfold S_X12_takes; exact inL_mk 171 171 20 (by decide) (by omega) (by omega) (by omega))
    exact B220 n v3 (0 : Int32) (si μ 171 20 v4) hF h
  have B187 : ∀ (v3 : Int32) (v4 : Int32) (μ : Mu), Fr (S_X12_takes v1 v2) μ0 μ → X12_takes_187 n v1 v2 v3 v4 μ = some r → Fr (S_X12_takes v1 v2) μ0 r.2 := by
    intro v3 v4 μ hF h
    rw [X12_takes_187] at h
    split at h
    rotate_left
    · skip
      exact B211 v3 v4 μ hF h
    · skip
      obtain ⟨r204, hr204, h⟩ := bnd h
      have hF := hF.tr (fr_X12_sum n ((1 : Int32) - v1) μ r204 hr204) (fun o k hS => (subL_of (L1 := []) (by decide +kernel) hS))
      split at h
      rotate_left
      · skip
        exact B211 v3 v4 r204.2 hF h
      · skip
        rw [← Option.some.inj h]; exact hF
  have B119 : ∀ (k : Nat), ∀ (v3 : Int32) (v4 : Int32) (v5 : Int32) (μ : Mu), Fr (S_X12_takes v1 v2) μ0 μ → lpF (fun _ _ _ _ => none) (X12_takes_119b n v1 v2) k v3 v4 v5 μ = some r → Fr (S_X12_takes v1 v2) μ0 r.2 := by
    intro k
    induction k with
    | zero =>
      intro v3 v4 v5 μ hF h
      cases h
    | succ k ih119 =>
      rw [lpF_s]
      generalize lpF (fun _ _ _ _ => none) (X12_takes_119b n v1 v2) k = k119 at ih119 ⊢
      intro v3 v4 v5 μ hF h
      have B157 : ∀ (v3 : Int32) (v4 : Int32) (v5 : Int32) (μ : Mu), Fr (S_X12_takes v1 v2) μ0 μ → X12_takes_157 n v1 v2 k119 v3 v4 v5 μ = some r → Fr (S_X12_takes v1 v2) μ0 r.2 := by
        intro v3 v4 v5 μ hF h
        rw [X12_takes_157] at h
        obtain ⟨hi172, h⟩ := gd_some h
        have hjhi172 := vin_lt hi172 rfl
        obtain ⟨r179, hr179, h⟩ := bnd h
        have hF := hF.tr (fr_X12_ahead n v5 μ r179 hr179) (fun o k hS => (subL_of (L1 := []) (by decide +kernel) hS))
        exact ih119 (v3 ||| ((1 : Int32) <<< (v5 &&& 31))) (v4 + (μ.1 178 v5.toNatClampNeg)) r179.1 r179.2 hF h
      rw [X12_takes_119b] at h
      split at h
      · skip
        exact B187 v3 v4 μ hF h
      · skip
        obtain ⟨r128, hr128, h⟩ := bnd h
        have hF := hF.tr (fr_X12_sideOf n v5 μ r128 hr128) (fun o k hS => (subL_of (L1 := []) (by decide +kernel) hS))
        split at h
        · skip
          exact B187 v3 v4 r128.2 hF h
        · skip
          obtain ⟨hi141, h⟩ := gd_some h
          have hjhi141 := vin_lt hi141 rfl
          split at h
          · skip
            exact B157 v3 v4 v5 r128.2 hF h
          · skip
            split at h
            rotate_left
            · skip
              exact B187 v3 v4 r128.2 hF h
            · skip
              exact B157 v3 v4 v5 r128.2 hF h
  split at h
  rotate_left
  · skip
    split at h
    rotate_left
    · skip
      exact B253 μ hF h
    · skip
      exact B119 n (0 : Int32) (0 : Int32) (μ.1 171 18) μ hF h
  · skip
    obtain ⟨r12, hr12, h⟩ := bnd h
    have hF := hF.tr (fr_X12_pitMany n μ r12 hr12) (fun o k hS => (subL_of (L1 := []) (by decide +kernel) hS))
    obtain ⟨r28, hr28, h⟩ := bnd h
    have hF := hF.tr (fr_X12_sideOf n (r12.2.1 171 18) r12.2 r28 hr28) (fun o k hS => (subL_of (L1 := []) (by decide +kernel) hS))
    split at h
    rotate_left
    · skip
      exact B56 r28.2 hF h
    · skip
      split at h
      · skip
        exact B56 r28.2 hF h
      · skip
        obtain ⟨r41, hr41, h⟩ := bnd h
        have hF := hF.tr (fr_X12_isLacking n ((r12.1 - (1 : Int32)) - (r12.2.1 171 18)) r28.2 r41 hr41) (fun o k hS => (subL_of (L1 := []) (by decide +kernel) hS))
        split at h
        rotate_left
        · skip
          exact B56 r41.2 hF h
        · skip
          obtain ⟨hi52, h⟩ := gd_some h
          have hjhi52 := vin_lt hi52 rfl
          split at h
          rotate_left
          · skip
            obtain ⟨hi72, h⟩ := gd_some h
            have hjhi72 := vin_lt hi72 rfl
            have hF := hF.si (o := 171) (k := 20) (v := ((r41.2.1 178 ((r12.1 - (1 : Int32)) - (r12.2.1 171 18)).toNatClampNeg) + (r41.2.1 178 (r41.2.1 171 18).toNatClampNeg))) (by unfold S_X12_takes; exact inL_mk 171 171 20 (by decide) (by omega) (by omega) (by omega))
            have hF := hF.si (o := 178) (k := ((r12.1 - (1 : Int32)) - (r12.2.1 171 18)).toNatClampNeg) (v := (0 : Int32)) (by unfold S_X12_takes; exact inL_mk 178 178 9999 (by decide) (by omega) (by omega) (by omega))
            obtain ⟨hi93, h⟩ := gd_some h
            have hjhi93 := vin_lt hi93 rfl
            have hF := hF.si (o := 178) (k := ((si (si r41.2 171 20 ((r41.2.1 178 ((r12.1 - (1 : Int32)) - (r12.2.1 171 18)).toNatClampNeg) + (r41.2.1 178 (r41.2.1 171 18).toNatClampNeg))) 178 ((r12.1 - (1 : Int32)) - (r12.2.1 171 18)).toNatClampNeg (0 : Int32)).1 171 18).toNatClampNeg) (v := (0 : Int32)) (by unfold S_X12_takes; exact inL_mk 178 178 9999 (by decide) (by omega) (by omega) (by omega))
            exact B253 (si (si (si r41.2 171 20 ((r41.2.1 178 ((r12.1 - (1 : Int32)) - (r12.2.1 171 18)).toNatClampNeg) + (r41.2.1 178 (r41.2.1 171 18).toNatClampNeg))) 178 ((r12.1 - (1 : Int32)) - (r12.2.1 171 18)).toNatClampNeg (0 : Int32)) 178 ((si (si r41.2 171 20 ((r41.2.1 178 ((r12.1 - (1 : Int32)) - (r12.2.1 171 18)).toNatClampNeg) + (r41.2.1 178 (r41.2.1 171 18).toNatClampNeg))) 178 ((r12.1 - (1 : Int32)) - (r12.2.1 171 18)).toNatClampNeg (0 : Int32)).1 171 18).toNatClampNeg (0 : Int32)) hF h
          · skip
            exact B56 r41.2 hF h
set_option maxRecDepth 100000 in
set_option maxHeartbeats 4000000 in
theorem fr_X12_trayFault (n : Nat) (v1 : Int32) (μ : Mu) (r : Int32 × Mu) (h : X12_trayFault n v1 μ = some r) : Fr (S_X12_trayFault v1) μ r.2 := by
  rw [X12_trayFault] at h
  have hF : Fr (S_X12_trayFault v1) μ μ := Fr.rf
  obtain ⟨μ0, hμ0⟩ : ∃ z, z = μ := ⟨_, rfl⟩
  rw [← hμ0]
  have hF : Fr (S_X12_trayFault v1) μ0 μ := by rw [hμ0]; exact hF
  have B26 : ∀ (s0 : Int32) (μ : Mu), Fr (S_X12_trayFault v1) μ0 μ → X12_trayFault_26 n v1 s0 μ = some r → Fr (S_X12_trayFault v1) μ0 r.2 := by
    intro s0 μ hF h
    rw [X12_trayFault_26] at h
    rw [← Option.some.inj h]; exact hF
  obtain ⟨r1, hr1, h⟩ := bnd h
  have hF := hF.tr (fr_X12_isTray n v1 μ r1 hr1) (fun o k hS => (subL_of (L1 := []) (by decide +kernel) hS))
  split at h
  rotate_left
  · skip
    obtain ⟨hi16, h⟩ := gd_some h
    have hjhi16 := vin_lt hi16 rfl
    split at h
    rotate_left
    · skip
      exact B26 (0 : Int32) r1.2 hF h
    · skip
      exact B26 (2 : Int32) r1.2 hF h
  · skip
    exact B26 (1 : Int32) r1.2 hF h
set_option maxRecDepth 100000 in
set_option maxHeartbeats 4000000 in
theorem fr_X12_settles (n : Nat) (v1 : Int32) (μ : Mu) (r : Unit × Mu) (h : X12_settles n v1 μ = some r) : Fr (S_X12_settles v1) μ r.2 := by
  rw [X12_settles] at h
  have hF : Fr (S_X12_settles v1) μ μ := Fr.rf
  obtain ⟨μ0, hμ0⟩ : ∃ z, z = μ := ⟨_, rfl⟩
  rw [← hμ0]
  have hF : Fr (S_X12_settles v1) μ0 μ := by rw [hμ0]; exact hF
  have B96 : ∀ (k : Nat), ∀ (v2 : Int32) (v3 : Int32) (v4 : Int32) (μ : Mu), Fr (S_X12_settles v1) μ0 μ → lpF (fun _ _ _ _ => none) (X12_settles_96b n v1) k v2 v3 v4 μ = some r → Fr (S_X12_settles v1) μ0 r.2 := by
    intro k
    induction k with
    | zero =>
      intro v2 v3 v4 μ hF h
      cases h
    | succ k ih96 =>
      rw [lpF_s]
      generalize lpF (fun _ _ _ _ => none) (X12_settles_96b n v1) k = k96 at ih96 ⊢
      intro v2 v3 v4 μ hF h
      have B163 : ∀ (k : Nat), ∀ (v2 : Int32) (v3 : Int32) (v4 : Int32) (v5 : Int32) (μ : Mu), Fr (S_X12_settles v1) μ0 μ → lpF (fun _ _ _ _ _ => none) (X12_settles_163b n v1 k96) k v2 v3 v4 v5 μ = some r → Fr (S_X12_settles v1) μ0 r.2 := by
        intro k
        induction k with
        | zero =>
          intro v2 v3 v4 v5 μ hF h
          cases h
        | succ k ih163 =>
          rw [lpF_s]
          generalize lpF (fun _ _ _ _ _ => none) (X12_settles_163b n v1 k96) k = k163 at ih163 ⊢
          intro v2 v3 v4 v5 μ hF h
          have B172 : ∀ (k : Nat), ∀ (v2 : Int32) (v3 : Int32) (v4 : Int32) (v5 : Int32) (v6 : Int32) (μ : Mu), Fr (S_X12_settles v1) μ0 μ → lpF (fun _ _ _ _ _ _ => none) (X12_settles_172b n v1 k96 k163) k v2 v3 v4 v5 v6 μ = some r → Fr (S_X12_settles v1) μ0 r.2 := by
            intro k
            induction k with
            | zero =>
              intro v2 v3 v4 v5 v6 μ hF h
              cases h
            | succ k ih172 =>
              rw [lpF_s]
              generalize lpF (fun _ _ _ _ _ _ => none) (X12_settles_172b n v1 k96 k163) k = k172 at ih172 ⊢
              intro v2 v3 v4 v5 v6 μ hF h
              rw [X12_settles_172b] at h
              split at h
              · skip
                exact ih163 v2 v3 v4 (v5 + (1 : Int32)) μ hF h
              · skip
                obtain ⟨r186, hr186, h⟩ := bnd h
                have hF := hF.tr (fr_X12_seat n v5 v1 v6 μ r186 hr186) (fun o k hS => (subL_of (L1 := []) (by decide +kernel) hS))
                obtain ⟨r192, hr192, h⟩ := bnd h
                have hF := hF.tr (fr_X12_betters n r186.1 v1 v4 r186.2 r192 hr192) (fun o k hS => (subL_of (L1 := [(184, 184, 9999), (185, 185, 9999)]) (by decide +kernel) hS))
                exact ih172 v2 (v3 ||| r192.1) v4 v5 (v6 + (1 : Int32)) r192.2 hF h
          rw [X12_settles_163b] at h
          split at h
          · skip
            exact ih96 v2 v3 (v4 + (1 : Int32)) μ hF h
          · skip
            exact B172 n v2 v3 v4 v5 (0 : Int32) μ hF h
      have B105 : ∀ (k : Nat), ∀ (v2 : Int32) (v3 : Int32) (v4 : Int32) (v5 : Int32) (μ : Mu), Fr (S_X12_settles v1) μ0 μ → lpF (fun _ _ _ _ _ => none) (X12_settles_105b n v1 k96) k v2 v3 v4 v5 μ = some r → Fr (S_X12_settles v1) μ0 r.2 := by
        intro k
        induction k with
        | zero =>
          intro v2 v3 v4 v5 μ hF h
          cases h
        | succ k ih105 =>
          rw [lpF_s]
          generalize lpF (fun _ _ _ _ _ => none) (X12_settles_105b n v1 k96) k = k105 at ih105 ⊢
          intro v2 v3 v4 v5 μ hF h
          have B114 : ∀ (k : Nat), ∀ (v2 : Int32) (v3 : Int32) (v4 : Int32) (v5 : Int32) (v6 : Int32) (μ : Mu), Fr (S_X12_settles v1) μ0 μ → lpF (fun _ _ _ _ _ _ => none) (X12_settles_114b n v1 k96 k105) k v2 v3 v4 v5 v6 μ = some r → Fr (S_X12_settles v1) μ0 r.2 := by
            intro k
            induction k with
            | zero =>
              intro v2 v3 v4 v5 v6 μ hF h
              cases h
            | succ k ih114 =>
              rw [lpF_s]
              generalize lpF (fun _ _ _ _ _ _ => none) (X12_settles_114b n v1 k96 k105) k = k114 at ih114 ⊢
              intro v2 v3 v4 v5 v6 μ hF h
              rw [X12_settles_114b] at h
              split at h
              · skip
                exact ih105 v2 v3 v4 (v5 + (1 : Int32)) μ hF h
              · skip
                obtain ⟨r130, hr130, h⟩ := bnd h
                have hF := hF.tr (fr_X12_seat n v5 v1 v6 μ r130 hr130) (fun o k hS => (subL_of (L1 := []) (by decide +kernel) hS))
                obtain ⟨r143, hr143, h⟩ := bnd h
                have hF := hF.tr (fr_X12_seat n v5 v1 v6 r130.2 r143 hr143) (fun o k hS => (subL_of (L1 := []) (by decide +kernel) hS))
                obtain ⟨hi146, h⟩ := gd_some h
                have hjhi146 := vin_lt hi146 rfl
                obtain ⟨hi147, h⟩ := gd_some h
                have hjhi147 := vin_lt hi147 rfl
                have hF := hF.si (o := 186) (k := r130.1.toNatClampNeg) (v := (r143.2.1 184 r143.1.toNatClampNeg)) (by unfold S_X12_settles; exact inL_mk 186 186 9999 (by decide) (by omega) (by omega) (by omega))
                exact ih114 v2 v3 v4 v5 (v6 + (1 : Int32)) (si r143.2 186 r130.1.toNatClampNeg (r143.2.1 184 r143.1.toNatClampNeg)) hF h
          rw [X12_settles_105b] at h
          split at h
          · skip
            exact B163 n v2 v3 v4 (0 : Int32) μ hF h
          · skip
            exact B114 n v2 v3 v4 v5 (0 : Int32) μ hF h
      rw [X12_settles_96b] at h
      split at h
      · skip
        rw [← Option.some.inj h]; exact hF
      · skip
        exact B105 n v2 (0 : Int32) v4 (0 : Int32) μ hF h
  have B18 : ∀ (k : Nat), ∀ (v2 : Int32) (v3 : Int32) (μ : Mu), Fr (S_X12_settles v1) μ0 μ → lpF (fun _ _ _ => none) (X12_settles_18b n v1) k v2 v3 μ = some r → Fr (S_X12_settles v1) μ0 r.2 := by
    intro k
    induction k with
    | zero =>
      intro v2 v3 μ hF h
      cases h
    | succ k ih18 =>
      rw [lpF_s]
      generalize lpF (fun _ _ _ => none) (X12_settles_18b n v1) k = k18 at ih18 ⊢
      intro v2 v3 μ hF h
      have B26 : ∀ (k : Nat), ∀ (v2 : Int32) (v3 : Int32) (v4 : Int32) (μ : Mu), Fr (S_X12_settles v1) μ0 μ → lpF (fun _ _ _ _ => none) (X12_settles_26b n v1 k18) k v2 v3 v4 μ = some r → Fr (S_X12_settles v1) μ0 r.2 := by
        intro k
        induction k with
        | zero =>
          intro v2 v3 v4 μ hF h
          cases h
        | succ k ih26 =>
          rw [lpF_s]
          generalize lpF (fun _ _ _ _ => none) (X12_settles_26b n v1 k18) k = k26 at ih26 ⊢
          intro v2 v3 v4 μ hF h
          have B70 : ∀ (v2 : Int32) (v3 : Int32) (v4 : Int32) (v5 : Int32) (s1 : Int32) (s2 : Int32) (μ : Mu), Fr (S_X12_settles v1) μ0 μ → X12_settles_70 n v1 k18 k26 v2 v3 v4 v5 s1 s2 μ = some r → Fr (S_X12_settles v1) μ0 r.2 := by
            intro v2 v3 v4 v5 s1 s2 μ hF h
            rw [X12_settles_70] at h
            obtain ⟨hi70, h⟩ := gd_some h
            have hjhi70 := vin_lt hi70 rfl
            have hF := hF.si (o := 184) (k := s1.toNatClampNeg) (v := s2) (by unfold S_X12_settles; exact inL_mk 184 184 9999 (by decide) (by omega) (by omega) (by omega))
            obtain ⟨hi78, h⟩ := gd_some h
            have hjhi78 := vin_lt hi78 rfl
            have hF := hF.si (o := 185) (k := v5.toNatClampNeg) (v := (0 : Int32)) (by unfold S_X12_settles; exact inL_mk 185 185 9999 (by decide) (by omega) (by omega) (by omega))
            exact ih26 v2 v3 (v4 + (1 : Int32)) (si (si μ 184 s1.toNatClampNeg s2) 185 v5.toNatClampNeg (0 : Int32)) hF h
          rw [X12_settles_26b] at h
          split at h
          · skip
            exact ih18 v2 (v3 + (1 : Int32)) μ hF h
          · skip
            obtain ⟨r37, hr37, h⟩ := bnd h
            have hF := hF.tr (fr_X12_seat n v3 v1 v4 μ r37 hr37) (fun o k hS => (subL_of (L1 := []) (by decide +kernel) hS))
            obtain ⟨hi54, h⟩ := gd_some h
            have hjhi54 := vin_lt hi54 rfl
            split at h
            · skip
              exact B70 v2 v3 v4 r37.1 r37.1 (0 : Int32) r37.2 hF h
            · skip
              obtain ⟨r63, hr63, h⟩ := bnd h
              have hF := hF.tr (fr_X12_ownLess n v3 v1 v4 r37.2 r63 hr63) (fun o k hS => (subL_of (L1 := [(171, 171, 31), (178, 178, 9999), (183, 183, 9999)]) (by decide +kernel) hS))
              exact B70 v2 v3 v4 r37.1 r37.1 r63.1 r63.2 hF h
      rw [X12_settles_18b] at h
      split at h
      · skip
        exact B96 n v2 (1 : Int32) (1 : Int32) μ hF h
      · skip
        exact B26 n v2 v3 (0 : Int32) μ hF h
  obtain ⟨hi7, h⟩ := gd_some h
  have hjhi7 := vin_lt hi7 rfl
  obtain ⟨hi13, h⟩ := gd_some h
  have hjhi13 := vin_lt hi13 rfl
  exact B18 n ((μ.1 189 (v1 + (1 : Int32)).toNatClampNeg) - (μ.1 189 v1.toNatClampNeg)) (0 : Int32) μ hF h
set_option maxRecDepth 100000 in
set_option maxHeartbeats 4000000 in
theorem fr_X12_write (n : Nat) (v1 : Int32) (v2 : Int32) (v3 : Int64) (μ : Mu) (r : Int64 × Mu) (h : X12_write n v1 v2 v3 μ = some r) : Fr (S_X12_write v1 v2 v3) μ r.2 := by
  rw [X12_write] at h
  have hF : Fr (S_X12_write v1 v2 v3) μ μ := Fr.rf
  obtain ⟨μ0, hμ0⟩ : ∃ z, z = μ := ⟨_, rfl⟩
  rw [← hμ0]
  have hF : Fr (S_X12_write v1 v2 v3) μ0 μ := by rw [hμ0]; exact hF
  have B52 : ∀ (s0 : Int64) (μ : Mu), Fr (S_X12_write v1 v2 v3) μ0 μ → X12_write_52 n v1 v2 v3 s0 μ = some r → Fr (S_X12_write v1 v2 v3) μ0 r.2 := by
    intro s0 μ hF h
    rw [X12_write_52] at h
    rw [← Option.some.inj h]; exact hF
  obtain ⟨r3, hr3, h⟩ := bnd h
  have hF := hF.tr (fr_X12_trayFault n v1 μ r3 hr3) (fun o k hS => (subL_of (L1 := []) (by decide +kernel) hS))
  have hF := hF.si (o := 171) (k := 5) (v := r3.1) (by unfold S_X12_write; exact inL_mk 171 171 5 (by decide) (by omega) (by omega) (by omega))
  split at h
  · skip
    obtain ⟨hi26, h⟩ := gd_some h
    have hjhi26 := vin_lt hi26 rfl
    obtain ⟨r30, hr30, h⟩ := bnd h
    have hF := hF.tr (fr_X12_within n (v2.toInt64) (0 : Int64) ((((si r3.2 171 5 r3.1).1 199 v1.toNatClampNeg) - (1 : Int32)).toInt64) (si r3.2 171 5 r3.1) r30 hr30) (fun o k hS => (subL_of (L1 := []) (by decide +kernel) hS))
    split at h
    · skip
      obtain ⟨r48, hr48, h⟩ := bnd h
      have hF := hF.tr (fr_X12_fails n (3 : Int32) r30.2 r48 hr48) (fun o k hS => (subL_of (L1 := [(171, 171, 5)]) (by decide +kernel) hS))
      exact B52 (r48.1.toInt64) r48.2 hF h
    · skip
      obtain ⟨r40, hr40, h⟩ := bnd h
      have hF := hF.tr (fr_X12_cut n v1 v2 v3 r30.2 r40 hr40) (fun o k hS => (subL_of (L1 := [(200, 200, 9999)]) (by decide +kernel) hS))
      exact B52 r40.1 r40.2 hF h
  · skip
    rw [← Option.some.inj h]; exact hF
set_option maxRecDepth 100000 in
set_option maxHeartbeats 4000000 in
theorem fr_X12_pour (n : Nat) (v1 : Int32) (μ : Mu) (r : Int32 × Mu) (h : X12_pour n v1 μ = some r) : Fr (S_X12_pour v1) μ r.2 := by
  rw [X12_pour] at h
  have hF : Fr (S_X12_pour v1) μ μ := Fr.rf
  obtain ⟨μ0, hμ0⟩ : ∃ z, z = μ := ⟨_, rfl⟩
  rw [← hμ0]
  have hF : Fr (S_X12_pour v1) μ0 μ := by rw [hμ0]; exact hF
  have B34 : ∀ (k : Nat), ∀ (v2 : Int32) (v3 : Int32) (μ : Mu), Fr (S_X12_pour v1) μ0 μ → lpF (fun _ _ _ => none) (X12_pour_34b n v1) k v2 v3 μ = some r → Fr (S_X12_pour v1) μ0 r.2 := by
    intro k
    induction k with
    | zero =>
      intro v2 v3 μ hF h
      cases h
    | succ k ih34 =>
      rw [lpF_s]
      generalize lpF (fun _ _ _ => none) (X12_pour_34b n v1) k = k34 at ih34 ⊢
      intro v2 v3 μ hF h
      rw [X12_pour_34b] at h
      split at h
      · skip
        rw [← Option.some.inj h]; exact hF
      · skip
        obtain ⟨hi47, h⟩ := gd_some h
        have hjhi47 := vin_lt hi47 rfl
        obtain ⟨r49, hr49, h⟩ := bnd h
        have hF := hF.tr (fr_X12_cut n v1 v3 ((μ.1 180 v3.toNatClampNeg).toInt64) μ r49 hr49) (fun o k hS => (subL_of (L1 := [(200, 200, 9999)]) (by decide +kernel) hS))
        exact ih34 v2 (v3 + (1 : Int32)) r49.2 hF h
  obtain ⟨r3, hr3, h⟩ := bnd h
  have hF := hF.tr (fr_X12_trayFault n v1 μ r3 hr3) (fun o k hS => (subL_of (L1 := []) (by decide +kernel) hS))
  have hF := hF.si (o := 171) (k := 5) (v := r3.1) (by unfold S_X12_pour; exact inL_mk 171 171 5 (by decide) (by omega) (by omega) (by omega))
  split at h
  · skip
    obtain ⟨hi23, h⟩ := gd_some h
    have hjhi23 := vin_lt hi23 rfl
    exact B34 n (if ((si r3.2 171 5 r3.1).1 171 28) < ((si r3.2 171 5 r3.1).1 199 v1.toNatClampNeg) then ((si r3.2 171 5 r3.1).1 171 28) else ((si r3.2 171 5 r3.1).1 199 v1.toNatClampNeg)) (0 : Int32) (si r3.2 171 5 r3.1) hF h
  · skip
    rw [← Option.some.inj h]; exact hF
set_option maxRecDepth 100000 in
set_option maxHeartbeats 4000000 in
theorem fr_X0_goDown (n : Nat) (v1 : Int32) (v2 : Int32) (μ : Mu) (r : Unit × Mu) (h : X0_goDown n v1 v2 μ = some r) : Fr (S_X0_goDown v1 v2) μ r.2 := by
  rw [X0_goDown] at h
  have hF : Fr (S_X0_goDown v1 v2) μ μ := Fr.rf
  obtain ⟨μ0, hμ0⟩ : ∃ z, z = μ := ⟨_, rfl⟩
  rw [← hμ0]
  have hF : Fr (S_X0_goDown v1 v2) μ0 μ := by rw [hμ0]; exact hF
  obtain ⟨hi7, h⟩ := gd_some h
  have hjhi7 := vin_lt hi7 rfl
  obtain ⟨hi13, h⟩ := gd_some h
  have hjhi13 := vin_lt hi13 rfl
  obtain ⟨r14, hr14, h⟩ := bnd h
  have hF := hF.tr (fr_X6_copy n (155 + 2 * (v1 + (1 : Int32)).toNatClampNeg) (155 + 2 * v1.toNatClampNeg) μ r14 hr14) (fun o k hS => by
  unfold S_X6_copy at hS
  rcases hS with hS | hS | hS
  · exact (subL_of (by decide +kernel) hS)
  · exact inL_mk 155 168 1 (by decide) (by omega) (by omega) (by omega)
  · exact inL_mk 155 168 9999 (by decide) (by omega) (by omega) (by omega))
  obtain ⟨r30, hr30, h⟩ := bnd h
  have hF := hF.tr (fr_X8_sow n (155 + 2 * (v1 + (1 : Int32)).toNatClampNeg) v2 r14.2 r30 hr30) (fun o k hS => by
  unfold S_X8_sow at hS
  rcases hS with hS | hS | hS
  · exact (subL_of (by decide +kernel) hS)
  · exact inL_mk 155 168 1 (by decide) (by omega) (by omega) (by omega)
  · exact inL_mk 155 168 9999 (by decide) (by omega) (by omega) (by omega))
  rw [← Option.some.inj h]; exact hF
set_option maxRecDepth 100000 in
set_option maxHeartbeats 4000000 in
theorem fr_X1_linkWay (n : Nat) (v1 : Int32) (μ : Mu) (r : Unit × Mu) (h : X1_linkWay n v1 μ = some r) : Fr (S_X1_linkWay v1) μ r.2 := by
  rw [X1_linkWay] at h
  have hF : Fr (S_X1_linkWay v1) μ μ := Fr.rf
  obtain ⟨μ0, hμ0⟩ : ∃ z, z = μ := ⟨_, rfl⟩
  rw [← hμ0]
  have hF : Fr (S_X1_linkWay v1) μ0 μ := by rw [hμ0]; exact hF
  have B93 : ∀ (μ : Mu), Fr (S_X1_linkWay v1) μ0 μ → X1_linkWay_93 n v1  μ = some r → Fr (S_X1_linkWay v1) μ0 r.2 := by
    intro μ hF h
    rw [X1_linkWay_93] at h
    rw [← Option.some.inj h]; exact hF
  have B13 : ∀ (k : Nat), ∀ (v2 : Int32) (v3 : Int32) (v4 : Int32) (v5 : Int32) (μ : Mu), Fr (S_X1_linkWay v1) μ0 μ → lpF (fun _ _ _ _ _ => none) (X1_linkWay_13b n v1) k v2 v3 v4 v5 μ = some r → Fr (S_X1_linkWay v1) μ0 r.2 := by
    intro k
    induction k with
    | zero =>
      intro v2 v3 v4 v5 μ hF h
      cases h
    | succ k ih13 =>
      rw [lpF_s]
      generalize lpF (fun _ _ _ _ _ => none) (X1_linkWay_13b n v1) k = k13 at ih13 ⊢
      intro v2 v3 v4 v5 μ hF h
      have B71 : ∀ (v2 : Int32) (v3 : Int32) (v4 : Int32) (v5 : Int32) (μ : Mu), Fr (S_X1_linkWay v1) μ0 μ → X1_linkWay_71 n v1 k13 v2 v3 v4 v5 μ = some r → Fr (S_X1_linkWay v1) μ0 r.2 := by
        intro v2 v3 v4 v5 μ hF h
        rw [X1_linkWay_71] at h
        exact ih13 v2 v3 v4 (v5 + (1 : Int32)) μ hF h
      have B67 : ∀ (v2 : Int32) (v3 : Int32) (v5 : Int32) (v6 : Int32) (μ : Mu), Fr (S_X1_linkWay v1) μ0 μ → X1_linkWay_67 n v1 k13 v2 v3 v5 v6 μ = some r → Fr (S_X1_linkWay v1) μ0 r.2 := by
        intro v2 v3 v5 v6 μ hF h
        rw [X1_linkWay_67] at h
        exact B71 v2 v3 v6 v5 μ hF h
      rw [X1_linkWay_13b] at h
      split at h
      · skip
        split at h
        · skip
          exact B93 μ hF h
        · skip
          obtain ⟨hi92, h⟩ := gd_some h
          have hjhi92 := vin_lt hi92 rfl
          have hF := hF.si (o := 3) (k := (v2 + v4).toNatClampNeg) (v := v3) (by unfold S_X1_linkWay; exact inL_mk 3 3 9999 (by decide) (by omega) (by omega) (by omega))
          exact B93 (si μ 3 (v2 + v4).toNatClampNeg v3) hF h
      · skip
        obtain ⟨r31, hr31, h⟩ := bnd h
        have hF := hF.tr (fr_X1_cellOnWay n v1 v5 μ r31 hr31) (fun o k hS => (subL_of (L1 := []) (by decide +kernel) hS))
        split at h
        rotate_left
        · skip
          split at h
          rotate_left
          · skip
            obtain ⟨hi66, h⟩ := gd_some h
            have hjhi66 := vin_lt hi66 rfl
            have hF := hF.si (o := 3) (k := (v2 + v4).toNatClampNeg) (v := r31.1) (by unfold S_X1_linkWay; exact inL_mk 3 3 9999 (by decide) (by omega) (by omega) (by omega))
            exact B67 v2 v3 v5 r31.1 (si r31.2 3 (v2 + v4).toNatClampNeg r31.1) hF h
          · skip
            exact B67 v2 r31.1 v5 r31.1 r31.2 hF h
        · skip
          exact B71 v2 v3 v4 v5 r31.2 hF h
  exact B13 n (v1 * (14 : Int32)) ((-1) : Int32) ((-1) : Int32) (0 : Int32) μ hF h
set_option maxRecDepth 100000 in
set_option maxHeartbeats 4000000 in
theorem fr_X4_step (n : Nat) (μ : Mu) (r : Unit × Mu) (h : X4_step n  μ = some r) : Fr S_X4_step μ r.2 := by
  rw [X4_step] at h
  have hF : Fr S_X4_step μ μ := Fr.rf
  obtain ⟨μ0, hμ0⟩ : ∃ z, z = μ := ⟨_, rfl⟩
  rw [← hμ0]
  have hF : Fr S_X4_step μ0 μ := by rw [hμ0]; exact hF
  have B165 : ∀ (μ : Mu), Fr S_X4_step μ0 μ → X4_step_165 n  μ = some r → Fr S_X4_step μ0 r.2 := by
    intro μ hF h
    rw [X4_step_165] at h
    rw [← Option.some.inj h]; exact hF
  have B60 : ∀ (μ : Mu), Fr S_X4_step μ0 μ → X4_step_60 n  μ = some r → Fr S_X4_step μ0 r.2 := by
    intro μ hF h
    rw [X4_step_60] at h
    have hF := hF.si (o := 12) (k := 9) (v := (μ.1 12 8)) (by unfold S_X4_step; exact inL_mk 12 12 9 (by decide) (by omega) (by omega) (by omega))
    split at h
    · skip
      obtain ⟨r92, hr92, h⟩ := bnd h
      have hF := hF.tr (fr_X4_isDigit n ((si μ 12 9 (μ.1 12 8)).1 12 8) (si μ 12 9 (μ.1 12 8)) r92 hr92) (fun o k hS => (subL_of (L1 := []) (by decide +kernel) hS))
      split at h
      · skip
        obtain ⟨r110, hr110, h⟩ := bnd h
        have hF := hF.tr (fr_X4_isLetter n (r92.2.1 12 8) r92.2 r110 hr110) (fun o k hS => (subL_of (L1 := []) (by decide +kernel) hS))
        split at h
        · skip
          obtain ⟨hi131, h⟩ := gd_some h
          have hjhi131 := vin_lt hi131 rfl
          split at h
          rotate_left
          · skip
            have hF := hF.si (o := 12) (k := 7) (v := (4 : Int32)) (by unfold S_X4_step; exact inL_mk 12 12 7 (by decide) (by omega) (by omega) (by omega))
            obtain ⟨r162, hr162, h⟩ := bnd h
            have hF := hF.tr (fr_X4_refuse n (1 : Int32) (si r110.2 12 7 (4 : Int32)) r162 hr162) (fun o k hS => (subL_of (L1 := [(12, 12, 2), (12, 12, 3)]) (by decide +kernel) hS))
            exact B165 r162.2 hF h
          · skip
            have hF := hF.si (o := 12) (k := 7) (v := (3 : Int32)) (by unfold S_X4_step; exact inL_mk 12 12 7 (by decide) (by omega) (by omega) (by omega))
            have hF := hF.si (o := 12) (k := 9) (v := (((si r110.2 12 7 (3 : Int32)).1 12 9) + (1 : Int32))) (by unfold S_X4_step; exact inL_mk 12 12 9 (by decide) (by omega) (by omega) (by omega))
            exact B165 (si (si r110.2 12 7 (3 : Int32)) 12 9 (((si r110.2 12 7 (3 : Int32)).1 12 9) + (1 : Int32))) hF h
        · skip
          obtain ⟨r117, hr117, h⟩ := bnd h
          have hF := hF.tr (fr_X4_stepWord n r110.2 r117 hr117) (fun o k hS => (subL_of (L1 := [(12, 12, 7), (12, 12, 9)]) (by decide +kernel) hS))
          exact B165 r117.2 hF h
      · skip
        obtain ⟨r99, hr99, h⟩ := bnd h
        have hF := hF.tr (fr_X4_stepNumber n r92.2 r99 hr99) (fun o k hS => (subL_of (L1 := [(12, 12, 2), (12, 12, 3), (12, 12, 7), (12, 12, 9), (12, 12, 10)]) (by decide +kernel) hS))
        exact B165 r99.2 hF h
    · skip
      have hF := hF.si (o := 12) (k := 7) (v := (0 : Int32)) (by unfold S_X4_step; exact inL_mk 12 12 7 (by decide) (by omega) (by omega) (by omega))
      exact B165 (si (si μ 12 9 (μ.1 12 8)) 12 7 (0 : Int32)) hF h
  have B8 : ∀ (k : Nat), ∀ (μ : Mu), Fr S_X4_step μ0 μ → lpF (fun _ => none) (X4_step_8b n) k  μ = some r → Fr S_X4_step μ0 r.2 := by
    intro k
    induction k with
    | zero =>
      intro μ hF h
      cases h
    | succ k ih8 =>
      rw [lpF_s]
      generalize lpF (fun _ => none) (X4_step_8b n) k = k8 at ih8 ⊢
      intro μ hF h
      have B47 : ∀ (μ : Mu), Fr S_X4_step μ0 μ → X4_step_47 n k8  μ = some r → Fr S_X4_step μ0 r.2 := by
        intro μ hF h
        rw [X4_step_47] at h
        have hF := hF.si (o := 12) (k := 8) (v := ((μ.1 12 8) + (1 : Int32))) (by unfold S_X4_step; exact inL_mk 12 12 8 (by decide) (by omega) (by omega) (by omega))
        exact ih8 (si μ 12 8 ((μ.1 12 8) + (1 : Int32))) hF h
      rw [X4_step_8b] at h
      split at h
      · skip
        exact B60 μ hF h
      · skip
        obtain ⟨hi27, h⟩ := gd_some h
        have hjhi27 := vin_lt hi27 rfl
        split at h
        · skip
          exact B47 μ hF h
        · skip
          split at h
          rotate_left
          · skip
            exact B60 μ hF h
          · skip
            exact B47 μ hF h
  have hF := hF.si (o := 12) (k := 8) (v := (μ.1 12 9)) (by unfold S_X4_step; exact inL_mk 12 12 8 (by decide) (by omega) (by omega) (by omega))
  exact B8 n (si μ 12 8 (μ.1 12 9)) hF h
set_option maxRecDepth 100000 in
set_option maxHeartbeats 4000000 in
theorem fr_X7_readPosition (n : Nat) (v1 : Int32) (v2 : Int32) (v3 : Int32) (μ : Mu) (r : Unit × Mu) (h : X7_readPosition n v1 v2 v3 μ = some r) : Fr (S_X7_readPosition v1 v2 v3) μ r.2 := by
  rw [X7_readPosition] at h
  have hF : Fr (S_X7_readPosition v1 v2 v3) μ μ := Fr.rf
  obtain ⟨μ0, hμ0⟩ : ∃ z, z = μ := ⟨_, rfl⟩
  rw [← hμ0]
  have hF : Fr (S_X7_readPosition v1 v2 v3) μ0 μ := by rw [hμ0]; exact hF
  have B145 : ∀ (k : Nat), ∀ (v4 : Int32) (v6 : Int32) (v7 : Int32) (μ : Mu), Fr (S_X7_readPosition v1 v2 v3) μ0 μ → lpF (fun _ _ _ _ => none) (X7_readPosition_145b n v1 v2 v3) k v4 v6 v7 μ = some r → Fr (S_X7_readPosition v1 v2 v3) μ0 r.2 := by
    intro k
    induction k with
    | zero =>
      intro v4 v6 v7 μ hF h
      cases h
    | succ k ih145 =>
      rw [lpF_s]
      generalize lpF (fun _ _ _ _ => none) (X7_readPosition_145b n v1 v2 v3) k = k145 at ih145 ⊢
      intro v4 v6 v7 μ hF h
      have B176 : ∀ (v4 : Int32) (v6 : Int32) (v7 : Int32) (μ : Mu), Fr (S_X7_readPosition v1 v2 v3) μ0 μ → X7_readPosition_176 n v1 v2 v3 k145 v4 v6 v7 μ = some r → Fr (S_X7_readPosition v1 v2 v3) μ0 r.2 := by
        intro v4 v6 v7 μ hF h
        rw [X7_readPosition_176] at h
        exact ih145 v4 v6 (v7 + (1 : Int32)) μ hF h
      rw [X7_readPosition_145b] at h
      split at h
      · skip
        rw [← Option.some.inj h]; exact hF
      · skip
        obtain ⟨r161, hr161, h⟩ := bnd h
        have hF := hF.tr (fr_X11_has n v6 v7 μ r161 hr161) (fun o k hS => (subL_of (L1 := []) (by decide +kernel) hS))
        split at h
        · skip
          exact B176 v4 v6 v7 r161.2 hF h
        · skip
          obtain ⟨r173, hr173, h⟩ := bnd h
          have hF := hF.tr (fr_X7_readMove n v4 v2 v7 r161.2 r173 hr173) (fun o k hS => (subL_of (L1 := [(18, 18, 9999), (20, 20, 9999), (21, 21, 9999)]) (by decide +kernel) hS))
          exact B176 v4 v6 v7 r173.2 hF h
  have B142 : ∀ (v4 : Int32) (v6 : Int32) (μ : Mu), Fr (S_X7_readPosition v1 v2 v3) μ0 μ → X7_readPosition_142 n v1 v2 v3 v4 v6 μ = some r → Fr (S_X7_readPosition v1 v2 v3) μ0 r.2 := by
    intro v4 v6 μ hF h
    rw [X7_readPosition_142] at h
    exact B145 n v4 v6 (0 : Int32) μ hF h
  obtain ⟨r13, hr13, h⟩ := bnd h
  have hF := hF.tr (fr_X7_indexOf n v1 v2 v3 μ r13 hr13) (fun o k hS => (subL_of (L1 := []) (by decide +kernel) hS))
  obtain ⟨r29, hr29, h⟩ := bnd h
  have hF := hF.tr (fr_X1_lay n 151 v1 v2 v3 r13.2 r29 hr29) (fun o k hS => by
  unfold S_X1_lay at hS
  rcases hS with hS | hS | hS
  · exact (subL_of (by decide +kernel) hS)
  · exact inL_mk 151 151 1 (by decide) (by omega) (by omega) (by omega)
  · exact inL_mk 152 152 9999 (by decide) (by omega) (by omega) (by omega))
  obtain ⟨hi41, h⟩ := gd_some h
  have hjhi41 := vin_lt hi41 rfl
  have hF := hF.si (o := 18) (k := ((v1 * (3003 : Int32)) + v3).toNatClampNeg) (v := ((-1000) : Int32)) (by unfold S_X7_readPosition; exact inL_mk 18 18 9999 (by decide) (by omega) (by omega) (by omega))
  have hF := hF.si (o := 20) (k := ((v1 * (3003 : Int32)) + v3).toNatClampNeg) (v := (0 : Int32)) (by unfold S_X7_readPosition; exact inL_mk 20 20 9999 (by decide) (by omega) (by omega) (by omega))
  obtain ⟨hi57, h⟩ := gd_some h
  have hjhi57 := vin_lt hi57 rfl
  have hF := hF.si (o := 16) (k := r13.1.toNatClampNeg) (v := (0 : Int32)) (by unfold S_X7_readPosition; exact inL_mk 16 16 9999 (by decide) (by omega) (by omega) (by omega))
  have hF := hF.si (o := 17) (k := r13.1.toNatClampNeg) (v := (0 : Int32)) (by unfold S_X7_readPosition; exact inL_mk 17 17 9999 (by decide) (by omega) (by omega) (by omega))
  obtain ⟨r74, hr74, h⟩ := bnd h
  have hF := hF.tr (fr_X8_tryAll n 151 (si (si (si (si r29.2 18 ((v1 * (3003 : Int32)) + v3).toNatClampNeg ((-1000) : Int32)) 20 ((v1 * (3003 : Int32)) + v3).toNatClampNeg (0 : Int32)) 16 r13.1.toNatClampNeg (0 : Int32)) 17 r13.1.toNatClampNeg (0 : Int32)) r74 hr74) (fun o k hS => (subL_of (L1 := [(6, 6, 0), (6, 6, 1), (6, 6, 2), (6, 6, 3), (8, 8, 9999), (57, 68, 1), (57, 68, 9999)]) (by decide +kernel) hS))
  split at h
  rotate_left
  · skip
    exact B142 ((v1 * (3003 : Int32)) + v3) ((r74.1.toUInt32 >>> ((v1 * (r74.2.1 1 1)).toUInt32 &&& Int32.toUInt32 31)).toInt32) r74.2 hF h
  · skip
    obtain ⟨r112, hr112, h⟩ := bnd h
    have hF := hF.tr (fr_X6_inRow n 151 v1 (r74.2.1 1 1) r74.2 r112 hr112) (fun o k hS => (subL_of (L1 := []) (by decide +kernel) hS))
    obtain ⟨r129, hr129, h⟩ := bnd h
    have hF := hF.tr (fr_X6_inRow n 151 ((1 : Int32) - v1) (r112.2.1 1 1) r112.2 r129 hr129) (fun o k hS => (subL_of (L1 := []) (by decide +kernel) hS))
    have hF := hF.si (o := 16) (k := r13.1.toNatClampNeg) (v := (r112.1 - r129.1)) (by unfold S_X7_readPosition; exact inL_mk 16 16 9999 (by decide) (by omega) (by omega) (by omega))
    have hF := hF.si (o := 17) (k := r13.1.toNatClampNeg) (v := ((-1) : Int32)) (by unfold S_X7_readPosition; exact inL_mk 17 17 9999 (by decide) (by omega) (by omega) (by omega))
    exact B142 ((v1 * (3003 : Int32)) + v3) ((r74.1.toUInt32 >>> ((v1 * (r74.2.1 1 1)).toUInt32 &&& Int32.toUInt32 31)).toInt32) (si (si r129.2 16 r13.1.toNatClampNeg (r112.1 - r129.1)) 17 r13.1.toNatClampNeg ((-1) : Int32)) hF h
set_option maxRecDepth 100000 in
set_option maxHeartbeats 4000000 in
theorem fr_X7_worthBy (n : Nat) (v1 : Nat) (v2 : Int32) (μ : Mu) (r : Int32 × Mu) (h : X7_worthBy n v1 v2 μ = some r) : Fr (S_X7_worthBy v1 v2) μ r.2 := by
  rw [X7_worthBy] at h
  obtain ⟨hk1, h⟩ := kd_some h
  have hF : Fr (S_X7_worthBy v1 v2) μ μ := Fr.rf
  obtain ⟨μ0, hμ0⟩ : ∃ z, z = μ := ⟨_, rfl⟩
  rw [← hμ0]
  have hF : Fr (S_X7_worthBy v1 v2) μ0 μ := by rw [hμ0]; exact hF
  have B40 : ∀ (s0 : Int32) (μ : Mu), Fr (S_X7_worthBy v1 v2) μ0 μ → X7_worthBy_40 n v1 v2 s0 μ = some r → Fr (S_X7_worthBy v1 v2) μ0 r.2 := by
    intro s0 μ hF h
    rw [X7_worthBy_40] at h
    rw [← Option.some.inj h]; exact hF
  obtain ⟨r5, hr5, h⟩ := bnd h
  have hF := hF.tr (fr_X8_tryAll n v1 μ r5 hr5) (fun o k hS => (subL_of (L1 := [(6, 6, 0), (6, 6, 1), (6, 6, 2), (6, 6, 3), (8, 8, 9999), (57, 68, 1), (57, 68, 9999)]) (by decide +kernel) hS))
  obtain ⟨r9, hr9, h⟩ := bnd h
  have hF := hF.tr (fr_X11_has n r5.1 v2 r5.2 r9 hr9) (fun o k hS => (subL_of (L1 := []) (by decide +kernel) hS))
  split at h
  · skip
    exact B40 ((-1000) : Int32) r9.2 hF h
  · skip
    obtain ⟨r31, hr31, h⟩ := bnd h
    have hF := hF.tr (fr_X7_worthOfTried n v1 (v2 - ((r9.2.1 v1 1) * (r9.2.1 1 1))) r9.2 r31 hr31) (fun o k hS => (subL_of (L1 := [(15, 15, 8)]) (by decide +kernel) hS))
    exact B40 r31.1 r31.2 hF h
set_option maxRecDepth 100000 in
set_option maxHeartbeats 4000000 in
theorem fr_X7_bestAt (n : Nat) (v1 : Nat) (μ : Mu) (r : Int32 × Mu) (h : X7_bestAt n v1 μ = some r) : Fr (S_X7_bestAt v1) μ r.2 := by
  rw [X7_bestAt] at h
  obtain ⟨hk1, h⟩ := kd_some h
  have hF : Fr (S_X7_bestAt v1) μ μ := Fr.rf
  obtain ⟨μ0, hμ0⟩ : ∃ z, z = μ := ⟨_, rfl⟩
  rw [← hμ0]
  have hF : Fr (S_X7_bestAt v1) μ0 μ := by rw [hμ0]; exact hF
  have B40 : ∀ (k : Nat), ∀ (v2 : Int32) (v3 : Int32) (v4 : Int32) (v5 : Int32) (v6 : Int32) (v7 : Int32) (μ : Mu), Fr (S_X7_bestAt v1) μ0 μ → lpF (fun _ _ _ _ _ _ _ => none) (X7_bestAt_40b n v1) k v2 v3 v4 v5 v6 v7 μ = some r → Fr (S_X7_bestAt v1) μ0 r.2 := by
    intro k
    induction k with
    | zero =>
      intro v2 v3 v4 v5 v6 v7 μ hF h
      cases h
    | succ k ih40 =>
      rw [lpF_s]
      generalize lpF (fun _ _ _ _ _ _ _ => none) (X7_bestAt_40b n v1) k = k40 at ih40 ⊢
      intro v2 v3 v4 v5 v6 v7 μ hF h
      have B100 : ∀ (v2 : Int32) (v3 : Int32) (v4 : Int32) (v5 : Int32) (v6 : Int32) (v7 : Int32) (μ : Mu), Fr (S_X7_bestAt v1) μ0 μ → X7_bestAt_100 n v1 k40 v2 v3 v4 v5 v6 v7 μ = some r → Fr (S_X7_bestAt v1) μ0 r.2 := by
        intro v2 v3 v4 v5 v6 v7 μ hF h
        rw [X7_bestAt_100] at h
        exact ih40 v2 v3 v4 v5 v6 (v7 + (1 : Int32)) μ hF h
      have B88 : ∀ (v2 : Int32) (v3 : Int32) (v4 : Int32) (v7 : Int32) (μ : Mu), Fr (S_X7_bestAt v1) μ0 μ → X7_bestAt_88 n v1 k40 v2 v3 v4 v7 μ = some r → Fr (S_X7_bestAt v1) μ0 r.2 := by
        intro v2 v3 v4 v7 μ hF h
        rw [X7_bestAt_88] at h
        exact B100 v2 v3 v4 (v3 + v7) (μ.1 15 8) v7 μ hF h
      rw [X7_bestAt_40b] at h
      split at h
      · skip
        rw [← Option.some.inj h]; exact hF
      · skip
        obtain ⟨r56, hr56, h⟩ := bnd h
        have hF := hF.tr (fr_X11_has n v4 v7 μ r56 hr56) (fun o k hS => (subL_of (L1 := []) (by decide +kernel) hS))
        split at h
        · skip
          exact B100 v2 v3 v4 v5 v6 v7 r56.2 hF h
        · skip
          obtain ⟨r66, hr66, h⟩ := bnd h
          have hF := hF.tr (fr_X7_worthOfTried n v1 v7 r56.2 r66 hr66) (fun o k hS => (subL_of (L1 := [(15, 15, 8)]) (by decide +kernel) hS))
          split at h
          rotate_left
          · skip
            exact B100 v2 v3 v4 v5 v6 v7 r66.2 hF h
          · skip
            split at h
            · skip
              exact B88 v2 v3 v4 v7 r66.2 hF h
            · skip
              split at h
              · skip
                exact B100 v2 v3 v4 v5 v6 v7 r66.2 hF h
              · skip
                exact B88 v2 v3 v4 v7 r66.2 hF h
  obtain ⟨r2, hr2, h⟩ := bnd h
  have hF := hF.tr (fr_X7_valueAt n v1 μ r2 hr2) (fun o k hS => (subL_of (L1 := []) (by decide +kernel) hS))
  obtain ⟨r24, hr24, h⟩ := bnd h
  have hF := hF.tr (fr_X8_tryAll n v1 r2.2 r24 hr24) (fun o k hS => (subL_of (L1 := [(6, 6, 0), (6, 6, 1), (6, 6, 2), (6, 6, 3), (8, 8, 9999), (57, 68, 1), (57, 68, 9999)]) (by decide +kernel) hS))
  exact B40 n r2.1 ((r2.2.1 v1 1) * (r2.2.1 1 1)) ((r24.1.toUInt32 >>> (((r2.2.1 v1 1) * (r2.2.1 1 1)).toUInt32 &&& Int32.toUInt32 31)).toInt32) ((-1) : Int32) (0 : Int32) (0 : Int32) r24.2 hF h
set_option maxRecDepth 100000 in
set_option maxHeartbeats 4000000 in
theorem fr_X7_manyBest (n : Nat) (v1 : Nat) (μ : Mu) (r : Int32 × Mu) (h : X7_manyBest n v1 μ = some r) : Fr (S_X7_manyBest v1) μ r.2 := by
  rw [X7_manyBest] at h
  obtain ⟨hk1, h⟩ := kd_some h
  have hF : Fr (S_X7_manyBest v1) μ μ := Fr.rf
  obtain ⟨μ0, hμ0⟩ : ∃ z, z = μ := ⟨_, rfl⟩
  rw [← hμ0]
  have hF : Fr (S_X7_manyBest v1) μ0 μ := by rw [hμ0]; exact hF
  have B34 : ∀ (k : Nat), ∀ (v2 : Int32) (v3 : Int32) (v4 : Int32) (v5 : Int32) (μ : Mu), Fr (S_X7_manyBest v1) μ0 μ → lpF (fun _ _ _ _ _ => none) (X7_manyBest_34b n v1) k v2 v3 v4 v5 μ = some r → Fr (S_X7_manyBest v1) μ0 r.2 := by
    intro k
    induction k with
    | zero =>
      intro v2 v3 v4 v5 μ hF h
      cases h
    | succ k ih34 =>
      rw [lpF_s]
      generalize lpF (fun _ _ _ _ _ => none) (X7_manyBest_34b n v1) k = k34 at ih34 ⊢
      intro v2 v3 v4 v5 μ hF h
      have B69 : ∀ (v2 : Int32) (v3 : Int32) (v4 : Int32) (v5 : Int32) (μ : Mu), Fr (S_X7_manyBest v1) μ0 μ → X7_manyBest_69 n v1 k34 v2 v3 v4 v5 μ = some r → Fr (S_X7_manyBest v1) μ0 r.2 := by
        intro v2 v3 v4 v5 μ hF h
        rw [X7_manyBest_69] at h
        exact ih34 v2 v3 v4 (v5 + (1 : Int32)) μ hF h
      rw [X7_manyBest_34b] at h
      split at h
      · skip
        rw [← Option.some.inj h]; exact hF
      · skip
        obtain ⟨r49, hr49, h⟩ := bnd h
        have hF := hF.tr (fr_X11_has n v3 v5 μ r49 hr49) (fun o k hS => (subL_of (L1 := []) (by decide +kernel) hS))
        split at h
        · skip
          exact B69 v2 v3 v4 v5 r49.2 hF h
        · skip
          obtain ⟨r59, hr59, h⟩ := bnd h
          have hF := hF.tr (fr_X7_worthOfTried n v1 v5 r49.2 r59 hr59) (fun o k hS => (subL_of (L1 := [(15, 15, 8)]) (by decide +kernel) hS))
          split at h
          rotate_left
          · skip
            exact B69 v2 v3 v4 v5 r59.2 hF h
          · skip
            exact B69 v2 v3 (v4 + (1 : Int32)) v5 r59.2 hF h
  obtain ⟨r2, hr2, h⟩ := bnd h
  have hF := hF.tr (fr_X7_valueAt n v1 μ r2 hr2) (fun o k hS => (subL_of (L1 := []) (by decide +kernel) hS))
  obtain ⟨r11, hr11, h⟩ := bnd h
  have hF := hF.tr (fr_X8_tryAll n v1 r2.2 r11 hr11) (fun o k hS => (subL_of (L1 := [(6, 6, 0), (6, 6, 1), (6, 6, 2), (6, 6, 3), (8, 8, 9999), (57, 68, 1), (57, 68, 9999)]) (by decide +kernel) hS))
  exact B34 n r2.1 ((r11.1.toUInt32 >>> (((r11.2.1 v1 1) * (r11.2.1 1 1)).toUInt32 &&& Int32.toUInt32 31)).toInt32) (0 : Int32) (0 : Int32) r11.2 hF h
set_option maxRecDepth 100000 in
set_option maxHeartbeats 4000000 in
theorem fr_X8_choices (n : Nat) (v1 : Nat) (μ : Mu) (r : Int32 × Mu) (h : X8_choices n v1 μ = some r) : Fr (S_X8_choices v1) μ r.2 := by
  rw [X8_choices] at h
  obtain ⟨hk1, h⟩ := kd_some h
  have hF : Fr (S_X8_choices v1) μ μ := Fr.rf
  obtain ⟨μ0, hμ0⟩ : ∃ z, z = μ := ⟨_, rfl⟩
  rw [← hμ0]
  have hF : Fr (S_X8_choices v1) μ0 μ := by rw [hμ0]; exact hF
  have B39 : ∀ (s0 : Int32) (μ : Mu), Fr (S_X8_choices v1) μ0 μ → X8_choices_39 n v1 s0 μ = some r → Fr (S_X8_choices v1) μ0 r.2 := by
    intro s0 μ hF h
    rw [X8_choices_39] at h
    rw [← Option.some.inj h]; exact hF
  have B20 : ∀ (μ : Mu), Fr (S_X8_choices v1) μ0 μ → X8_choices_20 n v1  μ = some r → Fr (S_X8_choices v1) μ0 r.2 := by
    intro μ hF h
    rw [X8_choices_20] at h
    obtain ⟨r22, hr22, h⟩ := bnd h
    have hF := hF.tr (fr_X8_tryAll n v1 μ r22 hr22) (fun o k hS => (subL_of (L1 := [(6, 6, 0), (6, 6, 1), (6, 6, 2), (6, 6, 3), (8, 8, 9999), (57, 68, 1), (57, 68, 9999)]) (by decide +kernel) hS))
    exact B39 r22.1 r22.2 hF h
  split at h
  rotate_left
  · skip
    exact B20 μ hF h
  · skip
    split at h
    · skip
      obtain ⟨r36, hr36, h⟩ := bnd h
      have hF := hF.tr (fr_X6_filled n v1 (μ.1 1 1) μ r36 hr36) (fun o k hS => (subL_of (L1 := []) (by decide +kernel) hS))
      exact B39 r36.1 r36.2 hF h
    · skip
      exact B20 μ hF h
set_option maxRecDepth 100000 in
set_option maxHeartbeats 4000000 in
theorem fr_X8_reason (n : Nat) (v1 : Nat) (v2 : Int64) (μ : Mu) (r : Int32 × Mu) (h : X8_reason n v1 v2 μ = some r) : Fr (S_X8_reason v1 v2) μ r.2 := by
  rw [X8_reason] at h
  obtain ⟨hk1, h⟩ := kd_some h
  have hF : Fr (S_X8_reason v1 v2) μ μ := Fr.rf
  obtain ⟨μ0, hμ0⟩ : ∃ z, z = μ := ⟨_, rfl⟩
  rw [← hμ0]
  have hF : Fr (S_X8_reason v1 v2) μ0 μ := by rw [hμ0]; exact hF
  have B81 : ∀ (s0 : Int32) (μ : Mu), Fr (S_X8_reason v1 v2) μ0 μ → X8_reason_81 n v1 v2 s0 μ = some r → Fr (S_X8_reason v1 v2) μ0 r.2 := by
    intro s0 μ hF h
    rw [X8_reason_81] at h
    rw [← Option.some.inj h]; exact hF
  obtain ⟨r2, hr2, h⟩ := bnd h
  have hF := hF.tr (fr_X8_choices n v1 μ r2 hr2) (fun o k hS => (subL_of (L1 := [(6, 6, 0), (6, 6, 1), (6, 6, 2), (6, 6, 3), (8, 8, 9999), (57, 68, 1), (57, 68, 9999)]) (by decide +kernel) hS))
  split at h
  rotate_left
  · skip
    obtain ⟨r17, hr17, h⟩ := bnd h
    have hF := hF.tr (fr_X8_isOwn n v1 v2 r2.2 r17 hr17) (fun o k hS => (subL_of (L1 := []) (by decide +kernel) hS))
    split at h
    rotate_left
    · skip
      obtain ⟨hi35, h⟩ := gd_some h
      have hjhi35 := vin_lt hi35 rfl
      split at h
      rotate_left
      · skip
        obtain ⟨r45, hr45, h⟩ := bnd h
        have hF := hF.tr (fr_X11_has n r2.1 (v2.toInt32) r17.2 r45 hr45) (fun o k hS => (subL_of (L1 := []) (by decide +kernel) hS))
        split at h
        · skip
          obtain ⟨r70, hr70, h⟩ := bnd h
          have hF := hF.tr (fr_X8_isLong n v1 ((v2.toInt32) - ((r45.2.1 v1 1) * (r45.2.1 1 1))) r45.2 r70 hr70) (fun o k hS => (subL_of (L1 := [(6, 6, 0), (6, 6, 1), (6, 6, 2), (6, 6, 3), (57, 68, 1), (57, 68, 9999)]) (by decide +kernel) hS))
          split at h
          · skip
            exact B81 (4 : Int32) r70.2 hF h
          · skip
            exact B81 (3 : Int32) r70.2 hF h
        · skip
          rw [← Option.some.inj h]; exact hF
      · skip
        rw [← Option.some.inj h]; exact hF
    · skip
      rw [← Option.some.inj h]; exact hF
  · skip
    rw [← Option.some.inj h]; exact hF
set_option maxRecDepth 100000 in
set_option maxHeartbeats 4000000 in
theorem fr_X10_goByBest (n : Nat) (v1 : Nat) (μ : Mu) (r : Unit × Mu) (h : X10_goByBest n v1 μ = some r) : Fr (S_X10_goByBest v1) μ r.2 := by
  rw [X10_goByBest] at h
  obtain ⟨hk1, h⟩ := kd_some h
  have hF : Fr (S_X10_goByBest v1) μ μ := Fr.rf
  obtain ⟨μ0, hμ0⟩ : ∃ z, z = μ := ⟨_, rfl⟩
  rw [← hμ0]
  have hF : Fr (S_X10_goByBest v1) μ0 μ := by rw [hμ0]; exact hF
  have B94 : ∀ (μ : Mu), Fr (S_X10_goByBest v1) μ0 μ → X10_goByBest_94 n v1  μ = some r → Fr (S_X10_goByBest v1) μ0 r.2 := by
    intro μ hF h
    rw [X10_goByBest_94] at h
    rw [← Option.some.inj h]; exact hF
  have B24 : ∀ (k : Nat), ∀ (v2 : Int32) (μ : Mu), Fr (S_X10_goByBest v1) μ0 μ → lpF (fun _ _ => none) (X10_goByBest_24b n v1) k v2 μ = some r → Fr (S_X10_goByBest v1) μ0 r.2 := by
    intro k
    induction k with
    | zero =>
      intro v2 μ hF h
      cases h
    | succ k ih24 =>
      rw [lpF_s]
      generalize lpF (fun _ _ => none) (X10_goByBest_24b n v1) k = k24 at ih24 ⊢
      intro v2 μ hF h
      rw [X10_goByBest_24b] at h
      split at h
      · skip
        exact B94 μ hF h
      · skip
        split at h
        rotate_left
        · skip
          exact B94 μ hF h
        · skip
          obtain ⟨r45, hr45, h⟩ := bnd h
          have hF := hF.tr (fr_X7_bestAt n 153 μ r45 hr45) (fun o k hS => (subL_of (L1 := [(6, 6, 0), (6, 6, 1), (6, 6, 2), (6, 6, 3), (8, 8, 9999), (15, 15, 8), (57, 68, 1), (57, 68, 9999)]) (by decide +kernel) hS))
          split at h
          rotate_left
          · skip
            obtain ⟨r57, hr57, h⟩ := bnd h
            have hF := hF.tr (fr_X10_go n r45.1 r45.2 r57 hr57) (fun o k hS => (subL_of (L1 := [(6, 6, 0), (6, 6, 1), (6, 6, 2), (6, 6, 3), (22, 22, 2), (23, 23, 9999), (153, 153, 1), (154, 154, 9999)]) (by decide +kernel) hS))
            obtain ⟨r76, hr76, h⟩ := bnd h
            have hF := hF.tr (fr_X7_markOf n 153 r57.2 r76 hr76) (fun o k hS => (subL_of (L1 := []) (by decide +kernel) hS))
            obtain ⟨hi79, h⟩ := gd_some h
            have hjhi79 := vin_lt hi79 rfl
            have hF := hF.si (o := 24) (k := (r57.2.1 22 2).toNatClampNeg) (v := r76.1) (by unfold S_X10_goByBest; exact inL_mk 24 24 9999 (by decide) (by omega) (by omega) (by omega))
            obtain ⟨r82, hr82, h⟩ := bnd h
            have hF := hF.tr (fr_X10_isMarkedAgain n (si r76.2 24 (r57.2.1 22 2).toNatClampNeg r76.1) r82 hr82) (fun o k hS => (subL_of (L1 := []) (by decide +kernel) hS))
            obtain ⟨hz85, h⟩ := bz_some h
            have hF := hF.si (o := 22) (k := 3) (v := r82.1) (by unfold S_X10_goByBest; exact inL_mk 22 22 3 (by decide) (by omega) (by omega) (by omega))
            exact ih24 (v2 + (1 : Int32)) (si r82.2 22 3 r82.1) hF h
          · skip
            rw [← Option.some.inj h]; exact hF
  obtain ⟨r2, hr2, h⟩ := bnd h
  have hF := hF.tr (fr_X10_begin n v1 μ r2 hr2) (fun o k hS => (subL_of (L1 := [(22, 22, 2), (22, 22, 3), (153, 153, 1), (154, 154, 9999)]) (by decide +kernel) hS))
  obtain ⟨r18, hr18, h⟩ := bnd h
  have hF := hF.tr (fr_X7_markOf n 153 r2.2 r18 hr18) (fun o k hS => (subL_of (L1 := []) (by decide +kernel) hS))
  have hF := hF.si (o := 24) (k := 0) (v := r18.1) (by unfold S_X10_goByBest; exact inL_mk 24 24 9999 (by decide) (by omega) (by omega) (by omega))
  exact B24 n (0 : Int32) (si r18.2 24 0 r18.1) hF h
set_option maxRecDepth 100000 in
set_option maxHeartbeats 4000000 in
theorem fr_X10_goWhileForced (n : Nat) (v1 : Nat) (μ : Mu) (r : Unit × Mu) (h : X10_goWhileForced n v1 μ = some r) : Fr (S_X10_goWhileForced v1) μ r.2 := by
  rw [X10_goWhileForced] at h
  obtain ⟨hk1, h⟩ := kd_some h
  have hF : Fr (S_X10_goWhileForced v1) μ μ := Fr.rf
  obtain ⟨μ0, hμ0⟩ : ∃ z, z = μ := ⟨_, rfl⟩
  rw [← hμ0]
  have hF : Fr (S_X10_goWhileForced v1) μ0 μ := by rw [hμ0]; exact hF
  have B7 : ∀ (k : Nat), ∀ (v2 : Int32) (μ : Mu), Fr (S_X10_goWhileForced v1) μ0 μ → lpF (fun _ _ => none) (X10_goWhileForced_7b n v1) k v2 μ = some r → Fr (S_X10_goWhileForced v1) μ0 r.2 := by
    intro k
    induction k with
    | zero =>
      intro v2 μ hF h
      cases h
    | succ k ih7 =>
      rw [lpF_s]
      generalize lpF (fun _ _ => none) (X10_goWhileForced_7b n v1) k = k7 at ih7 ⊢
      intro v2 μ hF h
      rw [X10_goWhileForced_7b] at h
      split at h
      · skip
        rw [← Option.some.inj h]; exact hF
      · skip
        obtain ⟨r21, hr21, h⟩ := bnd h
        have hF := hF.tr (fr_X8_choices n 153 μ r21 hr21) (fun o k hS => (subL_of (L1 := [(6, 6, 0), (6, 6, 1), (6, 6, 2), (6, 6, 3), (8, 8, 9999), (57, 68, 1), (57, 68, 9999)]) (by decide +kernel) hS))
        obtain ⟨r26, hr26, h⟩ := bnd h
        have hF := hF.tr (fr_J6_bitCount_0f7a4 n r21.1 r21.2 r26 hr26) (fun o k hS => (subL_of (L1 := []) (by decide +kernel) hS))
        split at h
        · skip
          obtain ⟨r37, hr37, h⟩ := bnd h
          have hF := hF.tr (fr_X10_pick n r21.1 (0 : Int32) r26.2 r37 hr37) (fun o k hS => (subL_of (L1 := []) (by decide +kernel) hS))
          obtain ⟨r40, hr40, h⟩ := bnd h
          have hF := hF.tr (fr_X10_go n r37.1 r37.2 r40 hr40) (fun o k hS => (subL_of (L1 := [(6, 6, 0), (6, 6, 1), (6, 6, 2), (6, 6, 3), (22, 22, 2), (23, 23, 9999), (153, 153, 1), (154, 154, 9999)]) (by decide +kernel) hS))
          exact ih7 (v2 + (1 : Int32)) r40.2 hF h
        · skip
          rw [← Option.some.inj h]; exact hF
  obtain ⟨r2, hr2, h⟩ := bnd h
  have hF := hF.tr (fr_X10_begin n v1 μ r2 hr2) (fun o k hS => (subL_of (L1 := [(22, 22, 2), (22, 22, 3), (153, 153, 1), (154, 154, 9999)]) (by decide +kernel) hS))
  exact B7 n (0 : Int32) r2.2 hF h
set_option maxRecDepth 100000 in
set_option maxHeartbeats 4000000 in
theorem fr_X10_goByDraws (n : Nat) (v1 : Nat) (v2 : Int32) (v3 : Int32) (μ : Mu) (r : Unit × Mu) (h : X10_goByDraws n v1 v2 v3 μ = some r) : Fr (S_X10_goByDraws v1 v2 v3) μ r.2 := by
  rw [X10_goByDraws] at h
  obtain ⟨hk1, h⟩ := kd_some h
  have hF : Fr (S_X10_goByDraws v1 v2 v3) μ μ := Fr.rf
  obtain ⟨μ0, hμ0⟩ : ∃ z, z = μ := ⟨_, rfl⟩
  rw [← hμ0]
  have hF : Fr (S_X10_goByDraws v1 v2 v3) μ0 μ := by rw [hμ0]; exact hF
  have B11 : ∀ (k : Nat), ∀ (v4 : Int32) (v5 : Int32) (μ : Mu), Fr (S_X10_goByDraws v1 v2 v3) μ0 μ → lpF (fun _ _ _ => none) (X10_goByDraws_11b n v1 v2 v3) k v4 v5 μ = some r → Fr (S_X10_goByDraws v1 v2 v3) μ0 r.2 := by
    intro k
    induction k with
    | zero =>
      intro v4 v5 μ hF h
      cases h
    | succ k ih11 =>
      rw [lpF_s]
      generalize lpF (fun _ _ _ => none) (X10_goByDraws_11b n v1 v2 v3) k = k11 at ih11 ⊢
      intro v4 v5 μ hF h
      have B81 : ∀ (v4 : Int32) (v5 : Int32) (v6 : Int32) (μ : Mu), Fr (S_X10_goByDraws v1 v2 v3) μ0 μ → X10_goByDraws_81 n v1 v2 v3 k11 v4 v5 v6 μ = some r → Fr (S_X10_goByDraws v1 v2 v3) μ0 r.2 := by
        intro v4 v5 v6 μ hF h
        rw [X10_goByDraws_81] at h
        split at h
        rotate_left
        · skip
          obtain ⟨r91, hr91, h⟩ := bnd h
          have hF := hF.tr (fr_X10_go n v6 μ r91 hr91) (fun o k hS => (subL_of (L1 := [(6, 6, 0), (6, 6, 1), (6, 6, 2), (6, 6, 3), (22, 22, 2), (23, 23, 9999), (153, 153, 1), (154, 154, 9999)]) (by decide +kernel) hS))
          exact ih11 v4 (v5 + (1 : Int32)) r91.2 hF h
        · skip
          rw [← Option.some.inj h]; exact hF
      have B49 : ∀ (v4 : Int32) (v5 : Int32) (μ : Mu), Fr (S_X10_goByDraws v1 v2 v3) μ0 μ → X10_goByDraws_49 n v1 v2 v3 k11 v4 v5 μ = some r → Fr (S_X10_goByDraws v1 v2 v3) μ0 r.2 := by
        intro v4 v5 μ hF h
        rw [X10_goByDraws_49] at h
        obtain ⟨r68, hr68, h⟩ := bnd h
        have hF := hF.tr (fr_X8_choices n 153 μ r68 hr68) (fun o k hS => (subL_of (L1 := [(6, 6, 0), (6, 6, 1), (6, 6, 2), (6, 6, 3), (8, 8, 9999), (57, 68, 1), (57, 68, 9999)]) (by decide +kernel) hS))
        obtain ⟨r76, hr76, h⟩ := bnd h
        have hF := hF.tr (fr_X10_pick n r68.1 (((((1103515245 : Int32) * v4) + (12345 : Int32)).toUInt32 >>> ((16 : Int32).toUInt32 &&& Int32.toUInt32 31)).toInt32) r68.2 r76 hr76) (fun o k hS => (subL_of (L1 := []) (by decide +kernel) hS))
        exact B81 (((1103515245 : Int32) * v4) + (12345 : Int32)) v5 r76.1 r76.2 hF h
      rw [X10_goByDraws_11b] at h
      split at h
      · skip
        rw [← Option.some.inj h]; exact hF
      · skip
        split at h
        · skip
          exact B49 v4 v5 μ hF h
        · skip
          split at h
          rotate_left
          · skip
            exact B49 v4 v5 μ hF h
          · skip
            obtain ⟨r41, hr41, h⟩ := bnd h
            have hF := hF.tr (fr_X7_bestAt n 153 μ r41 hr41) (fun o k hS => (subL_of (L1 := [(6, 6, 0), (6, 6, 1), (6, 6, 2), (6, 6, 3), (8, 8, 9999), (15, 15, 8), (57, 68, 1), (57, 68, 9999)]) (by decide +kernel) hS))
            exact B81 v4 v5 r41.1 r41.2 hF h
  obtain ⟨r2, hr2, h⟩ := bnd h
  have hF := hF.tr (fr_X10_begin n v1 μ r2 hr2) (fun o k hS => (subL_of (L1 := [(22, 22, 2), (22, 22, 3), (153, 153, 1), (154, 154, 9999)]) (by decide +kernel) hS))
  exact B11 n v2 (0 : Int32) r2.2 hF h
set_option maxRecDepth 100000 in
set_option maxHeartbeats 4000000 in
theorem fr_X11_may (n : Nat) (v1 : Int32) (μ : Mu) (r : Int32 × Mu) (h : X11_may n v1 μ = some r) : Fr (S_X11_may v1) μ r.2 := by
  rw [X11_may] at h
  have hF : Fr (S_X11_may v1) μ μ := Fr.rf
  obtain ⟨μ0, hμ0⟩ : ∃ z, z = μ := ⟨_, rfl⟩
  rw [← hμ0]
  have hF : Fr (S_X11_may v1) μ0 μ := by rw [hμ0]; exact hF
  obtain ⟨r10, hr10, h⟩ := bnd h
  have hF := hF.tr (fr_X8_reason n 53 (v1.toInt64) μ r10 hr10) (fun o k hS => (subL_of (L1 := [(6, 6, 0), (6, 6, 1), (6, 6, 2), (6, 6, 3), (8, 8, 9999), (57, 68, 1), (57, 68, 9999)]) (by decide +kernel) hS))
  rw [← Option.some.inj h]; exact hF
set_option maxRecDepth 100000 in
set_option maxHeartbeats 4000000 in
theorem fr_X11_move (n : Nat) (v1 : Int32) (μ : Mu) (r : Int32 × Mu) (h : X11_move n v1 μ = some r) : Fr (S_X11_move v1) μ r.2 := by
  rw [X11_move] at h
  have hF : Fr (S_X11_move v1) μ μ := Fr.rf
  obtain ⟨μ0, hμ0⟩ : ∃ z, z = μ := ⟨_, rfl⟩
  rw [← hμ0]
  have hF : Fr (S_X11_move v1) μ0 μ := by rw [hμ0]; exact hF
  obtain ⟨r10, hr10, h⟩ := bnd h
  have hF := hF.tr (fr_X8_reason n 53 (v1.toInt64) μ r10 hr10) (fun o k hS => (subL_of (L1 := [(6, 6, 0), (6, 6, 1), (6, 6, 2), (6, 6, 3), (8, 8, 9999), (57, 68, 1), (57, 68, 9999)]) (by decide +kernel) hS))
  split at h
  · skip
    obtain ⟨r30, hr30, h⟩ := bnd h
    have hF := hF.tr (fr_X3_keep n 53 v1 r10.2 r30 hr30) (fun o k hS => (subL_of (L1 := [(9, 9, 0), (9, 9, 1), (9, 9, 2), (10, 10, 9999), (69, 148, 1), (69, 148, 9999)]) (by decide +kernel) hS))
    obtain ⟨r42, hr42, h⟩ := bnd h
    have hF := hF.tr (fr_X8_sow n 53 v1 r30.2 r42 hr42) (fun o k hS => by
    unfold S_X8_sow at hS
    rcases hS with hS | hS | hS
    · exact (subL_of (by decide +kernel) hS)
    · exact inL_mk 53 53 1 (by decide) (by omega) (by omega) (by omega)
    · exact inL_mk 54 54 9999 (by decide) (by omega) (by omega) (by omega))
    rw [← Option.some.inj h]; exact hF
  · skip
    rw [← Option.some.inj h]; exact hF
set_option maxRecDepth 100000 in
set_option maxHeartbeats 4000000 in
theorem fr_X11_judge (n : Nat) (v1 : Int32) (v2 : Int32) (μ : Mu) (r : (Int32 ⊕ Nat) × Mu) (h : X11_judge n v1 v2 μ = some r) : Fr (S_X11_judge v1 v2) μ r.2 := by
  rw [X11_judge] at h
  have hF : Fr (S_X11_judge v1 v2) μ μ := Fr.rf
  obtain ⟨μ0, hμ0⟩ : ∃ z, z = μ := ⟨_, rfl⟩
  rw [← hμ0]
  have hF : Fr (S_X11_judge v1 v2) μ0 μ := by rw [hμ0]; exact hF
  have B15 : ∀ (μ : Mu), Fr (S_X11_judge v1 v2) μ0 μ → X11_judge_15 n v1 v2  μ = some r → Fr (S_X11_judge v1 v2) μ0 r.2 := by
    intro μ hF h
    rw [X11_judge_15] at h
    rw [← Option.some.inj h]; exact hF
  have B118 : ∀ (v4 : Int32) (v5 : Int32) (μ : Mu), Fr (S_X11_judge v1 v2) μ0 μ → X11_judge_118 n v1 v2 v4 v5 μ = some r → Fr (S_X11_judge v1 v2) μ0 r.2 := by
    intro v4 v5 μ hF h
    rw [X11_judge_118] at h
    by_cases hs119_0 : v2 = (0 : Int32)
    · rw [if_pos hs119_0] at h
      rw [← Option.some.inj h]; exact hF
    rw [if_neg hs119_0] at h
    by_cases hs119_1 : v2 = (1 : Int32)
    · rw [if_pos hs119_1] at h
      rw [← Option.some.inj h]; exact hF
    rw [if_neg hs119_1] at h
    by_cases hs119_2 : v2 = (2 : Int32)
    · rw [if_pos hs119_2] at h
      obtain ⟨r158, hr158, h⟩ := bnd h
      have hF := hF.tr (fr_X8_scoreOf n 55 μ r158 hr158) (fun o k hS => (subL_of (L1 := [(6, 6, 0), (6, 6, 1), (6, 6, 2), (6, 6, 3), (57, 68, 1), (57, 68, 9999)]) (by decide +kernel) hS))
      rw [← Option.some.inj h]; exact hF
    rw [if_neg hs119_2] at h
    rw [← Option.some.inj h]; exact hF
  have B45 : ∀ (k : Nat), ∀ (v3 : Nat) (v4 : Int32) (v5 : Int32) (v6 : Int32) (μ : Mu), Fr (S_X11_judge v1 v2) μ0 μ → lpF (fun _ _ _ _ _ => none) (X11_judge_45b n v1 v2) k v3 v4 v5 v6 μ = some r → Fr (S_X11_judge v1 v2) μ0 r.2 := by
    intro k
    induction k with
    | zero =>
      intro v3 v4 v5 v6 μ hF h
      cases h
    | succ k ih45 =>
      rw [lpF_s]
      generalize lpF (fun _ _ _ _ _ => none) (X11_judge_45b n v1 v2) k = k45 at ih45 ⊢
      intro v3 v4 v5 v6 μ hF h
      have B112 : ∀ (v3 : Nat) (v4 : Int32) (v5 : Int32) (v6 : Int32) (μ : Mu), Fr (S_X11_judge v1 v2) μ0 μ → X11_judge_112 n v1 v2 k45 v3 v4 v5 v6 μ = some r → Fr (S_X11_judge v1 v2) μ0 r.2 := by
        intro v3 v4 v5 v6 μ hF h
        rw [X11_judge_112] at h
        obtain ⟨hqv3_112, h⟩ := kd_some h
        have hjhqv3_112 := kdI hqv3_112
        exact ih45 v3 v4 v5 (v6 + (1 : Int32)) μ hF h
      rw [X11_judge_45b] at h
      obtain ⟨hqv3_45, h⟩ := kd_some h
      have hjhqv3_45 := kdI hqv3_45
      split at h
      · skip
        exact B118 v4 v5 μ hF h
      · skip
        split at h
        rotate_left
        · skip
          exact B118 v4 v5 μ hF h
        · skip
          obtain ⟨hi74, h⟩ := gd_some h
          have hjhi74 := vin_lt hi74 rfl
          obtain ⟨r75, hr75, h⟩ := bnd h
          have hF := hF.tr (fr_X8_reason n 55 (μ.2 (v3 + 1) v6.toNatClampNeg) μ r75 hr75) (fun o k hS => (subL_of (L1 := [(6, 6, 0), (6, 6, 1), (6, 6, 2), (6, 6, 3), (8, 8, 9999), (57, 68, 1), (57, 68, 9999)]) (by decide +kernel) hS))
          split at h
          rotate_left
          · skip
            exact B112 v3 v6 r75.1 v6 r75.2 hF h
          · skip
            obtain ⟨r101, hr101, h⟩ := bnd h
            have hF := hF.tr (fr_X8_sow n 55 ((r75.2.2 (v3 + 1) v6.toNatClampNeg).toInt32) r75.2 r101 hr101) (fun o k hS => by
        unfold S_X8_sow at hS
        rcases hS with hS | hS | hS
        · exact (subL_of (by decide +kernel) hS)
        · exact inL_mk 55 55 1 (by decide) (by omega) (by omega) (by omega)
        · exact inL_mk 56 56 9999 (by decide) (by omega) (by omega) (by omega))
            exact B112 v3 v4 r75.1 v6 r101.2 hF h
  rcases thr_cs h with ⟨kq, m2, hr2, h⟩ | ⟨r2, m2, hr2, h⟩
  · rw [← Option.some.inj h]; exact hF.tr (fr_X11_laidTray n v1 μ _ hr2) (fun o k hS => (subL_of (L1 := []) (by decide +kernel) hS))
  have hF := hF.tr (fr_X11_laidTray n v1 μ _ hr2) (fun o k hS => (subL_of (L1 := []) (by decide +kernel) hS))
  obtain ⟨hkr2, h⟩ := kd_some h
  have hjhkr2 := kdI hkr2
  split at h
  · skip
    exact B15 m2 hF h
  · skip
    split at h
    · skip
      obtain ⟨r33, hr33, h⟩ := bnd h
      have hF := hF.tr (fr_X6_copy n 55 53 m2 r33 hr33) (fun o k hS => by
      unfold S_X6_copy at hS
      rcases hS with hS | hS | hS
      · exact (subL_of (by decide +kernel) hS)
      · exact inL_mk 55 55 1 (by decide) (by omega) (by omega) (by omega)
      · exact inL_mk 56 56 9999 (by decide) (by omega) (by omega) (by omega))
      exact B45 n r2 ((-1) : Int32) (0 : Int32) (0 : Int32) r33.2 hF h
    · skip
      exact B15 m2 hF h
set_option maxRecDepth 100000 in
set_option maxHeartbeats 4000000 in
theorem fr_X11_perform (n : Nat) (v1 : Int32) (μ : Mu) (r : (Int32 ⊕ Nat) × Mu) (h : X11_perform n v1 μ = some r) : Fr (S_X11_perform v1) μ r.2 := by
  rw [X11_perform] at h
  have hF : Fr (S_X11_perform v1) μ μ := Fr.rf
  obtain ⟨μ0, hμ0⟩ : ∃ z, z = μ := ⟨_, rfl⟩
  rw [← hμ0]
  have hF : Fr (S_X11_perform v1) μ0 μ := by rw [hμ0]; exact hF
  have B78 : ∀ (v3 : Int32) (μ : Mu), Fr (S_X11_perform v1) μ0 μ → X11_perform_78 n v1 v3 μ = some r → Fr (S_X11_perform v1) μ0 r.2 := by
    intro v3 μ hF h
    rw [X11_perform_78] at h
    rw [← Option.some.inj h]; exact hF
  have B8 : ∀ (k : Nat), ∀ (v2 : Nat) (v3 : Int32) (μ : Mu), Fr (S_X11_perform v1) μ0 μ → lpF (fun _ _ _ => none) (X11_perform_8b n v1) k v2 v3 μ = some r → Fr (S_X11_perform v1) μ0 r.2 := by
    intro k
    induction k with
    | zero =>
      intro v2 v3 μ hF h
      cases h
    | succ k ih8 =>
      rw [lpF_s]
      generalize lpF (fun _ _ _ => none) (X11_perform_8b n v1) k = k8 at ih8 ⊢
      intro v2 v3 μ hF h
      rw [X11_perform_8b] at h
      obtain ⟨hqv2_8, h⟩ := kd_some h
      have hjhqv2_8 := kdI hqv2_8
      split at h
      · skip
        exact B78 v3 μ hF h
      · skip
        obtain ⟨hi29, h⟩ := gd_some h
        have hjhi29 := vin_lt hi29 rfl
        obtain ⟨r30, hr30, h⟩ := bnd h
        have hF := hF.tr (fr_X8_reason n 53 (μ.2 (v2 + 1) v3.toNatClampNeg) μ r30 hr30) (fun o k hS => (subL_of (L1 := [(6, 6, 0), (6, 6, 1), (6, 6, 2), (6, 6, 3), (8, 8, 9999), (57, 68, 1), (57, 68, 9999)]) (by decide +kernel) hS))
        split at h
        rotate_left
        · skip
          exact B78 v3 r30.2 hF h
        · skip
          obtain ⟨r55, hr55, h⟩ := bnd h
          have hF := hF.tr (fr_X3_keep n 53 ((r30.2.2 (v2 + 1) v3.toNatClampNeg).toInt32) r30.2 r55 hr55) (fun o k hS => (subL_of (L1 := [(9, 9, 0), (9, 9, 1), (9, 9, 2), (10, 10, 9999), (69, 148, 1), (69, 148, 9999)]) (by decide +kernel) hS))
          obtain ⟨r68, hr68, h⟩ := bnd h
          have hF := hF.tr (fr_X8_sow n 53 ((r30.2.2 (v2 + 1) v3.toNatClampNeg).toInt32) r55.2 r68 hr68) (fun o k hS => by
      unfold S_X8_sow at hS
      rcases hS with hS | hS | hS
      · exact (subL_of (by decide +kernel) hS)
      · exact inL_mk 53 53 1 (by decide) (by omega) (by omega) (by omega)
      · exact inL_mk 54 54 9999 (by decide) (by omega) (by omega) (by omega))
          exact ih8 v2 (v3 + (1 : Int32)) r68.2 hF h
  rcases thr_cs h with ⟨kq, m2, hr2, h⟩ | ⟨r2, m2, hr2, h⟩
  · rw [← Option.some.inj h]; exact hF.tr (fr_X11_laidTray n v1 μ _ hr2) (fun o k hS => (subL_of (L1 := []) (by decide +kernel) hS))
  have hF := hF.tr (fr_X11_laidTray n v1 μ _ hr2) (fun o k hS => (subL_of (L1 := []) (by decide +kernel) hS))
  obtain ⟨hkr2, h⟩ := kd_some h
  have hjhkr2 := kdI hkr2
  exact B8 n r2 (0 : Int32) m2 hF h
set_option maxRecDepth 100000 in
set_option maxHeartbeats 4000000 in
theorem fr_X11_pits (n : Nat) (v1 : Int32) (μ : Mu) (r : (Int32 ⊕ Nat) × Mu) (h : X11_pits n v1 μ = some r) : Fr (S_X11_pits v1) μ r.2 := by
  rw [X11_pits] at h
  have hF : Fr (S_X11_pits v1) μ μ := Fr.rf
  obtain ⟨μ0, hμ0⟩ : ∃ z, z = μ := ⟨_, rfl⟩
  rw [← hμ0]
  have hF : Fr (S_X11_pits v1) μ0 μ := by rw [hμ0]; exact hF
  have B9 : ∀ (μ : Mu), Fr (S_X11_pits v1) μ0 μ → X11_pits_9 n v1  μ = some r → Fr (S_X11_pits v1) μ0 r.2 := by
    intro μ hF h
    rw [X11_pits_9] at h
    rw [← Option.some.inj h]; exact hF
  have B36 : ∀ (k : Nat), ∀ (v2 : Int32) (v3 : Int32) (v4 : Int32) (μ : Mu), Fr (S_X11_pits v1) μ0 μ → lpF (fun _ _ _ _ => none) (X11_pits_36b n v1) k v2 v3 v4 μ = some r → Fr (S_X11_pits v1) μ0 r.2 := by
    intro k
    induction k with
    | zero =>
      intro v2 v3 v4 μ hF h
      cases h
    | succ k ih36 =>
      rw [lpF_s]
      generalize lpF (fun _ _ _ _ => none) (X11_pits_36b n v1) k = k36 at ih36 ⊢
      intro v2 v3 v4 μ hF h
      have B69 : ∀ (v2 : Int32) (v3 : Int32) (v4 : Int32) (μ : Mu), Fr (S_X11_pits v1) μ0 μ → X11_pits_69 n v1 k36 v2 v3 v4 μ = some r → Fr (S_X11_pits v1) μ0 r.2 := by
        intro v2 v3 v4 μ hF h
        rw [X11_pits_69] at h
        exact ih36 v2 v3 (v4 + (1 : Int32)) μ hF h
      rw [X11_pits_36b] at h
      split at h
      · skip
        rw [← Option.some.inj h]; exact hF
      · skip
        obtain ⟨r46, hr46, h⟩ := bnd h
        have hF := hF.tr (fr_X11_has n v2 v4 μ r46 hr46) (fun o k hS => (subL_of (L1 := []) (by decide +kernel) hS))
        split at h
        · skip
          exact B69 v2 v3 v4 r46.2 hF h
        · skip
          obtain ⟨r56, hr56, h⟩ := bnd h
          have hF := hF.tr (fr_X11_isNotable n v4 v1 r46.2 r56 hr56) (fun o k hS => (subL_of (L1 := [(6, 6, 0), (6, 6, 1), (6, 6, 2), (6, 6, 3), (55, 55, 1), (56, 56, 9999)]) (by decide +kernel) hS))
          split at h
          · skip
            exact B69 v2 v3 v4 r56.2 hF h
          · skip
            exact B69 v2 (v3 ||| ((1 : Int32) <<< (v4 &&& 31))) v4 r56.2 hF h
  split at h
  · skip
    exact B9 μ hF h
  · skip
    split at h
    · skip
      obtain ⟨r27, hr27, h⟩ := bnd h
      have hF := hF.tr (fr_X8_choices n 53 μ r27 hr27) (fun o k hS => (subL_of (L1 := [(6, 6, 0), (6, 6, 1), (6, 6, 2), (6, 6, 3), (8, 8, 9999), (57, 68, 1), (57, 68, 9999)]) (by decide +kernel) hS))
      exact B36 n r27.1 (0 : Int32) (0 : Int32) r27.2 hF h
    · skip
      exact B9 μ hF h
set_option maxRecDepth 100000 in
set_option maxHeartbeats 4000000 in
theorem fr_X11_forced (n : Nat) (μ : Mu) (r : Int32 × Mu) (h : X11_forced n  μ = some r) : Fr S_X11_forced μ r.2 := by
  rw [X11_forced] at h
  have hF : Fr S_X11_forced μ μ := Fr.rf
  obtain ⟨μ0, hμ0⟩ : ∃ z, z = μ := ⟨_, rfl⟩
  rw [← hμ0]
  have hF : Fr S_X11_forced μ0 μ := by rw [hμ0]; exact hF
  obtain ⟨r8, hr8, h⟩ := bnd h
  have hF := hF.tr (fr_X10_goWhileForced n 53 μ r8 hr8) (fun o k hS => (subL_of (L1 := [(6, 6, 0), (6, 6, 1), (6, 6, 2), (6, 6, 3), (8, 8, 9999), (22, 22, 2), (22, 22, 3), (23, 23, 9999), (57, 68, 1), (57, 68, 9999), (153, 153, 1), (154, 154, 9999)]) (by decide +kernel) hS))
  rw [← Option.some.inj h]; exact hF
set_option maxRecDepth 100000 in
set_option maxHeartbeats 4000000 in
theorem fr_X11_play (n : Nat) (v1 : Int32) (v2 : Int32) (μ : Mu) (r : (Int32 ⊕ Nat) × Mu) (h : X11_play n v1 v2 μ = some r) : Fr (S_X11_play v1 v2) μ r.2 := by
  rw [X11_play] at h
  have hF : Fr (S_X11_play v1 v2) μ μ := Fr.rf
  obtain ⟨μ0, hμ0⟩ : ∃ z, z = μ := ⟨_, rfl⟩
  rw [← hμ0]
  have hF : Fr (S_X11_play v1 v2) μ0 μ := by rw [hμ0]; exact hF
  have B9 : ∀ (μ : Mu), Fr (S_X11_play v1 v2) μ0 μ → X11_play_9 n v1 v2  μ = some r → Fr (S_X11_play v1 v2) μ0 r.2 := by
    intro μ hF h
    rw [X11_play_9] at h
    rw [← Option.some.inj h]; exact hF
  split at h
  · skip
    exact B9 μ hF h
  · skip
    split at h
    · skip
      obtain ⟨r29, hr29, h⟩ := bnd h
      have hF := hF.tr (fr_X10_goByDraws n 53 v1 (0 : Int32) μ r29 hr29) (fun o k hS => (subL_of (L1 := [(6, 6, 0), (6, 6, 1), (6, 6, 2), (6, 6, 3), (8, 8, 9999), (15, 15, 8), (22, 22, 2), (22, 22, 3), (23, 23, 9999), (57, 68, 1), (57, 68, 9999), (153, 153, 1), (154, 154, 9999)]) (by decide +kernel) hS))
      obtain ⟨r34, hr34, h⟩ := bnd h
      have hF := hF.tr (fr_X11_toldOfPlay n v2 r29.2 r34 hr34) (fun o k hS => (subL_of (L1 := [(6, 6, 0), (6, 6, 1), (6, 6, 2), (6, 6, 3), (57, 68, 1), (57, 68, 9999)]) (by decide +kernel) hS))
      rw [← Option.some.inj h]; exact hF
    · skip
      exact B9 μ hF h
set_option maxRecDepth 100000 in
set_option maxHeartbeats 4000000 in
theorem fr_X12_sows (n : Nat) (v1 : Int32) (v2 : Int32) (μ : Mu) (r : Unit × Mu) (h : X12_sows n v1 v2 μ = some r) : Fr (S_X12_sows v1 v2) μ r.2 := by
  rw [X12_sows] at h
  have hF : Fr (S_X12_sows v1 v2) μ μ := Fr.rf
  obtain ⟨μ0, hμ0⟩ : ∃ z, z = μ := ⟨_, rfl⟩
  rw [← hμ0]
  have hF : Fr (S_X12_sows v1 v2) μ0 μ := by rw [hμ0]; exact hF
  have B277 : ∀ (s1 : Int32) (μ : Mu), Fr (S_X12_sows v1 v2) μ0 μ → X12_sows_277 n v1 v2 s1 μ = some r → Fr (S_X12_sows v1 v2) μ0 r.2 := by
    intro s1 μ hF h
    rw [X12_sows_277] at h
    have hF := hF.si (o := 171) (k := 22) (v := s1) (by unfold S_X12_sows; exact inL_mk 171 171 22 (by decide) (by omega) (by omega) (by omega))
    rw [← Option.some.inj h]; exact hF
  have B274 : ∀ (μ : Mu), Fr (S_X12_sows v1 v2) μ0 μ → X12_sows_274 n v1 v2  μ = some r → Fr (S_X12_sows v1 v2) μ0 r.2 := by
    intro μ hF h
    rw [X12_sows_274] at h
    exact B277 ((1 : Int32) - v1) μ hF h
  have B25 : ∀ (k : Nat), ∀ (v3 : Int32) (v4 : Int32) (μ : Mu), Fr (S_X12_sows v1 v2) μ0 μ → lpF (fun _ _ _ => none) (X12_sows_25b n v1 v2) k v3 v4 μ = some r → Fr (S_X12_sows v1 v2) μ0 r.2 := by
    intro k
    induction k with
    | zero =>
      intro v3 v4 μ hF h
      cases h
    | succ k ih25 =>
      rw [lpF_s]
      generalize lpF (fun _ _ _ => none) (X12_sows_25b n v1 v2) k = k25 at ih25 ⊢
      intro v3 v4 μ hF h
      have B233 : ∀ (v3 : Int32) (v4 : Int32) (μ : Mu), Fr (S_X12_sows v1 v2) μ0 μ → X12_sows_233 n v1 v2 k25 v3 v4 μ = some r → Fr (S_X12_sows v1 v2) μ0 r.2 := by
        intro v3 v4 μ hF h
        rw [X12_sows_233] at h
        exact ih25 v3 v4 μ hF h
      have B198 : ∀ (v3 : Int32) (v4 : Int32) (v6 : Int32) (v7 : Int32) (μ : Mu), Fr (S_X12_sows v1 v2) μ0 μ → X12_sows_198 n v1 v2 k25 v3 v4 v6 v7 μ = some r → Fr (S_X12_sows v1 v2) μ0 r.2 := by
        intro v3 v4 v6 v7 μ hF h
        rw [X12_sows_198] at h
        split at h
        · skip
          split at h
          · skip
            exact B233 v3 v4 μ hF h
          · skip
            obtain ⟨r230, hr230, h⟩ := bnd h
            have hF := hF.tr (fr_X12_takes n v1 v7 μ r230 hr230) (fun o k hS => (subL_of (L1 := [(171, 171, 20), (178, 178, 9999)]) (by decide +kernel) hS))
            exact B233 v3 v4 r230.2 hF h
        · skip
          have hF := hF.si (o := 171) (k := 19) (v := ((μ.1 171 19) + (1 : Int32))) (by unfold S_X12_sows; exact inL_mk 171 171 19 (by decide) (by omega) (by omega) (by omega))
          exact B233 v6 v4 (si μ 171 19 ((μ.1 171 19) + (1 : Int32))) hF h
      have B171 : ∀ (v3 : Int32) (v6 : Int32) (v7 : Int32) (s0 : Int32) (μ : Mu), Fr (S_X12_sows v1 v2) μ0 μ → X12_sows_171 n v1 v2 k25 v3 v6 v7 s0 μ = some r → Fr (S_X12_sows v1 v2) μ0 r.2 := by
        intro v3 v6 v7 s0 μ hF h
        rw [X12_sows_171] at h
        split at h
        · skip
          exact B198 v3 s0 v6 v7 μ hF h
        · skip
          split at h
          rotate_left
          · skip
            exact B198 v3 s0 v6 v7 μ hF h
          · skip
            have hF := hF.si (o := 171) (k := 23) (v := (1 : Int32)) (by unfold S_X12_sows; exact inL_mk 171 171 23 (by decide) (by omega) (by omega) (by omega))
            rw [← Option.some.inj h]; exact hF
      have B170 : ∀ (v3 : Int32) (v6 : Int32) (v7 : Int32) (μ : Mu), Fr (S_X12_sows v1 v2) μ0 μ → X12_sows_170 n v1 v2 k25 v3 v6 v7 μ = some r → Fr (S_X12_sows v1 v2) μ0 r.2 := by
        intro v3 v6 v7 μ hF h
        rw [X12_sows_170] at h
        exact B171 v3 v6 v7 (0 : Int32) μ hF h
      have B51 : ∀ (k : Nat), ∀ (v3 : Int32) (v5 : Int32) (v6 : Int32) (v7 : Int32) (μ : Mu), Fr (S_X12_sows v1 v2) μ0 μ → lpF (fun _ _ _ _ _ => none) (X12_sows_51b n v1 v2 k25) k v3 v5 v6 v7 μ = some r → Fr (S_X12_sows v1 v2) μ0 r.2 := by
        intro k
        induction k with
        | zero =>
          intro v3 v5 v6 v7 μ hF h
          cases h
        | succ k ih51 =>
          rw [lpF_s]
          generalize lpF (fun _ _ _ _ _ => none) (X12_sows_51b n v1 v2 k25) k = k51 at ih51 ⊢
          intro v3 v5 v6 v7 μ hF h
          have B132 : ∀ (v3 : Int32) (v5 : Int32) (v6 : Int32) (v7 : Int32) (μ : Mu), Fr (S_X12_sows v1 v2) μ0 μ → X12_sows_132 n v1 v2 k25 k51 v3 v5 v6 v7 μ = some r → Fr (S_X12_sows v1 v2) μ0 r.2 := by
            intro v3 v5 v6 v7 μ hF h
            rw [X12_sows_132] at h
            exact ih51 v3 (v5 + ((-1) : Int32)) v6 v7 μ hF h
          have B75 : ∀ (v3 : Int32) (v5 : Int32) (v7 : Int32) (s1 : Int32) (s2 : Int32) (s3 : Int32) (μ : Mu), Fr (S_X12_sows v1 v2) μ0 μ → X12_sows_75 n v1 v2 k25 k51 v3 v5 v7 s1 s2 s3 μ = some r → Fr (S_X12_sows v1 v2) μ0 r.2 := by
            intro v3 v5 v7 s1 s2 s3 μ hF h
            rw [X12_sows_75] at h
            obtain ⟨r75, hr75, h⟩ := bnd h
            have hF := hF.tr (fr_X12_next n s1 s2 s3 μ r75 hr75) (fun o k hS => (subL_of (L1 := []) (by decide +kernel) hS))
            split at h
            rotate_left
            · skip
              split at h
              rotate_left
              · skip
                obtain ⟨hi118, h⟩ := gd_some h
                have hjhi118 := vin_lt hi118 rfl
                have hF := hF.si (o := 178) (k := r75.1.toNatClampNeg) (v := ((r75.2.1 178 r75.1.toNatClampNeg) + (1 : Int32))) (by unfold S_X12_sows; exact inL_mk 178 178 9999 (by decide) (by omega) (by omega) (by omega))
                exact B132 v3 v5 r75.1 (r75.2.1 178 r75.1.toNatClampNeg) (si r75.2 178 r75.1.toNatClampNeg ((r75.2.1 178 r75.1.toNatClampNeg) + (1 : Int32))) hF h
              · skip
                have hF := hF.si (o := 171) (k := 21) (v := ((r75.2.1 171 21) + (1 : Int32))) (by unfold S_X12_sows; exact inL_mk 171 171 21 (by decide) (by omega) (by omega) (by omega))
                exact B132 v3 v5 r75.1 v7 (si r75.2 171 21 ((r75.2.1 171 21) + (1 : Int32))) hF h
            · skip
              have hF := hF.si (o := 171) (k := 23) (v := (1 : Int32)) (by unfold S_X12_sows; exact inL_mk 171 171 23 (by decide) (by omega) (by omega) (by omega))
              rw [← Option.some.inj h]; exact hF
          rw [X12_sows_51b] at h
          split at h
          · skip
            have hF := hF.si (o := 171) (k := 18) (v := v6) (by unfold S_X12_sows; exact inL_mk 171 171 18 (by decide) (by omega) (by omega) (by omega))
            split at h
            · skip
              exact B170 v3 v6 v7 (si μ 171 18 v6) hF h
            · skip
              split at h
              · skip
                exact B170 v3 v6 v7 (si μ 171 18 v6) hF h
              · skip
                split at h
                · skip
                  exact B170 v3 v6 v7 (si μ 171 18 v6) hF h
                · skip
                  exact B171 v3 v6 v7 (1 : Int32) (si μ 171 18 v6) hF h
          · skip
            split at h
            rotate_left
            · skip
              exact B75 v3 v5 v7 v1 v6 ((-1) : Int32) μ hF h
            · skip
              exact B75 v3 v5 v7 v1 v6 v3 μ hF h
      rw [X12_sows_25b] at h
      split at h
      · skip
        have hF := hF.si (o := 171) (k := 21) (v := ((μ.1 171 21) + (μ.1 171 20))) (by unfold S_X12_sows; exact inL_mk 171 171 21 (by decide) (by omega) (by omega) (by omega))
        split at h
        rotate_left
        · skip
          exact B274 (si μ 171 21 ((μ.1 171 21) + (μ.1 171 20))) hF h
        · skip
          split at h
          rotate_left
          · skip
            exact B274 (si μ 171 21 ((μ.1 171 21) + (μ.1 171 20))) hF h
          · skip
            exact B277 v1 (si μ 171 21 ((μ.1 171 21) + (μ.1 171 20))) hF h
      · skip
        obtain ⟨hi35, h⟩ := gd_some h
        have hjhi35 := vin_lt hi35 rfl
        have hF := hF.si (o := 178) (k := v3.toNatClampNeg) (v := (0 : Int32)) (by unfold S_X12_sows; exact inL_mk 178 178 9999 (by decide) (by omega) (by omega) (by omega))
        exact B51 n v3 (μ.1 178 v3.toNatClampNeg) v3 (0 : Int32) (si μ 178 v3.toNatClampNeg (0 : Int32)) hF h
  have hF := hF.si (o := 171) (k := 19) (v := (0 : Int32)) (by unfold S_X12_sows; exact inL_mk 171 171 19 (by decide) (by omega) (by omega) (by omega))
  have hF := hF.si (o := 171) (k := 21) (v := (0 : Int32)) (by unfold S_X12_sows; exact inL_mk 171 171 21 (by decide) (by omega) (by omega) (by omega))
  have hF := hF.si (o := 171) (k := 20) (v := (0 : Int32)) (by unfold S_X12_sows; exact inL_mk 171 171 20 (by decide) (by omega) (by omega) (by omega))
  have hF := hF.si (o := 171) (k := 23) (v := (0 : Int32)) (by unfold S_X12_sows; exact inL_mk 171 171 23 (by decide) (by omega) (by omega) (by omega))
  exact B25 n v2 (1 : Int32) (si (si (si (si μ 171 19 (0 : Int32)) 171 21 (0 : Int32)) 171 20 (0 : Int32)) 171 23 (0 : Int32)) hF h
set_option maxRecDepth 100000 in
set_option maxHeartbeats 4000000 in
theorem fr_X12_triesFrom (n : Nat) (v1 : Int32) (μ : Mu) (r : Unit × Mu) (h : X12_triesFrom n v1 μ = some r) : Fr (S_X12_triesFrom v1) μ r.2 := by
  rw [X12_triesFrom] at h
  have hF : Fr (S_X12_triesFrom v1) μ μ := Fr.rf
  obtain ⟨μ0, hμ0⟩ : ∃ z, z = μ := ⟨_, rfl⟩
  rw [← hμ0]
  have hF : Fr (S_X12_triesFrom v1) μ0 μ := by rw [hμ0]; exact hF
  obtain ⟨r1, hr1, h⟩ := bnd h
  have hF := hF.tr (fr_X12_takesUp n μ r1 hr1) (fun o k hS => (subL_of (L1 := [(178, 178, 9999)]) (by decide +kernel) hS))
  obtain ⟨r12, hr12, h⟩ := bnd h
  have hF := hF.tr (fr_X12_sows n (r1.2.1 172 2) v1 r1.2 r12 hr12) (fun o k hS => (subL_of (L1 := [(171, 171, 18), (171, 171, 19), (171, 171, 20), (171, 171, 21), (171, 171, 22), (171, 171, 23), (178, 178, 9999)]) (by decide +kernel) hS))
  rw [← Option.some.inj h]; exact hF
set_option maxRecDepth 100000 in
set_option maxHeartbeats 4000000 in
theorem fr_X12_isOver (n : Nat) (μ : Mu) (r : Int32 × Mu) (h : X12_isOver n  μ = some r) : Fr S_X12_isOver μ r.2 := by
  rw [X12_isOver] at h
  have hF : Fr S_X12_isOver μ μ := Fr.rf
  obtain ⟨μ0, hμ0⟩ : ∃ z, z = μ := ⟨_, rfl⟩
  rw [← hμ0]
  have hF : Fr S_X12_isOver μ0 μ := by rw [hμ0]; exact hF
  have B2 : ∀ (k : Nat), ∀ (v1 : Int32) (μ : Mu), Fr S_X12_isOver μ0 μ → lpF (fun _ _ => none) (X12_isOver_2b n) k v1 μ = some r → Fr S_X12_isOver μ0 r.2 := by
    intro k
    induction k with
    | zero =>
      intro v1 μ hF h
      cases h
    | succ k ih2 =>
      rw [lpF_s]
      generalize lpF (fun _ _ => none) (X12_isOver_2b n) k = k2 at ih2 ⊢
      intro v1 μ hF h
      have B35 : ∀ (v1 : Int32) (μ : Mu), Fr S_X12_isOver μ0 μ → X12_isOver_35 n k2 v1 μ = some r → Fr S_X12_isOver μ0 r.2 := by
        intro v1 μ hF h
        rw [X12_isOver_35] at h
        exact ih2 (v1 + (1 : Int32)) μ hF h
      rw [X12_isOver_2b] at h
      obtain ⟨r4, hr4, h⟩ := bnd h
      have hF := hF.tr (fr_X12_pitMany n μ r4 hr4) (fun o k hS => (subL_of (L1 := []) (by decide +kernel) hS))
      split at h
      · skip
        rw [← Option.some.inj h]; exact hF
      · skip
        obtain ⟨r12, hr12, h⟩ := bnd h
        have hF := hF.tr (fr_X12_isFull n v1 r4.2 r12 hr12) (fun o k hS => (subL_of (L1 := []) (by decide +kernel) hS))
        split at h
        rotate_left
        · skip
          obtain ⟨r23, hr23, h⟩ := bnd h
          have hF := hF.tr (fr_X12_triesFrom n v1 r12.2 r23 hr23) (fun o k hS => (subL_of (L1 := [(171, 171, 18), (171, 171, 19), (171, 171, 20), (171, 171, 21), (171, 171, 22), (171, 171, 23), (178, 178, 9999)]) (by decide +kernel) hS))
          split at h
          rotate_left
          · skip
            exact B35 v1 r23.2 hF h
          · skip
            rw [← Option.some.inj h]; exact hF
        · skip
          exact B35 v1 r12.2 hF h
  exact B2 n (0 : Int32) μ hF h
set_option maxRecDepth 100000 in
set_option maxHeartbeats 4000000 in
theorem fr_X12_canFeed (n : Nat) (μ : Mu) (r : Int32 × Mu) (h : X12_canFeed n  μ = some r) : Fr S_X12_canFeed μ r.2 := by
  rw [X12_canFeed] at h
  have hF : Fr S_X12_canFeed μ μ := Fr.rf
  obtain ⟨μ0, hμ0⟩ : ∃ z, z = μ := ⟨_, rfl⟩
  rw [← hμ0]
  have hF : Fr S_X12_canFeed μ0 μ := by rw [hμ0]; exact hF
  have B2 : ∀ (k : Nat), ∀ (v1 : Int32) (μ : Mu), Fr S_X12_canFeed μ0 μ → lpF (fun _ _ => none) (X12_canFeed_2b n) k v1 μ = some r → Fr S_X12_canFeed μ0 r.2 := by
    intro k
    induction k with
    | zero =>
      intro v1 μ hF h
      cases h
    | succ k ih2 =>
      rw [lpF_s]
      generalize lpF (fun _ _ => none) (X12_canFeed_2b n) k = k2 at ih2 ⊢
      intro v1 μ hF h
      have B50 : ∀ (v1 : Int32) (μ : Mu), Fr S_X12_canFeed μ0 μ → X12_canFeed_50 n k2 v1 μ = some r → Fr S_X12_canFeed μ0 r.2 := by
        intro v1 μ hF h
        rw [X12_canFeed_50] at h
        exact ih2 (v1 + (1 : Int32)) μ hF h
      rw [X12_canFeed_2b] at h
      obtain ⟨r4, hr4, h⟩ := bnd h
      have hF := hF.tr (fr_X12_pitMany n μ r4 hr4) (fun o k hS => (subL_of (L1 := []) (by decide +kernel) hS))
      split at h
      · skip
        rw [← Option.some.inj h]; exact hF
      · skip
        obtain ⟨r12, hr12, h⟩ := bnd h
        have hF := hF.tr (fr_X12_isFull n v1 r4.2 r12 hr12) (fun o k hS => (subL_of (L1 := []) (by decide +kernel) hS))
        split at h
        rotate_left
        · skip
          obtain ⟨r23, hr23, h⟩ := bnd h
          have hF := hF.tr (fr_X12_triesFrom n v1 r12.2 r23 hr23) (fun o k hS => (subL_of (L1 := [(171, 171, 18), (171, 171, 19), (171, 171, 20), (171, 171, 21), (171, 171, 22), (171, 171, 23), (178, 178, 9999)]) (by decide +kernel) hS))
          split at h
          rotate_left
          · skip
            exact B50 v1 r23.2 hF h
          · skip
            obtain ⟨r42, hr42, h⟩ := bnd h
            have hF := hF.tr (fr_X12_sum n ((1 : Int32) - (r23.2.1 172 2)) r23.2 r42 hr42) (fun o k hS => (subL_of (L1 := []) (by decide +kernel) hS))
            split at h
            · skip
              exact B50 v1 r42.2 hF h
            · skip
              rw [← Option.some.inj h]; exact hF
        · skip
          exact B50 v1 r12.2 hF h
  exact B2 n (0 : Int32) μ hF h
set_option maxRecDepth 100000 in
set_option maxHeartbeats 4000000 in
theorem fr_X12_whyNot (n : Nat) (v1 : Int32) (μ : Mu) (r : Int32 × Mu) (h : X12_whyNot n v1 μ = some r) : Fr (S_X12_whyNot v1) μ r.2 := by
  rw [X12_whyNot] at h
  have hF : Fr (S_X12_whyNot v1) μ μ := Fr.rf
  obtain ⟨μ0, hμ0⟩ : ∃ z, z = μ := ⟨_, rfl⟩
  rw [← hμ0]
  have hF : Fr (S_X12_whyNot v1) μ0 μ := by rw [hμ0]; exact hF
  have B39 : ∀ (μ : Mu), Fr (S_X12_whyNot v1) μ0 μ → X12_whyNot_39 n v1  μ = some r → Fr (S_X12_whyNot v1) μ0 r.2 := by
    intro μ hF h
    rw [X12_whyNot_39] at h
    rw [← Option.some.inj h]; exact hF
  have B107 : ∀ (s0 : Int32) (μ : Mu), Fr (S_X12_whyNot v1) μ0 μ → X12_whyNot_107 n v1 s0 μ = some r → Fr (S_X12_whyNot v1) μ0 r.2 := by
    intro s0 μ hF h
    rw [X12_whyNot_107] at h
    rw [← Option.some.inj h]; exact hF
  have B106 : ∀ (μ : Mu), Fr (S_X12_whyNot v1) μ0 μ → X12_whyNot_106 n v1  μ = some r → Fr (S_X12_whyNot v1) μ0 r.2 := by
    intro μ hF h
    rw [X12_whyNot_106] at h
    exact B107 (0 : Int32) μ hF h
  obtain ⟨r1, hr1, h⟩ := bnd h
  have hF := hF.tr (fr_X12_isOver n μ r1 hr1) (fun o k hS => (subL_of (L1 := [(171, 171, 18), (171, 171, 19), (171, 171, 20), (171, 171, 21), (171, 171, 22), (171, 171, 23), (178, 178, 9999)]) (by decide +kernel) hS))
  split at h
  · skip
    obtain ⟨r11, hr11, h⟩ := bnd h
    have hF := hF.tr (fr_X12_isPit n v1 r1.2 r11 hr11) (fun o k hS => (subL_of (L1 := []) (by decide +kernel) hS))
    split at h
    · skip
      exact B39 r11.2 hF h
    · skip
      obtain ⟨r19, hr19, h⟩ := bnd h
      have hF := hF.tr (fr_X12_sideOf n v1 r11.2 r19 hr19) (fun o k hS => (subL_of (L1 := []) (by decide +kernel) hS))
      split at h
      rotate_left
      · skip
        exact B39 r19.2 hF h
      · skip
        obtain ⟨r33, hr33, h⟩ := bnd h
        have hF := hF.tr (fr_X12_isLacking n v1 r19.2 r33 hr33) (fun o k hS => (subL_of (L1 := []) (by decide +kernel) hS))
        split at h
        · skip
          obtain ⟨hi49, h⟩ := gd_some h
          have hjhi49 := vin_lt hi49 rfl
          split at h
          rotate_left
          · skip
            obtain ⟨r57, hr57, h⟩ := bnd h
            have hF := hF.tr (fr_X12_triesFrom n v1 r33.2 r57 hr57) (fun o k hS => (subL_of (L1 := [(171, 171, 18), (171, 171, 19), (171, 171, 20), (171, 171, 21), (171, 171, 22), (171, 171, 23), (178, 178, 9999)]) (by decide +kernel) hS))
            split at h
            · skip
              split at h
              rotate_left
              · skip
                exact B106 r57.2 hF h
              · skip
                obtain ⟨r89, hr89, h⟩ := bnd h
                have hF := hF.tr (fr_X12_sum n ((1 : Int32) - (r57.2.1 172 2)) r57.2 r89 hr89) (fun o k hS => (subL_of (L1 := []) (by decide +kernel) hS))
                split at h
                rotate_left
                · skip
                  exact B106 r89.2 hF h
                · skip
                  obtain ⟨r96, hr96, h⟩ := bnd h
                  have hF := hF.tr (fr_X12_canFeed n r89.2 r96 hr96) (fun o k hS => (subL_of (L1 := [(171, 171, 18), (171, 171, 19), (171, 171, 20), (171, 171, 21), (171, 171, 22), (171, 171, 23), (178, 178, 9999)]) (by decide +kernel) hS))
                  split at h
                  · skip
                    exact B106 r96.2 hF h
                  · skip
                    exact B107 (4 : Int32) r96.2 hF h
            · skip
              rw [← Option.some.inj h]; exact hF
          · skip
            rw [← Option.some.inj h]; exact hF
        · skip
          exact B39 r33.2 hF h
  · skip
    rw [← Option.some.inj h]; exact hF
set_option maxRecDepth 100000 in
set_option maxHeartbeats 4000000 in
theorem fr_X12_moves (n : Nat) (v1 : Int32) (μ : Mu) (r : Int32 × Mu) (h : X12_moves n v1 μ = some r) : Fr (S_X12_moves v1) μ r.2 := by
  rw [X12_moves] at h
  have hF : Fr (S_X12_moves v1) μ μ := Fr.rf
  obtain ⟨μ0, hμ0⟩ : ∃ z, z = μ := ⟨_, rfl⟩
  rw [← hμ0]
  have hF : Fr (S_X12_moves v1) μ0 μ := by rw [hμ0]; exact hF
  have B7 : ∀ (k : Nat), ∀ (v2 : Int32) (μ : Mu), Fr (S_X12_moves v1) μ0 μ → lpF (fun _ _ => none) (X12_moves_7b n v1) k v2 μ = some r → Fr (S_X12_moves v1) μ0 r.2 := by
    intro k
    induction k with
    | zero =>
      intro v2 μ hF h
      cases h
    | succ k ih7 =>
      rw [lpF_s]
      generalize lpF (fun _ _ => none) (X12_moves_7b n v1) k = k7 at ih7 ⊢
      intro v2 μ hF h
      rw [X12_moves_7b] at h
      obtain ⟨r9, hr9, h⟩ := bnd h
      have hF := hF.tr (fr_X12_pitMany n μ r9 hr9) (fun o k hS => (subL_of (L1 := []) (by decide +kernel) hS))
      split at h
      · skip
        obtain ⟨hi50, h⟩ := gd_some h
        have hjhi50 := vin_lt hi50 rfl
        have hF := hF.si (o := 172) (k := ((11 : Int32) + (r9.2.1 172 2)).toNatClampNeg) (v := ((r9.2.1 172 ((11 : Int32) + (r9.2.1 172 2)).toNatClampNeg) + (r9.2.1 171 21))) (by unfold S_X12_moves; exact inL_mk 172 172 9999 (by decide) (by omega) (by omega) (by omega))
        have hF := hF.si (o := 172) (k := 2) (v := ((si r9.2 172 ((11 : Int32) + (r9.2.1 172 2)).toNatClampNeg ((r9.2.1 172 ((11 : Int32) + (r9.2.1 172 2)).toNatClampNeg) + (r9.2.1 171 21))).1 171 22)) (by unfold S_X12_moves; exact inL_mk 172 172 9999 (by decide) (by omega) (by omega) (by omega))
        rw [← Option.some.inj h]; exact hF
      · skip
        obtain ⟨hi28, h⟩ := gd_some h
        have hjhi28 := vin_lt hi28 rfl
        obtain ⟨hi29, h⟩ := gd_some h
        have hjhi29 := vin_lt hi29 rfl
        have hF := hF.si (o := 172) (k := ((13 : Int32) + v2).toNatClampNeg) (v := (r9.2.1 178 v2.toNatClampNeg)) (by unfold S_X12_moves; exact inL_mk 172 172 9999 (by decide) (by omega) (by omega) (by omega))
        exact ih7 (v2 + (1 : Int32)) (si r9.2 172 ((13 : Int32) + v2).toNatClampNeg (r9.2.1 178 v2.toNatClampNeg)) hF h
  obtain ⟨r2, hr2, h⟩ := bnd h
  have hF := hF.tr (fr_X12_triesFrom n v1 μ r2 hr2) (fun o k hS => (subL_of (L1 := [(171, 171, 18), (171, 171, 19), (171, 171, 20), (171, 171, 21), (171, 171, 22), (171, 171, 23), (178, 178, 9999)]) (by decide +kernel) hS))
  exact B7 n (0 : Int32) r2.2 hF h
set_option maxRecDepth 100000 in
set_option maxHeartbeats 4000000 in
theorem fr_X12_may (n : Nat) (v1 : Int32) (μ : Mu) (r : Int32 × Mu) (h : X12_may n v1 μ = some r) : Fr (S_X12_may v1) μ r.2 := by
  rw [X12_may] at h
  have hF : Fr (S_X12_may v1) μ μ := Fr.rf
  obtain ⟨μ0, hμ0⟩ : ∃ z, z = μ := ⟨_, rfl⟩
  rw [← hμ0]
  have hF : Fr (S_X12_may v1) μ0 μ := by rw [hμ0]; exact hF
  have hF := hF.si (o := 171) (k := 5) (v := (0 : Int32)) (by unfold S_X12_may; exact inL_mk 171 171 5 (by decide) (by omega) (by omega) (by omega))
  obtain ⟨r7, hr7, h⟩ := bnd h
  have hF := hF.tr (fr_X12_whyNot n v1 (si μ 171 5 (0 : Int32)) r7 hr7) (fun o k hS => (subL_of (L1 := [(171, 171, 18), (171, 171, 19), (171, 171, 20), (171, 171, 21), (171, 171, 22), (171, 171, 23), (178, 178, 9999)]) (by decide +kernel) hS))
  rw [← Option.some.inj h]; exact hF
set_option maxRecDepth 100000 in
set_option maxHeartbeats 4000000 in
theorem fr_X12_sown (n : Nat) (v1 : Int32) (v2 : Int32) (μ : Mu) (r : Int32 × Mu) (h : X12_sown n v1 v2 μ = some r) : Fr (S_X12_sown v1 v2) μ r.2 := by
  rw [X12_sown] at h
  have hF : Fr (S_X12_sown v1 v2) μ μ := Fr.rf
  obtain ⟨μ0, hμ0⟩ : ∃ z, z = μ := ⟨_, rfl⟩
  rw [← hμ0]
  have hF : Fr (S_X12_sown v1 v2) μ0 μ := by rw [hμ0]; exact hF
  have B107 : ∀ (s0 : Int32) (μ : Mu), Fr (S_X12_sown v1 v2) μ0 μ → X12_sown_107 n v1 v2 s0 μ = some r → Fr (S_X12_sown v1 v2) μ0 r.2 := by
    intro s0 μ hF h
    rw [X12_sown_107] at h
    rw [← Option.some.inj h]; exact hF
  have hF := hF.si (o := 171) (k := 5) (v := (0 : Int32)) (by unfold S_X12_sown; exact inL_mk 171 171 5 (by decide) (by omega) (by omega) (by omega))
  obtain ⟨r7, hr7, h⟩ := bnd h
  have hF := hF.tr (fr_X12_isFull n v1 (si μ 171 5 (0 : Int32)) r7 hr7) (fun o k hS => (subL_of (L1 := []) (by decide +kernel) hS))
  split at h
  rotate_left
  · skip
    obtain ⟨r21, hr21, h⟩ := bnd h
    have hF := hF.tr (fr_X12_triesFrom n v1 r7.2 r21 hr21) (fun o k hS => (subL_of (L1 := [(171, 171, 18), (171, 171, 19), (171, 171, 20), (171, 171, 21), (171, 171, 22), (171, 171, 23), (178, 178, 9999)]) (by decide +kernel) hS))
    split at h
    · skip
      obtain ⟨r43, hr43, h⟩ := bnd h
      have hF := hF.tr (fr_X12_within n (v2.toInt64) (0 : Int64) (3 : Int64) r21.2 r43 hr43) (fun o k hS => (subL_of (L1 := []) (by decide +kernel) hS))
      split at h
      rotate_left
      · skip
        split at h
        rotate_left
        · skip
          split at h
          rotate_left
          · skip
            split at h
            rotate_left
            · skip
              exact B107 (r43.2.1 171 22) r43.2 hF h
            · skip
              exact B107 (r43.2.1 171 20) r43.2 hF h
          · skip
            exact B107 (r43.2.1 171 19) r43.2 hF h
        · skip
          split at h
          rotate_left
          · skip
            exact B107 (r43.2.1 171 18) r43.2 hF h
          · skip
            exact B107 ((-1) : Int32) r43.2 hF h
      · skip
        obtain ⟨r51, hr51, h⟩ := bnd h
        have hF := hF.tr (fr_X12_fails n (3 : Int32) r43.2 r51 hr51) (fun o k hS => (subL_of (L1 := [(171, 171, 5)]) (by decide +kernel) hS))
        rw [← Option.some.inj h]; exact hF
    · skip
      obtain ⟨r33, hr33, h⟩ := bnd h
      have hF := hF.tr (fr_X12_fails n (2 : Int32) r21.2 r33 hr33) (fun o k hS => (subL_of (L1 := [(171, 171, 5)]) (by decide +kernel) hS))
      rw [← Option.some.inj h]; exact hF
  · skip
    obtain ⟨r15, hr15, h⟩ := bnd h
    have hF := hF.tr (fr_X12_fails n (1 : Int32) r7.2 r15 hr15) (fun o k hS => (subL_of (L1 := [(171, 171, 5)]) (by decide +kernel) hS))
    rw [← Option.some.inj h]; exact hF
set_option maxRecDepth 100000 in
set_option maxHeartbeats 4000000 in
theorem fr_X12_over (n : Nat) (μ : Mu) (r : Int32 × Mu) (h : X12_over n  μ = some r) : Fr S_X12_over μ r.2 := by
  rw [X12_over] at h
  have hF : Fr S_X12_over μ μ := Fr.rf
  obtain ⟨μ0, hμ0⟩ : ∃ z, z = μ := ⟨_, rfl⟩
  rw [← hμ0]
  have hF : Fr S_X12_over μ0 μ := by rw [hμ0]; exact hF
  have hF := hF.si (o := 171) (k := 5) (v := (0 : Int32)) (by unfold S_X12_over; exact inL_mk 171 171 5 (by decide) (by omega) (by omega) (by omega))
  obtain ⟨r6, hr6, h⟩ := bnd h
  have hF := hF.tr (fr_X12_isOver n (si μ 171 5 (0 : Int32)) r6 hr6) (fun o k hS => (subL_of (L1 := [(171, 171, 18), (171, 171, 19), (171, 171, 20), (171, 171, 21), (171, 171, 22), (171, 171, 23), (178, 178, 9999)]) (by decide +kernel) hS))
  obtain ⟨hz9, h⟩ := bz_some h
  rw [← Option.some.inj h]; exact hF
set_option maxRecDepth 100000 in
set_option maxHeartbeats 4000000 in
theorem fr_X12_scoreNow (n : Nat) (μ : Mu) (r : Int32 × Mu) (h : X12_scoreNow n  μ = some r) : Fr S_X12_scoreNow μ r.2 := by
  rw [X12_scoreNow] at h
  have hF : Fr S_X12_scoreNow μ μ := Fr.rf
  obtain ⟨μ0, hμ0⟩ : ∃ z, z = μ := ⟨_, rfl⟩
  rw [← hμ0]
  have hF : Fr S_X12_scoreNow μ0 μ := by rw [hμ0]; exact hF
  have B27 : ∀ (k : Nat), ∀ (v1 : Int32) (v2 : Int32) (μ : Mu), Fr S_X12_scoreNow μ0 μ → lpF (fun _ _ _ => none) (X12_scoreNow_27b n) k v1 v2 μ = some r → Fr S_X12_scoreNow μ0 r.2 := by
    intro k
    induction k with
    | zero =>
      intro v1 v2 μ hF h
      cases h
    | succ k ih27 =>
      rw [lpF_s]
      generalize lpF (fun _ _ _ => none) (X12_scoreNow_27b n) k = k27 at ih27 ⊢
      intro v1 v2 μ hF h
      have B66 : ∀ (v2 : Int32) (s0 : Int32) (s1 : Int32) (μ : Mu), Fr S_X12_scoreNow μ0 μ → X12_scoreNow_66 n k27 v2 s0 s1 μ = some r → Fr S_X12_scoreNow μ0 r.2 := by
        intro v2 s0 s1 μ hF h
        rw [X12_scoreNow_66] at h
        exact ih27 (s0 + s1) (v2 + (1 : Int32)) μ hF h
      rw [X12_scoreNow_27b] at h
      obtain ⟨r29, hr29, h⟩ := bnd h
      have hF := hF.tr (fr_X12_pitMany n μ r29 hr29) (fun o k hS => (subL_of (L1 := []) (by decide +kernel) hS))
      split at h
      · skip
        rw [← Option.some.inj h]; exact hF
      · skip
        obtain ⟨r38, hr38, h⟩ := bnd h
        have hF := hF.tr (fr_X12_sideOf n v2 r29.2 r38 hr38) (fun o k hS => (subL_of (L1 := []) (by decide +kernel) hS))
        split at h
        rotate_left
        · skip
          obtain ⟨hi64, h⟩ := gd_some h
          have hjhi64 := vin_lt hi64 rfl
          exact B66 v2 v1 (-(r38.2.1 172 ((13 : Int32) + v2).toNatClampNeg)) r38.2 hF h
        · skip
          obtain ⟨hi52, h⟩ := gd_some h
          have hjhi52 := vin_lt hi52 rfl
          exact B66 v2 v1 (r38.2.1 172 ((13 : Int32) + v2).toNatClampNeg) r38.2 hF h
  obtain ⟨r17, hr17, h⟩ := bnd h
  have hF := hF.tr (fr_X12_isOver n μ r17 hr17) (fun o k hS => (subL_of (L1 := [(171, 171, 18), (171, 171, 19), (171, 171, 20), (171, 171, 21), (171, 171, 22), (171, 171, 23), (178, 178, 9999)]) (by decide +kernel) hS))
  split at h
  rotate_left
  · skip
    exact B27 n ((μ.1 172 11) - (μ.1 172 12)) (0 : Int32) r17.2 hF h
  · skip
    rw [← Option.some.inj h]; exact hF
set_option maxRecDepth 100000 in
set_option maxHeartbeats 4000000 in
theorem fr_X12_score (n : Nat) (μ : Mu) (r : Int32 × Mu) (h : X12_score n  μ = some r) : Fr S_X12_score μ r.2 := by
  rw [X12_score] at h
  have hF : Fr S_X12_score μ μ := Fr.rf
  obtain ⟨μ0, hμ0⟩ : ∃ z, z = μ := ⟨_, rfl⟩
  rw [← hμ0]
  have hF : Fr S_X12_score μ0 μ := by rw [hμ0]; exact hF
  have hF := hF.si (o := 171) (k := 5) (v := (0 : Int32)) (by unfold S_X12_score; exact inL_mk 171 171 5 (by decide) (by omega) (by omega) (by omega))
  obtain ⟨r6, hr6, h⟩ := bnd h
  have hF := hF.tr (fr_X12_scoreNow n (si μ 171 5 (0 : Int32)) r6 hr6) (fun o k hS => (subL_of (L1 := [(171, 171, 18), (171, 171, 19), (171, 171, 20), (171, 171, 21), (171, 171, 22), (171, 171, 23), (178, 178, 9999)]) (by decide +kernel) hS))
  rw [← Option.some.inj h]; exact hF
set_option maxRecDepth 100000 in
set_option maxHeartbeats 4000000 in
theorem fr_X12_does (n : Nat) (v1 : Int32) (μ : Mu) (r : Int32 × Mu) (h : X12_does n v1 μ = some r) : Fr (S_X12_does v1) μ r.2 := by
  rw [X12_does] at h
  have hF : Fr (S_X12_does v1) μ μ := Fr.rf
  obtain ⟨μ0, hμ0⟩ : ∃ z, z = μ := ⟨_, rfl⟩
  rw [← hμ0]
  have hF : Fr (S_X12_does v1) μ0 μ := by rw [hμ0]; exact hF
  obtain ⟨r2, hr2, h⟩ := bnd h
  have hF := hF.tr (fr_X12_keeps n v1 μ r2 hr2) (fun o k hS => (subL_of (L1 := [(171, 171, 28), (179, 179, 9999), (180, 180, 9999)]) (by decide +kernel) hS))
  have hF := hF.si (o := 171) (k := 29) (v := (0 : Int32)) (by unfold S_X12_does; exact inL_mk 171 171 29 (by decide) (by omega) (by omega) (by omega))
  obtain ⟨r12, hr12, h⟩ := bnd h
  have hF := hF.tr (fr_X12_moves n v1 (si r2.2 171 29 (0 : Int32)) r12 hr12) (fun o k hS => (subL_of (L1 := [(171, 171, 18), (171, 171, 19), (171, 171, 20), (171, 171, 21), (171, 171, 22), (171, 171, 23), (172, 172, 9999), (178, 178, 9999)]) (by decide +kernel) hS))
  rw [← Option.some.inj h]; exact hF
set_option maxRecDepth 100000 in
set_option maxHeartbeats 4000000 in
theorem fr_X12_move (n : Nat) (v1 : Int32) (μ : Mu) (r : Int32 × Mu) (h : X12_move n v1 μ = some r) : Fr (S_X12_move v1) μ r.2 := by
  rw [X12_move] at h
  have hF : Fr (S_X12_move v1) μ μ := Fr.rf
  obtain ⟨μ0, hμ0⟩ : ∃ z, z = μ := ⟨_, rfl⟩
  rw [← hμ0]
  have hF : Fr (S_X12_move v1) μ0 μ := by rw [hμ0]; exact hF
  have B25 : ∀ (s0 : Int32) (μ : Mu), Fr (S_X12_move v1) μ0 μ → X12_move_25 n v1 s0 μ = some r → Fr (S_X12_move v1) μ0 r.2 := by
    intro s0 μ hF h
    rw [X12_move_25] at h
    rw [← Option.some.inj h]; exact hF
  have hF := hF.si (o := 171) (k := 5) (v := (0 : Int32)) (by unfold S_X12_move; exact inL_mk 171 171 5 (by decide) (by omega) (by omega) (by omega))
  obtain ⟨r7, hr7, h⟩ := bnd h
  have hF := hF.tr (fr_X12_whyNot n v1 (si μ 171 5 (0 : Int32)) r7 hr7) (fun o k hS => (subL_of (L1 := [(171, 171, 18), (171, 171, 19), (171, 171, 20), (171, 171, 21), (171, 171, 22), (171, 171, 23), (178, 178, 9999)]) (by decide +kernel) hS))
  split at h
  rotate_left
  · skip
    exact B25 (-r7.1) r7.2 hF h
  · skip
    obtain ⟨r17, hr17, h⟩ := bnd h
    have hF := hF.tr (fr_X12_does n v1 r7.2 r17 hr17) (fun o k hS => (subL_of (L1 := [(171, 171, 18), (171, 171, 19), (171, 171, 20), (171, 171, 21), (171, 171, 22), (171, 171, 23), (171, 171, 28), (171, 171, 29), (172, 172, 9999), (178, 178, 9999), (179, 179, 9999), (180, 180, 9999)]) (by decide +kernel) hS))
    exact B25 r17.1 r17.2 hF h
set_option maxRecDepth 100000 in
set_option maxHeartbeats 4000000 in
theorem fr_X12_whyTold (n : Nat) (v1 : Int64) (μ : Mu) (r : Int32 × Mu) (h : X12_whyTold n v1 μ = some r) : Fr (S_X12_whyTold v1) μ r.2 := by
  rw [X12_whyTold] at h
  have hF : Fr (S_X12_whyTold v1) μ μ := Fr.rf
  obtain ⟨μ0, hμ0⟩ : ∃ z, z = μ := ⟨_, rfl⟩
  rw [← hμ0]
  have hF : Fr (S_X12_whyTold v1) μ0 μ := by rw [hμ0]; exact hF
  have B18 : ∀ (s1 : Int32) (μ : Mu), Fr (S_X12_whyTold v1) μ0 μ → X12_whyTold_18 n v1 s1 μ = some r → Fr (S_X12_whyTold v1) μ0 r.2 := by
    intro s1 μ hF h
    rw [X12_whyTold_18] at h
    obtain ⟨r18, hr18, h⟩ := bnd h
    have hF := hF.tr (fr_X12_whyNot n s1 μ r18 hr18) (fun o k hS => (subL_of (L1 := [(171, 171, 18), (171, 171, 19), (171, 171, 20), (171, 171, 21), (171, 171, 22), (171, 171, 23), (178, 178, 9999)]) (by decide +kernel) hS))
    rw [← Option.some.inj h]; exact hF
  obtain ⟨r6, hr6, h⟩ := bnd h
  have hF := hF.tr (fr_X12_within n v1 (0 : Int64) (12 : Int64) μ r6 hr6) (fun o k hS => (subL_of (L1 := []) (by decide +kernel) hS))
  split at h
  · skip
    exact B18 ((-1) : Int32) r6.2 hF h
  · skip
    exact B18 (v1.toInt32) r6.2 hF h
set_option maxRecDepth 100000 in
set_option maxHeartbeats 4000000 in
theorem fr_X12_judge (n : Nat) (v1 : Int32) (v2 : Int32) (μ : Mu) (r : Int32 × Mu) (h : X12_judge n v1 v2 μ = some r) : Fr (S_X12_judge v1 v2) μ r.2 := by
  rw [X12_judge] at h
  have hF : Fr (S_X12_judge v1 v2) μ μ := Fr.rf
  obtain ⟨μ0, hμ0⟩ : ∃ z, z = μ := ⟨_, rfl⟩
  rw [← hμ0]
  have hF : Fr (S_X12_judge v1 v2) μ0 μ := by rw [hμ0]; exact hF
  have B182 : ∀ (s0 : Int32) (μ : Mu), Fr (S_X12_judge v1 v2) μ0 μ → X12_judge_182 n v1 v2 s0 μ = some r → Fr (S_X12_judge v1 v2) μ0 r.2 := by
    intro s0 μ hF h
    rw [X12_judge_182] at h
    rw [← Option.some.inj h]; exact hF
  have B118 : ∀ (v3 : Int32) (v4 : Int32) (μ : Mu), Fr (S_X12_judge v1 v2) μ0 μ → X12_judge_118 n v1 v2 v3 v4 μ = some r → Fr (S_X12_judge v1 v2) μ0 r.2 := by
    intro v3 v4 μ hF h
    rw [X12_judge_118] at h
    obtain ⟨r119, hr119, h⟩ := bnd h
    have hF := hF.tr (fr_X12_scoreNow n μ r119 hr119) (fun o k hS => (subL_of (L1 := [(171, 171, 18), (171, 171, 19), (171, 171, 20), (171, 171, 21), (171, 171, 22), (171, 171, 23), (178, 178, 9999)]) (by decide +kernel) hS))
    obtain ⟨r140, hr140, h⟩ := bnd h
    have hF := hF.tr (fr_X12_copies n 175 172 r119.2 r140 hr140) (fun o k hS => by
  unfold S_X12_copies at hS
  rcases hS with hS | hS
  · exact (subL_of (by decide +kernel) hS)
  · exact inL_mk 172 172 9999 (by decide) (by omega) (by omega) (by omega))
    split at h
    rotate_left
    · skip
      split at h
      rotate_left
      · skip
        split at h
        rotate_left
        · skip
          exact B182 (r119.2.1 172 2) r140.2 hF h
        · skip
          exact B182 r119.1 r140.2 hF h
      · skip
        exact B182 v4 r140.2 hF h
    · skip
      split at h
      rotate_left
      · skip
        exact B182 v3 r140.2 hF h
      · skip
        exact B182 ((-1) : Int32) r140.2 hF h
  have B58 : ∀ (k : Nat), ∀ (v3 : Int32) (v4 : Int32) (μ : Mu), Fr (S_X12_judge v1 v2) μ0 μ → lpF (fun _ _ _ => none) (X12_judge_58b n v1 v2) k v3 v4 μ = some r → Fr (S_X12_judge v1 v2) μ0 r.2 := by
    intro k
    induction k with
    | zero =>
      intro v3 v4 μ hF h
      cases h
    | succ k ih58 =>
      rw [lpF_s]
      generalize lpF (fun _ _ _ => none) (X12_judge_58b n v1 v2) k = k58 at ih58 ⊢
      intro v3 v4 μ hF h
      rw [X12_judge_58b] at h
      obtain ⟨hi64, h⟩ := gd_some h
      have hjhi64 := vin_lt hi64 rfl
      split at h
      · skip
        exact B118 v3 v4 μ hF h
      · skip
        split at h
        rotate_left
        · skip
          exact B118 v3 v4 μ hF h
        · skip
          obtain ⟨hi84, h⟩ := gd_some h
          have hjhi84 := vin_lt hi84 rfl
          obtain ⟨r85, hr85, h⟩ := bnd h
          have hF := hF.tr (fr_X12_whyTold n (μ.2 200 (((40 : Int32) * v1) + v3).toNatClampNeg) μ r85 hr85) (fun o k hS => (subL_of (L1 := [(171, 171, 18), (171, 171, 19), (171, 171, 20), (171, 171, 21), (171, 171, 22), (171, 171, 23), (178, 178, 9999)]) (by decide +kernel) hS))
          split at h
          rotate_left
          · skip
            exact ih58 v3 r85.1 r85.2 hF h
          · skip
            obtain ⟨r108, hr108, h⟩ := bnd h
            have hF := hF.tr (fr_X12_moves n ((r85.2.2 200 (((40 : Int32) * v1) + v3).toNatClampNeg).toInt32) r85.2 r108 hr108) (fun o k hS => (subL_of (L1 := [(171, 171, 18), (171, 171, 19), (171, 171, 20), (171, 171, 21), (171, 171, 22), (171, 171, 23), (172, 172, 9999), (178, 178, 9999)]) (by decide +kernel) hS))
            exact ih58 (v3 + (1 : Int32)) r85.1 r108.2 hF h
  have B33 : ∀ (μ : Mu), Fr (S_X12_judge v1 v2) μ0 μ → X12_judge_33 n v1 v2  μ = some r → Fr (S_X12_judge v1 v2) μ0 r.2 := by
    intro μ hF h
    rw [X12_judge_33] at h
    split at h
    · skip
      obtain ⟨r50, hr50, h⟩ := bnd h
      have hF := hF.tr (fr_X12_copies n 172 175 μ r50 hr50) (fun o k hS => by
    unfold S_X12_copies at hS
    rcases hS with hS | hS
    · exact (subL_of (by decide +kernel) hS)
    · exact inL_mk 175 175 9999 (by decide) (by omega) (by omega) (by omega))
      exact B58 n (0 : Int32) (0 : Int32) r50.2 hF h
    · skip
      rw [← Option.some.inj h]; exact hF
  obtain ⟨r3, hr3, h⟩ := bnd h
  have hF := hF.tr (fr_X12_trayFault n v1 μ r3 hr3) (fun o k hS => (subL_of (L1 := []) (by decide +kernel) hS))
  have hF := hF.si (o := 171) (k := 5) (v := r3.1) (by unfold S_X12_judge; exact inL_mk 171 171 5 (by decide) (by omega) (by omega) (by omega))
  split at h
  rotate_left
  · skip
    exact B33 (si r3.2 171 5 r3.1) hF h
  · skip
    obtain ⟨r22, hr22, h⟩ := bnd h
    have hF := hF.tr (fr_X12_within n (v2.toInt64) (0 : Int64) (3 : Int64) (si r3.2 171 5 r3.1) r22 hr22) (fun o k hS => (subL_of (L1 := []) (by decide +kernel) hS))
    split at h
    rotate_left
    · skip
      exact B33 r22.2 hF h
    · skip
      have hF := hF.si (o := 171) (k := 5) (v := (3 : Int32)) (by unfold S_X12_judge; exact inL_mk 171 171 5 (by decide) (by omega) (by omega) (by omega))
      exact B33 (si r22.2 171 5 (3 : Int32)) hF h
set_option maxRecDepth 100000 in
set_option maxHeartbeats 4000000 in
theorem fr_X12_perform (n : Nat) (v1 : Int32) (μ : Mu) (r : Int32 × Mu) (h : X12_perform n v1 μ = some r) : Fr (S_X12_perform v1) μ r.2 := by
  rw [X12_perform] at h
  have hF : Fr (S_X12_perform v1) μ μ := Fr.rf
  obtain ⟨μ0, hμ0⟩ : ∃ z, z = μ := ⟨_, rfl⟩
  rw [← hμ0]
  have hF : Fr (S_X12_perform v1) μ0 μ := by rw [hμ0]; exact hF
  have B71 : ∀ (v2 : Int32) (μ : Mu), Fr (S_X12_perform v1) μ0 μ → X12_perform_71 n v1 v2 μ = some r → Fr (S_X12_perform v1) μ0 r.2 := by
    intro v2 μ hF h
    rw [X12_perform_71] at h
    rw [← Option.some.inj h]; exact hF
  have B20 : ∀ (k : Nat), ∀ (v2 : Int32) (μ : Mu), Fr (S_X12_perform v1) μ0 μ → lpF (fun _ _ => none) (X12_perform_20b n v1) k v2 μ = some r → Fr (S_X12_perform v1) μ0 r.2 := by
    intro k
    induction k with
    | zero =>
      intro v2 μ hF h
      cases h
    | succ k ih20 =>
      rw [lpF_s]
      generalize lpF (fun _ _ => none) (X12_perform_20b n v1) k = k20 at ih20 ⊢
      intro v2 μ hF h
      rw [X12_perform_20b] at h
      obtain ⟨hi26, h⟩ := gd_some h
      have hjhi26 := vin_lt hi26 rfl
      split at h
      · skip
        exact B71 v2 μ hF h
      · skip
        obtain ⟨hi41, h⟩ := gd_some h
        have hjhi41 := vin_lt hi41 rfl
        obtain ⟨r42, hr42, h⟩ := bnd h
        have hF := hF.tr (fr_X12_whyTold n (μ.2 200 (((40 : Int32) * v1) + v2).toNatClampNeg) μ r42 hr42) (fun o k hS => (subL_of (L1 := [(171, 171, 18), (171, 171, 19), (171, 171, 20), (171, 171, 21), (171, 171, 22), (171, 171, 23), (178, 178, 9999)]) (by decide +kernel) hS))
        split at h
        rotate_left
        · skip
          exact B71 v2 r42.2 hF h
        · skip
          obtain ⟨r61, hr61, h⟩ := bnd h
          have hF := hF.tr (fr_X12_does n ((r42.2.2 200 (((40 : Int32) * v1) + v2).toNatClampNeg).toInt32) r42.2 r61 hr61) (fun o k hS => (subL_of (L1 := [(171, 171, 18), (171, 171, 19), (171, 171, 20), (171, 171, 21), (171, 171, 22), (171, 171, 23), (171, 171, 28), (171, 171, 29), (172, 172, 9999), (178, 178, 9999), (179, 179, 9999), (180, 180, 9999)]) (by decide +kernel) hS))
          exact ih20 (v2 + (1 : Int32)) r61.2 hF h
  obtain ⟨r3, hr3, h⟩ := bnd h
  have hF := hF.tr (fr_X12_trayFault n v1 μ r3 hr3) (fun o k hS => (subL_of (L1 := []) (by decide +kernel) hS))
  have hF := hF.si (o := 171) (k := 5) (v := r3.1) (by unfold S_X12_perform; exact inL_mk 171 171 5 (by decide) (by omega) (by omega) (by omega))
  split at h
  · skip
    exact B20 n (0 : Int32) (si r3.2 171 5 r3.1) hF h
  · skip
    rw [← Option.some.inj h]; exact hF
set_option maxRecDepth 100000 in
set_option maxHeartbeats 4000000 in
theorem fr_X12_laysMove (n : Nat) (v1 : Int32) (v2 : Int32) (v3 : Int32) (v4 : Int32) (μ : Mu) (r : Unit × Mu) (h : X12_laysMove n v1 v2 v3 v4 μ = some r) : Fr (S_X12_laysMove v1 v2 v3 v4) μ r.2 := by
  rw [X12_laysMove] at h
  have hF : Fr (S_X12_laysMove v1 v2 v3 v4) μ μ := Fr.rf
  obtain ⟨μ0, hμ0⟩ : ∃ z, z = μ := ⟨_, rfl⟩
  rw [← hμ0]
  have hF : Fr (S_X12_laysMove v1 v2 v3 v4) μ0 μ := by rw [hμ0]; exact hF
  have B16 : ∀ (s0 : Int32) (s1 : Int32) (μ : Mu), Fr (S_X12_laysMove v1 v2 v3 v4) μ0 μ → X12_laysMove_16 n v1 v2 v3 v4 s0 s1 μ = some r → Fr (S_X12_laysMove v1 v2 v3 v4) μ0 r.2 := by
    intro s0 s1 μ hF h
    rw [X12_laysMove_16] at h
    obtain ⟨hi31, h⟩ := gd_some h
    have hjhi31 := vin_lt hi31 rfl
    have hF := hF.si (o := 187) (k := (((6 : Int32) * v1) + v4).toNatClampNeg) (v := ((-1) : Int32)) (by unfold S_X12_laysMove; exact inL_mk 187 187 9999 (by decide) (by omega) (by omega) (by omega))
    obtain ⟨r35, hr35, h⟩ := bnd h
    have hF := hF.tr (fr_X12_whyNot n (s0 + s1) (si μ 187 (((6 : Int32) * v1) + v4).toNatClampNeg ((-1) : Int32)) r35 hr35) (fun o k hS => (subL_of (L1 := [(171, 171, 18), (171, 171, 19), (171, 171, 20), (171, 171, 21), (171, 171, 22), (171, 171, 23), (178, 178, 9999)]) (by decide +kernel) hS))
    split at h
    · skip
      obtain ⟨r45, hr45, h⟩ := bnd h
      have hF := hF.tr (fr_X12_triesFrom n (s0 + s1) r35.2 r45 hr45) (fun o k hS => (subL_of (L1 := [(171, 171, 18), (171, 171, 19), (171, 171, 20), (171, 171, 21), (171, 171, 22), (171, 171, 23), (178, 178, 9999)]) (by decide +kernel) hS))
      obtain ⟨r64, hr64, h⟩ := bnd h
      have hF := hF.tr (fr_X12_numberOf n (r45.2.1 171 22) r45.2 r64 hr64) (fun o k hS => (subL_of (L1 := [(171, 171, 31), (183, 183, 9999)]) (by decide +kernel) hS))
      obtain ⟨r67, hr67, h⟩ := bnd h
      have hF := hF.tr (fr_X12_seat n (r45.2.1 171 22) (v3 - (r45.2.1 171 21)) r64.1 r64.2 r67 hr67) (fun o k hS => (subL_of (L1 := []) (by decide +kernel) hS))
      have hF := hF.si (o := 187) (k := (((6 : Int32) * v1) + v4).toNatClampNeg) (v := r67.1) (by unfold S_X12_laysMove; exact inL_mk 187 187 9999 (by decide) (by omega) (by omega) (by omega))
      have hF := hF.si (o := 188) (k := (((6 : Int32) * v1) + v4).toNatClampNeg) (v := ((si r67.2 187 (((6 : Int32) * v1) + v4).toNatClampNeg r67.1).1 171 21)) (by unfold S_X12_laysMove; exact inL_mk 188 188 9999 (by decide) (by omega) (by omega) (by omega))
      rw [← Option.some.inj h]; exact hF
    · skip
      rw [← Option.some.inj h]; exact hF
  split at h
  rotate_left
  · skip
    exact B16 v4 (μ.1 172 1) μ hF h
  · skip
    exact B16 v4 (0 : Int32) μ hF h
set_option maxRecDepth 100000 in
set_option maxHeartbeats 4000000 in
theorem fr_X12_goesOn (n : Nat) (μ : Mu) (r : Int32 × Mu) (h : X12_goesOn n  μ = some r) : Fr S_X12_goesOn μ r.2 := by
  rw [X12_goesOn] at h
  have hF : Fr S_X12_goesOn μ μ := Fr.rf
  obtain ⟨μ0, hμ0⟩ : ∃ z, z = μ := ⟨_, rfl⟩
  rw [← hμ0]
  have hF : Fr S_X12_goesOn μ0 μ := by rw [hμ0]; exact hF
  have B120 : ∀ (μ : Mu), Fr S_X12_goesOn μ0 μ → X12_goesOn_120 n  μ = some r → Fr S_X12_goesOn μ0 r.2 := by
    intro μ hF h
    rw [X12_goesOn_120] at h
    rw [← Option.some.inj h]; exact hF
  have B15 : ∀ (k : Nat), ∀ (μ : Mu), Fr S_X12_goesOn μ0 μ → lpF (fun _ => none) (X12_goesOn_15b n) k  μ = some r → Fr S_X12_goesOn μ0 r.2 := by
    intro k
    induction k with
    | zero =>
      intro μ hF h
      cases h
    | succ k ih15 =>
      rw [lpF_s]
      generalize lpF (fun _ => none) (X12_goesOn_15b n) k = k15 at ih15 ⊢
      intro μ hF h
      have B83 : ∀ (k : Nat), ∀ (v1 : Int32) (μ : Mu), Fr S_X12_goesOn μ0 μ → lpF (fun _ _ => none) (X12_goesOn_83b n k15) k v1 μ = some r → Fr S_X12_goesOn μ0 r.2 := by
        intro k
        induction k with
        | zero =>
          intro v1 μ hF h
          cases h
        | succ k ih83 =>
          rw [lpF_s]
          generalize lpF (fun _ _ => none) (X12_goesOn_83b n k15) k = k83 at ih83 ⊢
          intro v1 μ hF h
          rw [X12_goesOn_83b] at h
          split at h
          · skip
            exact ih15 μ hF h
          · skip
            obtain ⟨hi96, h⟩ := gd_some h
            have hjhi96 := vin_lt hi96 rfl
            obtain ⟨hi105, h⟩ := gd_some h
            have hjhi105 := vin_lt hi105 rfl
            split at h
            rotate_left
            · skip
              exact ih83 (v1 + (1 : Int32)) μ hF h
            · skip
              rw [← Option.some.inj h]; exact hF
      rw [X12_goesOn_15b] at h
      split at h
      · skip
        exact B120 μ hF h
      · skip
        obtain ⟨r25, hr25, h⟩ := bnd h
        have hF := hF.tr (fr_X12_isOver n μ r25 hr25) (fun o k hS => (subL_of (L1 := [(171, 171, 18), (171, 171, 19), (171, 171, 20), (171, 171, 21), (171, 171, 22), (171, 171, 23), (178, 178, 9999)]) (by decide +kernel) hS))
        split at h
        rotate_left
        · skip
          exact B120 r25.2 hF h
        · skip
          obtain ⟨r40, hr40, h⟩ := bnd h
          have hF := hF.tr (fr_X12_bestNow n r25.2 r40 hr40) (fun o k hS => (subL_of (L1 := [(171, 171, 31), (178, 178, 9999), (183, 183, 9999)]) (by decide +kernel) hS))
          obtain ⟨hi43, h⟩ := gd_some h
          have hjhi43 := vin_lt hi43 rfl
          have hF := hF.si (o := 193) (k := (r25.2.1 171 44).toNatClampNeg) (v := r40.1) (by unfold S_X12_goesOn; exact inL_mk 193 193 9999 (by decide) (by omega) (by omega) (by omega))
          obtain ⟨hi53, h⟩ := gd_some h
          have hjhi53 := vin_lt hi53 rfl
          obtain ⟨r54, hr54, h⟩ := bnd h
          have hF := hF.tr (fr_X12_moves n ((si r40.2 193 (r25.2.1 171 44).toNatClampNeg r40.1).1 193 ((si r40.2 193 (r25.2.1 171 44).toNatClampNeg r40.1).1 171 44).toNatClampNeg) (si r40.2 193 (r25.2.1 171 44).toNatClampNeg r40.1) r54 hr54) (fun o k hS => (subL_of (L1 := [(171, 171, 18), (171, 171, 19), (171, 171, 20), (171, 171, 21), (171, 171, 22), (171, 171, 23), (172, 172, 9999), (178, 178, 9999)]) (by decide +kernel) hS))
          have hF := hF.si (o := 171) (k := 44) (v := ((r54.2.1 171 44) + (1 : Int32))) (by unfold S_X12_goesOn; exact inL_mk 171 171 44 (by decide) (by omega) (by omega) (by omega))
          obtain ⟨r77, hr77, h⟩ := bnd h
          have hF := hF.tr (fr_X12_seatNow n (si r54.2 171 44 ((r54.2.1 171 44) + (1 : Int32))) r77 hr77) (fun o k hS => (subL_of (L1 := [(171, 171, 31), (178, 178, 9999), (183, 183, 9999)]) (by decide +kernel) hS))
          obtain ⟨hi80, h⟩ := gd_some h
          have hjhi80 := vin_lt hi80 rfl
          have hF := hF.si (o := 194) (k := ((si r54.2 171 44 ((r54.2.1 171 44) + (1 : Int32))).1 171 44).toNatClampNeg) (v := r77.1) (by unfold S_X12_goesOn; exact inL_mk 194 194 9999 (by decide) (by omega) (by omega) (by omega))
          exact B83 n (0 : Int32) (si r77.2 194 ((si r54.2 171 44 ((r54.2.1 171 44) + (1 : Int32))).1 171 44).toNatClampNeg r77.1) hF h
  have hF := hF.si (o := 171) (k := 44) (v := (0 : Int32)) (by unfold S_X12_goesOn; exact inL_mk 171 171 44 (by decide) (by omega) (by omega) (by omega))
  obtain ⟨r11, hr11, h⟩ := bnd h
  have hF := hF.tr (fr_X12_seatNow n (si μ 171 44 (0 : Int32)) r11 hr11) (fun o k hS => (subL_of (L1 := [(171, 171, 31), (178, 178, 9999), (183, 183, 9999)]) (by decide +kernel) hS))
  have hF := hF.si (o := 194) (k := 0) (v := r11.1) (by unfold S_X12_goesOn; exact inL_mk 194 194 9999 (by decide) (by omega) (by omega) (by omega))
  exact B15 n (si r11.2 194 0 r11.1) hF h
set_option maxRecDepth 100000 in
set_option maxHeartbeats 4000000 in
theorem fr_X12_playsOf_k (n : Nat) : ∀ (kr : Nat) (v1 : Int32) (μ : Mu) (r : Int32 × Mu) (h : lpF (fun _ _ => none) (X12_playsOf_body n) kr v1 μ = some r), Fr (S_X12_playsOf v1) μ r.2 := by
  intro kr
  induction kr with
  | zero =>
    intro v1 μ r h
    cases h
  | succ kr ihself =>
    rw [lpF_s]
    generalize lpF (fun _ _ => none) (X12_playsOf_body n) kr = kself at ihself ⊢
    intro v1 μ r h
    rw [X12_playsOf_body] at h
    have hF : Fr (S_X12_playsOf v1) μ μ := Fr.rf
    obtain ⟨μ0, hμ0⟩ : ∃ z, z = μ := ⟨_, rfl⟩
    rw [← hμ0]
    have hF : Fr (S_X12_playsOf v1) μ0 μ := by rw [hμ0]; exact hF
    have B22 : ∀ (k : Nat), ∀ (v2 : Int32) (v3 : Int32) (μ : Mu), Fr (S_X12_playsOf v1) μ0 μ → lpF (fun _ _ _ => none) (X12_playsOf_22b n kself v1) k v2 v3 μ = some r → Fr (S_X12_playsOf v1) μ0 r.2 := by
      intro k
      induction k with
      | zero =>
        intro v2 v3 μ hF h
        cases h
      | succ k ih22 =>
        rw [lpF_s]
        generalize lpF (fun _ _ _ => none) (X12_playsOf_22b n kself v1) k = k22 at ih22 ⊢
        intro v2 v3 μ hF h
        have B69 : ∀ (v2 : Int32) (v3 : Int32) (μ : Mu), Fr (S_X12_playsOf v1) μ0 μ → X12_playsOf_69 n kself v1 k22 v2 v3 μ = some r → Fr (S_X12_playsOf v1) μ0 r.2 := by
          intro v2 v3 μ hF h
          rw [X12_playsOf_69] at h
          exact ih22 v2 (v3 + (1 : Int32)) μ hF h
        rw [X12_playsOf_22b] at h
        obtain ⟨r24, hr24, h⟩ := bnd h
        have hF := hF.tr (fr_X12_pitMany n μ r24 hr24) (fun o k hS => (subL_of (L1 := []) (by decide +kernel) hS))
        split at h
        · skip
          rw [← Option.some.inj h]; exact hF
        · skip
          obtain ⟨r32, hr32, h⟩ := bnd h
          have hF := hF.tr (fr_X12_whyNot n v3 r24.2 r32 hr32) (fun o k hS => (subL_of (L1 := [(171, 171, 18), (171, 171, 19), (171, 171, 20), (171, 171, 21), (171, 171, 22), (171, 171, 23), (178, 178, 9999)]) (by decide +kernel) hS))
          split at h
          · skip
            obtain ⟨r43, hr43, h⟩ := bnd h
            have hF := hF.tr (fr_X12_moves n v3 r32.2 r43 hr43) (fun o k hS => (subL_of (L1 := [(171, 171, 18), (171, 171, 19), (171, 171, 20), (171, 171, 21), (171, 171, 22), (171, 171, 23), (172, 172, 9999), (178, 178, 9999)]) (by decide +kernel) hS))
            obtain ⟨r52, hr52, h⟩ := bnd h
            have hF := hF.tr (ihself (v1 - (1 : Int32)) r43.2 r52 hr52) (fun o k hS => hS)
            obtain ⟨r66, hr66, h⟩ := bnd h
            have hF := hF.tr (fr_X12_gets n 195 v1 172 r52.2 r66 hr66) (fun o k hS => by
      unfold S_X12_gets at hS
      rcases hS with hS | hS
      · exact (subL_of (by decide +kernel) hS)
      · exact inL_mk 172 172 9999 (by decide) (by omega) (by omega) (by omega))
            exact B69 (v2 + r52.1) v3 r66.2 hF h
          · skip
            exact B69 v2 v3 r32.2 hF h
    split at h
    rotate_left
    · skip
      obtain ⟨r17, hr17, h⟩ := bnd h
      have hF := hF.tr (fr_X12_puts n 195 v1 172 μ r17 hr17) (fun o k hS => by
    unfold S_X12_puts at hS
    rcases hS with hS | hS
    · exact (subL_of (by decide +kernel) hS)
    · exact inL_mk 195 195 9999 (by decide) (by omega) (by omega) (by omega))
      exact B22 n (0 : Int32) (0 : Int32) r17.2 hF h
    · skip
      rw [← Option.some.inj h]; exact hF
theorem fr_X12_playsOf (n : Nat) (v1 : Int32) (μ : Mu) (r : Int32 × Mu) (h : X12_playsOf n v1 μ = some r) : Fr (S_X12_playsOf v1) μ r.2 := fr_X12_playsOf_k n 8 v1 μ r h
set_option maxRecDepth 100000 in
set_option maxHeartbeats 4000000 in
theorem fr_X12_plays (n : Nat) (v1 : Int32) (μ : Mu) (r : Int32 × Mu) (h : X12_plays n v1 μ = some r) : Fr (S_X12_plays v1) μ r.2 := by
  rw [X12_plays] at h
  have hF : Fr (S_X12_plays v1) μ μ := Fr.rf
  obtain ⟨μ0, hμ0⟩ : ∃ z, z = μ := ⟨_, rfl⟩
  rw [← hμ0]
  have hF : Fr (S_X12_plays v1) μ0 μ := by rw [hμ0]; exact hF
  have B37 : ∀ (s0 : Int32) (μ : Mu), Fr (S_X12_plays v1) μ0 μ → X12_plays_37 n v1 s0 μ = some r → Fr (S_X12_plays v1) μ0 r.2 := by
    intro s0 μ hF h
    rw [X12_plays_37] at h
    rw [← Option.some.inj h]; exact hF
  have B18 : ∀ (s1 : Int32) (μ : Mu), Fr (S_X12_plays v1) μ0 μ → X12_plays_18 n v1 s1 μ = some r → Fr (S_X12_plays v1) μ0 r.2 := by
    intro s1 μ hF h
    rw [X12_plays_18] at h
    have hF := hF.si (o := 171) (k := 5) (v := s1) (by unfold S_X12_plays; exact inL_mk 171 171 5 (by decide) (by omega) (by omega) (by omega))
    split at h
    · skip
      obtain ⟨r34, hr34, h⟩ := bnd h
      have hF := hF.tr (fr_X12_playsOf n v1 (si μ 171 5 s1) r34 hr34) (fun o k hS => (subL_of (L1 := [(171, 171, 18), (171, 171, 19), (171, 171, 20), (171, 171, 21), (171, 171, 22), (171, 171, 23), (172, 172, 9999), (178, 178, 9999), (195, 195, 9999)]) (by decide +kernel) hS))
      exact B37 r34.1 r34.2 hF h
    · skip
      exact B37 (0 : Int32) (si μ 171 5 s1) hF h
  obtain ⟨r7, hr7, h⟩ := bnd h
  have hF := hF.tr (fr_X12_within n (v1.toInt64) (0 : Int64) (5 : Int64) μ r7 hr7) (fun o k hS => (subL_of (L1 := []) (by decide +kernel) hS))
  split at h
  · skip
    exact B18 (1 : Int32) r7.2 hF h
  · skip
    exact B18 (0 : Int32) r7.2 hF h
set_option maxRecDepth 100000 in
set_option maxHeartbeats 4000000 in
theorem fr_X12_reaches_k (n : Nat) : ∀ (kr : Nat) (v1 : Int32) (μ : Mu) (r : Unit × Mu) (h : lpF (fun _ _ => none) (X12_reaches_body n) kr v1 μ = some r), Fr (S_X12_reaches v1) μ r.2 := by
  intro kr
  induction kr with
  | zero =>
    intro v1 μ r h
    cases h
  | succ kr ihself =>
    rw [lpF_s]
    generalize lpF (fun _ _ => none) (X12_reaches_body n) kr = kself at ihself ⊢
    intro v1 μ r h
    rw [X12_reaches_body] at h
    have hF : Fr (S_X12_reaches v1) μ μ := Fr.rf
    obtain ⟨μ0, hμ0⟩ : ∃ z, z = μ := ⟨_, rfl⟩
    rw [← hμ0]
    have hF : Fr (S_X12_reaches v1) μ0 μ := by rw [hμ0]; exact hF
    have B6 : ∀ (k : Nat), ∀ (v2 : Int32) (μ : Mu), Fr (S_X12_reaches v1) μ0 μ → lpF (fun _ _ => none) (X12_reaches_6b n kself v1) k v2 μ = some r → Fr (S_X12_reaches v1) μ0 r.2 := by
      intro k
      induction k with
      | zero =>
        intro v2 μ hF h
        cases h
      | succ k ih6 =>
        rw [lpF_s]
        generalize lpF (fun _ _ => none) (X12_reaches_6b n kself v1) k = k6 at ih6 ⊢
        intro v2 μ hF h
        rw [X12_reaches_6b] at h
        split at h
        · skip
          obtain ⟨r41, hr41, h⟩ := bnd h
          have hF := hF.tr (fr_X12_puts n 196 (μ.1 171 47) 172 μ r41 hr41) (fun o k hS => by
    unfold S_X12_puts at hS
    rcases hS with hS | hS
    · exact (subL_of (by decide +kernel) hS)
    · exact inL_mk 196 196 9999 (by decide) (by omega) (by omega) (by omega))
          have hF := hF.si (o := 171) (k := 47) (v := ((r41.2.1 171 47) + (1 : Int32))) (by unfold S_X12_reaches; exact inL_mk 171 171 47 (by decide) (by omega) (by omega) (by omega))
          rw [← Option.some.inj h]; exact hF
        · skip
          obtain ⟨r16, hr16, h⟩ := bnd h
          have hF := hF.tr (fr_X12_isBoard n v2 μ r16 hr16) (fun o k hS => (subL_of (L1 := []) (by decide +kernel) hS))
          split at h
          · skip
            exact ih6 (v2 + (1 : Int32)) r16.2 hF h
          · skip
            rw [← Option.some.inj h]; exact hF
    have B69 : ∀ (k : Nat), ∀ (v2 : Int32) (μ : Mu), Fr (S_X12_reaches v1) μ0 μ → lpF (fun _ _ => none) (X12_reaches_69b n kself v1) k v2 μ = some r → Fr (S_X12_reaches v1) μ0 r.2 := by
      intro k
      induction k with
      | zero =>
        intro v2 μ hF h
        cases h
      | succ k ih69 =>
        rw [lpF_s]
        generalize lpF (fun _ _ => none) (X12_reaches_69b n kself v1) k = k69 at ih69 ⊢
        intro v2 μ hF h
        have B113 : ∀ (v2 : Int32) (μ : Mu), Fr (S_X12_reaches v1) μ0 μ → X12_reaches_113 n kself v1 k69 v2 μ = some r → Fr (S_X12_reaches v1) μ0 r.2 := by
          intro v2 μ hF h
          rw [X12_reaches_113] at h
          exact ih69 (v2 + (1 : Int32)) μ hF h
        rw [X12_reaches_69b] at h
        obtain ⟨r71, hr71, h⟩ := bnd h
        have hF := hF.tr (fr_X12_pitMany n μ r71 hr71) (fun o k hS => (subL_of (L1 := []) (by decide +kernel) hS))
        split at h
        · skip
          rw [← Option.some.inj h]; exact hF
        · skip
          obtain ⟨r79, hr79, h⟩ := bnd h
          have hF := hF.tr (fr_X12_whyNot n v2 r71.2 r79 hr79) (fun o k hS => (subL_of (L1 := [(171, 171, 18), (171, 171, 19), (171, 171, 20), (171, 171, 21), (171, 171, 22), (171, 171, 23), (178, 178, 9999)]) (by decide +kernel) hS))
          split at h
          · skip
            obtain ⟨r90, hr90, h⟩ := bnd h
            have hF := hF.tr (fr_X12_moves n v2 r79.2 r90 hr90) (fun o k hS => (subL_of (L1 := [(171, 171, 18), (171, 171, 19), (171, 171, 20), (171, 171, 21), (171, 171, 22), (171, 171, 23), (172, 172, 9999), (178, 178, 9999)]) (by decide +kernel) hS))
            obtain ⟨r98, hr98, h⟩ := bnd h
            have hF := hF.tr (ihself (v1 - (1 : Int32)) r90.2 r98 hr98) (fun o k hS => hS)
            obtain ⟨r110, hr110, h⟩ := bnd h
            have hF := hF.tr (fr_X12_gets n 195 v1 172 r98.2 r110 hr110) (fun o k hS => by
      unfold S_X12_gets at hS
      rcases hS with hS | hS
      · exact (subL_of (by decide +kernel) hS)
      · exact inL_mk 172 172 9999 (by decide) (by omega) (by omega) (by omega))
            exact B113 v2 r110.2 hF h
          · skip
            exact B113 v2 r79.2 hF h
    split at h
    rotate_left
    · skip
      obtain ⟨r64, hr64, h⟩ := bnd h
      have hF := hF.tr (fr_X12_puts n 195 v1 172 μ r64 hr64) (fun o k hS => by
    unfold S_X12_puts at hS
    rcases hS with hS | hS
    · exact (subL_of (by decide +kernel) hS)
    · exact inL_mk 195 195 9999 (by decide) (by omega) (by omega) (by omega))
      exact B69 n (0 : Int32) r64.2 hF h
    · skip
      exact B6 n (0 : Int32) μ hF h
theorem fr_X12_reaches (n : Nat) (v1 : Int32) (μ : Mu) (r : Unit × Mu) (h : X12_reaches n v1 μ = some r) : Fr (S_X12_reaches v1) μ r.2 := fr_X12_reaches_k n 8 v1 μ r h
set_option maxRecDepth 100000 in
set_option maxHeartbeats 4000000 in
theorem fr_X12_reached (n : Nat) (v1 : Int32) (μ : Mu) (r : Int32 × Mu) (h : X12_reached n v1 μ = some r) : Fr (S_X12_reached v1) μ r.2 := by
  rw [X12_reached] at h
  have hF : Fr (S_X12_reached v1) μ μ := Fr.rf
  obtain ⟨μ0, hμ0⟩ : ∃ z, z = μ := ⟨_, rfl⟩
  rw [← hμ0]
  have hF : Fr (S_X12_reached v1) μ0 μ := by rw [hμ0]; exact hF
  have B18 : ∀ (s1 : Int32) (μ : Mu), Fr (S_X12_reached v1) μ0 μ → X12_reached_18 n v1 s1 μ = some r → Fr (S_X12_reached v1) μ0 r.2 := by
    intro s1 μ hF h
    rw [X12_reached_18] at h
    have hF := hF.si (o := 171) (k := 5) (v := s1) (by unfold S_X12_reached; exact inL_mk 171 171 5 (by decide) (by omega) (by omega) (by omega))
    split at h
    · skip
      have hF := hF.si (o := 171) (k := 47) (v := (0 : Int32)) (by unfold S_X12_reached; exact inL_mk 171 171 47 (by decide) (by omega) (by omega) (by omega))
      obtain ⟨r37, hr37, h⟩ := bnd h
      have hF := hF.tr (fr_X12_reaches n v1 (si (si μ 171 5 s1) 171 47 (0 : Int32)) r37 hr37) (fun o k hS => (subL_of (L1 := [(171, 171, 18), (171, 171, 19), (171, 171, 20), (171, 171, 21), (171, 171, 22), (171, 171, 23), (171, 171, 47), (172, 172, 9999), (178, 178, 9999), (195, 195, 9999), (196, 196, 9999)]) (by decide +kernel) hS))
      rw [← Option.some.inj h]; exact hF
    · skip
      rw [← Option.some.inj h]; exact hF
  obtain ⟨r7, hr7, h⟩ := bnd h
  have hF := hF.tr (fr_X12_within n (v1.toInt64) (0 : Int64) (4 : Int64) μ r7 hr7) (fun o k hS => (subL_of (L1 := []) (by decide +kernel) hS))
  split at h
  · skip
    exact B18 (1 : Int32) r7.2 hF h
  · skip
    exact B18 (0 : Int32) r7.2 hF h
set_option maxRecDepth 100000 in
set_option maxHeartbeats 4000000 in
theorem fr_X12_ends_k (n : Nat) : ∀ (kr : Nat) (v1 : Int32) (μ : Mu) (r : Int32 × Mu) (h : lpF (fun _ _ => none) (X12_ends_body n) kr v1 μ = some r), Fr (S_X12_ends v1) μ r.2 := by
  intro kr
  induction kr with
  | zero =>
    intro v1 μ r h
    cases h
  | succ kr ihself =>
    rw [lpF_s]
    generalize lpF (fun _ _ => none) (X12_ends_body n) kr = kself at ihself ⊢
    intro v1 μ r h
    rw [X12_ends_body] at h
    have hF : Fr (S_X12_ends v1) μ μ := Fr.rf
    obtain ⟨μ0, hμ0⟩ : ∃ z, z = μ := ⟨_, rfl⟩
    rw [← hμ0]
    have hF : Fr (S_X12_ends v1) μ0 μ := by rw [hμ0]; exact hF
    have B27 : ∀ (s0 : Int32) (μ : Mu), Fr (S_X12_ends v1) μ0 μ → X12_ends_27 n kself v1 s0 μ = some r → Fr (S_X12_ends v1) μ0 r.2 := by
      intro s0 μ hF h
      rw [X12_ends_27] at h
      obtain ⟨hz27, h⟩ := bz_some h
      rw [← Option.some.inj h]; exact hF
    have B26 : ∀ (μ : Mu), Fr (S_X12_ends v1) μ0 μ → X12_ends_26 n kself v1  μ = some r → Fr (S_X12_ends v1) μ0 r.2 := by
      intro μ hF h
      rw [X12_ends_26] at h
      exact B27 (0 : Int32) μ hF h
    have B11 : ∀ (μ : Mu), Fr (S_X12_ends v1) μ0 μ → X12_ends_11 n kself v1  μ = some r → Fr (S_X12_ends v1) μ0 r.2 := by
      intro μ hF h
      rw [X12_ends_11] at h
      split at h
      rotate_left
      · skip
        exact B26 μ hF h
      · skip
        obtain ⟨r16, hr16, h⟩ := bnd h
        have hF := hF.tr (fr_X12_isOver n μ r16 hr16) (fun o k hS => (subL_of (L1 := [(171, 171, 18), (171, 171, 19), (171, 171, 20), (171, 171, 21), (171, 171, 22), (171, 171, 23), (178, 178, 9999)]) (by decide +kernel) hS))
        split at h
        · skip
          exact B26 r16.2 hF h
        · skip
          exact B27 (1 : Int32) r16.2 hF h
    have B42 : ∀ (k : Nat), ∀ (v2 : Int32) (μ : Mu), Fr (S_X12_ends v1) μ0 μ → lpF (fun _ _ => none) (X12_ends_42b n kself v1) k v2 μ = some r → Fr (S_X12_ends v1) μ0 r.2 := by
      intro k
      induction k with
      | zero =>
        intro v2 μ hF h
        cases h
      | succ k ih42 =>
        rw [lpF_s]
        generalize lpF (fun _ _ => none) (X12_ends_42b n kself v1) k = k42 at ih42 ⊢
        intro v2 μ hF h
        have B100 : ∀ (v2 : Int32) (μ : Mu), Fr (S_X12_ends v1) μ0 μ → X12_ends_100 n kself v1 k42 v2 μ = some r → Fr (S_X12_ends v1) μ0 r.2 := by
          intro v2 μ hF h
          rw [X12_ends_100] at h
          exact ih42 (v2 + (1 : Int32)) μ hF h
        rw [X12_ends_42b] at h
        obtain ⟨r44, hr44, h⟩ := bnd h
        have hF := hF.tr (fr_X12_pitMany n μ r44 hr44) (fun o k hS => (subL_of (L1 := []) (by decide +kernel) hS))
        split at h
        · skip
          rw [← Option.some.inj h]; exact hF
        · skip
          obtain ⟨r52, hr52, h⟩ := bnd h
          have hF := hF.tr (fr_X12_whyNot n v2 r44.2 r52 hr52) (fun o k hS => (subL_of (L1 := [(171, 171, 18), (171, 171, 19), (171, 171, 20), (171, 171, 21), (171, 171, 22), (171, 171, 23), (178, 178, 9999)]) (by decide +kernel) hS))
          split at h
          · skip
            obtain ⟨r63, hr63, h⟩ := bnd h
            have hF := hF.tr (fr_X12_moves n v2 r52.2 r63 hr63) (fun o k hS => (subL_of (L1 := [(171, 171, 18), (171, 171, 19), (171, 171, 20), (171, 171, 21), (171, 171, 22), (171, 171, 23), (172, 172, 9999), (178, 178, 9999)]) (by decide +kernel) hS))
            obtain ⟨r71, hr71, h⟩ := bnd h
            have hF := hF.tr (ihself (v1 - (1 : Int32)) r63.2 r71 hr71) (fun o k hS => hS)
            obtain ⟨r84, hr84, h⟩ := bnd h
            have hF := hF.tr (fr_X12_gets n 195 v1 172 r71.2 r84 hr84) (fun o k hS => by
      unfold S_X12_gets at hS
      rcases hS with hS | hS
      · exact (subL_of (by decide +kernel) hS)
      · exact inL_mk 172 172 9999 (by decide) (by omega) (by omega) (by omega))
            obtain ⟨hi93, h⟩ := gd_some h
            have hjhi93 := vin_lt hi93 rfl
            have hF := hF.si (o := 197) (k := v1.toNatClampNeg) (v := v2) (by unfold S_X12_ends; exact inL_mk 197 197 9999 (by decide) (by omega) (by omega) (by omega))
            split at h
            · skip
              exact B100 v2 (si r84.2 197 v1.toNatClampNeg v2) hF h
            · skip
              rw [← Option.some.inj h]; exact hF
          · skip
            exact B100 v2 r52.2 hF h
    split at h
    · skip
      exact B11 μ hF h
    · skip
      obtain ⟨r5, hr5, h⟩ := bnd h
      have hF := hF.tr (fr_X12_isOver n μ r5 hr5) (fun o k hS => (subL_of (L1 := [(171, 171, 18), (171, 171, 19), (171, 171, 20), (171, 171, 21), (171, 171, 22), (171, 171, 23), (178, 178, 9999)]) (by decide +kernel) hS))
      split at h
      · skip
        obtain ⟨r37, hr37, h⟩ := bnd h
        have hF := hF.tr (fr_X12_puts n 195 v1 172 r5.2 r37 hr37) (fun o k hS => by
      unfold S_X12_puts at hS
      rcases hS with hS | hS
      · exact (subL_of (by decide +kernel) hS)
      · exact inL_mk 195 195 9999 (by decide) (by omega) (by omega) (by omega))
        exact B42 n (0 : Int32) r37.2 hF h
      · skip
        exact B11 r5.2 hF h
theorem fr_X12_ends (n : Nat) (v1 : Int32) (μ : Mu) (r : Int32 × Mu) (h : X12_ends n v1 μ = some r) : Fr (S_X12_ends v1) μ r.2 := fr_X12_ends_k n 8 v1 μ r h
set_option maxRecDepth 100000 in
set_option maxHeartbeats 4000000 in
theorem fr_X12_soonest (n : Nat) (v1 : Int32) (μ : Mu) (r : Int32 × Mu) (h : X12_soonest n v1 μ = some r) : Fr (S_X12_soonest v1) μ r.2 := by
  rw [X12_soonest] at h
  have hF : Fr (S_X12_soonest v1) μ μ := Fr.rf
  obtain ⟨μ0, hμ0⟩ : ∃ z, z = μ := ⟨_, rfl⟩
  rw [← hμ0]
  have hF : Fr (S_X12_soonest v1) μ0 μ := by rw [hμ0]; exact hF
  have B55 : ∀ (s0 : Int32) (μ : Mu), Fr (S_X12_soonest v1) μ0 μ → X12_soonest_55 n v1 s0 μ = some r → Fr (S_X12_soonest v1) μ0 r.2 := by
    intro s0 μ hF h
    rw [X12_soonest_55] at h
    rw [← Option.some.inj h]; exact hF
  have B7 : ∀ (k : Nat), ∀ (v2 : Int32) (μ : Mu), Fr (S_X12_soonest v1) μ0 μ → lpF (fun _ _ => none) (X12_soonest_7b n v1) k v2 μ = some r → Fr (S_X12_soonest v1) μ0 r.2 := by
    intro k
    induction k with
    | zero =>
      intro v2 μ hF h
      cases h
    | succ k ih7 =>
      rw [lpF_s]
      generalize lpF (fun _ _ => none) (X12_soonest_7b n v1) k = k7 at ih7 ⊢
      intro v2 μ hF h
      rw [X12_soonest_7b] at h
      split at h
      · skip
        rw [← Option.some.inj h]; exact hF
      · skip
        obtain ⟨r15, hr15, h⟩ := bnd h
        have hF := hF.tr (fr_X12_ends n v2 μ r15 hr15) (fun o k hS => (subL_of (L1 := [(171, 171, 18), (171, 171, 19), (171, 171, 20), (171, 171, 21), (171, 171, 22), (171, 171, 23), (172, 172, 9999), (178, 178, 9999), (195, 195, 9999), (197, 197, 9999)]) (by decide +kernel) hS))
        split at h
        · skip
          exact ih7 (v2 + (1 : Int32)) r15.2 hF h
        · skip
          split at h
          rotate_left
          · skip
            obtain ⟨r37, hr37, h⟩ := bnd h
            have hF := hF.tr (fr_X12_within n (v1.toInt64) (0 : Int64) ((v2 - (1 : Int32)).toInt64) r15.2 r37 hr37) (fun o k hS => (subL_of (L1 := []) (by decide +kernel) hS))
            split at h
            · skip
              exact B55 ((-1) : Int32) r37.2 hF h
            · skip
              obtain ⟨hi50, h⟩ := gd_some h
              have hjhi50 := vin_lt hi50 rfl
              exact B55 (r37.2.1 197 (v2 - v1).toNatClampNeg) r37.2 hF h
          · skip
            exact B55 v2 r15.2 hF h
  have hF := hF.si (o := 171) (k := 5) (v := (0 : Int32)) (by unfold S_X12_soonest; exact inL_mk 171 171 5 (by decide) (by omega) (by omega) (by omega))
  exact B7 n (0 : Int32) (si μ 171 5 (0 : Int32)) hF h
set_option maxRecDepth 100000 in
set_option maxHeartbeats 4000000 in
theorem fr_X12_pits (n : Nat) (v1 : Int32) (μ : Mu) (r : Int32 × Mu) (h : X12_pits n v1 μ = some r) : Fr (S_X12_pits v1) μ r.2 := by
  rw [X12_pits] at h
  have hF : Fr (S_X12_pits v1) μ μ := Fr.rf
  obtain ⟨μ0, hμ0⟩ : ∃ z, z = μ := ⟨_, rfl⟩
  rw [← hμ0]
  have hF : Fr (S_X12_pits v1) μ0 μ := by rw [hμ0]; exact hF
  have B118 : ∀ (v2 : Int32) (μ : Mu), Fr (S_X12_pits v1) μ0 μ → X12_pits_118 n v1 v2 μ = some r → Fr (S_X12_pits v1) μ0 r.2 := by
    intro v2 μ hF h
    rw [X12_pits_118] at h
    rw [← Option.some.inj h]; exact hF
  have B25 : ∀ (k : Nat), ∀ (v2 : Int32) (v3 : Int32) (μ : Mu), Fr (S_X12_pits v1) μ0 μ → lpF (fun _ _ _ => none) (X12_pits_25b n v1) k v2 v3 μ = some r → Fr (S_X12_pits v1) μ0 r.2 := by
    intro k
    induction k with
    | zero =>
      intro v2 v3 μ hF h
      cases h
    | succ k ih25 =>
      rw [lpF_s]
      generalize lpF (fun _ _ _ => none) (X12_pits_25b n v1) k = k25 at ih25 ⊢
      intro v2 v3 μ hF h
      have B112 : ∀ (v2 : Int32) (v3 : Int32) (μ : Mu), Fr (S_X12_pits v1) μ0 μ → X12_pits_112 n v1 k25 v2 v3 μ = some r → Fr (S_X12_pits v1) μ0 r.2 := by
        intro v2 v3 μ hF h
        rw [X12_pits_112] at h
        exact ih25 v2 (v3 + (1 : Int32)) μ hF h
      have B110 : ∀ (v3 : Int32) (s0 : Int32) (s1 : Int32) (μ : Mu), Fr (S_X12_pits v1) μ0 μ → X12_pits_110 n v1 k25 v3 s0 s1 μ = some r → Fr (S_X12_pits v1) μ0 r.2 := by
        intro v3 s0 s1 μ hF h
        rw [X12_pits_110] at h
        exact B112 (s0 ||| s1) v3 μ hF h
      have B103 : ∀ (v3 : Int32) (s0 : Int32) (μ : Mu), Fr (S_X12_pits v1) μ0 μ → X12_pits_103 n v1 k25 v3 s0 μ = some r → Fr (S_X12_pits v1) μ0 r.2 := by
        intro v3 s0 μ hF h
        rw [X12_pits_103] at h
        exact B110 v3 s0 ((1 : Int32) <<< (v3 &&& 31)) μ hF h
      have B109 : ∀ (v3 : Int32) (s0 : Int32) (μ : Mu), Fr (S_X12_pits v1) μ0 μ → X12_pits_109 n v1 k25 v3 s0 μ = some r → Fr (S_X12_pits v1) μ0 r.2 := by
        intro v3 s0 μ hF h
        rw [X12_pits_109] at h
        exact B110 v3 s0 (0 : Int32) μ hF h
      rw [X12_pits_25b] at h
      obtain ⟨r27, hr27, h⟩ := bnd h
      have hF := hF.tr (fr_X12_pitMany n μ r27 hr27) (fun o k hS => (subL_of (L1 := []) (by decide +kernel) hS))
      split at h
      · skip
        exact B118 v2 r27.2 hF h
      · skip
        split at h
        rotate_left
        · skip
          exact B118 v2 r27.2 hF h
        · skip
          obtain ⟨r42, hr42, h⟩ := bnd h
          have hF := hF.tr (fr_X12_whyNot n v3 r27.2 r42 hr42) (fun o k hS => (subL_of (L1 := [(171, 171, 18), (171, 171, 19), (171, 171, 20), (171, 171, 21), (171, 171, 22), (171, 171, 23), (178, 178, 9999)]) (by decide +kernel) hS))
          split at h
          · skip
            obtain ⟨r53, hr53, h⟩ := bnd h
            have hF := hF.tr (fr_X12_triesFrom n v3 r42.2 r53 hr53) (fun o k hS => (subL_of (L1 := [(171, 171, 18), (171, 171, 19), (171, 171, 20), (171, 171, 21), (171, 171, 22), (171, 171, 23), (178, 178, 9999)]) (by decide +kernel) hS))
            split at h
            rotate_left
            · skip
              split at h
              rotate_left
              · skip
                obtain ⟨r97, hr97, h⟩ := bnd h
                have hF := hF.tr (fr_X12_sum n ((1 : Int32) - (r53.2.1 172 2)) r53.2 r97 hr97) (fun o k hS => (subL_of (L1 := []) (by decide +kernel) hS))
                split at h
                rotate_left
                · skip
                  exact B109 v3 v2 r97.2 hF h
                · skip
                  exact B103 v3 v2 r97.2 hF h
              · skip
                split at h
                · skip
                  exact B109 v3 v2 r53.2 hF h
                · skip
                  exact B103 v3 v2 r53.2 hF h
            · skip
              split at h
              rotate_left
              · skip
                exact B109 v3 v2 r53.2 hF h
              · skip
                exact B103 v3 v2 r53.2 hF h
          · skip
            exact B112 v2 v3 r42.2 hF h
  have B18 : ∀ (s1 : Int32) (μ : Mu), Fr (S_X12_pits v1) μ0 μ → X12_pits_18 n v1 s1 μ = some r → Fr (S_X12_pits v1) μ0 r.2 := by
    intro s1 μ hF h
    rw [X12_pits_18] at h
    have hF := hF.si (o := 171) (k := 5) (v := s1) (by unfold S_X12_pits; exact inL_mk 171 171 5 (by decide) (by omega) (by omega) (by omega))
    exact B25 n (0 : Int32) (0 : Int32) (si μ 171 5 s1) hF h
  obtain ⟨r7, hr7, h⟩ := bnd h
  have hF := hF.tr (fr_X12_within n (v1.toInt64) (0 : Int64) (2 : Int64) μ r7 hr7) (fun o k hS => (subL_of (L1 := []) (by decide +kernel) hS))
  split at h
  · skip
    exact B18 (1 : Int32) r7.2 hF h
  · skip
    exact B18 (0 : Int32) r7.2 hF h
set_option maxRecDepth 100000 in
set_option maxHeartbeats 4000000 in
theorem fr_X12_only (n : Nat) (μ : Mu) (r : Int32 × Mu) (h : X12_only n  μ = some r) : Fr S_X12_only μ r.2 := by
  rw [X12_only] at h
  have hF : Fr S_X12_only μ μ := Fr.rf
  obtain ⟨μ0, hμ0⟩ : ∃ z, z = μ := ⟨_, rfl⟩
  rw [← hμ0]
  have hF : Fr S_X12_only μ0 μ := by rw [hμ0]; exact hF
  have B4 : ∀ (k : Nat), ∀ (v1 : Int32) (v2 : Int32) (μ : Mu), Fr S_X12_only μ0 μ → lpF (fun _ _ _ => none) (X12_only_4b n) k v1 v2 μ = some r → Fr S_X12_only μ0 r.2 := by
    intro k
    induction k with
    | zero =>
      intro v1 v2 μ hF h
      cases h
    | succ k ih4 =>
      rw [lpF_s]
      generalize lpF (fun _ _ _ => none) (X12_only_4b n) k = k4 at ih4 ⊢
      intro v1 v2 μ hF h
      have B32 : ∀ (v1 : Int32) (v2 : Int32) (μ : Mu), Fr S_X12_only μ0 μ → X12_only_32 n k4 v1 v2 μ = some r → Fr S_X12_only μ0 r.2 := by
        intro v1 v2 μ hF h
        rw [X12_only_32] at h
        exact ih4 v1 (v2 + (1 : Int32)) μ hF h
      rw [X12_only_4b] at h
      obtain ⟨r6, hr6, h⟩ := bnd h
      have hF := hF.tr (fr_X12_pitMany n μ r6 hr6) (fun o k hS => (subL_of (L1 := []) (by decide +kernel) hS))
      split at h
      · skip
        rw [← Option.some.inj h]; exact hF
      · skip
        obtain ⟨r14, hr14, h⟩ := bnd h
        have hF := hF.tr (fr_X12_whyNot n v2 r6.2 r14 hr14) (fun o k hS => (subL_of (L1 := [(171, 171, 18), (171, 171, 19), (171, 171, 20), (171, 171, 21), (171, 171, 22), (171, 171, 23), (178, 178, 9999)]) (by decide +kernel) hS))
        split at h
        · skip
          split at h
          · skip
            exact B32 v2 v2 r14.2 hF h
          · skip
            rw [← Option.some.inj h]; exact hF
        · skip
          exact B32 v1 v2 r14.2 hF h
  exact B4 n ((-1) : Int32) (0 : Int32) μ hF h
set_option maxRecDepth 100000 in
set_option maxHeartbeats 4000000 in
theorem fr_X12_drawn (n : Nat) (μ : Mu) (r : Int32 × Mu) (h : X12_drawn n  μ = some r) : Fr S_X12_drawn μ r.2 := by
  rw [X12_drawn] at h
  have hF : Fr S_X12_drawn μ μ := Fr.rf
  obtain ⟨μ0, hμ0⟩ : ∃ z, z = μ := ⟨_, rfl⟩
  rw [← hμ0]
  have hF : Fr S_X12_drawn μ0 μ := by rw [hμ0]; exact hF
  have B42 : ∀ (k : Nat), ∀ (v2 : Int32) (v3 : Int32) (μ : Mu), Fr S_X12_drawn μ0 μ → lpF (fun _ _ _ => none) (X12_drawn_42b n) k v2 v3 μ = some r → Fr S_X12_drawn μ0 r.2 := by
    intro k
    induction k with
    | zero =>
      intro v2 v3 μ hF h
      cases h
    | succ k ih42 =>
      rw [lpF_s]
      generalize lpF (fun _ _ _ => none) (X12_drawn_42b n) k = k42 at ih42 ⊢
      intro v2 v3 μ hF h
      have B68 : ∀ (v3 : Int32) (s0 : Int32) (s1 : Int32) (μ : Mu), Fr S_X12_drawn μ0 μ → X12_drawn_68 n k42 v3 s0 s1 μ = some r → Fr S_X12_drawn μ0 r.2 := by
        intro v3 s0 s1 μ hF h
        rw [X12_drawn_68] at h
        exact ih42 (s0 - s1) (v3 + (1 : Int32)) μ hF h
      have B54 : ∀ (v2 : Int32) (v3 : Int32) (μ : Mu), Fr S_X12_drawn μ0 μ → X12_drawn_54 n k42 v2 v3 μ = some r → Fr S_X12_drawn μ0 r.2 := by
        intro v2 v3 μ hF h
        rw [X12_drawn_54] at h
        obtain ⟨r57, hr57, h⟩ := bnd h
        have hF := hF.tr (fr_X12_whyNot n v3 μ r57 hr57) (fun o k hS => (subL_of (L1 := [(171, 171, 18), (171, 171, 19), (171, 171, 20), (171, 171, 21), (171, 171, 22), (171, 171, 23), (178, 178, 9999)]) (by decide +kernel) hS))
        split at h
        rotate_left
        · skip
          exact B68 v3 v2 (0 : Int32) r57.2 hF h
        · skip
          exact B68 v3 v2 (1 : Int32) r57.2 hF h
      rw [X12_drawn_42b] at h
      obtain ⟨r44, hr44, h⟩ := bnd h
      have hF := hF.tr (fr_X12_whyNot n v3 μ r44 hr44) (fun o k hS => (subL_of (L1 := [(171, 171, 18), (171, 171, 19), (171, 171, 20), (171, 171, 21), (171, 171, 22), (171, 171, 23), (178, 178, 9999)]) (by decide +kernel) hS))
      split at h
      rotate_left
      · skip
        exact B54 v2 v3 r44.2 hF h
      · skip
        split at h
        · skip
          rw [← Option.some.inj h]; exact hF
        · skip
          exact B54 v2 v3 r44.2 hF h
  have B4 : ∀ (k : Nat), ∀ (v1 : Int32) (v2 : Int32) (μ : Mu), Fr S_X12_drawn μ0 μ → lpF (fun _ _ _ => none) (X12_drawn_4b n) k v1 v2 μ = some r → Fr S_X12_drawn μ0 r.2 := by
    intro k
    induction k with
    | zero =>
      intro v1 v2 μ hF h
      cases h
    | succ k ih4 =>
      rw [lpF_s]
      generalize lpF (fun _ _ _ => none) (X12_drawn_4b n) k = k4 at ih4 ⊢
      intro v1 v2 μ hF h
      have B26 : ∀ (v2 : Int32) (s0 : Int32) (s1 : Int32) (μ : Mu), Fr S_X12_drawn μ0 μ → X12_drawn_26 n k4 v2 s0 s1 μ = some r → Fr S_X12_drawn μ0 r.2 := by
        intro v2 s0 s1 μ hF h
        rw [X12_drawn_26] at h
        exact ih4 (s0 + s1) (v2 + (1 : Int32)) μ hF h
      rw [X12_drawn_4b] at h
      obtain ⟨r6, hr6, h⟩ := bnd h
      have hF := hF.tr (fr_X12_pitMany n μ r6 hr6) (fun o k hS => (subL_of (L1 := []) (by decide +kernel) hS))
      split at h
      · skip
        obtain ⟨r36, hr36, h⟩ := bnd h
        have hF := hF.tr (fr_X12_draw n v1 r6.2 r36 hr36) (fun o k hS => (subL_of (L1 := [(171, 171, 49)]) (by decide +kernel) hS))
        exact B42 n r36.1 (0 : Int32) r36.2 hF h
      · skip
        obtain ⟨r15, hr15, h⟩ := bnd h
        have hF := hF.tr (fr_X12_whyNot n v2 r6.2 r15 hr15) (fun o k hS => (subL_of (L1 := [(171, 171, 18), (171, 171, 19), (171, 171, 20), (171, 171, 21), (171, 171, 22), (171, 171, 23), (178, 178, 9999)]) (by decide +kernel) hS))
        split at h
        rotate_left
        · skip
          exact B26 v2 v1 (0 : Int32) r15.2 hF h
        · skip
          exact B26 v2 v1 (1 : Int32) r15.2 hF h
  exact B4 n (0 : Int32) (0 : Int32) μ hF h
set_option maxRecDepth 100000 in
set_option maxHeartbeats 4000000 in
theorem fr_X12_playOf (n : Nat) (v1 : Int32) (v2 : Int32) (v3 : Int32) (μ : Mu) (r : Int32 × Mu) (h : X12_playOf n v1 v2 v3 μ = some r) : Fr (S_X12_playOf v1 v2 v3) μ r.2 := by
  rw [X12_playOf] at h
  have hF : Fr (S_X12_playOf v1 v2 v3) μ μ := Fr.rf
  obtain ⟨μ0, hμ0⟩ : ∃ z, z = μ := ⟨_, rfl⟩
  rw [← hμ0]
  have hF : Fr (S_X12_playOf v1 v2 v3) μ0 μ := by rw [hμ0]; exact hF
  have B134 : ∀ (s0 : Int32) (μ : Mu), Fr (S_X12_playOf v1 v2 v3) μ0 μ → X12_playOf_134 n v1 v2 v3 s0 μ = some r → Fr (S_X12_playOf v1 v2 v3) μ0 r.2 := by
    intro s0 μ hF h
    rw [X12_playOf_134] at h
    rw [← Option.some.inj h]; exact hF
  have B98 : ∀ (v4 : Int32) (s0 : Int32) (μ : Mu), Fr (S_X12_playOf v1 v2 v3) μ0 μ → X12_playOf_98 n v1 v2 v3 v4 s0 μ = some r → Fr (S_X12_playOf v1 v2 v3) μ0 r.2 := by
    intro v4 s0 μ hF h
    rw [X12_playOf_98] at h
    obtain ⟨r108, hr108, h⟩ := bnd h
    have hF := hF.tr (fr_X12_copies n 175 172 μ r108 hr108) (fun o k hS => by
  unfold S_X12_copies at hS
  rcases hS with hS | hS
  · exact (subL_of (by decide +kernel) hS)
  · exact inL_mk 172 172 9999 (by decide) (by omega) (by omega) (by omega))
    split at h
    rotate_left
    · skip
      split at h
      rotate_left
      · skip
        exact B134 s0 r108.2 hF h
      · skip
        exact B134 (r108.2.1 171 50) r108.2 hF h
    · skip
      exact B134 v4 r108.2 hF h
  have B80 : ∀ (μ : Mu), Fr (S_X12_playOf v1 v2 v3) μ0 μ → X12_playOf_80 n v1 v2 v3  μ = some r → Fr (S_X12_playOf v1 v2 v3) μ0 r.2 := by
    intro μ hF h
    rw [X12_playOf_80] at h
    obtain ⟨r81, hr81, h⟩ := bnd h
    have hF := hF.tr (fr_X12_scoreNow n μ r81 hr81) (fun o k hS => (subL_of (L1 := [(171, 171, 18), (171, 171, 19), (171, 171, 20), (171, 171, 21), (171, 171, 22), (171, 171, 23), (178, 178, 9999)]) (by decide +kernel) hS))
    obtain ⟨r87, hr87, h⟩ := bnd h
    have hF := hF.tr (fr_X12_isOver n r81.2 r87 hr87) (fun o k hS => (subL_of (L1 := [(171, 171, 18), (171, 171, 19), (171, 171, 20), (171, 171, 21), (171, 171, 22), (171, 171, 23), (178, 178, 9999)]) (by decide +kernel) hS))
    split at h
    · skip
      exact B98 r81.1 (0 : Int32) r87.2 hF h
    · skip
      exact B98 r81.1 (1 : Int32) r87.2 hF h
  have B21 : ∀ (k : Nat), ∀ (μ : Mu), Fr (S_X12_playOf v1 v2 v3) μ0 μ → lpF (fun _ => none) (X12_playOf_21b n v1 v2 v3) k  μ = some r → Fr (S_X12_playOf v1 v2 v3) μ0 r.2 := by
    intro k
    induction k with
    | zero =>
      intro μ hF h
      cases h
    | succ k ih21 =>
      rw [lpF_s]
      generalize lpF (fun _ => none) (X12_playOf_21b n v1 v2 v3) k = k21 at ih21 ⊢
      intro μ hF h
      have B63 : ∀ (s1 : Int32) (μ : Mu), Fr (S_X12_playOf v1 v2 v3) μ0 μ → X12_playOf_63 n v1 v2 v3 k21 s1 μ = some r → Fr (S_X12_playOf v1 v2 v3) μ0 r.2 := by
        intro s1 μ hF h
        rw [X12_playOf_63] at h
        obtain ⟨r63, hr63, h⟩ := bnd h
        have hF := hF.tr (fr_X12_moves n s1 μ r63 hr63) (fun o k hS => (subL_of (L1 := [(171, 171, 18), (171, 171, 19), (171, 171, 20), (171, 171, 21), (171, 171, 22), (171, 171, 23), (172, 172, 9999), (178, 178, 9999)]) (by decide +kernel) hS))
        have hF := hF.si (o := 171) (k := 50) (v := ((r63.2.1 171 50) + (1 : Int32))) (by unfold S_X12_playOf; exact inL_mk 171 171 50 (by decide) (by omega) (by omega) (by omega))
        exact ih21 (si r63.2 171 50 ((r63.2.1 171 50) + (1 : Int32))) hF h
      have B59 : ∀ (μ : Mu), Fr (S_X12_playOf v1 v2 v3) μ0 μ → X12_playOf_59 n v1 v2 v3 k21  μ = some r → Fr (S_X12_playOf v1 v2 v3) μ0 r.2 := by
        intro μ hF h
        rw [X12_playOf_59] at h
        obtain ⟨r60, hr60, h⟩ := bnd h
        have hF := hF.tr (fr_X12_drawn n μ r60 hr60) (fun o k hS => (subL_of (L1 := [(171, 171, 18), (171, 171, 19), (171, 171, 20), (171, 171, 21), (171, 171, 22), (171, 171, 23), (171, 171, 49), (178, 178, 9999)]) (by decide +kernel) hS))
        exact B63 r60.1 r60.2 hF h
      rw [X12_playOf_21b] at h
      split at h
      · skip
        exact B80 μ hF h
      · skip
        obtain ⟨r31, hr31, h⟩ := bnd h
        have hF := hF.tr (fr_X12_isOver n μ r31 hr31) (fun o k hS => (subL_of (L1 := [(171, 171, 18), (171, 171, 19), (171, 171, 20), (171, 171, 21), (171, 171, 22), (171, 171, 23), (178, 178, 9999)]) (by decide +kernel) hS))
        split at h
        rotate_left
        · skip
          exact B80 r31.2 hF h
        · skip
          split at h
          · skip
            exact B59 r31.2 hF h
          · skip
            split at h
            rotate_left
            · skip
              exact B59 r31.2 hF h
            · skip
              obtain ⟨r53, hr53, h⟩ := bnd h
              have hF := hF.tr (fr_X12_bestNow n r31.2 r53 hr53) (fun o k hS => (subL_of (L1 := [(171, 171, 31), (178, 178, 9999), (183, 183, 9999)]) (by decide +kernel) hS))
              exact B63 r53.1 r53.2 hF h
  obtain ⟨r8, hr8, h⟩ := bnd h
  have hF := hF.tr (fr_X12_copies n 172 175 μ r8 hr8) (fun o k hS => by
  unfold S_X12_copies at hS
  rcases hS with hS | hS
  · exact (subL_of (by decide +kernel) hS)
  · exact inL_mk 175 175 9999 (by decide) (by omega) (by omega) (by omega))
  have hF := hF.si (o := 171) (k := 49) (v := v1) (by unfold S_X12_playOf; exact inL_mk 171 171 49 (by decide) (by omega) (by omega) (by omega))
  have hF := hF.si (o := 171) (k := 50) (v := (0 : Int32)) (by unfold S_X12_playOf; exact inL_mk 171 171 50 (by decide) (by omega) (by omega) (by omega))
  exact B21 n (si (si r8.2 171 49 v1) 171 50 (0 : Int32)) hF h
