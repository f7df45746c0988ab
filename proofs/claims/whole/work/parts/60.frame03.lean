set_option maxRecDepth 100000 in
set_option maxHeartbeats 4000000 in
theorem fr_X12_play (n : Nat) (v1 : Int32) (v2 : Int32) (μ : Mu) (r : Int32 × Mu) (h : X12_play n v1 v2 μ = some r) : Fr (S_X12_play v1 v2) μ r.2 := by
  rw [X12_play] at h
  have hF : Fr (S_X12_play v1 v2) μ μ := Fr.rf
  obtain ⟨μ0, hμ0⟩ : ∃ z, z = μ := ⟨_, rfl⟩
  rw [← hμ0]
  have hF : Fr (S_X12_play v1 v2) μ0 μ := by rw [hμ0]; exact hF
  have B39 : ∀ (s0 : Int32) (μ : Mu), Fr (S_X12_play v1 v2) μ0 μ → X12_play_39 n v1 v2 s0 μ = some r → Fr (S_X12_play v1 v2) μ0 r.2 := by
    intro s0 μ hF h
    rw [X12_play_39] at h
    rw [← Option.some.inj h]; exact hF
  have B18 : ∀ (s1 : Int32) (μ : Mu), Fr (S_X12_play v1 v2) μ0 μ → X12_play_18 n v1 v2 s1 μ = some r → Fr (S_X12_play v1 v2) μ0 r.2 := by
    intro s1 μ hF h
    rw [X12_play_18] at h
    have hF := hF.si (o := 171) (k := 5) (v := s1) (by unfold S_X12_play; exact inL_mk 171 171 5 (by decide) (by omega) (by omega) (by omega))
    split at h
    · skip
      obtain ⟨r36, hr36, h⟩ := bnd h
      have hF := hF.tr (fr_X12_playOf n v1 (0 : Int32) v2 (si μ 171 5 s1) r36 hr36) (fun o k hS => (subL_of (L1 := [(171, 171, 18), (171, 171, 19), (171, 171, 20), (171, 171, 21), (171, 171, 22), (171, 171, 23), (171, 171, 31), (171, 171, 49), (171, 171, 50), (172, 172, 9999), (175, 175, 9999), (178, 178, 9999), (183, 183, 9999)]) (by decide +kernel) hS))
      exact B39 r36.1 r36.2 hF h
    · skip
      exact B39 (0 : Int32) (si μ 171 5 s1) hF h
  obtain ⟨r7, hr7, h⟩ := bnd h
  have hF := hF.tr (fr_X12_within n (v2.toInt64) (0 : Int64) (2 : Int64) μ r7 hr7) (fun o k hS => (subL_of (L1 := []) (by decide +kernel) hS))
  split at h
  · skip
    exact B18 (1 : Int32) r7.2 hF h
  · skip
    exact B18 (0 : Int32) r7.2 hF h
set_option maxRecDepth 100000 in
set_option maxHeartbeats 4000000 in
theorem fr_X0_countRows_k (n : Nat) : ∀ (kr : Nat) (v1 : Int32) (v2 : Int32) (μ : Mu) (r : Int32 × Mu) (h : lpF (fun _ _ _ => none) (X0_countRows_body n) kr v1 v2 μ = some r), Fr (S_X0_countRows v1 v2) μ r.2 := by
  intro kr
  induction kr with
  | zero =>
    intro v1 v2 μ r h
    cases h
  | succ kr ihself =>
    rw [lpF_s]
    generalize lpF (fun _ _ _ => none) (X0_countRows_body n) kr = kself at ihself ⊢
    intro v1 v2 μ r h
    rw [X0_countRows_body] at h
    have hF : Fr (S_X0_countRows v1 v2) μ μ := Fr.rf
    obtain ⟨μ0, hμ0⟩ : ∃ z, z = μ := ⟨_, rfl⟩
    rw [← hμ0]
    have hF : Fr (S_X0_countRows v1 v2) μ0 μ := by rw [hμ0]; exact hF
    have B11 : ∀ (μ : Mu), Fr (S_X0_countRows v1 v2) μ0 μ → X0_countRows_11 n kself v1 v2  μ = some r → Fr (S_X0_countRows v1 v2) μ0 r.2 := by
      intro μ hF h
      rw [X0_countRows_11] at h
      rw [← Option.some.inj h]; exact hF
    have B45 : ∀ (k : Nat), ∀ (v3 : Int32) (v4 : Int32) (v5 : Int32) (μ : Mu), Fr (S_X0_countRows v1 v2) μ0 μ → lpF (fun _ _ _ _ => none) (X0_countRows_45b n kself v1 v2) k v3 v4 v5 μ = some r → Fr (S_X0_countRows v1 v2) μ0 r.2 := by
      intro k
      induction k with
      | zero =>
        intro v3 v4 v5 μ hF h
        cases h
      | succ k ih45 =>
        rw [lpF_s]
        generalize lpF (fun _ _ _ _ => none) (X0_countRows_45b n kself v1 v2) k = k45 at ih45 ⊢
        intro v3 v4 v5 μ hF h
        have B81 : ∀ (v3 : Int32) (v4 : Int32) (v5 : Int32) (μ : Mu), Fr (S_X0_countRows v1 v2) μ0 μ → X0_countRows_81 n kself v1 v2 k45 v3 v4 v5 μ = some r → Fr (S_X0_countRows v1 v2) μ0 r.2 := by
          intro v3 v4 v5 μ hF h
          rw [X0_countRows_81] at h
          exact ih45 v3 v4 (v5 + (1 : Int32)) μ hF h
        rw [X0_countRows_45b] at h
        split at h
        · skip
          rw [← Option.some.inj h]; exact hF
        · skip
          obtain ⟨r55, hr55, h⟩ := bnd h
          have hF := hF.tr (fr_X11_has n v3 v5 μ r55 hr55) (fun o k hS => (subL_of (L1 := []) (by decide +kernel) hS))
          split at h
          · skip
            exact B81 v3 v4 v5 r55.2 hF h
          · skip
            obtain ⟨r65, hr65, h⟩ := bnd h
            have hF := hF.tr (fr_X0_goDown n v1 v5 r55.2 r65 hr65) (fun o k hS => (subL_of (L1 := [(6, 6, 0), (6, 6, 1), (6, 6, 2), (6, 6, 3), (155, 168, 1), (155, 168, 9999)]) (by decide +kernel) hS))
            obtain ⟨r75, hr75, h⟩ := bnd h
            have hF := hF.tr (ihself (v1 + (1 : Int32)) v2 r65.2 r75 hr75) (fun o k hS => hS)
            exact B81 v3 (v4 + r75.1) v5 r75.2 hF h
    split at h
    · skip
      exact B11 μ hF h
    · skip
      split at h
      · skip
        obtain ⟨hi22, h⟩ := gd_some h
        have hjhi22 := vin_lt hi22 rfl
        obtain ⟨r23, hr23, h⟩ := bnd h
        have hF := hF.tr (fr_X8_choices n (155 + 2 * v1.toNatClampNeg) μ r23 hr23) (fun o k hS => (subL_of (L1 := [(6, 6, 0), (6, 6, 1), (6, 6, 2), (6, 6, 3), (8, 8, 9999), (57, 68, 1), (57, 68, 9999)]) (by decide +kernel) hS))
        split at h
        rotate_left
        · skip
          exact B45 n r23.1 (0 : Int32) (0 : Int32) r23.2 hF h
        · skip
          obtain ⟨r35, hr35, h⟩ := bnd h
          have hF := hF.tr (fr_J6_bitCount_0f7a4 n r23.1 r23.2 r35 hr35) (fun o k hS => (subL_of (L1 := []) (by decide +kernel) hS))
          rw [← Option.some.inj h]; exact hF
      · skip
        exact B11 μ hF h
theorem fr_X0_countRows (n : Nat) (v1 : Int32) (v2 : Int32) (μ : Mu) (r : Int32 × Mu) (h : X0_countRows n v1 v2 μ = some r) : Fr (S_X0_countRows v1 v2) μ r.2 := fr_X0_countRows_k n 8 v1 v2 μ r h
set_option maxRecDepth 100000 in
set_option maxHeartbeats 4000000 in
theorem fr_X0_gather_k (n : Nat) : ∀ (kr : Nat) (v1 : Int32) (v2 : Int32) (μ : Mu) (r : Unit × Mu) (h : lpF (fun _ _ _ => none) (X0_gather_body n) kr v1 v2 μ = some r), Fr (S_X0_gather v1 v2) μ r.2 := by
  intro kr
  induction kr with
  | zero =>
    intro v1 v2 μ r h
    cases h
  | succ kr ihself =>
    rw [lpF_s]
    generalize lpF (fun _ _ _ => none) (X0_gather_body n) kr = kself at ihself ⊢
    intro v1 v2 μ r h
    rw [X0_gather_body] at h
    have hF : Fr (S_X0_gather v1 v2) μ μ := Fr.rf
    obtain ⟨μ0, hμ0⟩ : ∃ z, z = μ := ⟨_, rfl⟩
    rw [← hμ0]
    have hF : Fr (S_X0_gather v1 v2) μ0 μ := by rw [hμ0]; exact hF
    have B11 : ∀ (μ : Mu), Fr (S_X0_gather v1 v2) μ0 μ → X0_gather_11 n kself v1 v2  μ = some r → Fr (S_X0_gather v1 v2) μ0 r.2 := by
      intro μ hF h
      rw [X0_gather_11] at h
      obtain ⟨hi17, h⟩ := gd_some h
      have hjhi17 := vin_lt hi17 rfl
      obtain ⟨r18, hr18, h⟩ := bnd h
      have hF := hF.tr (fr_X0_note n (155 + 2 * v1.toNatClampNeg) μ r18 hr18) (fun o k hS => (subL_of (L1 := [(25, 25, 11), (28, 28, 9999), (29, 29, 9999), (30, 30, 9999)]) (by decide +kernel) hS))
      rw [← Option.some.inj h]; exact hF
    have B39 : ∀ (k : Nat), ∀ (v3 : Int32) (v4 : Int32) (μ : Mu), Fr (S_X0_gather v1 v2) μ0 μ → lpF (fun _ _ _ => none) (X0_gather_39b n kself v1 v2) k v3 v4 μ = some r → Fr (S_X0_gather v1 v2) μ0 r.2 := by
      intro k
      induction k with
      | zero =>
        intro v3 v4 μ hF h
        cases h
      | succ k ih39 =>
        rw [lpF_s]
        generalize lpF (fun _ _ _ => none) (X0_gather_39b n kself v1 v2) k = k39 at ih39 ⊢
        intro v3 v4 μ hF h
        have B70 : ∀ (v3 : Int32) (v4 : Int32) (μ : Mu), Fr (S_X0_gather v1 v2) μ0 μ → X0_gather_70 n kself v1 v2 k39 v3 v4 μ = some r → Fr (S_X0_gather v1 v2) μ0 r.2 := by
          intro v3 v4 μ hF h
          rw [X0_gather_70] at h
          exact ih39 v3 (v4 + (1 : Int32)) μ hF h
        rw [X0_gather_39b] at h
        split at h
        · skip
          rw [← Option.some.inj h]; exact hF
        · skip
          obtain ⟨r49, hr49, h⟩ := bnd h
          have hF := hF.tr (fr_X11_has n v3 v4 μ r49 hr49) (fun o k hS => (subL_of (L1 := []) (by decide +kernel) hS))
          split at h
          · skip
            exact B70 v3 v4 r49.2 hF h
          · skip
            obtain ⟨r59, hr59, h⟩ := bnd h
            have hF := hF.tr (fr_X0_goDown n v1 v4 r49.2 r59 hr59) (fun o k hS => (subL_of (L1 := [(6, 6, 0), (6, 6, 1), (6, 6, 2), (6, 6, 3), (155, 168, 1), (155, 168, 9999)]) (by decide +kernel) hS))
            obtain ⟨r67, hr67, h⟩ := bnd h
            have hF := hF.tr (ihself (v1 + (1 : Int32)) v2 r59.2 r67 hr67) (fun o k hS => hS)
            exact B70 v3 v4 r67.2 hF h
    split at h
    · skip
      exact B11 μ hF h
    · skip
      split at h
      · skip
        obtain ⟨hi31, h⟩ := gd_some h
        have hjhi31 := vin_lt hi31 rfl
        obtain ⟨r32, hr32, h⟩ := bnd h
        have hF := hF.tr (fr_X8_choices n (155 + 2 * v1.toNatClampNeg) μ r32 hr32) (fun o k hS => (subL_of (L1 := [(6, 6, 0), (6, 6, 1), (6, 6, 2), (6, 6, 3), (8, 8, 9999), (57, 68, 1), (57, 68, 9999)]) (by decide +kernel) hS))
        exact B39 n r32.1 (0 : Int32) r32.2 hF h
      · skip
        exact B11 μ hF h
theorem fr_X0_gather (n : Nat) (v1 : Int32) (v2 : Int32) (μ : Mu) (r : Unit × Mu) (h : X0_gather n v1 v2 μ = some r) : Fr (S_X0_gather v1 v2) μ r.2 := fr_X0_gather_k n 8 v1 v2 μ r h
set_option maxRecDepth 100000 in
set_option maxHeartbeats 4000000 in
theorem fr_X0_endsWithin_k (n : Nat) : ∀ (kr : Nat) (v1 : Int32) (v2 : Int32) (μ : Mu) (r : Int32 × Mu) (h : lpF (fun _ _ _ => none) (X0_endsWithin_body n) kr v1 v2 μ = some r), Fr (S_X0_endsWithin v1 v2) μ r.2 := by
  intro kr
  induction kr with
  | zero =>
    intro v1 v2 μ r h
    cases h
  | succ kr ihself =>
    rw [lpF_s]
    generalize lpF (fun _ _ _ => none) (X0_endsWithin_body n) kr = kself at ihself ⊢
    intro v1 v2 μ r h
    rw [X0_endsWithin_body] at h
    have hF : Fr (S_X0_endsWithin v1 v2) μ μ := Fr.rf
    obtain ⟨μ0, hμ0⟩ : ∃ z, z = μ := ⟨_, rfl⟩
    rw [← hμ0]
    have hF : Fr (S_X0_endsWithin v1 v2) μ0 μ := by rw [hμ0]; exact hF
    have B11 : ∀ (μ : Mu), Fr (S_X0_endsWithin v1 v2) μ0 μ → X0_endsWithin_11 n kself v1 v2  μ = some r → Fr (S_X0_endsWithin v1 v2) μ0 r.2 := by
      intro μ hF h
      rw [X0_endsWithin_11] at h
      obtain ⟨hi20, h⟩ := gd_some h
      have hjhi20 := vin_lt hi20 rfl
      obtain ⟨r21, hr21, h⟩ := bnd h
      have hF := hF.tr (fr_X8_isOver n (155 + 2 * v1.toNatClampNeg) μ r21 hr21) (fun o k hS => (subL_of (L1 := [(6, 6, 0), (6, 6, 1), (6, 6, 2), (6, 6, 3), (57, 68, 1), (57, 68, 9999)]) (by decide +kernel) hS))
      obtain ⟨hz24, h⟩ := bz_some h
      rw [← Option.some.inj h]; exact hF
    have B42 : ∀ (k : Nat), ∀ (v3 : Int32) (v4 : Int32) (μ : Mu), Fr (S_X0_endsWithin v1 v2) μ0 μ → lpF (fun _ _ _ => none) (X0_endsWithin_42b n kself v1 v2) k v3 v4 μ = some r → Fr (S_X0_endsWithin v1 v2) μ0 r.2 := by
      intro k
      induction k with
      | zero =>
        intro v3 v4 μ hF h
        cases h
      | succ k ih42 =>
        rw [lpF_s]
        generalize lpF (fun _ _ _ => none) (X0_endsWithin_42b n kself v1 v2) k = k42 at ih42 ⊢
        intro v3 v4 μ hF h
        have B86 : ∀ (v3 : Int32) (v4 : Int32) (μ : Mu), Fr (S_X0_endsWithin v1 v2) μ0 μ → X0_endsWithin_86 n kself v1 v2 k42 v3 v4 μ = some r → Fr (S_X0_endsWithin v1 v2) μ0 r.2 := by
          intro v3 v4 μ hF h
          rw [X0_endsWithin_86] at h
          exact ih42 v3 (v4 + (1 : Int32)) μ hF h
        rw [X0_endsWithin_42b] at h
        split at h
        · skip
          rw [← Option.some.inj h]; exact hF
        · skip
          obtain ⟨r52, hr52, h⟩ := bnd h
          have hF := hF.tr (fr_X11_has n v3 v4 μ r52 hr52) (fun o k hS => (subL_of (L1 := []) (by decide +kernel) hS))
          split at h
          · skip
            exact B86 v3 v4 r52.2 hF h
          · skip
            obtain ⟨hi65, h⟩ := gd_some h
            have hjhi65 := vin_lt hi65 rfl
            have hF := hF.si (o := 26) (k := v1.toNatClampNeg) (v := v4) (by unfold S_X0_endsWithin; exact inL_mk 26 26 9999 (by decide) (by omega) (by omega) (by omega))
            obtain ⟨r70, hr70, h⟩ := bnd h
            have hF := hF.tr (fr_X0_goDown n v1 v4 (si r52.2 26 v1.toNatClampNeg v4) r70 hr70) (fun o k hS => (subL_of (L1 := [(6, 6, 0), (6, 6, 1), (6, 6, 2), (6, 6, 3), (155, 168, 1), (155, 168, 9999)]) (by decide +kernel) hS))
            obtain ⟨r78, hr78, h⟩ := bnd h
            have hF := hF.tr (ihself (v1 + (1 : Int32)) v2 r70.2 r78 hr78) (fun o k hS => hS)
            split at h
            · skip
              exact B86 v3 v4 r78.2 hF h
            · skip
              rw [← Option.some.inj h]; exact hF
    split at h
    · skip
      exact B11 μ hF h
    · skip
      split at h
      · skip
        obtain ⟨hi34, h⟩ := gd_some h
        have hjhi34 := vin_lt hi34 rfl
        obtain ⟨r35, hr35, h⟩ := bnd h
        have hF := hF.tr (fr_X8_choices n (155 + 2 * v1.toNatClampNeg) μ r35 hr35) (fun o k hS => (subL_of (L1 := [(6, 6, 0), (6, 6, 1), (6, 6, 2), (6, 6, 3), (8, 8, 9999), (57, 68, 1), (57, 68, 9999)]) (by decide +kernel) hS))
        exact B42 n r35.1 (0 : Int32) r35.2 hF h
      · skip
        exact B11 μ hF h
theorem fr_X0_endsWithin (n : Nat) (v1 : Int32) (v2 : Int32) (μ : Mu) (r : Int32 × Mu) (h : X0_endsWithin n v1 v2 μ = some r) : Fr (S_X0_endsWithin v1 v2) μ r.2 := fr_X0_endsWithin_k n 8 v1 v2 μ r h
set_option maxRecDepth 100000 in
set_option maxHeartbeats 4000000 in
theorem fr_X1_build (n : Nat) (μ : Mu) (r : Unit × Mu) (h : X1_build n  μ = some r) : Fr S_X1_build μ r.2 := by
  rw [X1_build] at h
  have hF : Fr S_X1_build μ μ := Fr.rf
  obtain ⟨μ0, hμ0⟩ : ∃ z, z = μ := ⟨_, rfl⟩
  rw [← hμ0]
  have hF : Fr S_X1_build μ0 μ := by rw [hμ0]; exact hF
  have B72 : ∀ (s1 : Int32) (μ : Mu), Fr S_X1_build μ0 μ → X1_build_72 n s1 μ = some r → Fr S_X1_build μ0 r.2 := by
    intro s1 μ hF h
    rw [X1_build_72] at h
    obtain ⟨hz72, h⟩ := bz_some h
    have hF := hF.si (o := 2) (k := 3) (v := s1) (by unfold S_X1_build; exact inL_mk 2 2 3 (by decide) (by omega) (by omega) (by omega))
    rw [← Option.some.inj h]; exact hF
  have B67 : ∀ (μ : Mu), Fr S_X1_build μ0 μ → X1_build_67 n  μ = some r → Fr S_X1_build μ0 r.2 := by
    intro μ hF h
    rw [X1_build_67] at h
    exact B72 (1 : Int32) μ hF h
  have B71 : ∀ (μ : Mu), Fr S_X1_build μ0 μ → X1_build_71 n  μ = some r → Fr S_X1_build μ0 r.2 := by
    intro μ hF h
    rw [X1_build_71] at h
    exact B72 (0 : Int32) μ hF h
  have B7 : ∀ (k : Nat), ∀ (v1 : Int32) (μ : Mu), Fr S_X1_build μ0 μ → lpF (fun _ _ => none) (X1_build_7b n) k v1 μ = some r → Fr S_X1_build μ0 r.2 := by
    intro k
    induction k with
    | zero =>
      intro v1 μ hF h
      cases h
    | succ k ih7 =>
      rw [lpF_s]
      generalize lpF (fun _ _ => none) (X1_build_7b n) k = k7 at ih7 ⊢
      intro v1 μ hF h
      rw [X1_build_7b] at h
      split at h
      · skip
        split at h
        · skip
          exact B67 μ hF h
        · skip
          split at h
          · skip
            exact B71 μ hF h
          · skip
            split at h
            rotate_left
            · skip
              exact B71 μ hF h
            · skip
              split at h
              rotate_left
              · skip
                exact B71 μ hF h
              · skip
                exact B67 μ hF h
      · skip
        obtain ⟨r14, hr14, h⟩ := bnd h
        have hF := hF.tr (fr_X1_linkWay n v1 μ r14 hr14) (fun o k hS => (subL_of (L1 := [(3, 3, 9999)]) (by decide +kernel) hS))
        obtain ⟨r19, hr19, h⟩ := bnd h
        have hF := hF.tr (fr_X1_listSeen n v1 r14.2 r19 hr19) (fun o k hS => (subL_of (L1 := [(2, 2, 1), (2, 2, 2), (4, 4, 9999)]) (by decide +kernel) hS))
        exact ih7 (v1 + (1 : Int32)) r19.2 hF h
  have hF := hF.si (o := 2) (k := 2) (v := (1 : Int32)) (by unfold S_X1_build; exact inL_mk 2 2 2 (by decide) (by omega) (by omega) (by omega))
  exact B7 n (0 : Int32) (si μ 2 2 (1 : Int32)) hF h
set_option maxRecDepth 100000 in
set_option maxHeartbeats 4000000 in
theorem fr_X4_readSeeds (n : Nat) (μ : Mu) (r : Unit × Mu) (h : X4_readSeeds n  μ = some r) : Fr S_X4_readSeeds μ r.2 := by
  rw [X4_readSeeds] at h
  have hF : Fr S_X4_readSeeds μ μ := Fr.rf
  obtain ⟨μ0, hμ0⟩ : ∃ z, z = μ := ⟨_, rfl⟩
  rw [← hμ0]
  have hF : Fr S_X4_readSeeds μ0 μ := by rw [hμ0]; exact hF
  have B78 : ∀ (μ : Mu), Fr S_X4_readSeeds μ0 μ → X4_readSeeds_78 n  μ = some r → Fr S_X4_readSeeds μ0 r.2 := by
    intro μ hF h
    rw [X4_readSeeds_78] at h
    rw [← Option.some.inj h]; exact hF
  have B6 : ∀ (k : Nat), ∀ (v1 : Int32) (μ : Mu), Fr S_X4_readSeeds μ0 μ → lpF (fun _ _ => none) (X4_readSeeds_6b n) k v1 μ = some r → Fr S_X4_readSeeds μ0 r.2 := by
    intro k
    induction k with
    | zero =>
      intro v1 μ hF h
      cases h
    | succ k ih6 =>
      rw [lpF_s]
      generalize lpF (fun _ _ => none) (X4_readSeeds_6b n) k = k6 at ih6 ⊢
      intro v1 μ hF h
      have B39 : ∀ (v1 : Int32) (v2 : Int32) (μ : Mu), Fr S_X4_readSeeds μ0 μ → X4_readSeeds_39 n k6 v1 v2 μ = some r → Fr S_X4_readSeeds μ0 r.2 := by
        intro v1 v2 μ hF h
        rw [X4_readSeeds_39] at h
        split at h
        · skip
          obtain ⟨hi56, h⟩ := gd_some h
          have hjhi56 := vin_lt hi56 rfl
          have hF := hF.si (o := 150) (k := v1.toNatClampNeg) (v := v2) (by unfold S_X4_readSeeds; exact inL_mk 150 150 9999 (by decide) (by omega) (by omega) (by omega))
          obtain ⟨r61, hr61, h⟩ := bnd h
          have hF := hF.tr (fr_X4_step n (si μ 150 v1.toNatClampNeg v2) r61 hr61) (fun o k hS => (subL_of (L1 := [(12, 12, 2), (12, 12, 3), (12, 12, 7), (12, 12, 8), (12, 12, 9), (12, 12, 10)]) (by decide +kernel) hS))
          split at h
          rotate_left
          · skip
            exact B78 r61.2 hF h
          · skip
            split at h
            · skip
              exact ih6 (v1 + (1 : Int32)) r61.2 hF h
            · skip
              exact B78 r61.2 hF h
        · skip
          rw [← Option.some.inj h]; exact hF
      rw [X4_readSeeds_6b] at h
      obtain ⟨r10, hr10, h⟩ := bnd h
      have hF := hF.tr (fr_X4_checkedNumber n (0 : Int32) (20 : Int32) μ r10 hr10) (fun o k hS => (subL_of (L1 := [(12, 12, 2), (12, 12, 3)]) (by decide +kernel) hS))
      split at h
      rotate_left
      · skip
        exact B39 v1 r10.1 r10.2 hF h
      · skip
        split at h
        · skip
          exact B39 v1 r10.1 r10.2 hF h
        · skip
          obtain ⟨r36, hr36, h⟩ := bnd h
          have hF := hF.tr (fr_X4_refuse n (4 : Int32) r10.2 r36 hr36) (fun o k hS => (subL_of (L1 := [(12, 12, 2), (12, 12, 3)]) (by decide +kernel) hS))
          exact B39 v1 r10.1 r36.2 hF h
  obtain ⟨r1, hr1, h⟩ := bnd h
  have hF := hF.tr (fr_X4_step n μ r1 hr1) (fun o k hS => (subL_of (L1 := [(12, 12, 2), (12, 12, 3), (12, 12, 7), (12, 12, 8), (12, 12, 9), (12, 12, 10)]) (by decide +kernel) hS))
  exact B6 n (0 : Int32) r1.2 hF h
set_option maxRecDepth 100000 in
set_option maxHeartbeats 4000000 in
theorem fr_X4_readTake (n : Nat) (μ : Mu) (r : Unit × Mu) (h : X4_readTake n  μ = some r) : Fr S_X4_readTake μ r.2 := by
  rw [X4_readTake] at h
  have hF : Fr S_X4_readTake μ μ := Fr.rf
  obtain ⟨μ0, hμ0⟩ : ∃ z, z = μ := ⟨_, rfl⟩
  rw [← hμ0]
  have hF : Fr S_X4_readTake μ0 μ := by rw [hμ0]; exact hF
  have B106 : ∀ (μ : Mu), Fr S_X4_readTake μ0 μ → X4_readTake_106 n  μ = some r → Fr S_X4_readTake μ0 r.2 := by
    intro μ hF h
    rw [X4_readTake_106] at h
    rw [← Option.some.inj h]; exact hF
  have B70 : ∀ (μ : Mu), Fr S_X4_readTake μ0 μ → X4_readTake_70 n  μ = some r → Fr S_X4_readTake μ0 r.2 := by
    intro μ hF h
    rw [X4_readTake_70] at h
    obtain ⟨r71, hr71, h⟩ := bnd h
    have hF := hF.tr (fr_X4_step n μ r71 hr71) (fun o k hS => (subL_of (L1 := [(12, 12, 2), (12, 12, 3), (12, 12, 7), (12, 12, 8), (12, 12, 9), (12, 12, 10)]) (by decide +kernel) hS))
    split at h
    rotate_left
    · skip
      exact B106 r71.2 hF h
    · skip
      obtain ⟨r88, hr88, h⟩ := bnd h
      have hF := hF.tr (fr_X4_isWord n 1007 r71.2 r88 hr88) (fun o k hS => (subL_of (L1 := []) (by decide +kernel) hS))
      split at h
      · skip
        exact B106 r88.2 hF h
      · skip
        have hF := hF.si (o := 13) (k := 4) (v := (3 : Int32)) (by unfold S_X4_readTake; exact inL_mk 13 13 4 (by decide) (by omega) (by omega) (by omega))
        obtain ⟨r103, hr103, h⟩ := bnd h
        have hF := hF.tr (fr_X4_step n (si r88.2 13 4 (3 : Int32)) r103 hr103) (fun o k hS => (subL_of (L1 := [(12, 12, 2), (12, 12, 3), (12, 12, 7), (12, 12, 8), (12, 12, 9), (12, 12, 10)]) (by decide +kernel) hS))
        exact B106 r103.2 hF h
  obtain ⟨r1, hr1, h⟩ := bnd h
  have hF := hF.tr (fr_X4_step n μ r1 hr1) (fun o k hS => (subL_of (L1 := [(12, 12, 2), (12, 12, 3), (12, 12, 7), (12, 12, 8), (12, 12, 9), (12, 12, 10)]) (by decide +kernel) hS))
  obtain ⟨r7, hr7, h⟩ := bnd h
  have hF := hF.tr (fr_X4_isWord n 1004 r1.2 r7 hr7) (fun o k hS => (subL_of (L1 := []) (by decide +kernel) hS))
  split at h
  · skip
    obtain ⟨r27, hr27, h⟩ := bnd h
    have hF := hF.tr (fr_X4_isWord n 1005 r7.2 r27 hr27) (fun o k hS => (subL_of (L1 := []) (by decide +kernel) hS))
    split at h
    · skip
      obtain ⟨r47, hr47, h⟩ := bnd h
      have hF := hF.tr (fr_X4_isWord n 1006 r27.2 r47 hr47) (fun o k hS => (subL_of (L1 := []) (by decide +kernel) hS))
      split at h
      · skip
        obtain ⟨r66, hr66, h⟩ := bnd h
        have hF := hF.tr (fr_X4_refuse n (2 : Int32) r47.2 r66 hr66) (fun o k hS => (subL_of (L1 := [(12, 12, 2), (12, 12, 3)]) (by decide +kernel) hS))
        rw [← Option.some.inj h]; exact hF
      · skip
        have hF := hF.si (o := 13) (k := 4) (v := (2 : Int32)) (by unfold S_X4_readTake; exact inL_mk 13 13 4 (by decide) (by omega) (by omega) (by omega))
        exact B70 (si r47.2 13 4 (2 : Int32)) hF h
    · skip
      have hF := hF.si (o := 13) (k := 4) (v := (1 : Int32)) (by unfold S_X4_readTake; exact inL_mk 13 13 4 (by decide) (by omega) (by omega) (by omega))
      exact B70 (si r27.2 13 4 (1 : Int32)) hF h
  · skip
    have hF := hF.si (o := 13) (k := 4) (v := (0 : Int32)) (by unfold S_X4_readTake; exact inL_mk 13 13 4 (by decide) (by omega) (by omega) (by omega))
    exact B70 (si r7.2 13 4 (0 : Int32)) hF h
set_option maxRecDepth 100000 in
set_option maxHeartbeats 4000000 in
theorem fr_X4_readFlag (n : Nat) (μ : Mu) (r : Unit × Mu) (h : X4_readFlag n  μ = some r) : Fr S_X4_readFlag μ r.2 := by
  rw [X4_readFlag] at h
  have hF : Fr S_X4_readFlag μ μ := Fr.rf
  obtain ⟨μ0, hμ0⟩ : ∃ z, z = μ := ⟨_, rfl⟩
  rw [← hμ0]
  have hF : Fr S_X4_readFlag μ0 μ := by rw [hμ0]; exact hF
  have B86 : ∀ (μ : Mu), Fr S_X4_readFlag μ0 μ → X4_readFlag_86 n  μ = some r → Fr S_X4_readFlag μ0 r.2 := by
    intro μ hF h
    rw [X4_readFlag_86] at h
    obtain ⟨r87, hr87, h⟩ := bnd h
    have hF := hF.tr (fr_X4_step n μ r87 hr87) (fun o k hS => (subL_of (L1 := [(12, 12, 2), (12, 12, 3), (12, 12, 7), (12, 12, 8), (12, 12, 9), (12, 12, 10)]) (by decide +kernel) hS))
    rw [← Option.some.inj h]; exact hF
  obtain ⟨r3, hr3, h⟩ := bnd h
  have hF := hF.tr (fr_X4_isWord n 1012 μ r3 hr3) (fun o k hS => (subL_of (L1 := []) (by decide +kernel) hS))
  split at h
  · skip
    obtain ⟨r23, hr23, h⟩ := bnd h
    have hF := hF.tr (fr_X4_isWord n 1013 r3.2 r23 hr23) (fun o k hS => (subL_of (L1 := []) (by decide +kernel) hS))
    split at h
    · skip
      obtain ⟨r43, hr43, h⟩ := bnd h
      have hF := hF.tr (fr_X4_isWord n 1014 r23.2 r43 hr43) (fun o k hS => (subL_of (L1 := []) (by decide +kernel) hS))
      split at h
      · skip
        obtain ⟨r63, hr63, h⟩ := bnd h
        have hF := hF.tr (fr_X4_isWord n 1015 r43.2 r63 hr63) (fun o k hS => (subL_of (L1 := []) (by decide +kernel) hS))
        split at h
        · skip
          obtain ⟨r82, hr82, h⟩ := bnd h
          have hF := hF.tr (fr_X4_refuse n (2 : Int32) r63.2 r82 hr82) (fun o k hS => (subL_of (L1 := [(12, 12, 2), (12, 12, 3)]) (by decide +kernel) hS))
          rw [← Option.some.inj h]; exact hF
        · skip
          have hF := hF.si (o := 13) (k := 8) (v := (1 : Int32)) (by unfold S_X4_readFlag; exact inL_mk 13 13 8 (by decide) (by omega) (by omega) (by omega))
          exact B86 (si r63.2 13 8 (1 : Int32)) hF h
      · skip
        have hF := hF.si (o := 13) (k := 7) (v := (1 : Int32)) (by unfold S_X4_readFlag; exact inL_mk 13 13 7 (by decide) (by omega) (by omega) (by omega))
        exact B86 (si r43.2 13 7 (1 : Int32)) hF h
    · skip
      have hF := hF.si (o := 13) (k := 6) (v := (1 : Int32)) (by unfold S_X4_readFlag; exact inL_mk 13 13 6 (by decide) (by omega) (by omega) (by omega))
      exact B86 (si r23.2 13 6 (1 : Int32)) hF h
  · skip
    have hF := hF.si (o := 13) (k := 5) (v := (1 : Int32)) (by unfold S_X4_readFlag; exact inL_mk 13 13 5 (by decide) (by omega) (by omega) (by omega))
    exact B86 (si r3.2 13 5 (1 : Int32)) hF h
set_option maxRecDepth 100000 in
set_option maxHeartbeats 4000000 in
theorem fr_X4_readNumber (n : Nat) (v1 : Int32) (v2 : Int32) (μ : Mu) (r : Int32 × Mu) (h : X4_readNumber n v1 v2 μ = some r) : Fr (S_X4_readNumber v1 v2) μ r.2 := by
  rw [X4_readNumber] at h
  have hF : Fr (S_X4_readNumber v1 v2) μ μ := Fr.rf
  obtain ⟨μ0, hμ0⟩ : ∃ z, z = μ := ⟨_, rfl⟩
  rw [← hμ0]
  have hF : Fr (S_X4_readNumber v1 v2) μ0 μ := by rw [hμ0]; exact hF
  have B18 : ∀ (v3 : Int32) (μ : Mu), Fr (S_X4_readNumber v1 v2) μ0 μ → X4_readNumber_18 n v1 v2 v3 μ = some r → Fr (S_X4_readNumber v1 v2) μ0 r.2 := by
    intro v3 μ hF h
    rw [X4_readNumber_18] at h
    rw [← Option.some.inj h]; exact hF
  obtain ⟨r3, hr3, h⟩ := bnd h
  have hF := hF.tr (fr_X4_checkedNumber n v1 v2 μ r3 hr3) (fun o k hS => (subL_of (L1 := [(12, 12, 2), (12, 12, 3)]) (by decide +kernel) hS))
  split at h
  rotate_left
  · skip
    exact B18 r3.1 r3.2 hF h
  · skip
    obtain ⟨r15, hr15, h⟩ := bnd h
    have hF := hF.tr (fr_X4_step n r3.2 r15 hr15) (fun o k hS => (subL_of (L1 := [(12, 12, 2), (12, 12, 3), (12, 12, 7), (12, 12, 8), (12, 12, 9), (12, 12, 10)]) (by decide +kernel) hS))
    exact B18 r3.1 r15.2 hF h
set_option maxRecDepth 100000 in
set_option maxHeartbeats 4000000 in
theorem fr_X7_reach (n : Nat) (v1 : Int32) (μ : Mu) (r : Int32 × Mu) (h : X7_reach n v1 μ = some r) : Fr (S_X7_reach v1) μ r.2 := by
  rw [X7_reach] at h
  have hF : Fr (S_X7_reach v1) μ μ := Fr.rf
  obtain ⟨μ0, hμ0⟩ : ∃ z, z = μ := ⟨_, rfl⟩
  rw [← hμ0]
  have hF : Fr (S_X7_reach v1) μ0 μ := by rw [hμ0]; exact hF
  have B61 : ∀ (k : Nat), ∀ (v2 : Int32) (μ : Mu), Fr (S_X7_reach v1) μ0 μ → lpF (fun _ _ => none) (X7_reach_61b n v1) k v2 μ = some r → Fr (S_X7_reach v1) μ0 r.2 := by
    intro k
    induction k with
    | zero =>
      intro v2 μ hF h
      cases h
    | succ k ih61 =>
      rw [lpF_s]
      generalize lpF (fun _ _ => none) (X7_reach_61b n v1) k = k61 at ih61 ⊢
      intro v2 μ hF h
      have B78 : ∀ (k : Nat), ∀ (v2 : Int32) (v3 : Int32) (v4 : Int32) (μ : Mu), Fr (S_X7_reach v1) μ0 μ → lpF (fun _ _ _ _ => none) (X7_reach_78b n v1 k61) k v2 v3 v4 μ = some r → Fr (S_X7_reach v1) μ0 r.2 := by
        intro k
        induction k with
        | zero =>
          intro v2 v3 v4 μ hF h
          cases h
        | succ k ih78 =>
          rw [lpF_s]
          generalize lpF (fun _ _ _ _ => none) (X7_reach_78b n v1 k61) k = k78 at ih78 ⊢
          intro v2 v3 v4 μ hF h
          have B91 : ∀ (k : Nat), ∀ (v2 : Int32) (v3 : Int32) (v4 : Int32) (v5 : Int32) (μ : Mu), Fr (S_X7_reach v1) μ0 μ → lpF (fun _ _ _ _ _ => none) (X7_reach_91b n v1 k61 k78) k v2 v3 v4 v5 μ = some r → Fr (S_X7_reach v1) μ0 r.2 := by
            intro k
            induction k with
            | zero =>
              intro v2 v3 v4 v5 μ hF h
              cases h
            | succ k ih91 =>
              rw [lpF_s]
              generalize lpF (fun _ _ _ _ _ => none) (X7_reach_91b n v1 k61 k78) k = k91 at ih91 ⊢
              intro v2 v3 v4 v5 μ hF h
              rw [X7_reach_91b] at h
              split at h
              · skip
                exact ih78 v2 v3 (v4 + (1 : Int32)) μ hF h
              · skip
                obtain ⟨r103, hr103, h⟩ := bnd h
                have hF := hF.tr (fr_X7_readPosition n v4 v2 v5 μ r103 hr103) (fun o k hS => (subL_of (L1 := [(6, 6, 0), (6, 6, 1), (6, 6, 2), (6, 6, 3), (8, 8, 9999), (16, 16, 9999), (17, 17, 9999), (18, 18, 9999), (20, 20, 9999), (21, 21, 9999), (57, 68, 1), (57, 68, 9999), (151, 151, 1), (152, 152, 9999)]) (by decide +kernel) hS))
                exact ih91 v2 v3 v4 (v5 + (1 : Int32)) r103.2 hF h
          rw [X7_reach_78b] at h
          obtain ⟨r82, hr82, h⟩ := bnd h
          have hF := hF.tr (fr_X7_halfOf n (1 : Int32) μ r82 hr82) (fun o k hS => (subL_of (L1 := []) (by decide +kernel) hS))
          split at h
          · skip
            obtain ⟨r120, hr120, h⟩ := bnd h
            have hF := hF.tr (fr_X7_weighLevel n v2 r82.2 r120 hr120) (fun o k hS => (subL_of (L1 := [(16, 16, 9999), (17, 17, 9999), (19, 19, 9999)]) (by decide +kernel) hS))
            have hF := hF.si (o := 15) (k := 7) (v := v2) (by unfold S_X7_reach; exact inL_mk 15 15 7 (by decide) (by omega) (by omega) (by omega))
            exact ih61 (v2 + (1 : Int32)) (si r120.2 15 7 v2) hF h
          · skip
            exact B91 n v2 v3 v4 (0 : Int32) r82.2 hF h
      rw [X7_reach_61b] at h
      split at h
      · skip
        rw [← Option.some.inj h]; exact hF
      · skip
        obtain ⟨r71, hr71, h⟩ := bnd h
        have hF := hF.tr (fr_X1_positionsOf n v2 μ r71 hr71) (fun o k hS => (subL_of (L1 := []) (by decide +kernel) hS))
        exact B78 n v2 r71.1 (0 : Int32) r71.2 hF h
  have B54 : ∀ (μ : Mu), Fr (S_X7_reach v1) μ0 μ → X7_reach_54 n v1  μ = some r → Fr (S_X7_reach v1) μ0 r.2 := by
    intro μ hF h
    rw [X7_reach_54] at h
    exact B61 n ((μ.1 15 7) + (1 : Int32)) μ hF h
  have B38 : ∀ (μ : Mu), Fr (S_X7_reach v1) μ0 μ → X7_reach_38 n v1  μ = some r → Fr (S_X7_reach v1) μ0 r.2 := by
    intro μ hF h
    rw [X7_reach_38] at h
    obtain ⟨r43, hr43, h⟩ := bnd h
    have hF := hF.tr (fr_X5_key n 1 μ r43 hr43) (fun o k hS => (subL_of (L1 := []) (by decide +kernel) hS))
    have hF := hF.si (o := 15) (k := 6) (v := r43.1) (by unfold S_X7_reach; exact inL_mk 15 15 6 (by decide) (by omega) (by omega) (by omega))
    have hF := hF.si (o := 15) (k := 7) (v := ((-1) : Int32)) (by unfold S_X7_reach; exact inL_mk 15 15 7 (by decide) (by omega) (by omega) (by omega))
    exact B54 (si (si r43.2 15 6 r43.1) 15 7 ((-1) : Int32)) hF h
  obtain ⟨r5, hr5, h⟩ := bnd h
  have hF := hF.tr (fr_X1_positionsUpTo n v1 μ r5 hr5) (fun o k hS => (subL_of (L1 := []) (by decide +kernel) hS))
  split at h
  · skip
    split at h
    · skip
      exact B38 r5.2 hF h
    · skip
      obtain ⟨r32, hr32, h⟩ := bnd h
      have hF := hF.tr (fr_X5_key n 1 r5.2 r32 hr32) (fun o k hS => (subL_of (L1 := []) (by decide +kernel) hS))
      split at h
      · skip
        exact B54 r32.2 hF h
      · skip
        exact B38 r32.2 hF h
  · skip
    rw [← Option.some.inj h]; exact hF
set_option maxRecDepth 100000 in
set_option maxHeartbeats 4000000 in
theorem fr_X11_value (n : Nat) (μ : Mu) (r : Int32 × Mu) (h : X11_value n  μ = some r) : Fr S_X11_value μ r.2 := by
  rw [X11_value] at h
  have hF : Fr S_X11_value μ μ := Fr.rf
  obtain ⟨μ0, hμ0⟩ : ∃ z, z = μ := ⟨_, rfl⟩
  rw [← hμ0]
  have hF : Fr S_X11_value μ0 μ := by rw [hμ0]; exact hF
  have B34 : ∀ (s0 : Int32) (μ : Mu), Fr S_X11_value μ0 μ → X11_value_34 n s0 μ = some r → Fr S_X11_value μ0 r.2 := by
    intro s0 μ hF h
    rw [X11_value_34] at h
    rw [← Option.some.inj h]; exact hF
  obtain ⟨r8, hr8, h⟩ := bnd h
  have hF := hF.tr (fr_X6_inPits n 53 μ r8 hr8) (fun o k hS => (subL_of (L1 := []) (by decide +kernel) hS))
  obtain ⟨r11, hr11, h⟩ := bnd h
  have hF := hF.tr (fr_X7_reach n r8.1 r8.2 r11 hr11) (fun o k hS => (subL_of (L1 := [(6, 6, 0), (6, 6, 1), (6, 6, 2), (6, 6, 3), (8, 8, 9999), (15, 15, 6), (15, 15, 7), (16, 16, 9999), (17, 17, 9999), (18, 18, 9999), (19, 19, 9999), (20, 20, 9999), (21, 21, 9999), (57, 68, 1), (57, 68, 9999), (151, 151, 1), (152, 152, 9999)]) (by decide +kernel) hS))
  split at h
  · skip
    exact B34 ((-1000) : Int32) r11.2 hF h
  · skip
    obtain ⟨r25, hr25, h⟩ := bnd h
    have hF := hF.tr (fr_X7_valueAt n 53 r11.2 r25 hr25) (fun o k hS => (subL_of (L1 := []) (by decide +kernel) hS))
    exact B34 r25.1 r25.2 hF h
set_option maxRecDepth 100000 in
set_option maxHeartbeats 4000000 in
theorem fr_X11_rank (n : Nat) (μ : Mu) (r : Int32 × Mu) (h : X11_rank n  μ = some r) : Fr S_X11_rank μ r.2 := by
  rw [X11_rank] at h
  have hF : Fr S_X11_rank μ μ := Fr.rf
  obtain ⟨μ0, hμ0⟩ : ∃ z, z = μ := ⟨_, rfl⟩
  rw [← hμ0]
  have hF : Fr S_X11_rank μ0 μ := by rw [hμ0]; exact hF
  have B32 : ∀ (s0 : Int32) (μ : Mu), Fr S_X11_rank μ0 μ → X11_rank_32 n s0 μ = some r → Fr S_X11_rank μ0 r.2 := by
    intro s0 μ hF h
    rw [X11_rank_32] at h
    rw [← Option.some.inj h]; exact hF
  obtain ⟨r8, hr8, h⟩ := bnd h
  have hF := hF.tr (fr_X6_inPits n 53 μ r8 hr8) (fun o k hS => (subL_of (L1 := []) (by decide +kernel) hS))
  obtain ⟨r11, hr11, h⟩ := bnd h
  have hF := hF.tr (fr_X7_reach n r8.1 r8.2 r11 hr11) (fun o k hS => (subL_of (L1 := [(6, 6, 0), (6, 6, 1), (6, 6, 2), (6, 6, 3), (8, 8, 9999), (15, 15, 6), (15, 15, 7), (16, 16, 9999), (17, 17, 9999), (18, 18, 9999), (19, 19, 9999), (20, 20, 9999), (21, 21, 9999), (57, 68, 1), (57, 68, 9999), (151, 151, 1), (152, 152, 9999)]) (by decide +kernel) hS))
  split at h
  · skip
    exact B32 ((-1) : Int32) r11.2 hF h
  · skip
    obtain ⟨r25, hr25, h⟩ := bnd h
    have hF := hF.tr (fr_X7_rankAt n 53 r11.2 r25 hr25) (fun o k hS => (subL_of (L1 := []) (by decide +kernel) hS))
    exact B32 r25.1 r25.2 hF h
set_option maxRecDepth 100000 in
set_option maxHeartbeats 4000000 in
theorem fr_X11_best (n : Nat) (μ : Mu) (r : Int32 × Mu) (h : X11_best n  μ = some r) : Fr S_X11_best μ r.2 := by
  rw [X11_best] at h
  have hF : Fr S_X11_best μ μ := Fr.rf
  obtain ⟨μ0, hμ0⟩ : ∃ z, z = μ := ⟨_, rfl⟩
  rw [← hμ0]
  have hF : Fr S_X11_best μ0 μ := by rw [hμ0]; exact hF
  have B32 : ∀ (s0 : Int32) (μ : Mu), Fr S_X11_best μ0 μ → X11_best_32 n s0 μ = some r → Fr S_X11_best μ0 r.2 := by
    intro s0 μ hF h
    rw [X11_best_32] at h
    rw [← Option.some.inj h]; exact hF
  obtain ⟨r8, hr8, h⟩ := bnd h
  have hF := hF.tr (fr_X6_inPits n 53 μ r8 hr8) (fun o k hS => (subL_of (L1 := []) (by decide +kernel) hS))
  obtain ⟨r11, hr11, h⟩ := bnd h
  have hF := hF.tr (fr_X7_reach n r8.1 r8.2 r11 hr11) (fun o k hS => (subL_of (L1 := [(6, 6, 0), (6, 6, 1), (6, 6, 2), (6, 6, 3), (8, 8, 9999), (15, 15, 6), (15, 15, 7), (16, 16, 9999), (17, 17, 9999), (18, 18, 9999), (19, 19, 9999), (20, 20, 9999), (21, 21, 9999), (57, 68, 1), (57, 68, 9999), (151, 151, 1), (152, 152, 9999)]) (by decide +kernel) hS))
  split at h
  · skip
    exact B32 ((-1) : Int32) r11.2 hF h
  · skip
    obtain ⟨r25, hr25, h⟩ := bnd h
    have hF := hF.tr (fr_X7_bestAt n 53 r11.2 r25 hr25) (fun o k hS => (subL_of (L1 := [(6, 6, 0), (6, 6, 1), (6, 6, 2), (6, 6, 3), (8, 8, 9999), (15, 15, 8), (57, 68, 1), (57, 68, 9999)]) (by decide +kernel) hS))
    exact B32 r25.1 r25.2 hF h
set_option maxRecDepth 100000 in
set_option maxHeartbeats 4000000 in
theorem fr_X11_worth (n : Nat) (v1 : Int32) (μ : Mu) (r : Int32 × Mu) (h : X11_worth n v1 μ = some r) : Fr (S_X11_worth v1) μ r.2 := by
  rw [X11_worth] at h
  have hF : Fr (S_X11_worth v1) μ μ := Fr.rf
  obtain ⟨μ0, hμ0⟩ : ∃ z, z = μ := ⟨_, rfl⟩
  rw [← hμ0]
  have hF : Fr (S_X11_worth v1) μ0 μ := by rw [hμ0]; exact hF
  have B51 : ∀ (s0 : Int32) (μ : Mu), Fr (S_X11_worth v1) μ0 μ → X11_worth_51 n v1 s0 μ = some r → Fr (S_X11_worth v1) μ0 r.2 := by
    intro s0 μ hF h
    rw [X11_worth_51] at h
    rw [← Option.some.inj h]; exact hF
  have B48 : ∀ (μ : Mu), Fr (S_X11_worth v1) μ0 μ → X11_worth_48 n v1  μ = some r → Fr (S_X11_worth v1) μ0 r.2 := by
    intro μ hF h
    rw [X11_worth_48] at h
    exact B51 ((-1000) : Int32) μ hF h
  obtain ⟨r10, hr10, h⟩ := bnd h
  have hF := hF.tr (fr_X8_isOwn n 53 (v1.toInt64) μ r10 hr10) (fun o k hS => (subL_of (L1 := []) (by decide +kernel) hS))
  split at h
  · skip
    exact B48 r10.2 hF h
  · skip
    obtain ⟨r24, hr24, h⟩ := bnd h
    have hF := hF.tr (fr_X6_inPits n 53 r10.2 r24 hr24) (fun o k hS => (subL_of (L1 := []) (by decide +kernel) hS))
    obtain ⟨r27, hr27, h⟩ := bnd h
    have hF := hF.tr (fr_X7_reach n r24.1 r24.2 r27 hr27) (fun o k hS => (subL_of (L1 := [(6, 6, 0), (6, 6, 1), (6, 6, 2), (6, 6, 3), (8, 8, 9999), (15, 15, 6), (15, 15, 7), (16, 16, 9999), (17, 17, 9999), (18, 18, 9999), (19, 19, 9999), (20, 20, 9999), (21, 21, 9999), (57, 68, 1), (57, 68, 9999), (151, 151, 1), (152, 152, 9999)]) (by decide +kernel) hS))
    split at h
    · skip
      exact B48 r27.2 hF h
    · skip
      obtain ⟨r42, hr42, h⟩ := bnd h
      have hF := hF.tr (fr_X7_worthBy n 53 v1 r27.2 r42 hr42) (fun o k hS => (subL_of (L1 := [(6, 6, 0), (6, 6, 1), (6, 6, 2), (6, 6, 3), (8, 8, 9999), (15, 15, 8), (57, 68, 1), (57, 68, 9999)]) (by decide +kernel) hS))
      exact B51 r42.1 r42.2 hF h
set_option maxRecDepth 100000 in
set_option maxHeartbeats 4000000 in
theorem fr_X11_swapped (n : Nat) (μ : Mu) (r : Int32 × Mu) (h : X11_swapped n  μ = some r) : Fr S_X11_swapped μ r.2 := by
  rw [X11_swapped] at h
  have hF : Fr S_X11_swapped μ μ := Fr.rf
  obtain ⟨μ0, hμ0⟩ : ∃ z, z = μ := ⟨_, rfl⟩
  rw [← hμ0]
  have hF : Fr S_X11_swapped μ0 μ := by rw [hμ0]; exact hF
  obtain ⟨r8, hr8, h⟩ := bnd h
  have hF := hF.tr (fr_X6_inPits n 53 μ r8 hr8) (fun o k hS => (subL_of (L1 := []) (by decide +kernel) hS))
  obtain ⟨r11, hr11, h⟩ := bnd h
  have hF := hF.tr (fr_X7_reach n r8.1 r8.2 r11 hr11) (fun o k hS => (subL_of (L1 := [(6, 6, 0), (6, 6, 1), (6, 6, 2), (6, 6, 3), (8, 8, 9999), (15, 15, 6), (15, 15, 7), (16, 16, 9999), (17, 17, 9999), (18, 18, 9999), (19, 19, 9999), (20, 20, 9999), (21, 21, 9999), (57, 68, 1), (57, 68, 9999), (151, 151, 1), (152, 152, 9999)]) (by decide +kernel) hS))
  split at h
  rotate_left
  · skip
    obtain ⟨r29, hr29, h⟩ := bnd h
    have hF := hF.tr (fr_X6_copy n 55 53 r11.2 r29 hr29) (fun o k hS => by
    unfold S_X6_copy at hS
    rcases hS with hS | hS | hS
    · exact (subL_of (by decide +kernel) hS)
    · exact inL_mk 55 55 1 (by decide) (by omega) (by omega) (by omega)
    · exact inL_mk 56 56 9999 (by decide) (by omega) (by omega) (by omega))
    have hF := hF.si (o := 55) (k := 1) (v := ((1 : Int32) - (r29.2.1 53 1))) (by unfold S_X11_swapped; exact inL_mk 55 55 1 (by decide) (by omega) (by omega) (by omega))
    obtain ⟨r56, hr56, h⟩ := bnd h
    have hF := hF.tr (fr_X7_valueAt n 55 (si r29.2 55 1 ((1 : Int32) - (r29.2.1 53 1))) r56 hr56) (fun o k hS => (subL_of (L1 := []) (by decide +kernel) hS))
    rw [← Option.some.inj h]; exact hF
  · skip
    rw [← Option.some.inj h]; exact hF
set_option maxRecDepth 100000 in
set_option maxHeartbeats 4000000 in
theorem fr_X11_needSolved (n : Nat) (v1 : Int32) (μ : Mu) (r : (Unit ⊕ Nat) × Mu) (h : X11_needSolved n v1 μ = some r) : Fr (S_X11_needSolved v1) μ r.2 := by
  rw [X11_needSolved] at h
  have hF : Fr (S_X11_needSolved v1) μ μ := Fr.rf
  obtain ⟨μ0, hμ0⟩ : ∃ z, z = μ := ⟨_, rfl⟩
  rw [← hμ0]
  have hF : Fr (S_X11_needSolved v1) μ0 μ := by rw [hμ0]; exact hF
  obtain ⟨r5, hr5, h⟩ := bnd h
  have hF := hF.tr (fr_X7_reach n v1 μ r5 hr5) (fun o k hS => (subL_of (L1 := [(6, 6, 0), (6, 6, 1), (6, 6, 2), (6, 6, 3), (8, 8, 9999), (15, 15, 6), (15, 15, 7), (16, 16, 9999), (17, 17, 9999), (18, 18, 9999), (19, 19, 9999), (20, 20, 9999), (21, 21, 9999), (57, 68, 1), (57, 68, 9999), (151, 151, 1), (152, 152, 9999)]) (by decide +kernel) hS))
  split at h
  rotate_left
  · skip
    rw [← Option.some.inj h]; exact hF
  · skip
    rw [← Option.some.inj h]; exact hF
set_option maxRecDepth 100000 in
set_option maxHeartbeats 4000000 in
theorem fr_X11_laySolved (n : Nat) (v1 : Int32) (v2 : Int32) (v3 : Int32) (μ : Mu) (r : (Unit ⊕ Nat) × Mu) (h : X11_laySolved n v1 v2 v3 μ = some r) : Fr (S_X11_laySolved v1 v2 v3) μ r.2 := by
  rw [X11_laySolved] at h
  have hF : Fr (S_X11_laySolved v1 v2 v3) μ μ := Fr.rf
  obtain ⟨μ0, hμ0⟩ : ∃ z, z = μ := ⟨_, rfl⟩
  rw [← hμ0]
  have hF : Fr (S_X11_laySolved v1 v2 v3) μ0 μ := by rw [hμ0]; exact hF
  rcases thr_cs h with ⟨kq, m1, hr1, h⟩ | ⟨r1, m1, hr1, h⟩
  · rw [← Option.some.inj h]; exact hF.tr (fr_X11_needSide n v1 μ _ hr1) (fun o k hS => (subL_of (L1 := []) (by decide +kernel) hS))
  have hF := hF.tr (fr_X11_needSide n v1 μ _ hr1) (fun o k hS => (subL_of (L1 := []) (by decide +kernel) hS))
  rcases thr_cs h with ⟨kq, m5, hr5, h⟩ | ⟨r5, m5, hr5, h⟩
  · rw [← Option.some.inj h]; exact hF.tr (fr_X11_needSeeds n v2 m1 _ hr5) (fun o k hS => (subL_of (L1 := []) (by decide +kernel) hS))
  have hF := hF.tr (fr_X11_needSeeds n v2 m1 _ hr5) (fun o k hS => (subL_of (L1 := []) (by decide +kernel) hS))
  obtain ⟨r13, hr13, h⟩ := bnd h
  have hF := hF.tr (fr_X7_reach n v2 m5 r13 hr13) (fun o k hS => (subL_of (L1 := [(6, 6, 0), (6, 6, 1), (6, 6, 2), (6, 6, 3), (8, 8, 9999), (15, 15, 6), (15, 15, 7), (16, 16, 9999), (17, 17, 9999), (18, 18, 9999), (19, 19, 9999), (20, 20, 9999), (21, 21, 9999), (57, 68, 1), (57, 68, 9999), (151, 151, 1), (152, 152, 9999)]) (by decide +kernel) hS))
  split at h
  rotate_left
  · skip
    obtain ⟨r35, hr35, h⟩ := bnd h
    have hF := hF.tr (fr_X1_positionsOf n v2 r13.2 r35 hr35) (fun o k hS => (subL_of (L1 := []) (by decide +kernel) hS))
    rcases thr_cs h with ⟨kq, m38, hr38, h⟩ | ⟨r38, m38, hr38, h⟩
    · rw [← Option.some.inj h]; exact hF.tr (fr_X11_needPosition n v3 r35.1 r35.2 _ hr38) (fun o k hS => (subL_of (L1 := []) (by decide +kernel) hS))
    have hF := hF.tr (fr_X11_needPosition n v3 r35.1 r35.2 _ hr38) (fun o k hS => (subL_of (L1 := []) (by decide +kernel) hS))
    obtain ⟨r52, hr52, h⟩ := bnd h
    have hF := hF.tr (fr_X1_lay n 55 v1 v2 v3 m38 r52 hr52) (fun o k hS => by
    unfold S_X1_lay at hS
    rcases hS with hS | hS | hS
    · exact (subL_of (by decide +kernel) hS)
    · exact inL_mk 55 55 1 (by decide) (by omega) (by omega) (by omega)
    · exact inL_mk 56 56 9999 (by decide) (by omega) (by omega) (by omega))
    rw [← Option.some.inj h]; exact hF
  · skip
    rw [← Option.some.inj h]; exact hF
set_option maxRecDepth 100000 in
set_option maxHeartbeats 4000000 in
theorem fr_X11_settle (n : Nat) (v1 : Nat) (v2 : Nat) (μ : Mu) (r : Unit × Mu) (h : X11_settle n v1 v2 μ = some r) : Fr (S_X11_settle v1 v2) μ r.2 := by
  rw [X11_settle] at h
  obtain ⟨hk1, h⟩ := kd_some h
  obtain ⟨hk2, h⟩ := kd_some h
  have hF : Fr (S_X11_settle v1 v2) μ μ := Fr.rf
  obtain ⟨μ0, hμ0⟩ : ∃ z, z = μ := ⟨_, rfl⟩
  rw [← hμ0]
  have hF : Fr (S_X11_settle v1 v2) μ0 μ := by rw [hμ0]; exact hF
  obtain ⟨r5, hr5, h⟩ := bnd h
  have hF := hF.tr (fr_X5_copy n 1 v1 μ r5 hr5) (fun o k hS => by
  unfold S_X5_copy at hS
  rcases hS with hS | hS | hS | hS | hS | hS | hS | hS | hS | hS
  · exact (subL_of (by decide +kernel) hS)
  · exact inL_mk 1 1 0 (by decide) (by omega) (by omega) (by omega)
  · exact inL_mk 1 1 1 (by decide) (by omega) (by omega) (by omega)
  · exact inL_mk 1 1 2 (by decide) (by omega) (by omega) (by omega)
  · exact inL_mk 1 1 3 (by decide) (by omega) (by omega) (by omega)
  · exact inL_mk 1 1 4 (by decide) (by omega) (by omega) (by omega)
  · exact inL_mk 1 1 5 (by decide) (by omega) (by omega) (by omega)
  · exact inL_mk 1 1 6 (by decide) (by omega) (by omega) (by omega)
  · exact inL_mk 1 1 7 (by decide) (by omega) (by omega) (by omega)
  · exact inL_mk 1 1 8 (by decide) (by omega) (by omega) (by omega))
  obtain ⟨r12, hr12, h⟩ := bnd h
  have hF := hF.tr (fr_X1_build n r5.2 r12 hr12) (fun o k hS => (subL_of (L1 := [(2, 2, 1), (2, 2, 2), (2, 2, 3), (3, 3, 9999), (4, 4, 9999)]) (by decide +kernel) hS))
  obtain ⟨r20, hr20, h⟩ := bnd h
  have hF := hF.tr (fr_X6_copy n 53 v2 r12.2 r20 hr20) (fun o k hS => by
  unfold S_X6_copy at hS
  rcases hS with hS | hS | hS
  · exact (subL_of (by decide +kernel) hS)
  · exact inL_mk 53 53 1 (by decide) (by omega) (by omega) (by omega)
  · exact inL_mk 54 54 9999 (by decide) (by omega) (by omega) (by omega))
  obtain ⟨r27, hr27, h⟩ := bnd h
  have hF := hF.tr (fr_X3_forget n r20.2 r27 hr27) (fun o k hS => (subL_of (L1 := [(9, 9, 0), (9, 9, 1)]) (by decide +kernel) hS))
  rw [← Option.some.inj h]; exact hF
set_option maxRecDepth 100000 in
set_option maxHeartbeats 4000000 in
theorem fr_X12_laysMoves (n : Nat) (v1 : Int32) (μ : Mu) (r : Unit × Mu) (h : X12_laysMoves n v1 μ = some r) : Fr (S_X12_laysMoves v1) μ r.2 := by
  rw [X12_laysMoves] at h
  have hF : Fr (S_X12_laysMoves v1) μ μ := Fr.rf
  obtain ⟨μ0, hμ0⟩ : ∃ z, z = μ := ⟨_, rfl⟩
  rw [← hμ0]
  have hF : Fr (S_X12_laysMoves v1) μ0 μ := by rw [hμ0]; exact hF
  have B2 : ∀ (k : Nat), ∀ (v2 : Int32) (μ : Mu), Fr (S_X12_laysMoves v1) μ0 μ → lpF (fun _ _ => none) (X12_laysMoves_2b n v1) k v2 μ = some r → Fr (S_X12_laysMoves v1) μ0 r.2 := by
    intro k
    induction k with
    | zero =>
      intro v2 μ hF h
      cases h
    | succ k ih2 =>
      rw [lpF_s]
      generalize lpF (fun _ _ => none) (X12_laysMoves_2b n v1) k = k2 at ih2 ⊢
      intro v2 μ hF h
      have B9 : ∀ (k : Nat), ∀ (v2 : Int32) (v3 : Int32) (μ : Mu), Fr (S_X12_laysMoves v1) μ0 μ → lpF (fun _ _ _ => none) (X12_laysMoves_9b n v1 k2) k v2 v3 μ = some r → Fr (S_X12_laysMoves v1) μ0 r.2 := by
        intro k
        induction k with
        | zero =>
          intro v2 v3 μ hF h
          cases h
        | succ k ih9 =>
          rw [lpF_s]
          generalize lpF (fun _ _ _ => none) (X12_laysMoves_9b n v1 k2) k = k9 at ih9 ⊢
          intro v2 v3 μ hF h
          have B100 : ∀ (k : Nat), ∀ (v2 : Int32) (v3 : Int32) (v4 : Int32) (v5 : Int32) (μ : Mu), Fr (S_X12_laysMoves v1) μ0 μ → lpF (fun _ _ _ _ _ => none) (X12_laysMoves_100b n v1 k2 k9) k v2 v3 v4 v5 μ = some r → Fr (S_X12_laysMoves v1) μ0 r.2 := by
            intro k
            induction k with
            | zero =>
              intro v2 v3 v4 v5 μ hF h
              cases h
            | succ k ih100 =>
              rw [lpF_s]
              generalize lpF (fun _ _ _ _ _ => none) (X12_laysMoves_100b n v1 k2 k9) k = k100 at ih100 ⊢
              intro v2 v3 v4 v5 μ hF h
              rw [X12_laysMoves_100b] at h
              split at h
              · skip
                exact ih9 v2 (v3 + (1 : Int32)) μ hF h
              · skip
                obtain ⟨r118, hr118, h⟩ := bnd h
                have hF := hF.tr (fr_X12_laysMove n v4 v2 v1 v5 μ r118 hr118) (fun o k hS => (subL_of (L1 := [(171, 171, 18), (171, 171, 19), (171, 171, 20), (171, 171, 21), (171, 171, 22), (171, 171, 23), (171, 171, 31), (178, 178, 9999), (183, 183, 9999), (187, 187, 9999), (188, 188, 9999)]) (by decide +kernel) hS))
                exact ih100 v2 v3 v4 (v5 + (1 : Int32)) r118.2 hF h
          have B47 : ∀ (k : Nat), ∀ (v2 : Int32) (v3 : Int32) (v4 : Int32) (v5 : Int32) (μ : Mu), Fr (S_X12_laysMoves v1) μ0 μ → lpF (fun _ _ _ _ _ => none) (X12_laysMoves_47b n v1 k2 k9) k v2 v3 v4 v5 μ = some r → Fr (S_X12_laysMoves v1) μ0 r.2 := by
            intro k
            induction k with
            | zero =>
              intro v2 v3 v4 v5 μ hF h
              cases h
            | succ k ih47 =>
              rw [lpF_s]
              generalize lpF (fun _ _ _ _ _ => none) (X12_laysMoves_47b n v1 k2 k9) k = k47 at ih47 ⊢
              intro v2 v3 v4 v5 μ hF h
              rw [X12_laysMoves_47b] at h
              obtain ⟨r50, hr50, h⟩ := bnd h
              have hF := hF.tr (fr_X12_pitMany n μ r50 hr50) (fun o k hS => (subL_of (L1 := []) (by decide +kernel) hS))
              split at h
              · skip
                have hF := hF.si (o := 172) (k := 2) (v := v2) (by unfold S_X12_laysMoves; exact inL_mk 172 172 9999 (by decide) (by omega) (by omega) (by omega))
                obtain ⟨r93, hr93, h⟩ := bnd h
                have hF := hF.tr (fr_X12_isOver n (si r50.2 172 2 v2) r93 hr93) (fun o k hS => (subL_of (L1 := [(171, 171, 18), (171, 171, 19), (171, 171, 20), (171, 171, 21), (171, 171, 22), (171, 171, 23), (178, 178, 9999)]) (by decide +kernel) hS))
                obtain ⟨hi96, h⟩ := gd_some h
                have hjhi96 := vin_lt hi96 rfl
                obtain ⟨hz96, h⟩ := bz_some h
                have hF := hF.si (o := 190) (k := v4.toNatClampNeg) (v := r93.1) (by unfold S_X12_laysMoves; exact inL_mk 190 190 9999 (by decide) (by omega) (by omega) (by omega))
                exact B100 n v2 v3 v4 (0 : Int32) (si r93.2 190 v4.toNatClampNeg r93.1) hF h
              · skip
                obtain ⟨hi71, h⟩ := gd_some h
                have hjhi71 := vin_lt hi71 rfl
                obtain ⟨hi72, h⟩ := gd_some h
                have hjhi72 := vin_lt hi72 rfl
                have hF := hF.si (o := 172) (k := ((13 : Int32) + v5).toNatClampNeg) (v := (r50.2.1 178 v5.toNatClampNeg)) (by unfold S_X12_laysMoves; exact inL_mk 172 172 9999 (by decide) (by omega) (by omega) (by omega))
                exact ih47 v2 v3 v4 (v5 + (1 : Int32)) (si r50.2 172 ((13 : Int32) + v5).toNatClampNeg (r50.2.1 178 v5.toNatClampNeg)) hF h
          rw [X12_laysMoves_9b] at h
          obtain ⟨hi17, h⟩ := gd_some h
          have hjhi17 := vin_lt hi17 rfl
          obtain ⟨hi23, h⟩ := gd_some h
          have hjhi23 := vin_lt hi23 rfl
          split at h
          · skip
            exact ih2 (v2 + (1 : Int32)) μ hF h
          · skip
            obtain ⟨r32, hr32, h⟩ := bnd h
            have hF := hF.tr (fr_X12_seat n v2 v1 v3 μ r32 hr32) (fun o k hS => (subL_of (L1 := []) (by decide +kernel) hS))
            obtain ⟨r41, hr41, h⟩ := bnd h
            have hF := hF.tr (fr_X12_lays n v2 v1 v3 r32.2 r41 hr41) (fun o k hS => (subL_of (L1 := [(171, 171, 31), (178, 178, 9999), (183, 183, 9999)]) (by decide +kernel) hS))
            exact B47 n v2 v3 r32.1 (0 : Int32) r41.2 hF h
      rw [X12_laysMoves_2b] at h
      split at h
      · skip
        rw [← Option.some.inj h]; exact hF
      · skip
        exact B9 n v2 (0 : Int32) μ hF h
  exact B2 n (0 : Int32) μ hF h
set_option maxRecDepth 100000 in
set_option maxHeartbeats 4000000 in
theorem fr_X12_forced (n : Nat) (μ : Mu) (r : Int32 × Mu) (h : X12_forced n  μ = some r) : Fr S_X12_forced μ r.2 := by
  rw [X12_forced] at h
  have hF : Fr S_X12_forced μ μ := Fr.rf
  obtain ⟨μ0, hμ0⟩ : ∃ z, z = μ := ⟨_, rfl⟩
  rw [← hμ0]
  have hF : Fr S_X12_forced μ0 μ := by rw [hμ0]; exact hF
  have B47 : ∀ (v1 : Int32) (μ : Mu), Fr S_X12_forced μ0 μ → X12_forced_47 n v1 μ = some r → Fr S_X12_forced μ0 r.2 := by
    intro v1 μ hF h
    rw [X12_forced_47] at h
    obtain ⟨r55, hr55, h⟩ := bnd h
    have hF := hF.tr (fr_X12_copies n 175 172 μ r55 hr55) (fun o k hS => by
  unfold S_X12_copies at hS
  rcases hS with hS | hS
  · exact (subL_of (by decide +kernel) hS)
  · exact inL_mk 172 172 9999 (by decide) (by omega) (by omega) (by omega))
    rw [← Option.some.inj h]; exact hF
  have B18 : ∀ (k : Nat), ∀ (v1 : Int32) (μ : Mu), Fr S_X12_forced μ0 μ → lpF (fun _ _ => none) (X12_forced_18b n) k v1 μ = some r → Fr S_X12_forced μ0 r.2 := by
    intro k
    induction k with
    | zero =>
      intro v1 μ hF h
      cases h
    | succ k ih18 =>
      rw [lpF_s]
      generalize lpF (fun _ _ => none) (X12_forced_18b n) k = k18 at ih18 ⊢
      intro v1 μ hF h
      rw [X12_forced_18b] at h
      split at h
      · skip
        exact B47 v1 μ hF h
      · skip
        obtain ⟨r25, hr25, h⟩ := bnd h
        have hF := hF.tr (fr_X12_only n μ r25 hr25) (fun o k hS => (subL_of (L1 := [(171, 171, 18), (171, 171, 19), (171, 171, 20), (171, 171, 21), (171, 171, 22), (171, 171, 23), (178, 178, 9999)]) (by decide +kernel) hS))
        split at h
        · skip
          exact B47 v1 r25.2 hF h
        · skip
          obtain ⟨r34, hr34, h⟩ := bnd h
          have hF := hF.tr (fr_X12_only n r25.2 r34 hr34) (fun o k hS => (subL_of (L1 := [(171, 171, 18), (171, 171, 19), (171, 171, 20), (171, 171, 21), (171, 171, 22), (171, 171, 23), (178, 178, 9999)]) (by decide +kernel) hS))
          obtain ⟨r37, hr37, h⟩ := bnd h
          have hF := hF.tr (fr_X12_moves n r34.1 r34.2 r37 hr37) (fun o k hS => (subL_of (L1 := [(171, 171, 18), (171, 171, 19), (171, 171, 20), (171, 171, 21), (171, 171, 22), (171, 171, 23), (172, 172, 9999), (178, 178, 9999)]) (by decide +kernel) hS))
          exact ih18 (v1 + (1 : Int32)) r37.2 hF h
  have hF := hF.si (o := 171) (k := 5) (v := (0 : Int32)) (by unfold S_X12_forced; exact inL_mk 171 171 5 (by decide) (by omega) (by omega) (by omega))
  obtain ⟨r13, hr13, h⟩ := bnd h
  have hF := hF.tr (fr_X12_copies n 172 175 (si μ 171 5 (0 : Int32)) r13 hr13) (fun o k hS => by
  unfold S_X12_copies at hS
  rcases hS with hS | hS
  · exact (subL_of (by decide +kernel) hS)
  · exact inL_mk 175 175 9999 (by decide) (by omega) (by omega) (by omega))
  exact B18 n (0 : Int32) r13.2 hF h
set_option maxRecDepth 100000 in
set_option maxHeartbeats 4000000 in
theorem fr_X0_countFrom (n : Nat) (v1 : Nat) (v2 : Int32) (μ : Mu) (r : Int32 × Mu) (h : X0_countFrom n v1 v2 μ = some r) : Fr (S_X0_countFrom v1 v2) μ r.2 := by
  rw [X0_countFrom] at h
  obtain ⟨hk1, h⟩ := kd_some h
  have hF : Fr (S_X0_countFrom v1 v2) μ μ := Fr.rf
  obtain ⟨μ0, hμ0⟩ : ∃ z, z = μ := ⟨_, rfl⟩
  rw [← hμ0]
  have hF : Fr (S_X0_countFrom v1 v2) μ0 μ := by rw [hμ0]; exact hF
  obtain ⟨r7, hr7, h⟩ := bnd h
  have hF := hF.tr (fr_X6_copy n 155 v1 μ r7 hr7) (fun o k hS => by
  unfold S_X6_copy at hS
  rcases hS with hS | hS | hS
  · exact (subL_of (by decide +kernel) hS)
  · exact inL_mk 155 155 1 (by decide) (by omega) (by omega) (by omega)
  · exact inL_mk 156 156 9999 (by decide) (by omega) (by omega) (by omega))
  obtain ⟨r13, hr13, h⟩ := bnd h
  have hF := hF.tr (fr_X0_countRows n (0 : Int32) v2 r7.2 r13 hr13) (fun o k hS => (subL_of (L1 := [(6, 6, 0), (6, 6, 1), (6, 6, 2), (6, 6, 3), (8, 8, 9999), (57, 68, 1), (57, 68, 9999), (155, 168, 1), (155, 168, 9999)]) (by decide +kernel) hS))
  rw [← Option.some.inj h]; exact hF
set_option maxRecDepth 100000 in
set_option maxHeartbeats 4000000 in
theorem fr_X0_countUnlike (n : Nat) (v1 : Nat) (v2 : Int32) (μ : Mu) (r : Int32 × Mu) (h : X0_countUnlike n v1 v2 μ = some r) : Fr (S_X0_countUnlike v1 v2) μ r.2 := by
  rw [X0_countUnlike] at h
  obtain ⟨hk1, h⟩ := kd_some h
  have hF : Fr (S_X0_countUnlike v1 v2) μ μ := Fr.rf
  obtain ⟨μ0, hμ0⟩ : ∃ z, z = μ := ⟨_, rfl⟩
  rw [← hμ0]
  have hF : Fr (S_X0_countUnlike v1 v2) μ0 μ := by rw [hμ0]; exact hF
  have B17 : ∀ (k : Nat), ∀ (v3 : Int32) (μ : Mu), Fr (S_X0_countUnlike v1 v2) μ0 μ → lpF (fun _ _ => none) (X0_countUnlike_17b n v1 v2) k v3 μ = some r → Fr (S_X0_countUnlike v1 v2) μ0 r.2 := by
    intro k
    induction k with
    | zero =>
      intro v3 μ hF h
      cases h
    | succ k ih17 =>
      rw [lpF_s]
      generalize lpF (fun _ _ => none) (X0_countUnlike_17b n v1 v2) k = k17 at ih17 ⊢
      intro v3 μ hF h
      rw [X0_countUnlike_17b] at h
      split at h
      · skip
        obtain ⟨r40, hr40, h⟩ := bnd h
        have hF := hF.tr (fr_X0_gather n (0 : Int32) v2 μ r40 hr40) (fun o k hS => (subL_of (L1 := [(6, 6, 0), (6, 6, 1), (6, 6, 2), (6, 6, 3), (8, 8, 9999), (25, 25, 11), (28, 28, 9999), (29, 29, 9999), (30, 30, 9999), (57, 68, 1), (57, 68, 9999), (155, 168, 1), (155, 168, 9999)]) (by decide +kernel) hS))
        rw [← Option.some.inj h]; exact hF
      · skip
        obtain ⟨hi30, h⟩ := gd_some h
        have hjhi30 := vin_lt hi30 rfl
        have hF := hF.si (o := 30) (k := v3.toNatClampNeg) (v := (0 : Int32)) (by unfold S_X0_countUnlike; exact inL_mk 30 30 9999 (by decide) (by omega) (by omega) (by omega))
        exact ih17 (v3 + (1 : Int32)) (si μ 30 v3.toNatClampNeg (0 : Int32)) hF h
  obtain ⟨r7, hr7, h⟩ := bnd h
  have hF := hF.tr (fr_X6_copy n 155 v1 μ r7 hr7) (fun o k hS => by
  unfold S_X6_copy at hS
  rcases hS with hS | hS | hS
  · exact (subL_of (by decide +kernel) hS)
  · exact inL_mk 155 155 1 (by decide) (by omega) (by omega) (by omega)
  · exact inL_mk 156 156 9999 (by decide) (by omega) (by omega) (by omega))
  have hF := hF.si (o := 25) (k := 11) (v := (0 : Int32)) (by unfold S_X0_countUnlike; exact inL_mk 25 25 11 (by decide) (by omega) (by omega) (by omega))
  exact B17 n (0 : Int32) (si r7.2 25 11 (0 : Int32)) hF h
set_option maxRecDepth 100000 in
set_option maxHeartbeats 4000000 in
theorem fr_X0_seekEnd (n : Nat) (v1 : Nat) (μ : Mu) (r : Int32 × Mu) (h : X0_seekEnd n v1 μ = some r) : Fr (S_X0_seekEnd v1) μ r.2 := by
  rw [X0_seekEnd] at h
  obtain ⟨hk1, h⟩ := kd_some h
  have hF : Fr (S_X0_seekEnd v1) μ μ := Fr.rf
  obtain ⟨μ0, hμ0⟩ : ∃ z, z = μ := ⟨_, rfl⟩
  rw [← hμ0]
  have hF : Fr (S_X0_seekEnd v1) μ0 μ := by rw [hμ0]; exact hF
  have B112 : ∀ (μ : Mu), Fr (S_X0_seekEnd v1) μ0 μ → X0_seekEnd_112 n v1  μ = some r → Fr (S_X0_seekEnd v1) μ0 r.2 := by
    intro μ hF h
    rw [X0_seekEnd_112] at h
    rw [← Option.some.inj h]; exact hF
  have B78 : ∀ (k : Nat), ∀ (v2 : Int32) (μ : Mu), Fr (S_X0_seekEnd v1) μ0 μ → lpF (fun _ _ => none) (X0_seekEnd_78b n v1) k v2 μ = some r → Fr (S_X0_seekEnd v1) μ0 r.2 := by
    intro k
    induction k with
    | zero =>
      intro v2 μ hF h
      cases h
    | succ k ih78 =>
      rw [lpF_s]
      generalize lpF (fun _ _ => none) (X0_seekEnd_78b n v1) k = k78 at ih78 ⊢
      intro v2 μ hF h
      have B106 : ∀ (v2 : Int32) (μ : Mu), Fr (S_X0_seekEnd v1) μ0 μ → X0_seekEnd_106 n v1 k78 v2 μ = some r → Fr (S_X0_seekEnd v1) μ0 r.2 := by
        intro v2 μ hF h
        rw [X0_seekEnd_106] at h
        exact ih78 (v2 + (1 : Int32)) μ hF h
      rw [X0_seekEnd_78b] at h
      split at h
      · skip
        exact B112 μ hF h
      · skip
        split at h
        rotate_left
        · skip
          exact B112 μ hF h
        · skip
          obtain ⟨r95, hr95, h⟩ := bnd h
          have hF := hF.tr (fr_X0_endsWithin n (0 : Int32) v2 μ r95 hr95) (fun o k hS => (subL_of (L1 := [(6, 6, 0), (6, 6, 1), (6, 6, 2), (6, 6, 3), (8, 8, 9999), (26, 26, 9999), (57, 68, 1), (57, 68, 9999), (155, 168, 1), (155, 168, 9999)]) (by decide +kernel) hS))
          split at h
          · skip
            exact B106 v2 r95.2 hF h
          · skip
            have hF := hF.si (o := 25) (k := 6) (v := v2) (by unfold S_X0_seekEnd; exact inL_mk 25 25 6 (by decide) (by omega) (by omega) (by omega))
            exact B106 v2 (si r95.2 25 6 v2) hF h
  have B37 : ∀ (μ : Mu), Fr (S_X0_seekEnd v1) μ0 μ → X0_seekEnd_37 n v1  μ = some r → Fr (S_X0_seekEnd v1) μ0 r.2 := by
    intro μ hF h
    rw [X0_seekEnd_37] at h
    have hF := hF.si (o := 25) (k := 7) (v := (1 : Int32)) (by unfold S_X0_seekEnd; exact inL_mk 25 25 7 (by decide) (by omega) (by omega) (by omega))
    obtain ⟨r47, hr47, h⟩ := bnd h
    have hF := hF.tr (fr_X5_key n 1 (si μ 25 7 (1 : Int32)) r47 hr47) (fun o k hS => (subL_of (L1 := []) (by decide +kernel) hS))
    have hF := hF.si (o := 25) (k := 5) (v := r47.1) (by unfold S_X0_seekEnd; exact inL_mk 25 25 5 (by decide) (by omega) (by omega) (by omega))
    obtain ⟨r58, hr58, h⟩ := bnd h
    have hF := hF.tr (fr_X6_copy n 169 v1 (si r47.2 25 5 r47.1) r58 hr58) (fun o k hS => by
  unfold S_X6_copy at hS
  rcases hS with hS | hS | hS
  · exact (subL_of (by decide +kernel) hS)
  · exact inL_mk 169 169 1 (by decide) (by omega) (by omega) (by omega)
  · exact inL_mk 170 170 9999 (by decide) (by omega) (by omega) (by omega))
    obtain ⟨r68, hr68, h⟩ := bnd h
    have hF := hF.tr (fr_X6_copy n 155 v1 r58.2 r68 hr68) (fun o k hS => by
  unfold S_X6_copy at hS
  rcases hS with hS | hS | hS
  · exact (subL_of (by decide +kernel) hS)
  · exact inL_mk 155 155 1 (by decide) (by omega) (by omega) (by omega)
  · exact inL_mk 156 156 9999 (by decide) (by omega) (by omega) (by omega))
    have hF := hF.si (o := 25) (k := 6) (v := ((-1) : Int32)) (by unfold S_X0_seekEnd; exact inL_mk 25 25 6 (by decide) (by omega) (by omega) (by omega))
    exact B78 n (0 : Int32) (si r68.2 25 6 ((-1) : Int32)) hF h
  split at h
  · skip
    exact B37 μ hF h
  · skip
    obtain ⟨r15, hr15, h⟩ := bnd h
    have hF := hF.tr (fr_X5_key n 1 μ r15 hr15) (fun o k hS => (subL_of (L1 := []) (by decide +kernel) hS))
    split at h
    rotate_left
    · skip
      exact B37 r15.2 hF h
    · skip
      obtain ⟨r26, hr26, h⟩ := bnd h
      have hF := hF.tr (fr_X6_isLike n 169 v1 r15.2 r26 hr26) (fun o k hS => (subL_of (L1 := []) (by decide +kernel) hS))
      split at h
      · skip
        exact B37 r26.2 hF h
      · skip
        rw [← Option.some.inj h]; exact hF
set_option maxRecDepth 100000 in
set_option maxHeartbeats 4000000 in
theorem fr_X4_readPerSide (n : Nat) (μ : Mu) (r : Unit × Mu) (h : X4_readPerSide n  μ = some r) : Fr S_X4_readPerSide μ r.2 := by
  rw [X4_readPerSide] at h
  have hF : Fr S_X4_readPerSide μ μ := Fr.rf
  obtain ⟨μ0, hμ0⟩ : ∃ z, z = μ := ⟨_, rfl⟩
  rw [← hμ0]
  have hF : Fr S_X4_readPerSide μ0 μ := by rw [hμ0]; exact hF
  split at h
  · skip
    obtain ⟨r17, hr17, h⟩ := bnd h
    have hF := hF.tr (fr_X4_step n μ r17 hr17) (fun o k hS => (subL_of (L1 := [(12, 12, 2), (12, 12, 3), (12, 12, 7), (12, 12, 8), (12, 12, 9), (12, 12, 10)]) (by decide +kernel) hS))
    obtain ⟨r28, hr28, h⟩ := bnd h
    have hF := hF.tr (fr_X4_readNumber n (1 : Int32) (6 : Int32) r17.2 r28 hr28) (fun o k hS => (subL_of (L1 := [(12, 12, 2), (12, 12, 3), (12, 12, 7), (12, 12, 8), (12, 12, 9), (12, 12, 10)]) (by decide +kernel) hS))
    have hF := hF.si (o := 13) (k := 1) (v := r28.1) (by unfold S_X4_readPerSide; exact inL_mk 13 13 1 (by decide) (by omega) (by omega) (by omega))
    rw [← Option.some.inj h]; exact hF
  · skip
    obtain ⟨r12, hr12, h⟩ := bnd h
    have hF := hF.tr (fr_X4_refuse n (2 : Int32) μ r12 hr12) (fun o k hS => (subL_of (L1 := [(12, 12, 2), (12, 12, 3)]) (by decide +kernel) hS))
    rw [← Option.some.inj h]; exact hF
set_option maxRecDepth 100000 in
set_option maxHeartbeats 4000000 in
theorem fr_X11_valueOf (n : Nat) (v1 : Int32) (v2 : Int32) (v3 : Int32) (μ : Mu) (r : (Int32 ⊕ Nat) × Mu) (h : X11_valueOf n v1 v2 v3 μ = some r) : Fr (S_X11_valueOf v1 v2 v3) μ r.2 := by
  rw [X11_valueOf] at h
  have hF : Fr (S_X11_valueOf v1 v2 v3) μ μ := Fr.rf
  obtain ⟨μ0, hμ0⟩ : ∃ z, z = μ := ⟨_, rfl⟩
  rw [← hμ0]
  have hF : Fr (S_X11_valueOf v1 v2 v3) μ0 μ := by rw [hμ0]; exact hF
  rcases thr_cs h with ⟨kq, m4, hr4, h⟩ | ⟨r4, m4, hr4, h⟩
  · rw [← Option.some.inj h]; exact hF.tr (fr_X11_laySolved n v1 v2 v3 μ _ hr4) (fun o k hS => (subL_of (L1 := [(6, 6, 0), (6, 6, 1), (6, 6, 2), (6, 6, 3), (8, 8, 9999), (15, 15, 6), (15, 15, 7), (16, 16, 9999), (17, 17, 9999), (18, 18, 9999), (19, 19, 9999), (20, 20, 9999), (21, 21, 9999), (55, 55, 1), (56, 56, 9999), (57, 68, 1), (57, 68, 9999), (151, 151, 1), (152, 152, 9999)]) (by decide +kernel) hS))
  have hF := hF.tr (fr_X11_laySolved n v1 v2 v3 μ _ hr4) (fun o k hS => (subL_of (L1 := [(6, 6, 0), (6, 6, 1), (6, 6, 2), (6, 6, 3), (8, 8, 9999), (15, 15, 6), (15, 15, 7), (16, 16, 9999), (17, 17, 9999), (18, 18, 9999), (19, 19, 9999), (20, 20, 9999), (21, 21, 9999), (55, 55, 1), (56, 56, 9999), (57, 68, 1), (57, 68, 9999), (151, 151, 1), (152, 152, 9999)]) (by decide +kernel) hS))
  obtain ⟨r15, hr15, h⟩ := bnd h
  have hF := hF.tr (fr_X7_valueAt n 55 m4 r15 hr15) (fun o k hS => (subL_of (L1 := []) (by decide +kernel) hS))
  rw [← Option.some.inj h]; exact hF
set_option maxRecDepth 100000 in
set_option maxHeartbeats 4000000 in
theorem fr_X11_tally (n : Nat) (v1 : Int32) (v2 : Int32) (v3 : Int32) (μ : Mu) (r : (Int32 ⊕ Nat) × Mu) (h : X11_tally n v1 v2 v3 μ = some r) : Fr (S_X11_tally v1 v2 v3) μ r.2 := by
  rw [X11_tally] at h
  have hF : Fr (S_X11_tally v1 v2 v3) μ μ := Fr.rf
  obtain ⟨μ0, hμ0⟩ : ∃ z, z = μ := ⟨_, rfl⟩
  rw [← hμ0]
  have hF : Fr (S_X11_tally v1 v2 v3) μ0 μ := by rw [hμ0]; exact hF
  have B17 : ∀ (μ : Mu), Fr (S_X11_tally v1 v2 v3) μ0 μ → X11_tally_17 n v1 v2 v3  μ = some r → Fr (S_X11_tally v1 v2 v3) μ0 r.2 := by
    intro μ hF h
    rw [X11_tally_17] at h
    rw [← Option.some.inj h]; exact hF
  have B38 : ∀ (k : Nat), ∀ (v4 : Int32) (v5 : Int32) (μ : Mu), Fr (S_X11_tally v1 v2 v3) μ0 μ → lpF (fun _ _ _ => none) (X11_tally_38b n v1 v2 v3) k v4 v5 μ = some r → Fr (S_X11_tally v1 v2 v3) μ0 r.2 := by
    intro k
    induction k with
    | zero =>
      intro v4 v5 μ hF h
      cases h
    | succ k ih38 =>
      rw [lpF_s]
      generalize lpF (fun _ _ _ => none) (X11_tally_38b n v1 v2 v3) k = k38 at ih38 ⊢
      intro v4 v5 μ hF h
      have B76 : ∀ (v4 : Int32) (v5 : Int32) (μ : Mu), Fr (S_X11_tally v1 v2 v3) μ0 μ → X11_tally_76 n v1 v2 v3 k38 v4 v5 μ = some r → Fr (S_X11_tally v1 v2 v3) μ0 r.2 := by
        intro v4 v5 μ hF h
        rw [X11_tally_76] at h
        exact ih38 v4 (v5 + (1 : Int32)) μ hF h
      rw [X11_tally_38b] at h
      obtain ⟨r45, hr45, h⟩ := bnd h
      have hF := hF.tr (fr_X1_positionsOf n v2 μ r45 hr45) (fun o k hS => (subL_of (L1 := []) (by decide +kernel) hS))
      split at h
      · skip
        rw [← Option.some.inj h]; exact hF
      · skip
        obtain ⟨r63, hr63, h⟩ := bnd h
        have hF := hF.tr (fr_X7_indexOf n v1 v2 v5 r45.2 r63 hr63) (fun o k hS => (subL_of (L1 := []) (by decide +kernel) hS))
        obtain ⟨r67, hr67, h⟩ := bnd h
        have hF := hF.tr (fr_X7_isOfKind n r63.1 v3 r63.2 r67 hr67) (fun o k hS => (subL_of (L1 := []) (by decide +kernel) hS))
        split at h
        · skip
          exact B76 v4 v5 r67.2 hF h
        · skip
          exact B76 (v4 + (1 : Int32)) v5 r67.2 hF h
  rcases thr_cs h with ⟨kq, m1, hr1, h⟩ | ⟨r1, m1, hr1, h⟩
  · rw [← Option.some.inj h]; exact hF.tr (fr_X11_needSide n v1 μ _ hr1) (fun o k hS => (subL_of (L1 := []) (by decide +kernel) hS))
  have hF := hF.tr (fr_X11_needSide n v1 μ _ hr1) (fun o k hS => (subL_of (L1 := []) (by decide +kernel) hS))
  rcases thr_cs h with ⟨kq, m5, hr5, h⟩ | ⟨r5, m5, hr5, h⟩
  · rw [← Option.some.inj h]; exact hF.tr (fr_X11_needSeeds n v2 m1 _ hr5) (fun o k hS => (subL_of (L1 := []) (by decide +kernel) hS))
  have hF := hF.tr (fr_X11_needSeeds n v2 m1 _ hr5) (fun o k hS => (subL_of (L1 := []) (by decide +kernel) hS))
  split at h
  · skip
    exact B17 m5 hF h
  · skip
    split at h
    · skip
      rcases thr_cs h with ⟨kq, m29, hr29, h⟩ | ⟨r29, m29, hr29, h⟩
      · rw [← Option.some.inj h]; exact hF.tr (fr_X11_needSolved n v2 m5 _ hr29) (fun o k hS => (subL_of (L1 := [(6, 6, 0), (6, 6, 1), (6, 6, 2), (6, 6, 3), (8, 8, 9999), (15, 15, 6), (15, 15, 7), (16, 16, 9999), (17, 17, 9999), (18, 18, 9999), (19, 19, 9999), (20, 20, 9999), (21, 21, 9999), (57, 68, 1), (57, 68, 9999), (151, 151, 1), (152, 152, 9999)]) (by decide +kernel) hS))
      have hF := hF.tr (fr_X11_needSolved n v2 m5 _ hr29) (fun o k hS => (subL_of (L1 := [(6, 6, 0), (6, 6, 1), (6, 6, 2), (6, 6, 3), (8, 8, 9999), (15, 15, 6), (15, 15, 7), (16, 16, 9999), (17, 17, 9999), (18, 18, 9999), (19, 19, 9999), (20, 20, 9999), (21, 21, 9999), (57, 68, 1), (57, 68, 9999), (151, 151, 1), (152, 152, 9999)]) (by decide +kernel) hS))
      exact B38 n (0 : Int32) (0 : Int32) m29 hF h
    · skip
      exact B17 m5 hF h
set_option maxRecDepth 100000 in
set_option maxHeartbeats 4000000 in
theorem fr_X11_row (n : Nat) (v1 : Int32) (v2 : Int32) (v3 : Int32) (v4 : Int32) (μ : Mu) (r : (Int32 ⊕ Nat) × Mu) (h : X11_row n v1 v2 v3 v4 μ = some r) : Fr (S_X11_row v1 v2 v3 v4) μ r.2 := by
  rw [X11_row] at h
  have hF : Fr (S_X11_row v1 v2 v3 v4) μ μ := Fr.rf
  obtain ⟨μ0, hμ0⟩ : ∃ z, z = μ := ⟨_, rfl⟩
  rw [← hμ0]
  have hF : Fr (S_X11_row v1 v2 v3 v4) μ0 μ := by rw [hμ0]; exact hF
  have B132 : ∀ (s0 : Int32) (μ : Mu), Fr (S_X11_row v1 v2 v3 v4) μ0 μ → X11_row_132 n v1 v2 v3 v4 s0 μ = some r → Fr (S_X11_row v1 v2 v3 v4) μ0 r.2 := by
    intro s0 μ hF h
    rw [X11_row_132] at h
    rw [← Option.some.inj h]; exact hF
  have B60 : ∀ (v5 : Int32) (μ : Mu), Fr (S_X11_row v1 v2 v3 v4) μ0 μ → X11_row_60 n v1 v2 v3 v4 v5 μ = some r → Fr (S_X11_row v1 v2 v3 v4) μ0 r.2 := by
    intro v5 μ hF h
    rw [X11_row_60] at h
    by_cases hs62_0 : v4 = (0 : Int32)
    · rw [if_pos hs62_0] at h
      obtain ⟨r100, hr100, h⟩ := bnd h
      have hF := hF.tr (fr_X7_rankAt n 55 μ r100 hr100) (fun o k hS => (subL_of (L1 := []) (by decide +kernel) hS))
      rw [← Option.some.inj h]; exact hF
    rw [if_neg hs62_0] at h
    by_cases hs62_1 : v4 = (1 : Int32)
    · rw [if_pos hs62_1] at h
      obtain ⟨r112, hr112, h⟩ := bnd h
      have hF := hF.tr (fr_X7_bestAt n 55 μ r112 hr112) (fun o k hS => (subL_of (L1 := [(6, 6, 0), (6, 6, 1), (6, 6, 2), (6, 6, 3), (8, 8, 9999), (15, 15, 8), (57, 68, 1), (57, 68, 9999)]) (by decide +kernel) hS))
      split at h
      rotate_left
      · skip
        exact B132 (r112.1 - v5) r112.2 hF h
      · skip
        exact B132 ((-1) : Int32) r112.2 hF h
    rw [if_neg hs62_1] at h
    by_cases hs62_2 : v4 = (2 : Int32)
    · rw [if_pos hs62_2] at h
      obtain ⟨r141, hr141, h⟩ := bnd h
      have hF := hF.tr (fr_X8_choices n 55 μ r141 hr141) (fun o k hS => (subL_of (L1 := [(6, 6, 0), (6, 6, 1), (6, 6, 2), (6, 6, 3), (8, 8, 9999), (57, 68, 1), (57, 68, 9999)]) (by decide +kernel) hS))
      obtain ⟨r144, hr144, h⟩ := bnd h
      have hF := hF.tr (fr_J6_bitCount_0f7a4 n r141.1 r141.2 r144 hr144) (fun o k hS => (subL_of (L1 := []) (by decide +kernel) hS))
      rw [← Option.some.inj h]; exact hF
    rw [if_neg hs62_2] at h
    by_cases hs62_3 : v4 = (3 : Int32)
    · rw [if_pos hs62_3] at h
      obtain ⟨r156, hr156, h⟩ := bnd h
      have hF := hF.tr (fr_X7_manyBest n 55 μ r156 hr156) (fun o k hS => (subL_of (L1 := [(6, 6, 0), (6, 6, 1), (6, 6, 2), (6, 6, 3), (8, 8, 9999), (15, 15, 8), (57, 68, 1), (57, 68, 9999)]) (by decide +kernel) hS))
      rw [← Option.some.inj h]; exact hF
    rw [if_neg hs62_3] at h
    rw [← Option.some.inj h]; exact hF
  rcases thr_cs h with ⟨kq, m4, hr4, h⟩ | ⟨r4, m4, hr4, h⟩
  · rw [← Option.some.inj h]; exact hF.tr (fr_X11_laySolved n v1 v2 v3 μ _ hr4) (fun o k hS => (subL_of (L1 := [(6, 6, 0), (6, 6, 1), (6, 6, 2), (6, 6, 3), (8, 8, 9999), (15, 15, 6), (15, 15, 7), (16, 16, 9999), (17, 17, 9999), (18, 18, 9999), (19, 19, 9999), (20, 20, 9999), (21, 21, 9999), (55, 55, 1), (56, 56, 9999), (57, 68, 1), (57, 68, 9999), (151, 151, 1), (152, 152, 9999)]) (by decide +kernel) hS))
  have hF := hF.tr (fr_X11_laySolved n v1 v2 v3 μ _ hr4) (fun o k hS => (subL_of (L1 := [(6, 6, 0), (6, 6, 1), (6, 6, 2), (6, 6, 3), (8, 8, 9999), (15, 15, 6), (15, 15, 7), (16, 16, 9999), (17, 17, 9999), (18, 18, 9999), (19, 19, 9999), (20, 20, 9999), (21, 21, 9999), (55, 55, 1), (56, 56, 9999), (57, 68, 1), (57, 68, 9999), (151, 151, 1), (152, 152, 9999)]) (by decide +kernel) hS))
  split at h
  · skip
    exact B60 (v1 * (m4.1 1 1)) m4 hF h
  · skip
    split at h
    · skip
      exact B60 (v1 * (m4.1 1 1)) m4 hF h
    · skip
      obtain ⟨r56, hr56, h⟩ := bnd h
      have hF := hF.tr (fr_X7_worthBy n 55 (((v1 * (m4.1 1 1)) + v4) - (10 : Int32)) m4 r56 hr56) (fun o k hS => (subL_of (L1 := [(6, 6, 0), (6, 6, 1), (6, 6, 2), (6, 6, 3), (8, 8, 9999), (15, 15, 8), (57, 68, 1), (57, 68, 9999)]) (by decide +kernel) hS))
      rw [← Option.some.inj h]; exact hF
set_option maxRecDepth 100000 in
set_option maxHeartbeats 4000000 in
theorem fr_X11_find (n : Nat) (v1 : Int32) (v2 : Int32) (v3 : Int32) (v4 : Int32) (μ : Mu) (r : (Int32 ⊕ Nat) × Mu) (h : X11_find n v1 v2 v3 v4 μ = some r) : Fr (S_X11_find v1 v2 v3 v4) μ r.2 := by
  rw [X11_find] at h
  have hF : Fr (S_X11_find v1 v2 v3 v4) μ μ := Fr.rf
  obtain ⟨μ0, hμ0⟩ : ∃ z, z = μ := ⟨_, rfl⟩
  rw [← hμ0]
  have hF : Fr (S_X11_find v1 v2 v3 v4) μ0 μ := by rw [hμ0]; exact hF
  have B78 : ∀ (μ : Mu), Fr (S_X11_find v1 v2 v3 v4) μ0 μ → X11_find_78 n v1 v2 v3 v4  μ = some r → Fr (S_X11_find v1 v2 v3 v4) μ0 r.2 := by
    intro μ hF h
    rw [X11_find_78] at h
    rw [← Option.some.inj h]; exact hF
  have B20 : ∀ (k : Nat), ∀ (v5 : Int32) (v6 : Int32) (μ : Mu), Fr (S_X11_find v1 v2 v3 v4) μ0 μ → lpF (fun _ _ _ => none) (X11_find_20b n v1 v2 v3 v4) k v5 v6 μ = some r → Fr (S_X11_find v1 v2 v3 v4) μ0 r.2 := by
    intro k
    induction k with
    | zero =>
      intro v5 v6 μ hF h
      cases h
    | succ k ih20 =>
      rw [lpF_s]
      generalize lpF (fun _ _ _ => none) (X11_find_20b n v1 v2 v3 v4) k = k20 at ih20 ⊢
      intro v5 v6 μ hF h
      have B72 : ∀ (v5 : Int32) (v6 : Int32) (μ : Mu), Fr (S_X11_find v1 v2 v3 v4) μ0 μ → X11_find_72 n v1 v2 v3 v4 k20 v5 v6 μ = some r → Fr (S_X11_find v1 v2 v3 v4) μ0 r.2 := by
        intro v5 v6 μ hF h
        rw [X11_find_72] at h
        exact ih20 v5 (v6 + (1 : Int32)) μ hF h
      rw [X11_find_20b] at h
      obtain ⟨r27, hr27, h⟩ := bnd h
      have hF := hF.tr (fr_X1_positionsOf n v2 μ r27 hr27) (fun o k hS => (subL_of (L1 := []) (by decide +kernel) hS))
      split at h
      · skip
        exact B78 r27.2 hF h
      · skip
        split at h
        · skip
          exact B78 r27.2 hF h
        · skip
          obtain ⟨r53, hr53, h⟩ := bnd h
          have hF := hF.tr (fr_X7_indexOf n v1 v2 v6 r27.2 r53 hr53) (fun o k hS => (subL_of (L1 := []) (by decide +kernel) hS))
          obtain ⟨hi56, h⟩ := gd_some h
          have hjhi56 := vin_lt hi56 rfl
          split at h
          rotate_left
          · skip
            exact B72 v5 v6 r53.2 hF h
          · skip
            split at h
            rotate_left
            · skip
              exact B72 (v5 + ((-1) : Int32)) v6 r53.2 hF h
            · skip
              rw [← Option.some.inj h]; exact hF
  rcases thr_cs h with ⟨kq, m1, hr1, h⟩ | ⟨r1, m1, hr1, h⟩
  · rw [← Option.some.inj h]; exact hF.tr (fr_X11_needSide n v1 μ _ hr1) (fun o k hS => (subL_of (L1 := []) (by decide +kernel) hS))
  have hF := hF.tr (fr_X11_needSide n v1 μ _ hr1) (fun o k hS => (subL_of (L1 := []) (by decide +kernel) hS))
  rcases thr_cs h with ⟨kq, m5, hr5, h⟩ | ⟨r5, m5, hr5, h⟩
  · rw [← Option.some.inj h]; exact hF.tr (fr_X11_needSeeds n v2 m1 _ hr5) (fun o k hS => (subL_of (L1 := []) (by decide +kernel) hS))
  have hF := hF.tr (fr_X11_needSeeds n v2 m1 _ hr5) (fun o k hS => (subL_of (L1 := []) (by decide +kernel) hS))
  rcases thr_cs h with ⟨kq, m10, hr10, h⟩ | ⟨r10, m10, hr10, h⟩
  · rw [← Option.some.inj h]; exact hF.tr (fr_X11_needSolved n v2 m5 _ hr10) (fun o k hS => (subL_of (L1 := [(6, 6, 0), (6, 6, 1), (6, 6, 2), (6, 6, 3), (8, 8, 9999), (15, 15, 6), (15, 15, 7), (16, 16, 9999), (17, 17, 9999), (18, 18, 9999), (19, 19, 9999), (20, 20, 9999), (21, 21, 9999), (57, 68, 1), (57, 68, 9999), (151, 151, 1), (152, 152, 9999)]) (by decide +kernel) hS))
  have hF := hF.tr (fr_X11_needSolved n v2 m5 _ hr10) (fun o k hS => (subL_of (L1 := [(6, 6, 0), (6, 6, 1), (6, 6, 2), (6, 6, 3), (8, 8, 9999), (15, 15, 6), (15, 15, 7), (16, 16, 9999), (17, 17, 9999), (18, 18, 9999), (19, 19, 9999), (20, 20, 9999), (21, 21, 9999), (57, 68, 1), (57, 68, 9999), (151, 151, 1), (152, 152, 9999)]) (by decide +kernel) hS))
  exact B20 n v4 (0 : Int32) m10 hF h
set_option maxRecDepth 100000 in
set_option maxHeartbeats 4000000 in
theorem fr_X11_most (n : Nat) (v1 : Int32) (v2 : Int32) (v3 : Int32) (μ : Mu) (r : (Int32 ⊕ Nat) × Mu) (h : X11_most n v1 v2 v3 μ = some r) : Fr (S_X11_most v1 v2 v3) μ r.2 := by
  rw [X11_most] at h
  have hF : Fr (S_X11_most v1 v2 v3) μ μ := Fr.rf
  obtain ⟨μ0, hμ0⟩ : ∃ z, z = μ := ⟨_, rfl⟩
  rw [← hμ0]
  have hF : Fr (S_X11_most v1 v2 v3) μ0 μ := by rw [hμ0]; exact hF
  have B17 : ∀ (μ : Mu), Fr (S_X11_most v1 v2 v3) μ0 μ → X11_most_17 n v1 v2 v3  μ = some r → Fr (S_X11_most v1 v2 v3) μ0 r.2 := by
    intro μ hF h
    rw [X11_most_17] at h
    rw [← Option.some.inj h]; exact hF
  have B117 : ∀ (v4 : Int32) (μ : Mu), Fr (S_X11_most v1 v2 v3) μ0 μ → X11_most_117 n v1 v2 v3 v4 μ = some r → Fr (S_X11_most v1 v2 v3) μ0 r.2 := by
    intro v4 μ hF h
    rw [X11_most_117] at h
    rw [← Option.some.inj h]; exact hF
  have B133 : ∀ (s0 : Int32) (μ : Mu), Fr (S_X11_most v1 v2 v3) μ0 μ → X11_most_133 n v1 v2 v3 s0 μ = some r → Fr (S_X11_most v1 v2 v3) μ0 r.2 := by
    intro s0 μ hF h
    rw [X11_most_133] at h
    rw [← Option.some.inj h]; exact hF
  have B41 : ∀ (k : Nat), ∀ (v4 : Int32) (v5 : Int32) (v6 : Int32) (μ : Mu), Fr (S_X11_most v1 v2 v3) μ0 μ → lpF (fun _ _ _ _ => none) (X11_most_41b n v1 v2 v3) k v4 v5 v6 μ = some r → Fr (S_X11_most v1 v2 v3) μ0 r.2 := by
    intro k
    induction k with
    | zero =>
      intro v4 v5 v6 μ hF h
      cases h
    | succ k ih41 =>
      rw [lpF_s]
      generalize lpF (fun _ _ _ _ => none) (X11_most_41b n v1 v2 v3) k = k41 at ih41 ⊢
      intro v4 v5 v6 μ hF h
      have B98 : ∀ (v4 : Int32) (v5 : Int32) (v6 : Int32) (μ : Mu), Fr (S_X11_most v1 v2 v3) μ0 μ → X11_most_98 n v1 v2 v3 k41 v4 v5 v6 μ = some r → Fr (S_X11_most v1 v2 v3) μ0 r.2 := by
        intro v4 v5 v6 μ hF h
        rw [X11_most_98] at h
        exact ih41 v4 v5 (v6 + (1 : Int32)) μ hF h
      have B90 : ∀ (v6 : Int32) (v7 : Int32) (μ : Mu), Fr (S_X11_most v1 v2 v3) μ0 μ → X11_most_90 n v1 v2 v3 k41 v6 v7 μ = some r → Fr (S_X11_most v1 v2 v3) μ0 r.2 := by
        intro v6 v7 μ hF h
        rw [X11_most_90] at h
        exact B98 v6 v7 v6 μ hF h
      rw [X11_most_41b] at h
      obtain ⟨r48, hr48, h⟩ := bnd h
      have hF := hF.tr (fr_X1_positionsOf n v2 μ r48 hr48) (fun o k hS => (subL_of (L1 := []) (by decide +kernel) hS))
      split at h
      · skip
        split at h
        · skip
          exact B117 v4 r48.2 hF h
        · skip
          split at h
          rotate_left
          · skip
            split at h
            rotate_left
            · skip
              exact B133 v5 r48.2 hF h
            · skip
              exact B133 (-v5) r48.2 hF h
          · skip
            exact B117 v4 r48.2 hF h
      · skip
        obtain ⟨r66, hr66, h⟩ := bnd h
        have hF := hF.tr (fr_X7_indexOf n v1 v2 v6 r48.2 r66 hr66) (fun o k hS => (subL_of (L1 := []) (by decide +kernel) hS))
        obtain ⟨r72, hr72, h⟩ := bnd h
        have hF := hF.tr (fr_X7_measure n r66.1 (v3 / (2 : Int32)) r66.2 r72 hr72) (fun o k hS => (subL_of (L1 := []) (by decide +kernel) hS))
        split at h
        · skip
          exact B90 v6 r72.1 r72.2 hF h
        · skip
          split at h
          · skip
            exact B98 v4 v5 v6 r72.2 hF h
          · skip
            exact B90 v6 r72.1 r72.2 hF h
  rcases thr_cs h with ⟨kq, m1, hr1, h⟩ | ⟨r1, m1, hr1, h⟩
  · rw [← Option.some.inj h]; exact hF.tr (fr_X11_needSide n v1 μ _ hr1) (fun o k hS => (subL_of (L1 := []) (by decide +kernel) hS))
  have hF := hF.tr (fr_X11_needSide n v1 μ _ hr1) (fun o k hS => (subL_of (L1 := []) (by decide +kernel) hS))
  rcases thr_cs h with ⟨kq, m5, hr5, h⟩ | ⟨r5, m5, hr5, h⟩
  · rw [← Option.some.inj h]; exact hF.tr (fr_X11_needSeeds n v2 m1 _ hr5) (fun o k hS => (subL_of (L1 := []) (by decide +kernel) hS))
  have hF := hF.tr (fr_X11_needSeeds n v2 m1 _ hr5) (fun o k hS => (subL_of (L1 := []) (by decide +kernel) hS))
  split at h
  · skip
    exact B17 m5 hF h
  · skip
    split at h
    · skip
      rcases thr_cs h with ⟨kq, m29, hr29, h⟩ | ⟨r29, m29, hr29, h⟩
      · rw [← Option.some.inj h]; exact hF.tr (fr_X11_needSolved n v2 m5 _ hr29) (fun o k hS => (subL_of (L1 := [(6, 6, 0), (6, 6, 1), (6, 6, 2), (6, 6, 3), (8, 8, 9999), (15, 15, 6), (15, 15, 7), (16, 16, 9999), (17, 17, 9999), (18, 18, 9999), (19, 19, 9999), (20, 20, 9999), (21, 21, 9999), (57, 68, 1), (57, 68, 9999), (151, 151, 1), (152, 152, 9999)]) (by decide +kernel) hS))
      have hF := hF.tr (fr_X11_needSolved n v2 m5 _ hr29) (fun o k hS => (subL_of (L1 := [(6, 6, 0), (6, 6, 1), (6, 6, 2), (6, 6, 3), (8, 8, 9999), (15, 15, 6), (15, 15, 7), (16, 16, 9999), (17, 17, 9999), (18, 18, 9999), (19, 19, 9999), (20, 20, 9999), (21, 21, 9999), (57, 68, 1), (57, 68, 9999), (151, 151, 1), (152, 152, 9999)]) (by decide +kernel) hS))
      exact B41 n ((-1) : Int32) ((-1) : Int32) (0 : Int32) m29 hF h
    · skip
      exact B17 m5 hF h
set_option maxRecDepth 100000 in
set_option maxHeartbeats 4000000 in
theorem fr_X11_line (n : Nat) (v1 : Int32) (μ : Mu) (r : (Int32 ⊕ Nat) × Mu) (h : X11_line n v1 μ = some r) : Fr (S_X11_line v1) μ r.2 := by
  rw [X11_line] at h
  have hF : Fr (S_X11_line v1) μ μ := Fr.rf
  obtain ⟨μ0, hμ0⟩ : ∃ z, z = μ := ⟨_, rfl⟩
  rw [← hμ0]
  have hF : Fr (S_X11_line v1) μ0 μ := by rw [hμ0]; exact hF
  have B98 : ∀ (s0 : Int32) (μ : Mu), Fr (S_X11_line v1) μ0 μ → X11_line_98 n v1 s0 μ = some r → Fr (S_X11_line v1) μ0 r.2 := by
    intro s0 μ hF h
    rw [X11_line_98] at h
    rw [← Option.some.inj h]; exact hF
  have B131 : ∀ (s0 : Int32) (μ : Mu), Fr (S_X11_line v1) μ0 μ → X11_line_131 n v1 s0 μ = some r → Fr (S_X11_line v1) μ0 r.2 := by
    intro s0 μ hF h
    rw [X11_line_131] at h
    rw [← Option.some.inj h]; exact hF
  split at h
  · skip
    obtain ⟨r22, hr22, h⟩ := bnd h
    have hF := hF.tr (fr_X6_inPits n 53 μ r22 hr22) (fun o k hS => (subL_of (L1 := []) (by decide +kernel) hS))
    rcases thr_cs h with ⟨kq, m25, hr25, h⟩ | ⟨r25, m25, hr25, h⟩
    · rw [← Option.some.inj h]; exact hF.tr (fr_X11_needSolved n r22.1 r22.2 _ hr25) (fun o k hS => (subL_of (L1 := [(6, 6, 0), (6, 6, 1), (6, 6, 2), (6, 6, 3), (8, 8, 9999), (15, 15, 6), (15, 15, 7), (16, 16, 9999), (17, 17, 9999), (18, 18, 9999), (19, 19, 9999), (20, 20, 9999), (21, 21, 9999), (57, 68, 1), (57, 68, 9999), (151, 151, 1), (152, 152, 9999)]) (by decide +kernel) hS))
    have hF := hF.tr (fr_X11_needSolved n r22.1 r22.2 _ hr25) (fun o k hS => (subL_of (L1 := [(6, 6, 0), (6, 6, 1), (6, 6, 2), (6, 6, 3), (8, 8, 9999), (15, 15, 6), (15, 15, 7), (16, 16, 9999), (17, 17, 9999), (18, 18, 9999), (19, 19, 9999), (20, 20, 9999), (21, 21, 9999), (57, 68, 1), (57, 68, 9999), (151, 151, 1), (152, 152, 9999)]) (by decide +kernel) hS))
    obtain ⟨r36, hr36, h⟩ := bnd h
    have hF := hF.tr (fr_X10_goByBest n 53 m25 r36 hr36) (fun o k hS => (subL_of (L1 := [(6, 6, 0), (6, 6, 1), (6, 6, 2), (6, 6, 3), (8, 8, 9999), (15, 15, 8), (22, 22, 2), (22, 22, 3), (23, 23, 9999), (24, 24, 9999), (57, 68, 1), (57, 68, 9999), (153, 153, 1), (154, 154, 9999)]) (by decide +kernel) hS))
    by_cases hs40_m3 : v1 = ((-3) : Int32)
    · rw [if_pos hs40_m3] at h
      obtain ⟨r79, hr79, h⟩ := bnd h
      have hF := hF.tr (fr_X8_scoreOf n 153 r36.2 r79 hr79) (fun o k hS => (subL_of (L1 := [(6, 6, 0), (6, 6, 1), (6, 6, 2), (6, 6, 3), (57, 68, 1), (57, 68, 9999)]) (by decide +kernel) hS))
      rw [← Option.some.inj h]; exact hF
    rw [if_neg hs40_m3] at h
    by_cases hs40_m2 : v1 = ((-2) : Int32)
    · rw [if_pos hs40_m2] at h
      split at h
      · skip
        exact B98 (0 : Int32) r36.2 hF h
      · skip
        exact B98 (1 : Int32) r36.2 hF h
    rw [if_neg hs40_m2] at h
    by_cases hs40_m1 : v1 = ((-1) : Int32)
    · rw [if_pos hs40_m1] at h
      rw [← Option.some.inj h]; exact hF
    rw [if_neg hs40_m1] at h
    split at h
    · skip
      exact B131 ((-1) : Int32) r36.2 hF h
    · skip
      obtain ⟨hi126, h⟩ := gd_some h
      have hjhi126 := vin_lt hi126 rfl
      exact B131 (r36.2.1 23 v1.toNatClampNeg) r36.2 hF h
  · skip
    rw [← Option.some.inj h]; exact hF
set_option maxRecDepth 100000 in
set_option maxHeartbeats 4000000 in
theorem fr_X11_plays (n : Nat) (v1 : Int32) (μ : Mu) (r : (Int32 ⊕ Nat) × Mu) (h : X11_plays n v1 μ = some r) : Fr (S_X11_plays v1) μ r.2 := by
  rw [X11_plays] at h
  have hF : Fr (S_X11_plays v1) μ μ := Fr.rf
  obtain ⟨μ0, hμ0⟩ : ∃ z, z = μ := ⟨_, rfl⟩
  rw [← hμ0]
  have hF : Fr (S_X11_plays v1) μ0 μ := by rw [hμ0]; exact hF
  have B9 : ∀ (μ : Mu), Fr (S_X11_plays v1) μ0 μ → X11_plays_9 n v1  μ = some r → Fr (S_X11_plays v1) μ0 r.2 := by
    intro μ hF h
    rw [X11_plays_9] at h
    rw [← Option.some.inj h]; exact hF
  split at h
  · skip
    exact B9 μ hF h
  · skip
    split at h
    · skip
      obtain ⟨r29, hr29, h⟩ := bnd h
      have hF := hF.tr (fr_X0_countFrom n 53 v1 μ r29 hr29) (fun o k hS => (subL_of (L1 := [(6, 6, 0), (6, 6, 1), (6, 6, 2), (6, 6, 3), (8, 8, 9999), (57, 68, 1), (57, 68, 9999), (155, 155, 1), (155, 168, 1), (155, 168, 9999), (156, 156, 9999)]) (by decide +kernel) hS))
      rw [← Option.some.inj h]; exact hF
    · skip
      exact B9 μ hF h
set_option maxRecDepth 100000 in
set_option maxHeartbeats 4000000 in
theorem fr_X11_reached (n : Nat) (v1 : Int32) (μ : Mu) (r : (Int32 ⊕ Nat) × Mu) (h : X11_reached n v1 μ = some r) : Fr (S_X11_reached v1) μ r.2 := by
  rw [X11_reached] at h
  have hF : Fr (S_X11_reached v1) μ μ := Fr.rf
  obtain ⟨μ0, hμ0⟩ : ∃ z, z = μ := ⟨_, rfl⟩
  rw [← hμ0]
  have hF : Fr (S_X11_reached v1) μ0 μ := by rw [hμ0]; exact hF
  have B9 : ∀ (μ : Mu), Fr (S_X11_reached v1) μ0 μ → X11_reached_9 n v1  μ = some r → Fr (S_X11_reached v1) μ0 r.2 := by
    intro μ hF h
    rw [X11_reached_9] at h
    rw [← Option.some.inj h]; exact hF
  split at h
  · skip
    exact B9 μ hF h
  · skip
    split at h
    · skip
      obtain ⟨r29, hr29, h⟩ := bnd h
      have hF := hF.tr (fr_X0_countUnlike n 53 v1 μ r29 hr29) (fun o k hS => (subL_of (L1 := [(6, 6, 0), (6, 6, 1), (6, 6, 2), (6, 6, 3), (8, 8, 9999), (25, 25, 11), (28, 28, 9999), (29, 29, 9999), (30, 30, 9999), (57, 68, 1), (57, 68, 9999), (155, 155, 1), (155, 168, 1), (155, 168, 9999), (156, 156, 9999)]) (by decide +kernel) hS))
      rw [← Option.some.inj h]; exact hF
    · skip
      exact B9 μ hF h
set_option maxRecDepth 100000 in
set_option maxHeartbeats 4000000 in
theorem fr_X11_soonest (n : Nat) (v1 : Int32) (μ : Mu) (r : Int32 × Mu) (h : X11_soonest n v1 μ = some r) : Fr (S_X11_soonest v1) μ r.2 := by
  rw [X11_soonest] at h
  have hF : Fr (S_X11_soonest v1) μ μ := Fr.rf
  obtain ⟨μ0, hμ0⟩ : ∃ z, z = μ := ⟨_, rfl⟩
  rw [← hμ0]
  have hF : Fr (S_X11_soonest v1) μ0 μ := by rw [hμ0]; exact hF
  have B41 : ∀ (s0 : Int32) (μ : Mu), Fr (S_X11_soonest v1) μ0 μ → X11_soonest_41 n v1 s0 μ = some r → Fr (S_X11_soonest v1) μ0 r.2 := by
    intro s0 μ hF h
    rw [X11_soonest_41] at h
    rw [← Option.some.inj h]; exact hF
  have B40 : ∀ (μ : Mu), Fr (S_X11_soonest v1) μ0 μ → X11_soonest_40 n v1  μ = some r → Fr (S_X11_soonest v1) μ0 r.2 := by
    intro μ hF h
    rw [X11_soonest_40] at h
    exact B41 ((-1) : Int32) μ hF h
  obtain ⟨r8, hr8, h⟩ := bnd h
  have hF := hF.tr (fr_X0_seekEnd n 53 μ r8 hr8) (fun o k hS => (subL_of (L1 := [(6, 6, 0), (6, 6, 1), (6, 6, 2), (6, 6, 3), (8, 8, 9999), (25, 25, 5), (25, 25, 6), (25, 25, 7), (26, 26, 9999), (57, 68, 1), (57, 68, 9999), (155, 155, 1), (155, 168, 1), (155, 168, 9999), (156, 156, 9999), (169, 169, 1), (170, 170, 9999)]) (by decide +kernel) hS))
  split at h
  rotate_left
  · skip
    split at h
    · skip
      exact B40 r8.2 hF h
    · skip
      split at h
      · skip
        exact B40 r8.2 hF h
      · skip
        obtain ⟨hi36, h⟩ := gd_some h
        have hjhi36 := vin_lt hi36 rfl
        exact B41 (r8.2.1 26 v1.toNatClampNeg) r8.2 hF h
  · skip
    rw [← Option.some.inj h]; exact hF
set_option maxRecDepth 100000 in
set_option maxHeartbeats 4000000 in
theorem fr_X11_against (n : Nat) (v1 : Int32) (v2 : Int32) (μ : Mu) (r : (Int32 ⊕ Nat) × Mu) (h : X11_against n v1 v2 μ = some r) : Fr (S_X11_against v1 v2) μ r.2 := by
  rw [X11_against] at h
  have hF : Fr (S_X11_against v1 v2) μ μ := Fr.rf
  obtain ⟨μ0, hμ0⟩ : ∃ z, z = μ := ⟨_, rfl⟩
  rw [← hμ0]
  have hF : Fr (S_X11_against v1 v2) μ0 μ := by rw [hμ0]; exact hF
  have B20 : ∀ (μ : Mu), Fr (S_X11_against v1 v2) μ0 μ → X11_against_20 n v1 v2  μ = some r → Fr (S_X11_against v1 v2) μ0 r.2 := by
    intro μ hF h
    rw [X11_against_20] at h
    rw [← Option.some.inj h]; exact hF
  obtain ⟨r5, hr5, h⟩ := bnd h
  have hF := hF.tr (fr_X6_inPits n 53 μ r5 hr5) (fun o k hS => (subL_of (L1 := []) (by decide +kernel) hS))
  rcases thr_cs h with ⟨kq, m8, hr8, h⟩ | ⟨r8, m8, hr8, h⟩
  · rw [← Option.some.inj h]; exact hF.tr (fr_X11_needSolved n r5.1 r5.2 _ hr8) (fun o k hS => (subL_of (L1 := [(6, 6, 0), (6, 6, 1), (6, 6, 2), (6, 6, 3), (8, 8, 9999), (15, 15, 6), (15, 15, 7), (16, 16, 9999), (17, 17, 9999), (18, 18, 9999), (19, 19, 9999), (20, 20, 9999), (21, 21, 9999), (57, 68, 1), (57, 68, 9999), (151, 151, 1), (152, 152, 9999)]) (by decide +kernel) hS))
  have hF := hF.tr (fr_X11_needSolved n r5.1 r5.2 _ hr8) (fun o k hS => (subL_of (L1 := [(6, 6, 0), (6, 6, 1), (6, 6, 2), (6, 6, 3), (8, 8, 9999), (15, 15, 6), (15, 15, 7), (16, 16, 9999), (17, 17, 9999), (18, 18, 9999), (19, 19, 9999), (20, 20, 9999), (21, 21, 9999), (57, 68, 1), (57, 68, 9999), (151, 151, 1), (152, 152, 9999)]) (by decide +kernel) hS))
  split at h
  · skip
    exact B20 m8 hF h
  · skip
    split at h
    · skip
      obtain ⟨r40, hr40, h⟩ := bnd h
      have hF := hF.tr (fr_X10_goByDraws n 53 v1 (1 : Int32) m8 r40 hr40) (fun o k hS => (subL_of (L1 := [(6, 6, 0), (6, 6, 1), (6, 6, 2), (6, 6, 3), (8, 8, 9999), (15, 15, 8), (22, 22, 2), (22, 22, 3), (23, 23, 9999), (57, 68, 1), (57, 68, 9999), (153, 153, 1), (154, 154, 9999)]) (by decide +kernel) hS))
      obtain ⟨r45, hr45, h⟩ := bnd h
      have hF := hF.tr (fr_X11_toldOfPlay n v2 r40.2 r45 hr45) (fun o k hS => (subL_of (L1 := [(6, 6, 0), (6, 6, 1), (6, 6, 2), (6, 6, 3), (57, 68, 1), (57, 68, 9999)]) (by decide +kernel) hS))
      rw [← Option.some.inj h]; exact hF
    · skip
      exact B20 m8 hF h
set_option maxRecDepth 100000 in
set_option maxHeartbeats 4000000 in
theorem fr_X11_restore (n : Nat) (v1 : Int32) (μ : Mu) (r : (Unit ⊕ Nat) × Mu) (h : X11_restore n v1 μ = some r) : Fr (S_X11_restore v1) μ r.2 := by
  rw [X11_restore] at h
  have hF : Fr (S_X11_restore v1) μ μ := Fr.rf
  obtain ⟨μ0, hμ0⟩ : ∃ z, z = μ := ⟨_, rfl⟩
  rw [← hμ0]
  have hF : Fr (S_X11_restore v1) μ0 μ := by rw [hμ0]; exact hF
  rcases thr_cs h with ⟨kq, m2, hr2, h⟩ | ⟨r2, m2, hr2, h⟩
  · rw [← Option.some.inj h]; exact hF.tr (fr_X11_anyImage n v1 μ _ hr2) (fun o k hS => (subL_of (L1 := []) (by decide +kernel) hS))
  have hF := hF.tr (fr_X11_anyImage n v1 μ _ hr2) (fun o k hS => (subL_of (L1 := []) (by decide +kernel) hS))
  obtain ⟨hkr2, h⟩ := kd_some h
  have hjhkr2 := kdI hkr2
  split at h
  rotate_left
  · skip
    obtain ⟨r33, hr33, h⟩ := bnd h
    have hF := hF.tr (fr_X11_settle n (r2 + 1) (r2 + 2) m2 r33 hr33) (fun o k hS => (subL_of (L1 := [(1, 1, 0), (1, 1, 1), (1, 1, 2), (1, 1, 3), (1, 1, 4), (1, 1, 5), (1, 1, 6), (1, 1, 7), (1, 1, 8), (2, 2, 1), (2, 2, 2), (2, 2, 3), (3, 3, 9999), (4, 4, 9999), (9, 9, 0), (9, 9, 1), (53, 53, 1), (54, 54, 9999)]) (by decide +kernel) hS))
    rw [← Option.some.inj h]; exact hF
  · skip
    rw [← Option.some.inj h]; exact hF
set_option maxRecDepth 100000 in
set_option maxHeartbeats 4000000 in
theorem fr_X12_solves (n : Nat) (v1 : Int32) (μ : Mu) (r : Int32 × Mu) (h : X12_solves n v1 μ = some r) : Fr (S_X12_solves v1) μ r.2 := by
  rw [X12_solves] at h
  have hF : Fr (S_X12_solves v1) μ μ := Fr.rf
  obtain ⟨μ0, hμ0⟩ : ∃ z, z = μ := ⟨_, rfl⟩
  rw [← hμ0]
  have hF : Fr (S_X12_solves v1) μ0 μ := by rw [hμ0]; exact hF
  have B106 : ∀ (k : Nat), ∀ (μ : Mu), Fr (S_X12_solves v1) μ0 μ → lpF (fun _ => none) (X12_solves_106b n v1) k  μ = some r → Fr (S_X12_solves v1) μ0 r.2 := by
    intro k
    induction k with
    | zero =>
      intro μ hF h
      cases h
    | succ k ih106 =>
      rw [lpF_s]
      generalize lpF (fun _ => none) (X12_solves_106b n v1) k = k106 at ih106 ⊢
      intro μ hF h
      rw [X12_solves_106b] at h
      split at h
      · skip
        obtain ⟨r175, hr175, h⟩ := bnd h
        have hF := hF.tr (fr_X12_copies n 192 172 μ r175 hr175) (fun o k hS => by
    unfold S_X12_copies at hS
    rcases hS with hS | hS
    · exact (subL_of (by decide +kernel) hS)
    · exact inL_mk 172 172 9999 (by decide) (by omega) (by omega) (by omega))
        rw [← Option.some.inj h]; exact hF
      · skip
        obtain ⟨hi136, h⟩ := gd_some h
        have hjhi136 := vin_lt hi136 rfl
        obtain ⟨r140, hr140, h⟩ := bnd h
        have hF := hF.tr (fr_X12_positionsOf n ((μ.1 171 40) + (1 : Int32)) μ r140 hr140) (fun o k hS => (subL_of (L1 := [(171, 171, 31), (183, 183, 9999)]) (by decide +kernel) hS))
        obtain ⟨hi145, h⟩ := gd_some h
        have hjhi145 := vin_lt hi145 rfl
        have hF := hF.si (o := 189) (k := (((μ.1 171 40) + (1 : Int32)) + (1 : Int32)).toNatClampNeg) (v := ((μ.1 189 ((μ.1 171 40) + (1 : Int32)).toNatClampNeg) + (r140.1.toInt32))) (by unfold S_X12_solves; exact inL_mk 189 189 9999 (by decide) (by omega) (by omega) (by omega))
        obtain ⟨r149, hr149, h⟩ := bnd h
        have hF := hF.tr (fr_X12_laysMoves n ((μ.1 171 40) + (1 : Int32)) (si r140.2 189 (((μ.1 171 40) + (1 : Int32)) + (1 : Int32)).toNatClampNeg ((μ.1 189 ((μ.1 171 40) + (1 : Int32)).toNatClampNeg) + (r140.1.toInt32))) r149 hr149) (fun o k hS => (subL_of (L1 := [(171, 171, 18), (171, 171, 19), (171, 171, 20), (171, 171, 21), (171, 171, 22), (171, 171, 23), (171, 171, 31), (172, 172, 9999), (178, 178, 9999), (183, 183, 9999), (187, 187, 9999), (188, 188, 9999), (190, 190, 9999)]) (by decide +kernel) hS))
        obtain ⟨r155, hr155, h⟩ := bnd h
        have hF := hF.tr (fr_X12_settles n ((μ.1 171 40) + (1 : Int32)) r149.2 r155 hr155) (fun o k hS => (subL_of (L1 := [(171, 171, 31), (178, 178, 9999), (183, 183, 9999), (184, 184, 9999), (185, 185, 9999), (186, 186, 9999)]) (by decide +kernel) hS))
        have hF := hF.si (o := 171) (k := 40) (v := ((μ.1 171 40) + (1 : Int32))) (by unfold S_X12_solves; exact inL_mk 171 171 40 (by decide) (by omega) (by omega) (by omega))
        exact ih106 (si r155.2 171 40 ((μ.1 171 40) + (1 : Int32))) hF h
  have B85 : ∀ (μ : Mu), Fr (S_X12_solves v1) μ0 μ → X12_solves_85 n v1  μ = some r → Fr (S_X12_solves v1) μ0 r.2 := by
    intro μ hF h
    rw [X12_solves_85] at h
    split at h
    · skip
      obtain ⟨r103, hr103, h⟩ := bnd h
      have hF := hF.tr (fr_X12_copies n 172 192 μ r103 hr103) (fun o k hS => by
    unfold S_X12_copies at hS
    rcases hS with hS | hS
    · exact (subL_of (by decide +kernel) hS)
    · exact inL_mk 192 192 9999 (by decide) (by omega) (by omega) (by omega))
      exact B106 n r103.2 hF h
    · skip
      rw [← Option.some.inj h]; exact hF
  have B46 : ∀ (k : Nat), ∀ (v4 : Int32) (μ : Mu), Fr (S_X12_solves v1) μ0 μ → lpF (fun _ _ => none) (X12_solves_46b n v1) k v4 μ = some r → Fr (S_X12_solves v1) μ0 r.2 := by
    intro k
    induction k with
    | zero =>
      intro v4 μ hF h
      cases h
    | succ k ih46 =>
      rw [lpF_s]
      generalize lpF (fun _ _ => none) (X12_solves_46b n v1) k = k46 at ih46 ⊢
      intro v4 μ hF h
      rw [X12_solves_46b] at h
      split at h
      · skip
        have hF := hF.si (o := 171) (k := 40) (v := ((-1) : Int32)) (by unfold S_X12_solves; exact inL_mk 171 171 40 (by decide) (by omega) (by omega) (by omega))
        have hF := hF.si (o := 189) (k := 0) (v := (0 : Int32)) (by unfold S_X12_solves; exact inL_mk 189 189 9999 (by decide) (by omega) (by omega) (by omega))
        exact B85 (si (si μ 171 40 ((-1) : Int32)) 189 0 (0 : Int32)) hF h
      · skip
        obtain ⟨hi65, h⟩ := gd_some h
        have hjhi65 := vin_lt hi65 rfl
        obtain ⟨hi66, h⟩ := gd_some h
        have hjhi66 := vin_lt hi66 rfl
        have hF := hF.si (o := 191) (k := v4.toNatClampNeg) (v := (μ.1 172 v4.toNatClampNeg)) (by unfold S_X12_solves; exact inL_mk 191 191 9999 (by decide) (by omega) (by omega) (by omega))
        exact ih46 (v4 + (1 : Int32)) (si μ 191 v4.toNatClampNeg (μ.1 172 v4.toNatClampNeg)) hF h
  have B5 : ∀ (k : Nat), ∀ (v2 : Int64) (v4 : Int32) (μ : Mu), Fr (S_X12_solves v1) μ0 μ → lpF (fun _ _ _ => none) (X12_solves_5b n v1) k v2 v4 μ = some r → Fr (S_X12_solves v1) μ0 r.2 := by
    intro k
    induction k with
    | zero =>
      intro v2 v4 μ hF h
      cases h
    | succ k ih5 =>
      rw [lpF_s]
      generalize lpF (fun _ _ _ => none) (X12_solves_5b n v1) k = k5 at ih5 ⊢
      intro v2 v4 μ hF h
      rw [X12_solves_5b] at h
      split at h
      · skip
        obtain ⟨r37, hr37, h⟩ := bnd h
        have hF := hF.tr (fr_X12_areRules n μ r37 hr37) (fun o k hS => (subL_of (L1 := []) (by decide +kernel) hS))
        split at h
        rotate_left
        · skip
          exact B85 r37.2 hF h
        · skip
          exact B46 n (1 : Int32) r37.2 hF h
      · skip
        obtain ⟨r15, hr15, h⟩ := bnd h
        have hF := hF.tr (fr_X12_positionsOf n v4 μ r15 hr15) (fun o k hS => (subL_of (L1 := [(171, 171, 31), (183, 183, 9999)]) (by decide +kernel) hS))
        split at h
        · skip
          exact ih5 (v2 + r15.1) (v4 + (1 : Int32)) r15.2 hF h
        · skip
          rw [← Option.some.inj h]; exact hF
  exact B5 n (0 : Int64) (0 : Int32) μ hF h
set_option maxRecDepth 100000 in
set_option maxHeartbeats 4000000 in
theorem fr_X12_value (n : Nat) (μ : Mu) (r : Int32 × Mu) (h : X12_value n  μ = some r) : Fr S_X12_value μ r.2 := by
  rw [X12_value] at h
  have hF : Fr S_X12_value μ μ := Fr.rf
  obtain ⟨μ0, hμ0⟩ : ∃ z, z = μ := ⟨_, rfl⟩
  rw [← hμ0]
  have hF : Fr S_X12_value μ0 μ := by rw [hμ0]; exact hF
  have B31 : ∀ (s0 : Int32) (μ : Mu), Fr S_X12_value μ0 μ → X12_value_31 n s0 μ = some r → Fr S_X12_value μ0 r.2 := by
    intro s0 μ hF h
    rw [X12_value_31] at h
    rw [← Option.some.inj h]; exact hF
  have hF := hF.si (o := 171) (k := 5) (v := (0 : Int32)) (by unfold S_X12_value; exact inL_mk 171 171 5 (by decide) (by omega) (by omega) (by omega))
  obtain ⟨r7, hr7, h⟩ := bnd h
  have hF := hF.tr (fr_X12_seedsNow n (si μ 171 5 (0 : Int32)) r7 hr7) (fun o k hS => (subL_of (L1 := []) (by decide +kernel) hS))
  obtain ⟨r10, hr10, h⟩ := bnd h
  have hF := hF.tr (fr_X12_solves n r7.1 r7.2 r10 hr10) (fun o k hS => (subL_of (L1 := [(171, 171, 18), (171, 171, 19), (171, 171, 20), (171, 171, 21), (171, 171, 22), (171, 171, 23), (171, 171, 31), (171, 171, 40), (172, 172, 9999), (178, 178, 9999), (183, 183, 9999), (184, 184, 9999), (185, 185, 9999), (186, 186, 9999), (187, 187, 9999), (188, 188, 9999), (189, 189, 9999), (190, 190, 9999), (191, 191, 9999), (192, 192, 9999)]) (by decide +kernel) hS))
  split at h
  · skip
    exact B31 ((-1000) : Int32) r10.2 hF h
  · skip
    obtain ⟨r21, hr21, h⟩ := bnd h
    have hF := hF.tr (fr_X12_seatNow n r10.2 r21 hr21) (fun o k hS => (subL_of (L1 := [(171, 171, 31), (178, 178, 9999), (183, 183, 9999)]) (by decide +kernel) hS))
    obtain ⟨hi24, h⟩ := gd_some h
    have hjhi24 := vin_lt hi24 rfl
    exact B31 (r21.2.1 184 r21.1.toNatClampNeg) r21.2 hF h
set_option maxRecDepth 100000 in
set_option maxHeartbeats 4000000 in
theorem fr_X12_rank (n : Nat) (μ : Mu) (r : Int32 × Mu) (h : X12_rank n  μ = some r) : Fr S_X12_rank μ r.2 := by
  rw [X12_rank] at h
  have hF : Fr S_X12_rank μ μ := Fr.rf
  obtain ⟨μ0, hμ0⟩ : ∃ z, z = μ := ⟨_, rfl⟩
  rw [← hμ0]
  have hF : Fr S_X12_rank μ0 μ := by rw [hμ0]; exact hF
  have B29 : ∀ (s0 : Int32) (μ : Mu), Fr S_X12_rank μ0 μ → X12_rank_29 n s0 μ = some r → Fr S_X12_rank μ0 r.2 := by
    intro s0 μ hF h
    rw [X12_rank_29] at h
    rw [← Option.some.inj h]; exact hF
  have hF := hF.si (o := 171) (k := 5) (v := (0 : Int32)) (by unfold S_X12_rank; exact inL_mk 171 171 5 (by decide) (by omega) (by omega) (by omega))
  obtain ⟨r7, hr7, h⟩ := bnd h
  have hF := hF.tr (fr_X12_seedsNow n (si μ 171 5 (0 : Int32)) r7 hr7) (fun o k hS => (subL_of (L1 := []) (by decide +kernel) hS))
  obtain ⟨r10, hr10, h⟩ := bnd h
  have hF := hF.tr (fr_X12_solves n r7.1 r7.2 r10 hr10) (fun o k hS => (subL_of (L1 := [(171, 171, 18), (171, 171, 19), (171, 171, 20), (171, 171, 21), (171, 171, 22), (171, 171, 23), (171, 171, 31), (171, 171, 40), (172, 172, 9999), (178, 178, 9999), (183, 183, 9999), (184, 184, 9999), (185, 185, 9999), (186, 186, 9999), (187, 187, 9999), (188, 188, 9999), (189, 189, 9999), (190, 190, 9999), (191, 191, 9999), (192, 192, 9999)]) (by decide +kernel) hS))
  split at h
  · skip
    exact B29 ((-1) : Int32) r10.2 hF h
  · skip
    obtain ⟨r21, hr21, h⟩ := bnd h
    have hF := hF.tr (fr_X12_seatNow n r10.2 r21 hr21) (fun o k hS => (subL_of (L1 := [(171, 171, 31), (178, 178, 9999), (183, 183, 9999)]) (by decide +kernel) hS))
    obtain ⟨hi24, h⟩ := gd_some h
    have hjhi24 := vin_lt hi24 rfl
    exact B29 (r21.2.1 185 r21.1.toNatClampNeg) r21.2 hF h
set_option maxRecDepth 100000 in
set_option maxHeartbeats 4000000 in
theorem fr_X12_best (n : Nat) (μ : Mu) (r : Int32 × Mu) (h : X12_best n  μ = some r) : Fr S_X12_best μ r.2 := by
  rw [X12_best] at h
  have hF : Fr S_X12_best μ μ := Fr.rf
  obtain ⟨μ0, hμ0⟩ : ∃ z, z = μ := ⟨_, rfl⟩
  rw [← hμ0]
  have hF : Fr S_X12_best μ0 μ := by rw [hμ0]; exact hF
  have B24 : ∀ (s0 : Int32) (μ : Mu), Fr S_X12_best μ0 μ → X12_best_24 n s0 μ = some r → Fr S_X12_best μ0 r.2 := by
    intro s0 μ hF h
    rw [X12_best_24] at h
    rw [← Option.some.inj h]; exact hF
  have hF := hF.si (o := 171) (k := 5) (v := (0 : Int32)) (by unfold S_X12_best; exact inL_mk 171 171 5 (by decide) (by omega) (by omega) (by omega))
  obtain ⟨r7, hr7, h⟩ := bnd h
  have hF := hF.tr (fr_X12_seedsNow n (si μ 171 5 (0 : Int32)) r7 hr7) (fun o k hS => (subL_of (L1 := []) (by decide +kernel) hS))
  obtain ⟨r10, hr10, h⟩ := bnd h
  have hF := hF.tr (fr_X12_solves n r7.1 r7.2 r10 hr10) (fun o k hS => (subL_of (L1 := [(171, 171, 18), (171, 171, 19), (171, 171, 20), (171, 171, 21), (171, 171, 22), (171, 171, 23), (171, 171, 31), (171, 171, 40), (172, 172, 9999), (178, 178, 9999), (183, 183, 9999), (184, 184, 9999), (185, 185, 9999), (186, 186, 9999), (187, 187, 9999), (188, 188, 9999), (189, 189, 9999), (190, 190, 9999), (191, 191, 9999), (192, 192, 9999)]) (by decide +kernel) hS))
  split at h
  · skip
    exact B24 ((-1) : Int32) r10.2 hF h
  · skip
    obtain ⟨r17, hr17, h⟩ := bnd h
    have hF := hF.tr (fr_X12_bestNow n r10.2 r17 hr17) (fun o k hS => (subL_of (L1 := [(171, 171, 31), (178, 178, 9999), (183, 183, 9999)]) (by decide +kernel) hS))
    exact B24 r17.1 r17.2 hF h
set_option maxRecDepth 100000 in
set_option maxHeartbeats 4000000 in
theorem fr_X12_worth (n : Nat) (v1 : Int32) (μ : Mu) (r : Int32 × Mu) (h : X12_worth n v1 μ = some r) : Fr (S_X12_worth v1) μ r.2 := by
  rw [X12_worth] at h
  have hF : Fr (S_X12_worth v1) μ μ := Fr.rf
  obtain ⟨μ0, hμ0⟩ : ∃ z, z = μ := ⟨_, rfl⟩
  rw [← hμ0]
  have hF : Fr (S_X12_worth v1) μ0 μ := by rw [hμ0]; exact hF
  have B24 : ∀ (μ : Mu), Fr (S_X12_worth v1) μ0 μ → X12_worth_24 n v1  μ = some r → Fr (S_X12_worth v1) μ0 r.2 := by
    intro μ hF h
    rw [X12_worth_24] at h
    rw [← Option.some.inj h]; exact hF
  have hF := hF.si (o := 171) (k := 5) (v := (0 : Int32)) (by unfold S_X12_worth; exact inL_mk 171 171 5 (by decide) (by omega) (by omega) (by omega))
  obtain ⟨r7, hr7, h⟩ := bnd h
  have hF := hF.tr (fr_X12_seedsNow n (si μ 171 5 (0 : Int32)) r7 hr7) (fun o k hS => (subL_of (L1 := []) (by decide +kernel) hS))
  obtain ⟨r10, hr10, h⟩ := bnd h
  have hF := hF.tr (fr_X12_solves n r7.1 r7.2 r10 hr10) (fun o k hS => (subL_of (L1 := [(171, 171, 18), (171, 171, 19), (171, 171, 20), (171, 171, 21), (171, 171, 22), (171, 171, 23), (171, 171, 31), (171, 171, 40), (172, 172, 9999), (178, 178, 9999), (183, 183, 9999), (184, 184, 9999), (185, 185, 9999), (186, 186, 9999), (187, 187, 9999), (188, 188, 9999), (189, 189, 9999), (190, 190, 9999), (191, 191, 9999), (192, 192, 9999)]) (by decide +kernel) hS))
  split at h
  · skip
    exact B24 r10.2 hF h
  · skip
    obtain ⟨r18, hr18, h⟩ := bnd h
    have hF := hF.tr (fr_X12_whyNot n v1 r10.2 r18 hr18) (fun o k hS => (subL_of (L1 := [(171, 171, 18), (171, 171, 19), (171, 171, 20), (171, 171, 21), (171, 171, 22), (171, 171, 23), (178, 178, 9999)]) (by decide +kernel) hS))
    split at h
    · skip
      obtain ⟨r30, hr30, h⟩ := bnd h
      have hF := hF.tr (fr_X12_seatNow n r18.2 r30 hr30) (fun o k hS => (subL_of (L1 := [(171, 171, 31), (178, 178, 9999), (183, 183, 9999)]) (by decide +kernel) hS))
      obtain ⟨hd40, h⟩ := dv_some h
      obtain ⟨r45, hr45, h⟩ := bnd h
      have hF := hF.tr (fr_X12_worthOf n r30.1 (v1 - v1 / (r30.2.1 172 1) * (r30.2.1 172 1)) 184 r30.2 r45 hr45) (fun o k hS => (subL_of (L1 := []) (by decide +kernel) hS))
      rw [← Option.some.inj h]; exact hF
    · skip
      exact B24 r18.2 hF h
set_option maxRecDepth 100000 in
set_option maxHeartbeats 4000000 in
theorem fr_X12_valueOf (n : Nat) (v1 : Int32) (v2 : Int32) (v3 : Int32) (μ : Mu) (r : Int32 × Mu) (h : X12_valueOf n v1 v2 v3 μ = some r) : Fr (S_X12_valueOf v1 v2 v3) μ r.2 := by
  rw [X12_valueOf] at h
  have hF : Fr (S_X12_valueOf v1 v2 v3) μ μ := Fr.rf
  obtain ⟨μ0, hμ0⟩ : ∃ z, z = μ := ⟨_, rfl⟩
  rw [← hμ0]
  have hF : Fr (S_X12_valueOf v1 v2 v3) μ0 μ := by rw [hμ0]; exact hF
  have B102 : ∀ (s0 : Int32) (μ : Mu), Fr (S_X12_valueOf v1 v2 v3) μ0 μ → X12_valueOf_102 n v1 v2 v3 s0 μ = some r → Fr (S_X12_valueOf v1 v2 v3) μ0 r.2 := by
    intro s0 μ hF h
    rw [X12_valueOf_102] at h
    rw [← Option.some.inj h]; exact hF
  have B29 : ∀ (s1 : Int32) (μ : Mu), Fr (S_X12_valueOf v1 v2 v3) μ0 μ → X12_valueOf_29 n v1 v2 v3 s1 μ = some r → Fr (S_X12_valueOf v1 v2 v3) μ0 r.2 := by
    intro s1 μ hF h
    rw [X12_valueOf_29] at h
    have hF := hF.si (o := 171) (k := 5) (v := s1) (by unfold S_X12_valueOf; exact inL_mk 171 171 5 (by decide) (by omega) (by omega) (by omega))
    split at h
    · skip
      obtain ⟨r43, hr43, h⟩ := bnd h
      have hF := hF.tr (fr_X12_solves n v2 (si μ 171 5 s1) r43 hr43) (fun o k hS => (subL_of (L1 := [(171, 171, 18), (171, 171, 19), (171, 171, 20), (171, 171, 21), (171, 171, 22), (171, 171, 23), (171, 171, 31), (171, 171, 40), (172, 172, 9999), (178, 178, 9999), (183, 183, 9999), (184, 184, 9999), (185, 185, 9999), (186, 186, 9999), (187, 187, 9999), (188, 188, 9999), (189, 189, 9999), (190, 190, 9999), (191, 191, 9999), (192, 192, 9999)]) (by decide +kernel) hS))
      split at h
      rotate_left
      · skip
        obtain ⟨hi65, h⟩ := gd_some h
        have hjhi65 := vin_lt hi65 rfl
        obtain ⟨hi71, h⟩ := gd_some h
        have hjhi71 := vin_lt hi71 rfl
        obtain ⟨r76, hr76, h⟩ := bnd h
        have hF := hF.tr (fr_X12_within n (v3.toInt64) (0 : Int64) ((((r43.2.1 189 (v2 + (1 : Int32)).toNatClampNeg) - (r43.2.1 189 v2.toNatClampNeg)) - (1 : Int32)).toInt64) r43.2 r76 hr76) (fun o k hS => (subL_of (L1 := []) (by decide +kernel) hS))
        split at h
        · skip
          obtain ⟨r99, hr99, h⟩ := bnd h
          have hF := hF.tr (fr_X12_fails n (1 : Int32) r76.2 r99 hr99) (fun o k hS => (subL_of (L1 := [(171, 171, 5)]) (by decide +kernel) hS))
          exact B102 r99.1 r99.2 hF h
        · skip
          obtain ⟨r90, hr90, h⟩ := bnd h
          have hF := hF.tr (fr_X12_seat n v1 v2 v3 r76.2 r90 hr90) (fun o k hS => (subL_of (L1 := []) (by decide +kernel) hS))
          obtain ⟨hi93, h⟩ := gd_some h
          have hjhi93 := vin_lt hi93 rfl
          exact B102 (r90.2.1 184 r90.1.toNatClampNeg) r90.2 hF h
      · skip
        obtain ⟨r51, hr51, h⟩ := bnd h
        have hF := hF.tr (fr_X12_fails n (3 : Int32) r43.2 r51 hr51) (fun o k hS => (subL_of (L1 := [(171, 171, 5)]) (by decide +kernel) hS))
        rw [← Option.some.inj h]; exact hF
    · skip
      rw [← Option.some.inj h]; exact hF
  obtain ⟨r2, hr2, h⟩ := bnd h
  have hF := hF.tr (fr_X12_isSide n v1 μ r2 hr2) (fun o k hS => (subL_of (L1 := []) (by decide +kernel) hS))
  split at h
  rotate_left
  · skip
    obtain ⟨r18, hr18, h⟩ := bnd h
    have hF := hF.tr (fr_X12_within n (v2.toInt64) (0 : Int64) (40 : Int64) r2.2 r18 hr18) (fun o k hS => (subL_of (L1 := []) (by decide +kernel) hS))
    split at h
    · skip
      exact B29 (2 : Int32) r18.2 hF h
    · skip
      exact B29 (0 : Int32) r18.2 hF h
  · skip
    exact B29 (1 : Int32) r2.2 hF h
set_option maxRecDepth 100000 in
set_option maxHeartbeats 4000000 in
theorem fr_X12_tally (n : Nat) (v1 : Int32) (v2 : Int32) (v3 : Int32) (μ : Mu) (r : Int32 × Mu) (h : X12_tally n v1 v2 v3 μ = some r) : Fr (S_X12_tally v1 v2 v3) μ r.2 := by
  rw [X12_tally] at h
  have hF : Fr (S_X12_tally v1 v2 v3) μ μ := Fr.rf
  obtain ⟨μ0, hμ0⟩ : ∃ z, z = μ := ⟨_, rfl⟩
  rw [← hμ0]
  have hF : Fr (S_X12_tally v1 v2 v3) μ0 μ := by rw [hμ0]; exact hF
  have B73 : ∀ (k : Nat), ∀ (v4 : Int32) (v5 : Int32) (μ : Mu), Fr (S_X12_tally v1 v2 v3) μ0 μ → lpF (fun _ _ _ => none) (X12_tally_73b n v1 v2 v3) k v4 v5 μ = some r → Fr (S_X12_tally v1 v2 v3) μ0 r.2 := by
    intro k
    induction k with
    | zero =>
      intro v4 v5 μ hF h
      cases h
    | succ k ih73 =>
      rw [lpF_s]
      generalize lpF (fun _ _ _ => none) (X12_tally_73b n v1 v2 v3) k = k73 at ih73 ⊢
      intro v4 v5 μ hF h
      have B163 : ∀ (v5 : Int32) (s0 : Int32) (s1 : Int32) (μ : Mu), Fr (S_X12_tally v1 v2 v3) μ0 μ → X12_tally_163 n v1 v2 v3 k73 v5 s0 s1 μ = some r → Fr (S_X12_tally v1 v2 v3) μ0 r.2 := by
        intro v5 s0 s1 μ hF h
        rw [X12_tally_163] at h
        exact ih73 (s0 + s1) (v5 + (1 : Int32)) μ hF h
      have B158 : ∀ (v5 : Int32) (s0 : Int32) (μ : Mu), Fr (S_X12_tally v1 v2 v3) μ0 μ → X12_tally_158 n v1 v2 v3 k73 v5 s0 μ = some r → Fr (S_X12_tally v1 v2 v3) μ0 r.2 := by
        intro v5 s0 μ hF h
        rw [X12_tally_158] at h
        exact B163 v5 s0 (1 : Int32) μ hF h
      have B162 : ∀ (v5 : Int32) (s0 : Int32) (μ : Mu), Fr (S_X12_tally v1 v2 v3) μ0 μ → X12_tally_162 n v1 v2 v3 k73 v5 s0 μ = some r → Fr (S_X12_tally v1 v2 v3) μ0 r.2 := by
        intro v5 s0 μ hF h
        rw [X12_tally_162] at h
        exact B163 v5 s0 (0 : Int32) μ hF h
      have B143 : ∀ (v5 : Int32) (v6 : Int32) (s0 : Int32) (μ : Mu), Fr (S_X12_tally v1 v2 v3) μ0 μ → X12_tally_143 n v1 v2 v3 k73 v5 v6 s0 μ = some r → Fr (S_X12_tally v1 v2 v3) μ0 r.2 := by
        intro v5 v6 s0 μ hF h
        rw [X12_tally_143] at h
        split at h
        rotate_left
        · skip
          exact B162 v5 s0 μ hF h
        · skip
          obtain ⟨hi154, h⟩ := gd_some h
          have hjhi154 := vin_lt hi154 rfl
          split at h
          · skip
            exact B162 v5 s0 μ hF h
          · skip
            exact B158 v5 s0 μ hF h
      have B133 : ∀ (v5 : Int32) (v6 : Int32) (v7 : Int32) (s0 : Int32) (μ : Mu), Fr (S_X12_tally v1 v2 v3) μ0 μ → X12_tally_133 n v1 v2 v3 k73 v5 v6 v7 s0 μ = some r → Fr (S_X12_tally v1 v2 v3) μ0 r.2 := by
        intro v5 v6 v7 s0 μ hF h
        rw [X12_tally_133] at h
        split at h
        rotate_left
        · skip
          exact B143 v5 v6 s0 μ hF h
        · skip
          split at h
          · skip
            exact B158 v5 s0 μ hF h
          · skip
            exact B143 v5 v6 s0 μ hF h
      have B123 : ∀ (v5 : Int32) (v6 : Int32) (v7 : Int32) (s0 : Int32) (μ : Mu), Fr (S_X12_tally v1 v2 v3) μ0 μ → X12_tally_123 n v1 v2 v3 k73 v5 v6 v7 s0 μ = some r → Fr (S_X12_tally v1 v2 v3) μ0 r.2 := by
        intro v5 v6 v7 s0 μ hF h
        rw [X12_tally_123] at h
        split at h
        rotate_left
        · skip
          exact B133 v5 v6 v7 s0 μ hF h
        · skip
          split at h
          · skip
            exact B158 v5 s0 μ hF h
          · skip
            exact B133 v5 v6 v7 s0 μ hF h
      rw [X12_tally_73b] at h
      obtain ⟨hi82, h⟩ := gd_some h
      have hjhi82 := vin_lt hi82 rfl
      obtain ⟨hi88, h⟩ := gd_some h
      have hjhi88 := vin_lt hi88 rfl
      split at h
      · skip
        rw [← Option.some.inj h]; exact hF
      · skip
        obtain ⟨r98, hr98, h⟩ := bnd h
        have hF := hF.tr (fr_X12_seat n v1 v2 v5 μ r98 hr98) (fun o k hS => (subL_of (L1 := []) (by decide +kernel) hS))
        obtain ⟨hi109, h⟩ := gd_some h
        have hjhi109 := vin_lt hi109 rfl
        split at h
        rotate_left
        · skip
          exact B123 v5 r98.1 (r98.2.1 184 r98.1.toNatClampNeg) v4 r98.2 hF h
        · skip
          split at h
          · skip
            exact B158 v5 v4 r98.2 hF h
          · skip
            exact B123 v5 r98.1 (r98.2.1 184 r98.1.toNatClampNeg) v4 r98.2 hF h
  have B41 : ∀ (s1 : Int32) (μ : Mu), Fr (S_X12_tally v1 v2 v3) μ0 μ → X12_tally_41 n v1 v2 v3 s1 μ = some r → Fr (S_X12_tally v1 v2 v3) μ0 r.2 := by
    intro s1 μ hF h
    rw [X12_tally_41] at h
    have hF := hF.si (o := 171) (k := 5) (v := s1) (by unfold S_X12_tally; exact inL_mk 171 171 5 (by decide) (by omega) (by omega) (by omega))
    split at h
    · skip
      obtain ⟨r55, hr55, h⟩ := bnd h
      have hF := hF.tr (fr_X12_solves n v2 (si μ 171 5 s1) r55 hr55) (fun o k hS => (subL_of (L1 := [(171, 171, 18), (171, 171, 19), (171, 171, 20), (171, 171, 21), (171, 171, 22), (171, 171, 23), (171, 171, 31), (171, 171, 40), (172, 172, 9999), (178, 178, 9999), (183, 183, 9999), (184, 184, 9999), (185, 185, 9999), (186, 186, 9999), (187, 187, 9999), (188, 188, 9999), (189, 189, 9999), (190, 190, 9999), (191, 191, 9999), (192, 192, 9999)]) (by decide +kernel) hS))
      split at h
      rotate_left
      · skip
        exact B73 n (0 : Int32) (0 : Int32) r55.2 hF h
      · skip
        obtain ⟨r63, hr63, h⟩ := bnd h
        have hF := hF.tr (fr_X12_fails n (3 : Int32) r55.2 r63 hr63) (fun o k hS => (subL_of (L1 := [(171, 171, 5)]) (by decide +kernel) hS))
        rw [← Option.some.inj h]; exact hF
    · skip
      rw [← Option.some.inj h]; exact hF
  have B40 : ∀ (μ : Mu), Fr (S_X12_tally v1 v2 v3) μ0 μ → X12_tally_40 n v1 v2 v3  μ = some r → Fr (S_X12_tally v1 v2 v3) μ0 r.2 := by
    intro μ hF h
    rw [X12_tally_40] at h
    exact B41 (2 : Int32) μ hF h
  obtain ⟨r2, hr2, h⟩ := bnd h
  have hF := hF.tr (fr_X12_isSide n v1 μ r2 hr2) (fun o k hS => (subL_of (L1 := []) (by decide +kernel) hS))
  split at h
  rotate_left
  · skip
    obtain ⟨r18, hr18, h⟩ := bnd h
    have hF := hF.tr (fr_X12_within n (v2.toInt64) (0 : Int64) (40 : Int64) r2.2 r18 hr18) (fun o k hS => (subL_of (L1 := []) (by decide +kernel) hS))
    split at h
    · skip
      exact B40 r18.2 hF h
    · skip
      obtain ⟨r30, hr30, h⟩ := bnd h
      have hF := hF.tr (fr_X12_within n (v3.toInt64) (0 : Int64) (3 : Int64) r18.2 r30 hr30) (fun o k hS => (subL_of (L1 := []) (by decide +kernel) hS))
      split at h
      · skip
        exact B40 r30.2 hF h
      · skip
        exact B41 (0 : Int32) r30.2 hF h
  · skip
    exact B41 (1 : Int32) r2.2 hF h
set_option maxRecDepth 100000 in
set_option maxHeartbeats 4000000 in
theorem fr_X12_row (n : Nat) (v1 : Int32) (v2 : Int32) (v3 : Int32) (v4 : Int32) (μ : Mu) (r : Int32 × Mu) (h : X12_row n v1 v2 v3 v4 μ = some r) : Fr (S_X12_row v1 v2 v3 v4) μ r.2 := by
  rw [X12_row] at h
  have hF : Fr (S_X12_row v1 v2 v3 v4) μ μ := Fr.rf
  obtain ⟨μ0, hμ0⟩ : ∃ z, z = μ := ⟨_, rfl⟩
  rw [← hμ0]
  have hF : Fr (S_X12_row v1 v2 v3 v4) μ0 μ := by rw [hμ0]; exact hF
  have B121 : ∀ (s0 : Int32) (μ : Mu), Fr (S_X12_row v1 v2 v3 v4) μ0 μ → X12_row_121 n v1 v2 v3 v4 s0 μ = some r → Fr (S_X12_row v1 v2 v3 v4) μ0 r.2 := by
    intro s0 μ hF h
    rw [X12_row_121] at h
    rw [← Option.some.inj h]; exact hF
  have B169 : ∀ (s0 : Int32) (μ : Mu), Fr (S_X12_row v1 v2 v3 v4) μ0 μ → X12_row_169 n v1 v2 v3 v4 s0 μ = some r → Fr (S_X12_row v1 v2 v3 v4) μ0 r.2 := by
    intro s0 μ hF h
    rw [X12_row_169] at h
    rw [← Option.some.inj h]; exact hF
  have B166 : ∀ (s1 : Int32) (s2 : Int32) (μ : Mu), Fr (S_X12_row v1 v2 v3 v4) μ0 μ → X12_row_166 n v1 v2 v3 v4 s1 s2 μ = some r → Fr (S_X12_row v1 v2 v3 v4) μ0 r.2 := by
    intro s1 s2 μ hF h
    rw [X12_row_166] at h
    obtain ⟨r166, hr166, h⟩ := bnd h
    have hF := hF.tr (fr_X12_canAt n s1 s2 μ r166 hr166) (fun o k hS => (subL_of (L1 := []) (by decide +kernel) hS))
    exact B169 r166.1 r166.2 hF h
  have B55 : ∀ (μ : Mu), Fr (S_X12_row v1 v2 v3 v4) μ0 μ → X12_row_55 n v1 v2 v3 v4  μ = some r → Fr (S_X12_row v1 v2 v3 v4) μ0 r.2 := by
    intro μ hF h
    rw [X12_row_55] at h
    split at h
    · skip
      obtain ⟨r68, hr68, h⟩ := bnd h
      have hF := hF.tr (fr_X12_seat n v1 v2 v3 μ r68 hr68) (fun o k hS => (subL_of (L1 := []) (by decide +kernel) hS))
      split at h
      · skip
        split at h
        rotate_left
        · skip
          split at h
          rotate_left
          · skip
            split at h
            rotate_left
            · skip
              exact B166 r68.1 (0 : Int32) r68.2 hF h
            · skip
              exact B166 r68.1 (1 : Int32) r68.2 hF h
          · skip
            obtain ⟨r146, hr146, h⟩ := bnd h
            have hF := hF.tr (fr_X12_bestAt n r68.1 r68.2 r146 hr146) (fun o k hS => (subL_of (L1 := []) (by decide +kernel) hS))
            exact B169 r146.1 r146.2 hF h
        · skip
          obtain ⟨hi133, h⟩ := gd_some h
          have hjhi133 := vin_lt hi133 rfl
          exact B169 (r68.2.1 185 r68.1.toNatClampNeg) r68.2 hF h
      · skip
        obtain ⟨hi95, h⟩ := gd_some h
        have hjhi95 := vin_lt hi95 rfl
        split at h
        rotate_left
        · skip
          obtain ⟨r118, hr118, h⟩ := bnd h
          have hF := hF.tr (fr_X12_worthOf n r68.1 (v4 - (10 : Int32)) 184 r68.2 r118 hr118) (fun o k hS => (subL_of (L1 := []) (by decide +kernel) hS))
          exact B121 r118.1 r118.2 hF h
        · skip
          exact B121 ((-1000) : Int32) r68.2 hF h
    · skip
      rw [← Option.some.inj h]; exact hF
  obtain ⟨r4, hr4, h⟩ := bnd h
  have hF := hF.tr (fr_X12_valueOf n v1 v2 v3 μ r4 hr4) (fun o k hS => (subL_of (L1 := [(171, 171, 5), (171, 171, 18), (171, 171, 19), (171, 171, 20), (171, 171, 21), (171, 171, 22), (171, 171, 23), (171, 171, 31), (171, 171, 40), (172, 172, 9999), (178, 178, 9999), (183, 183, 9999), (184, 184, 9999), (185, 185, 9999), (186, 186, 9999), (187, 187, 9999), (188, 188, 9999), (189, 189, 9999), (190, 190, 9999), (191, 191, 9999), (192, 192, 9999)]) (by decide +kernel) hS))
  split at h
  rotate_left
  · skip
    exact B55 r4.2 hF h
  · skip
    obtain ⟨r22, hr22, h⟩ := bnd h
    have hF := hF.tr (fr_X12_within n (v4.toInt64) (0 : Int64) (3 : Int64) r4.2 r22 hr22) (fun o k hS => (subL_of (L1 := []) (by decide +kernel) hS))
    split at h
    rotate_left
    · skip
      exact B55 r22.2 hF h
    · skip
      obtain ⟨r44, hr44, h⟩ := bnd h
      have hF := hF.tr (fr_X12_within n (v4.toInt64) (10 : Int64) (((9 : Int32) + (r22.2.1 172 1)).toInt64) r22.2 r44 hr44) (fun o k hS => (subL_of (L1 := []) (by decide +kernel) hS))
      split at h
      rotate_left
      · skip
        exact B55 r44.2 hF h
      · skip
        have hF := hF.si (o := 171) (k := 5) (v := (2 : Int32)) (by unfold S_X12_row; exact inL_mk 171 171 5 (by decide) (by omega) (by omega) (by omega))
        exact B55 (si r44.2 171 5 (2 : Int32)) hF h
set_option maxRecDepth 100000 in
set_option maxHeartbeats 4000000 in
theorem fr_X12_find (n : Nat) (v1 : Int32) (v2 : Int32) (v3 : Int32) (v4 : Int32) (μ : Mu) (r : Int32 × Mu) (h : X12_find n v1 v2 v3 v4 μ = some r) : Fr (S_X12_find v1 v2 v3 v4) μ r.2 := by
  rw [X12_find] at h
  have hF : Fr (S_X12_find v1 v2 v3 v4) μ μ := Fr.rf
  obtain ⟨μ0, hμ0⟩ : ∃ z, z = μ := ⟨_, rfl⟩
  rw [← hμ0]
  have hF : Fr (S_X12_find v1 v2 v3 v4) μ0 μ := by rw [hμ0]; exact hF
  have B60 : ∀ (k : Nat), ∀ (v5 : Int32) (v6 : Int32) (μ : Mu), Fr (S_X12_find v1 v2 v3 v4) μ0 μ → lpF (fun _ _ _ => none) (X12_find_60b n v1 v2 v3 v4) k v5 v6 μ = some r → Fr (S_X12_find v1 v2 v3 v4) μ0 r.2 := by
    intro k
    induction k with
    | zero =>
      intro v5 v6 μ hF h
      cases h
    | succ k ih60 =>
      rw [lpF_s]
      generalize lpF (fun _ _ _ => none) (X12_find_60b n v1 v2 v3 v4) k = k60 at ih60 ⊢
      intro v5 v6 μ hF h
      have B111 : ∀ (v5 : Int32) (v6 : Int32) (μ : Mu), Fr (S_X12_find v1 v2 v3 v4) μ0 μ → X12_find_111 n v1 v2 v3 v4 k60 v5 v6 μ = some r → Fr (S_X12_find v1 v2 v3 v4) μ0 r.2 := by
        intro v5 v6 μ hF h
        rw [X12_find_111] at h
        exact ih60 v5 (v6 + (1 : Int32)) μ hF h
      rw [X12_find_60b] at h
      obtain ⟨hi69, h⟩ := gd_some h
      have hjhi69 := vin_lt hi69 rfl
      obtain ⟨hi75, h⟩ := gd_some h
      have hjhi75 := vin_lt hi75 rfl
      split at h
      · skip
        rw [← Option.some.inj h]; exact hF
      · skip
        obtain ⟨r89, hr89, h⟩ := bnd h
        have hF := hF.tr (fr_X12_seat n v1 v2 v6 μ r89 hr89) (fun o k hS => (subL_of (L1 := []) (by decide +kernel) hS))
        obtain ⟨hi92, h⟩ := gd_some h
        have hjhi92 := vin_lt hi92 rfl
        split at h
        · skip
          split at h
          rotate_left
          · skip
            exact B111 (v5 + ((-1) : Int32)) v6 r89.2 hF h
          · skip
            rw [← Option.some.inj h]; exact hF
        · skip
          exact B111 v5 v6 r89.2 hF h
  have B41 : ∀ (s1 : Int32) (μ : Mu), Fr (S_X12_find v1 v2 v3 v4) μ0 μ → X12_find_41 n v1 v2 v3 v4 s1 μ = some r → Fr (S_X12_find v1 v2 v3 v4) μ0 r.2 := by
    intro s1 μ hF h
    rw [X12_find_41] at h
    have hF := hF.si (o := 171) (k := 5) (v := s1) (by unfold S_X12_find; exact inL_mk 171 171 5 (by decide) (by omega) (by omega) (by omega))
    split at h
    · skip
      exact B60 n v4 (0 : Int32) (si μ 171 5 s1) hF h
    · skip
      rw [← Option.some.inj h]; exact hF
  obtain ⟨r2, hr2, h⟩ := bnd h
  have hF := hF.tr (fr_X12_isSide n v1 μ r2 hr2) (fun o k hS => (subL_of (L1 := []) (by decide +kernel) hS))
  split at h
  rotate_left
  · skip
    obtain ⟨r18, hr18, h⟩ := bnd h
    have hF := hF.tr (fr_X12_within n (v2.toInt64) (0 : Int64) (40 : Int64) r2.2 r18 hr18) (fun o k hS => (subL_of (L1 := []) (by decide +kernel) hS))
    split at h
    rotate_left
    · skip
      obtain ⟨r30, hr30, h⟩ := bnd h
      have hF := hF.tr (fr_X12_solves n v2 r18.2 r30 hr30) (fun o k hS => (subL_of (L1 := [(171, 171, 18), (171, 171, 19), (171, 171, 20), (171, 171, 21), (171, 171, 22), (171, 171, 23), (171, 171, 31), (171, 171, 40), (172, 172, 9999), (178, 178, 9999), (183, 183, 9999), (184, 184, 9999), (185, 185, 9999), (186, 186, 9999), (187, 187, 9999), (188, 188, 9999), (189, 189, 9999), (190, 190, 9999), (191, 191, 9999), (192, 192, 9999)]) (by decide +kernel) hS))
      split at h
      · skip
        exact B41 (3 : Int32) r30.2 hF h
      · skip
        exact B41 (0 : Int32) r30.2 hF h
    · skip
      exact B41 (2 : Int32) r18.2 hF h
  · skip
    exact B41 (1 : Int32) r2.2 hF h
set_option maxRecDepth 100000 in
set_option maxHeartbeats 4000000 in
theorem fr_X12_most (n : Nat) (v1 : Int32) (v2 : Int32) (v3 : Int32) (μ : Mu) (r : Int32 × Mu) (h : X12_most n v1 v2 v3 μ = some r) : Fr (S_X12_most v1 v2 v3) μ r.2 := by
  rw [X12_most] at h
  have hF : Fr (S_X12_most v1 v2 v3) μ μ := Fr.rf
  obtain ⟨μ0, hμ0⟩ : ∃ z, z = μ := ⟨_, rfl⟩
  rw [← hμ0]
  have hF : Fr (S_X12_most v1 v2 v3) μ0 μ := by rw [hμ0]; exact hF
  have B205 : ∀ (s0 : Int32) (μ : Mu), Fr (S_X12_most v1 v2 v3) μ0 μ → X12_most_205 n v1 v2 v3 s0 μ = some r → Fr (S_X12_most v1 v2 v3) μ0 r.2 := by
    intro s0 μ hF h
    rw [X12_most_205] at h
    rw [← Option.some.inj h]; exact hF
  have B187 : ∀ (v4 : Int32) (μ : Mu), Fr (S_X12_most v1 v2 v3) μ0 μ → X12_most_187 n v1 v2 v3 v4 μ = some r → Fr (S_X12_most v1 v2 v3) μ0 r.2 := by
    intro v4 μ hF h
    rw [X12_most_187] at h
    exact B205 v4 μ hF h
  have B74 : ∀ (k : Nat), ∀ (v4 : Int32) (v5 : Int32) (v6 : Int32) (μ : Mu), Fr (S_X12_most v1 v2 v3) μ0 μ → lpF (fun _ _ _ _ => none) (X12_most_74b n v1 v2 v3) k v4 v5 v6 μ = some r → Fr (S_X12_most v1 v2 v3) μ0 r.2 := by
    intro k
    induction k with
    | zero =>
      intro v4 v5 v6 μ hF h
      cases h
    | succ k ih74 =>
      rw [lpF_s]
      generalize lpF (fun _ _ _ _ => none) (X12_most_74b n v1 v2 v3) k = k74 at ih74 ⊢
      intro v4 v5 v6 μ hF h
      have B168 : ∀ (v4 : Int32) (v5 : Int32) (v6 : Int32) (μ : Mu), Fr (S_X12_most v1 v2 v3) μ0 μ → X12_most_168 n v1 v2 v3 k74 v4 v5 v6 μ = some r → Fr (S_X12_most v1 v2 v3) μ0 r.2 := by
        intro v4 v5 v6 μ hF h
        rw [X12_most_168] at h
        exact ih74 v4 v5 (v6 + (1 : Int32)) μ hF h
      have B160 : ∀ (v6 : Int32) (v8 : Int32) (μ : Mu), Fr (S_X12_most v1 v2 v3) μ0 μ → X12_most_160 n v1 v2 v3 k74 v6 v8 μ = some r → Fr (S_X12_most v1 v2 v3) μ0 r.2 := by
        intro v6 v8 μ hF h
        rw [X12_most_160] at h
        exact B168 v6 v8 v6 μ hF h
      have B142 : ∀ (v4 : Int32) (v5 : Int32) (v6 : Int32) (s0 : Int32) (μ : Mu), Fr (S_X12_most v1 v2 v3) μ0 μ → X12_most_142 n v1 v2 v3 k74 v4 v5 v6 s0 μ = some r → Fr (S_X12_most v1 v2 v3) μ0 r.2 := by
        intro v4 v5 v6 s0 μ hF h
        rw [X12_most_142] at h
        split at h
        · skip
          exact B160 v6 s0 μ hF h
        · skip
          split at h
          · skip
            exact B160 v6 s0 μ hF h
          · skip
            exact B168 v4 v5 v6 μ hF h
      rw [X12_most_74b] at h
      obtain ⟨hi83, h⟩ := gd_some h
      have hjhi83 := vin_lt hi83 rfl
      obtain ⟨hi89, h⟩ := gd_some h
      have hjhi89 := vin_lt hi89 rfl
      split at h
      · skip
        split at h
        · skip
          exact B187 v4 μ hF h
        · skip
          split at h
          rotate_left
          · skip
            split at h
            rotate_left
            · skip
              exact B205 v5 μ hF h
            · skip
              exact B205 (-v5) μ hF h
          · skip
            exact B187 v4 μ hF h
      · skip
        obtain ⟨r99, hr99, h⟩ := bnd h
        have hF := hF.tr (fr_X12_seat n v1 v2 v6 μ r99 hr99) (fun o k hS => (subL_of (L1 := []) (by decide +kernel) hS))
        split at h
        · skip
          split at h
          · skip
            obtain ⟨hi141, h⟩ := gd_some h
            have hjhi141 := vin_lt hi141 rfl
            exact B142 v4 v5 v6 (r99.2.1 185 r99.1.toNatClampNeg) r99.2 hF h
          · skip
            obtain ⟨hi130, h⟩ := gd_some h
            have hjhi130 := vin_lt hi130 rfl
            exact B142 v4 v5 v6 (-(r99.2.1 184 r99.1.toNatClampNeg)) r99.2 hF h
        · skip
          obtain ⟨hi115, h⟩ := gd_some h
          have hjhi115 := vin_lt hi115 rfl
          exact B142 v4 v5 v6 (r99.2.1 184 r99.1.toNatClampNeg) r99.2 hF h
  have B53 : ∀ (s1 : Int32) (μ : Mu), Fr (S_X12_most v1 v2 v3) μ0 μ → X12_most_53 n v1 v2 v3 s1 μ = some r → Fr (S_X12_most v1 v2 v3) μ0 r.2 := by
    intro s1 μ hF h
    rw [X12_most_53] at h
    have hF := hF.si (o := 171) (k := 5) (v := s1) (by unfold S_X12_most; exact inL_mk 171 171 5 (by decide) (by omega) (by omega) (by omega))
    split at h
    · skip
      exact B74 n ((-1) : Int32) (0 : Int32) (0 : Int32) (si μ 171 5 s1) hF h
    · skip
      rw [← Option.some.inj h]; exact hF
  have B36 : ∀ (μ : Mu), Fr (S_X12_most v1 v2 v3) μ0 μ → X12_most_36 n v1 v2 v3  μ = some r → Fr (S_X12_most v1 v2 v3) μ0 r.2 := by
    intro μ hF h
    rw [X12_most_36] at h
    exact B53 (2 : Int32) μ hF h
  obtain ⟨r2, hr2, h⟩ := bnd h
  have hF := hF.tr (fr_X12_isSide n v1 μ r2 hr2) (fun o k hS => (subL_of (L1 := []) (by decide +kernel) hS))
  split at h
  rotate_left
  · skip
    obtain ⟨r18, hr18, h⟩ := bnd h
    have hF := hF.tr (fr_X12_within n (v2.toInt64) (0 : Int64) (40 : Int64) r2.2 r18 hr18) (fun o k hS => (subL_of (L1 := []) (by decide +kernel) hS))
    split at h
    · skip
      exact B36 r18.2 hF h
    · skip
      obtain ⟨r30, hr30, h⟩ := bnd h
      have hF := hF.tr (fr_X12_within n (v3.toInt64) (0 : Int64) (5 : Int64) r18.2 r30 hr30) (fun o k hS => (subL_of (L1 := []) (by decide +kernel) hS))
      split at h
      rotate_left
      · skip
        obtain ⟨r42, hr42, h⟩ := bnd h
        have hF := hF.tr (fr_X12_solves n v2 r30.2 r42 hr42) (fun o k hS => (subL_of (L1 := [(171, 171, 18), (171, 171, 19), (171, 171, 20), (171, 171, 21), (171, 171, 22), (171, 171, 23), (171, 171, 31), (171, 171, 40), (172, 172, 9999), (178, 178, 9999), (183, 183, 9999), (184, 184, 9999), (185, 185, 9999), (186, 186, 9999), (187, 187, 9999), (188, 188, 9999), (189, 189, 9999), (190, 190, 9999), (191, 191, 9999), (192, 192, 9999)]) (by decide +kernel) hS))
        split at h
        · skip
          exact B53 (3 : Int32) r42.2 hF h
        · skip
          exact B53 (0 : Int32) r42.2 hF h
      · skip
        exact B36 r30.2 hF h
  · skip
    exact B53 (1 : Int32) r2.2 hF h
set_option maxRecDepth 100000 in
set_option maxHeartbeats 4000000 in
theorem fr_X12_swapped (n : Nat) (μ : Mu) (r : Int32 × Mu) (h : X12_swapped n  μ = some r) : Fr S_X12_swapped μ r.2 := by
  rw [X12_swapped] at h
  have hF : Fr S_X12_swapped μ μ := Fr.rf
  obtain ⟨μ0, hμ0⟩ : ∃ z, z = μ := ⟨_, rfl⟩
  rw [← hμ0]
  have hF : Fr S_X12_swapped μ0 μ := by rw [hμ0]; exact hF
  have hF := hF.si (o := 171) (k := 5) (v := (0 : Int32)) (by unfold S_X12_swapped; exact inL_mk 171 171 5 (by decide) (by omega) (by omega) (by omega))
  obtain ⟨r7, hr7, h⟩ := bnd h
  have hF := hF.tr (fr_X12_seedsNow n (si μ 171 5 (0 : Int32)) r7 hr7) (fun o k hS => (subL_of (L1 := []) (by decide +kernel) hS))
  obtain ⟨r10, hr10, h⟩ := bnd h
  have hF := hF.tr (fr_X12_solves n r7.1 r7.2 r10 hr10) (fun o k hS => (subL_of (L1 := [(171, 171, 18), (171, 171, 19), (171, 171, 20), (171, 171, 21), (171, 171, 22), (171, 171, 23), (171, 171, 31), (171, 171, 40), (172, 172, 9999), (178, 178, 9999), (183, 183, 9999), (184, 184, 9999), (185, 185, 9999), (186, 186, 9999), (187, 187, 9999), (188, 188, 9999), (189, 189, 9999), (190, 190, 9999), (191, 191, 9999), (192, 192, 9999)]) (by decide +kernel) hS))
  split at h
  rotate_left
  · skip
    obtain ⟨r21, hr21, h⟩ := bnd h
    have hF := hF.tr (fr_X12_takesUp n r10.2 r21 hr21) (fun o k hS => (subL_of (L1 := [(178, 178, 9999)]) (by decide +kernel) hS))
    obtain ⟨r38, hr38, h⟩ := bnd h
    have hF := hF.tr (fr_X12_seedsNow n r21.2 r38 hr38) (fun o k hS => (subL_of (L1 := []) (by decide +kernel) hS))
    obtain ⟨r50, hr50, h⟩ := bnd h
    have hF := hF.tr (fr_X12_numberOf n ((1 : Int32) - (r38.2.1 172 2)) r38.2 r50 hr50) (fun o k hS => (subL_of (L1 := [(171, 171, 31), (183, 183, 9999)]) (by decide +kernel) hS))
    obtain ⟨r53, hr53, h⟩ := bnd h
    have hF := hF.tr (fr_X12_seat n ((1 : Int32) - (r21.2.1 172 2)) r38.1 r50.1 r50.2 r53 hr53) (fun o k hS => (subL_of (L1 := []) (by decide +kernel) hS))
    obtain ⟨hi56, h⟩ := gd_some h
    have hjhi56 := vin_lt hi56 rfl
    rw [← Option.some.inj h]; exact hF
  · skip
    rw [← Option.some.inj h]; exact hF
set_option maxRecDepth 100000 in
set_option maxHeartbeats 4000000 in
theorem fr_X12_line (n : Nat) (v1 : Int32) (μ : Mu) (r : Int32 × Mu) (h : X12_line n v1 μ = some r) : Fr (S_X12_line v1) μ r.2 := by
  rw [X12_line] at h
  have hF : Fr (S_X12_line v1) μ μ := Fr.rf
  obtain ⟨μ0, hμ0⟩ : ∃ z, z = μ := ⟨_, rfl⟩
  rw [← hμ0]
  have hF : Fr (S_X12_line v1) μ0 μ := by rw [hμ0]; exact hF
  have B131 : ∀ (s0 : Int32) (μ : Mu), Fr (S_X12_line v1) μ0 μ → X12_line_131 n v1 s0 μ = some r → Fr (S_X12_line v1) μ0 r.2 := by
    intro s0 μ hF h
    rw [X12_line_131] at h
    rw [← Option.some.inj h]; exact hF
  have B12 : ∀ (s1 : Int32) (μ : Mu), Fr (S_X12_line v1) μ0 μ → X12_line_12 n v1 s1 μ = some r → Fr (S_X12_line v1) μ0 r.2 := by
    intro s1 μ hF h
    rw [X12_line_12] at h
    have hF := hF.si (o := 171) (k := 5) (v := s1) (by unfold S_X12_line; exact inL_mk 171 171 5 (by decide) (by omega) (by omega) (by omega))
    split at h
    · skip
      obtain ⟨r26, hr26, h⟩ := bnd h
      have hF := hF.tr (fr_X12_seedsNow n (si μ 171 5 s1) r26 hr26) (fun o k hS => (subL_of (L1 := []) (by decide +kernel) hS))
      obtain ⟨r29, hr29, h⟩ := bnd h
      have hF := hF.tr (fr_X12_solves n r26.1 r26.2 r29 hr29) (fun o k hS => (subL_of (L1 := [(171, 171, 18), (171, 171, 19), (171, 171, 20), (171, 171, 21), (171, 171, 22), (171, 171, 23), (171, 171, 31), (171, 171, 40), (172, 172, 9999), (178, 178, 9999), (183, 183, 9999), (184, 184, 9999), (185, 185, 9999), (186, 186, 9999), (187, 187, 9999), (188, 188, 9999), (189, 189, 9999), (190, 190, 9999), (191, 191, 9999), (192, 192, 9999)]) (by decide +kernel) hS))
      split at h
      rotate_left
      · skip
        obtain ⟨r49, hr49, h⟩ := bnd h
        have hF := hF.tr (fr_X12_copies n 172 175 r29.2 r49 hr49) (fun o k hS => by
      unfold S_X12_copies at hS
      rcases hS with hS | hS
      · exact (subL_of (by decide +kernel) hS)
      · exact inL_mk 175 175 9999 (by decide) (by omega) (by omega) (by omega))
        obtain ⟨r53, hr53, h⟩ := bnd h
        have hF := hF.tr (fr_X12_goesOn n r49.2 r53 hr53) (fun o k hS => (subL_of (L1 := [(171, 171, 18), (171, 171, 19), (171, 171, 20), (171, 171, 21), (171, 171, 22), (171, 171, 23), (171, 171, 31), (171, 171, 44), (172, 172, 9999), (178, 178, 9999), (183, 183, 9999), (193, 193, 9999), (194, 194, 9999)]) (by decide +kernel) hS))
        obtain ⟨r58, hr58, h⟩ := bnd h
        have hF := hF.tr (fr_X12_scoreNow n r53.2 r58 hr58) (fun o k hS => (subL_of (L1 := [(171, 171, 18), (171, 171, 19), (171, 171, 20), (171, 171, 21), (171, 171, 22), (171, 171, 23), (178, 178, 9999)]) (by decide +kernel) hS))
        obtain ⟨r70, hr70, h⟩ := bnd h
        have hF := hF.tr (fr_X12_copies n 175 172 r58.2 r70 hr70) (fun o k hS => by
      unfold S_X12_copies at hS
      rcases hS with hS | hS
      · exact (subL_of (by decide +kernel) hS)
      · exact inL_mk 172 172 9999 (by decide) (by omega) (by omega) (by omega))
        split at h
        rotate_left
        · skip
          split at h
          rotate_left
          · skip
            split at h
            rotate_left
            · skip
              split at h
              · skip
                exact B131 ((-1) : Int32) r70.2 hF h
              · skip
                obtain ⟨hi126, h⟩ := gd_some h
                have hjhi126 := vin_lt hi126 rfl
                exact B131 (r70.2.1 193 v1.toNatClampNeg) r70.2 hF h
            · skip
              exact B131 r58.1 r70.2 hF h
          · skip
            split at h
            · skip
              exact B131 (0 : Int32) r70.2 hF h
            · skip
              exact B131 (1 : Int32) r70.2 hF h
        · skip
          exact B131 (r70.2.1 171 44) r70.2 hF h
      · skip
        obtain ⟨r37, hr37, h⟩ := bnd h
        have hF := hF.tr (fr_X12_fails n (2 : Int32) r29.2 r37 hr37) (fun o k hS => (subL_of (L1 := [(171, 171, 5)]) (by decide +kernel) hS))
        rw [← Option.some.inj h]; exact hF
    · skip
      rw [← Option.some.inj h]; exact hF
  split at h
  · skip
    exact B12 (1 : Int32) μ hF h
  · skip
    exact B12 (0 : Int32) μ hF h
set_option maxRecDepth 100000 in
set_option maxHeartbeats 4000000 in
theorem fr_X12_against (n : Nat) (v1 : Int32) (v2 : Int32) (μ : Mu) (r : Int32 × Mu) (h : X12_against n v1 v2 μ = some r) : Fr (S_X12_against v1 v2) μ r.2 := by
  rw [X12_against] at h
  have hF : Fr (S_X12_against v1 v2) μ μ := Fr.rf
  obtain ⟨μ0, hμ0⟩ : ∃ z, z = μ := ⟨_, rfl⟩
  rw [← hμ0]
  have hF : Fr (S_X12_against v1 v2) μ0 μ := by rw [hμ0]; exact hF
  have B54 : ∀ (s0 : Int32) (μ : Mu), Fr (S_X12_against v1 v2) μ0 μ → X12_against_54 n v1 v2 s0 μ = some r → Fr (S_X12_against v1 v2) μ0 r.2 := by
    intro s0 μ hF h
    rw [X12_against_54] at h
    rw [← Option.some.inj h]; exact hF
  have B33 : ∀ (s1 : Int32) (μ : Mu), Fr (S_X12_against v1 v2) μ0 μ → X12_against_33 n v1 v2 s1 μ = some r → Fr (S_X12_against v1 v2) μ0 r.2 := by
    intro s1 μ hF h
    rw [X12_against_33] at h
    have hF := hF.si (o := 171) (k := 5) (v := s1) (by unfold S_X12_against; exact inL_mk 171 171 5 (by decide) (by omega) (by omega) (by omega))
    split at h
    · skip
      obtain ⟨r51, hr51, h⟩ := bnd h
      have hF := hF.tr (fr_X12_playOf n v1 (1 : Int32) v2 (si μ 171 5 s1) r51 hr51) (fun o k hS => (subL_of (L1 := [(171, 171, 18), (171, 171, 19), (171, 171, 20), (171, 171, 21), (171, 171, 22), (171, 171, 23), (171, 171, 31), (171, 171, 49), (171, 171, 50), (172, 172, 9999), (175, 175, 9999), (178, 178, 9999), (183, 183, 9999)]) (by decide +kernel) hS))
      exact B54 r51.1 r51.2 hF h
    · skip
      exact B54 (0 : Int32) (si μ 171 5 s1) hF h
  obtain ⟨r3, hr3, h⟩ := bnd h
  have hF := hF.tr (fr_X12_seedsNow n μ r3 hr3) (fun o k hS => (subL_of (L1 := []) (by decide +kernel) hS))
  obtain ⟨r6, hr6, h⟩ := bnd h
  have hF := hF.tr (fr_X12_solves n r3.1 r3.2 r6 hr6) (fun o k hS => (subL_of (L1 := [(171, 171, 18), (171, 171, 19), (171, 171, 20), (171, 171, 21), (171, 171, 22), (171, 171, 23), (171, 171, 31), (171, 171, 40), (172, 172, 9999), (178, 178, 9999), (183, 183, 9999), (184, 184, 9999), (185, 185, 9999), (186, 186, 9999), (187, 187, 9999), (188, 188, 9999), (189, 189, 9999), (190, 190, 9999), (191, 191, 9999), (192, 192, 9999)]) (by decide +kernel) hS))
  split at h
  rotate_left
  · skip
    obtain ⟨r22, hr22, h⟩ := bnd h
    have hF := hF.tr (fr_X12_within n (v2.toInt64) (0 : Int64) (2 : Int64) r6.2 r22 hr22) (fun o k hS => (subL_of (L1 := []) (by decide +kernel) hS))
    split at h
    · skip
      exact B33 (2 : Int32) r22.2 hF h
    · skip
      exact B33 (0 : Int32) r22.2 hF h
  · skip
    exact B33 (1 : Int32) r6.2 hF h
set_option maxRecDepth 100000 in
set_option maxHeartbeats 4000000 in
theorem fr_X4_readLine (n : Nat) (μ : Mu) (r : Unit × Mu) (h : X4_readLine n  μ = some r) : Fr S_X4_readLine μ r.2 := by
  rw [X4_readLine] at h
  have hF : Fr S_X4_readLine μ μ := Fr.rf
  obtain ⟨μ0, hμ0⟩ : ∃ z, z = μ := ⟨_, rfl⟩
  rw [← hμ0]
  have hF : Fr S_X4_readLine μ0 μ := by rw [hμ0]; exact hF
  have B244 : ∀ (μ : Mu), Fr S_X4_readLine μ0 μ → X4_readLine_244 n  μ = some r → Fr S_X4_readLine μ0 r.2 := by
    intro μ hF h
    rw [X4_readLine_244] at h
    rw [← Option.some.inj h]; exact hF
  have B220 : ∀ (μ : Mu), Fr S_X4_readLine μ0 μ → X4_readLine_220 n  μ = some r → Fr S_X4_readLine μ0 r.2 := by
    intro μ hF h
    rw [X4_readLine_220] at h
    split at h
    rotate_left
    · skip
      exact B244 μ hF h
    · skip
      have hF := hF.si (o := 13) (k := 0) (v := ((μ.1 13 0) + (1 : Int32))) (by unfold S_X4_readLine; exact inL_mk 13 13 0 (by decide) (by omega) (by omega) (by omega))
      obtain ⟨r241, hr241, h⟩ := bnd h
      have hF := hF.tr (fr_X4_step n (si μ 13 0 ((μ.1 13 0) + (1 : Int32))) r241 hr241) (fun o k hS => (subL_of (L1 := [(12, 12, 2), (12, 12, 3), (12, 12, 7), (12, 12, 8), (12, 12, 9), (12, 12, 10)]) (by decide +kernel) hS))
      exact B244 r241.2 hF h
  have B207 : ∀ (μ : Mu), Fr S_X4_readLine μ0 μ → X4_readLine_207 n  μ = some r → Fr S_X4_readLine μ0 r.2 := by
    intro μ hF h
    rw [X4_readLine_207] at h
    split at h
    · skip
      exact B220 μ hF h
    · skip
      obtain ⟨r217, hr217, h⟩ := bnd h
      have hF := hF.tr (fr_X4_refuse n (2 : Int32) μ r217 hr217) (fun o k hS => (subL_of (L1 := [(12, 12, 2), (12, 12, 3)]) (by decide +kernel) hS))
      exact B220 r217.2 hF h
  obtain ⟨r3, hr3, h⟩ := bnd h
  have hF := hF.tr (fr_X4_isWord n 1001 μ r3 hr3) (fun o k hS => (subL_of (L1 := []) (by decide +kernel) hS))
  split at h
  · skip
    obtain ⟨r19, hr19, h⟩ := bnd h
    have hF := hF.tr (fr_X4_isWord n 1002 r3.2 r19 hr19) (fun o k hS => (subL_of (L1 := []) (by decide +kernel) hS))
    split at h
    · skip
      obtain ⟨r35, hr35, h⟩ := bnd h
      have hF := hF.tr (fr_X4_isWord n 1003 r19.2 r35 hr35) (fun o k hS => (subL_of (L1 := []) (by decide +kernel) hS))
      split at h
      · skip
        obtain ⟨r51, hr51, h⟩ := bnd h
        have hF := hF.tr (fr_X4_isWord n 1008 r35.2 r51 hr51) (fun o k hS => (subL_of (L1 := []) (by decide +kernel) hS))
        split at h
        · skip
          obtain ⟨r101, hr101, h⟩ := bnd h
          have hF := hF.tr (fr_X4_isWord n 1009 r51.2 r101 hr101) (fun o k hS => (subL_of (L1 := []) (by decide +kernel) hS))
          split at h
          · skip
            obtain ⟨r147, hr147, h⟩ := bnd h
            have hF := hF.tr (fr_X4_isWord n 1010 r101.2 r147 hr147) (fun o k hS => (subL_of (L1 := []) (by decide +kernel) hS))
            split at h
            · skip
              obtain ⟨r176, hr176, h⟩ := bnd h
              have hF := hF.tr (fr_X4_isWord n 1011 r147.2 r176 hr176) (fun o k hS => (subL_of (L1 := []) (by decide +kernel) hS))
              split at h
              · skip
                obtain ⟨r204, hr204, h⟩ := bnd h
                have hF := hF.tr (fr_X4_readFlag n r176.2 r204 hr204) (fun o k hS => (subL_of (L1 := [(12, 12, 2), (12, 12, 3), (12, 12, 7), (12, 12, 8), (12, 12, 9), (12, 12, 10), (13, 13, 5), (13, 13, 6), (13, 13, 7), (13, 13, 8)]) (by decide +kernel) hS))
                exact B207 r204.2 hF h
              · skip
                obtain ⟨r183, hr183, h⟩ := bnd h
                have hF := hF.tr (fr_X4_step n r176.2 r183 hr183) (fun o k hS => (subL_of (L1 := [(12, 12, 2), (12, 12, 3), (12, 12, 7), (12, 12, 8), (12, 12, 9), (12, 12, 10)]) (by decide +kernel) hS))
                obtain ⟨r194, hr194, h⟩ := bnd h
                have hF := hF.tr (fr_X4_readNumber n (1 : Int32) (20 : Int32) r183.2 r194 hr194) (fun o k hS => (subL_of (L1 := [(12, 12, 2), (12, 12, 3), (12, 12, 7), (12, 12, 8), (12, 12, 9), (12, 12, 10)]) (by decide +kernel) hS))
                have hF := hF.si (o := 13) (k := 3) (v := r194.1) (by unfold S_X4_readLine; exact inL_mk 13 13 3 (by decide) (by omega) (by omega) (by omega))
                exact B207 (si r194.2 13 3 r194.1) hF h
            · skip
              obtain ⟨r154, hr154, h⟩ := bnd h
              have hF := hF.tr (fr_X4_step n r147.2 r154 hr154) (fun o k hS => (subL_of (L1 := [(12, 12, 2), (12, 12, 3), (12, 12, 7), (12, 12, 8), (12, 12, 9), (12, 12, 10)]) (by decide +kernel) hS))
              obtain ⟨r164, hr164, h⟩ := bnd h
              have hF := hF.tr (fr_X4_readNumber n (0 : Int32) (1 : Int32) r154.2 r164 hr164) (fun o k hS => (subL_of (L1 := [(12, 12, 2), (12, 12, 3), (12, 12, 7), (12, 12, 8), (12, 12, 9), (12, 12, 10)]) (by decide +kernel) hS))
              have hF := hF.si (o := 149) (k := 1) (v := r164.1) (by unfold S_X4_readLine; exact inL_mk 149 149 1 (by decide) (by omega) (by omega) (by omega))
              exact B207 (si r164.2 149 1 r164.1) hF h
          · skip
            obtain ⟨r108, hr108, h⟩ := bnd h
            have hF := hF.tr (fr_X4_step n r101.2 r108 hr108) (fun o k hS => (subL_of (L1 := [(12, 12, 2), (12, 12, 3), (12, 12, 7), (12, 12, 8), (12, 12, 9), (12, 12, 10)]) (by decide +kernel) hS))
            obtain ⟨r133, hr133, h⟩ := bnd h
            have hF := hF.tr (fr_X4_readNumber n (0 : Int32) (((2 : Int32) * (r108.2.1 13 1)) - (1 : Int32)) r108.2 r133 hr133) (fun o k hS => (subL_of (L1 := [(12, 12, 2), (12, 12, 3), (12, 12, 7), (12, 12, 8), (12, 12, 9), (12, 12, 10)]) (by decide +kernel) hS))
            have hF := hF.si (o := 13) (k := 2) (v := ((r108.2.1 13 2) ||| ((1 : Int32) <<< (r133.1 &&& 31)))) (by unfold S_X4_readLine; exact inL_mk 13 13 2 (by decide) (by omega) (by omega) (by omega))
            exact B207 (si r133.2 13 2 ((r108.2.1 13 2) ||| ((1 : Int32) <<< (r133.1 &&& 31)))) hF h
        · skip
          obtain ⟨r58, hr58, h⟩ := bnd h
          have hF := hF.tr (fr_X4_step n r51.2 r58 hr58) (fun o k hS => (subL_of (L1 := [(12, 12, 2), (12, 12, 3), (12, 12, 7), (12, 12, 8), (12, 12, 9), (12, 12, 10)]) (by decide +kernel) hS))
          obtain ⟨r74, hr74, h⟩ := bnd h
          have hF := hF.tr (fr_X4_readNumber n (0 : Int32) (99 : Int32) r58.2 r74 hr74) (fun o k hS => (subL_of (L1 := [(12, 12, 2), (12, 12, 3), (12, 12, 7), (12, 12, 8), (12, 12, 9), (12, 12, 10)]) (by decide +kernel) hS))
          have hF := hF.si (o := 150) (k := 12) (v := r74.1) (by unfold S_X4_readLine; exact inL_mk 150 150 9999 (by decide) (by omega) (by omega) (by omega))
          obtain ⟨r91, hr91, h⟩ := bnd h
          have hF := hF.tr (fr_X4_readNumber n (0 : Int32) (99 : Int32) (si r74.2 150 12 r74.1) r91 hr91) (fun o k hS => (subL_of (L1 := [(12, 12, 2), (12, 12, 3), (12, 12, 7), (12, 12, 8), (12, 12, 9), (12, 12, 10)]) (by decide +kernel) hS))
          have hF := hF.si (o := 150) (k := 13) (v := r91.1) (by unfold S_X4_readLine; exact inL_mk 150 150 9999 (by decide) (by omega) (by omega) (by omega))
          exact B207 (si r91.2 150 13 r91.1) hF h
      · skip
        obtain ⟨r42, hr42, h⟩ := bnd h
        have hF := hF.tr (fr_X4_readTake n r35.2 r42 hr42) (fun o k hS => (subL_of (L1 := [(12, 12, 2), (12, 12, 3), (12, 12, 7), (12, 12, 8), (12, 12, 9), (12, 12, 10), (13, 13, 4)]) (by decide +kernel) hS))
        exact B207 r42.2 hF h
    · skip
      obtain ⟨r26, hr26, h⟩ := bnd h
      have hF := hF.tr (fr_X4_readSeeds n r19.2 r26 hr26) (fun o k hS => (subL_of (L1 := [(12, 12, 2), (12, 12, 3), (12, 12, 7), (12, 12, 8), (12, 12, 9), (12, 12, 10), (150, 150, 9999)]) (by decide +kernel) hS))
      exact B207 r26.2 hF h
  · skip
    obtain ⟨r10, hr10, h⟩ := bnd h
    have hF := hF.tr (fr_X4_readPerSide n r3.2 r10 hr10) (fun o k hS => (subL_of (L1 := [(12, 12, 2), (12, 12, 3), (12, 12, 7), (12, 12, 8), (12, 12, 9), (12, 12, 10), (13, 13, 1)]) (by decide +kernel) hS))
    exact B207 r10.2 hF h
set_option maxRecDepth 100000 in
set_option maxHeartbeats 4000000 in
theorem fr_X4_read (n : Nat) (v1 : Int32) (μ : Mu) (r : Unit × Mu) (h : X4_read n v1 μ = some r) : Fr (S_X4_read v1) μ r.2 := by
  rw [X4_read] at h
  have hF : Fr (S_X4_read v1) μ μ := Fr.rf
  obtain ⟨μ0, hμ0⟩ : ∃ z, z = μ := ⟨_, rfl⟩
  rw [← hμ0]
  have hF : Fr (S_X4_read v1) μ0 μ := by rw [hμ0]; exact hF
  have B99 : ∀ (μ : Mu), Fr (S_X4_read v1) μ0 μ → X4_read_99 n v1  μ = some r → Fr (S_X4_read v1) μ0 r.2 := by
    intro μ hF h
    rw [X4_read_99] at h
    rw [← Option.some.inj h]; exact hF
  have B72 : ∀ (μ : Mu), Fr (S_X4_read v1) μ0 μ → X4_read_72 n v1  μ = some r → Fr (S_X4_read v1) μ0 r.2 := by
    intro μ hF h
    rw [X4_read_72] at h
    split at h
    rotate_left
    · skip
      exact B99 μ hF h
    · skip
      obtain ⟨r80, hr80, h⟩ := bnd h
      have hF := hF.tr (fr_X4_isSound n μ r80 hr80) (fun o k hS => (subL_of (L1 := []) (by decide +kernel) hS))
      split at h
      rotate_left
      · skip
        exact B99 r80.2 hF h
      · skip
        have hF := hF.si (o := 12) (k := 2) (v := (5 : Int32)) (by unfold S_X4_read; exact inL_mk 12 12 2 (by decide) (by omega) (by omega) (by omega))
        have hF := hF.si (o := 12) (k := 3) (v := ((si r80.2 12 2 (5 : Int32)).1 12 6)) (by unfold S_X4_read; exact inL_mk 12 12 3 (by decide) (by omega) (by omega) (by omega))
        exact B99 (si (si r80.2 12 2 (5 : Int32)) 12 3 ((si r80.2 12 2 (5 : Int32)).1 12 6)) hF h
  have B40 : ∀ (k : Nat), ∀ (v2 : Int32) (μ : Mu), Fr (S_X4_read v1) μ0 μ → lpF (fun _ _ => none) (X4_read_40b n v1) k v2 μ = some r → Fr (S_X4_read v1) μ0 r.2 := by
    intro k
    induction k with
    | zero =>
      intro v2 μ hF h
      cases h
    | succ k ih40 =>
      rw [lpF_s]
      generalize lpF (fun _ _ => none) (X4_read_40b n v1) k = k40 at ih40 ⊢
      intro v2 μ hF h
      rw [X4_read_40b] at h
      split at h
      · skip
        exact B72 μ hF h
      · skip
        split at h
        rotate_left
        · skip
          exact B72 μ hF h
        · skip
          split at h
          · skip
            exact B72 μ hF h
          · skip
            obtain ⟨r63, hr63, h⟩ := bnd h
            have hF := hF.tr (fr_X4_readLine n μ r63 hr63) (fun o k hS => (subL_of (L1 := [(12, 12, 2), (12, 12, 3), (12, 12, 7), (12, 12, 8), (12, 12, 9), (12, 12, 10), (13, 13, 0), (13, 13, 1), (13, 13, 2), (13, 13, 3), (13, 13, 4), (13, 13, 5), (13, 13, 6), (13, 13, 7), (13, 13, 8), (149, 149, 1), (150, 150, 9999)]) (by decide +kernel) hS))
            exact ih40 (v2 + (1 : Int32)) r63.2 hF h
  obtain ⟨r4, hr4, h⟩ := bnd h
  have hF := hF.tr (fr_X5_clear n 13 μ r4 hr4) (fun o k hS => by
  unfold S_X5_clear at hS
  rcases hS with hS | hS | hS | hS | hS | hS | hS | hS | hS | hS
  · exact (subL_of (by decide +kernel) hS)
  · exact inL_mk 13 13 0 (by decide) (by omega) (by omega) (by omega)
  · exact inL_mk 13 13 1 (by decide) (by omega) (by omega) (by omega)
  · exact inL_mk 13 13 2 (by decide) (by omega) (by omega) (by omega)
  · exact inL_mk 13 13 3 (by decide) (by omega) (by omega) (by omega)
  · exact inL_mk 13 13 4 (by decide) (by omega) (by omega) (by omega)
  · exact inL_mk 13 13 5 (by decide) (by omega) (by omega) (by omega)
  · exact inL_mk 13 13 6 (by decide) (by omega) (by omega) (by omega)
  · exact inL_mk 13 13 7 (by decide) (by omega) (by omega) (by omega)
  · exact inL_mk 13 13 8 (by decide) (by omega) (by omega) (by omega))
  obtain ⟨r11, hr11, h⟩ := bnd h
  have hF := hF.tr (fr_X6_clear n 149 r4.2 r11 hr11) (fun o k hS => by
  unfold S_X6_clear at hS
  rcases hS with hS | hS | hS
  · exact (subL_of (by decide +kernel) hS)
  · exact inL_mk 149 149 1 (by decide) (by omega) (by omega) (by omega)
  · exact inL_mk 150 150 9999 (by decide) (by omega) (by omega) (by omega))
  have hF := hF.si (o := 12) (k := 2) (v := (0 : Int32)) (by unfold S_X4_read; exact inL_mk 12 12 2 (by decide) (by omega) (by omega) (by omega))
  have hF := hF.si (o := 12) (k := 3) (v := ((-1) : Int32)) (by unfold S_X4_read; exact inL_mk 12 12 3 (by decide) (by omega) (by omega) (by omega))
  have hF := hF.si (o := 12) (k := 6) (v := v1) (by unfold S_X4_read; exact inL_mk 12 12 6 (by decide) (by omega) (by omega) (by omega))
  have hF := hF.si (o := 12) (k := 9) (v := (0 : Int32)) (by unfold S_X4_read; exact inL_mk 12 12 9 (by decide) (by omega) (by omega) (by omega))
  obtain ⟨r35, hr35, h⟩ := bnd h
  have hF := hF.tr (fr_X4_step n (si (si (si (si r11.2 12 2 (0 : Int32)) 12 3 ((-1) : Int32)) 12 6 v1) 12 9 (0 : Int32)) r35 hr35) (fun o k hS => (subL_of (L1 := [(12, 12, 2), (12, 12, 3), (12, 12, 7), (12, 12, 8), (12, 12, 9), (12, 12, 10)]) (by decide +kernel) hS))
  exact B40 n (0 : Int32) r35.2 hF h
set_option maxRecDepth 100000 in
set_option maxHeartbeats 4000000 in
theorem fr_X11_board (n : Nat) (v1 : Int32) (μ : Mu) (r : (Int32 ⊕ Nat) × Mu) (h : X11_board n v1 μ = some r) : Fr (S_X11_board v1) μ r.2 := by
  rw [X11_board] at h
  have hF : Fr (S_X11_board v1) μ μ := Fr.rf
  obtain ⟨μ0, hμ0⟩ : ∃ z, z = μ := ⟨_, rfl⟩
  rw [← hμ0]
  have hF : Fr (S_X11_board v1) μ0 μ := by rw [hμ0]; exact hF
  have B15 : ∀ (μ : Mu), Fr (S_X11_board v1) μ0 μ → X11_board_15 n v1  μ = some r → Fr (S_X11_board v1) μ0 r.2 := by
    intro μ hF h
    rw [X11_board_15] at h
    rw [← Option.some.inj h]; exact hF
  split at h
  · skip
    exact B15 μ hF h
  · skip
    split at h
    · skip
      obtain ⟨r30, hr30, h⟩ := bnd h
      have hF := hF.tr (fr_X4_read n v1 μ r30 hr30) (fun o k hS => (subL_of (L1 := [(12, 12, 2), (12, 12, 3), (12, 12, 6), (12, 12, 7), (12, 12, 8), (12, 12, 9), (12, 12, 10), (13, 13, 0), (13, 13, 1), (13, 13, 2), (13, 13, 3), (13, 13, 4), (13, 13, 5), (13, 13, 6), (13, 13, 7), (13, 13, 8), (149, 149, 1), (150, 150, 9999)]) (by decide +kernel) hS))
      have hF := hF.si (o := 12) (k := 4) (v := (0 : Int32)) (by unfold S_X11_board; exact inL_mk 12 12 4 (by decide) (by omega) (by omega) (by omega))
      split at h
      · skip
        obtain ⟨r77, hr77, h⟩ := bnd h
        have hF := hF.tr (fr_X11_settle n 13 149 (si r30.2 12 4 (0 : Int32)) r77 hr77) (fun o k hS => (subL_of (L1 := [(1, 1, 0), (1, 1, 1), (1, 1, 2), (1, 1, 3), (1, 1, 4), (1, 1, 5), (1, 1, 6), (1, 1, 7), (1, 1, 8), (2, 2, 1), (2, 2, 2), (2, 2, 3), (3, 3, 9999), (4, 4, 9999), (9, 9, 0), (9, 9, 1), (53, 53, 1), (54, 54, 9999)]) (by decide +kernel) hS))
        rw [← Option.some.inj h]; exact hF
      · skip
        rw [← Option.some.inj h]; exact hF
    · skip
      exact B15 μ hF h
