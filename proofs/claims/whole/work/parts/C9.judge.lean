/-! calls: judge, perform -/
def whyL (T : Nat → Nat) (x : Int64) : Nat := if h : ∃ w, w < T 1 ∧ x = lN (offN (T 1) (T 2) + w) then whyW T (x.toInt.toNat - offN (T 1) (T 2)) else whyN T
theorem lN_tn {j : Nat} (h : j < 2 ^ 31) : (lN j).toInt.toNat = j := by rw [lN_toInt h]; omega
theorem whyL_w {T : Nat → Nat} {w : Nat} (b6 : T 1 < 7) (hw : w < T 1) : whyL T (lN (offN (T 1) (T 2) + w)) = whyW T w := by
  have := off_le (T 1) (T 2)
  unfold whyL
  rw [dif_pos ⟨w, hw, rfl⟩, lN_tn (by omega), Nat.add_sub_cancel_left]
theorem whyL_x {T : Nat → Nat} {x : Int64} (h : ∀ w, w < T 1 → x ≠ lN (offN (T 1) (T 2) + w)) : whyL T x = whyN T := by
  unfold whyL
  rw [dif_neg (fun ⟨w, hw, e⟩ => h w hw e)]
theorem ownL_cs (T : Nat → Nat) (x : Int64) : (∃ w, w < T 1 ∧ x = lN (offN (T 1) (T 2) + w)) ∨ ∀ w, w < T 1 → x ≠ lN (offN (T 1) (T 2) + w) := by
  by_cases h : ∃ w, w < T 1 ∧ x = lN (offN (T 1) (T 2) + w)
  · exact Or.inl h
  · exact Or.inr (fun w hw e => h ⟨w, hw, e⟩)
theorem whyL_lt {T : Nat → Nat} {x : Int64} : whyL T x < 6 := by
  unfold whyL whyW whyN
  repeat' split
  all_goals omega
theorem whyL_0 {T : Nat → Nat} {x : Int64} (b6 : T 1 < 7) (h : whyL T x = 0) : ∃ w, w < T 1 ∧ x = lN (offN (T 1) (T 2) + w) ∧ canW T w = true := by
  rcases ownL_cs T x with ⟨w, hw, rfl⟩ | q
  · rw [whyL_w b6 hw] at h
    exact ⟨w, hw, rfl, (why_0 hw).mp h⟩
  · rw [whyL_x q] at h
    unfold whyN at h
    split at h <;> omega
theorem reasonL (n : Nat) (μ : Mu) {T : Nat → Nat} {o : Nat} (x : Int64) (ho : OS o) (hW : WF T) (hG : GE μ T) (hS : SC μ o T) (hn : 1000 < n) : Ok (X8_reason n o x μ) (fun a μ' => KP RS μ μ' ∧ a = nI (whyL T x)) := by
  rcases ownL_cs T x with ⟨w, hw, rfl⟩ | h
  · rw [whyL_w hW.1.2.1 hw]
    exact reason_w n μ ho hW hG hS hw hn
  · rw [whyL_x h]
    exact reason_x n μ ho hW hG hS h hn
theorem whyToldL (n : Nat) (μ : Mu) {T : Nat → Nat} (x : Int64) (hW : WF T) (hT : TD μ T) (hn : 1000 < n) : Ok (X12_whyTold n x μ) (fun a μ' => KR μ μ' ∧ a = nI (whyL T x)) := by
  have b6 := hW.1.2.1
  have hol := off_le (T 1) (T 2)
  have fin : ∀ v : Int32, whyI T v = whyL T x → Ok (X12_whyTold_18 n x v μ) (fun a μ' => KR μ μ' ∧ a = nI (whyL T x)) := by
    intro v e
    unfold X12_whyTold_18
    refine Ok_b (whyNotI n μ v hW hT hn) ?_
    rintro _ μ1 ⟨k, rfl⟩
    exact Ok_r ⟨k, by rw [e]⟩
  unfold X12_whyTold
  rw [bS (within_s n _ _ _ μ)]
  dsimp only
  by_cases h : (0 : Int64) ≤ x ∧ x ≤ 12
  · rw [decide_eq_true h, if_neg (show ¬ b2i true = 0 by decide)]
    obtain ⟨j, hj, rfl⟩ : ∃ j, j ≤ 12 ∧ x = lN j := by
      obtain ⟨a, b⟩ := h
      rw [Int64.le_iff_toInt_le] at a b
      have z0 : (0 : Int64).toInt = 0 := by decide
      have z12 : (12 : Int64).toInt = 12 := by decide
      refine ⟨x.toInt.toNat, by omega, Int64.toInt_inj.mp ?_⟩
      rw [lN_toInt (by omega)]
      omega
    rw [lN_i]
    refine fin _ ?_
    rcases own_cs T (nI j) with ⟨w, hw, e⟩ | q
    · have := (nI_eq (by omega) (by omega)).mp e
      subst this
      rw [whyI_w b6 hw, whyL_w b6 hw]
    · rw [whyI_x q, whyL_x (fun w hw e => q w hw (by rw [(lN_eq (by omega) (by omega)).mp e]))]
  · rw [decide_eq_false h, if_pos (show b2i false = 0 from rfl)]
    refine fin _ ?_
    rw [whyI_x (fun w hw => ?_), whyL_x (fun w hw e => h ?_)]
    · rw [e, show (0 : Int64) = lN 0 from rfl, show (12 : Int64) = lN 12 from rfl, lN_le (by decide) (by omega), lN_le (by omega) (by decide)]
      omega
    · rw [i_1]
      exact fun q => (m1_eq (by omega)).mp q
/-! judging -/
def wX (T : Nat → Nat) (x : Int64) : Nat := x.toInt.toNat - offN (T 1) (T 2)
theorem wX_w {T : Nat → Nat} {w : Nat} (b6 : T 1 < 7) (hw : w < T 1) : wX T (lN (offN (T 1) (T 2) + w)) = w := by
  have := off_le (T 1) (T 2)
  unfold wX
  rw [lN_tn (by omega), Nat.add_sub_cancel_left]
def jdF (xs : Nat → Int64) : Nat → Nat → (Nat → Nat) → Nat × Nat × (Nat → Nat)
  | 0, i, T => (i, 0, T)
  | c + 1, i, T => if whyL T (xs i) = 0 then jdF xs c (i + 1) ((mvR T (wX T (xs i))).getD T) else (i, whyL T (xs i), T)
def jdA (what : Nat) (R : Nat × Nat × (Nat → Nat)) : Int32 := if what = 0 then (if R.2.1 = 0 then -1 else nI R.1) else if what = 1 then nI R.2.1 else if what = 2 then scI R.2.2 else nI (R.2.2 2)
theorem anyTray_l (n : Nat) (μ : Mu) {t : Nat} (ht : t < 4) : X11_anyTray n (nI t) μ = some (.inl (33 + 2 * t), μ) := by
  unfold X11_anyTray
  rw [if_neg (nI_pos (by omega)), i_4, ifLt (by omega) (by decide), if_pos ht, gd_n ht (by decide), nI_clamp (by omega)]
theorem tray_no {v : Int32} (h : ¬ inR v 0 3) : v < 0 ∨ (¬ v < 0 ∧ ¬ v < (4 : Int32)) := by
  rcases inR_no h with q | ⟨q1, q2⟩
  · exact Or.inl q
  · refine Or.inr ⟨q1, fun q => ?_⟩
    rw [Int32.lt_iff_toInt_lt] at q q2
    rw [nI_toInt (by decide)] at q2
    have : (4 : Int32).toInt = 4 := by decide
    omega
theorem anyTray_r (n : Nat) (μ : Mu) {v : Int32} (h : ¬ inR v 0 3) : X11_anyTray n v μ = some (.inr 0, μ) := by
  unfold X11_anyTray X11_anyTray_9
  rcases tray_no h with q | ⟨q1, q2⟩
  · rw [if_pos q]
  · rw [if_neg q1, if_neg q2]
theorem tr_k : ∀ t, t < 4 → oK (33 + 2 * t) = 9 := by decide
theorem laid_l (n : Nat) (μ : Mu) {t : Nat} (ht : t < 4) (h : ¬ μ.1 (33 + 2 * t) 1 = -1) : X11_laidTray n (nI t) μ = some (.inl (33 + 2 * t), μ) := by
  unfold X11_laidTray
  rw [thr_l (anyTray_l n μ ht), kd_of (tr_k t ht), if_neg h]
theorem laid_m (n : Nat) (μ : Mu) {t : Nat} (ht : t < 4) (h : μ.1 (33 + 2 * t) 1 = -1) : X11_laidTray n (nI t) μ = some (.inr 2, μ) := by
  unfold X11_laidTray
  rw [thr_l (anyTray_l n μ ht), kd_of (tr_k t ht), if_pos h]
theorem laid_r (n : Nat) (μ : Mu) {v : Int32} (h : ¬ inR v 0 3) : X11_laidTray n v μ = some (.inr 0, μ) := by
  unfold X11_laidTray
  rw [thr_r (anyTray_r n μ h)]
theorem isTray_l (n : Nat) (μ : Mu) {v : Int32} (h : inR v 0 3) : X12_isTray n v μ = some (b2i true, μ) := by
  unfold X12_isTray
  rw [bS (within_l n μ (b := 3) (y := 3) (by decide) rfl h)]
  rfl
theorem isTray_r (n : Nat) (μ : Mu) {v : Int32} (h : ¬ inR v 0 3) : X12_isTray n v μ = some (b2i false, μ) := by
  unfold X12_isTray
  rw [bS (within_r n μ (b := 3) (y := 3) (by decide) rfl h)]
  rfl
theorem trF_r (n : Nat) (μ : Mu) {v : Int32} (h : ¬ inR v 0 3) : X12_trayFault n v μ = some (1, μ) := by
  unfold X12_trayFault X12_trayFault_26
  rw [bS (isTray_r n μ h)]
  rfl
theorem trF_t (n : Nat) (μ : Mu) {t : Nat} (ht : t < 4) : X12_trayFault n (nI t) μ = some (if μ.1 198 t = -1 then 2 else 0, μ) := by
  unfold X12_trayFault X12_trayFault_26
  rw [bS (isTray_l n μ ((inR_j (by decide) (by decide) (by omega)).mpr ⟨by omega, by omega⟩))]
  dsimp only
  rw [if_neg (show ¬ b2i true = 0 by decide), gd_n ht (by decide), nI_clamp (by omega)]
  by_cases z : μ.1 198 t = -1
  · rw [if_pos z, if_pos z]
  · rw [if_neg z, if_neg z]
