/-! values are alike where both sides are -/
theorem mvC_re {T T2 : Nat → Nat} (r : RE T T2) (s : Nat) (c : Nat → Nat) (w : Nat) : mvC T2 s c w = mvC T s c w := by
  have e1 := r 1 (by decide) (by decide)
  have e3 := r 3 (by decide) (by decide)
  have e5 := r 5 (by decide) (by decide)
  have e6 := r 6 (by decide) (by decide)
  have e7 := r 7 (by decide) (by decide)
  have e8 := r 8 (by decide) (by decide)
  have eo : ∀ s, onI T2 s = onI T s := fun s => onI_re r
  have ePw : ∀ s w, Pw T2 s w = Pw T s w := fun s w => by unfold Pw; rw [e5, eo]
  have enx : ∀ s w i, nxR T2 s w i = nxR T s w i := fun s w i => by unfold nxR; rw [ePw, e1]
  have est : ∀ s w, stk T2 s w = stk T s w := fun s w => by unfold stk; rw [ePw, e1, e5]
  have esc : ∀ s w k i c, scC T2 s w k i c = scC T s w k i c := by
    intro s w k
    induction k with
    | zero => intro i c; rfl
    | succ k ih => intro i c; rw [scC, scC, enx, e1, ih]
  have esW : ∀ s w c, scW T2 s w c = scW T s w c := fun s w c => by unfold scW; rw [esc, e1]
  have eso : ∀ s f k w c, sowC T2 s f k w c = sowC T s f k w c := by
    intro s f
    induction f with
    | zero => intro k w c; rfl
    | succ f ih => intro k w c; rw [sowC, sowC, est, esW, e1, e6, ih]
  have etk : ∀ s c l, tkR T2 s c l = tkR T s c l := by
    intro s c l
    unfold tkR tkO tkG
    rw [e1, e7, e8]
    have : gok T2 c = gok T c := by funext x; unfold gok; rw [e3]
    rw [this]
  unfold mvC
  rw [e6, eso]
  cases sowC T s (T 6 + 1) 0 w c with
  | none => rfl
  | some x => show some _ = some _; rw [etk]
theorem thN_re {T T2 : Nat → Nat} (r : RE T T2) {s l : Nat} : thN T2 s l = thN T s l := by
  unfold thN
  rw [r 9 (by decide) (by decide), r 1 (by decide) (by decide)]
theorem opn_re {T T2 : Nat → Nat} (r : RE T T2) : opnN T2 = opnN T := by
  unfold opnN
  rw [r 1 (by decide) (by decide), r 3 (by decide) (by decide)]
theorem sq_re {T T2 : Nat → Nat} (r : RE T T2) (s : Nat) : sqN T2 s = sqN T s := by
  have e1 := r 1 (by decide) (by decide)
  have el : ∀ i, lkS T2 s i = lkS T s i := fun i => by unfold lkS; rw [e1, r 3 (by decide) (by decide)]
  have eo : ∀ i, opS T2 s i = opS T s i := fun i => sum_cg _ (fun x _ => by rw [el])
  have : ∀ i, sqF T2 s i = sqF T s i := by
    intro i
    induction i with
    | zero => rfl
    | succ i ih => rw [sqF, sqF, el, eo, e1, ih]
  unfold sqN
  rw [this, e1]
theorem nb_re {T T2 : Nat → Nat} (r : RE T T2) (c : Nat → Nat) (s : Nat) : nbT T2 c s = nbT T c s := by
  unfold nbT
  rw [sq_re r, opn_re r, r 1 (by decide) (by decide)]
theorem laC_re {T T2 : Nat → Nat} (r : RE T T2) (sd s k : Nat) : laC T2 sd s k = laC T sd s k := by
  unfold laC
  rw [sq_re r, opn_re r]
section SY9
variable {T : Nat → Nat} {s k : Nat}
theorem la_f (hA : ALK T) (hW : WF T) (hk : k < Wn (opnN T) s) {w : Nat} (hw : w < T 1) : fulW (laT T 1 s k) w = fulW (laT T 0 s k) w := by
  have b6 := hW.1.2.1
  have e1 : ∀ sd, laT T sd s k 1 = T 1 := fun sd => la_re 1 (by decide) (by decide)
  have e2 : ∀ sd, laT T sd s k 2 = sd := fun sd => rfl
  have hc : ∀ sd, sd < 2 → cI (T 1) sd w < 14 := fun sd hs => (cI_lt (T 1) b6 hW.1.1 sd hs w (by omega)).2.1
  unfold fulW
  rw [e1, e1, e2, e2, la_ct (hc 1 (by decide)), la_ct (hc 0 (by decide)), onI_re la_re, onI_re la_re, onI_m hA w (by omega), laC_m hA b6 hk w (by omega)]
theorem la_mv (hA : ALK T) (hW : WF T) (hk : k < Wn (opnN T) s) {w : Nat} (hw : w < T 1) (hf : fulW (laT T 0 s k) w = true) : (mvW (laT T 0 s k) w = none ∧ mvW (laT T 1 s k) w = none) ∨ (∃ l r t d0 d1, mvW (laT T 0 s k) w = some (l, r, t, d0) ∧ mvW (laT T 1 s k) w = some (l, r, t, d1) ∧ RM (T 1) d0 d1) := by
  have b6 := hW.1.2.1
  have on := (ful_t.mp hf).1
  rw [onI_re la_re, show laT T 0 s k 2 = 0 from rfl] at on
  unfold mvW
  rw [mvC_re la_re, mvC_re la_re, show laT T 0 s k 2 = 0 from rfl, show laT T 1 s k 2 = 1 from rfl]
  have hrm : RM (T 1) (cT (laT T 0 s k)) (cT (laT T 1 s k)) := by
    intro j hj
    rw [la_ct (cI_lt (T 1) b6 hW.1.1 1 (by decide) j hj).2.1, la_ct (cI_lt (T 1) b6 hW.1.1 0 (by decide) j hj).2.1]
    exact laC_m hA b6 hk j hj
  exact mv_m hA b6 hW.1.1 hw on hrm
theorem la_fed (hA : ALK T) (hW : WF T) (hk : k < Wn (opnN T) s) {w : Nat} (hw : w < T 1) (hf : fulW (laT T 0 s k) w = true) : fedW (laT T 1 s k) w = fedW (laT T 0 s k) w ∧ (mvW (laT T 1 s k) w).isNone = (mvW (laT T 0 s k) w).isNone := by
  have e1 : ∀ sd, laT T sd s k 1 = T 1 := fun sd => la_re 1 (by decide) (by decide)
  rcases la_mv hA hW hk hw hf with ⟨h1, h2⟩ | ⟨l, r, t, d0, d1, h1, h2, h3⟩
  · unfold fedW
    rw [h1, h2]
    exact ⟨rfl, rfl⟩
  · unfold fedW
    rw [h1, h2]
    refine ⟨?_, rfl⟩
    dsimp only
    rw [e1, e1]
    have := (row_m h3).1
    show decide (0 < rowN d1 (offN (T 1) 0) (T 1)) = decide (0 < rowN d0 (offN (T 1) 1) (T 1))
    rw [this]
theorem la_o (hA : ALK T) (hW : WF T) (hk : k < Wn (opnN T) s) : enD T 1 s k = enD T 0 s k := by
  have e1 : ∀ sd, laT T sd s k 1 = T 1 := fun sd => la_re 1 (by decide) (by decide)
  unfold enD overT
  rw [e1, e1]
  refine decide_eq_decide.mpr ⟨fun z w hw hf => ?_, fun z w hw hf => ?_⟩
  · rw [← (la_fed hA hW hk hw hf).2]
    exact z w hw (by rw [la_f hA hW hk hw]; exact hf)
  · rw [la_f hA hW hk hw] at hf
    rw [(la_fed hA hW hk hw hf).2]
    exact z w hw hf
theorem la_c (hA : ALK T) (hW : WF T) (hk : k < Wn (opnN T) s) {w : Nat} (hw : w < T 1) : canW (laT T 1 s k) w = canW (laT T 0 s k) w := by
  have e1 : ∀ sd, laT T sd s k 1 = T 1 := fun sd => la_re 1 (by decide) (by decide)
  have e10 : ∀ sd, laT T sd s k 10 = T 10 := fun sd => la_re 10 (by decide) (by decide)
  have ecf : canFd (laT T 1 s k) = canFd (laT T 0 s k) := by
    unfold canFd
    rw [e1, e1]
    refine decide_eq_decide.mpr ⟨?_, ?_⟩
    · rintro ⟨w, a, b, c⟩
      rw [la_f hA hW hk a] at b
      rw [(la_fed hA hW hk a b).1] at c
      exact ⟨w, a, b, c⟩
    · rintro ⟨w, a, b, c⟩
      exact ⟨w, a, by rw [la_f hA hW hk a]; exact b, by rw [(la_fed hA hW hk a b).1]; exact c⟩
  unfold canW
  rw [e10, e10, ecf, la_f hA hW hk hw]
  cases hf : fulW (laT T 0 s k) w with
  | false => rfl
  | true =>
    obtain ⟨q1, q2⟩ := la_fed hA hW hk hw hf
    rw [q1]
    have : (mvW (laT T 1 s k) w).isSome = (mvW (laT T 0 s k) w).isSome := by
      cases h1 : mvW (laT T 1 s k) w <;> cases h2 : mvW (laT T 0 s k) w <;> rw [h1, h2] at q2 <;> first | rfl | exact Bool.noConfusion q2
    rw [this]
theorem la_d (hA : ALK T) (hW : WF T) (hk : k < Wn (opnN T) s) {w : Nat} (hw : w < T 1) : mvD T 1 s k w = mvD T 0 s k w := by
  unfold mvD
  rw [la_c hA hW hk hw]
  cases hc : canW (laT T 0 s k) w with
  | false => rfl
  | true =>
    rw [if_pos rfl, if_pos rfl]
    obtain ⟨hf, -⟩ := can_fs hc
    rcases la_mv hA hW hk hw hf with ⟨h1, h2⟩ | ⟨l, r, t, d0, d1, h1, h2, h3⟩
    · rw [h1, h2]; rfl
    · rw [h1, h2]
      obtain ⟨n1, n2, n3⟩ := nb_m hA h3
      have e13 : d1 (12 + 1) = d0 (12 + 0) := (RM_p.mp h3).2
      show some _ = some _
      dsimp only
      rw [e13]
      unfold thN
      by_cases q : T 9 = 1 ∧ l = T 1
      · rw [if_pos q, if_pos q, n1]
        rfl
      · rw [if_neg q, if_neg q]
        show some (d0 (12 + 0), decide (1 - 1 = 1), nbT T d1 0) = some (d0 (12 + 0), decide (1 - 0 = 0), nbT T d0 1)
        rw [n2]
        rfl
theorem la_ed (hA : ALK T) (hW : WF T) (hk : k < Wn (opnN T) s) : edV T 1 s k = edV T 0 s k := by
  obtain ⟨r1, r2⟩ := row_m (laC_m hA hW.1.2.1 hk)
  unfold edV
  show ((rowN (laC T 1 s k) (offN (T 1) 1) (T 1) : Nat) : Int) - ((rowN (laC T 1 s k) (offN (T 1) 0) (T 1) : Nat) : Int) = ((rowN (laC T 0 s k) (offN (T 1) 0) (T 1) : Nat) : Int) - ((rowN (laC T 0 s k) (offN (T 1) 1) (T 1) : Nat) : Int)
  rw [r1, r2]
end SY9
theorem mx_cg {f g : Nat → Option Int} : ∀ n, (∀ w, w < n → f w = g w) → mxV f n = mxV g n := by
  intro n
  induction n with
  | zero => intro _; rfl
  | succ n ih => intro h; rw [mxV, mxV, h n (by omega), ih (fun w hw => h w (by omega))]
theorem it_sy {T : Nat → Nat} {s : Nat} {lo : Nat → Nat → Nat → Int} (hA : ALK T) (hW : WF T) (h40 : s ≤ 40) (hl : ∀ s' k, s' < s → k < Wn (opnN T) s' → lo 1 s' k = lo 0 s' k) : ∀ r k, k < Wn (opnN T) s → itV T s lo r 1 k = itV T s lo r 0 k ∧ itR T s lo r 1 k = itR T s lo r 0 k := by
  have hV : ∀ r k, k < Wn (opnN T) s → itV T s lo r 1 k = itV T s lo r 0 k := by
    intro r
    induction r with
    | zero =>
      intro k hk
      rw [itV]
      dsimp only
      rw [la_o hA hW hk, la_ed hA hW hk]
    | succ r ih =>
      intro k hk
      rw [itV]
      unfold stV
      rw [la_o hA hW hk, la_ed hA hW hk]
      cases enD T 0 s k with
      | true => rfl
      | false =>
        rw [if_neg (by decide), if_neg (by decide)]
        refine mx_cg _ (fun w hw => ?_)
        unfold fmV
        rw [la_d hA hW hk hw]
        cases hm : mvD T 0 s k w with
        | none => rfl
        | some x =>
          obtain ⟨g, st, k'⟩ := x
          obtain ⟨p1, p2, p3, -⟩ := mvD_p hW (by decide) h40 hk hw hm
          show some _ = some _
          unfold woV
          dsimp only
          by_cases q : 0 < g
          · rw [if_pos q, if_pos q, hl _ _ (by omega) p2]
          · rw [if_neg q, if_neg q]
            obtain rfl : g = 0 := by omega
            show some (- itV T s lo r 0 k') = some (- itV T s lo r 1 k')
            rw [ih k' p2]
  intro r
  induction r with
  | zero => intro k hk; exact ⟨hV 0 k hk, rfl⟩
  | succ r ih =>
    intro k hk
    refine ⟨hV (r + 1) k hk, ?_⟩
    rw [itR]
    dsimp only
    rw [hV (r + 1) k hk, hV r k hk, (ih k hk).2]
theorem VL_sy {T : Nat → Nat} (hA : ALK T) (hW : WF T) : ∀ S, S ≤ 41 → ∀ s k, s < S → k < Wn (opnN T) s → VL T S 1 s k = VL T S 0 s k ∧ RK T S 1 s k = RK T S 0 s k := by
  intro S
  induction S with
  | zero => intro _ s k h; omega
  | succ S ih =>
    intro hS s k hs hk
    rw [VL, RK]
    dsimp only
    by_cases q : s = S
    · rw [if_pos q, if_pos q, if_pos q, if_pos q]
      subst q
      exact it_sy hA hW (by omega) (fun s' k' h1 h2 => (ih (by omega) s' k' h1 h2).1) 6007 k hk
    · rw [if_neg q, if_neg q, if_neg q, if_neg q]
      exact ih (by omega) s k (by omega) hk
