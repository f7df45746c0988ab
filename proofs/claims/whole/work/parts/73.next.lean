/-! the reference: where sowing goes on to -/
def offN (sz side : Nat) : Nat := if side = 0 then 0 else sz
/-- a pit as a side sees it, and back -/
def seN (sz side p : Nat) : Nat := (p + offN sz side) % (2 * sz)
/-- where it stands, as the side sees it (100: in the store, behind the own pits) -/
def atN (sz side a : Nat) : Nat := if a = 100 then sz - 1 else seN sz side a
def goN (sz side a : Nat) : Nat := seN sz side ((atN sz side a + 1) % (2 * sz))
theorem rem_s {x : Int32} {a d : Nat} (hx : x = nI a) (ha : a < 2 ^ 31) (h0 : 0 < d) (hd : d < 2 ^ 31) : x - x / nI d * nI d = nI (a % d) := by
  rw [hx]
  exact pk_rem ha h0 hd
theorem seN_lt {sz side p : Nat} (h1 : 1 ≤ sz) : seN sz side p < 2 * sz := Nat.mod_lt _ (by omega)
theorem next_step (n : Nat) (μ : Mu) {sz lac st side a t : Nat} {v2 wo : Int32} (k : Int32 → Int32 → Mu → Option (Int32 × Mu)) (hz : μ.1 172 1 = nI sz) (h1 : 1 ≤ sz) (h6 : sz ≤ 6) (hl : μ.1 172 3 = nI lac) (h31 : lac < 2 ^ 31) (hst : μ.1 172 4 = nI st) (hst2 : st < 2) (hs : side < 2) (ha : a < 2 * sz ∨ a = 100) (ht : t < 36) :
    X12_next_6b n (nI side) v2 wo k (nI a) (nI t) μ = if ¬ a = 100 ∧ atN sz side a = sz - 1 ∧ st = 1 then some (100, μ) else if lac.testBit (goN sz side a) = false ∧ ¬ nI (goN sz side a) = wo then some (nI (goN sz side a), μ) else k (nI (goN sz side a)) (nI (t + 1)) μ := by
  have hoff : (if nI side = 0 then (0 : Int32) else μ.1 172 1) = nI (offN sz side) := by
    unfold offN
    by_cases h : side = 0
    · subst h; rfl
    · rw [if_neg h, if_neg (show ¬ nI side = 0 from fun q => h ((nI_eq (b := 0) (by omega) (by decide)).mp q)), hz]
  have hoffl : offN sz side ≤ 6 := by unfold offN; split <;> omega
  -- from 104 on: the next pit
  have L104 : ∀ s : Nat, s < 2 * sz → X12_next_104 n (nI side) v2 wo k (nI t) (nI s) μ = if lac.testBit (seN sz side ((s + 1) % (2 * sz))) = false ∧ ¬ nI (seN sz side ((s + 1) % (2 * sz))) = wo then some (nI (seN sz side ((s + 1) % (2 * sz))), μ) else k (nI (seN sz side ((s + 1) % (2 * sz)))) (nI (t + 1)) μ := by
    intro s hs2
    have hm : (s + 1) % (2 * sz) < 2 * sz := Nat.mod_lt _ (by omega)
    have hq : seN sz side ((s + 1) % (2 * sz)) < 12 := by
      have := seN_lt (sz := sz) (side := side) (p := (s + 1) % (2 * sz)) h1
      omega
    have L131 : ∀ s1 : Int32, s1 = nI (offN sz side) → X12_next_131 n (nI side) v2 wo k (nI t) (nI ((s + 1) % (2 * sz))) s1 μ = if lac.testBit (seN sz side ((s + 1) % (2 * sz))) = false ∧ ¬ nI (seN sz side ((s + 1) % (2 * sz))) = wo then some (nI (seN sz side ((s + 1) % (2 * sz))), μ) else k (nI (seN sz side ((s + 1) % (2 * sz)))) (nI (t + 1)) μ := by
      intro s1 e1
      subst e1
      rw [X12_next_131, bS (pitMany_s n μ hz)]
      dsimp only
      rw [dv_of (nI_ne0 (by omega) (by omega)), rem_s (nI_add _ _) (by omega) (by omega) (by omega)]
      rw [show ((s + 1) % (2 * sz) + offN sz side) % (2 * sz) = seN sz side ((s + 1) % (2 * sz)) from rfl, bS (isLacking_s n μ hl h31 (by omega))]
      dsimp only
      unfold X12_next_157
      rw [nI_1]
      by_cases hb : lac.testBit (seN sz side ((s + 1) % (2 * sz))) = false
      · rw [if_pos (b2i_0.mpr hb)]
        by_cases hw : nI (seN sz side ((s + 1) % (2 * sz))) = wo
        · rw [if_pos hw, if_neg (fun q => q.2 hw)]
        · rw [if_neg hw, if_pos ⟨hb, hw⟩]
      · rw [if_neg (fun q => hb (b2i_0.mp q)), if_neg (fun q => hb q.1)]
    rw [X12_next_104, bS (pitMany_s n μ hz)]
    dsimp only
    rw [dv_of (nI_ne0 (by omega) (by omega)), rem_s (nI_1 _) (by omega) (by omega) (by omega)]
    by_cases h : nI side = 0
    · rw [if_pos h, L131 _ (by rw [← hoff, if_pos h])]
    · rw [if_neg h, L131 _ (by rw [← hoff, if_neg h])]
  have h104 := L104 (atN sz side a) (by unfold atN; split; omega; exact seN_lt h1)
  have L53 : X12_next_53 n (nI side) v2 wo k (nI a) (nI t) (nI (atN sz side a)) μ = if ¬ a = 100 ∧ atN sz side a = sz - 1 ∧ st = 1 then some (100, μ) else X12_next_104 n (nI side) v2 wo k (nI t) (nI (atN sz side a)) μ := by
    have hatl : atN sz side a < 2 * sz := by unfold atN; split; omega; exact seN_lt h1
    rw [X12_next_53]
    unfold X12_next_79 X12_next_80
    rw [hz, hst, show nI sz - 1 = nI (sz - 1) by rw [show (1 : Int32) = nI 1 from rfl, pk_sub h1]]
    by_cases c1 : a = 100
    · rw [if_pos (show nI a = 100 by rw [c1]; rfl), if_pos rfl, if_neg (fun q => q.1 c1)]
    · rw [if_neg (show ¬ nI a = 100 from fun q => c1 ((nI_eq (b := 100) (by omega) (by decide)).mp q))]
      by_cases c2 : atN sz side a = sz - 1
      · rw [if_pos (show nI (atN sz side a) = nI (sz - 1) by rw [c2]), if_neg (by decide)]
        by_cases c3 : st = 1
        · rw [if_pos (show nI st = 1 by rw [c3]; rfl), if_pos ⟨c1, c2, c3⟩]
        · rw [if_neg (show ¬ nI st = 1 from fun q => c3 ((nI_eq (b := 1) (by omega) (by decide)).mp q)), if_neg (fun q => c3 q.2.2)]
      · rw [if_neg (show ¬ nI (atN sz side a) = nI (sz - 1) from fun q => c2 ((nI_eq (by omega) (by omega)).mp q)), if_pos rfl, if_neg (fun q => c2 q.2.1)]
  rw [X12_next_6b, show (36 : Int32) = nI 36 from rfl, if_neg (fun q => absurd ((nI_leI (by omega) (by omega)).mp q) (by omega))]
  have h53 : (if nI a = (100 : Int32) then X12_next_53 n (nI side) v2 wo k (nI a) (nI t) ((μ.1 172 1) - (1 : Int32)) μ else (if nI side = 0 then X12_next_47 n (nI side) v2 wo k (nI a) (nI t) (nI a) (0 : Int32) μ else X12_next_47 n (nI side) v2 wo k (nI a) (nI t) (nI a) (μ.1 172 1) μ)) = X12_next_53 n (nI side) v2 wo k (nI a) (nI t) (nI (atN sz side a)) μ := by
    by_cases c1 : a = 100
    · rw [if_pos (by rw [c1]; rfl), hz, show (1 : Int32) = nI 1 from rfl, pk_sub h1]
      unfold atN
      rw [if_pos c1]
    · rw [if_neg (show ¬ nI a = 100 from fun q => c1 ((nI_eq (b := 100) (by omega) (by decide)).mp q))]
      have L47 : ∀ s1 : Int32, s1 = nI (offN sz side) → X12_next_47 n (nI side) v2 wo k (nI a) (nI t) (nI a) s1 μ = X12_next_53 n (nI side) v2 wo k (nI a) (nI t) (nI (atN sz side a)) μ := by
        intro s1 e1
        subst e1
        rw [X12_next_47, bS (pitMany_s n μ hz)]
        dsimp only
        rw [dv_of (nI_ne0 (by omega) (by omega)), rem_s (nI_add _ _) (by omega) (by omega) (by omega)]
        unfold atN
        rw [if_neg c1]
        rfl
      by_cases h : nI side = 0
      · rw [if_pos h, L47 _ (by rw [← hoff, if_pos h])]
      · rw [if_neg h, L47 _ (by rw [← hoff, if_neg h])]
  rw [h53, L53, h104]
  rfl
def nxN (sz lac st side : Nat) (wo : Int32) : Nat → Nat → Option Nat
  | 0, _ => none
  | f + 1, a => if ¬ a = 100 ∧ atN sz side a = sz - 1 ∧ st = 1 then some 100 else if lac.testBit (goN sz side a) = false ∧ ¬ nI (goN sz side a) = wo then some (goN sz side a) else nxN sz lac st side wo f (goN sz side a)
def oI (x : Option Nat) : Int32 := match x with
  | none => -1
  | some a => nI a
theorem next_s (n : Nat) (μ : Mu) {sz lac st side a : Nat} {wo : Int32} (hz : μ.1 172 1 = nI sz) (h1 : 1 ≤ sz) (h6 : sz ≤ 6) (hl : μ.1 172 3 = nI lac) (h31 : lac < 2 ^ 31) (hst : μ.1 172 4 = nI st) (hst2 : st < 2) (hs : side < 2) (ha : a < 2 * sz ∨ a = 100) (hn : 36 < n) :
    X12_next n (nI side) (nI a) wo μ = some (oI (nxN sz lac st side wo 36 a), μ) := by
  have key : ∀ f t b, t + f = 36 → (b < 2 * sz ∨ b = 100) → ∀ m, lpF (fun _ _ _ => none) (X12_next_6b n (nI side) (nI a) wo) (f + 1 + m) (nI b) (nI t) μ = some (oI (nxN sz lac st side wo f b), μ) := by
    intro f
    induction f with
    | zero =>
      intro t b ht hb m
      rw [show 0 + 1 + m = m + 1 by omega, lpF_s, X12_next_6b, if_pos (by rw [show (36 : Int32) = nI 36 from rfl]; exact nI_le (by omega) (by omega))]
      rfl
    | succ f ih =>
      intro t b ht hb m
      rw [show f + 1 + 1 + m = (f + 1 + m) + 1 by omega, lpF_s, next_step n μ _ hz h1 h6 hl h31 hst hst2 hs hb (by omega), nxN]
      by_cases c1 : ¬ b = 100 ∧ atN sz side b = sz - 1 ∧ st = 1
      · rw [if_pos c1, if_pos c1]
        rfl
      · rw [if_neg c1, if_neg c1]
        by_cases c2 : lac.testBit (goN sz side b) = false ∧ ¬ nI (goN sz side b) = wo
        · rw [if_pos c2, if_pos c2]
          rfl
        · rw [if_neg c2, if_neg c2]
          exact ih (t + 1) _ (by omega) (Or.inl (seN_lt h1)) m
  unfold X12_next X12_next_6
  obtain ⟨m, rfl⟩ : ∃ m, n = 36 + 1 + m := ⟨n - 37, by omega⟩
  exact key 36 0 a rfl ha m
