def X12_pitMany (n : Nat) (μ : Mu) : Option (Int32 × Mu) :=
  some (((2 : Int32) * (μ.1 172 1)), μ)
def X12_isLacking_19 (n : Nat) (v1 : Int32) (s0 : Int32) (μ : Mu) : Option (Int32 × Mu) :=
  bz s0 (some (s0, μ))
def X12_isLacking (n : Nat) (v1 : Int32) (μ : Mu) : Option (Int32 × Mu) :=
  (if (((μ.1 172 3) >>> (v1 &&& 31)) &&& (1 : Int32)) = (1 : Int32) then
  X12_isLacking_19 n v1 (1 : Int32) μ
  else
  X12_isLacking_19 n v1 (0 : Int32) μ)
def X12_sideOf_15 (n : Nat) (v1 : Int32) (s0 : Int32) (μ : Mu) : Option (Int32 × Mu) :=
  some (s0, μ)
def X12_sideOf (n : Nat) (v1 : Int32) (μ : Mu) : Option (Int32 × Mu) :=
  (if (μ.1 172 1) ≤ v1 then
  X12_sideOf_15 n v1 (1 : Int32) μ
  else
  X12_sideOf_15 n v1 (0 : Int32) μ)
def X12_next_157 (n : Nat) (v1 : Int32) (v2 : Int32) (v3 : Int32) (k6 : Int32 → Int32 → Mu → Option (Int32 × Mu)) (v4 : Int32) (v5 : Int32) (μ : Mu) : Option (Int32 × Mu) :=
  k6 v4 (v5 + (1 : Int32)) μ
def X12_next_131 (n : Nat) (v1 : Int32) (v2 : Int32) (v3 : Int32) (k6 : Int32 → Int32 → Mu → Option (Int32 × Mu)) (v5 : Int32) (s0 : Int32) (s1 : Int32) (μ : Mu) : Option (Int32 × Mu) :=
  (X12_pitMany n μ).bind (fun r133 =>
  dv r133.1 ((X12_isLacking n ((s0 + s1) - (s0 + s1) / r133.1 * r133.1) r133.2).bind (fun r142 =>
  (if r142.1 = 0 then
  (if ((s0 + s1) - (s0 + s1) / r133.1 * r133.1) = v3 then
  X12_next_157 n v1 v2 v3 k6 ((s0 + s1) - (s0 + s1) / r133.1 * r133.1) v5 r142.2
  else
  some (((s0 + s1) - (s0 + s1) / r133.1 * r133.1), r142.2))
  else
  X12_next_157 n v1 v2 v3 k6 ((s0 + s1) - (s0 + s1) / r133.1 * r133.1) v5 r142.2))))
def X12_next_104 (n : Nat) (v1 : Int32) (v2 : Int32) (v3 : Int32) (k6 : Int32 → Int32 → Mu → Option (Int32 × Mu)) (v5 : Int32) (v6 : Int32) (μ : Mu) : Option (Int32 × Mu) :=
  (X12_pitMany n μ).bind (fun r109 =>
  dv r109.1 ((if v1 = 0 then
  X12_next_131 n v1 v2 v3 k6 v5 ((v6 + (1 : Int32)) - (v6 + (1 : Int32)) / r109.1 * r109.1) (0 : Int32) r109.2
  else
  X12_next_131 n v1 v2 v3 k6 v5 ((v6 + (1 : Int32)) - (v6 + (1 : Int32)) / r109.1 * r109.1) (r109.2.1 172 1) r109.2)))
def X12_next_80 (n : Nat) (v1 : Int32) (v2 : Int32) (v3 : Int32) (k6 : Int32 → Int32 → Mu → Option (Int32 × Mu)) (v5 : Int32) (v6 : Int32) (s0 : Int32) (μ : Mu) : Option (Int32 × Mu) :=
  (if s0 = 0 then
  X12_next_104 n v1 v2 v3 k6 v5 v6 μ
  else
  (if (μ.1 172 4) = (1 : Int32) then
  some ((100 : Int32), μ)
  else
  X12_next_104 n v1 v2 v3 k6 v5 v6 μ))
def X12_next_79 (n : Nat) (v1 : Int32) (v2 : Int32) (v3 : Int32) (k6 : Int32 → Int32 → Mu → Option (Int32 × Mu)) (v5 : Int32) (v6 : Int32) (μ : Mu) : Option (Int32 × Mu) :=
  X12_next_80 n v1 v2 v3 k6 v5 v6 (0 : Int32) μ
def X12_next_53 (n : Nat) (v1 : Int32) (v2 : Int32) (v3 : Int32) (k6 : Int32 → Int32 → Mu → Option (Int32 × Mu)) (v4 : Int32) (v5 : Int32) (s0 : Int32) (μ : Mu) : Option (Int32 × Mu) :=
  (if v4 = (100 : Int32) then
  X12_next_79 n v1 v2 v3 k6 v5 s0 μ
  else
  (if s0 = ((μ.1 172 1) - (1 : Int32)) then
  X12_next_80 n v1 v2 v3 k6 v5 s0 (1 : Int32) μ
  else
  X12_next_79 n v1 v2 v3 k6 v5 s0 μ))
def X12_next_47 (n : Nat) (v1 : Int32) (v2 : Int32) (v3 : Int32) (k6 : Int32 → Int32 → Mu → Option (Int32 × Mu)) (v4 : Int32) (v5 : Int32) (s0 : Int32) (s1 : Int32) (μ : Mu) : Option (Int32 × Mu) :=
  (X12_pitMany n μ).bind (fun r49 =>
  dv r49.1 (X12_next_53 n v1 v2 v3 k6 v4 v5 ((s0 + s1) - (s0 + s1) / r49.1 * r49.1) r49.2))
def X12_next_6b (n : Nat) (v1 : Int32) (v2 : Int32) (v3 : Int32) (k6 : Int32 → Int32 → Mu → Option (Int32 × Mu)) (v4 : Int32) (v5 : Int32) (μ : Mu) : Option (Int32 × Mu) :=
  (if (36 : Int32) ≤ v5 then
  some (((-1) : Int32), μ)
  else
  (if v4 = (100 : Int32) then
  X12_next_53 n v1 v2 v3 k6 v4 v5 ((μ.1 172 1) - (1 : Int32)) μ
  else
  (if v1 = 0 then
  X12_next_47 n v1 v2 v3 k6 v4 v5 v4 (0 : Int32) μ
  else
  X12_next_47 n v1 v2 v3 k6 v4 v5 v4 (μ.1 172 1) μ)))
def X12_next_6 (n : Nat) (v1 : Int32) (v2 : Int32) (v3 : Int32) (v4 : Int32) (v5 : Int32) (μ : Mu) : Option (Int32 × Mu) := lpF (fun _ _ _ => none) (X12_next_6b n v1 v2 v3) n v4 v5 μ
def X12_next (n : Nat) (v1 : Int32) (v2 : Int32) (v3 : Int32) (μ : Mu) : Option (Int32 × Mu) :=
  X12_next_6 n v1 v2 v3 v2 (0 : Int32) μ
def X12_sum_32 (n : Nat) (v1 : Int32) (k4 : Int32 → Int32 → Mu → Option (Int32 × Mu)) (v3 : Int32) (s0 : Int32) (s1 : Int32) (μ : Mu) : Option (Int32 × Mu) :=
  k4 (s0 + s1) (v3 + (1 : Int32)) μ
def X12_sum_4b (n : Nat) (v1 : Int32) (k4 : Int32 → Int32 → Mu → Option (Int32 × Mu)) (v2 : Int32) (v3 : Int32) (μ : Mu) : Option (Int32 × Mu) :=
  (X12_pitMany n μ).bind (fun r6 =>
  (if r6.1 ≤ v3 then
  some (v2, r6.2)
  else
  (X12_sideOf n v3 r6.2).bind (fun r15 =>
  (if r15.1 = v1 then
  gd v3 12 (X12_sum_32 n v1 k4 v3 v2 (r15.2.1 178 v3.toNatClampNeg) r15.2)
  else
  X12_sum_32 n v1 k4 v3 v2 (0 : Int32) r15.2))))
def X12_sum_4 (n : Nat) (v1 : Int32) (v2 : Int32) (v3 : Int32) (μ : Mu) : Option (Int32 × Mu) := lpF (fun _ _ _ => none) (X12_sum_4b n v1) n v2 v3 μ
def X12_sum (n : Nat) (v1 : Int32) (μ : Mu) : Option (Int32 × Mu) :=
  X12_sum_4 n v1 (0 : Int32) (0 : Int32) μ
