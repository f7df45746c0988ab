def law_2193 (n : Nat) (L : Nat) (xs : Nat → Int32) (k23 : Int32 → Mu → Option (Int32 × Mu)) (v4 : Int32) (μ : Mu) : Option (Int32 × Mu) :=
  k23 (v4 + (6 : Int32)) μ
def law_224 (n : Nat) (L : Nat) (xs : Nat → Int32) (k23 : Int32 → Mu → Option (Int32 × Mu)) (v4 : Int32) (μ : Mu) : Option (Int32 × Mu) :=
  gd (v4 + (1 : Int32)) L (gd (v4 + (2 : Int32)) L (gd (v4 + (3 : Int32)) L (gd (v4 + (4 : Int32)) L (gd (v4 + (5 : Int32)) L ((X11_feed n (xs (v4 + (1 : Int32)).toNatClampNeg) (xs (v4 + (2 : Int32)).toNatClampNeg) (xs (v4 + (3 : Int32)).toNatClampNeg) (xs (v4 + (4 : Int32)).toNatClampNeg) (xs (v4 + (5 : Int32)).toNatClampNeg) μ).bind (fun r255 =>
  (X12_feed n (xs (v4 + (1 : Int32)).toNatClampNeg) (xs (v4 + (2 : Int32)).toNatClampNeg) (xs (v4 + (3 : Int32)).toNatClampNeg) (xs (v4 + (4 : Int32)).toNatClampNeg) (xs (v4 + (5 : Int32)).toNatClampNeg) r255.2).bind (fun r289 =>
  (if r255.1 = r289.1 then
  law_2193 n L xs k23 v4 r289.2
  else
  some ((0 : Int32), r289.2)))))))))
def law_350 (n : Nat) (L : Nat) (xs : Nat → Int32) (k23 : Int32 → Mu → Option (Int32 × Mu)) (v4 : Int32) (μ : Mu) : Option (Int32 × Mu) :=
  law_2193 n L xs k23 v4 μ
def law_297 (n : Nat) (L : Nat) (xs : Nat → Int32) (k23 : Int32 → Mu → Option (Int32 × Mu)) (v4 : Int32) (μ : Mu) : Option (Int32 × Mu) :=
  gd (v4 + (1 : Int32)) L ((L_board n (xs (v4 + (1 : Int32)).toNatClampNeg) μ).bind (fun r305 =>
  (X12_board n (xs (v4 + (1 : Int32)).toNatClampNeg) r305.2).bind (fun r317 =>
  (X12_thrown n r317.2).bind (fun r323 =>
  (if r323.1 = r305.1 then
  (if r305.1 = 0 then
  (if (lg_cmp (r323.2.2 201 0) (r317.1.toInt64)) = 0 then
  law_350 n L xs k23 v4 r323.2
  else
  some ((0 : Int32), r323.2))
  else
  law_350 n L xs k23 v4 r323.2)
  else
  some ((0 : Int32), r323.2))))))
def law_353 (n : Nat) (L : Nat) (xs : Nat → Int32) (k23 : Int32 → Mu → Option (Int32 × Mu)) (v4 : Int32) (μ : Mu) : Option (Int32 × Mu) :=
  gd (v4 + (1 : Int32)) L ((X11_fault n (xs (v4 + (1 : Int32)).toNatClampNeg) μ).bind (fun r360 =>
  (X12_fault n (xs (v4 + (1 : Int32)).toNatClampNeg) r360.2).bind (fun r370 =>
  (if r360.1 = r370.1 then
  law_2193 n L xs k23 v4 r370.2
  else
  some ((0 : Int32), r370.2)))))
def law_431 (n : Nat) (L : Nat) (xs : Nat → Int32) (k23 : Int32 → Mu → Option (Int32 × Mu)) (v4 : Int32) (μ : Mu) : Option (Int32 × Mu) :=
  law_2193 n L xs k23 v4 μ
def law_378 (n : Nat) (L : Nat) (xs : Nat → Int32) (k23 : Int32 → Mu → Option (Int32 × Mu)) (v4 : Int32) (μ : Mu) : Option (Int32 × Mu) :=
  gd (v4 + (1 : Int32)) L ((L_pit n (xs (v4 + (1 : Int32)).toNatClampNeg) μ).bind (fun r386 =>
  (X12_pit n (xs (v4 + (1 : Int32)).toNatClampNeg) r386.2).bind (fun r398 =>
  (X12_thrown n r398.2).bind (fun r404 =>
  (if r404.1 = r386.1 then
  (if r386.1 = 0 then
  (if (lg_cmp (r404.2.2 201 0) (r398.1.toInt64)) = 0 then
  law_431 n L xs k23 v4 r404.2
  else
  some ((0 : Int32), r404.2))
  else
  law_431 n L xs k23 v4 r404.2)
  else
  some ((0 : Int32), r404.2))))))
def law_487 (n : Nat) (L : Nat) (xs : Nat → Int32) (k23 : Int32 → Mu → Option (Int32 × Mu)) (v4 : Int32) (μ : Mu) : Option (Int32 × Mu) :=
  law_2193 n L xs k23 v4 μ
def law_434 (n : Nat) (L : Nat) (xs : Nat → Int32) (k23 : Int32 → Mu → Option (Int32 × Mu)) (v4 : Int32) (μ : Mu) : Option (Int32 × Mu) :=
  gd (v4 + (1 : Int32)) L ((L_store n (xs (v4 + (1 : Int32)).toNatClampNeg) μ).bind (fun r442 =>
  (X12_store n (xs (v4 + (1 : Int32)).toNatClampNeg) r442.2).bind (fun r454 =>
  (X12_thrown n r454.2).bind (fun r460 =>
  (if r460.1 = r442.1 then
  (if r442.1 = 0 then
  (if (lg_cmp (r460.2.2 201 0) (r454.1.toInt64)) = 0 then
  law_487 n L xs k23 v4 r460.2
  else
  some ((0 : Int32), r460.2))
  else
  law_487 n L xs k23 v4 r460.2)
  else
  some ((0 : Int32), r460.2))))))
def law_490 (n : Nat) (L : Nat) (xs : Nat → Int32) (k23 : Int32 → Mu → Option (Int32 × Mu)) (v4 : Int32) (μ : Mu) : Option (Int32 × Mu) :=
  (X11_mover n μ).bind (fun r491 =>
  (X12_mover n r491.2).bind (fun r495 =>
  (if r491.1 = r495.1 then
  law_2193 n L xs k23 v4 r495.2
  else
  some ((0 : Int32), r495.2))))
def law_503 (n : Nat) (L : Nat) (xs : Nat → Int32) (k23 : Int32 → Mu → Option (Int32 × Mu)) (v4 : Int32) (μ : Mu) : Option (Int32 × Mu) :=
  gd (v4 + (1 : Int32)) L ((X11_may n (xs (v4 + (1 : Int32)).toNatClampNeg) μ).bind (fun r510 =>
  (X12_may n (xs (v4 + (1 : Int32)).toNatClampNeg) r510.2).bind (fun r520 =>
  (if r510.1 = r520.1 then
  law_2193 n L xs k23 v4 r520.2
  else
  some ((0 : Int32), r520.2)))))
def law_528 (n : Nat) (L : Nat) (xs : Nat → Int32) (k23 : Int32 → Mu → Option (Int32 × Mu)) (v4 : Int32) (μ : Mu) : Option (Int32 × Mu) :=
  gd (v4 + (1 : Int32)) L ((X11_move n (xs (v4 + (1 : Int32)).toNatClampNeg) μ).bind (fun r535 =>
  (X12_move n (xs (v4 + (1 : Int32)).toNatClampNeg) r535.2).bind (fun r545 =>
  (if r535.1 = r545.1 then
  law_2193 n L xs k23 v4 r545.2
  else
  some ((0 : Int32), r545.2)))))
def law_618 (n : Nat) (L : Nat) (xs : Nat → Int32) (k23 : Int32 → Mu → Option (Int32 × Mu)) (v4 : Int32) (μ : Mu) : Option (Int32 × Mu) :=
  law_2193 n L xs k23 v4 μ
def law_553 (n : Nat) (L : Nat) (xs : Nat → Int32) (k23 : Int32 → Mu → Option (Int32 × Mu)) (v4 : Int32) (μ : Mu) : Option (Int32 × Mu) :=
  gd (v4 + (1 : Int32)) L (gd (v4 + (2 : Int32)) L ((L_sown n (xs (v4 + (1 : Int32)).toNatClampNeg) (xs (v4 + (2 : Int32)).toNatClampNeg) μ).bind (fun r567 =>
  (X12_sown n (xs (v4 + (1 : Int32)).toNatClampNeg) (xs (v4 + (2 : Int32)).toNatClampNeg) r567.2).bind (fun r585 =>
  (X12_thrown n r585.2).bind (fun r591 =>
  (if r591.1 = r567.1 then
  (if r567.1 = 0 then
  (if (lg_cmp (r591.2.2 201 0) (r585.1.toInt64)) = 0 then
  law_618 n L xs k23 v4 r591.2
  else
  some ((0 : Int32), r591.2))
  else
  law_618 n L xs k23 v4 r591.2)
  else
  some ((0 : Int32), r591.2)))))))
def law_621 (n : Nat) (L : Nat) (xs : Nat → Int32) (k23 : Int32 → Mu → Option (Int32 × Mu)) (v4 : Int32) (μ : Mu) : Option (Int32 × Mu) :=
  (X11_undo n μ).bind (fun r622 =>
  (X12_undo n r622.2).bind (fun r626 =>
  (if r622.1 = r626.1 then
  law_2193 n L xs k23 v4 r626.2
  else
  some ((0 : Int32), r626.2))))
def law_634 (n : Nat) (L : Nat) (xs : Nat → Int32) (k23 : Int32 → Mu → Option (Int32 × Mu)) (v4 : Int32) (μ : Mu) : Option (Int32 × Mu) :=
  (X11_redo n μ).bind (fun r635 =>
  (X12_redo n r635.2).bind (fun r639 =>
  (if r635.1 = r639.1 then
  law_2193 n L xs k23 v4 r639.2
  else
  some ((0 : Int32), r639.2))))
def law_647 (n : Nat) (L : Nat) (xs : Nat → Int32) (k23 : Int32 → Mu → Option (Int32 × Mu)) (v4 : Int32) (μ : Mu) : Option (Int32 × Mu) :=
  (X11_over n μ).bind (fun r648 =>
  (X12_over n r648.2).bind (fun r652 =>
  (if r648.1 = r652.1 then
  law_2193 n L xs k23 v4 r652.2
  else
  some ((0 : Int32), r652.2))))
def law_660 (n : Nat) (L : Nat) (xs : Nat → Int32) (k23 : Int32 → Mu → Option (Int32 × Mu)) (v4 : Int32) (μ : Mu) : Option (Int32 × Mu) :=
  (X11_score n μ).bind (fun r661 =>
  (X12_score n r661.2).bind (fun r665 =>
  (if r661.1 = r665.1 then
  law_2193 n L xs k23 v4 r665.2
  else
  some ((0 : Int32), r665.2))))
def law_738 (n : Nat) (L : Nat) (xs : Nat → Int32) (k23 : Int32 → Mu → Option (Int32 × Mu)) (v4 : Int32) (μ : Mu) : Option (Int32 × Mu) :=
  law_2193 n L xs k23 v4 μ
def law_673 (n : Nat) (L : Nat) (xs : Nat → Int32) (k23 : Int32 → Mu → Option (Int32 × Mu)) (v4 : Int32) (μ : Mu) : Option (Int32 × Mu) :=
  gd (v4 + (1 : Int32)) L (gd (v4 + (2 : Int32)) L ((L_judge n (xs (v4 + (1 : Int32)).toNatClampNeg) (xs (v4 + (2 : Int32)).toNatClampNeg) μ).bind (fun r687 =>
  (X12_judge n (xs (v4 + (1 : Int32)).toNatClampNeg) (xs (v4 + (2 : Int32)).toNatClampNeg) r687.2).bind (fun r705 =>
  (X12_thrown n r705.2).bind (fun r711 =>
  (if r711.1 = r687.1 then
  (if r687.1 = 0 then
  (if (lg_cmp (r711.2.2 201 0) (r705.1.toInt64)) = 0 then
  law_738 n L xs k23 v4 r711.2
  else
  some ((0 : Int32), r711.2))
  else
  law_738 n L xs k23 v4 r711.2)
  else
  some ((0 : Int32), r711.2)))))))
def law_794 (n : Nat) (L : Nat) (xs : Nat → Int32) (k23 : Int32 → Mu → Option (Int32 × Mu)) (v4 : Int32) (μ : Mu) : Option (Int32 × Mu) :=
  law_2193 n L xs k23 v4 μ
def law_741 (n : Nat) (L : Nat) (xs : Nat → Int32) (k23 : Int32 → Mu → Option (Int32 × Mu)) (v4 : Int32) (μ : Mu) : Option (Int32 × Mu) :=
  gd (v4 + (1 : Int32)) L ((L_perform n (xs (v4 + (1 : Int32)).toNatClampNeg) μ).bind (fun r749 =>
  (X12_perform n (xs (v4 + (1 : Int32)).toNatClampNeg) r749.2).bind (fun r761 =>
  (X12_thrown n r761.2).bind (fun r767 =>
  (if r767.1 = r749.1 then
  (if r749.1 = 0 then
  (if (lg_cmp (r767.2.2 201 0) (r761.1.toInt64)) = 0 then
  law_794 n L xs k23 v4 r767.2
  else
  some ((0 : Int32), r767.2))
  else
  law_794 n L xs k23 v4 r767.2)
  else
  some ((0 : Int32), r767.2))))))
def law_862 (n : Nat) (L : Nat) (xs : Nat → Int32) (k23 : Int32 → Mu → Option (Int32 × Mu)) (v4 : Int32) (μ : Mu) : Option (Int32 × Mu) :=
  law_2193 n L xs k23 v4 μ
def law_797 (n : Nat) (L : Nat) (xs : Nat → Int32) (k23 : Int32 → Mu → Option (Int32 × Mu)) (v4 : Int32) (μ : Mu) : Option (Int32 × Mu) :=
  gd (v4 + (1 : Int32)) L (gd (v4 + (2 : Int32)) L ((L_positions n (xs (v4 + (1 : Int32)).toNatClampNeg) (xs (v4 + (2 : Int32)).toNatClampNeg) μ).bind (fun r811 =>
  (X12_positions n (xs (v4 + (1 : Int32)).toNatClampNeg) (xs (v4 + (2 : Int32)).toNatClampNeg) r811.2).bind (fun r829 =>
  (X12_thrown n r829.2).bind (fun r835 =>
  (if r835.1 = r811.1 then
  (if r811.1 = 0 then
  (if (lg_cmp (r835.2.2 201 0) (r829.1.toInt64)) = 0 then
  law_862 n L xs k23 v4 r835.2
  else
  some ((0 : Int32), r835.2))
  else
  law_862 n L xs k23 v4 r835.2)
  else
  some ((0 : Int32), r835.2)))))))
def law_865 (n : Nat) (L : Nat) (xs : Nat → Int32) (k23 : Int32 → Mu → Option (Int32 × Mu)) (v4 : Int32) (μ : Mu) : Option (Int32 × Mu) :=
  (X11_place n μ).bind (fun r866 =>
  (X12_place n r866.2).bind (fun r870 =>
  (if r866.1 = r870.1 then
  law_2193 n L xs k23 v4 r870.2
  else
  some ((0 : Int32), r870.2))))
def law_967 (n : Nat) (L : Nat) (xs : Nat → Int32) (k23 : Int32 → Mu → Option (Int32 × Mu)) (v4 : Int32) (μ : Mu) : Option (Int32 × Mu) :=
  law_2193 n L xs k23 v4 μ
def law_878 (n : Nat) (L : Nat) (xs : Nat → Int32) (k23 : Int32 → Mu → Option (Int32 × Mu)) (v4 : Int32) (μ : Mu) : Option (Int32 × Mu) :=
  gd (v4 + (1 : Int32)) L (gd (v4 + (2 : Int32)) L (gd (v4 + (3 : Int32)) L (gd (v4 + (4 : Int32)) L ((L_ofPlace n (xs (v4 + (1 : Int32)).toNatClampNeg) (xs (v4 + (2 : Int32)).toNatClampNeg) (xs (v4 + (3 : Int32)).toNatClampNeg) (xs (v4 + (4 : Int32)).toNatClampNeg) μ).bind (fun r904 =>
  (X12_ofPlace n (xs (v4 + (1 : Int32)).toNatClampNeg) (xs (v4 + (2 : Int32)).toNatClampNeg) (xs (v4 + (3 : Int32)).toNatClampNeg) (xs (v4 + (4 : Int32)).toNatClampNeg) r904.2).bind (fun r934 =>
  (X12_thrown n r934.2).bind (fun r940 =>
  (if r940.1 = r904.1 then
  (if r904.1 = 0 then
  (if (lg_cmp (r940.2.2 201 0) (r934.1.toInt64)) = 0 then
  law_967 n L xs k23 v4 r940.2
  else
  some ((0 : Int32), r940.2))
  else
  law_967 n L xs k23 v4 r940.2)
  else
  some ((0 : Int32), r940.2)))))))))
def law_970 (n : Nat) (L : Nat) (xs : Nat → Int32) (k23 : Int32 → Mu → Option (Int32 × Mu)) (v4 : Int32) (μ : Mu) : Option (Int32 × Mu) :=
  (X11_value n μ).bind (fun r971 =>
  (X12_value n r971.2).bind (fun r975 =>
  (if r971.1 = r975.1 then
  law_2193 n L xs k23 v4 r975.2
  else
  some ((0 : Int32), r975.2))))
def law_983 (n : Nat) (L : Nat) (xs : Nat → Int32) (k23 : Int32 → Mu → Option (Int32 × Mu)) (v4 : Int32) (μ : Mu) : Option (Int32 × Mu) :=
  (X11_rank n μ).bind (fun r984 =>
  (X12_rank n r984.2).bind (fun r988 =>
  (if r984.1 = r988.1 then
  law_2193 n L xs k23 v4 r988.2
  else
  some ((0 : Int32), r988.2))))
def law_996 (n : Nat) (L : Nat) (xs : Nat → Int32) (k23 : Int32 → Mu → Option (Int32 × Mu)) (v4 : Int32) (μ : Mu) : Option (Int32 × Mu) :=
  (X11_best n μ).bind (fun r997 =>
  (X12_best n r997.2).bind (fun r1001 =>
  (if r997.1 = r1001.1 then
  law_2193 n L xs k23 v4 r1001.2
  else
  some ((0 : Int32), r1001.2))))
def law_1009 (n : Nat) (L : Nat) (xs : Nat → Int32) (k23 : Int32 → Mu → Option (Int32 × Mu)) (v4 : Int32) (μ : Mu) : Option (Int32 × Mu) :=
  gd (v4 + (1 : Int32)) L ((X11_worth n (xs (v4 + (1 : Int32)).toNatClampNeg) μ).bind (fun r1016 =>
  (X12_worth n (xs (v4 + (1 : Int32)).toNatClampNeg) r1016.2).bind (fun r1026 =>
  (if r1016.1 = r1026.1 then
  law_2193 n L xs k23 v4 r1026.2
  else
  some ((0 : Int32), r1026.2)))))
def law_1111 (n : Nat) (L : Nat) (xs : Nat → Int32) (k23 : Int32 → Mu → Option (Int32 × Mu)) (v4 : Int32) (μ : Mu) : Option (Int32 × Mu) :=
  law_2193 n L xs k23 v4 μ
def law_1034 (n : Nat) (L : Nat) (xs : Nat → Int32) (k23 : Int32 → Mu → Option (Int32 × Mu)) (v4 : Int32) (μ : Mu) : Option (Int32 × Mu) :=
  gd (v4 + (1 : Int32)) L (gd (v4 + (2 : Int32)) L (gd (v4 + (3 : Int32)) L ((L_valueOf n (xs (v4 + (1 : Int32)).toNatClampNeg) (xs (v4 + (2 : Int32)).toNatClampNeg) (xs (v4 + (3 : Int32)).toNatClampNeg) μ).bind (fun r1054 =>
  (X12_valueOf n (xs (v4 + (1 : Int32)).toNatClampNeg) (xs (v4 + (2 : Int32)).toNatClampNeg) (xs (v4 + (3 : Int32)).toNatClampNeg) r1054.2).bind (fun r1078 =>
  (X12_thrown n r1078.2).bind (fun r1084 =>
  (if r1084.1 = r1054.1 then
  (if r1054.1 = 0 then
  (if (lg_cmp (r1084.2.2 201 0) (r1078.1.toInt64)) = 0 then
  law_1111 n L xs k23 v4 r1084.2
  else
  some ((0 : Int32), r1084.2))
  else
  law_1111 n L xs k23 v4 r1084.2)
  else
  some ((0 : Int32), r1084.2))))))))
def law_1191 (n : Nat) (L : Nat) (xs : Nat → Int32) (k23 : Int32 → Mu → Option (Int32 × Mu)) (v4 : Int32) (μ : Mu) : Option (Int32 × Mu) :=
  law_2193 n L xs k23 v4 μ
def law_1114 (n : Nat) (L : Nat) (xs : Nat → Int32) (k23 : Int32 → Mu → Option (Int32 × Mu)) (v4 : Int32) (μ : Mu) : Option (Int32 × Mu) :=
  gd (v4 + (1 : Int32)) L (gd (v4 + (2 : Int32)) L (gd (v4 + (3 : Int32)) L ((L_tally n (xs (v4 + (1 : Int32)).toNatClampNeg) (xs (v4 + (2 : Int32)).toNatClampNeg) (xs (v4 + (3 : Int32)).toNatClampNeg) μ).bind (fun r1134 =>
  (X12_tally n (xs (v4 + (1 : Int32)).toNatClampNeg) (xs (v4 + (2 : Int32)).toNatClampNeg) (xs (v4 + (3 : Int32)).toNatClampNeg) r1134.2).bind (fun r1158 =>
  (X12_thrown n r1158.2).bind (fun r1164 =>
  (if r1164.1 = r1134.1 then
  (if r1134.1 = 0 then
  (if (lg_cmp (r1164.2.2 201 0) (r1158.1.toInt64)) = 0 then
  law_1191 n L xs k23 v4 r1164.2
  else
  some ((0 : Int32), r1164.2))
  else
  law_1191 n L xs k23 v4 r1164.2)
  else
  some ((0 : Int32), r1164.2))))))))
def law_1283 (n : Nat) (L : Nat) (xs : Nat → Int32) (k23 : Int32 → Mu → Option (Int32 × Mu)) (v4 : Int32) (μ : Mu) : Option (Int32 × Mu) :=
  law_2193 n L xs k23 v4 μ
def law_1194 (n : Nat) (L : Nat) (xs : Nat → Int32) (k23 : Int32 → Mu → Option (Int32 × Mu)) (v4 : Int32) (μ : Mu) : Option (Int32 × Mu) :=
  gd (v4 + (1 : Int32)) L (gd (v4 + (2 : Int32)) L (gd (v4 + (3 : Int32)) L (gd (v4 + (4 : Int32)) L ((L_row n (xs (v4 + (1 : Int32)).toNatClampNeg) (xs (v4 + (2 : Int32)).toNatClampNeg) (xs (v4 + (3 : Int32)).toNatClampNeg) (xs (v4 + (4 : Int32)).toNatClampNeg) μ).bind (fun r1220 =>
  (X12_row n (xs (v4 + (1 : Int32)).toNatClampNeg) (xs (v4 + (2 : Int32)).toNatClampNeg) (xs (v4 + (3 : Int32)).toNatClampNeg) (xs (v4 + (4 : Int32)).toNatClampNeg) r1220.2).bind (fun r1250 =>
  (X12_thrown n r1250.2).bind (fun r1256 =>
  (if r1256.1 = r1220.1 then
  (if r1220.1 = 0 then
  (if (lg_cmp (r1256.2.2 201 0) (r1250.1.toInt64)) = 0 then
  law_1283 n L xs k23 v4 r1256.2
  else
  some ((0 : Int32), r1256.2))
  else
  law_1283 n L xs k23 v4 r1256.2)
  else
  some ((0 : Int32), r1256.2)))))))))
def law_1375 (n : Nat) (L : Nat) (xs : Nat → Int32) (k23 : Int32 → Mu → Option (Int32 × Mu)) (v4 : Int32) (μ : Mu) : Option (Int32 × Mu) :=
  law_2193 n L xs k23 v4 μ
def law_1286 (n : Nat) (L : Nat) (xs : Nat → Int32) (k23 : Int32 → Mu → Option (Int32 × Mu)) (v4 : Int32) (μ : Mu) : Option (Int32 × Mu) :=
  gd (v4 + (1 : Int32)) L (gd (v4 + (2 : Int32)) L (gd (v4 + (3 : Int32)) L (gd (v4 + (4 : Int32)) L ((L_find n (xs (v4 + (1 : Int32)).toNatClampNeg) (xs (v4 + (2 : Int32)).toNatClampNeg) (xs (v4 + (3 : Int32)).toNatClampNeg) (xs (v4 + (4 : Int32)).toNatClampNeg) μ).bind (fun r1312 =>
  (X12_find n (xs (v4 + (1 : Int32)).toNatClampNeg) (xs (v4 + (2 : Int32)).toNatClampNeg) (xs (v4 + (3 : Int32)).toNatClampNeg) (xs (v4 + (4 : Int32)).toNatClampNeg) r1312.2).bind (fun r1342 =>
  (X12_thrown n r1342.2).bind (fun r1348 =>
  (if r1348.1 = r1312.1 then
  (if r1312.1 = 0 then
  (if (lg_cmp (r1348.2.2 201 0) (r1342.1.toInt64)) = 0 then
  law_1375 n L xs k23 v4 r1348.2
  else
  some ((0 : Int32), r1348.2))
  else
  law_1375 n L xs k23 v4 r1348.2)
  else
  some ((0 : Int32), r1348.2)))))))))
def law_1455 (n : Nat) (L : Nat) (xs : Nat → Int32) (k23 : Int32 → Mu → Option (Int32 × Mu)) (v4 : Int32) (μ : Mu) : Option (Int32 × Mu) :=
  law_2193 n L xs k23 v4 μ
def law_1378 (n : Nat) (L : Nat) (xs : Nat → Int32) (k23 : Int32 → Mu → Option (Int32 × Mu)) (v4 : Int32) (μ : Mu) : Option (Int32 × Mu) :=
  gd (v4 + (1 : Int32)) L (gd (v4 + (2 : Int32)) L (gd (v4 + (3 : Int32)) L ((L_most n (xs (v4 + (1 : Int32)).toNatClampNeg) (xs (v4 + (2 : Int32)).toNatClampNeg) (xs (v4 + (3 : Int32)).toNatClampNeg) μ).bind (fun r1398 =>
  (X12_most n (xs (v4 + (1 : Int32)).toNatClampNeg) (xs (v4 + (2 : Int32)).toNatClampNeg) (xs (v4 + (3 : Int32)).toNatClampNeg) r1398.2).bind (fun r1422 =>
  (X12_thrown n r1422.2).bind (fun r1428 =>
  (if r1428.1 = r1398.1 then
  (if r1398.1 = 0 then
  (if (lg_cmp (r1428.2.2 201 0) (r1422.1.toInt64)) = 0 then
  law_1455 n L xs k23 v4 r1428.2
  else
  some ((0 : Int32), r1428.2))
  else
  law_1455 n L xs k23 v4 r1428.2)
  else
  some ((0 : Int32), r1428.2))))))))
def law_1458 (n : Nat) (L : Nat) (xs : Nat → Int32) (k23 : Int32 → Mu → Option (Int32 × Mu)) (v4 : Int32) (μ : Mu) : Option (Int32 × Mu) :=
  (X11_swapped n μ).bind (fun r1459 =>
  (X12_swapped n r1459.2).bind (fun r1463 =>
  (if r1459.1 = r1463.1 then
  law_2193 n L xs k23 v4 r1463.2
  else
  some ((0 : Int32), r1463.2))))
def law_1524 (n : Nat) (L : Nat) (xs : Nat → Int32) (k23 : Int32 → Mu → Option (Int32 × Mu)) (v4 : Int32) (μ : Mu) : Option (Int32 × Mu) :=
  law_2193 n L xs k23 v4 μ
def law_1471 (n : Nat) (L : Nat) (xs : Nat → Int32) (k23 : Int32 → Mu → Option (Int32 × Mu)) (v4 : Int32) (μ : Mu) : Option (Int32 × Mu) :=
  gd (v4 + (1 : Int32)) L ((L_line n (xs (v4 + (1 : Int32)).toNatClampNeg) μ).bind (fun r1479 =>
  (X12_line n (xs (v4 + (1 : Int32)).toNatClampNeg) r1479.2).bind (fun r1491 =>
  (X12_thrown n r1491.2).bind (fun r1497 =>
  (if r1497.1 = r1479.1 then
  (if r1479.1 = 0 then
  (if (lg_cmp (r1497.2.2 201 0) (r1491.1.toInt64)) = 0 then
  law_1524 n L xs k23 v4 r1497.2
  else
  some ((0 : Int32), r1497.2))
  else
  law_1524 n L xs k23 v4 r1497.2)
  else
  some ((0 : Int32), r1497.2))))))
def law_1580 (n : Nat) (L : Nat) (xs : Nat → Int32) (k23 : Int32 → Mu → Option (Int32 × Mu)) (v4 : Int32) (μ : Mu) : Option (Int32 × Mu) :=
  law_2193 n L xs k23 v4 μ
def law_1527 (n : Nat) (L : Nat) (xs : Nat → Int32) (k23 : Int32 → Mu → Option (Int32 × Mu)) (v4 : Int32) (μ : Mu) : Option (Int32 × Mu) :=
  gd (v4 + (1 : Int32)) L ((L_plays n (xs (v4 + (1 : Int32)).toNatClampNeg) μ).bind (fun r1535 =>
  (X12_plays n (xs (v4 + (1 : Int32)).toNatClampNeg) r1535.2).bind (fun r1547 =>
  (X12_thrown n r1547.2).bind (fun r1553 =>
  (if r1553.1 = r1535.1 then
  (if r1535.1 = 0 then
  (if (lg_cmp (r1553.2.2 201 0) (r1547.1.toInt64)) = 0 then
  law_1580 n L xs k23 v4 r1553.2
  else
  some ((0 : Int32), r1553.2))
  else
  law_1580 n L xs k23 v4 r1553.2)
  else
  some ((0 : Int32), r1553.2))))))
def law_1636 (n : Nat) (L : Nat) (xs : Nat → Int32) (k23 : Int32 → Mu → Option (Int32 × Mu)) (v4 : Int32) (μ : Mu) : Option (Int32 × Mu) :=
  law_2193 n L xs k23 v4 μ
def law_1583 (n : Nat) (L : Nat) (xs : Nat → Int32) (k23 : Int32 → Mu → Option (Int32 × Mu)) (v4 : Int32) (μ : Mu) : Option (Int32 × Mu) :=
  gd (v4 + (1 : Int32)) L ((L_reached n (xs (v4 + (1 : Int32)).toNatClampNeg) μ).bind (fun r1591 =>
  (X12_reached n (xs (v4 + (1 : Int32)).toNatClampNeg) r1591.2).bind (fun r1603 =>
  (X12_thrown n r1603.2).bind (fun r1609 =>
  (if r1609.1 = r1591.1 then
  (if r1591.1 = 0 then
  (if (lg_cmp (r1609.2.2 201 0) (r1603.1.toInt64)) = 0 then
  law_1636 n L xs k23 v4 r1609.2
  else
  some ((0 : Int32), r1609.2))
  else
  law_1636 n L xs k23 v4 r1609.2)
  else
  some ((0 : Int32), r1609.2))))))
def law_1639 (n : Nat) (L : Nat) (xs : Nat → Int32) (k23 : Int32 → Mu → Option (Int32 × Mu)) (v4 : Int32) (μ : Mu) : Option (Int32 × Mu) :=
  gd (v4 + (1 : Int32)) L ((X11_soonest n (xs (v4 + (1 : Int32)).toNatClampNeg) μ).bind (fun r1646 =>
  (X12_soonest n (xs (v4 + (1 : Int32)).toNatClampNeg) r1646.2).bind (fun r1656 =>
  (if r1646.1 = r1656.1 then
  law_2193 n L xs k23 v4 r1656.2
  else
  some ((0 : Int32), r1656.2)))))
def law_1717 (n : Nat) (L : Nat) (xs : Nat → Int32) (k23 : Int32 → Mu → Option (Int32 × Mu)) (v4 : Int32) (μ : Mu) : Option (Int32 × Mu) :=
  law_2193 n L xs k23 v4 μ
def law_1664 (n : Nat) (L : Nat) (xs : Nat → Int32) (k23 : Int32 → Mu → Option (Int32 × Mu)) (v4 : Int32) (μ : Mu) : Option (Int32 × Mu) :=
  gd (v4 + (1 : Int32)) L ((L_pits n (xs (v4 + (1 : Int32)).toNatClampNeg) μ).bind (fun r1672 =>
  (X12_pits n (xs (v4 + (1 : Int32)).toNatClampNeg) r1672.2).bind (fun r1684 =>
  (X12_thrown n r1684.2).bind (fun r1690 =>
  (if r1690.1 = r1672.1 then
  (if r1672.1 = 0 then
  (if (lg_cmp (r1690.2.2 201 0) (r1684.1.toInt64)) = 0 then
  law_1717 n L xs k23 v4 r1690.2
  else
  some ((0 : Int32), r1690.2))
  else
  law_1717 n L xs k23 v4 r1690.2)
  else
  some ((0 : Int32), r1690.2))))))
def law_1720 (n : Nat) (L : Nat) (xs : Nat → Int32) (k23 : Int32 → Mu → Option (Int32 × Mu)) (v4 : Int32) (μ : Mu) : Option (Int32 × Mu) :=
  (X11_forced n μ).bind (fun r1721 =>
  (X12_forced n r1721.2).bind (fun r1725 =>
  (if r1721.1 = r1725.1 then
  law_2193 n L xs k23 v4 r1725.2
  else
  some ((0 : Int32), r1725.2))))
def law_1798 (n : Nat) (L : Nat) (xs : Nat → Int32) (k23 : Int32 → Mu → Option (Int32 × Mu)) (v4 : Int32) (μ : Mu) : Option (Int32 × Mu) :=
  law_2193 n L xs k23 v4 μ
def law_1733 (n : Nat) (L : Nat) (xs : Nat → Int32) (k23 : Int32 → Mu → Option (Int32 × Mu)) (v4 : Int32) (μ : Mu) : Option (Int32 × Mu) :=
  gd (v4 + (1 : Int32)) L (gd (v4 + (2 : Int32)) L ((L_play n (xs (v4 + (1 : Int32)).toNatClampNeg) (xs (v4 + (2 : Int32)).toNatClampNeg) μ).bind (fun r1747 =>
  (X12_play n (xs (v4 + (1 : Int32)).toNatClampNeg) (xs (v4 + (2 : Int32)).toNatClampNeg) r1747.2).bind (fun r1765 =>
  (X12_thrown n r1765.2).bind (fun r1771 =>
  (if r1771.1 = r1747.1 then
  (if r1747.1 = 0 then
  (if (lg_cmp (r1771.2.2 201 0) (r1765.1.toInt64)) = 0 then
  law_1798 n L xs k23 v4 r1771.2
  else
  some ((0 : Int32), r1771.2))
  else
  law_1798 n L xs k23 v4 r1771.2)
  else
  some ((0 : Int32), r1771.2)))))))
def law_1866 (n : Nat) (L : Nat) (xs : Nat → Int32) (k23 : Int32 → Mu → Option (Int32 × Mu)) (v4 : Int32) (μ : Mu) : Option (Int32 × Mu) :=
  law_2193 n L xs k23 v4 μ
def law_1801 (n : Nat) (L : Nat) (xs : Nat → Int32) (k23 : Int32 → Mu → Option (Int32 × Mu)) (v4 : Int32) (μ : Mu) : Option (Int32 × Mu) :=
  gd (v4 + (1 : Int32)) L (gd (v4 + (2 : Int32)) L ((L_against n (xs (v4 + (1 : Int32)).toNatClampNeg) (xs (v4 + (2 : Int32)).toNatClampNeg) μ).bind (fun r1815 =>
  (X12_against n (xs (v4 + (1 : Int32)).toNatClampNeg) (xs (v4 + (2 : Int32)).toNatClampNeg) r1815.2).bind (fun r1833 =>
  (X12_thrown n r1833.2).bind (fun r1839 =>
  (if r1839.1 = r1815.1 then
  (if r1815.1 = 0 then
  (if (lg_cmp (r1839.2.2 201 0) (r1833.1.toInt64)) = 0 then
  law_1866 n L xs k23 v4 r1839.2
  else
  some ((0 : Int32), r1839.2))
  else
  law_1866 n L xs k23 v4 r1839.2)
  else
  some ((0 : Int32), r1839.2)))))))
def law_1869 (n : Nat) (L : Nat) (xs : Nat → Int32) (k23 : Int32 → Mu → Option (Int32 × Mu)) (v4 : Int32) (μ : Mu) : Option (Int32 × Mu) :=
  gd (v4 + (1 : Int32)) L (gd (v4 + (2 : Int32)) L (gd (v4 + (3 : Int32)) L ((L_tray n (xs (v4 + (1 : Int32)).toNatClampNeg) (xs (v4 + (2 : Int32)).toNatClampNeg) (xs (v4 + (3 : Int32)).toNatClampNeg) μ).bind (fun r1888 =>
  (X12_tray n (xs (v4 + (1 : Int32)).toNatClampNeg) (xs (v4 + (2 : Int32)).toNatClampNeg) (xs (v4 + (3 : Int32)).toNatClampNeg) r1888.2).bind (fun r1912 =>
  (X12_thrown n r1912.2).bind (fun r1916 =>
  (if r1916.1 = r1888.1 then
  law_2193 n L xs k23 v4 r1916.2
  else
  some ((0 : Int32), r1916.2))))))))
def law_2037 (n : Nat) (L : Nat) (xs : Nat → Int32) (k23 : Int32 → Mu → Option (Int32 × Mu)) (v4 : Int32) (μ : Mu) : Option (Int32 × Mu) :=
  law_2193 n L xs k23 v4 μ
def law_1929 (n : Nat) (L : Nat) (xs : Nat → Int32) (k23 : Int32 → Mu → Option (Int32 × Mu)) (v4 : Int32) (μ : Mu) : Option (Int32 × Mu) :=
  gd (v4 + (1 : Int32)) L (gd (v4 + (2 : Int32)) L (gd (v4 + (3 : Int32)) L (gd (v4 + (4 : Int32)) L ((L_write n (xs (v4 + (1 : Int32)).toNatClampNeg) (xs (v4 + (2 : Int32)).toNatClampNeg) ((((xs (v4 + (3 : Int32)).toNatClampNeg).toInt64) <<< ((32 : Int32).toInt64 &&& 63)) ||| (((xs (v4 + (4 : Int32)).toNatClampNeg).toInt64) &&& (4294967295 : Int64))) μ).bind (fun r1965 =>
  (X12_write n (xs (v4 + (1 : Int32)).toNatClampNeg) (xs (v4 + (2 : Int32)).toNatClampNeg) ((((xs (v4 + (3 : Int32)).toNatClampNeg).toInt64) <<< ((32 : Int32).toInt64 &&& 63)) ||| (((xs (v4 + (4 : Int32)).toNatClampNeg).toInt64) &&& (4294967295 : Int64))) r1965.2).bind (fun r2005 =>
  (X12_thrown n r2005.2).bind (fun r2011 =>
  (if r2011.1 = r1965.1 then
  (if r1965.1 = 0 then
  (if (lg_cmp (r2011.2.2 201 0) r2005.1) = 0 then
  law_2037 n L xs k23 v4 r2011.2
  else
  some ((0 : Int32), r2011.2))
  else
  law_2037 n L xs k23 v4 r2011.2)
  else
  some ((0 : Int32), r2011.2)))))))))
def law_2093 (n : Nat) (L : Nat) (xs : Nat → Int32) (k23 : Int32 → Mu → Option (Int32 × Mu)) (v4 : Int32) (μ : Mu) : Option (Int32 × Mu) :=
  law_2193 n L xs k23 v4 μ
def law_2040 (n : Nat) (L : Nat) (xs : Nat → Int32) (k23 : Int32 → Mu → Option (Int32 × Mu)) (v4 : Int32) (μ : Mu) : Option (Int32 × Mu) :=
  gd (v4 + (1 : Int32)) L ((L_pour n (xs (v4 + (1 : Int32)).toNatClampNeg) μ).bind (fun r2048 =>
  (X12_pour n (xs (v4 + (1 : Int32)).toNatClampNeg) r2048.2).bind (fun r2060 =>
  (X12_thrown n r2060.2).bind (fun r2066 =>
  (if r2066.1 = r2048.1 then
  (if r2048.1 = 0 then
  (if (lg_cmp (r2066.2.2 201 0) (r2060.1.toInt64)) = 0 then
  law_2093 n L xs k23 v4 r2066.2
  else
  some ((0 : Int32), r2066.2))
  else
  law_2093 n L xs k23 v4 r2066.2)
  else
  some ((0 : Int32), r2066.2))))))
def law_2096 (n : Nat) (L : Nat) (xs : Nat → Int32) (k23 : Int32 → Mu → Option (Int32 × Mu)) (v4 : Int32) (μ : Mu) : Option (Int32 × Mu) :=
  gd (v4 + (1 : Int32)) L ((L_image n (xs (v4 + (1 : Int32)).toNatClampNeg) μ).bind (fun r2103 =>
  (X12_image n (xs (v4 + (1 : Int32)).toNatClampNeg) r2103.2).bind (fun r2115 =>
  (X12_thrown n r2115.2).bind (fun r2119 =>
  (if r2119.1 = r2103.1 then
  law_2193 n L xs k23 v4 r2119.2
  else
  some ((0 : Int32), r2119.2))))))
def law_2132 (n : Nat) (L : Nat) (xs : Nat → Int32) (k23 : Int32 → Mu → Option (Int32 × Mu)) (v4 : Int32) (μ : Mu) : Option (Int32 × Mu) :=
  gd (v4 + (1 : Int32)) L ((L_restore n (xs (v4 + (1 : Int32)).toNatClampNeg) μ).bind (fun r2139 =>
  (X12_restore n (xs (v4 + (1 : Int32)).toNatClampNeg) r2139.2).bind (fun r2151 =>
  (X12_thrown n r2151.2).bind (fun r2155 =>
  (if r2155.1 = r2139.1 then
  law_2193 n L xs k23 v4 r2155.2
  else
  some ((0 : Int32), r2155.2))))))
def law_2168 (n : Nat) (L : Nat) (xs : Nat → Int32) (k23 : Int32 → Mu → Option (Int32 × Mu)) (v4 : Int32) (μ : Mu) : Option (Int32 × Mu) :=
  gd (v4 + (1 : Int32)) L ((X11_count n (xs (v4 + (1 : Int32)).toNatClampNeg) μ).bind (fun r2175 =>
  (X12_count n (xs (v4 + (1 : Int32)).toNatClampNeg) r2175.2).bind (fun r2185 =>
  (if r2175.1 = r2185.1 then
  law_2193 n L xs k23 v4 r2185.2
  else
  some ((0 : Int32), r2185.2)))))
def law_23b (n : Nat) (L : Nat) (xs : Nat → Int32) (k23 : Int32 → Mu → Option (Int32 × Mu)) (v4 : Int32) (μ : Mu) : Option (Int32 × Mu) :=
  (if ((Int32.ofNat L) - (6 : Int32)) < v4 then
  some ((1 : Int32), μ)
  else
  gd v4 L ((if ((xs v4.toNatClampNeg) &&& (63 : Int32)) = (0 : Int32) then
  law_224 n L xs k23 v4 μ
  else
  (if ((xs v4.toNatClampNeg) &&& (63 : Int32)) = (1 : Int32) then
  law_297 n L xs k23 v4 μ
  else
  (if ((xs v4.toNatClampNeg) &&& (63 : Int32)) = (2 : Int32) then
  law_353 n L xs k23 v4 μ
  else
  (if ((xs v4.toNatClampNeg) &&& (63 : Int32)) = (3 : Int32) then
  law_378 n L xs k23 v4 μ
  else
  (if ((xs v4.toNatClampNeg) &&& (63 : Int32)) = (4 : Int32) then
  law_434 n L xs k23 v4 μ
  else
  (if ((xs v4.toNatClampNeg) &&& (63 : Int32)) = (5 : Int32) then
  law_490 n L xs k23 v4 μ
  else
  (if ((xs v4.toNatClampNeg) &&& (63 : Int32)) = (6 : Int32) then
  law_503 n L xs k23 v4 μ
  else
  (if ((xs v4.toNatClampNeg) &&& (63 : Int32)) = (7 : Int32) then
  law_528 n L xs k23 v4 μ
  else
  (if ((xs v4.toNatClampNeg) &&& (63 : Int32)) = (8 : Int32) then
  law_553 n L xs k23 v4 μ
  else
  (if ((xs v4.toNatClampNeg) &&& (63 : Int32)) = (9 : Int32) then
  law_621 n L xs k23 v4 μ
  else
  (if ((xs v4.toNatClampNeg) &&& (63 : Int32)) = (10 : Int32) then
  law_634 n L xs k23 v4 μ
  else
  (if ((xs v4.toNatClampNeg) &&& (63 : Int32)) = (11 : Int32) then
  law_647 n L xs k23 v4 μ
  else
  (if ((xs v4.toNatClampNeg) &&& (63 : Int32)) = (12 : Int32) then
  law_660 n L xs k23 v4 μ
  else
  (if ((xs v4.toNatClampNeg) &&& (63 : Int32)) = (13 : Int32) then
  law_673 n L xs k23 v4 μ
  else
  (if ((xs v4.toNatClampNeg) &&& (63 : Int32)) = (14 : Int32) then
  law_741 n L xs k23 v4 μ
  else
  (if ((xs v4.toNatClampNeg) &&& (63 : Int32)) = (15 : Int32) then
  law_797 n L xs k23 v4 μ
  else
  (if ((xs v4.toNatClampNeg) &&& (63 : Int32)) = (16 : Int32) then
  law_865 n L xs k23 v4 μ
  else
  (if ((xs v4.toNatClampNeg) &&& (63 : Int32)) = (17 : Int32) then
  law_878 n L xs k23 v4 μ
  else
  (if ((xs v4.toNatClampNeg) &&& (63 : Int32)) = (18 : Int32) then
  law_970 n L xs k23 v4 μ
  else
  (if ((xs v4.toNatClampNeg) &&& (63 : Int32)) = (19 : Int32) then
  law_983 n L xs k23 v4 μ
  else
  (if ((xs v4.toNatClampNeg) &&& (63 : Int32)) = (20 : Int32) then
  law_996 n L xs k23 v4 μ
  else
  (if ((xs v4.toNatClampNeg) &&& (63 : Int32)) = (21 : Int32) then
  law_1009 n L xs k23 v4 μ
  else
  (if ((xs v4.toNatClampNeg) &&& (63 : Int32)) = (22 : Int32) then
  law_1034 n L xs k23 v4 μ
  else
  (if ((xs v4.toNatClampNeg) &&& (63 : Int32)) = (23 : Int32) then
  law_1114 n L xs k23 v4 μ
  else
  (if ((xs v4.toNatClampNeg) &&& (63 : Int32)) = (24 : Int32) then
  law_1194 n L xs k23 v4 μ
  else
  (if ((xs v4.toNatClampNeg) &&& (63 : Int32)) = (25 : Int32) then
  law_1286 n L xs k23 v4 μ
  else
  (if ((xs v4.toNatClampNeg) &&& (63 : Int32)) = (26 : Int32) then
  law_1378 n L xs k23 v4 μ
  else
  (if ((xs v4.toNatClampNeg) &&& (63 : Int32)) = (27 : Int32) then
  law_1458 n L xs k23 v4 μ
  else
  (if ((xs v4.toNatClampNeg) &&& (63 : Int32)) = (28 : Int32) then
  law_1471 n L xs k23 v4 μ
  else
  (if ((xs v4.toNatClampNeg) &&& (63 : Int32)) = (29 : Int32) then
  law_1527 n L xs k23 v4 μ
  else
  (if ((xs v4.toNatClampNeg) &&& (63 : Int32)) = (30 : Int32) then
  law_1583 n L xs k23 v4 μ
  else
  (if ((xs v4.toNatClampNeg) &&& (63 : Int32)) = (31 : Int32) then
  law_1639 n L xs k23 v4 μ
  else
  (if ((xs v4.toNatClampNeg) &&& (63 : Int32)) = (32 : Int32) then
  law_1664 n L xs k23 v4 μ
  else
  (if ((xs v4.toNatClampNeg) &&& (63 : Int32)) = (33 : Int32) then
  law_1720 n L xs k23 v4 μ
  else
  (if ((xs v4.toNatClampNeg) &&& (63 : Int32)) = (34 : Int32) then
  law_1733 n L xs k23 v4 μ
  else
  (if ((xs v4.toNatClampNeg) &&& (63 : Int32)) = (35 : Int32) then
  law_1801 n L xs k23 v4 μ
  else
  (if ((xs v4.toNatClampNeg) &&& (63 : Int32)) = (36 : Int32) then
  law_1869 n L xs k23 v4 μ
  else
  (if ((xs v4.toNatClampNeg) &&& (63 : Int32)) = (37 : Int32) then
  law_1929 n L xs k23 v4 μ
  else
  (if ((xs v4.toNatClampNeg) &&& (63 : Int32)) = (38 : Int32) then
  law_2040 n L xs k23 v4 μ
  else
  (if ((xs v4.toNatClampNeg) &&& (63 : Int32)) = (39 : Int32) then
  law_2096 n L xs k23 v4 μ
  else
  (if ((xs v4.toNatClampNeg) &&& (63 : Int32)) = (40 : Int32) then
  law_2132 n L xs k23 v4 μ
  else
  (if ((xs v4.toNatClampNeg) &&& (63 : Int32)) = (41 : Int32) then
  law_2168 n L xs k23 v4 μ
  else
  law_2193 n L xs k23 v4 μ))))))))))))))))))))))))))))))))))))))))))))
def lawF (n : Nat) (L : Nat) (xs : Nat → Int32) (v4 : Int32) (μ : Mu) : Option (Int32 × Mu) := lpF (fun _ _ => none) (law_23b n L xs) 513 v4 μ
