noncomputable def fX_order (P : am_Q) (l0 : Nat) (l1 : Int32) (I : am_M) : Option (Int32 × am_M) :=
  Option.bind (fX_isSheet l1) fun y1 =>
  if ¬ y1 = 0 then
    (sm_ck (am_t l0 = 12) <|
    sm_ck (sm_ia (P l0 13) l1) <|
    sm_ck (am_t (P (P l0 13) l1.toNatClampNeg) = 9) <|
    Option.bind (fE_isMissing I P (P (P l0 13) l1.toNatClampNeg)) fun y6 =>
    if y6 = 0 then
      (sm_ck (sm_ia (P l0 13) l1) <|
      sm_ck (am_t (P l0 0) = 11) <|
      if (I (P (P l0 13) l1.toNatClampNeg) 1) = (I (P l0 0) 6) then
        (sm_ck (sm_ia (P l0 13) l1) <|
        Option.bind (fW_isRowOfBoxes I P (P l0 0) (P (P (P l0 13) l1.toNatClampNeg) 0)) fun y12 =>
        if ¬ y12 = 0 then
          (sm_ck (sm_ia (P l0 13) l1) <|
          sm_ck (sm_cp (P (P (P l0 13) l1.toNatClampNeg) 0) 0 (P (P l0 0) 11) 0 (I (P l0 0) 6)) <|
          sm_bd (am_set I (P (P l0 0) 11) (va_cpy (I (P (P (P l0 13) l1.toNatClampNeg) 0)) (I (P (P l0 0) 11)) (0 : Int32).toNatClampNeg (0 : Int32).toNatClampNeg (I (P l0 0) 6).toNatClampNeg)) fun I16 =>
          some (1, I16))
        else
          (Option.bind (fX_found P l0 ((-1000001)) I) fun y17 =>
          some (y17.1, y17.2)))
      else
        (Option.bind (fX_found P l0 ((-1000007)) I) fun y18 =>
        some (y18.1, y18.2)))
    else
      (Option.bind (fX_found P l0 ((-1000006)) I) fun y19 =>
      some (y19.1, y19.2)))
  else
    (sm_ck (am_t l0 = 12) <|
    Option.bind (fX_found P l0 ((-1000001)) I) fun y21 =>
    some (y21.1, y21.2))
set_option maxRecDepth 100000 in
theorem AfX_order {dp : Nat} {P : am_Q} {nx : Nat} {sl : Nat} {I : am_M} {l0 : Nat} {l1 : Int32} {y : Int32 × am_M} (hy : fX_order P l0 l1 I = some y) : sm_T (dp + 3) 89 [.inr l0, .inl l1] (I, P, nx, sl) ((sm_g1 P nx sl) y) := by
  refine r_meth (d := am_d89) (dp := dp + 2) (ls0 := [some (.inr l0), some (.inl l1)]) rfl (by decide) rfl rfl ?_ hy
  unfold fX_order
  refine r_iload rfl rfl ?_
  refine r_call0 rfl rfl trivial (fun y hy => AfX_isSheet (dp := dp + 1) hy) (fun y1 => ?_)
  refine r_if rfl rfl (fun c2 => ?_) (fun c2 => ?_)
  · refine r_ck (fun h3 => ?_)
    refine r_aload rfl rfl (am_nz h3) ?_
    refine r_getP rfl h3 ?_
    refine r_iload rfl rfl ?_
    refine r_ck (fun h4 => ?_)
    refine r_aald rfl h4 ?_
    refine r_ck (fun h5 => ?_)
    refine r_call0 rfl rfl h5 (fun y hy => AfE_isMissing (dp := dp + 1) hy) (fun y6 => ?_)
    refine r_if rfl rfl (fun c7 => ?_) (fun c7 => ?_)
    · refine r_aload rfl rfl (am_nz h3) ?_
      refine r_getP rfl h3 ?_
      refine r_iload rfl rfl ?_
      refine r_ck (fun h8 => ?_)
      refine r_aald rfl h8 ?_
      refine r_getI rfl h5 ?_
      refine r_aload rfl rfl (am_nz h3) ?_
      refine r_getP rfl h3 ?_
      refine r_ck (fun h9 => ?_)
      refine r_getI rfl h9 ?_
      refine r_icmp rfl rfl (fun c10 => ?_) (fun c10 => ?_)
      · refine r_aload rfl rfl (am_nz h3) ?_
        refine r_getP rfl h3 ?_
        refine r_aload rfl rfl (am_nz h3) ?_
        refine r_getP rfl h3 ?_
        refine r_iload rfl rfl ?_
        refine r_ck (fun h11 => ?_)
        refine r_aald rfl h11 ?_
        refine r_getP rfl h5 ?_
        refine r_call0 rfl rfl h9 (fun y hy => AfW_isRowOfBoxes (dp := dp + 0) hy) (fun y12 => ?_)
        refine r_if rfl rfl (fun c13 => ?_) (fun c13 => ?_)
        · refine r_aload rfl rfl (am_nz h3) ?_
          refine r_getP rfl h3 ?_
          refine r_iload rfl rfl ?_
          refine r_ck (fun h14 => ?_)
          refine r_aald rfl h14 ?_
          refine r_getP rfl h5 ?_
          refine r_const (x := 0) rfl rfl ?_
          refine r_aload rfl rfl (am_nz h3) ?_
          refine r_getP rfl h3 ?_
          refine r_getP rfl h9 ?_
          refine r_const (x := 0) rfl rfl ?_
          refine r_aload rfl rfl (am_nz h3) ?_
          refine r_getP rfl h3 ?_
          refine r_getI rfl h9 ?_
          refine r_ck (fun h15 => ?_)
          refine r_copy rfl h15 (Nat.le_of_ble_eq_true rfl) (fun I16 => ?_)
          refine r_const (x := 1) rfl rfl ?_
          exact r_ireturn rfl (Or.inl rfl) rfl
        · refine r_aload rfl rfl (am_nz h3) ?_
          refine r_const (x := (-1000001)) rfl rfl ?_
          refine r_call1 rfl rfl h3 (fun y hy => AfX_found (dp := dp + 1) hy) (fun y17 => ?_)
          exact r_ireturn rfl (Or.inl rfl) rfl
      · refine r_aload rfl rfl (am_nz h3) ?_
        refine r_const (x := (-1000007)) rfl rfl ?_
        refine r_call1 rfl rfl h3 (fun y hy => AfX_found (dp := dp + 1) hy) (fun y18 => ?_)
        exact r_ireturn rfl (Or.inl rfl) rfl
    · refine r_aload rfl rfl (am_nz h3) ?_
      refine r_const (x := (-1000006)) rfl rfl ?_
      refine r_call1 rfl rfl h3 (fun y hy => AfX_found (dp := dp + 1) hy) (fun y19 => ?_)
      exact r_ireturn rfl (Or.inl rfl) rfl
  · refine r_ck (fun h20 => ?_)
    refine r_aload rfl rfl (am_nz h20) ?_
    refine r_const (x := (-1000001)) rfl rfl ?_
    refine r_call1 rfl rfl h20 (fun y hy => AfX_found (dp := dp + 1) hy) (fun y21 => ?_)
    exact r_ireturn rfl (Or.inl rfl) rfl
noncomputable def fX_at (P : am_Q) (l0 : Nat) (l1 : Int32) (I : am_M) : Option (Int32 × am_M) :=
  sm_ck (am_t l0 = 12) <|
  sm_ck (am_t (P l0 0) = 11) <|
  Option.bind (fW_hasBox I P (P l0 0) l1) fun y3 =>
  if ¬ y3 = 0 then
    (sm_ck (sm_in (P (P l0 0) 11) l1) <|
    some (I (P (P l0 0) 11) l1.toNatClampNeg, I))
  else
    (Option.bind (fX_found P l0 ((-1000001)) I) fun y6 =>
    some (y6.1, y6.2))
set_option maxRecDepth 100000 in
theorem AfX_at {dp : Nat} {P : am_Q} {nx : Nat} {sl : Nat} {I : am_M} {l0 : Nat} {l1 : Int32} {y : Int32 × am_M} (hy : fX_at P l0 l1 I = some y) : sm_T (dp + 2) 93 [.inr l0, .inl l1] (I, P, nx, sl) ((sm_g1 P nx sl) y) := by
  refine r_meth (d := am_d93) (dp := dp + 1) (ls0 := [some (.inr l0), some (.inl l1)]) rfl (by decide) rfl rfl ?_ hy
  unfold fX_at
  refine r_ck (fun h1 => ?_)
  refine r_aload rfl rfl (am_nz h1) ?_
  refine r_getP rfl h1 ?_
  refine r_iload rfl rfl ?_
  refine r_ck (fun h2 => ?_)
  refine r_call0 rfl rfl h2 (fun y hy => AfW_hasBox (dp := dp + 0) hy) (fun y3 => ?_)
  refine r_if rfl rfl (fun c4 => ?_) (fun c4 => ?_)
  · refine r_aload rfl rfl (am_nz h1) ?_
    refine r_getP rfl h1 ?_
    refine r_getP rfl h2 ?_
    refine r_iload rfl rfl ?_
    refine r_ck (fun h5 => ?_)
    refine r_iald rfl h5 ?_
    exact r_ireturn rfl (Or.inl rfl) rfl
  · refine r_aload rfl rfl (am_nz h1) ?_
    refine r_const (x := (-1000001)) rfl rfl ?_
    refine r_call1 rfl rfl h1 (fun y hy => AfX_found (dp := dp + 0) hy) (fun y6 => ?_)
    exact r_ireturn rfl (Or.inl rfl) rfl
noncomputable def fY_keep (l0 : Nat) (l1 : Nat) (I : am_M) (P : am_Q) (nx : Nat) (sl : Nat) : Option (am_S) :=
  sm_ck (am_t l0 = 2) <|
  sm_ck (sm_ia (P l0 0) (sm_rem ((I l0 1) + (I l0 2)) 6)) <|
  sm_ck (am_t l1 = 11) <|
  sm_ck (am_t (P (P l0 0) (sm_rem ((I l0 1) + (I l0 2)) 6).toNatClampNeg) = 11) <|
  Option.bind (fW_copyFrom (P (P l0 0) (sm_rem ((I l0 1) + (I l0 2)) 6).toNatClampNeg) l1 I P nx sl) fun y5 =>
  if 6 ≤ (y5.1 l0 2) then
    (sm_bd (am_up y5.1 l0 1 (sm_rem ((y5.1 l0 1) + 1) 6)) fun I7 =>
    some (I7, y5.2.1, y5.2.2.1, y5.2.2.2))
  else
    (sm_bd (am_up y5.1 l0 2 ((y5.1 l0 2) + 1)) fun I8 =>
    some (I8, y5.2.1, y5.2.2.1, y5.2.2.2))
set_option maxRecDepth 100000 in
theorem AfY_keep {dp : Nat}  {I : am_M} {P : am_Q} {nx : Nat} {sl : Nat} {l0 : Nat} {l1 : Nat} {y : am_S} (hy : fY_keep l0 l1 I P nx sl = some y) : sm_T (dp + 3) 95 [.inr l0, .inr l1] (I, P, nx, sl) (sm_g4 y) := by
  refine r_meth (d := am_d95) (dp := dp + 2) (ls0 := [some (.inr l0), some (.inr l1)]) rfl (by decide) rfl rfl ?_ hy
  unfold fY_keep
  refine r_ck (fun h1 => ?_)
  refine r_aload rfl rfl (am_nz h1) ?_
  refine r_getP rfl h1 ?_
  refine r_aload rfl rfl (am_nz h1) ?_
  refine r_getI rfl h1 ?_
  refine r_aload rfl rfl (am_nz h1) ?_
  refine r_getI rfl h1 ?_
  refine r_bin (z := (I l0 1) + (I l0 2)) rfl rfl (by decide) ?_
  refine r_const (x := 6) rfl rfl ?_
  refine r_bin (z := sm_rem ((I l0 1) + (I l0 2)) 6) rfl (sm_rv (by decide)) (by decide) ?_
  refine r_ck (fun h2 => ?_)
  refine r_aald rfl h2 ?_
  refine r_ck (fun h3 => ?_)
  refine r_aload rfl rfl (am_nz h3) ?_
  refine r_ck (fun h4 => ?_)
  refine r_call4 rfl rfl h4 (fun y hy => AfW_copyFrom (dp := dp + 0) hy) (fun y5 => ?_)
  refine r_aload rfl rfl (am_nz h1) ?_
  refine r_getI rfl h1 ?_
  refine r_const (x := 6) rfl rfl ?_
  refine r_icmp rfl rfl (fun c6 => ?_) (fun c6 => ?_)
  · refine r_aload rfl rfl (am_nz h1) ?_
    refine r_aload rfl rfl (am_nz h1) ?_
    refine r_getI rfl h1 ?_
    refine r_const (x := 1) rfl rfl ?_
    refine r_bin (z := (y5.1 l0 1) + 1) rfl rfl (by decide) ?_
    refine r_const (x := 6) rfl rfl ?_
    refine r_bin (z := sm_rem ((y5.1 l0 1) + 1) 6) rfl (sm_rv (by decide)) (by decide) ?_
    refine r_putI rfl h1 (fun hz => absurd hz (by decide)) (fun I7 => ?_)
    exact r_return rfl rfl
  · refine r_aload rfl rfl (am_nz h1) ?_
    refine r_dup rfl ?_
    refine r_getI rfl h1 ?_
    refine r_const (x := 1) rfl rfl ?_
    refine r_bin (z := (y5.1 l0 2) + 1) rfl rfl (by decide) ?_
    refine r_putI rfl h1 (fun hz => absurd hz (by decide)) (fun I8 => ?_)
    refine r_goto rfl ?_
    exact r_return rfl rfl
noncomputable def fH_passed_J110 (P : am_Q) (l1 : Nat) (l2 : Int32) (l6 : Int32) (I : am_M) : Option (Int32 × am_M) :=
  sm_ck (am_t l1 = 11) <|
  sm_bd (am_up I l1 4 (I l1 1)) fun I15 =>
  sm_bd (am_up I15 l1 5 l2) fun I16 =>
  some (l6, I16)
set_option maxRecDepth 100000 in
theorem AfH_passed_J110 {dp : Nat} {P : am_Q} {nx : Nat} {sl : Nat} (l1 : Nat) (l2 : Int32) (l6 : Int32) (I : am_M) (o0 : Option am_V) (o3 : Option am_V) (o4 : Option am_V) (o5 : Option am_V) : sm (dp + 2) am_d98 110 [o0, some (.inr l1), some (.inl l2), o3, o4, o5, some (.inl l6)] [] (I, P, nx, sl) (sm_g1 P nx sl) (fH_passed_J110 P l1 l2 l6 I) := by
  unfold fH_passed_J110
  refine r_ck (fun h14 => ?_)
  refine r_aload rfl rfl (am_nz h14) ?_
  refine r_aload rfl rfl (am_nz h14) ?_
  refine r_getI rfl h14 ?_
  refine r_putI rfl h14 (fun hz => absurd hz (by decide)) (fun I15 => ?_)
  refine r_aload rfl rfl (am_nz h14) ?_
  refine r_iload rfl rfl ?_
  refine r_putI rfl h14 (fun hz => absurd hz (by decide)) (fun I16 => ?_)
  refine r_iload rfl rfl ?_
  exact r_ireturn rfl (Or.inl rfl) rfl
noncomputable def fH_passed_J81 (P : am_Q) (l1 : Nat) (l2 : Int32) (l4 : Nat) (s0 : Int32) (I : am_M) : Option (Int32 × am_M) :=
  sm_ck (am_t l1 = 11) <|
  if 0 ≤ (I l1 4) then
    (some (s0, I))
  else
    (sm_ck (am_t l4 = 8) <|
    if s0 < (I l4 8) then
      (fH_passed_J110 P l1 l2 s0 I)
    else
      (if s0 ≤ (I l4 9) then
        (some (s0, I))
      else
        (fH_passed_J110 P l1 l2 s0 I)))
set_option maxRecDepth 100000 in
theorem AfH_passed_J81 {dp : Nat} {P : am_Q} {nx : Nat} {sl : Nat} (l1 : Nat) (l2 : Int32) (l4 : Nat) (s0 : Int32) (I : am_M) (o0 : Option am_V) (o3 : Option am_V) (o5 : Option am_V) (o6 : Option am_V) : sm (dp + 2) am_d98 81 [o0, some (.inr l1), some (.inl l2), o3, some (.inr l4), o5, o6] [.inl s0] (I, P, nx, sl) (sm_g1 P nx sl) (fH_passed_J81 P l1 l2 l4 s0 I) := by
  unfold fH_passed_J81
  refine r_istore (ls' := [o0, some (.inr l1), some (.inl l2), o3, some (.inr l4), o5, some (.inl s0)]) rfl (Nat.le_of_ble_eq_true rfl) rfl ?_
  refine r_ck (fun h10 => ?_)
  refine r_aload rfl rfl (am_nz h10) ?_
  refine r_getI rfl h10 ?_
  refine r_if rfl rfl (fun c11 => ?_) (fun c11 => ?_)
  · refine r_iload rfl rfl ?_
    exact r_ireturn rfl (Or.inl rfl) rfl
  · refine r_iload rfl rfl ?_
    refine r_ck (fun h12 => ?_)
    refine r_aload rfl rfl (am_nz h12) ?_
    refine r_getI rfl h12 ?_
    refine r_icmp rfl rfl (fun c13 => ?_) (fun c13 => ?_)
    · exact AfH_passed_J110 l1 l2 s0 I o0 o3 (some (.inr l4)) o5
    · refine r_iload rfl rfl ?_
      refine r_aload rfl rfl (am_nz h12) ?_
      refine r_getI rfl h12 ?_
      refine r_icmp rfl rfl (fun c17 => ?_) (fun c17 => ?_)
      · refine r_iload rfl rfl ?_
        exact r_ireturn rfl (Or.inl rfl) rfl
      · exact AfH_passed_J110 l1 l2 s0 I o0 o3 (some (.inr l4)) o5
noncomputable def fH_passed_J26 (P : am_Q) (l0 : Nat) (l1 : Nat) (l2 : Int32) (l4 : Nat) (s0 : Int32) (I : am_M) : Option (Int32 × am_M) :=
  if s0 = 0 then
    (sm_ck (am_t l4 = 8) <|
    sm_ck (am_t l1 = 11) <|
    Option.bind (fS_guessBy I P l4 (I l1 2) (I l1 0)) fun y9 =>
    fH_passed_J81 P l1 l2 l4 y9 I)
  else
    (sm_ck (am_t l0 = 3) <|
    sm_ck (am_t l1 = 11) <|
    sm_ck (am_t l4 = 8) <|
    sm_ck (sm_ia (P l1 9) (I l4 0)) <|
    sm_ck (am_t (P l0 0) = 6) <|
    Option.bind (fK_work P (P l0 0) (P (P l1 9) (I l4 0).toNatClampNeg) (2 + (I l4 1)) (I l1 1) (I l1 0) I) fun y23 =>
    fH_passed_J81 P l1 l2 l4 y23.1 y23.2)
set_option maxRecDepth 100000 in
theorem AfH_passed_J26 {dp : Nat} {P : am_Q} {nx : Nat} {sl : Nat} (l0 : Nat) (l1 : Nat) (l2 : Int32) (l4 : Nat) (s0 : Int32) (I : am_M) (o3 : Option am_V) (o5 : Option am_V) (o6 : Option am_V) : sm (dp + 2) am_d98 26 [some (.inr l0), some (.inr l1), some (.inl l2), o3, some (.inr l4), o5, o6] [.inl s0] (I, P, nx, sl) (sm_g1 P nx sl) (fH_passed_J26 P l0 l1 l2 l4 s0 I) := by
  unfold fH_passed_J26
  refine r_istore (ls' := [some (.inr l0), some (.inr l1), some (.inl l2), o3, some (.inr l4), some (.inl s0), o6]) rfl (Nat.le_of_ble_eq_true rfl) rfl ?_
  refine r_iload rfl rfl ?_
  refine r_if rfl rfl (fun c6 => ?_) (fun c6 => ?_)
  · refine r_ck (fun h7 => ?_)
    refine r_aload rfl rfl (am_nz h7) ?_
    refine r_ck (fun h8 => ?_)
    refine r_aload rfl rfl (am_nz h8) ?_
    refine r_getI rfl h8 ?_
    refine r_aload rfl rfl (am_nz h8) ?_
    refine r_getI rfl h8 ?_
    refine r_call0 rfl rfl h7 (fun y hy => AfS_guessBy (dp := dp + 0) hy) (fun y9 => ?_)
    exact AfH_passed_J81 l1 l2 l4 y9 I (some (.inr l0)) o3 (some (.inl s0)) o6
  · refine r_ck (fun h18 => ?_)
    refine r_aload rfl rfl (am_nz h18) ?_
    refine r_getP rfl h18 ?_
    refine r_ck (fun h19 => ?_)
    refine r_aload rfl rfl (am_nz h19) ?_
    refine r_getP rfl h19 ?_
    refine r_ck (fun h20 => ?_)
    refine r_aload rfl rfl (am_nz h20) ?_
    refine r_getI rfl h20 ?_
    refine r_ck (fun h21 => ?_)
    refine r_aald rfl h21 ?_
    refine r_const (x := 2) rfl rfl ?_
    refine r_aload rfl rfl (am_nz h20) ?_
    refine r_getI rfl h20 ?_
    refine r_bin (z := 2 + (I l4 1)) rfl rfl (by decide) ?_
    refine r_aload rfl rfl (am_nz h19) ?_
    refine r_getI rfl h19 ?_
    refine r_aload rfl rfl (am_nz h19) ?_
    refine r_getI rfl h19 ?_
    refine r_ck (fun h22 => ?_)
    refine r_call1 rfl rfl h22 (fun y hy => AfK_work (dp := dp + 0) hy) (fun y23 => ?_)
    refine r_goto rfl ?_
    exact AfH_passed_J81 l1 l2 l4 y23.1 y23.2 (some (.inr l0)) o3 (some (.inl s0)) o6
noncomputable def fH_passed (P : am_Q) (l0 : Nat) (l1 : Nat) (l2 : Int32) (l3 : Int32) (I : am_M) : Option (Int32 × am_M) :=
  sm_ck (am_t l1 = 11) <|
  sm_ck (sm_ia (P l1 10) l2) <|
  sm_bd (P (P l1 10) l2.toNatClampNeg) fun a3 =>
  sm_ck (am_t a3 = 8) <|
  if ¬ ((sm_shr l3 (I a3 0)) &&& 1) = 1 then
    (fH_passed_J26 P l0 l1 l2 a3 0 I)
  else
    (fH_passed_J26 P l0 l1 l2 a3 1 I)
set_option maxRecDepth 100000 in
theorem AfH_passed {dp : Nat} {P : am_Q} {nx : Nat} {sl : Nat} {I : am_M} {l0 : Nat} {l1 : Nat} {l2 : Int32} {l3 : Int32} {y : Int32 × am_M} (hy : fH_passed P l0 l1 l2 l3 I = some y) : sm_T (dp + 3) 98 [.inr l0, .inr l1, .inl l2, .inl l3] (I, P, nx, sl) ((sm_g1 P nx sl) y) := by
  refine r_meth (d := am_d98) (dp := dp + 2) (ls0 := [some (.inr l0), some (.inr l1), some (.inl l2), some (.inl l3), none, none, none]) rfl (by decide) rfl rfl ?_ hy
  unfold fH_passed
  refine r_ck (fun h1 => ?_)
  refine r_aload rfl rfl (am_nz h1) ?_
  refine r_getP rfl h1 ?_
  refine r_iload rfl rfl ?_
  refine r_ck (fun h2 => ?_)
  refine r_aald rfl h2 ?_
  refine r_bdA (fun a3 => ?_)
  refine r_ck (fun h4 => ?_)
  refine r_astore (ls' := [some (.inr l0), some (.inr l1), some (.inl l2), some (.inl l3), some (.inr a3), none, none]) rfl (Nat.le_of_ble_eq_true rfl) (am_nz h4) rfl ?_
  refine r_iload rfl rfl ?_
  refine r_aload rfl rfl (am_nz h4) ?_
  refine r_getI rfl h4 ?_
  refine r_bin (z := sm_shr l3 (I a3 0)) rfl rfl (by decide) ?_
  refine r_const (x := 1) rfl rfl ?_
  refine r_bin (z := (sm_shr l3 (I a3 0)) &&& 1) rfl rfl (by decide) ?_
  refine r_const (x := 1) rfl rfl ?_
  refine r_icmp rfl rfl (fun c5 => ?_) (fun c5 => ?_)
  · refine r_const (x := 0) rfl rfl ?_
    exact AfH_passed_J26 l0 l1 l2 a3 0 I (some (.inl l3)) none none
  · refine r_const (x := 1) rfl rfl ?_
    refine r_goto rfl ?_
    exact AfH_passed_J26 l0 l1 l2 a3 1 I (some (.inl l3)) none none
noncomputable def fB_worksNow_J47 (I : am_M) (P : am_Q) (l0 : Nat) (l1 : Int32) (s0 : Int32) : Option (Int32) :=
  sm_ck (am_t l0 = 1) <|
  sm_bd (I l0 0) fun x6 =>
  if x6 = 3 then
    (if ¬ l1 = 0 then
      (some 1)
    else
      (if s0 = 0 then
        (some 0)
      else
        (some 1)))
  else if x6 = 5 then
    (if l1 = 0 then
      (some 0)
    else
      (if s0 = 0 then
        (some 0)
      else
        (some 1)))
  else (
    some 1)
set_option maxRecDepth 100000 in
theorem AfB_worksNow_J47 {dp : Nat} {I : am_M} {P : am_Q} {nx : Nat} {sl : Nat} (l0 : Nat) (l1 : Int32) (s0 : Int32) (o2 : Option am_V) : sm (dp + 0) am_d99 47 [some (.inr l0), some (.inl l1), o2] [.inl s0] (I, P, nx, sl) (sm_g0 (I, P, nx, sl)) (fB_worksNow_J47 I P l0 l1 s0) := by
  unfold fB_worksNow_J47
  refine r_istore (ls' := [some (.inr l0), some (.inl l1), some (.inl s0)]) rfl (Nat.le_of_ble_eq_true rfl) rfl ?_
  refine r_ck (fun h5 => ?_)
  refine r_aload rfl rfl (am_nz h5) ?_
  refine r_getI rfl h5 ?_
  refine r_bd (fun x6 => ?_)
  refine r_ite (fun c7 => ?_) (fun c7 => ?_)
  · refine r_lokE (t := 80) rfl c7 (by decide) ?_
    refine r_iload rfl rfl ?_
    refine r_if rfl rfl (fun c8 => ?_) (fun c8 => ?_)
    · refine r_const (x := 1) rfl rfl ?_
      refine r_goto rfl ?_
      exact r_ireturn rfl (Or.inr ⟨rfl, sm_011⟩) rfl
    · refine r_iload rfl rfl ?_
      refine r_if rfl rfl (fun c9 => ?_) (fun c9 => ?_)
      · refine r_const (x := 0) rfl rfl ?_
        exact r_ireturn rfl (Or.inr ⟨rfl, sm_010⟩) rfl
      · refine r_const (x := 1) rfl rfl ?_
        refine r_goto rfl ?_
        exact r_ireturn rfl (Or.inr ⟨rfl, sm_011⟩) rfl
  refine r_ite (fun c10 => ?_) (fun c10 => ?_)
  · refine r_lokE (t := 94) rfl c10 (by decide) ?_
    refine r_iload rfl rfl ?_
    refine r_if rfl rfl (fun c11 => ?_) (fun c11 => ?_)
    · refine r_const (x := 0) rfl rfl ?_
      exact r_ireturn rfl (Or.inr ⟨rfl, sm_010⟩) rfl
    · refine r_iload rfl rfl ?_
      refine r_if rfl rfl (fun c12 => ?_) (fun c12 => ?_)
      · refine r_const (x := 0) rfl rfl ?_
        exact r_ireturn rfl (Or.inr ⟨rfl, sm_010⟩) rfl
      · refine r_const (x := 1) rfl rfl ?_
        refine r_goto rfl ?_
        exact r_ireturn rfl (Or.inr ⟨rfl, sm_011⟩) rfl
  refine r_lokD rfl ⟨c7, c10, trivial⟩ ?_
  refine r_const (x := 1) rfl rfl ?_
  exact r_ireturn rfl (Or.inr ⟨rfl, sm_011⟩) rfl
noncomputable def fB_worksNow_J42 (I : am_M) (P : am_Q) (l0 : Nat) (l1 : Int32) : Option (Int32) :=
  fB_worksNow_J47 I P l0 l1 1
set_option maxRecDepth 100000 in
theorem AfB_worksNow_J42 {dp : Nat} {I : am_M} {P : am_Q} {nx : Nat} {sl : Nat} (l0 : Nat) (l1 : Int32) (o2 : Option am_V) : sm (dp + 0) am_d99 42 [some (.inr l0), some (.inl l1), o2] [] (I, P, nx, sl) (sm_g0 (I, P, nx, sl)) (fB_worksNow_J42 I P l0 l1) := by
  unfold fB_worksNow_J42
  refine r_const (x := 1) rfl rfl ?_
  refine r_goto rfl ?_
  exact AfB_worksNow_J47 l0 l1 1 o2
noncomputable def fB_worksNow_J23 (I : am_M) (P : am_Q) (l0 : Nat) (s0 : Int32) : Option (Int32) :=
  sm_ck (am_t l0 = 1) <|
  if (I l0 7) = 0 then
    (fB_worksNow_J42 I P l0 s0)
  else
    (if (I l0 4) = (I l0 9) then
      (fB_worksNow_J47 I P l0 s0 0)
    else
      (fB_worksNow_J42 I P l0 s0))
set_option maxRecDepth 100000 in
theorem AfB_worksNow_J23 {dp : Nat} {I : am_M} {P : am_Q} {nx : Nat} {sl : Nat} (l0 : Nat) (s0 : Int32) (o1 : Option am_V) (o2 : Option am_V) : sm (dp + 0) am_d99 23 [some (.inr l0), o1, o2] [.inl s0] (I, P, nx, sl) (sm_g0 (I, P, nx, sl)) (fB_worksNow_J23 I P l0 s0) := by
  unfold fB_worksNow_J23
  refine r_istore (ls' := [some (.inr l0), some (.inl s0), o2]) rfl (Nat.le_of_ble_eq_true rfl) rfl ?_
  refine r_ck (fun h3 => ?_)
  refine r_aload rfl rfl (am_nz h3) ?_
  refine r_getI rfl h3 ?_
  refine r_if rfl rfl (fun c4 => ?_) (fun c4 => ?_)
  · exact AfB_worksNow_J42 l0 s0 o2
  · refine r_aload rfl rfl (am_nz h3) ?_
    refine r_getI rfl h3 ?_
    refine r_aload rfl rfl (am_nz h3) ?_
    refine r_getI rfl h3 ?_
    refine r_icmp rfl rfl (fun c13 => ?_) (fun c13 => ?_)
    · refine r_const (x := 0) rfl rfl ?_
      exact AfB_worksNow_J47 l0 s0 0 o2
    · exact AfB_worksNow_J42 l0 s0 o2
noncomputable def fB_worksNow_J18 (I : am_M) (P : am_Q) (l0 : Nat) : Option (Int32) :=
  fB_worksNow_J23 I P l0 1
set_option maxRecDepth 100000 in
theorem AfB_worksNow_J18 {dp : Nat} {I : am_M} {P : am_Q} {nx : Nat} {sl : Nat} (l0 : Nat) (o1 : Option am_V) (o2 : Option am_V) : sm (dp + 0) am_d99 18 [some (.inr l0), o1, o2] [] (I, P, nx, sl) (sm_g0 (I, P, nx, sl)) (fB_worksNow_J18 I P l0) := by
  unfold fB_worksNow_J18
  refine r_const (x := 1) rfl rfl ?_
  refine r_goto rfl ?_
  exact AfB_worksNow_J23 l0 1 o1 o2
noncomputable def fB_worksNow (I : am_M) (P : am_Q) (l0 : Nat) : Option (Int32) :=
  sm_ck (am_t l0 = 1) <|
  if (I l0 7) = 0 then
    (fB_worksNow_J18 I P l0)
  else
    (if (I l0 3) = (I l0 8) then
      (fB_worksNow_J23 I P l0 0)
    else
      (fB_worksNow_J18 I P l0))
set_option maxRecDepth 100000 in
theorem AfB_worksNow {dp : Nat} {I : am_M} {P : am_Q} {nx : Nat} {sl : Nat} {l0 : Nat} {y : Int32} (hy : fB_worksNow I P l0 = some y) : sm_T (dp + 1) 99 [.inr l0] (I, P, nx, sl) ((sm_g0 (I, P, nx, sl)) y) := by
  refine r_meth (d := am_d99) (dp := dp + 0) (ls0 := [some (.inr l0), none, none]) rfl (by decide) rfl rfl ?_ hy
  unfold fB_worksNow
  refine r_ck (fun h1 => ?_)
  refine r_aload rfl rfl (am_nz h1) ?_
  refine r_getI rfl h1 ?_
  refine r_if rfl rfl (fun c2 => ?_) (fun c2 => ?_)
  · exact AfB_worksNow_J18 l0 none none
  · refine r_aload rfl rfl (am_nz h1) ?_
    refine r_getI rfl h1 ?_
    refine r_aload rfl rfl (am_nz h1) ?_
    refine r_getI rfl h1 ?_
    refine r_icmp rfl rfl (fun c14 => ?_) (fun c14 => ?_)
    · refine r_const (x := 0) rfl rfl ?_
      exact AfB_worksNow_J23 l0 0 none none
    · exact AfB_worksNow_J18 l0 none none
noncomputable def fH_takeTurn_J46 (P : am_Q) (r11 : Nat → Nat → Int32 → Int32 → Nat → Int32 → am_M → Option (am_M)) (l0 : Nat) (l1 : Nat) (l2 : Int32) (l3 : Int32) (l4 : Nat) (l5 : Int32) (I : am_M) : Option (am_M) :=
  sm_bd (l5 + 1) fun x9 =>
  r11 l0 l1 l2 l3 l4 x9 I
set_option maxRecDepth 100000 in
theorem AfH_takeTurn_J46 {dp : Nat} {P : am_Q} {nx : Nat} {sl : Nat} {r11 : Nat → Nat → Int32 → Int32 → Nat → Int32 → am_M → Option (am_M)} (hr11 : ∀ (l0 : Nat) (l1 : Nat) (l2 : Int32) (l3 : Int32) (l4 : Nat) (l5 : Int32) (I : am_M) (o6 : Option am_V), sm (dp + 3) am_d97 11 [some (.inr l0), some (.inr l1), some (.inl l2), some (.inl l3), some (.inr l4), some (.inl l5), o6] [] (I, P, nx, sl) (sm_g2 P nx sl) (r11 l0 l1 l2 l3 l4 l5 I)) (l0 : Nat) (l1 : Nat) (l2 : Int32) (l3 : Int32) (l4 : Nat) (l5 : Int32) (I : am_M) (o6 : Option am_V) : sm (dp + 3) am_d97 46 [some (.inr l0), some (.inr l1), some (.inl l2), some (.inl l3), some (.inr l4), some (.inl l5), o6] [] (I, P, nx, sl) (sm_g2 P nx sl) (fH_takeTurn_J46 P r11 l0 l1 l2 l3 l4 l5 I) := by
  unfold fH_takeTurn_J46
  refine r_iinc (e := l5 + 1) (ls' := fun x9 => [some (.inr l0), some (.inr l1), some (.inl l2), some (.inl l3), some (.inr l4), some (.inl x9), o6]) rfl rfl rfl (fun _ => rfl) (fun x9 => ?_)
  refine r_goto rfl ?_
  exact hr11 l0 l1 l2 l3 l4 x9 I o6
noncomputable def fH_takeTurn_B11 (P : am_Q) (e11_52 : Nat → Nat → Nat → am_M → Option (am_M)) (r11 : Nat → Nat → Int32 → Int32 → Nat → Int32 → am_M → Option (am_M)) (l0 : Nat) (l1 : Nat) (l2 : Int32) (l3 : Int32) (l4 : Nat) (l5 : Int32) (I : am_M) : Option (am_M) :=
  if 2 ≤ l5 then
    (e11_52 l0 l1 l4 I)
  else
    (sm_ck (am_t l1 = 11) <|
    Option.bind (fW_seamInto I P l1 l2 l5) fun y7 =>
    if y7 < 0 then
      (fH_takeTurn_J46 P r11 l0 l1 l2 l3 l4 l5 I)
    else
      (sm_ck (am_t l4 = 1) <|
      sm_ck (am_t l0 = 3) <|
      Option.bind (fH_passed P l0 l1 y7 l3 I) fun y12 =>
      Option.bind (fB_tellIn P l4 l5 y12.1 y12.2) fun y13 =>
      fH_takeTurn_J46 P r11 l0 l1 l2 l3 l4 l5 y13))
set_option maxRecDepth 100000 in
theorem AfH_takeTurn_B11 {dp : Nat} {P : am_Q} {nx : Nat} {sl : Nat} {e11_52 : Nat → Nat → Nat → am_M → Option (am_M)} {r11 : Nat → Nat → Int32 → Int32 → Nat → Int32 → am_M → Option (am_M)} (he11_52 : ∀ (l0 : Nat) (l1 : Nat) (l4 : Nat) (I : am_M) (o2 : Option am_V) (o3 : Option am_V) (o5 : Option am_V) (o6 : Option am_V), sm (dp + 3) am_d97 52 [some (.inr l0), some (.inr l1), o2, o3, some (.inr l4), o5, o6] [] (I, P, nx, sl) (sm_g2 P nx sl) (e11_52 l0 l1 l4 I)) (hr11 : ∀ (l0 : Nat) (l1 : Nat) (l2 : Int32) (l3 : Int32) (l4 : Nat) (l5 : Int32) (I : am_M) (o6 : Option am_V), sm (dp + 3) am_d97 11 [some (.inr l0), some (.inr l1), some (.inl l2), some (.inl l3), some (.inr l4), some (.inl l5), o6] [] (I, P, nx, sl) (sm_g2 P nx sl) (r11 l0 l1 l2 l3 l4 l5 I)) (l0 : Nat) (l1 : Nat) (l2 : Int32) (l3 : Int32) (l4 : Nat) (l5 : Int32) (I : am_M) (o6 : Option am_V) : sm (dp + 3) am_d97 11 [some (.inr l0), some (.inr l1), some (.inl l2), some (.inl l3), some (.inr l4), some (.inl l5), o6] [] (I, P, nx, sl) (sm_g2 P nx sl) (fH_takeTurn_B11 P e11_52 r11 l0 l1 l2 l3 l4 l5 I) := by
  unfold fH_takeTurn_B11
  refine r_iload rfl rfl ?_
  refine r_const (x := 2) rfl rfl ?_
  refine r_icmp rfl rfl (fun c5 => ?_) (fun c5 => ?_)
  · exact he11_52 l0 l1 l4 I (some (.inl l2)) (some (.inl l3)) (some (.inl l5)) o6
  · refine r_ck (fun h6 => ?_)
    refine r_aload rfl rfl (am_nz h6) ?_
    refine r_iload rfl rfl ?_
    refine r_iload rfl rfl ?_
    refine r_call0 rfl rfl h6 (fun y hy => AfW_seamInto (dp := dp + 1) hy) (fun y7 => ?_)
    refine r_istore (ls' := [some (.inr l0), some (.inr l1), some (.inl l2), some (.inl l3), some (.inr l4), some (.inl l5), some (.inl y7)]) rfl (Nat.le_of_ble_eq_true rfl) rfl ?_
    refine r_iload rfl rfl ?_
    refine r_if rfl rfl (fun c8 => ?_) (fun c8 => ?_)
    · exact AfH_takeTurn_J46 hr11 l0 l1 l2 l3 l4 l5 I (some (.inl y7))
    · refine r_ck (fun h10 => ?_)
      refine r_aload rfl rfl (am_nz h10) ?_
      refine r_iload rfl rfl ?_
      refine r_ck (fun h11 => ?_)
      refine r_aload rfl rfl (am_nz h11) ?_
      refine r_aload rfl rfl (am_nz h6) ?_
      refine r_iload rfl rfl ?_
      refine r_iload rfl rfl ?_
      refine r_call1 rfl rfl h11 (fun y hy => AfH_passed (dp := dp + 0) hy) (fun y12 => ?_)
      refine r_call2 rfl rfl h10 (fun y hy => AfB_tellIn (dp := dp + 2) hy) (fun y13 => ?_)
      exact AfH_takeTurn_J46 hr11 l0 l1 l2 l3 l4 l5 y13 (some (.inl y7))
noncomputable def fH_takeTurn_L11 (P : am_Q) (e11_52 : Nat → Nat → Nat → am_M → Option (am_M)) : Nat → Nat → Nat → Int32 → Int32 → Nat → Int32 → am_M → Option (am_M)
  | 0, _, _, _, _, _, _, _ => none
  | n + 1, l0, l1, l2, l3, l4, l5, I => fH_takeTurn_B11 P e11_52 (fH_takeTurn_L11 P e11_52 n) l0 l1 l2 l3 l4 l5 I
theorem AfH_takeTurn_L11 {dp : Nat} {P : am_Q} {nx : Nat} {sl : Nat} {e11_52 : Nat → Nat → Nat → am_M → Option (am_M)} (he11_52 : ∀ (l0 : Nat) (l1 : Nat) (l4 : Nat) (I : am_M) (o2 : Option am_V) (o3 : Option am_V) (o5 : Option am_V) (o6 : Option am_V), sm (dp + 3) am_d97 52 [some (.inr l0), some (.inr l1), o2, o3, some (.inr l4), o5, o6] [] (I, P, nx, sl) (sm_g2 P nx sl) (e11_52 l0 l1 l4 I)) (n : Nat) : ∀ (l0 : Nat) (l1 : Nat) (l2 : Int32) (l3 : Int32) (l4 : Nat) (l5 : Int32) (I : am_M) (o6 : Option am_V), sm (dp + 3) am_d97 11 [some (.inr l0), some (.inr l1), some (.inl l2), some (.inl l3), some (.inr l4), some (.inl l5), o6] [] (I, P, nx, sl) (sm_g2 P nx sl) (fH_takeTurn_L11 P e11_52 n l0 l1 l2 l3 l4 l5 I) := by
  induction n with
  | zero => intro l0 l1 l2 l3 l4 l5 I o6; exact sm_none
  | succ n ih => intro l0 l1 l2 l3 l4 l5 I o6; exact AfH_takeTurn_B11 he11_52 ih l0 l1 l2 l3 l4 l5 I o6
noncomputable def fH_takeTurn_J110 (P : am_Q) (l1 : Nat) (l4 : Nat) (I : am_M) : Option (am_M) :=
  sm_ck (am_t l4 = 1) <|
  sm_bd (am_up I l4 7 1) fun I18 =>
  sm_bd (am_up I18 l4 8 (I18 l4 3)) fun I19 =>
  sm_bd (am_up I19 l4 9 (I19 l4 4)) fun I20 =>
  if ¬ (I20 l4 1) = 0 then
    (some I20)
  else
    (Option.bind (fX_isUnder I20 P (I20 l4 0) 2) fun y22 =>
    if y22 = 0 then
      (some I20)
    else
      (sm_bd (am_up I20 l4 1 (I20 l4 5)) fun I24 =>
      sm_ck (am_t l1 = 11) <|
      sm_bd (am_up I24 l1 3 ((I24 l1 3) + 1)) fun I26 =>
      some I26))
set_option maxRecDepth 100000 in
theorem AfH_takeTurn_J110 {dp : Nat} {P : am_Q} {nx : Nat} {sl : Nat} (l1 : Nat) (l4 : Nat) (I : am_M) (o0 : Option am_V) (o2 : Option am_V) (o3 : Option am_V) (o5 : Option am_V) (o6 : Option am_V) : sm (dp + 3) am_d97 110 [o0, some (.inr l1), o2, o3, some (.inr l4), o5, o6] [] (I, P, nx, sl) (sm_g2 P nx sl) (fH_takeTurn_J110 P l1 l4 I) := by
  unfold fH_takeTurn_J110
  refine r_ck (fun h17 => ?_)
  refine r_aload rfl rfl (am_nz h17) ?_
  refine r_const (x := 1) rfl rfl ?_
  refine r_putI rfl h17 (fun _ => sm_011) (fun I18 => ?_)
  refine r_aload rfl rfl (am_nz h17) ?_
  refine r_aload rfl rfl (am_nz h17) ?_
  refine r_getI rfl h17 ?_
  refine r_putI rfl h17 (fun hz => absurd hz (by decide)) (fun I19 => ?_)
  refine r_aload rfl rfl (am_nz h17) ?_
  refine r_aload rfl rfl (am_nz h17) ?_
  refine r_getI rfl h17 ?_
  refine r_putI rfl h17 (fun hz => absurd hz (by decide)) (fun I20 => ?_)
  refine r_aload rfl rfl (am_nz h17) ?_
  refine r_getI rfl h17 ?_
  refine r_if rfl rfl (fun c21 => ?_) (fun c21 => ?_)
  · exact r_return rfl rfl
  · refine r_aload rfl rfl (am_nz h17) ?_
    refine r_getI rfl h17 ?_
    refine r_const (x := 2) rfl rfl ?_
    refine r_call0 rfl rfl trivial (fun y hy => AfX_isUnder (dp := dp + 1) hy) (fun y22 => ?_)
    refine r_if rfl rfl (fun c23 => ?_) (fun c23 => ?_)
    · exact r_return rfl rfl
    · refine r_aload rfl rfl (am_nz h17) ?_
      refine r_aload rfl rfl (am_nz h17) ?_
      refine r_getI rfl h17 ?_
      refine r_putI rfl h17 (fun hz => absurd hz (by decide)) (fun I24 => ?_)
      refine r_ck (fun h25 => ?_)
      refine r_aload rfl rfl (am_nz h25) ?_
      refine r_dup rfl ?_
      refine r_getI rfl h25 ?_
      refine r_const (x := 1) rfl rfl ?_
      refine r_bin (z := (I24 l1 3) + 1) rfl rfl (by decide) ?_
      refine r_putI rfl h25 (fun hz => absurd hz (by decide)) (fun I26 => ?_)
      exact r_return rfl rfl
noncomputable def fH_takeTurn (P : am_Q) (l0 : Nat) (l1 : Nat) (l2 : Int32) (l3 : Int32) (I : am_M) : Option (am_M) :=
  sm_ck (am_t l1 = 11) <|
  sm_ck (sm_ia (P l1 9) l2) <|
  sm_bd (P (P l1 9) l2.toNatClampNeg) fun a3 =>
  sm_ck (am_t a3 = 1) <|
  fH_takeTurn_L11 P (fun l0 l1 l4 I =>
      sm_ck (am_t l4 = 1) <|
      Option.bind (fB_worksNow I P l4) fun y15 =>
      if y15 = 0 then
        (fH_takeTurn_J110 P l1 l4 I)
      else
        (sm_ck (am_t l0 = 3) <|
        sm_ck (am_t l1 = 11) <|
        sm_ck (am_t (P l0 0) = 6) <|
        Option.bind (fK_work P (P l0 0) l4 0 (I l1 1) (I l1 0) I) fun y30 =>
        Option.bind (fK_work P (P l0 0) l4 1 (y30.2 l1 1) (y30.2 l1 0) y30.2) fun y31 =>
        sm_bd (am_up y31.2 l4 2 y31.1) fun I32 =>
        sm_bd (am_up I32 l4 1 y30.1) fun I33 =>
        fH_takeTurn_J110 P l1 l4 I33)) sm_fu l0 l1 l2 l3 a3 0 I
set_option maxRecDepth 100000 in
theorem AfH_takeTurn {dp : Nat} {P : am_Q} {nx : Nat} {sl : Nat} {I : am_M} {l0 : Nat} {l1 : Nat} {l2 : Int32} {l3 : Int32} {y : am_M} (hy : fH_takeTurn P l0 l1 l2 l3 I = some y) : sm_T (dp + 4) 97 [.inr l0, .inr l1, .inl l2, .inl l3] (I, P, nx, sl) ((sm_g2 P nx sl) y) := by
  refine r_meth (d := am_d97) (dp := dp + 3) (ls0 := [some (.inr l0), some (.inr l1), some (.inl l2), some (.inl l3), none, none, none]) rfl (by decide) rfl rfl ?_ hy
  unfold fH_takeTurn
  refine r_ck (fun h1 => ?_)
  refine r_aload rfl rfl (am_nz h1) ?_
  refine r_getP rfl h1 ?_
  refine r_iload rfl rfl ?_
  refine r_ck (fun h2 => ?_)
  refine r_aald rfl h2 ?_
  refine r_bdA (fun a3 => ?_)
  refine r_ck (fun h4 => ?_)
  refine r_astore (ls' := [some (.inr l0), some (.inr l1), some (.inl l2), some (.inl l3), some (.inr a3), none, none]) rfl (Nat.le_of_ble_eq_true rfl) (am_nz h4) rfl ?_
  refine r_const (x := 0) rfl rfl ?_
  refine r_istore (ls' := [some (.inr l0), some (.inr l1), some (.inl l2), some (.inl l3), some (.inr a3), some (.inl 0), none]) rfl (Nat.le_of_ble_eq_true rfl) rfl ?_
  refine AfH_takeTurn_L11 ?_ sm_fu l0 l1 l2 l3 a3 0 I none
  · intro l0 l1 l4 I o2 o3 o5 o6
    refine r_ck (fun h14 => ?_)
    refine r_aload rfl rfl (am_nz h14) ?_
    refine r_call0 rfl rfl h14 (fun y hy => AfB_worksNow (dp := dp + 2) hy) (fun y15 => ?_)
    refine r_if rfl rfl (fun c16 => ?_) (fun c16 => ?_)
    · exact AfH_takeTurn_J110 l1 l4 I (some (.inr l0)) o2 o3 o5 o6
    · refine r_ck (fun h27 => ?_)
      refine r_aload rfl rfl (am_nz h27) ?_
      refine r_getP rfl h27 ?_
      refine r_aload rfl rfl (am_nz h14) ?_
      refine r_const (x := 0) rfl rfl ?_
      refine r_ck (fun h28 => ?_)
      refine r_aload rfl rfl (am_nz h28) ?_
      refine r_getI rfl h28 ?_
      refine r_aload rfl rfl (am_nz h28) ?_
      refine r_getI rfl h28 ?_
      refine r_ck (fun h29 => ?_)
      refine r_call1 rfl rfl h29 (fun y hy => AfK_work (dp := dp + 1) hy) (fun y30 => ?_)
      refine r_istore (ls' := [some (.inr l0), some (.inr l1), o2, o3, some (.inr l4), some (.inl y30.1), o6]) rfl (Nat.le_of_ble_eq_true rfl) rfl ?_
      refine r_aload rfl rfl (am_nz h14) ?_
      refine r_aload rfl rfl (am_nz h27) ?_
      refine r_getP rfl h27 ?_
      refine r_aload rfl rfl (am_nz h14) ?_
      refine r_const (x := 1) rfl rfl ?_
      refine r_aload rfl rfl (am_nz h28) ?_
      refine r_getI rfl h28 ?_
      refine r_aload rfl rfl (am_nz h28) ?_
      refine r_getI rfl h28 ?_
      refine r_call1 rfl rfl h29 (fun y hy => AfK_work (dp := dp + 1) hy) (fun y31 => ?_)
      refine r_putI rfl h14 (fun hz => absurd hz (by decide)) (fun I32 => ?_)
      refine r_aload rfl rfl (am_nz h14) ?_
      refine r_iload rfl rfl ?_
      refine r_putI rfl h14 (fun hz => absurd hz (by decide)) (fun I33 => ?_)
      exact AfH_takeTurn_J110 l1 l4 I33 (some (.inr l0)) o2 o3 (some (.inl y30.1)) o6
noncomputable def fX_farOf (l0 : Int32) (l1 : Int32) (l2 : Int32) : Option (Int32) :=
  Option.bind (fX_restBy (l0 - l1) l2) fun y1 =>
  Option.bind (fX_restBy (l1 - l0) l2) fun y2 =>
  some (sm_min y1 y2)
set_option maxRecDepth 100000 in
theorem AfX_farOf {dp : Nat} {S : am_S} {l0 : Int32} {l1 : Int32} {l2 : Int32} {y : Int32} (hy : fX_farOf l0 l1 l2 = some y) : sm_T (dp + 2) 101 [.inl l0, .inl l1, .inl l2] S ((sm_g0 S) y) := by
  refine r_meth (d := am_d101) (dp := dp + 1) (ls0 := [some (.inl l0), some (.inl l1), some (.inl l2)]) rfl (by decide) rfl rfl ?_ hy
  unfold fX_farOf
  refine r_iload rfl rfl ?_
  refine r_iload rfl rfl ?_
  refine r_bin (z := l0 - l1) rfl rfl (by decide) ?_
  refine r_iload rfl rfl ?_
  refine r_call0 rfl rfl trivial (fun y hy => AfX_restBy (dp := dp + 0) hy) (fun y1 => ?_)
  refine r_iload rfl rfl ?_
  refine r_iload rfl rfl ?_
  refine r_bin (z := l1 - l0) rfl rfl (by decide) ?_
  refine r_iload rfl rfl ?_
  refine r_call0 rfl rfl trivial (fun y hy => AfX_restBy (dp := dp + 0) hy) (fun y2 => ?_)
  refine r_mm (z := sm_min y1 y2) rfl rfl (Nat.le_of_ble_eq_true rfl) ?_
  exact r_ireturn rfl (Or.inl rfl) rfl
noncomputable def fS_settle (P : am_Q) (l0 : Nat) (l1 : Int32) (l2 : Int32) (I : am_M) : Option (am_M) :=
  sm_ck (am_t l0 = 8) <|
  sm_bd (am_up I l0 7 (sm_min ((I l0 7) + l2) 99999)) fun I2 =>
  sm_bd (am_up I2 l0 6 (I2 l0 5)) fun I3 =>
  sm_bd (am_up I3 l0 5 (I3 l0 4)) fun I4 =>
  sm_bd (am_up I4 l0 4 l1) fun I5 =>
  some I5
set_option maxRecDepth 100000 in
theorem AfS_settle {dp : Nat} {P : am_Q} {nx : Nat} {sl : Nat} {I : am_M} {l0 : Nat} {l1 : Int32} {l2 : Int32} {y : am_M} (hy : fS_settle P l0 l1 l2 I = some y) : sm_T (dp + 1) 102 [.inr l0, .inl l1, .inl l2] (I, P, nx, sl) ((sm_g2 P nx sl) y) := by
  refine r_meth (d := am_d102) (dp := dp + 0) (ls0 := [some (.inr l0), some (.inl l1), some (.inl l2)]) rfl (by decide) rfl rfl ?_ hy
  unfold fS_settle
  refine r_ck (fun h1 => ?_)
  refine r_aload rfl rfl (am_nz h1) ?_
  refine r_aload rfl rfl (am_nz h1) ?_
  refine r_getI rfl h1 ?_
  refine r_iload rfl rfl ?_
  refine r_bin (z := (I l0 7) + l2) rfl rfl (by decide) ?_
  refine r_const (x := 99999) rfl rfl ?_
  refine r_mm (z := sm_min ((I l0 7) + l2) 99999) rfl rfl (Nat.le_of_ble_eq_true rfl) ?_
  refine r_putI rfl h1 (fun hz => absurd hz (by decide)) (fun I2 => ?_)
  refine r_aload rfl rfl (am_nz h1) ?_
  refine r_aload rfl rfl (am_nz h1) ?_
  refine r_getI rfl h1 ?_
  refine r_putI rfl h1 (fun hz => absurd hz (by decide)) (fun I3 => ?_)
  refine r_aload rfl rfl (am_nz h1) ?_
  refine r_aload rfl rfl (am_nz h1) ?_
  refine r_getI rfl h1 ?_
  refine r_putI rfl h1 (fun hz => absurd hz (by decide)) (fun I4 => ?_)
  refine r_aload rfl rfl (am_nz h1) ?_
  refine r_iload rfl rfl ?_
  refine r_putI rfl h1 (fun hz => absurd hz (by decide)) (fun I5 => ?_)
  exact r_return rfl rfl
noncomputable def fH_settleAll_J87 (P : am_Q) (r4 : Nat → Nat → Int32 → Int32 → am_M → Option (Int32 × am_M)) (l0 : Nat) (l1 : Nat) (l2 : Int32) (l3 : Int32) (l4 : Nat) (l6 : Int32) (s0 : Int32) (I : am_M) : Option (Int32 × am_M) :=
  sm_ck (am_t l1 = 11) <|
  Option.bind (fX_farOf s0 l6 (I l1 0)) fun y15 =>
  sm_ck (am_t l4 = 8) <|
  Option.bind (fS_settle P l4 l6 y15 I) fun y17 =>
  sm_bd (l2 + y15) fun x18 =>
  sm_bd (l3 + 1) fun x19 =>
  r4 l0 l1 x18 x19 y17
set_option maxRecDepth 100000 in
theorem AfH_settleAll_J87 {dp : Nat} {P : am_Q} {nx : Nat} {sl : Nat} {r4 : Nat → Nat → Int32 → Int32 → am_M → Option (Int32 × am_M)} (hr4 : ∀ (l0 : Nat) (l1 : Nat) (l2 : Int32) (l3 : Int32) (I : am_M) (o4 : Option am_V) (o5 : Option am_V) (o6 : Option am_V) (o7 : Option am_V), sm (dp + 2) am_d100 4 [some (.inr l0), some (.inr l1), some (.inl l2), some (.inl l3), o4, o5, o6, o7] [] (I, P, nx, sl) (sm_g1 P nx sl) (r4 l0 l1 l2 l3 I)) (l0 : Nat) (l1 : Nat) (l2 : Int32) (l3 : Int32) (l4 : Nat) (l6 : Int32) (s0 : Int32) (I : am_M) (o5 : Option am_V) (o7 : Option am_V) : sm (dp + 2) am_d100 87 [some (.inr l0), some (.inr l1), some (.inl l2), some (.inl l3), some (.inr l4), o5, some (.inl l6), o7] [.inl s0] (I, P, nx, sl) (sm_g1 P nx sl) (fH_settleAll_J87 P r4 l0 l1 l2 l3 l4 l6 s0 I) := by
  unfold fH_settleAll_J87
  refine r_iload rfl rfl ?_
  refine r_ck (fun h14 => ?_)
  refine r_aload rfl rfl (am_nz h14) ?_
  refine r_getI rfl h14 ?_
  refine r_call0 rfl rfl trivial (fun y hy => AfX_farOf (dp := dp + 0) hy) (fun y15 => ?_)
  refine r_istore (ls' := [some (.inr l0), some (.inr l1), some (.inl l2), some (.inl l3), some (.inr l4), o5, some (.inl l6), some (.inl y15)]) rfl (Nat.le_of_ble_eq_true rfl) rfl ?_
  refine r_ck (fun h16 => ?_)
  refine r_aload rfl rfl (am_nz h16) ?_
  refine r_iload rfl rfl ?_
  refine r_iload rfl rfl ?_
  refine r_call2 rfl rfl h16 (fun y hy => AfS_settle (dp := dp + 1) hy) (fun y17 => ?_)
  refine r_iload rfl rfl ?_
  refine r_iload rfl rfl ?_
  refine r_bin (z := l2 + y15) rfl rfl (by decide) ?_
  refine r_bd (fun x18 => ?_)
  refine r_istore (ls' := [some (.inr l0), some (.inr l1), some (.inl x18), some (.inl l3), some (.inr l4), o5, some (.inl l6), some (.inl y15)]) rfl (Nat.le_of_ble_eq_true rfl) rfl ?_
  refine r_iinc (e := l3 + 1) (ls' := fun x19 => [some (.inr l0), some (.inr l1), some (.inl x18), some (.inl x19), some (.inr l4), o5, some (.inl l6), some (.inl y15)]) rfl rfl rfl (fun _ => rfl) (fun x19 => ?_)
  refine r_goto rfl ?_
  exact hr4 l0 l1 x18 x19 y17 (some (.inr l4)) o5 (some (.inl l6)) (some (.inl y15))
noncomputable def fH_settleAll_B4 (P : am_Q) (e4_118 : Int32 → am_M → Option (Int32 × am_M)) (r4 : Nat → Nat → Int32 → Int32 → am_M → Option (Int32 × am_M)) (l0 : Nat) (l1 : Nat) (l2 : Int32) (l3 : Int32) (I : am_M) : Option (Int32 × am_M) :=
  sm_ck (am_t l1 = 11) <|
  if (I l1 7) ≤ l3 then
    (e4_118 l2 I)
  else
    (sm_ck (sm_ia (P l1 10) l3) <|
    sm_bd (P (P l1 10) l3.toNatClampNeg) fun a4 =>
    sm_ck (am_t a4 = 8) <|
    sm_ck (sm_ia (P l1 9) (I a4 2)) <|
    sm_bd (P (P l1 9) (I a4 2).toNatClampNeg) fun a7 =>
    sm_ck (am_t a7 = 1) <|
    sm_ck (am_t l0 = 3) <|
    sm_ck (sm_ia (P l1 9) (I a4 0)) <|
    sm_ck (am_t (P l0 0) = 6) <|
    Option.bind (fK_work P (P l0 0) (P (P l1 9) (I a4 0).toNatClampNeg) (2 + (I a4 1)) (I l1 1) (I l1 0) I) fun y12 =>
    if ¬ (y12.2 a4 3) = 0 then
      (fH_settleAll_J87 P r4 l0 l1 l2 l3 a4 y12.1 (y12.2 a7 4) y12.2)
    else
      (fH_settleAll_J87 P r4 l0 l1 l2 l3 a4 y12.1 (y12.2 a7 3) y12.2))
set_option maxRecDepth 100000 in
theorem AfH_settleAll_B4 {dp : Nat} {P : am_Q} {nx : Nat} {sl : Nat} {e4_118 : Int32 → am_M → Option (Int32 × am_M)} {r4 : Nat → Nat → Int32 → Int32 → am_M → Option (Int32 × am_M)} (he4_118 : ∀ (l2 : Int32) (I : am_M) (o0 : Option am_V) (o1 : Option am_V) (o3 : Option am_V) (o4 : Option am_V) (o5 : Option am_V) (o6 : Option am_V) (o7 : Option am_V), sm (dp + 2) am_d100 118 [o0, o1, some (.inl l2), o3, o4, o5, o6, o7] [] (I, P, nx, sl) (sm_g1 P nx sl) (e4_118 l2 I)) (hr4 : ∀ (l0 : Nat) (l1 : Nat) (l2 : Int32) (l3 : Int32) (I : am_M) (o4 : Option am_V) (o5 : Option am_V) (o6 : Option am_V) (o7 : Option am_V), sm (dp + 2) am_d100 4 [some (.inr l0), some (.inr l1), some (.inl l2), some (.inl l3), o4, o5, o6, o7] [] (I, P, nx, sl) (sm_g1 P nx sl) (r4 l0 l1 l2 l3 I)) (l0 : Nat) (l1 : Nat) (l2 : Int32) (l3 : Int32) (I : am_M) (o4 : Option am_V) (o5 : Option am_V) (o6 : Option am_V) (o7 : Option am_V) : sm (dp + 2) am_d100 4 [some (.inr l0), some (.inr l1), some (.inl l2), some (.inl l3), o4, o5, o6, o7] [] (I, P, nx, sl) (sm_g1 P nx sl) (fH_settleAll_B4 P e4_118 r4 l0 l1 l2 l3 I) := by
  unfold fH_settleAll_B4
  refine r_iload rfl rfl ?_
  refine r_ck (fun h1 => ?_)
  refine r_aload rfl rfl (am_nz h1) ?_
  refine r_getI rfl h1 ?_
  refine r_icmp rfl rfl (fun c2 => ?_) (fun c2 => ?_)
  · exact he4_118 l2 I (some (.inr l0)) (some (.inr l1)) (some (.inl l3)) o4 o5 o6 o7
  · refine r_aload rfl rfl (am_nz h1) ?_
    refine r_getP rfl h1 ?_
    refine r_iload rfl rfl ?_
    refine r_ck (fun h3 => ?_)
    refine r_aald rfl h3 ?_
    refine r_bdA (fun a4 => ?_)
    refine r_ck (fun h5 => ?_)
    refine r_astore (ls' := [some (.inr l0), some (.inr l1), some (.inl l2), some (.inl l3), some (.inr a4), o5, o6, o7]) rfl (Nat.le_of_ble_eq_true rfl) (am_nz h5) rfl ?_
    refine r_aload rfl rfl (am_nz h1) ?_
    refine r_getP rfl h1 ?_
    refine r_aload rfl rfl (am_nz h5) ?_
    refine r_getI rfl h5 ?_
    refine r_ck (fun h6 => ?_)
    refine r_aald rfl h6 ?_
    refine r_bdA (fun a7 => ?_)
    refine r_ck (fun h8 => ?_)
    refine r_astore (ls' := [some (.inr l0), some (.inr l1), some (.inl l2), some (.inl l3), some (.inr a4), some (.inr a7), o6, o7]) rfl (Nat.le_of_ble_eq_true rfl) (am_nz h8) rfl ?_
    refine r_ck (fun h9 => ?_)
    refine r_aload rfl rfl (am_nz h9) ?_
    refine r_getP rfl h9 ?_
    refine r_aload rfl rfl (am_nz h1) ?_
    refine r_getP rfl h1 ?_
    refine r_aload rfl rfl (am_nz h5) ?_
    refine r_getI rfl h5 ?_
    refine r_ck (fun h10 => ?_)
    refine r_aald rfl h10 ?_
    refine r_const (x := 2) rfl rfl ?_
    refine r_aload rfl rfl (am_nz h5) ?_
    refine r_getI rfl h5 ?_
    refine r_bin (z := 2 + (I a4 1)) rfl rfl (by decide) ?_
    refine r_aload rfl rfl (am_nz h1) ?_
    refine r_getI rfl h1 ?_
    refine r_aload rfl rfl (am_nz h1) ?_
    refine r_getI rfl h1 ?_
    refine r_ck (fun h11 => ?_)
    refine r_call1 rfl rfl h11 (fun y hy => AfK_work (dp := dp + 0) hy) (fun y12 => ?_)
    refine r_istore (ls' := [some (.inr l0), some (.inr l1), some (.inl l2), some (.inl l3), some (.inr a4), some (.inr a7), some (.inl y12.1), o7]) rfl (Nat.le_of_ble_eq_true rfl) rfl ?_
    refine r_aload rfl rfl (am_nz h5) ?_
    refine r_getI rfl h5 ?_
    refine r_if rfl rfl (fun c13 => ?_) (fun c13 => ?_)
    · refine r_aload rfl rfl (am_nz h8) ?_
      refine r_getI rfl h8 ?_
      exact AfH_settleAll_J87 hr4 l0 l1 l2 l3 a4 y12.1 (y12.2 a7 4) y12.2 (some (.inr a7)) o7
    · refine r_aload rfl rfl (am_nz h8) ?_
      refine r_getI rfl h8 ?_
      refine r_goto rfl ?_
      exact AfH_settleAll_J87 hr4 l0 l1 l2 l3 a4 y12.1 (y12.2 a7 3) y12.2 (some (.inr a7)) o7
noncomputable def fH_settleAll_L4 (P : am_Q) (e4_118 : Int32 → am_M → Option (Int32 × am_M)) : Nat → Nat → Nat → Int32 → Int32 → am_M → Option (Int32 × am_M)
  | 0, _, _, _, _, _ => none
  | n + 1, l0, l1, l2, l3, I => fH_settleAll_B4 P e4_118 (fH_settleAll_L4 P e4_118 n) l0 l1 l2 l3 I
theorem AfH_settleAll_L4 {dp : Nat} {P : am_Q} {nx : Nat} {sl : Nat} {e4_118 : Int32 → am_M → Option (Int32 × am_M)} (he4_118 : ∀ (l2 : Int32) (I : am_M) (o0 : Option am_V) (o1 : Option am_V) (o3 : Option am_V) (o4 : Option am_V) (o5 : Option am_V) (o6 : Option am_V) (o7 : Option am_V), sm (dp + 2) am_d100 118 [o0, o1, some (.inl l2), o3, o4, o5, o6, o7] [] (I, P, nx, sl) (sm_g1 P nx sl) (e4_118 l2 I)) (n : Nat) : ∀ (l0 : Nat) (l1 : Nat) (l2 : Int32) (l3 : Int32) (I : am_M) (o4 : Option am_V) (o5 : Option am_V) (o6 : Option am_V) (o7 : Option am_V), sm (dp + 2) am_d100 4 [some (.inr l0), some (.inr l1), some (.inl l2), some (.inl l3), o4, o5, o6, o7] [] (I, P, nx, sl) (sm_g1 P nx sl) (fH_settleAll_L4 P e4_118 n l0 l1 l2 l3 I) := by
  induction n with
  | zero => intro l0 l1 l2 l3 I o4 o5 o6 o7; exact sm_none
  | succ n ih => intro l0 l1 l2 l3 I o4 o5 o6 o7; exact AfH_settleAll_B4 he4_118 ih l0 l1 l2 l3 I o4 o5 o6 o7
noncomputable def fH_settleAll (P : am_Q) (l0 : Nat) (l1 : Nat) (I : am_M) : Option (Int32 × am_M) :=
  fH_settleAll_L4 P (fun l2 I =>
      some (l2, I)) sm_fu l0 l1 0 0 I
set_option maxRecDepth 100000 in
theorem AfH_settleAll {dp : Nat} {P : am_Q} {nx : Nat} {sl : Nat} {I : am_M} {l0 : Nat} {l1 : Nat} {y : Int32 × am_M} (hy : fH_settleAll P l0 l1 I = some y) : sm_T (dp + 3) 100 [.inr l0, .inr l1] (I, P, nx, sl) ((sm_g1 P nx sl) y) := by
  refine r_meth (d := am_d100) (dp := dp + 2) (ls0 := [some (.inr l0), some (.inr l1), none, none, none, none, none, none]) rfl (by decide) rfl rfl ?_ hy
  unfold fH_settleAll
  refine r_const (x := 0) rfl rfl ?_
  refine r_istore (ls' := [some (.inr l0), some (.inr l1), some (.inl 0), none, none, none, none, none]) rfl (Nat.le_of_ble_eq_true rfl) rfl ?_
  refine r_const (x := 0) rfl rfl ?_
  refine r_istore (ls' := [some (.inr l0), some (.inr l1), some (.inl 0), some (.inl 0), none, none, none, none]) rfl (Nat.le_of_ble_eq_true rfl) rfl ?_
  refine AfH_settleAll_L4 ?_ sm_fu l0 l1 0 0 I none none none none
  · intro l2 I o0 o1 o3 o4 o5 o6 o7
    refine r_iload rfl rfl ?_
    exact r_ireturn rfl (Or.inl rfl) rfl
noncomputable def fH_pass_J43 (P : am_Q) (r2 : Nat → Nat → Int32 → am_M → Option (Int32 × am_M)) (l0 : Nat) (l1 : Nat) (l2 : Int32) (I : am_M) : Option (Int32 × am_M) :=
  sm_bd (l2 + 1) fun x5 =>
  r2 l0 l1 x5 I
set_option maxRecDepth 100000 in
theorem AfH_pass_J43 {dp : Nat} {P : am_Q} {nx : Nat} {sl : Nat} {r2 : Nat → Nat → Int32 → am_M → Option (Int32 × am_M)} (hr2 : ∀ (l0 : Nat) (l1 : Nat) (l2 : Int32) (I : am_M) (o3 : Option am_V), sm (dp + 4) am_d96 2 [some (.inr l0), some (.inr l1), some (.inl l2), o3] [] (I, P, nx, sl) (sm_g1 P nx sl) (r2 l0 l1 l2 I)) (l0 : Nat) (l1 : Nat) (l2 : Int32) (I : am_M) (o3 : Option am_V) : sm (dp + 4) am_d96 43 [some (.inr l0), some (.inr l1), some (.inl l2), o3] [] (I, P, nx, sl) (sm_g1 P nx sl) (fH_pass_J43 P r2 l0 l1 l2 I) := by
  unfold fH_pass_J43
  refine r_iinc (e := l2 + 1) (ls' := fun x5 => [some (.inr l0), some (.inr l1), some (.inl x5), o3]) rfl rfl rfl (fun _ => rfl) (fun x5 => ?_)
  refine r_goto rfl ?_
  exact hr2 l0 l1 x5 I o3
noncomputable def fH_pass_B2 (P : am_Q) (e2_49 : Nat → Nat → am_M → Option (Int32 × am_M)) (r2 : Nat → Nat → Int32 → am_M → Option (Int32 × am_M)) (l0 : Nat) (l1 : Nat) (l2 : Int32) (I : am_M) : Option (Int32 × am_M) :=
  sm_ck (am_t l1 = 11) <|
  if (I l1 8) ≤ l2 then
    (e2_49 l0 l1 I)
  else
    (sm_ck (sm_in (P l1 13) l2) <|
    if ¬ (I (P l1 13) l2.toNatClampNeg) = (I l1 1) then
      (fH_pass_J43 P r2 l0 l1 l2 I)
    else
      (sm_ck (sm_in (P l1 14) l2) <|
      sm_ck (sm_ia (P l1 9) (I (P l1 14) l2.toNatClampNeg)) <|
      sm_ck (sm_in (P l1 15) l2) <|
      sm_ck (am_t (P (P l1 9) (I (P l1 14) l2.toNatClampNeg).toNatClampNeg) = 1) <|
      sm_bd (am_up I (P (P l1 9) (I (P l1 14) l2.toNatClampNeg).toNatClampNeg) 1 (I (P l1 15) l2.toNatClampNeg)) fun I10 =>
      fH_pass_J43 P r2 l0 l1 l2 I10))
set_option maxRecDepth 100000 in
theorem AfH_pass_B2 {dp : Nat} {P : am_Q} {nx : Nat} {sl : Nat} {e2_49 : Nat → Nat → am_M → Option (Int32 × am_M)} {r2 : Nat → Nat → Int32 → am_M → Option (Int32 × am_M)} (he2_49 : ∀ (l0 : Nat) (l1 : Nat) (I : am_M) (o2 : Option am_V) (o3 : Option am_V), sm (dp + 4) am_d96 49 [some (.inr l0), some (.inr l1), o2, o3] [] (I, P, nx, sl) (sm_g1 P nx sl) (e2_49 l0 l1 I)) (hr2 : ∀ (l0 : Nat) (l1 : Nat) (l2 : Int32) (I : am_M) (o3 : Option am_V), sm (dp + 4) am_d96 2 [some (.inr l0), some (.inr l1), some (.inl l2), o3] [] (I, P, nx, sl) (sm_g1 P nx sl) (r2 l0 l1 l2 I)) (l0 : Nat) (l1 : Nat) (l2 : Int32) (I : am_M) (o3 : Option am_V) : sm (dp + 4) am_d96 2 [some (.inr l0), some (.inr l1), some (.inl l2), o3] [] (I, P, nx, sl) (sm_g1 P nx sl) (fH_pass_B2 P e2_49 r2 l0 l1 l2 I) := by
  unfold fH_pass_B2
  refine r_iload rfl rfl ?_
  refine r_ck (fun h1 => ?_)
  refine r_aload rfl rfl (am_nz h1) ?_
  refine r_getI rfl h1 ?_
  refine r_icmp rfl rfl (fun c2 => ?_) (fun c2 => ?_)
  · exact he2_49 l0 l1 I (some (.inl l2)) o3
  · refine r_aload rfl rfl (am_nz h1) ?_
    refine r_getP rfl h1 ?_
    refine r_iload rfl rfl ?_
    refine r_ck (fun h3 => ?_)
    refine r_iald rfl h3 ?_
    refine r_aload rfl rfl (am_nz h1) ?_
    refine r_getI rfl h1 ?_
    refine r_icmp rfl rfl (fun c4 => ?_) (fun c4 => ?_)
    · exact AfH_pass_J43 hr2 l0 l1 l2 I o3
    · refine r_aload rfl rfl (am_nz h1) ?_
      refine r_getP rfl h1 ?_
      refine r_aload rfl rfl (am_nz h1) ?_
      refine r_getP rfl h1 ?_
      refine r_iload rfl rfl ?_
      refine r_ck (fun h6 => ?_)
      refine r_iald rfl h6 ?_
      refine r_ck (fun h7 => ?_)
      refine r_aald rfl h7 ?_
      refine r_aload rfl rfl (am_nz h1) ?_
      refine r_getP rfl h1 ?_
      refine r_iload rfl rfl ?_
      refine r_ck (fun h8 => ?_)
      refine r_iald rfl h8 ?_
      refine r_ck (fun h9 => ?_)
      refine r_putI rfl h9 (fun hz => absurd hz (by decide)) (fun I10 => ?_)
      exact AfH_pass_J43 hr2 l0 l1 l2 I10 o3
noncomputable def fH_pass_L2 (P : am_Q) (e2_49 : Nat → Nat → am_M → Option (Int32 × am_M)) : Nat → Nat → Nat → Int32 → am_M → Option (Int32 × am_M)
  | 0, _, _, _, _ => none
  | n + 1, l0, l1, l2, I => fH_pass_B2 P e2_49 (fH_pass_L2 P e2_49 n) l0 l1 l2 I
theorem AfH_pass_L2 {dp : Nat} {P : am_Q} {nx : Nat} {sl : Nat} {e2_49 : Nat → Nat → am_M → Option (Int32 × am_M)} (he2_49 : ∀ (l0 : Nat) (l1 : Nat) (I : am_M) (o2 : Option am_V) (o3 : Option am_V), sm (dp + 4) am_d96 49 [some (.inr l0), some (.inr l1), o2, o3] [] (I, P, nx, sl) (sm_g1 P nx sl) (e2_49 l0 l1 I)) (n : Nat) : ∀ (l0 : Nat) (l1 : Nat) (l2 : Int32) (I : am_M) (o3 : Option am_V), sm (dp + 4) am_d96 2 [some (.inr l0), some (.inr l1), some (.inl l2), o3] [] (I, P, nx, sl) (sm_g1 P nx sl) (fH_pass_L2 P e2_49 n l0 l1 l2 I) := by
  induction n with
  | zero => intro l0 l1 l2 I o3; exact sm_none
  | succ n ih => intro l0 l1 l2 I o3; exact AfH_pass_B2 he2_49 ih l0 l1 l2 I o3
noncomputable def fH_pass_B53 (P : am_Q) (e53_90 : Nat → Nat → am_M → Option (Int32 × am_M)) (r53 : Nat → Nat → Int32 → Int32 → am_M → Option (Int32 × am_M)) (l0 : Nat) (l1 : Nat) (l2 : Int32) (l3 : Int32) (I : am_M) : Option (Int32 × am_M) :=
  sm_ck (am_t l1 = 11) <|
  if (I l1 6) ≤ l3 then
    (e53_90 l0 l1 I)
  else
    (sm_ck (am_t l0 = 3) <|
    sm_ck (sm_in (P l1 11) l3) <|
    Option.bind (fH_takeTurn P l0 l1 (I (P l1 11) l3.toNatClampNeg) l2 I) fun y15 =>
    sm_ck (sm_in (P l1 11) l3) <|
    sm_bd (l2 ||| (sm_shl 1 (y15 (P l1 11) l3.toNatClampNeg))) fun x17 =>
    sm_bd (l3 + 1) fun x18 =>
    r53 l0 l1 x17 x18 y15)
set_option maxRecDepth 100000 in
theorem AfH_pass_B53 {dp : Nat} {P : am_Q} {nx : Nat} {sl : Nat} {e53_90 : Nat → Nat → am_M → Option (Int32 × am_M)} {r53 : Nat → Nat → Int32 → Int32 → am_M → Option (Int32 × am_M)} (he53_90 : ∀ (l0 : Nat) (l1 : Nat) (I : am_M) (o2 : Option am_V) (o3 : Option am_V), sm (dp + 4) am_d96 90 [some (.inr l0), some (.inr l1), o2, o3] [] (I, P, nx, sl) (sm_g1 P nx sl) (e53_90 l0 l1 I)) (hr53 : ∀ (l0 : Nat) (l1 : Nat) (l2 : Int32) (l3 : Int32) (I : am_M), sm (dp + 4) am_d96 53 [some (.inr l0), some (.inr l1), some (.inl l2), some (.inl l3)] [] (I, P, nx, sl) (sm_g1 P nx sl) (r53 l0 l1 l2 l3 I)) (l0 : Nat) (l1 : Nat) (l2 : Int32) (l3 : Int32) (I : am_M) : sm (dp + 4) am_d96 53 [some (.inr l0), some (.inr l1), some (.inl l2), some (.inl l3)] [] (I, P, nx, sl) (sm_g1 P nx sl) (fH_pass_B53 P e53_90 r53 l0 l1 l2 l3 I) := by
  unfold fH_pass_B53
  refine r_iload rfl rfl ?_
  refine r_ck (fun h11 => ?_)
  refine r_aload rfl rfl (am_nz h11) ?_
  refine r_getI rfl h11 ?_
  refine r_icmp rfl rfl (fun c12 => ?_) (fun c12 => ?_)
  · exact he53_90 l0 l1 I (some (.inl l2)) (some (.inl l3))
  · refine r_ck (fun h13 => ?_)
    refine r_aload rfl rfl (am_nz h13) ?_
    refine r_aload rfl rfl (am_nz h11) ?_
    refine r_aload rfl rfl (am_nz h11) ?_
    refine r_getP rfl h11 ?_
    refine r_iload rfl rfl ?_
    refine r_ck (fun h14 => ?_)
    refine r_iald rfl h14 ?_
    refine r_iload rfl rfl ?_
    refine r_call2 rfl rfl h13 (fun y hy => AfH_takeTurn (dp := dp + 0) hy) (fun y15 => ?_)
    refine r_iload rfl rfl ?_
    refine r_const (x := 1) rfl rfl ?_
    refine r_aload rfl rfl (am_nz h11) ?_
    refine r_getP rfl h11 ?_
    refine r_iload rfl rfl ?_
    refine r_ck (fun h16 => ?_)
    refine r_iald rfl h16 ?_
    refine r_bin (z := sm_shl 1 (y15 (P l1 11) l3.toNatClampNeg)) rfl rfl (by decide) ?_
    refine r_bin (z := l2 ||| (sm_shl 1 (y15 (P l1 11) l3.toNatClampNeg))) rfl rfl (by decide) ?_
    refine r_bd (fun x17 => ?_)
    refine r_istore (ls' := [some (.inr l0), some (.inr l1), some (.inl x17), some (.inl l3)]) rfl (Nat.le_of_ble_eq_true rfl) rfl ?_
    refine r_iinc (e := l3 + 1) (ls' := fun x18 => [some (.inr l0), some (.inr l1), some (.inl x17), some (.inl x18)]) rfl rfl rfl (fun _ => rfl) (fun x18 => ?_)
    refine r_goto rfl ?_
    exact hr53 l0 l1 x17 x18 y15
noncomputable def fH_pass_L53 (P : am_Q) (e53_90 : Nat → Nat → am_M → Option (Int32 × am_M)) : Nat → Nat → Nat → Int32 → Int32 → am_M → Option (Int32 × am_M)
  | 0, _, _, _, _, _ => none
  | n + 1, l0, l1, l2, l3, I => fH_pass_B53 P e53_90 (fH_pass_L53 P e53_90 n) l0 l1 l2 l3 I
theorem AfH_pass_L53 {dp : Nat} {P : am_Q} {nx : Nat} {sl : Nat} {e53_90 : Nat → Nat → am_M → Option (Int32 × am_M)} (he53_90 : ∀ (l0 : Nat) (l1 : Nat) (I : am_M) (o2 : Option am_V) (o3 : Option am_V), sm (dp + 4) am_d96 90 [some (.inr l0), some (.inr l1), o2, o3] [] (I, P, nx, sl) (sm_g1 P nx sl) (e53_90 l0 l1 I)) (n : Nat) : ∀ (l0 : Nat) (l1 : Nat) (l2 : Int32) (l3 : Int32) (I : am_M), sm (dp + 4) am_d96 53 [some (.inr l0), some (.inr l1), some (.inl l2), some (.inl l3)] [] (I, P, nx, sl) (sm_g1 P nx sl) (fH_pass_L53 P e53_90 n l0 l1 l2 l3 I) := by
  induction n with
  | zero => intro l0 l1 l2 l3 I; exact sm_none
  | succ n ih => intro l0 l1 l2 l3 I; exact AfH_pass_B53 he53_90 ih l0 l1 l2 l3 I
noncomputable def fH_pass (P : am_Q) (l0 : Nat) (l1 : Nat) (I : am_M) : Option (Int32 × am_M) :=
  fH_pass_L2 P (fun l0 l1 I =>
      fH_pass_L53 P (fun l0 l1 I =>
          sm_ck (am_t l0 = 3) <|
          sm_ck (am_t l1 = 11) <|
          Option.bind (fH_settleAll P l0 l1 I) fun y21 =>
          sm_bd (am_up y21.2 l1 1 ((y21.2 l1 1) + 1)) fun I22 =>
          some (y21.1, I22)) sm_fu l0 l1 0 0 I) sm_fu l0 l1 0 I
set_option maxRecDepth 100000 in
theorem AfH_pass {dp : Nat} {P : am_Q} {nx : Nat} {sl : Nat} {I : am_M} {l0 : Nat} {l1 : Nat} {y : Int32 × am_M} (hy : fH_pass P l0 l1 I = some y) : sm_T (dp + 5) 96 [.inr l0, .inr l1] (I, P, nx, sl) ((sm_g1 P nx sl) y) := by
  refine r_meth (d := am_d96) (dp := dp + 4) (ls0 := [some (.inr l0), some (.inr l1), none, none]) rfl (by decide) rfl rfl ?_ hy
  unfold fH_pass
  refine r_const (x := 0) rfl rfl ?_
  refine r_istore (ls' := [some (.inr l0), some (.inr l1), some (.inl 0), none]) rfl (Nat.le_of_ble_eq_true rfl) rfl ?_
  refine AfH_pass_L2 ?_ sm_fu l0 l1 0 I none
  · intro l0 l1 I o2 o3
    refine r_const (x := 0) rfl rfl ?_
    refine r_istore (ls' := [some (.inr l0), some (.inr l1), some (.inl 0), o3]) rfl (Nat.le_of_ble_eq_true rfl) rfl ?_
    refine r_const (x := 0) rfl rfl ?_
    refine r_istore (ls' := [some (.inr l0), some (.inr l1), some (.inl 0), some (.inl 0)]) rfl (Nat.le_of_ble_eq_true rfl) rfl ?_
    refine AfH_pass_L53 ?_ sm_fu l0 l1 0 0 I
    · intro l0 l1 I o2 o3
      refine r_ck (fun h19 => ?_)
      refine r_aload rfl rfl (am_nz h19) ?_
      refine r_ck (fun h20 => ?_)
      refine r_aload rfl rfl (am_nz h20) ?_
      refine r_call1 rfl rfl h19 (fun y hy => AfH_settleAll (dp := dp + 1) hy) (fun y21 => ?_)
      refine r_istore (ls' := [some (.inr l0), some (.inr l1), o2, some (.inl y21.1)]) rfl (Nat.le_of_ble_eq_true rfl) rfl ?_
      refine r_aload rfl rfl (am_nz h20) ?_
      refine r_dup rfl ?_
      refine r_getI rfl h20 ?_
      refine r_const (x := 1) rfl rfl ?_
      refine r_bin (z := (y21.2 l1 1) + 1) rfl rfl (by decide) ?_
      refine r_putI rfl h20 (fun hz => absurd hz (by decide)) (fun I22 => ?_)
      refine r_iload rfl rfl ?_
      exact r_ireturn rfl (Or.inl rfl) rfl
noncomputable def fX_step_J66 (r42 : Nat → Int32 → Int32 → am_M → am_Q → Nat → Nat → Option (Int32 × am_S)) (l0 : Nat) (l1 : Int32) (l2 : Int32) (I : am_M) (P : am_Q) (nx : Nat) (sl : Nat) : Option (Int32 × am_S) :=
  sm_ck (am_t l0 = 12) <|
  sm_ck (am_t (P l0 10) = 3) <|
  Option.bind (fH_pass P (P l0 10) (P l0 0) I) fun y12 =>
  sm_bd (l2 + 1) fun x13 =>
  r42 l0 l1 x13 y12.2 P nx sl
set_option maxRecDepth 100000 in
theorem AfX_step_J66 {dp : Nat}  {r42 : Nat → Int32 → Int32 → am_M → am_Q → Nat → Nat → Option (Int32 × am_S)} (hr42 : ∀ (l0 : Nat) (l1 : Int32) (l2 : Int32) (I : am_M) (P : am_Q) (nx : Nat) (sl : Nat), sm (dp + 5) am_d94 42 [some (.inr l0), some (.inl l1), some (.inl l2)] [] (I, P, nx, sl) sm_g3 (r42 l0 l1 l2 I P nx sl)) (l0 : Nat) (l1 : Int32) (l2 : Int32) (I : am_M) (P : am_Q) (nx : Nat) (sl : Nat) : sm (dp + 5) am_d94 66 [some (.inr l0), some (.inl l1), some (.inl l2)] [] (I, P, nx, sl) sm_g3 (fX_step_J66 r42 l0 l1 l2 I P nx sl) := by
  unfold fX_step_J66
  refine r_ck (fun h10 => ?_)
  refine r_aload rfl rfl (am_nz h10) ?_
  refine r_getP rfl h10 ?_
  refine r_aload rfl rfl (am_nz h10) ?_
  refine r_getP rfl h10 ?_
  refine r_ck (fun h11 => ?_)
  refine r_call1 rfl rfl h11 (fun y hy => AfH_pass (dp := dp + 0) hy) (fun y12 => ?_)
  refine r_pop rfl ?_
  refine r_iinc (e := l2 + 1) (ls' := fun x13 => [some (.inr l0), some (.inl l1), some (.inl x13)]) rfl rfl rfl (fun _ => rfl) (fun x13 => ?_)
  refine r_goto rfl ?_
  exact hr42 l0 l1 x13 y12.2 P nx sl
noncomputable def fX_step_B42 (e42_84 : Nat → am_M → am_Q → Nat → Nat → Option (Int32 × am_S)) (r42 : Nat → Int32 → Int32 → am_M → am_Q → Nat → Nat → Option (Int32 × am_S)) (l0 : Nat) (l1 : Int32) (l2 : Int32) (I : am_M) (P : am_Q) (nx : Nat) (sl : Nat) : Option (Int32 × am_S) :=
  if l1 ≤ l2 then
    (e42_84 l0 I P nx sl)
  else
    (if 6 < (l1 - l2) then
      (fX_step_J66 r42 l0 l1 l2 I P nx sl)
    else
      (sm_ck (am_t l0 = 12) <|
      sm_ck (am_t (P l0 5) = 2) <|
      Option.bind (fY_keep (P l0 5) (P l0 0) I P nx sl) fun y16 =>
      fX_step_J66 r42 l0 l1 l2 y16.1 y16.2.1 y16.2.2.1 y16.2.2.2))
set_option maxRecDepth 100000 in
theorem AfX_step_B42 {dp : Nat}  {e42_84 : Nat → am_M → am_Q → Nat → Nat → Option (Int32 × am_S)} {r42 : Nat → Int32 → Int32 → am_M → am_Q → Nat → Nat → Option (Int32 × am_S)} (he42_84 : ∀ (l0 : Nat) (I : am_M) (P : am_Q) (nx : Nat) (sl : Nat) (o1 : Option am_V) (o2 : Option am_V), sm (dp + 5) am_d94 84 [some (.inr l0), o1, o2] [] (I, P, nx, sl) sm_g3 (e42_84 l0 I P nx sl)) (hr42 : ∀ (l0 : Nat) (l1 : Int32) (l2 : Int32) (I : am_M) (P : am_Q) (nx : Nat) (sl : Nat), sm (dp + 5) am_d94 42 [some (.inr l0), some (.inl l1), some (.inl l2)] [] (I, P, nx, sl) sm_g3 (r42 l0 l1 l2 I P nx sl)) (l0 : Nat) (l1 : Int32) (l2 : Int32) (I : am_M) (P : am_Q) (nx : Nat) (sl : Nat) : sm (dp + 5) am_d94 42 [some (.inr l0), some (.inl l1), some (.inl l2)] [] (I, P, nx, sl) sm_g3 (fX_step_B42 e42_84 r42 l0 l1 l2 I P nx sl) := by
  unfold fX_step_B42
  refine r_iload rfl rfl ?_
  refine r_iload rfl rfl ?_
  refine r_icmp rfl rfl (fun c8 => ?_) (fun c8 => ?_)
  · exact he42_84 l0 I P nx sl (some (.inl l1)) (some (.inl l2))
  · refine r_iload rfl rfl ?_
    refine r_iload rfl rfl ?_
    refine r_bin (z := l1 - l2) rfl rfl (by decide) ?_
    refine r_const (x := 6) rfl rfl ?_
    refine r_icmp rfl rfl (fun c9 => ?_) (fun c9 => ?_)
    · exact AfX_step_J66 hr42 l0 l1 l2 I P nx sl
    · refine r_ck (fun h14 => ?_)
      refine r_aload rfl rfl (am_nz h14) ?_
      refine r_getP rfl h14 ?_
      refine r_aload rfl rfl (am_nz h14) ?_
      refine r_getP rfl h14 ?_
      refine r_ck (fun h15 => ?_)
      refine r_call4 rfl rfl h15 (fun y hy => AfY_keep (dp := dp + 2) hy) (fun y16 => ?_)
      exact AfX_step_J66 hr42 l0 l1 l2 y16.1 y16.2.1 y16.2.2.1 y16.2.2.2
noncomputable def fX_step_L42 (e42_84 : Nat → am_M → am_Q → Nat → Nat → Option (Int32 × am_S)) : Nat → Nat → Int32 → Int32 → am_M → am_Q → Nat → Nat → Option (Int32 × am_S)
  | 0, _, _, _, _, _, _, _ => none
  | n + 1, l0, l1, l2, I, P, nx, sl => fX_step_B42 e42_84 (fX_step_L42 e42_84 n) l0 l1 l2 I P nx sl
theorem AfX_step_L42 {dp : Nat}  {e42_84 : Nat → am_M → am_Q → Nat → Nat → Option (Int32 × am_S)} (he42_84 : ∀ (l0 : Nat) (I : am_M) (P : am_Q) (nx : Nat) (sl : Nat) (o1 : Option am_V) (o2 : Option am_V), sm (dp + 5) am_d94 84 [some (.inr l0), o1, o2] [] (I, P, nx, sl) sm_g3 (e42_84 l0 I P nx sl)) (n : Nat) : ∀ (l0 : Nat) (l1 : Int32) (l2 : Int32) (I : am_M) (P : am_Q) (nx : Nat) (sl : Nat), sm (dp + 5) am_d94 42 [some (.inr l0), some (.inl l1), some (.inl l2)] [] (I, P, nx, sl) sm_g3 (fX_step_L42 e42_84 n l0 l1 l2 I P nx sl) := by
  induction n with
  | zero => intro l0 l1 l2 I P nx sl; exact sm_none
  | succ n ih => intro l0 l1 l2 I P nx sl; exact AfX_step_B42 he42_84 ih l0 l1 l2 I P nx sl
noncomputable def fX_step (l0 : Nat) (l1 : Int32) (I : am_M) (P : am_Q) (nx : Nat) (sl : Nat) : Option (Int32 × am_S) :=
  if l1 < 1 then
    (sm_ck (am_t l0 = 12) <|
    Option.bind (fX_found P l0 ((-1000001)) I) fun y3 =>
    some (y3.1, y3.2, P, nx, sl))
  else
    (if l1 ≤ 50 then
      (sm_ck (am_t l0 = 12) <|
      sm_ck (am_t (P l0 0) = 11) <|
      if ((I (P l0 0) 1) + l1) ≤ 999 then
        (fX_step_L42 (fun l0 I P nx sl =>
            sm_ck (am_t l0 = 12) <|
            sm_ck (am_t (P l0 0) = 11) <|
            some (I (P l0 0) 1, I, P, nx, sl)) sm_fu l0 l1 0 I P nx sl)
      else
        (Option.bind (fX_found P l0 ((-1000002)) I) fun y19 =>
        some (y19.1, y19.2, P, nx, sl)))
    else
      (sm_ck (am_t l0 = 12) <|
      Option.bind (fX_found P l0 ((-1000001)) I) fun y21 =>
      some (y21.1, y21.2, P, nx, sl)))
set_option maxRecDepth 100000 in
theorem AfX_step {dp : Nat}  {I : am_M} {P : am_Q} {nx : Nat} {sl : Nat} {l0 : Nat} {l1 : Int32} {y : Int32 × am_S} (hy : fX_step l0 l1 I P nx sl = some y) : sm_T (dp + 6) 94 [.inr l0, .inl l1] (I, P, nx, sl) (sm_g3 y) := by
  refine r_meth (d := am_d94) (dp := dp + 5) (ls0 := [some (.inr l0), some (.inl l1), none]) rfl (by decide) rfl rfl ?_ hy
  unfold fX_step
  refine r_iload rfl rfl ?_
  refine r_const (x := 1) rfl rfl ?_
  refine r_icmp rfl rfl (fun c1 => ?_) (fun c1 => ?_)
  · refine r_ck (fun h2 => ?_)
    refine r_aload rfl rfl (am_nz h2) ?_
    refine r_const (x := (-1000001)) rfl rfl ?_
    refine r_call1 rfl rfl h2 (fun y hy => AfX_found (dp := dp + 4) hy) (fun y3 => ?_)
    exact r_ireturn rfl (Or.inl rfl) rfl
  · refine r_iload rfl rfl ?_
    refine r_const (x := 50) rfl rfl ?_
    refine r_icmp rfl rfl (fun c4 => ?_) (fun c4 => ?_)
    · refine r_ck (fun h5 => ?_)
      refine r_aload rfl rfl (am_nz h5) ?_
      refine r_getP rfl h5 ?_
      refine r_ck (fun h6 => ?_)
      refine r_getI rfl h6 ?_
      refine r_iload rfl rfl ?_
      refine r_bin (z := (I (P l0 0) 1) + l1) rfl rfl (by decide) ?_
      refine r_const (x := 999) rfl rfl ?_
      refine r_icmp rfl rfl (fun c7 => ?_) (fun c7 => ?_)
      · refine r_const (x := 0) rfl rfl ?_
        refine r_istore (ls' := [some (.inr l0), some (.inl l1), some (.inl 0)]) rfl (Nat.le_of_ble_eq_true rfl) rfl ?_
        refine AfX_step_L42 ?_ sm_fu l0 l1 0 I P nx sl
        · intro l0 I P nx sl o1 o2
          refine r_ck (fun h17 => ?_)
          refine r_aload rfl rfl (am_nz h17) ?_
          refine r_getP rfl h17 ?_
          refine r_ck (fun h18 => ?_)
          refine r_getI rfl h18 ?_
          exact r_ireturn rfl (Or.inl rfl) rfl
      · refine r_aload rfl rfl (am_nz h5) ?_
        refine r_const (x := (-1000002)) rfl rfl ?_
        refine r_call1 rfl rfl h5 (fun y hy => AfX_found (dp := dp + 4) hy) (fun y19 => ?_)
        exact r_ireturn rfl (Or.inl rfl) rfl
    · refine r_ck (fun h20 => ?_)
      refine r_aload rfl rfl (am_nz h20) ?_
      refine r_const (x := (-1000001)) rfl rfl ?_
      refine r_call1 rfl rfl h20 (fun y hy => AfX_found (dp := dp + 4) hy) (fun y21 => ?_)
      exact r_ireturn rfl (Or.inl rfl) rfl
noncomputable def fW_hasShut_B2 (I : am_M) (P : am_Q) (e2_26 : Option (Int32)) (e2_34 : Option (Int32)) (r2 : Nat → Int32 → Option (Int32)) (l0 : Nat) (l1 : Int32) : Option (Int32) :=
  sm_ck (am_t l0 = 11) <|
  if (I l0 6) ≤ l1 then
    (e2_34)
  else
    (sm_ck (sm_ia (P l0 9) l1) <|
    sm_ck (am_t (P (P l0 9) l1.toNatClampNeg) = 1) <|
    Option.bind (fX_isUnder I P (I (P (P l0 9) l1.toNatClampNeg) 0) 4) fun y5 =>
    if y5 = 0 then
      (sm_bd (l1 + 1) fun x7 =>
      r2 l0 x7)
    else
      (e2_26))
set_option maxRecDepth 100000 in
theorem AfW_hasShut_B2 {dp : Nat} {I : am_M} {P : am_Q} {nx : Nat} {sl : Nat} {e2_26 : Option (Int32)} {e2_34 : Option (Int32)} {r2 : Nat → Int32 → Option (Int32)} (he2_26 : ∀ (o0 : Option am_V) (o1 : Option am_V), sm (dp + 2) am_d104 26 [o0, o1] [] (I, P, nx, sl) (sm_g0 (I, P, nx, sl)) (e2_26)) (he2_34 : ∀ (o0 : Option am_V) (o1 : Option am_V), sm (dp + 2) am_d104 34 [o0, o1] [] (I, P, nx, sl) (sm_g0 (I, P, nx, sl)) (e2_34)) (hr2 : ∀ (l0 : Nat) (l1 : Int32), sm (dp + 2) am_d104 2 [some (.inr l0), some (.inl l1)] [] (I, P, nx, sl) (sm_g0 (I, P, nx, sl)) (r2 l0 l1)) (l0 : Nat) (l1 : Int32) : sm (dp + 2) am_d104 2 [some (.inr l0), some (.inl l1)] [] (I, P, nx, sl) (sm_g0 (I, P, nx, sl)) (fW_hasShut_B2 I P e2_26 e2_34 r2 l0 l1) := by
  unfold fW_hasShut_B2
  refine r_iload rfl rfl ?_
  refine r_ck (fun h1 => ?_)
  refine r_aload rfl rfl (am_nz h1) ?_
  refine r_getI rfl h1 ?_
  refine r_icmp rfl rfl (fun c2 => ?_) (fun c2 => ?_)
  · exact he2_34 (some (.inr l0)) (some (.inl l1))
  · refine r_aload rfl rfl (am_nz h1) ?_
    refine r_getP rfl h1 ?_
    refine r_iload rfl rfl ?_
    refine r_ck (fun h3 => ?_)
    refine r_aald rfl h3 ?_
    refine r_ck (fun h4 => ?_)
    refine r_getI rfl h4 ?_
    refine r_const (x := 4) rfl rfl ?_
    refine r_call0 rfl rfl trivial (fun y hy => AfX_isUnder (dp := dp + 0) hy) (fun y5 => ?_)
    refine r_if rfl rfl (fun c6 => ?_) (fun c6 => ?_)
    · refine r_iinc (e := l1 + 1) (ls' := fun x7 => [some (.inr l0), some (.inl x7)]) rfl rfl rfl (fun _ => rfl) (fun x7 => ?_)
      refine r_goto rfl ?_
      exact hr2 l0 x7
    · exact he2_26 (some (.inr l0)) (some (.inl l1))
noncomputable def fW_hasShut_L2 (I : am_M) (P : am_Q) (e2_26 : Option (Int32)) (e2_34 : Option (Int32)) : Nat → Nat → Int32 → Option (Int32)
  | 0, _, _ => none
  | n + 1, l0, l1 => fW_hasShut_B2 I P e2_26 e2_34 (fW_hasShut_L2 I P e2_26 e2_34 n) l0 l1
theorem AfW_hasShut_L2 {dp : Nat} {I : am_M} {P : am_Q} {nx : Nat} {sl : Nat} {e2_26 : Option (Int32)} {e2_34 : Option (Int32)} (he2_26 : ∀ (o0 : Option am_V) (o1 : Option am_V), sm (dp + 2) am_d104 26 [o0, o1] [] (I, P, nx, sl) (sm_g0 (I, P, nx, sl)) (e2_26)) (he2_34 : ∀ (o0 : Option am_V) (o1 : Option am_V), sm (dp + 2) am_d104 34 [o0, o1] [] (I, P, nx, sl) (sm_g0 (I, P, nx, sl)) (e2_34)) (n : Nat) : ∀ (l0 : Nat) (l1 : Int32), sm (dp + 2) am_d104 2 [some (.inr l0), some (.inl l1)] [] (I, P, nx, sl) (sm_g0 (I, P, nx, sl)) (fW_hasShut_L2 I P e2_26 e2_34 n l0 l1) := by
  induction n with
  | zero => intro l0 l1; exact sm_none
  | succ n ih => intro l0 l1; exact AfW_hasShut_B2 he2_26 he2_34 ih l0 l1
noncomputable def fW_hasShut (I : am_M) (P : am_Q) (l0 : Nat) : Option (Int32) :=
  fW_hasShut_L2 I P (some 1) (some 0) sm_fu l0 0
set_option maxRecDepth 100000 in
theorem AfW_hasShut {dp : Nat} {I : am_M} {P : am_Q} {nx : Nat} {sl : Nat} {l0 : Nat} {y : Int32} (hy : fW_hasShut I P l0 = some y) : sm_T (dp + 3) 104 [.inr l0] (I, P, nx, sl) ((sm_g0 (I, P, nx, sl)) y) := by
  refine r_meth (d := am_d104) (dp := dp + 2) (ls0 := [some (.inr l0), none]) rfl (by decide) rfl rfl ?_ hy
  unfold fW_hasShut
  refine r_const (x := 0) rfl rfl ?_
  refine r_istore (ls' := [some (.inr l0), some (.inl 0)]) rfl (Nat.le_of_ble_eq_true rfl) rfl ?_
  refine AfW_hasShut_L2 ?_ ?_ sm_fu l0 0
  · intro o0 o1
    refine r_const (x := 1) rfl rfl ?_
    exact r_ireturn rfl (Or.inr ⟨rfl, sm_011⟩) rfl
  · intro o0 o1
    refine r_const (x := 0) rfl rfl ?_
    exact r_ireturn rfl (Or.inr ⟨rfl, sm_010⟩) rfl
noncomputable def fY_takeBack (l0 : Nat) (l1 : Int32) (l2 : Nat) (I : am_M) (P : am_Q) (nx : Nat) (sl : Nat) : Option (am_S) :=
  sm_ck (am_t l0 = 2) <|
  if l1 ≤ (I l0 2) then
    (sm_bd (am_up I l0 2 ((I l0 2) - l1)) fun I3 =>
    sm_ck (am_t l2 = 11) <|
    sm_ck (sm_ia (P l0 0) (sm_rem ((I3 l0 1) + (I3 l0 2)) 6)) <|
    Option.bind (fW_copyFrom l2 (P (P l0 0) (sm_rem ((I3 l0 1) + (I3 l0 2)) 6).toNatClampNeg) I3 P nx sl) fun y6 =>
    some (y6.1, y6.2.1, y6.2.2.1, y6.2.2.2))
  else
    (some (I, P, nx, sl))
set_option maxRecDepth 100000 in
theorem AfY_takeBack {dp : Nat}  {I : am_M} {P : am_Q} {nx : Nat} {sl : Nat} {l0 : Nat} {l1 : Int32} {l2 : Nat} {y : am_S} (hy : fY_takeBack l0 l1 l2 I P nx sl = some y) : sm_T (dp + 3) 105 [.inr l0, .inl l1, .inr l2] (I, P, nx, sl) (sm_g4 y) := by
  refine r_meth (d := am_d105) (dp := dp + 2) (ls0 := [some (.inr l0), some (.inl l1), some (.inr l2)]) rfl (by decide) rfl rfl ?_ hy
  unfold fY_takeBack
  refine r_iload rfl rfl ?_
  refine r_ck (fun h1 => ?_)
  refine r_aload rfl rfl (am_nz h1) ?_
  refine r_getI rfl h1 ?_
  refine r_icmp rfl rfl (fun c2 => ?_) (fun c2 => ?_)
  · refine r_aload rfl rfl (am_nz h1) ?_
    refine r_dup rfl ?_
    refine r_getI rfl h1 ?_
    refine r_iload rfl rfl ?_
    refine r_bin (z := (I l0 2) - l1) rfl rfl (by decide) ?_
    refine r_putI rfl h1 (fun hz => absurd hz (by decide)) (fun I3 => ?_)
    refine r_ck (fun h4 => ?_)
    refine r_aload rfl rfl (am_nz h4) ?_
    refine r_aload rfl rfl (am_nz h1) ?_
    refine r_getP rfl h1 ?_
    refine r_aload rfl rfl (am_nz h1) ?_
    refine r_getI rfl h1 ?_
    refine r_aload rfl rfl (am_nz h1) ?_
    refine r_getI rfl h1 ?_
    refine r_bin (z := (I3 l0 1) + (I3 l0 2)) rfl rfl (by decide) ?_
    refine r_const (x := 6) rfl rfl ?_
    refine r_bin (z := sm_rem ((I3 l0 1) + (I3 l0 2)) 6) rfl (sm_rv (by decide)) (by decide) ?_
    refine r_ck (fun h5 => ?_)
    refine r_aald rfl h5 ?_
    refine r_call4 rfl rfl h4 (fun y hy => AfW_copyFrom (dp := dp + 0) hy) (fun y6 => ?_)
    exact r_return rfl rfl
  · exact r_return rfl rfl
noncomputable def fX_back (l0 : Nat) (l1 : Int32) (I : am_M) (P : am_Q) (nx : Nat) (sl : Nat) : Option (Int32 × am_S) :=
  if l1 < 1 then
    (sm_ck (am_t l0 = 12) <|
    Option.bind (fX_found P l0 ((-1000001)) I) fun y3 =>
    some (y3.1, y3.2, P, nx, sl))
  else
    (if l1 ≤ 6 then
      (sm_ck (am_t l0 = 12) <|
      sm_ck (am_t (P l0 0) = 11) <|
      Option.bind (fW_hasShut I P (P l0 0)) fun y7 =>
      if y7 = 0 then
        (sm_ck (am_t (P l0 5) = 2) <|
        if l1 ≤ (I (P l0 5) 2) then
          (Option.bind (fY_takeBack (P l0 5) l1 (P l0 0) I P nx sl) fun y11 =>
          sm_ck (am_t (y11.2.1 l0 0) = 11) <|
          some (y11.1 (y11.2.1 l0 0) 1, y11.1, y11.2.1, y11.2.2.1, y11.2.2.2))
        else
          (Option.bind (fX_found P l0 ((-1000004)) I) fun y13 =>
          some (y13.1, y13.2, P, nx, sl)))
      else
        (Option.bind (fX_found P l0 ((-1000005)) I) fun y14 =>
        some (y14.1, y14.2, P, nx, sl)))
    else
      (sm_ck (am_t l0 = 12) <|
      Option.bind (fX_found P l0 ((-1000001)) I) fun y16 =>
      some (y16.1, y16.2, P, nx, sl)))
set_option maxRecDepth 100000 in
theorem AfX_back {dp : Nat}  {I : am_M} {P : am_Q} {nx : Nat} {sl : Nat} {l0 : Nat} {l1 : Int32} {y : Int32 × am_S} (hy : fX_back l0 l1 I P nx sl = some y) : sm_T (dp + 4) 103 [.inr l0, .inl l1] (I, P, nx, sl) (sm_g3 y) := by
  refine r_meth (d := am_d103) (dp := dp + 3) (ls0 := [some (.inr l0), some (.inl l1)]) rfl (by decide) rfl rfl ?_ hy
  unfold fX_back
  refine r_iload rfl rfl ?_
  refine r_const (x := 1) rfl rfl ?_
  refine r_icmp rfl rfl (fun c1 => ?_) (fun c1 => ?_)
  · refine r_ck (fun h2 => ?_)
    refine r_aload rfl rfl (am_nz h2) ?_
    refine r_const (x := (-1000001)) rfl rfl ?_
    refine r_call1 rfl rfl h2 (fun y hy => AfX_found (dp := dp + 2) hy) (fun y3 => ?_)
    exact r_ireturn rfl (Or.inl rfl) rfl
  · refine r_iload rfl rfl ?_
    refine r_const (x := 6) rfl rfl ?_
    refine r_icmp rfl rfl (fun c4 => ?_) (fun c4 => ?_)
    · refine r_ck (fun h5 => ?_)
      refine r_aload rfl rfl (am_nz h5) ?_
      refine r_getP rfl h5 ?_
      refine r_ck (fun h6 => ?_)
      refine r_call0 rfl rfl h6 (fun y hy => AfW_hasShut (dp := dp + 0) hy) (fun y7 => ?_)
      refine r_if rfl rfl (fun c8 => ?_) (fun c8 => ?_)
      · refine r_iload rfl rfl ?_
        refine r_aload rfl rfl (am_nz h5) ?_
        refine r_getP rfl h5 ?_
        refine r_ck (fun h9 => ?_)
        refine r_getI rfl h9 ?_
        refine r_icmp rfl rfl (fun c10 => ?_) (fun c10 => ?_)
        · refine r_aload rfl rfl (am_nz h5) ?_
          refine r_getP rfl h5 ?_
          refine r_iload rfl rfl ?_
          refine r_aload rfl rfl (am_nz h5) ?_
          refine r_getP rfl h5 ?_
          refine r_call4 rfl rfl h9 (fun y hy => AfY_takeBack (dp := dp + 0) hy) (fun y11 => ?_)
          refine r_aload rfl rfl (am_nz h5) ?_
          refine r_getP rfl h5 ?_
          refine r_ck (fun h12 => ?_)
          refine r_getI rfl h12 ?_
          exact r_ireturn rfl (Or.inl rfl) rfl
        · refine r_aload rfl rfl (am_nz h5) ?_
          refine r_const (x := (-1000004)) rfl rfl ?_
          refine r_call1 rfl rfl h5 (fun y hy => AfX_found (dp := dp + 2) hy) (fun y13 => ?_)
          exact r_ireturn rfl (Or.inl rfl) rfl
      · refine r_aload rfl rfl (am_nz h5) ?_
        refine r_const (x := (-1000005)) rfl rfl ?_
        refine r_call1 rfl rfl h5 (fun y hy => AfX_found (dp := dp + 2) hy) (fun y14 => ?_)
        exact r_ireturn rfl (Or.inl rfl) rfl
    · refine r_ck (fun h15 => ?_)
      refine r_aload rfl rfl (am_nz h15) ?_
      refine r_const (x := (-1000001)) rfl rfl ?_
      refine r_call1 rfl rfl h15 (fun y hy => AfX_found (dp := dp + 2) hy) (fun y16 => ?_)
      exact r_ireturn rfl (Or.inl rfl) rfl
noncomputable def fW_addEvent (P : am_Q) (l0 : Nat) (l1 : Int32) (l2 : Int32) (l3 : Int32) (I : am_M) : Option (Int32 × am_M) :=
  sm_ck (am_t l0 = 11) <|
  sm_bd (I l0 8) fun x2 =>
  sm_ck (sm_iw (P l0 13) x2) <|
  sm_bd (am_up I (P l0 13) x2.toNatClampNeg l1) fun I4 =>
  sm_ck (sm_iw (P l0 14) x2) <|
  sm_bd (am_up I4 (P l0 14) x2.toNatClampNeg l2) fun I6 =>
  sm_ck (sm_iw (P l0 15) x2) <|
  sm_bd (am_up I6 (P l0 15) x2.toNatClampNeg l3) fun I8 =>
  sm_bd (am_up I8 l0 8 ((I8 l0 8) + 1)) fun I9 =>
  some (x2, I9)
set_option maxRecDepth 100000 in
theorem AfW_addEvent {dp : Nat} {P : am_Q} {nx : Nat} {sl : Nat} {I : am_M} {l0 : Nat} {l1 : Int32} {l2 : Int32} {l3 : Int32} {y : Int32 × am_M} (hy : fW_addEvent P l0 l1 l2 l3 I = some y) : sm_T (dp + 1) 107 [.inr l0, .inl l1, .inl l2, .inl l3] (I, P, nx, sl) ((sm_g1 P nx sl) y) := by
  refine r_meth (d := am_d107) (dp := dp + 0) (ls0 := [some (.inr l0), some (.inl l1), some (.inl l2), some (.inl l3), none]) rfl (by decide) rfl rfl ?_ hy
  unfold fW_addEvent
  refine r_ck (fun h1 => ?_)
  refine r_aload rfl rfl (am_nz h1) ?_
  refine r_getI rfl h1 ?_
  refine r_bd (fun x2 => ?_)
  refine r_istore (ls' := [some (.inr l0), some (.inl l1), some (.inl l2), some (.inl l3), some (.inl x2)]) rfl (Nat.le_of_ble_eq_true rfl) rfl ?_
  refine r_aload rfl rfl (am_nz h1) ?_
  refine r_getP rfl h1 ?_
  refine r_iload rfl rfl ?_
  refine r_iload rfl rfl ?_
  refine r_ck (fun h3 => ?_)
  refine r_iast rfl h3 (fun I4 => ?_)
  refine r_aload rfl rfl (am_nz h1) ?_
  refine r_getP rfl h1 ?_
  refine r_iload rfl rfl ?_
  refine r_iload rfl rfl ?_
  refine r_ck (fun h5 => ?_)
  refine r_iast rfl h5 (fun I6 => ?_)
  refine r_aload rfl rfl (am_nz h1) ?_
  refine r_getP rfl h1 ?_
  refine r_iload rfl rfl ?_
  refine r_iload rfl rfl ?_
  refine r_ck (fun h7 => ?_)
  refine r_iast rfl h7 (fun I8 => ?_)
  refine r_aload rfl rfl (am_nz h1) ?_
  refine r_dup rfl ?_
  refine r_getI rfl h1 ?_
  refine r_const (x := 1) rfl rfl ?_
  refine r_bin (z := (I8 l0 8) + 1) rfl rfl (by decide) ?_
  refine r_putI rfl h1 (fun hz => absurd hz (by decide)) (fun I9 => ?_)
  refine r_iload rfl rfl ?_
  exact r_ireturn rfl (Or.inl rfl) rfl
noncomputable def fX_event (P : am_Q) (l0 : Nat) (l1 : Int32) (l2 : Int32) (l3 : Int32) (I : am_M) : Option (Int32 × am_M) :=
  sm_ck (am_t l0 = 12) <|
  sm_ck (am_t (P l0 0) = 11) <|
  if l1 < (I (P l0 0) 1) then
    (Option.bind (fX_found P l0 ((-1000001)) I) fun y4 =>
    some (y4.1, y4.2))
  else
    (if 999 < l1 then
      (Option.bind (fX_found P l0 ((-1000001)) I) fun y6 =>
      some (y6.1, y6.2))
    else
      (Option.bind (fW_hasBox I P (P l0 0) l2) fun y7 =>
      if y7 = 0 then
        (Option.bind (fX_found P l0 ((-1000001)) I) fun y9 =>
        some (y9.1, y9.2))
      else
        (Option.bind (fW_isNumber I P (P l0 0) l3) fun y10 =>
        if ¬ y10 = 0 then
          (if (I (P l0 0) 8) < 20 then
            (Option.bind (fW_addEvent P (P l0 0) l1 l2 l3 I) fun y13 =>
            some (y13.1, y13.2))
          else
            (Option.bind (fX_found P l0 ((-1000002)) I) fun y14 =>
            some (y14.1, y14.2)))
        else
          (Option.bind (fX_found P l0 ((-1000001)) I) fun y15 =>
          some (y15.1, y15.2)))))
set_option maxRecDepth 100000 in
theorem AfX_event {dp : Nat} {P : am_Q} {nx : Nat} {sl : Nat} {I : am_M} {l0 : Nat} {l1 : Int32} {l2 : Int32} {l3 : Int32} {y : Int32 × am_M} (hy : fX_event P l0 l1 l2 l3 I = some y) : sm_T (dp + 2) 106 [.inr l0, .inl l1, .inl l2, .inl l3] (I, P, nx, sl) ((sm_g1 P nx sl) y) := by
  refine r_meth (d := am_d106) (dp := dp + 1) (ls0 := [some (.inr l0), some (.inl l1), some (.inl l2), some (.inl l3)]) rfl (by decide) rfl rfl ?_ hy
  unfold fX_event
  refine r_iload rfl rfl ?_
  refine r_ck (fun h1 => ?_)
  refine r_aload rfl rfl (am_nz h1) ?_
  refine r_getP rfl h1 ?_
  refine r_ck (fun h2 => ?_)
  refine r_getI rfl h2 ?_
  refine r_icmp rfl rfl (fun c3 => ?_) (fun c3 => ?_)
  · refine r_aload rfl rfl (am_nz h1) ?_
    refine r_const (x := (-1000001)) rfl rfl ?_
    refine r_call1 rfl rfl h1 (fun y hy => AfX_found (dp := dp + 0) hy) (fun y4 => ?_)
    exact r_ireturn rfl (Or.inl rfl) rfl
  · refine r_iload rfl rfl ?_
    refine r_const (x := 999) rfl rfl ?_
    refine r_icmp rfl rfl (fun c5 => ?_) (fun c5 => ?_)
    · refine r_aload rfl rfl (am_nz h1) ?_
      refine r_const (x := (-1000001)) rfl rfl ?_
      refine r_call1 rfl rfl h1 (fun y hy => AfX_found (dp := dp + 0) hy) (fun y6 => ?_)
      exact r_ireturn rfl (Or.inl rfl) rfl
    · refine r_aload rfl rfl (am_nz h1) ?_
      refine r_getP rfl h1 ?_
      refine r_iload rfl rfl ?_
      refine r_call0 rfl rfl h2 (fun y hy => AfW_hasBox (dp := dp + 0) hy) (fun y7 => ?_)
      refine r_if rfl rfl (fun c8 => ?_) (fun c8 => ?_)
      · refine r_aload rfl rfl (am_nz h1) ?_
        refine r_const (x := (-1000001)) rfl rfl ?_
        refine r_call1 rfl rfl h1 (fun y hy => AfX_found (dp := dp + 0) hy) (fun y9 => ?_)
        exact r_ireturn rfl (Or.inl rfl) rfl
      · refine r_aload rfl rfl (am_nz h1) ?_
        refine r_getP rfl h1 ?_
        refine r_iload rfl rfl ?_
        refine r_call0 rfl rfl h2 (fun y hy => AfW_isNumber (dp := dp + 0) hy) (fun y10 => ?_)
        refine r_if rfl rfl (fun c11 => ?_) (fun c11 => ?_)
        · refine r_aload rfl rfl (am_nz h1) ?_
          refine r_getP rfl h1 ?_
          refine r_getI rfl h2 ?_
          refine r_const (x := 20) rfl rfl ?_
          refine r_icmp rfl rfl (fun c12 => ?_) (fun c12 => ?_)
          · refine r_aload rfl rfl (am_nz h1) ?_
            refine r_getP rfl h1 ?_
            refine r_iload rfl rfl ?_
            refine r_iload rfl rfl ?_
            refine r_iload rfl rfl ?_
            refine r_call1 rfl rfl h2 (fun y hy => AfW_addEvent (dp := dp + 0) hy) (fun y13 => ?_)
            exact r_ireturn rfl (Or.inl rfl) rfl
          · refine r_aload rfl rfl (am_nz h1) ?_
            refine r_const (x := (-1000002)) rfl rfl ?_
            refine r_call1 rfl rfl h1 (fun y hy => AfX_found (dp := dp + 0) hy) (fun y14 => ?_)
            exact r_ireturn rfl (Or.inl rfl) rfl
        · refine r_aload rfl rfl (am_nz h1) ?_
          refine r_const (x := (-1000001)) rfl rfl ?_
          refine r_call1 rfl rfl h1 (fun y hy => AfX_found (dp := dp + 0) hy) (fun y15 => ?_)
          exact r_ireturn rfl (Or.inl rfl) rfl
noncomputable def fW_nextEvent_J46 (I : am_M) (P : am_Q) (r4 : Nat → Int32 → Int32 → Option (Int32)) (l0 : Nat) (l1 : Int32) (l2 : Int32) : Option (Int32) :=
  sm_bd (l2 + 1) fun x5 =>
  r4 l0 l1 x5
set_option maxRecDepth 100000 in
theorem AfW_nextEvent_J46 {dp : Nat} {I : am_M} {P : am_Q} {nx : Nat} {sl : Nat} {r4 : Nat → Int32 → Int32 → Option (Int32)} (hr4 : ∀ (l0 : Nat) (l1 : Int32) (l2 : Int32), sm (dp + 0) am_d109 4 [some (.inr l0), some (.inl l1), some (.inl l2)] [] (I, P, nx, sl) (sm_g0 (I, P, nx, sl)) (r4 l0 l1 l2)) (l0 : Nat) (l1 : Int32) (l2 : Int32) : sm (dp + 0) am_d109 46 [some (.inr l0), some (.inl l1), some (.inl l2)] [] (I, P, nx, sl) (sm_g0 (I, P, nx, sl)) (fW_nextEvent_J46 I P r4 l0 l1 l2) := by
  unfold fW_nextEvent_J46
  refine r_iinc (e := l2 + 1) (ls' := fun x5 => [some (.inr l0), some (.inl l1), some (.inl x5)]) rfl rfl rfl (fun _ => rfl) (fun x5 => ?_)
  refine r_goto rfl ?_
  exact hr4 l0 l1 x5
noncomputable def fW_nextEvent_J39 (I : am_M) (P : am_Q) (r4 : Nat → Int32 → Int32 → Option (Int32)) (l0 : Nat) (l2 : Int32) : Option (Int32) :=
  sm_ck (am_t l0 = 11) <|
  sm_ck (sm_in (P l0 13) l2) <|
  sm_bd (I (P l0 13) l2.toNatClampNeg) fun x9 =>
  fW_nextEvent_J46 I P r4 l0 x9 l2
set_option maxRecDepth 100000 in
theorem AfW_nextEvent_J39 {dp : Nat} {I : am_M} {P : am_Q} {nx : Nat} {sl : Nat} {r4 : Nat → Int32 → Int32 → Option (Int32)} (hr4 : ∀ (l0 : Nat) (l1 : Int32) (l2 : Int32), sm (dp + 0) am_d109 4 [some (.inr l0), some (.inl l1), some (.inl l2)] [] (I, P, nx, sl) (sm_g0 (I, P, nx, sl)) (r4 l0 l1 l2)) (l0 : Nat) (l2 : Int32) (o1 : Option am_V) : sm (dp + 0) am_d109 39 [some (.inr l0), o1, some (.inl l2)] [] (I, P, nx, sl) (sm_g0 (I, P, nx, sl)) (fW_nextEvent_J39 I P r4 l0 l2) := by
  unfold fW_nextEvent_J39
  refine r_ck (fun h7 => ?_)
  refine r_aload rfl rfl (am_nz h7) ?_
  refine r_getP rfl h7 ?_
  refine r_iload rfl rfl ?_
  refine r_ck (fun h8 => ?_)
  refine r_iald rfl h8 ?_
  refine r_bd (fun x9 => ?_)
  refine r_istore (ls' := [some (.inr l0), some (.inl x9), some (.inl l2)]) rfl (Nat.le_of_ble_eq_true rfl) rfl ?_
  exact AfW_nextEvent_J46 hr4 l0 x9 l2
noncomputable def fW_nextEvent_B4 (I : am_M) (P : am_Q) (e4_52 : Int32 → Option (Int32)) (r4 : Nat → Int32 → Int32 → Option (Int32)) (l0 : Nat) (l1 : Int32) (l2 : Int32) : Option (Int32) :=
  sm_ck (am_t l0 = 11) <|
  if (I l0 8) ≤ l2 then
    (e4_52 l1)
  else
    (sm_ck (sm_in (P l0 13) l2) <|
    if (I (P l0 13) l2.toNatClampNeg) < (I l0 1) then
      (fW_nextEvent_J46 I P r4 l0 l1 l2)
    else
      (if l1 < 0 then
        (fW_nextEvent_J39 I P r4 l0 l2)
      else
        (sm_ck (sm_in (P l0 13) l2) <|
        if l1 ≤ (I (P l0 13) l2.toNatClampNeg) then
          (fW_nextEvent_J46 I P r4 l0 l1 l2)
        else
          (fW_nextEvent_J39 I P r4 l0 l2))))
set_option maxRecDepth 100000 in
theorem AfW_nextEvent_B4 {dp : Nat} {I : am_M} {P : am_Q} {nx : Nat} {sl : Nat} {e4_52 : Int32 → Option (Int32)} {r4 : Nat → Int32 → Int32 → Option (Int32)} (he4_52 : ∀ (l1 : Int32) (o0 : Option am_V) (o2 : Option am_V), sm (dp + 0) am_d109 52 [o0, some (.inl l1), o2] [] (I, P, nx, sl) (sm_g0 (I, P, nx, sl)) (e4_52 l1)) (hr4 : ∀ (l0 : Nat) (l1 : Int32) (l2 : Int32), sm (dp + 0) am_d109 4 [some (.inr l0), some (.inl l1), some (.inl l2)] [] (I, P, nx, sl) (sm_g0 (I, P, nx, sl)) (r4 l0 l1 l2)) (l0 : Nat) (l1 : Int32) (l2 : Int32) : sm (dp + 0) am_d109 4 [some (.inr l0), some (.inl l1), some (.inl l2)] [] (I, P, nx, sl) (sm_g0 (I, P, nx, sl)) (fW_nextEvent_B4 I P e4_52 r4 l0 l1 l2) := by
  unfold fW_nextEvent_B4
  refine r_iload rfl rfl ?_
  refine r_ck (fun h1 => ?_)
  refine r_aload rfl rfl (am_nz h1) ?_
  refine r_getI rfl h1 ?_
  refine r_icmp rfl rfl (fun c2 => ?_) (fun c2 => ?_)
  · exact he4_52 l1 (some (.inr l0)) (some (.inl l2))
  · refine r_aload rfl rfl (am_nz h1) ?_
    refine r_getP rfl h1 ?_
    refine r_iload rfl rfl ?_
    refine r_ck (fun h3 => ?_)
    refine r_iald rfl h3 ?_
    refine r_aload rfl rfl (am_nz h1) ?_
    refine r_getI rfl h1 ?_
    refine r_icmp rfl rfl (fun c4 => ?_) (fun c4 => ?_)
    · exact AfW_nextEvent_J46 hr4 l0 l1 l2
    · refine r_iload rfl rfl ?_
      refine r_if rfl rfl (fun c6 => ?_) (fun c6 => ?_)
      · exact AfW_nextEvent_J39 hr4 l0 l2 (some (.inl l1))
      · refine r_aload rfl rfl (am_nz h1) ?_
        refine r_getP rfl h1 ?_
        refine r_iload rfl rfl ?_
        refine r_ck (fun h10 => ?_)
        refine r_iald rfl h10 ?_
        refine r_iload rfl rfl ?_
        refine r_icmp rfl rfl (fun c11 => ?_) (fun c11 => ?_)
        · exact AfW_nextEvent_J46 hr4 l0 l1 l2
        · exact AfW_nextEvent_J39 hr4 l0 l2 (some (.inl l1))
noncomputable def fW_nextEvent_L4 (I : am_M) (P : am_Q) (e4_52 : Int32 → Option (Int32)) : Nat → Nat → Int32 → Int32 → Option (Int32)
  | 0, _, _, _ => none
  | n + 1, l0, l1, l2 => fW_nextEvent_B4 I P e4_52 (fW_nextEvent_L4 I P e4_52 n) l0 l1 l2
theorem AfW_nextEvent_L4 {dp : Nat} {I : am_M} {P : am_Q} {nx : Nat} {sl : Nat} {e4_52 : Int32 → Option (Int32)} (he4_52 : ∀ (l1 : Int32) (o0 : Option am_V) (o2 : Option am_V), sm (dp + 0) am_d109 52 [o0, some (.inl l1), o2] [] (I, P, nx, sl) (sm_g0 (I, P, nx, sl)) (e4_52 l1)) (n : Nat) : ∀ (l0 : Nat) (l1 : Int32) (l2 : Int32), sm (dp + 0) am_d109 4 [some (.inr l0), some (.inl l1), some (.inl l2)] [] (I, P, nx, sl) (sm_g0 (I, P, nx, sl)) (fW_nextEvent_L4 I P e4_52 n l0 l1 l2) := by
  induction n with
  | zero => intro l0 l1 l2; exact sm_none
  | succ n ih => intro l0 l1 l2; exact AfW_nextEvent_B4 he4_52 ih l0 l1 l2
noncomputable def fW_nextEvent (I : am_M) (P : am_Q) (l0 : Nat) : Option (Int32) :=
  fW_nextEvent_L4 I P (fun l1 =>
      some l1) sm_fu l0 ((-1)) 0
set_option maxRecDepth 100000 in
theorem AfW_nextEvent {dp : Nat} {I : am_M} {P : am_Q} {nx : Nat} {sl : Nat} {l0 : Nat} {y : Int32} (hy : fW_nextEvent I P l0 = some y) : sm_T (dp + 1) 109 [.inr l0] (I, P, nx, sl) ((sm_g0 (I, P, nx, sl)) y) := by
  refine r_meth (d := am_d109) (dp := dp + 0) (ls0 := [some (.inr l0), none, none]) rfl (by decide) rfl rfl ?_ hy
  unfold fW_nextEvent
  refine r_const (x := (-1)) rfl rfl ?_
  refine r_istore (ls' := [some (.inr l0), some (.inl ((-1))), none]) rfl (Nat.le_of_ble_eq_true rfl) rfl ?_
  refine r_const (x := 0) rfl rfl ?_
  refine r_istore (ls' := [some (.inr l0), some (.inl ((-1))), some (.inl 0)]) rfl (Nat.le_of_ble_eq_true rfl) rfl ?_
  refine AfW_nextEvent_L4 ?_ sm_fu l0 ((-1)) 0
  · intro l1 o0 o2
    refine r_iload rfl rfl ?_
    exact r_ireturn rfl (Or.inl rfl) rfl
noncomputable def fX_next (P : am_Q) (l0 : Nat) (I : am_M) : Option (Int32 × am_M) :=
  sm_ck (am_t l0 = 12) <|
  sm_ck (am_t (P l0 0) = 11) <|
  Option.bind (fW_nextEvent I P (P l0 0)) fun y3 =>
  if 0 ≤ y3 then
    (some (y3, I))
  else
    (Option.bind (fX_found P l0 ((-1000004)) I) fun y5 =>
    some (y5.1, y5.2))
set_option maxRecDepth 100000 in
theorem AfX_next {dp : Nat} {P : am_Q} {nx : Nat} {sl : Nat} {I : am_M} {l0 : Nat} {y : Int32 × am_M} (hy : fX_next P l0 I = some y) : sm_T (dp + 2) 108 [.inr l0] (I, P, nx, sl) ((sm_g1 P nx sl) y) := by
  refine r_meth (d := am_d108) (dp := dp + 1) (ls0 := [some (.inr l0), none]) rfl (by decide) rfl rfl ?_ hy
  unfold fX_next
  refine r_ck (fun h1 => ?_)
  refine r_aload rfl rfl (am_nz h1) ?_
  refine r_getP rfl h1 ?_
  refine r_ck (fun h2 => ?_)
  refine r_call0 rfl rfl h2 (fun y hy => AfW_nextEvent (dp := dp + 0) hy) (fun y3 => ?_)
  refine r_istore (ls' := [some (.inr l0), some (.inl y3)]) rfl (Nat.le_of_ble_eq_true rfl) rfl ?_
  refine r_iload rfl rfl ?_
  refine r_if rfl rfl (fun c4 => ?_) (fun c4 => ?_)
  · refine r_iload rfl rfl ?_
    exact r_ireturn rfl (Or.inl rfl) rfl
  · refine r_aload rfl rfl (am_nz h1) ?_
    refine r_const (x := (-1000004)) rfl rfl ?_
    refine r_call1 rfl rfl h1 (fun y hy => AfX_found (dp := dp + 0) hy) (fun y5 => ?_)
    refine r_goto rfl ?_
    exact r_ireturn rfl (Or.inl rfl) rfl
