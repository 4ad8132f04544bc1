noncomputable def fK_work_J153 (P : am_Q) (r45 : Nat → Nat → Int32 → Int32 → Int32 → Nat → Int32 → Int32 → am_M → Option (Int32 × am_M)) (l0 : Nat) (l1 : Nat) (l2 : Int32) (l3 : Int32) (l4 : Int32) (l5 : Nat) (l6 : Int32) (l7 : Int32) (I : am_M) : Option (Int32 × am_M) :=
  sm_bd (l7 + 1) fun x15 =>
  r45 l0 l1 l2 l3 l4 l5 l6 x15 I
set_option maxRecDepth 100000 in
theorem AfK_work_J153 {dp : Nat} {P : am_Q} {nx : Nat} {sl : Nat} {r45 : Nat → Nat → Int32 → Int32 → Int32 → Nat → Int32 → Int32 → am_M → Option (Int32 × am_M)} (hr45 : ∀ (l0 : Nat) (l1 : Nat) (l2 : Int32) (l3 : Int32) (l4 : Int32) (l5 : Nat) (l6 : Int32) (l7 : Int32) (I : am_M) (o8 : Option am_V), sm (dp + 1) am_d27 45 [some (.inr l0), some (.inr l1), some (.inl l2), some (.inl l3), some (.inl l4), some (.inr l5), some (.inl l6), some (.inl l7), o8] [] (I, P, nx, sl) (sm_g1 P nx sl) (r45 l0 l1 l2 l3 l4 l5 l6 l7 I)) (l0 : Nat) (l1 : Nat) (l2 : Int32) (l3 : Int32) (l4 : Int32) (l5 : Nat) (l6 : Int32) (l7 : Int32) (I : am_M) (o8 : Option am_V) : sm (dp + 1) am_d27 153 [some (.inr l0), some (.inr l1), some (.inl l2), some (.inl l3), some (.inl l4), some (.inr l5), some (.inl l6), some (.inl l7), o8] [] (I, P, nx, sl) (sm_g1 P nx sl) (fK_work_J153 P r45 l0 l1 l2 l3 l4 l5 l6 l7 I) := by
  unfold fK_work_J153
  refine r_iinc (e := l7 + 1) (ls' := fun x15 => [some (.inr l0), some (.inr l1), some (.inl l2), some (.inl l3), some (.inl l4), some (.inr l5), some (.inl l6), some (.inl x15), o8]) rfl rfl rfl (fun _ => rfl) (fun x15 => ?_)
  refine r_goto rfl ?_
  exact hr45 l0 l1 l2 l3 l4 l5 l6 x15 I o8
noncomputable def fK_work_B45 (P : am_Q) (e45_159 : Nat → am_M → Option (Int32 × am_M)) (r45 : Nat → Nat → Int32 → Int32 → Int32 → Nat → Int32 → Int32 → am_M → Option (Int32 × am_M)) (l0 : Nat) (l1 : Nat) (l2 : Int32) (l3 : Int32) (l4 : Int32) (l5 : Nat) (l6 : Int32) (l7 : Int32) (I : am_M) : Option (Int32 × am_M) :=
  sm_ck (am_t l5 = 4) <|
  sm_ck (sm_in (P l5 2) l2) <|
  if (I (P l5 2) l2.toNatClampNeg) ≤ l7 then
    (e45_159 l0 I)
  else
    (sm_ck (sm_in (P l5 0) l7) <|
    sm_bd (I (P l5 0) l7.toNatClampNeg) fun x12 =>
    if 110 ≤ x12 then
      (if l6 ≤ 1 then
        (fK_work_J153 P r45 l0 l1 l2 l3 l4 l5 l6 l7 I)
      else
        (sm_bd (l6 + (-1)) fun x16 =>
        sm_ck (am_t l0 = 6) <|
        sm_ck (sm_in (P l0 0) (x16 - 1)) <|
        sm_ck (sm_in (P l0 0) x16) <|
        Option.bind (fK_joined x12 (I (P l0 0) (x16 - 1).toNatClampNeg) (I (P l0 0) x16.toNatClampNeg)) fun y20 =>
        Option.bind (fX_restBy y20 l4) fun y21 =>
        sm_ck (sm_iw (P l0 0) (x16 - 1)) <|
        sm_bd (am_up I (P l0 0) (x16 - 1).toNatClampNeg y21) fun I23 =>
        fK_work_J153 P r45 l0 l1 l2 l3 l4 l5 x16 l7 I23))
    else
      (sm_ck (am_t l0 = 6) <|
      sm_ck (20 ≤ am_t (P l0 0) ∧ am_t (P l0 0) < 26) <|
      if (Int32.ofNat (am_n (P l0 0))) ≤ l6 then
        (fK_work_J153 P r45 l0 l1 l2 l3 l4 l5 l6 l7 I)
      else
        (sm_ck (am_t l1 = 1) <|
        Option.bind (fK_valueOf I P x12 l1 l3) fun y28 =>
        Option.bind (fX_restBy y28 l4) fun y29 =>
        sm_ck (sm_iw (P l0 0) l6) <|
        sm_bd (am_up I (P l0 0) l6.toNatClampNeg y29) fun I31 =>
        sm_bd (l6 + 1) fun x32 =>
        fK_work_J153 P r45 l0 l1 l2 l3 l4 l5 x32 l7 I31)))
set_option maxRecDepth 100000 in
theorem AfK_work_B45 {dp : Nat} {P : am_Q} {nx : Nat} {sl : Nat} {e45_159 : Nat → am_M → Option (Int32 × am_M)} {r45 : Nat → Nat → Int32 → Int32 → Int32 → Nat → Int32 → Int32 → am_M → Option (Int32 × am_M)} (he45_159 : ∀ (l0 : Nat) (I : am_M) (o1 : Option am_V) (o2 : Option am_V) (o3 : Option am_V) (o4 : Option am_V) (o5 : Option am_V) (o6 : Option am_V) (o7 : Option am_V) (o8 : Option am_V), sm (dp + 1) am_d27 159 [some (.inr l0), o1, o2, o3, o4, o5, o6, o7, o8] [] (I, P, nx, sl) (sm_g1 P nx sl) (e45_159 l0 I)) (hr45 : ∀ (l0 : Nat) (l1 : Nat) (l2 : Int32) (l3 : Int32) (l4 : Int32) (l5 : Nat) (l6 : Int32) (l7 : Int32) (I : am_M) (o8 : Option am_V), sm (dp + 1) am_d27 45 [some (.inr l0), some (.inr l1), some (.inl l2), some (.inl l3), some (.inl l4), some (.inr l5), some (.inl l6), some (.inl l7), o8] [] (I, P, nx, sl) (sm_g1 P nx sl) (r45 l0 l1 l2 l3 l4 l5 l6 l7 I)) (l0 : Nat) (l1 : Nat) (l2 : Int32) (l3 : Int32) (l4 : Int32) (l5 : Nat) (l6 : Int32) (l7 : Int32) (I : am_M) (o8 : Option am_V) : sm (dp + 1) am_d27 45 [some (.inr l0), some (.inr l1), some (.inl l2), some (.inl l3), some (.inl l4), some (.inr l5), some (.inl l6), some (.inl l7), o8] [] (I, P, nx, sl) (sm_g1 P nx sl) (fK_work_B45 P e45_159 r45 l0 l1 l2 l3 l4 l5 l6 l7 I) := by
  unfold fK_work_B45
  refine r_iload rfl rfl ?_
  refine r_ck (fun h8 => ?_)
  refine r_aload rfl rfl (am_nz h8) ?_
  refine r_getP rfl h8 ?_
  refine r_iload rfl rfl ?_
  refine r_ck (fun h9 => ?_)
  refine r_iald rfl h9 ?_
  refine r_icmp rfl rfl (fun c10 => ?_) (fun c10 => ?_)
  · exact he45_159 l0 I (some (.inr l1)) (some (.inl l2)) (some (.inl l3)) (some (.inl l4)) (some (.inr l5)) (some (.inl l6)) (some (.inl l7)) o8
  · refine r_aload rfl rfl (am_nz h8) ?_
    refine r_getP rfl h8 ?_
    refine r_iload rfl rfl ?_
    refine r_ck (fun h11 => ?_)
    refine r_iald rfl h11 ?_
    refine r_bd (fun x12 => ?_)
    refine r_istore (ls' := [some (.inr l0), some (.inr l1), some (.inl l2), some (.inl l3), some (.inl l4), some (.inr l5), some (.inl l6), some (.inl l7), some (.inl x12)]) rfl (Nat.le_of_ble_eq_true rfl) rfl ?_
    refine r_iload rfl rfl ?_
    refine r_const (x := 110) rfl rfl ?_
    refine r_icmp rfl rfl (fun c13 => ?_) (fun c13 => ?_)
    · refine r_iload rfl rfl ?_
      refine r_const (x := 1) rfl rfl ?_
      refine r_icmp rfl rfl (fun c14 => ?_) (fun c14 => ?_)
      · exact AfK_work_J153 hr45 l0 l1 l2 l3 l4 l5 l6 l7 I (some (.inl x12))
      · refine r_iinc (e := l6 + (-1)) (ls' := fun x16 => [some (.inr l0), some (.inr l1), some (.inl l2), some (.inl l3), some (.inl l4), some (.inr l5), some (.inl x16), some (.inl l7), some (.inl x12)]) rfl rfl rfl (fun _ => rfl) (fun x16 => ?_)
        refine r_ck (fun h17 => ?_)
        refine r_aload rfl rfl (am_nz h17) ?_
        refine r_getP rfl h17 ?_
        refine r_iload rfl rfl ?_
        refine r_const (x := 1) rfl rfl ?_
        refine r_bin (z := x16 - 1) rfl rfl (by decide) ?_
        refine r_iload rfl rfl ?_
        refine r_aload rfl rfl (am_nz h17) ?_
        refine r_getP rfl h17 ?_
        refine r_iload rfl rfl ?_
        refine r_const (x := 1) rfl rfl ?_
        refine r_bin (z := x16 - 1) rfl rfl (by decide) ?_
        refine r_ck (fun h18 => ?_)
        refine r_iald rfl h18 ?_
        refine r_aload rfl rfl (am_nz h17) ?_
        refine r_getP rfl h17 ?_
        refine r_iload rfl rfl ?_
        refine r_ck (fun h19 => ?_)
        refine r_iald rfl h19 ?_
        refine r_call0 rfl rfl trivial (fun y hy => AfK_joined (dp := dp + 0) hy) (fun y20 => ?_)
        refine r_iload rfl rfl ?_
        refine r_call0 rfl rfl trivial (fun y hy => AfX_restBy (dp := dp + 0) hy) (fun y21 => ?_)
        refine r_ck (fun h22 => ?_)
        refine r_iast rfl h22 (fun I23 => ?_)
        exact AfK_work_J153 hr45 l0 l1 l2 l3 l4 l5 x16 l7 I23 (some (.inl x12))
    · refine r_iload rfl rfl ?_
      refine r_ck (fun h24 => ?_)
      refine r_aload rfl rfl (am_nz h24) ?_
      refine r_getP rfl h24 ?_
      refine r_ck (fun h25 => ?_)
      refine r_alen rfl h25 ?_
      refine r_icmp rfl rfl (fun c26 => ?_) (fun c26 => ?_)
      · exact AfK_work_J153 hr45 l0 l1 l2 l3 l4 l5 l6 l7 I (some (.inl x12))
      · refine r_aload rfl rfl (am_nz h24) ?_
        refine r_getP rfl h24 ?_
        refine r_iload rfl rfl ?_
        refine r_iload rfl rfl ?_
        refine r_ck (fun h27 => ?_)
        refine r_aload rfl rfl (am_nz h27) ?_
        refine r_iload rfl rfl ?_
        refine r_call0 rfl rfl trivial (fun y hy => AfK_valueOf (dp := dp + 0) hy) (fun y28 => ?_)
        refine r_iload rfl rfl ?_
        refine r_call0 rfl rfl trivial (fun y hy => AfX_restBy (dp := dp + 0) hy) (fun y29 => ?_)
        refine r_ck (fun h30 => ?_)
        refine r_iast rfl h30 (fun I31 => ?_)
        refine r_iinc (e := l6 + 1) (ls' := fun x32 => [some (.inr l0), some (.inr l1), some (.inl l2), some (.inl l3), some (.inl l4), some (.inr l5), some (.inl x32), some (.inl l7), some (.inl x12)]) rfl rfl rfl (fun _ => rfl) (fun x32 => ?_)
        refine r_goto rfl ?_
        exact AfK_work_J153 hr45 l0 l1 l2 l3 l4 l5 x32 l7 I31 (some (.inl x12))
noncomputable def fK_work_L45 (P : am_Q) (e45_159 : Nat → am_M → Option (Int32 × am_M)) : Nat → Nat → Nat → Int32 → Int32 → Int32 → Nat → Int32 → Int32 → am_M → Option (Int32 × am_M)
  | 0, _, _, _, _, _, _, _, _, _ => none
  | n + 1, l0, l1, l2, l3, l4, l5, l6, l7, I => fK_work_B45 P e45_159 (fK_work_L45 P e45_159 n) l0 l1 l2 l3 l4 l5 l6 l7 I
theorem AfK_work_L45 {dp : Nat} {P : am_Q} {nx : Nat} {sl : Nat} {e45_159 : Nat → am_M → Option (Int32 × am_M)} (he45_159 : ∀ (l0 : Nat) (I : am_M) (o1 : Option am_V) (o2 : Option am_V) (o3 : Option am_V) (o4 : Option am_V) (o5 : Option am_V) (o6 : Option am_V) (o7 : Option am_V) (o8 : Option am_V), sm (dp + 1) am_d27 159 [some (.inr l0), o1, o2, o3, o4, o5, o6, o7, o8] [] (I, P, nx, sl) (sm_g1 P nx sl) (e45_159 l0 I)) (n : Nat) : ∀ (l0 : Nat) (l1 : Nat) (l2 : Int32) (l3 : Int32) (l4 : Int32) (l5 : Nat) (l6 : Int32) (l7 : Int32) (I : am_M) (o8 : Option am_V), sm (dp + 1) am_d27 45 [some (.inr l0), some (.inr l1), some (.inl l2), some (.inl l3), some (.inl l4), some (.inr l5), some (.inl l6), some (.inl l7), o8] [] (I, P, nx, sl) (sm_g1 P nx sl) (fK_work_L45 P e45_159 n l0 l1 l2 l3 l4 l5 l6 l7 I) := by
  induction n with
  | zero => intro l0 l1 l2 l3 l4 l5 l6 l7 I o8; exact sm_none
  | succ n ih => intro l0 l1 l2 l3 l4 l5 l6 l7 I o8; exact AfK_work_B45 he45_159 ih l0 l1 l2 l3 l4 l5 l6 l7 I o8
noncomputable def fK_work (P : am_Q) (l0 : Nat) (l1 : Nat) (l2 : Int32) (l3 : Int32) (l4 : Int32) (I : am_M) : Option (Int32 × am_M) :=
  sm_ck (am_t l1 = 1) <|
  sm_bd (P l1 10) fun a2 =>
  sm_ck (am_t a2 = 4) <|
  Option.bind (fL_has I P a2 l2) fun y4 =>
  if ¬ y4 = 0 then
    (sm_ck (sm_in (P a2 1) l2) <|
    sm_bd (I (P a2 1) l2.toNatClampNeg) fun x7 =>
    fK_work_L45 P (fun l0 I =>
        sm_ck (am_t l0 = 6) <|
        sm_ck (sm_in (P l0 0) 0) <|
        some (I (P l0 0) (0 : Int32).toNatClampNeg, I)) sm_fu l0 l1 l2 l3 l4 a2 0 x7 I)
  else
    (if ¬ (l2 &&& 1) = 0 then
      (some (I l1 2, I))
    else
      (some (I l1 1, I)))
set_option maxRecDepth 100000 in
theorem AfK_work {dp : Nat} {P : am_Q} {nx : Nat} {sl : Nat} {I : am_M} {l0 : Nat} {l1 : Nat} {l2 : Int32} {l3 : Int32} {l4 : Int32} {y : Int32 × am_M} (hy : fK_work P l0 l1 l2 l3 l4 I = some y) : sm_T (dp + 2) 27 [.inr l0, .inr l1, .inl l2, .inl l3, .inl l4] (I, P, nx, sl) ((sm_g1 P nx sl) y) := by
  refine r_meth (d := am_d27) (dp := dp + 1) (ls0 := [some (.inr l0), some (.inr l1), some (.inl l2), some (.inl l3), some (.inl l4), none, none, none, none]) rfl (by decide) rfl rfl ?_ hy
  unfold fK_work
  refine r_ck (fun h1 => ?_)
  refine r_aload rfl rfl (am_nz h1) ?_
  refine r_getP rfl h1 ?_
  refine r_bdA (fun a2 => ?_)
  refine r_ck (fun h3 => ?_)
  refine r_astore (ls' := [some (.inr l0), some (.inr l1), some (.inl l2), some (.inl l3), some (.inl l4), some (.inr a2), none, none, none]) rfl (Nat.le_of_ble_eq_true rfl) (am_nz h3) rfl ?_
  refine r_aload rfl rfl (am_nz h3) ?_
  refine r_iload rfl rfl ?_
  refine r_call0 rfl rfl h3 (fun y hy => AfL_has (dp := dp + 0) hy) (fun y4 => ?_)
  refine r_if rfl rfl (fun c5 => ?_) (fun c5 => ?_)
  · refine r_const (x := 0) rfl rfl ?_
    refine r_istore (ls' := [some (.inr l0), some (.inr l1), some (.inl l2), some (.inl l3), some (.inl l4), some (.inr a2), some (.inl 0), none, none]) rfl (Nat.le_of_ble_eq_true rfl) rfl ?_
    refine r_aload rfl rfl (am_nz h3) ?_
    refine r_getP rfl h3 ?_
    refine r_iload rfl rfl ?_
    refine r_ck (fun h6 => ?_)
    refine r_iald rfl h6 ?_
    refine r_bd (fun x7 => ?_)
    refine r_istore (ls' := [some (.inr l0), some (.inr l1), some (.inl l2), some (.inl l3), some (.inl l4), some (.inr a2), some (.inl 0), some (.inl x7), none]) rfl (Nat.le_of_ble_eq_true rfl) rfl ?_
    refine AfK_work_L45 ?_ sm_fu l0 l1 l2 l3 l4 a2 0 x7 I none
    · intro l0 I o1 o2 o3 o4 o5 o6 o7 o8
      refine r_ck (fun h33 => ?_)
      refine r_aload rfl rfl (am_nz h33) ?_
      refine r_getP rfl h33 ?_
      refine r_const (x := 0) rfl rfl ?_
      refine r_ck (fun h34 => ?_)
      refine r_iald rfl h34 ?_
      exact r_ireturn rfl (Or.inl rfl) rfl
  · refine r_iload rfl rfl ?_
    refine r_const (x := 1) rfl rfl ?_
    refine r_bin (z := l2 &&& 1) rfl rfl (by decide) ?_
    refine r_if rfl rfl (fun c35 => ?_) (fun c35 => ?_)
    · refine r_aload rfl rfl (am_nz h1) ?_
      refine r_getI rfl h1 ?_
      exact r_ireturn rfl (Or.inl rfl) rfl
    · refine r_aload rfl rfl (am_nz h1) ?_
      refine r_getI rfl h1 ?_
      refine r_goto rfl ?_
      exact r_ireturn rfl (Or.inl rfl) rfl
noncomputable def fL_counting_J20 (I : am_M) (P : am_Q) (r4 : Nat → Int32 → Int32 → Option (Int32)) (l0 : Nat) (l1 : Int32) (l2 : Int32) : Option (Int32) :=
  sm_bd (l2 + 1) fun x5 =>
  r4 l0 l1 x5
set_option maxRecDepth 100000 in
theorem AfL_counting_J20 {dp : Nat} {I : am_M} {P : am_Q} {nx : Nat} {sl : Nat} {r4 : Nat → Int32 → Int32 → Option (Int32)} (hr4 : ∀ (l0 : Nat) (l1 : Int32) (l2 : Int32), sm (dp + 1) am_d32 4 [some (.inr l0), some (.inl l1), some (.inl l2)] [] (I, P, nx, sl) (sm_g0 (I, P, nx, sl)) (r4 l0 l1 l2)) (l0 : Nat) (l1 : Int32) (l2 : Int32) : sm (dp + 1) am_d32 20 [some (.inr l0), some (.inl l1), some (.inl l2)] [] (I, P, nx, sl) (sm_g0 (I, P, nx, sl)) (fL_counting_J20 I P r4 l0 l1 l2) := by
  unfold fL_counting_J20
  refine r_iinc (e := l2 + 1) (ls' := fun x5 => [some (.inr l0), some (.inl l1), some (.inl x5)]) rfl rfl rfl (fun _ => rfl) (fun x5 => ?_)
  refine r_goto rfl ?_
  exact hr4 l0 l1 x5
noncomputable def fL_counting_B4 (I : am_M) (P : am_Q) (e4_26 : Int32 → Option (Int32)) (r4 : Nat → Int32 → Int32 → Option (Int32)) (l0 : Nat) (l1 : Int32) (l2 : Int32) : Option (Int32) :=
  if 4 ≤ l2 then
    (e4_26 l1)
  else
    (sm_ck (am_t l0 = 4) <|
    Option.bind (fL_has I P l0 l2) fun y3 =>
    if y3 = 0 then
      (fL_counting_J20 I P r4 l0 l1 l2)
    else
      (sm_bd (l1 + 1) fun x6 =>
      fL_counting_J20 I P r4 l0 x6 l2))
set_option maxRecDepth 100000 in
theorem AfL_counting_B4 {dp : Nat} {I : am_M} {P : am_Q} {nx : Nat} {sl : Nat} {e4_26 : Int32 → Option (Int32)} {r4 : Nat → Int32 → Int32 → Option (Int32)} (he4_26 : ∀ (l1 : Int32) (o0 : Option am_V) (o2 : Option am_V), sm (dp + 1) am_d32 26 [o0, some (.inl l1), o2] [] (I, P, nx, sl) (sm_g0 (I, P, nx, sl)) (e4_26 l1)) (hr4 : ∀ (l0 : Nat) (l1 : Int32) (l2 : Int32), sm (dp + 1) am_d32 4 [some (.inr l0), some (.inl l1), some (.inl l2)] [] (I, P, nx, sl) (sm_g0 (I, P, nx, sl)) (r4 l0 l1 l2)) (l0 : Nat) (l1 : Int32) (l2 : Int32) : sm (dp + 1) am_d32 4 [some (.inr l0), some (.inl l1), some (.inl l2)] [] (I, P, nx, sl) (sm_g0 (I, P, nx, sl)) (fL_counting_B4 I P e4_26 r4 l0 l1 l2) := by
  unfold fL_counting_B4
  refine r_iload rfl rfl ?_
  refine r_const (x := 4) rfl rfl ?_
  refine r_icmp rfl rfl (fun c1 => ?_) (fun c1 => ?_)
  · exact he4_26 l1 (some (.inr l0)) (some (.inl l2))
  · refine r_ck (fun h2 => ?_)
    refine r_aload rfl rfl (am_nz h2) ?_
    refine r_iload rfl rfl ?_
    refine r_call0 rfl rfl h2 (fun y hy => AfL_has (dp := dp + 0) hy) (fun y3 => ?_)
    refine r_if rfl rfl (fun c4 => ?_) (fun c4 => ?_)
    · exact AfL_counting_J20 hr4 l0 l1 l2
    · refine r_iinc (e := l1 + 1) (ls' := fun x6 => [some (.inr l0), some (.inl x6), some (.inl l2)]) rfl rfl rfl (fun _ => rfl) (fun x6 => ?_)
      exact AfL_counting_J20 hr4 l0 x6 l2
noncomputable def fL_counting_L4 (I : am_M) (P : am_Q) (e4_26 : Int32 → Option (Int32)) : Nat → Nat → Int32 → Int32 → Option (Int32)
  | 0, _, _, _ => none
  | n + 1, l0, l1, l2 => fL_counting_B4 I P e4_26 (fL_counting_L4 I P e4_26 n) l0 l1 l2
theorem AfL_counting_L4 {dp : Nat} {I : am_M} {P : am_Q} {nx : Nat} {sl : Nat} {e4_26 : Int32 → Option (Int32)} (he4_26 : ∀ (l1 : Int32) (o0 : Option am_V) (o2 : Option am_V), sm (dp + 1) am_d32 26 [o0, some (.inl l1), o2] [] (I, P, nx, sl) (sm_g0 (I, P, nx, sl)) (e4_26 l1)) (n : Nat) : ∀ (l0 : Nat) (l1 : Int32) (l2 : Int32), sm (dp + 1) am_d32 4 [some (.inr l0), some (.inl l1), some (.inl l2)] [] (I, P, nx, sl) (sm_g0 (I, P, nx, sl)) (fL_counting_L4 I P e4_26 n l0 l1 l2) := by
  induction n with
  | zero => intro l0 l1 l2; exact sm_none
  | succ n ih => intro l0 l1 l2; exact AfL_counting_B4 he4_26 ih l0 l1 l2
noncomputable def fL_counting (I : am_M) (P : am_Q) (l0 : Nat) : Option (Int32) :=
  fL_counting_L4 I P (fun l1 =>
      some l1) sm_fu l0 0 0
set_option maxRecDepth 100000 in
theorem AfL_counting {dp : Nat} {I : am_M} {P : am_Q} {nx : Nat} {sl : Nat} {l0 : Nat} {y : Int32} (hy : fL_counting I P l0 = some y) : sm_T (dp + 2) 32 [.inr l0] (I, P, nx, sl) ((sm_g0 (I, P, nx, sl)) y) := by
  refine r_meth (d := am_d32) (dp := dp + 1) (ls0 := [some (.inr l0), none, none]) rfl (by decide) rfl rfl ?_ hy
  unfold fL_counting
  refine r_const (x := 0) rfl rfl ?_
  refine r_istore (ls' := [some (.inr l0), some (.inl 0), none]) rfl (Nat.le_of_ble_eq_true rfl) rfl ?_
  refine r_const (x := 0) rfl rfl ?_
  refine r_istore (ls' := [some (.inr l0), some (.inl 0), some (.inl 0)]) rfl (Nat.le_of_ble_eq_true rfl) rfl ?_
  refine AfL_counting_L4 ?_ sm_fu l0 0 0
  · intro l1 o0 o2
    refine r_iload rfl rfl ?_
    exact r_ireturn rfl (Or.inl rfl) rfl
noncomputable def fX_of (P : am_Q) (l0 : Nat) (l1 : Int32) (l2 : Int32) (I : am_M) : Option (Int32 × am_M) :=
  sm_ck (am_t l0 = 12) <|
  sm_ck (am_t (P l0 0) = 11) <|
  Option.bind (fW_hasBox I P (P l0 0) l1) fun y3 =>
  if ¬ y3 = 0 then
    (sm_ck (sm_ia (P (P l0 0) 9) l1) <|
    sm_bd (P (P (P l0 0) 9) l1.toNatClampNeg) fun a6 =>
    sm_ck (am_t a6 = 1) <|
    if l2 = 0 then
      (some (I a6 0, I))
    else if l2 = 1 then
      (some (I a6 1, I))
    else if l2 = 2 then
      (some (I a6 2, I))
    else if l2 = 3 then
      (some (I a6 3, I))
    else if l2 = 4 then
      (some (I a6 4, I))
    else if l2 = 5 then
      (sm_ck (am_t (P l0 9) = 6) <|
      Option.bind (fK_work P (P l0 9) a6 2 (I (P l0 0) 1) (I (P l0 0) 0) I) fun y15 =>
      some (y15.1, y15.2))
    else if l2 = 6 then
      (sm_ck (am_t (P l0 9) = 6) <|
      Option.bind (fK_work P (P l0 9) a6 3 (I (P l0 0) 1) (I (P l0 0) 0) I) fun y18 =>
      some (y18.1, y18.2))
    else if l2 = 7 then
      (sm_ck (am_t (P a6 10) = 4) <|
      Option.bind (fL_counting I P (P a6 10)) fun y21 =>
      some (y21, I))
    else if l2 = 8 then
      (some (I a6 6, I))
    else if l2 = 9 then
      (Option.bind (fX_isUnder I P (I a6 0) 2) fun y24 =>
      if y24 = 0 then
        (Option.bind (fX_found P l0 ((-1000003)) I) fun y26 =>
        some (y26.1, y26.2))
      else
        (some (I a6 5, I)))
    else (
      Option.bind (fX_found P l0 ((-1000001)) I) fun y27 =>
      some (y27.1, y27.2)))
  else
    (Option.bind (fX_found P l0 ((-1000001)) I) fun y28 =>
    some (y28.1, y28.2))
set_option maxRecDepth 100000 in
theorem AfX_of {dp : Nat} {P : am_Q} {nx : Nat} {sl : Nat} {I : am_M} {l0 : Nat} {l1 : Int32} {l2 : Int32} {y : Int32 × am_M} (hy : fX_of P l0 l1 l2 I = some y) : sm_T (dp + 3) 26 [.inr l0, .inl l1, .inl l2] (I, P, nx, sl) ((sm_g1 P nx sl) y) := by
  refine r_meth (d := am_d26) (dp := dp + 2) (ls0 := [some (.inr l0), some (.inl l1), some (.inl l2), none]) rfl (by decide) rfl rfl ?_ hy
  unfold fX_of
  refine r_ck (fun h1 => ?_)
  refine r_aload rfl rfl (am_nz h1) ?_
  refine r_getP rfl h1 ?_
  refine r_iload rfl rfl ?_
  refine r_ck (fun h2 => ?_)
  refine r_call0 rfl rfl h2 (fun y hy => AfW_hasBox (dp := dp + 1) hy) (fun y3 => ?_)
  refine r_if rfl rfl (fun c4 => ?_) (fun c4 => ?_)
  · refine r_aload rfl rfl (am_nz h1) ?_
    refine r_getP rfl h1 ?_
    refine r_getP rfl h2 ?_
    refine r_iload rfl rfl ?_
    refine r_ck (fun h5 => ?_)
    refine r_aald rfl h5 ?_
    refine r_bdA (fun a6 => ?_)
    refine r_ck (fun h7 => ?_)
    refine r_astore (ls' := [some (.inr l0), some (.inl l1), some (.inl l2), some (.inr a6)]) rfl (Nat.le_of_ble_eq_true rfl) (am_nz h7) rfl ?_
    refine r_iload rfl rfl ?_
    refine r_ite (fun c8 => ?_) (fun c8 => ?_)
    · refine r_tabE (t := 84) rfl c8 (by decide) ?_
      refine r_aload rfl rfl (am_nz h7) ?_
      refine r_getI rfl h7 ?_
      exact r_ireturn rfl (Or.inl rfl) rfl
    refine r_ite (fun c9 => ?_) (fun c9 => ?_)
    · refine r_tabE (t := 89) rfl c9 (by decide) ?_
      refine r_aload rfl rfl (am_nz h7) ?_
      refine r_getI rfl h7 ?_
      exact r_ireturn rfl (Or.inl rfl) rfl
    refine r_ite (fun c10 => ?_) (fun c10 => ?_)
    · refine r_tabE (t := 94) rfl c10 (by decide) ?_
      refine r_aload rfl rfl (am_nz h7) ?_
      refine r_getI rfl h7 ?_
      exact r_ireturn rfl (Or.inl rfl) rfl
    refine r_ite (fun c11 => ?_) (fun c11 => ?_)
    · refine r_tabE (t := 99) rfl c11 (by decide) ?_
      refine r_aload rfl rfl (am_nz h7) ?_
      refine r_getI rfl h7 ?_
      exact r_ireturn rfl (Or.inl rfl) rfl
    refine r_ite (fun c12 => ?_) (fun c12 => ?_)
    · refine r_tabE (t := 104) rfl c12 (by decide) ?_
      refine r_aload rfl rfl (am_nz h7) ?_
      refine r_getI rfl h7 ?_
      exact r_ireturn rfl (Or.inl rfl) rfl
    refine r_ite (fun c13 => ?_) (fun c13 => ?_)
    · refine r_tabE (t := 109) rfl c13 (by decide) ?_
      refine r_aload rfl rfl (am_nz h1) ?_
      refine r_getP rfl h1 ?_
      refine r_aload rfl rfl (am_nz h7) ?_
      refine r_const (x := 2) rfl rfl ?_
      refine r_aload rfl rfl (am_nz h1) ?_
      refine r_getP rfl h1 ?_
      refine r_getI rfl h2 ?_
      refine r_aload rfl rfl (am_nz h1) ?_
      refine r_getP rfl h1 ?_
      refine r_getI rfl h2 ?_
      refine r_ck (fun h14 => ?_)
      refine r_call1 rfl rfl h14 (fun y hy => AfK_work (dp := dp + 0) hy) (fun y15 => ?_)
      exact r_ireturn rfl (Or.inl rfl) rfl
    refine r_ite (fun c16 => ?_) (fun c16 => ?_)
    · refine r_tabE (t := 133) rfl c16 (by decide) ?_
      refine r_aload rfl rfl (am_nz h1) ?_
      refine r_getP rfl h1 ?_
      refine r_aload rfl rfl (am_nz h7) ?_
      refine r_const (x := 3) rfl rfl ?_
      refine r_aload rfl rfl (am_nz h1) ?_
      refine r_getP rfl h1 ?_
      refine r_getI rfl h2 ?_
      refine r_aload rfl rfl (am_nz h1) ?_
      refine r_getP rfl h1 ?_
      refine r_getI rfl h2 ?_
      refine r_ck (fun h17 => ?_)
      refine r_call1 rfl rfl h17 (fun y hy => AfK_work (dp := dp + 0) hy) (fun y18 => ?_)
      exact r_ireturn rfl (Or.inl rfl) rfl
    refine r_ite (fun c19 => ?_) (fun c19 => ?_)
    · refine r_tabE (t := 157) rfl c19 (by decide) ?_
      refine r_aload rfl rfl (am_nz h7) ?_
      refine r_getP rfl h7 ?_
      refine r_ck (fun h20 => ?_)
      refine r_call0 rfl rfl h20 (fun y hy => AfL_counting (dp := dp + 0) hy) (fun y21 => ?_)
      exact r_ireturn rfl (Or.inl rfl) rfl
    refine r_ite (fun c22 => ?_) (fun c22 => ?_)
    · refine r_tabE (t := 165) rfl c22 (by decide) ?_
      refine r_aload rfl rfl (am_nz h7) ?_
      refine r_getI rfl h7 ?_
      exact r_ireturn rfl (Or.inl rfl) rfl
    refine r_ite (fun c23 => ?_) (fun c23 => ?_)
    · refine r_tabE (t := 170) rfl c23 (by decide) ?_
      refine r_aload rfl rfl (am_nz h7) ?_
      refine r_getI rfl h7 ?_
      refine r_const (x := 2) rfl rfl ?_
      refine r_call0 rfl rfl trivial (fun y hy => AfX_isUnder (dp := dp + 0) hy) (fun y24 => ?_)
      refine r_if rfl rfl (fun c25 => ?_) (fun c25 => ?_)
      · refine r_aload rfl rfl (am_nz h1) ?_
        refine r_const (x := (-1000003)) rfl rfl ?_
        refine r_call1 rfl rfl h1 (fun y hy => AfX_found (dp := dp + 1) hy) (fun y26 => ?_)
        exact r_ireturn rfl (Or.inl rfl) rfl
      · refine r_aload rfl rfl (am_nz h7) ?_
        refine r_getI rfl h7 ?_
        refine r_goto rfl ?_
        exact r_ireturn rfl (Or.inl rfl) rfl
    refine r_tabD rfl ⟨c8, c9, c10, c11, c12, c13, c16, c19, c22, c23, trivial⟩ ?_
    refine r_aload rfl rfl (am_nz h1) ?_
    refine r_const (x := (-1000001)) rfl rfl ?_
    refine r_call1 rfl rfl h1 (fun y hy => AfX_found (dp := dp + 1) hy) (fun y27 => ?_)
    exact r_ireturn rfl (Or.inl rfl) rfl
  · refine r_aload rfl rfl (am_nz h1) ?_
    refine r_const (x := (-1000001)) rfl rfl ?_
    refine r_call1 rfl rfl h1 (fun y hy => AfX_found (dp := dp + 1) hy) (fun y28 => ?_)
    exact r_ireturn rfl (Or.inl rfl) rfl
noncomputable def fX_set (P : am_Q) (l0 : Nat) (l1 : Int32) (l2 : Int32) (I : am_M) : Option (Int32 × am_M) :=
  sm_ck (am_t l0 = 12) <|
  sm_ck (am_t (P l0 0) = 11) <|
  Option.bind (fW_hasBox I P (P l0 0) l1) fun y3 =>
  if y3 = 0 then
    (Option.bind (fX_found P l0 ((-1000001)) I) fun y5 =>
    some (y5.1, y5.2))
  else
    (Option.bind (fW_isPair I P (P l0 0) l2) fun y6 =>
    if ¬ y6 = 0 then
      (sm_ck (sm_ia (P (P l0 0) 9) l1) <|
      sm_bd (P (P (P l0 0) 9) l1.toNatClampNeg) fun a9 =>
      sm_ck (am_t a9 = 1) <|
      sm_bd ((100 * (I a9 1)) + (I a9 2)) fun x11 =>
      Option.bind (fB_tellStates P a9 l2 I) fun y12 =>
      some (x11, y12))
    else
      (Option.bind (fX_found P l0 ((-1000001)) I) fun y13 =>
      some (y13.1, y13.2)))
set_option maxRecDepth 100000 in
theorem AfX_set {dp : Nat} {P : am_Q} {nx : Nat} {sl : Nat} {I : am_M} {l0 : Nat} {l1 : Int32} {l2 : Int32} {y : Int32 × am_M} (hy : fX_set P l0 l1 l2 I = some y) : sm_T (dp + 3) 33 [.inr l0, .inl l1, .inl l2] (I, P, nx, sl) ((sm_g1 P nx sl) y) := by
  refine r_meth (d := am_d33) (dp := dp + 2) (ls0 := [some (.inr l0), some (.inl l1), some (.inl l2), none, none]) rfl (by decide) rfl rfl ?_ hy
  unfold fX_set
  refine r_ck (fun h1 => ?_)
  refine r_aload rfl rfl (am_nz h1) ?_
  refine r_getP rfl h1 ?_
  refine r_iload rfl rfl ?_
  refine r_ck (fun h2 => ?_)
  refine r_call0 rfl rfl h2 (fun y hy => AfW_hasBox (dp := dp + 1) hy) (fun y3 => ?_)
  refine r_if rfl rfl (fun c4 => ?_) (fun c4 => ?_)
  · refine r_aload rfl rfl (am_nz h1) ?_
    refine r_const (x := (-1000001)) rfl rfl ?_
    refine r_call1 rfl rfl h1 (fun y hy => AfX_found (dp := dp + 1) hy) (fun y5 => ?_)
    exact r_ireturn rfl (Or.inl rfl) rfl
  · refine r_aload rfl rfl (am_nz h1) ?_
    refine r_getP rfl h1 ?_
    refine r_iload rfl rfl ?_
    refine r_call0 rfl rfl h2 (fun y hy => AfW_isPair (dp := dp + 0) hy) (fun y6 => ?_)
    refine r_if rfl rfl (fun c7 => ?_) (fun c7 => ?_)
    · refine r_aload rfl rfl (am_nz h1) ?_
      refine r_getP rfl h1 ?_
      refine r_getP rfl h2 ?_
      refine r_iload rfl rfl ?_
      refine r_ck (fun h8 => ?_)
      refine r_aald rfl h8 ?_
      refine r_bdA (fun a9 => ?_)
      refine r_ck (fun h10 => ?_)
      refine r_astore (ls' := [some (.inr l0), some (.inl l1), some (.inl l2), some (.inr a9), none]) rfl (Nat.le_of_ble_eq_true rfl) (am_nz h10) rfl ?_
      refine r_const (x := 100) rfl rfl ?_
      refine r_aload rfl rfl (am_nz h10) ?_
      refine r_getI rfl h10 ?_
      refine r_bin (z := 100 * (I a9 1)) rfl rfl (by decide) ?_
      refine r_aload rfl rfl (am_nz h10) ?_
      refine r_getI rfl h10 ?_
      refine r_bin (z := (100 * (I a9 1)) + (I a9 2)) rfl rfl (by decide) ?_
      refine r_bd (fun x11 => ?_)
      refine r_istore (ls' := [some (.inr l0), some (.inl l1), some (.inl l2), some (.inr a9), some (.inl x11)]) rfl (Nat.le_of_ble_eq_true rfl) rfl ?_
      refine r_aload rfl rfl (am_nz h10) ?_
      refine r_iload rfl rfl ?_
      refine r_call2 rfl rfl h10 (fun y hy => AfB_tellStates (dp := dp + 1) hy) (fun y12 => ?_)
      refine r_iload rfl rfl ?_
      exact r_ireturn rfl (Or.inl rfl) rfl
    · refine r_aload rfl rfl (am_nz h1) ?_
      refine r_const (x := (-1000001)) rfl rfl ?_
      refine r_call1 rfl rfl h1 (fun y hy => AfX_found (dp := dp + 1) hy) (fun y13 => ?_)
      exact r_ireturn rfl (Or.inl rfl) rfl
noncomputable def fX_isDoor (l0 : Int32) : Option (Int32) :=
  if l0 < 0 then
    (some 0)
  else
    (if 2 ≤ l0 then
      (some 0)
    else
      (some 1))
set_option maxRecDepth 100000 in
theorem AfX_isDoor {dp : Nat} {S : am_S} {l0 : Int32} {y : Int32} (hy : fX_isDoor l0 = some y) : sm_T (dp + 1) 35 [.inl l0] S ((sm_g0 S) y) := by
  refine r_meth (d := am_d35) (dp := dp + 0) (ls0 := [some (.inl l0)]) rfl (by decide) rfl rfl ?_ hy
  unfold fX_isDoor
  refine r_iload rfl rfl ?_
  refine r_if rfl rfl (fun c1 => ?_) (fun c1 => ?_)
  · refine r_const (x := 0) rfl rfl ?_
    exact r_ireturn rfl (Or.inr ⟨rfl, sm_010⟩) rfl
  · refine r_iload rfl rfl ?_
    refine r_const (x := 2) rfl rfl ?_
    refine r_icmp rfl rfl (fun c2 => ?_) (fun c2 => ?_)
    · refine r_const (x := 0) rfl rfl ?_
      exact r_ireturn rfl (Or.inr ⟨rfl, sm_010⟩) rfl
    · refine r_const (x := 1) rfl rfl ?_
      refine r_goto rfl ?_
      exact r_ireturn rfl (Or.inr ⟨rfl, sm_011⟩) rfl
noncomputable def fW_seamInto (I : am_M) (P : am_Q) (l0 : Nat) (l1 : Int32) (l2 : Int32) : Option (Int32) :=
  sm_ck (am_t l0 = 11) <|
  Option.bind (fW_hasBox I P l0 l1) fun y2 =>
  if y2 = 0 then
    (some ((-1)))
  else
    (Option.bind (fX_isDoor l2) fun y4 =>
    if y4 = 0 then
      (some ((-1)))
    else
      (sm_ck (sm_in (P l0 12) ((2 * l1) + l2)) <|
      some (I (P l0 12) ((2 * l1) + l2).toNatClampNeg)))
set_option maxRecDepth 100000 in
theorem AfW_seamInto {dp : Nat} {I : am_M} {P : am_Q} {nx : Nat} {sl : Nat} {l0 : Nat} {l1 : Int32} {l2 : Int32} {y : Int32} (hy : fW_seamInto I P l0 l1 l2 = some y) : sm_T (dp + 2) 36 [.inr l0, .inl l1, .inl l2] (I, P, nx, sl) ((sm_g0 (I, P, nx, sl)) y) := by
  refine r_meth (d := am_d36) (dp := dp + 1) (ls0 := [some (.inr l0), some (.inl l1), some (.inl l2)]) rfl (by decide) rfl rfl ?_ hy
  unfold fW_seamInto
  refine r_ck (fun h1 => ?_)
  refine r_aload rfl rfl (am_nz h1) ?_
  refine r_iload rfl rfl ?_
  refine r_call0 rfl rfl h1 (fun y hy => AfW_hasBox (dp := dp + 0) hy) (fun y2 => ?_)
  refine r_if rfl rfl (fun c3 => ?_) (fun c3 => ?_)
  · refine r_const (x := (-1)) rfl rfl ?_
    exact r_ireturn rfl (Or.inl rfl) rfl
  · refine r_iload rfl rfl ?_
    refine r_call0 rfl rfl trivial (fun y hy => AfX_isDoor (dp := dp + 0) hy) (fun y4 => ?_)
    refine r_if rfl rfl (fun c5 => ?_) (fun c5 => ?_)
    · refine r_const (x := (-1)) rfl rfl ?_
      exact r_ireturn rfl (Or.inl rfl) rfl
    · refine r_aload rfl rfl (am_nz h1) ?_
      refine r_getP rfl h1 ?_
      refine r_const (x := 2) rfl rfl ?_
      refine r_iload rfl rfl ?_
      refine r_bin (z := 2 * l1) rfl rfl (by decide) ?_
      refine r_iload rfl rfl ?_
      refine r_bin (z := (2 * l1) + l2) rfl rfl (by decide) ?_
      refine r_ck (fun h6 => ?_)
      refine r_iald rfl h6 ?_
      refine r_goto rfl ?_
      exact r_ireturn rfl (Or.inl rfl) rfl
noncomputable def fB_tellIn (P : am_Q) (l0 : Nat) (l1 : Int32) (l2 : Int32) (I : am_M) : Option (am_M) :=
  if ¬ l1 = 0 then
    (sm_ck (am_t l0 = 1) <|
    sm_bd (am_up I l0 4 l2) fun I3 =>
    some I3)
  else
    (sm_ck (am_t l0 = 1) <|
    sm_bd (am_up I l0 3 l2) fun I5 =>
    some I5)
set_option maxRecDepth 100000 in
theorem AfB_tellIn {dp : Nat} {P : am_Q} {nx : Nat} {sl : Nat} {I : am_M} {l0 : Nat} {l1 : Int32} {l2 : Int32} {y : am_M} (hy : fB_tellIn P l0 l1 l2 I = some y) : sm_T (dp + 1) 37 [.inr l0, .inl l1, .inl l2] (I, P, nx, sl) ((sm_g2 P nx sl) y) := by
  refine r_meth (d := am_d37) (dp := dp + 0) (ls0 := [some (.inr l0), some (.inl l1), some (.inl l2)]) rfl (by decide) rfl rfl ?_ hy
  unfold fB_tellIn
  refine r_iload rfl rfl ?_
  refine r_if rfl rfl (fun c1 => ?_) (fun c1 => ?_)
  · refine r_ck (fun h2 => ?_)
    refine r_aload rfl rfl (am_nz h2) ?_
    refine r_iload rfl rfl ?_
    refine r_putI rfl h2 (fun hz => absurd hz (by decide)) (fun I3 => ?_)
    exact r_return rfl rfl
  · refine r_ck (fun h4 => ?_)
    refine r_aload rfl rfl (am_nz h4) ?_
    refine r_iload rfl rfl ?_
    refine r_putI rfl h4 (fun hz => absurd hz (by decide)) (fun I5 => ?_)
    refine r_goto rfl ?_
    exact r_return rfl rfl
noncomputable def fX_in (P : am_Q) (l0 : Nat) (l1 : Int32) (l2 : Int32) (l3 : Int32) (I : am_M) : Option (Int32 × am_M) :=
  sm_ck (am_t l0 = 12) <|
  sm_ck (am_t (P l0 0) = 11) <|
  Option.bind (fW_hasBox I P (P l0 0) l1) fun y3 =>
  if y3 = 0 then
    (Option.bind (fX_found P l0 ((-1000001)) I) fun y5 =>
    some (y5.1, y5.2))
  else
    (Option.bind (fX_isDoor l2) fun y6 =>
    if y6 = 0 then
      (Option.bind (fX_found P l0 ((-1000001)) I) fun y8 =>
      some (y8.1, y8.2))
    else
      (Option.bind (fW_isNumber I P (P l0 0) l3) fun y9 =>
      if ¬ y9 = 0 then
        (Option.bind (fW_seamInto I P (P l0 0) l1 l2) fun y11 =>
        if y11 < 0 then
          (sm_ck (sm_ia (P (P l0 0) 9) l1) <|
          sm_bd (P (P (P l0 0) 9) l1.toNatClampNeg) fun a14 =>
          sm_ck (am_t a14 = 1) <|
          if ¬ l2 = 0 then
            (sm_bd (I a14 4) fun x17 =>
            Option.bind (fB_tellIn P a14 l2 l3 I) fun y18 =>
            some (x17, y18))
          else
            (sm_bd (I a14 3) fun x19 =>
            Option.bind (fB_tellIn P a14 l2 l3 I) fun y20 =>
            some (x19, y20)))
        else
          (Option.bind (fX_found P l0 ((-1000005)) I) fun y21 =>
          some (y21.1, y21.2)))
      else
        (Option.bind (fX_found P l0 ((-1000001)) I) fun y22 =>
        some (y22.1, y22.2))))
set_option maxRecDepth 100000 in
theorem AfX_in {dp : Nat} {P : am_Q} {nx : Nat} {sl : Nat} {I : am_M} {l0 : Nat} {l1 : Int32} {l2 : Int32} {l3 : Int32} {y : Int32 × am_M} (hy : fX_in P l0 l1 l2 l3 I = some y) : sm_T (dp + 3) 34 [.inr l0, .inl l1, .inl l2, .inl l3] (I, P, nx, sl) ((sm_g1 P nx sl) y) := by
  refine r_meth (d := am_d34) (dp := dp + 2) (ls0 := [some (.inr l0), some (.inl l1), some (.inl l2), some (.inl l3), none, none]) rfl (by decide) rfl rfl ?_ hy
  unfold fX_in
  refine r_ck (fun h1 => ?_)
  refine r_aload rfl rfl (am_nz h1) ?_
  refine r_getP rfl h1 ?_
  refine r_iload rfl rfl ?_
  refine r_ck (fun h2 => ?_)
  refine r_call0 rfl rfl h2 (fun y hy => AfW_hasBox (dp := dp + 1) hy) (fun y3 => ?_)
  refine r_if rfl rfl (fun c4 => ?_) (fun c4 => ?_)
  · refine r_aload rfl rfl (am_nz h1) ?_
    refine r_const (x := (-1000001)) rfl rfl ?_
    refine r_call1 rfl rfl h1 (fun y hy => AfX_found (dp := dp + 1) hy) (fun y5 => ?_)
    exact r_ireturn rfl (Or.inl rfl) rfl
  · refine r_iload rfl rfl ?_
    refine r_call0 rfl rfl trivial (fun y hy => AfX_isDoor (dp := dp + 1) hy) (fun y6 => ?_)
    refine r_if rfl rfl (fun c7 => ?_) (fun c7 => ?_)
    · refine r_aload rfl rfl (am_nz h1) ?_
      refine r_const (x := (-1000001)) rfl rfl ?_
      refine r_call1 rfl rfl h1 (fun y hy => AfX_found (dp := dp + 1) hy) (fun y8 => ?_)
      exact r_ireturn rfl (Or.inl rfl) rfl
    · refine r_aload rfl rfl (am_nz h1) ?_
      refine r_getP rfl h1 ?_
      refine r_iload rfl rfl ?_
      refine r_call0 rfl rfl h2 (fun y hy => AfW_isNumber (dp := dp + 1) hy) (fun y9 => ?_)
      refine r_if rfl rfl (fun c10 => ?_) (fun c10 => ?_)
      · refine r_aload rfl rfl (am_nz h1) ?_
        refine r_getP rfl h1 ?_
        refine r_iload rfl rfl ?_
        refine r_iload rfl rfl ?_
        refine r_call0 rfl rfl h2 (fun y hy => AfW_seamInto (dp := dp + 0) hy) (fun y11 => ?_)
        refine r_if rfl rfl (fun c12 => ?_) (fun c12 => ?_)
        · refine r_aload rfl rfl (am_nz h1) ?_
          refine r_getP rfl h1 ?_
          refine r_getP rfl h2 ?_
          refine r_iload rfl rfl ?_
          refine r_ck (fun h13 => ?_)
          refine r_aald rfl h13 ?_
          refine r_bdA (fun a14 => ?_)
          refine r_ck (fun h15 => ?_)
          refine r_astore (ls' := [some (.inr l0), some (.inl l1), some (.inl l2), some (.inl l3), some (.inr a14), none]) rfl (Nat.le_of_ble_eq_true rfl) (am_nz h15) rfl ?_
          refine r_iload rfl rfl ?_
          refine r_if rfl rfl (fun c16 => ?_) (fun c16 => ?_)
          · refine r_aload rfl rfl (am_nz h15) ?_
            refine r_getI rfl h15 ?_
            refine r_bd (fun x17 => ?_)
            refine r_istore (ls' := [some (.inr l0), some (.inl l1), some (.inl l2), some (.inl l3), some (.inr a14), some (.inl x17)]) rfl (Nat.le_of_ble_eq_true rfl) rfl ?_
            refine r_aload rfl rfl (am_nz h15) ?_
            refine r_iload rfl rfl ?_
            refine r_iload rfl rfl ?_
            refine r_call2 rfl rfl h15 (fun y hy => AfB_tellIn (dp := dp + 1) hy) (fun y18 => ?_)
            refine r_iload rfl rfl ?_
            exact r_ireturn rfl (Or.inl rfl) rfl
          · refine r_aload rfl rfl (am_nz h15) ?_
            refine r_getI rfl h15 ?_
            refine r_goto rfl ?_
            refine r_bd (fun x19 => ?_)
            refine r_istore (ls' := [some (.inr l0), some (.inl l1), some (.inl l2), some (.inl l3), some (.inr a14), some (.inl x19)]) rfl (Nat.le_of_ble_eq_true rfl) rfl ?_
            refine r_aload rfl rfl (am_nz h15) ?_
            refine r_iload rfl rfl ?_
            refine r_iload rfl rfl ?_
            refine r_call2 rfl rfl h15 (fun y hy => AfB_tellIn (dp := dp + 1) hy) (fun y20 => ?_)
            refine r_iload rfl rfl ?_
            exact r_ireturn rfl (Or.inl rfl) rfl
        · refine r_aload rfl rfl (am_nz h1) ?_
          refine r_const (x := (-1000005)) rfl rfl ?_
          refine r_call1 rfl rfl h1 (fun y hy => AfX_found (dp := dp + 1) hy) (fun y21 => ?_)
          exact r_ireturn rfl (Or.inl rfl) rfl
      · refine r_aload rfl rfl (am_nz h1) ?_
        refine r_const (x := (-1000001)) rfl rfl ?_
        refine r_call1 rfl rfl h1 (fun y hy => AfX_found (dp := dp + 1) hy) (fun y22 => ?_)
        exact r_ireturn rfl (Or.inl rfl) rfl
noncomputable def fX_time (P : am_Q) (l0 : Nat) (l1 : Int32) (l2 : Int32) (I : am_M) : Option (Int32 × am_M) :=
  sm_ck (am_t l0 = 12) <|
  sm_ck (am_t (P l0 0) = 11) <|
  Option.bind (fW_hasBox I P (P l0 0) l1) fun y3 =>
  if y3 = 0 then
    (Option.bind (fX_found P l0 ((-1000001)) I) fun y5 =>
    some (y5.1, y5.2))
  else
    (if l2 < 1 then
      (Option.bind (fX_found P l0 ((-1000001)) I) fun y7 =>
      some (y7.1, y7.2))
    else
      (if l2 ≤ 9 then
        (sm_ck (sm_ia (P (P l0 0) 9) l1) <|
        sm_ck (am_t (P (P (P l0 0) 9) l1.toNatClampNeg) = 1) <|
        sm_bd (I (P (P (P l0 0) 9) l1.toNatClampNeg) 6) fun x11 =>
        sm_ck (sm_ia (P (P l0 0) 9) l1) <|
        sm_bd (am_up I (P (P (P l0 0) 9) l1.toNatClampNeg) 6 l2) fun I13 =>
        some (x11, I13))
      else
        (Option.bind (fX_found P l0 ((-1000001)) I) fun y14 =>
        some (y14.1, y14.2))))
set_option maxRecDepth 100000 in
theorem AfX_time {dp : Nat} {P : am_Q} {nx : Nat} {sl : Nat} {I : am_M} {l0 : Nat} {l1 : Int32} {l2 : Int32} {y : Int32 × am_M} (hy : fX_time P l0 l1 l2 I = some y) : sm_T (dp + 2) 38 [.inr l0, .inl l1, .inl l2] (I, P, nx, sl) ((sm_g1 P nx sl) y) := by
  refine r_meth (d := am_d38) (dp := dp + 1) (ls0 := [some (.inr l0), some (.inl l1), some (.inl l2), none]) rfl (by decide) rfl rfl ?_ hy
  unfold fX_time
  refine r_ck (fun h1 => ?_)
  refine r_aload rfl rfl (am_nz h1) ?_
  refine r_getP rfl h1 ?_
  refine r_iload rfl rfl ?_
  refine r_ck (fun h2 => ?_)
  refine r_call0 rfl rfl h2 (fun y hy => AfW_hasBox (dp := dp + 0) hy) (fun y3 => ?_)
  refine r_if rfl rfl (fun c4 => ?_) (fun c4 => ?_)
  · refine r_aload rfl rfl (am_nz h1) ?_
    refine r_const (x := (-1000001)) rfl rfl ?_
    refine r_call1 rfl rfl h1 (fun y hy => AfX_found (dp := dp + 0) hy) (fun y5 => ?_)
    exact r_ireturn rfl (Or.inl rfl) rfl
  · refine r_iload rfl rfl ?_
    refine r_const (x := 1) rfl rfl ?_
    refine r_icmp rfl rfl (fun c6 => ?_) (fun c6 => ?_)
    · refine r_aload rfl rfl (am_nz h1) ?_
      refine r_const (x := (-1000001)) rfl rfl ?_
      refine r_call1 rfl rfl h1 (fun y hy => AfX_found (dp := dp + 0) hy) (fun y7 => ?_)
      exact r_ireturn rfl (Or.inl rfl) rfl
    · refine r_iload rfl rfl ?_
      refine r_const (x := 9) rfl rfl ?_
      refine r_icmp rfl rfl (fun c8 => ?_) (fun c8 => ?_)
      · refine r_aload rfl rfl (am_nz h1) ?_
        refine r_getP rfl h1 ?_
        refine r_getP rfl h2 ?_
        refine r_iload rfl rfl ?_
        refine r_ck (fun h9 => ?_)
        refine r_aald rfl h9 ?_
        refine r_ck (fun h10 => ?_)
        refine r_getI rfl h10 ?_
        refine r_bd (fun x11 => ?_)
        refine r_istore (ls' := [some (.inr l0), some (.inl l1), some (.inl l2), some (.inl x11)]) rfl (Nat.le_of_ble_eq_true rfl) rfl ?_
        refine r_aload rfl rfl (am_nz h1) ?_
        refine r_getP rfl h1 ?_
        refine r_getP rfl h2 ?_
        refine r_iload rfl rfl ?_
        refine r_ck (fun h12 => ?_)
        refine r_aald rfl h12 ?_
        refine r_iload rfl rfl ?_
        refine r_putI rfl h10 (fun hz => absurd hz (by decide)) (fun I13 => ?_)
        refine r_iload rfl rfl ?_
        exact r_ireturn rfl (Or.inl rfl) rfl
      · refine r_aload rfl rfl (am_nz h1) ?_
        refine r_const (x := (-1000001)) rfl rfl ?_
        refine r_call1 rfl rfl h1 (fun y hy => AfX_found (dp := dp + 0) hy) (fun y14 => ?_)
        exact r_ireturn rfl (Or.inl rfl) rfl
noncomputable def fT_add_B4 (P : am_Q) (e4_52 : am_M → Option (am_M)) (r4 : Nat → Int32 → Int32 → am_M → Option (am_M)) (l0 : Nat) (l1 : Int32) (l3 : Int32) (I : am_M) : Option (am_M) :=
  if l3 < 0 then
    (e4_52 I)
  else
    (sm_ck (am_t l0 = 10) <|
    if 80 ≤ (I l0 1) then
      (e4_52 I)
    else
      (sm_ck (sm_iw (P l0 0) (I l0 1)) <|
      sm_bd (am_up I (P l0 0) (I l0 1).toNatClampNeg ((sm_ushr l1 (8 * l3)) &&& 255)) fun I6 =>
      sm_bd (am_up I6 l0 1 ((I6 l0 1) + 1)) fun I7 =>
      sm_bd (l3 + (-1)) fun x8 =>
      r4 l0 l1 x8 I7))
set_option maxRecDepth 100000 in
theorem AfT_add_B4 {dp : Nat} {P : am_Q} {nx : Nat} {sl : Nat} {e4_52 : am_M → Option (am_M)} {r4 : Nat → Int32 → Int32 → am_M → Option (am_M)} (he4_52 : ∀ (I : am_M) (o0 : Option am_V) (o1 : Option am_V) (o2 : Option am_V) (o3 : Option am_V), sm (dp + 0) am_d40 52 [o0, o1, o2, o3] [] (I, P, nx, sl) (sm_g2 P nx sl) (e4_52 I)) (hr4 : ∀ (l0 : Nat) (l1 : Int32) (l3 : Int32) (I : am_M) (o2 : Option am_V), sm (dp + 0) am_d40 4 [some (.inr l0), some (.inl l1), o2, some (.inl l3)] [] (I, P, nx, sl) (sm_g2 P nx sl) (r4 l0 l1 l3 I)) (l0 : Nat) (l1 : Int32) (l3 : Int32) (I : am_M) (o2 : Option am_V) : sm (dp + 0) am_d40 4 [some (.inr l0), some (.inl l1), o2, some (.inl l3)] [] (I, P, nx, sl) (sm_g2 P nx sl) (fT_add_B4 P e4_52 r4 l0 l1 l3 I) := by
  unfold fT_add_B4
  refine r_iload rfl rfl ?_
  refine r_if rfl rfl (fun c2 => ?_) (fun c2 => ?_)
  · exact he4_52 I (some (.inr l0)) (some (.inl l1)) o2 (some (.inl l3))
  · refine r_ck (fun h3 => ?_)
    refine r_aload rfl rfl (am_nz h3) ?_
    refine r_getI rfl h3 ?_
    refine r_const (x := 80) rfl rfl ?_
    refine r_icmp rfl rfl (fun c4 => ?_) (fun c4 => ?_)
    · exact he4_52 I (some (.inr l0)) (some (.inl l1)) o2 (some (.inl l3))
    · refine r_aload rfl rfl (am_nz h3) ?_
      refine r_getP rfl h3 ?_
      refine r_aload rfl rfl (am_nz h3) ?_
      refine r_getI rfl h3 ?_
      refine r_iload rfl rfl ?_
      refine r_const (x := 8) rfl rfl ?_
      refine r_iload rfl rfl ?_
      refine r_bin (z := 8 * l3) rfl rfl (by decide) ?_
      refine r_bin (z := sm_ushr l1 (8 * l3)) rfl rfl (by decide) ?_
      refine r_const (x := 255) rfl rfl ?_
      refine r_bin (z := (sm_ushr l1 (8 * l3)) &&& 255) rfl rfl (by decide) ?_
      refine r_ck (fun h5 => ?_)
      refine r_iast rfl h5 (fun I6 => ?_)
      refine r_aload rfl rfl (am_nz h3) ?_
      refine r_dup rfl ?_
      refine r_getI rfl h3 ?_
      refine r_const (x := 1) rfl rfl ?_
      refine r_bin (z := (I6 l0 1) + 1) rfl rfl (by decide) ?_
      refine r_putI rfl h3 (fun hz => absurd hz (by decide)) (fun I7 => ?_)
      refine r_iinc (e := l3 + (-1)) (ls' := fun x8 => [some (.inr l0), some (.inl l1), o2, some (.inl x8)]) rfl rfl rfl (fun _ => rfl) (fun x8 => ?_)
      refine r_goto rfl ?_
      exact hr4 l0 l1 x8 I7 o2
noncomputable def fT_add_L4 (P : am_Q) (e4_52 : am_M → Option (am_M)) : Nat → Nat → Int32 → Int32 → am_M → Option (am_M)
  | 0, _, _, _, _ => none
  | n + 1, l0, l1, l3, I => fT_add_B4 P e4_52 (fT_add_L4 P e4_52 n) l0 l1 l3 I
theorem AfT_add_L4 {dp : Nat} {P : am_Q} {nx : Nat} {sl : Nat} {e4_52 : am_M → Option (am_M)} (he4_52 : ∀ (I : am_M) (o0 : Option am_V) (o1 : Option am_V) (o2 : Option am_V) (o3 : Option am_V), sm (dp + 0) am_d40 52 [o0, o1, o2, o3] [] (I, P, nx, sl) (sm_g2 P nx sl) (e4_52 I)) (n : Nat) : ∀ (l0 : Nat) (l1 : Int32) (l3 : Int32) (I : am_M) (o2 : Option am_V), sm (dp + 0) am_d40 4 [some (.inr l0), some (.inl l1), o2, some (.inl l3)] [] (I, P, nx, sl) (sm_g2 P nx sl) (fT_add_L4 P e4_52 n l0 l1 l3 I) := by
  induction n with
  | zero => intro l0 l1 l3 I o2; exact sm_none
  | succ n ih => intro l0 l1 l3 I o2; exact AfT_add_B4 he4_52 ih l0 l1 l3 I o2
noncomputable def fT_add (P : am_Q) (l0 : Nat) (l1 : Int32) (l2 : Int32) (I : am_M) : Option (am_M) :=
  sm_bd (l2 - 1) fun x1 =>
  fT_add_L4 P (fun I =>
      some I) sm_fu l0 l1 x1 I
set_option maxRecDepth 100000 in
theorem AfT_add {dp : Nat} {P : am_Q} {nx : Nat} {sl : Nat} {I : am_M} {l0 : Nat} {l1 : Int32} {l2 : Int32} {y : am_M} (hy : fT_add P l0 l1 l2 I = some y) : sm_T (dp + 1) 40 [.inr l0, .inl l1, .inl l2] (I, P, nx, sl) ((sm_g2 P nx sl) y) := by
  refine r_meth (d := am_d40) (dp := dp + 0) (ls0 := [some (.inr l0), some (.inl l1), some (.inl l2), none]) rfl (by decide) rfl rfl ?_ hy
  unfold fT_add
  refine r_iload rfl rfl ?_
  refine r_const (x := 1) rfl rfl ?_
  refine r_bin (z := l2 - 1) rfl rfl (by decide) ?_
  refine r_bd (fun x1 => ?_)
  refine r_istore (ls' := [some (.inr l0), some (.inl l1), some (.inl l2), some (.inl x1)]) rfl (Nat.le_of_ble_eq_true rfl) rfl ?_
  refine AfT_add_L4 ?_ sm_fu l0 l1 x1 I (some (.inl l2))
  · intro I o0 o1 o2 o3
    exact r_return rfl rfl
noncomputable def fX_feed (P : am_Q) (l0 : Nat) (l1 : Int32) (l2 : Int32) (I : am_M) : Option (Int32 × am_M) :=
  if l2 < 1 then
    (sm_ck (am_t l0 = 12) <|
    Option.bind (fX_found P l0 ((-1000001)) I) fun y3 =>
    some (y3.1, y3.2))
  else
    (if l2 ≤ 4 then
      (sm_ck (am_t l0 = 12) <|
      sm_ck (am_t (P l0 7) = 10) <|
      if ((I (P l0 7) 1) + l2) ≤ 80 then
        (Option.bind (fT_add P (P l0 7) l1 l2 I) fun y8 =>
        some (y8 (P l0 7) 1, y8))
      else
        (Option.bind (fX_found P l0 ((-1000002)) I) fun y9 =>
        some (y9.1, y9.2)))
    else
      (sm_ck (am_t l0 = 12) <|
      Option.bind (fX_found P l0 ((-1000001)) I) fun y11 =>
      some (y11.1, y11.2)))
set_option maxRecDepth 100000 in
theorem AfX_feed {dp : Nat} {P : am_Q} {nx : Nat} {sl : Nat} {I : am_M} {l0 : Nat} {l1 : Int32} {l2 : Int32} {y : Int32 × am_M} (hy : fX_feed P l0 l1 l2 I = some y) : sm_T (dp + 2) 39 [.inr l0, .inl l1, .inl l2] (I, P, nx, sl) ((sm_g1 P nx sl) y) := by
  refine r_meth (d := am_d39) (dp := dp + 1) (ls0 := [some (.inr l0), some (.inl l1), some (.inl l2)]) rfl (by decide) rfl rfl ?_ hy
  unfold fX_feed
  refine r_iload rfl rfl ?_
  refine r_const (x := 1) rfl rfl ?_
  refine r_icmp rfl rfl (fun c1 => ?_) (fun c1 => ?_)
  · refine r_ck (fun h2 => ?_)
    refine r_aload rfl rfl (am_nz h2) ?_
    refine r_const (x := (-1000001)) rfl rfl ?_
    refine r_call1 rfl rfl h2 (fun y hy => AfX_found (dp := dp + 0) hy) (fun y3 => ?_)
    exact r_ireturn rfl (Or.inl rfl) rfl
  · refine r_iload rfl rfl ?_
    refine r_const (x := 4) rfl rfl ?_
    refine r_icmp rfl rfl (fun c4 => ?_) (fun c4 => ?_)
    · refine r_ck (fun h5 => ?_)
      refine r_aload rfl rfl (am_nz h5) ?_
      refine r_getP rfl h5 ?_
      refine r_ck (fun h6 => ?_)
      refine r_getI rfl h6 ?_
      refine r_iload rfl rfl ?_
      refine r_bin (z := (I (P l0 7) 1) + l2) rfl rfl (by decide) ?_
      refine r_const (x := 80) rfl rfl ?_
      refine r_icmp rfl rfl (fun c7 => ?_) (fun c7 => ?_)
      · refine r_aload rfl rfl (am_nz h5) ?_
        refine r_getP rfl h5 ?_
        refine r_iload rfl rfl ?_
        refine r_iload rfl rfl ?_
        refine r_call2 rfl rfl h6 (fun y hy => AfT_add (dp := dp + 0) hy) (fun y8 => ?_)
        refine r_aload rfl rfl (am_nz h5) ?_
        refine r_getP rfl h5 ?_
        refine r_getI rfl h6 ?_
        exact r_ireturn rfl (Or.inl rfl) rfl
      · refine r_aload rfl rfl (am_nz h5) ?_
        refine r_const (x := (-1000002)) rfl rfl ?_
        refine r_call1 rfl rfl h5 (fun y hy => AfX_found (dp := dp + 0) hy) (fun y9 => ?_)
        exact r_ireturn rfl (Or.inl rfl) rfl
    · refine r_ck (fun h10 => ?_)
      refine r_aload rfl rfl (am_nz h10) ?_
      refine r_const (x := (-1000001)) rfl rfl ?_
      refine r_call1 rfl rfl h10 (fun y hy => AfX_found (dp := dp + 0) hy) (fun y11 => ?_)
      exact r_ireturn rfl (Or.inl rfl) rfl
noncomputable def fT_takesLetter (P : am_Q) (l0 : Nat) (l1 : Int32) (I : am_M) : Option (Int32 × am_M) :=
  if l1 = 112 then
    (sm_ck (am_t l0 = 10) <|
    sm_bd (am_up I l0 11 0) fun I3 =>
    sm_bd (am_up I3 l0 8 1) fun I4 =>
    some (1, I4))
  else if l1 = 113 then
    (sm_ck (am_t l0 = 10) <|
    sm_bd (am_up I l0 11 1) fun I7 =>
    sm_bd (am_up I7 l0 8 1) fun I8 =>
    some (1, I8))
  else if l1 = 114 then
    (some (0, I))
  else if l1 = 115 then
    (some (0, I))
  else if l1 = 116 then
    (some (0, I))
  else if l1 = 117 then
    (sm_ck (am_t l0 = 10) <|
    sm_bd (am_up I l0 11 2) fun I14 =>
    sm_bd (am_up I14 l0 8 1) fun I15 =>
    some (1, I15))
  else if l1 = 118 then
    (sm_ck (am_t l0 = 10) <|
    sm_bd (am_up I l0 11 3) fun I18 =>
    sm_bd (am_up I18 l0 8 1) fun I19 =>
    some (1, I19))
  else (
    some (0, I))
set_option maxRecDepth 100000 in
theorem AfT_takesLetter {dp : Nat} {P : am_Q} {nx : Nat} {sl : Nat} {I : am_M} {l0 : Nat} {l1 : Int32} {y : Int32 × am_M} (hy : fT_takesLetter P l0 l1 I = some y) : sm_T (dp + 1) 44 [.inr l0, .inl l1] (I, P, nx, sl) ((sm_g1 P nx sl) y) := by
  refine r_meth (d := am_d44) (dp := dp + 0) (ls0 := [some (.inr l0), some (.inl l1)]) rfl (by decide) rfl rfl ?_ hy
  unfold fT_takesLetter
  refine r_iload rfl rfl ?_
  refine r_ite (fun c1 => ?_) (fun c1 => ?_)
  · refine r_tabE (t := 44) rfl c1 (by decide) ?_
    refine r_ck (fun h2 => ?_)
    refine r_aload rfl rfl (am_nz h2) ?_
    refine r_const (x := 0) rfl rfl ?_
    refine r_putI rfl h2 (fun hz => absurd hz (by decide)) (fun I3 => ?_)
    refine r_goto rfl ?_
    refine r_aload rfl rfl (am_nz h2) ?_
    refine r_const (x := 1) rfl rfl ?_
    refine r_putI rfl h2 (fun hz => absurd hz (by decide)) (fun I4 => ?_)
    refine r_const (x := 1) rfl rfl ?_
    exact r_ireturn rfl (Or.inr ⟨rfl, sm_011⟩) rfl
  refine r_ite (fun c5 => ?_) (fun c5 => ?_)
  · refine r_tabE (t := 52) rfl c5 (by decide) ?_
    refine r_ck (fun h6 => ?_)
    refine r_aload rfl rfl (am_nz h6) ?_
    refine r_const (x := 1) rfl rfl ?_
    refine r_putI rfl h6 (fun hz => absurd hz (by decide)) (fun I7 => ?_)
    refine r_goto rfl ?_
    refine r_aload rfl rfl (am_nz h6) ?_
    refine r_const (x := 1) rfl rfl ?_
    refine r_putI rfl h6 (fun hz => absurd hz (by decide)) (fun I8 => ?_)
    refine r_const (x := 1) rfl rfl ?_
    exact r_ireturn rfl (Or.inr ⟨rfl, sm_011⟩) rfl
  refine r_ite (fun c9 => ?_) (fun c9 => ?_)
  · refine r_tabE (t := 76) rfl c9 (by decide) ?_
    refine r_const (x := 0) rfl rfl ?_
    exact r_ireturn rfl (Or.inr ⟨rfl, sm_010⟩) rfl
  refine r_ite (fun c10 => ?_) (fun c10 => ?_)
  · refine r_tabE (t := 76) rfl c10 (by decide) ?_
    refine r_const (x := 0) rfl rfl ?_
    exact r_ireturn rfl (Or.inr ⟨rfl, sm_010⟩) rfl
  refine r_ite (fun c11 => ?_) (fun c11 => ?_)
  · refine r_tabE (t := 76) rfl c11 (by decide) ?_
    refine r_const (x := 0) rfl rfl ?_
    exact r_ireturn rfl (Or.inr ⟨rfl, sm_010⟩) rfl
  refine r_ite (fun c12 => ?_) (fun c12 => ?_)
  · refine r_tabE (t := 60) rfl c12 (by decide) ?_
    refine r_ck (fun h13 => ?_)
    refine r_aload rfl rfl (am_nz h13) ?_
    refine r_const (x := 2) rfl rfl ?_
    refine r_putI rfl h13 (fun hz => absurd hz (by decide)) (fun I14 => ?_)
    refine r_goto rfl ?_
    refine r_aload rfl rfl (am_nz h13) ?_
    refine r_const (x := 1) rfl rfl ?_
    refine r_putI rfl h13 (fun hz => absurd hz (by decide)) (fun I15 => ?_)
    refine r_const (x := 1) rfl rfl ?_
    exact r_ireturn rfl (Or.inr ⟨rfl, sm_011⟩) rfl
  refine r_ite (fun c16 => ?_) (fun c16 => ?_)
  · refine r_tabE (t := 68) rfl c16 (by decide) ?_
    refine r_ck (fun h17 => ?_)
    refine r_aload rfl rfl (am_nz h17) ?_
    refine r_const (x := 3) rfl rfl ?_
    refine r_putI rfl h17 (fun hz => absurd hz (by decide)) (fun I18 => ?_)
    refine r_goto rfl ?_
    refine r_aload rfl rfl (am_nz h17) ?_
    refine r_const (x := 1) rfl rfl ?_
    refine r_putI rfl h17 (fun hz => absurd hz (by decide)) (fun I19 => ?_)
    refine r_const (x := 1) rfl rfl ?_
    exact r_ireturn rfl (Or.inr ⟨rfl, sm_011⟩) rfl
  refine r_tabD rfl ⟨c1, c5, c9, c10, c11, c12, c16, trivial⟩ ?_
  refine r_const (x := 0) rfl rfl ?_
  exact r_ireturn rfl (Or.inr ⟨rfl, sm_010⟩) rfl
noncomputable def fT_takesEquals (P : am_Q) (l0 : Nat) (l1 : Int32) (I : am_M) : Option (Int32 × am_M) :=
  sm_ck (am_t l0 = 10) <|
  sm_bd (am_up I l0 8 2) fun I2 =>
  if ¬ l1 = 61 then
    (some (0, I2))
  else
    (some (1, I2))
set_option maxRecDepth 100000 in
theorem AfT_takesEquals {dp : Nat} {P : am_Q} {nx : Nat} {sl : Nat} {I : am_M} {l0 : Nat} {l1 : Int32} {y : Int32 × am_M} (hy : fT_takesEquals P l0 l1 I = some y) : sm_T (dp + 1) 45 [.inr l0, .inl l1] (I, P, nx, sl) ((sm_g1 P nx sl) y) := by
  refine r_meth (d := am_d45) (dp := dp + 0) (ls0 := [some (.inr l0), some (.inl l1)]) rfl (by decide) rfl rfl ?_ hy
  unfold fT_takesEquals
  refine r_ck (fun h1 => ?_)
  refine r_aload rfl rfl (am_nz h1) ?_
  refine r_const (x := 2) rfl rfl ?_
  refine r_putI rfl h1 (fun hz => absurd hz (by decide)) (fun I2 => ?_)
  refine r_iload rfl rfl ?_
  refine r_const (x := 61) rfl rfl ?_
  refine r_icmp rfl rfl (fun c3 => ?_) (fun c3 => ?_)
  · refine r_const (x := 0) rfl rfl ?_
    exact r_ireturn rfl (Or.inr ⟨rfl, sm_010⟩) rfl
  · refine r_const (x := 1) rfl rfl ?_
    refine r_goto rfl ?_
    exact r_ireturn rfl (Or.inr ⟨rfl, sm_011⟩) rfl
noncomputable def fT_await (P : am_Q) (l0 : Nat) (l1 : Int32) (I : am_M) : Option (am_M) :=
  sm_ck (am_t l0 = 10) <|
  sm_ck (20 ≤ am_t (P l0 4) ∧ am_t (P l0 4) < 26) <|
  if (Int32.ofNat (am_n (P l0 4))) ≤ (I l0 5) then
    (some I)
  else
    (sm_ck (sm_iw (P l0 4) (I l0 5)) <|
    sm_bd (am_up I (P l0 4) (I l0 5).toNatClampNeg l1) fun I5 =>
    sm_bd (am_up I5 l0 5 ((I5 l0 5) + 1)) fun I6 =>
    some I6)
set_option maxRecDepth 100000 in
theorem AfT_await {dp : Nat} {P : am_Q} {nx : Nat} {sl : Nat} {I : am_M} {l0 : Nat} {l1 : Int32} {y : am_M} (hy : fT_await P l0 l1 I = some y) : sm_T (dp + 1) 47 [.inr l0, .inl l1] (I, P, nx, sl) ((sm_g2 P nx sl) y) := by
  refine r_meth (d := am_d47) (dp := dp + 0) (ls0 := [some (.inr l0), some (.inl l1)]) rfl (by decide) rfl rfl ?_ hy
  unfold fT_await
  refine r_ck (fun h1 => ?_)
  refine r_aload rfl rfl (am_nz h1) ?_
  refine r_getI rfl h1 ?_
  refine r_aload rfl rfl (am_nz h1) ?_
  refine r_getP rfl h1 ?_
  refine r_ck (fun h2 => ?_)
  refine r_alen rfl h2 ?_
  refine r_icmp rfl rfl (fun c3 => ?_) (fun c3 => ?_)
  · exact r_return rfl rfl
  · refine r_aload rfl rfl (am_nz h1) ?_
    refine r_getP rfl h1 ?_
    refine r_aload rfl rfl (am_nz h1) ?_
    refine r_getI rfl h1 ?_
    refine r_iload rfl rfl ?_
    refine r_ck (fun h4 => ?_)
    refine r_iast rfl h4 (fun I5 => ?_)
    refine r_aload rfl rfl (am_nz h1) ?_
    refine r_dup rfl ?_
    refine r_getI rfl h1 ?_
    refine r_const (x := 1) rfl rfl ?_
    refine r_bin (z := (I5 l0 5) + 1) rfl rfl (by decide) ?_
    refine r_putI rfl h1 (fun hz => absurd hz (by decide)) (fun I6 => ?_)
    exact r_return rfl rfl
noncomputable def fT_isDigit (l0 : Int32) : Option (Int32) :=
  if l0 < 48 then
    (some 0)
  else
    (if 57 < l0 then
      (some 0)
    else
      (some 1))
set_option maxRecDepth 100000 in
theorem AfT_isDigit {dp : Nat} {S : am_S} {l0 : Int32} {y : Int32} (hy : fT_isDigit l0 = some y) : sm_T (dp + 1) 48 [.inl l0] S ((sm_g0 S) y) := by
  refine r_meth (d := am_d48) (dp := dp + 0) (ls0 := [some (.inl l0)]) rfl (by decide) rfl rfl ?_ hy
  unfold fT_isDigit
  refine r_iload rfl rfl ?_
  refine r_const (x := 48) rfl rfl ?_
  refine r_icmp rfl rfl (fun c1 => ?_) (fun c1 => ?_)
  · refine r_const (x := 0) rfl rfl ?_
    exact r_ireturn rfl (Or.inr ⟨rfl, sm_010⟩) rfl
  · refine r_iload rfl rfl ?_
    refine r_const (x := 57) rfl rfl ?_
    refine r_icmp rfl rfl (fun c2 => ?_) (fun c2 => ?_)
    · refine r_const (x := 0) rfl rfl ?_
      exact r_ireturn rfl (Or.inr ⟨rfl, sm_010⟩) rfl
    · refine r_const (x := 1) rfl rfl ?_
      refine r_goto rfl ?_
      exact r_ireturn rfl (Or.inr ⟨rfl, sm_011⟩) rfl
noncomputable def fT_put (P : am_Q) (l0 : Nat) (l1 : Int32) (I : am_M) : Option (am_M) :=
  sm_ck (am_t l0 = 10) <|
  sm_ck (20 ≤ am_t (P l0 2) ∧ am_t (P l0 2) < 26) <|
  if (Int32.ofNat (am_n (P l0 2))) ≤ (I l0 3) then
    (some I)
  else
    (sm_ck (sm_iw (P l0 2) (I l0 3)) <|
    sm_bd (am_up I (P l0 2) (I l0 3).toNatClampNeg l1) fun I5 =>
    sm_bd (am_up I5 l0 3 ((I5 l0 3) + 1)) fun I6 =>
    some I6)
set_option maxRecDepth 100000 in
theorem AfT_put {dp : Nat} {P : am_Q} {nx : Nat} {sl : Nat} {I : am_M} {l0 : Nat} {l1 : Int32} {y : am_M} (hy : fT_put P l0 l1 I = some y) : sm_T (dp + 1) 49 [.inr l0, .inl l1] (I, P, nx, sl) ((sm_g2 P nx sl) y) := by
  refine r_meth (d := am_d49) (dp := dp + 0) (ls0 := [some (.inr l0), some (.inl l1)]) rfl (by decide) rfl rfl ?_ hy
  unfold fT_put
  refine r_ck (fun h1 => ?_)
  refine r_aload rfl rfl (am_nz h1) ?_
  refine r_getI rfl h1 ?_
  refine r_aload rfl rfl (am_nz h1) ?_
  refine r_getP rfl h1 ?_
  refine r_ck (fun h2 => ?_)
  refine r_alen rfl h2 ?_
  refine r_icmp rfl rfl (fun c3 => ?_) (fun c3 => ?_)
  · exact r_return rfl rfl
  · refine r_aload rfl rfl (am_nz h1) ?_
    refine r_getP rfl h1 ?_
    refine r_aload rfl rfl (am_nz h1) ?_
    refine r_getI rfl h1 ?_
    refine r_iload rfl rfl ?_
    refine r_ck (fun h4 => ?_)
    refine r_iast rfl h4 (fun I5 => ?_)
    refine r_aload rfl rfl (am_nz h1) ?_
    refine r_dup rfl ?_
    refine r_getI rfl h1 ?_
    refine r_const (x := 1) rfl rfl ?_
    refine r_bin (z := (I5 l0 3) + 1) rfl rfl (by decide) ?_
    refine r_putI rfl h1 (fun hz => absurd hz (by decide)) (fun I6 => ?_)
    exact r_return rfl rfl
noncomputable def fT_takesValue (P : am_Q) (l0 : Nat) (l1 : Int32) (I : am_M) : Option (Int32 × am_M) :=
  if ¬ l1 = 40 then
    (Option.bind (fT_isDigit l1) fun y2 =>
    if y2 = 0 then
      (sm_ck (am_t l0 = 10) <|
      sm_bd (am_up I l0 8 4) fun I5 =>
      if l1 = 97 then
        (Option.bind (fT_put P l0 102 I5) fun y7 =>
        some (1, y7))
      else if l1 = 98 then
        (Option.bind (fT_put P l0 103 I5) fun y9 =>
        some (1, y9))
      else if l1 = 104 then
        (Option.bind (fT_put P l0 104 I5) fun y11 =>
        some (1, y11))
      else if l1 = 112 then
        (Option.bind (fT_put P l0 100 I5) fun y13 =>
        some (1, y13))
      else if l1 = 113 then
        (Option.bind (fT_put P l0 101 I5) fun y15 =>
        some (1, y15))
      else (
        some (0, I5)))
    else
      (sm_ck (am_t l0 = 10) <|
      Option.bind (fT_put P l0 (l1 - 48) I) fun y17 =>
      sm_bd (am_up y17 l0 8 3) fun I18 =>
      some (1, I18)))
  else
    (sm_ck (am_t l0 = 10) <|
    if (I l0 9) < 4 then
      (sm_bd (am_up I l0 9 ((I l0 9) + 1)) fun I21 =>
      Option.bind (fT_await P l0 ((-1)) I21) fun y22 =>
      some (1, y22))
    else
      (some (0, I)))
set_option maxRecDepth 100000 in
theorem AfT_takesValue {dp : Nat} {P : am_Q} {nx : Nat} {sl : Nat} {I : am_M} {l0 : Nat} {l1 : Int32} {y : Int32 × am_M} (hy : fT_takesValue P l0 l1 I = some y) : sm_T (dp + 2) 46 [.inr l0, .inl l1] (I, P, nx, sl) ((sm_g1 P nx sl) y) := by
  refine r_meth (d := am_d46) (dp := dp + 1) (ls0 := [some (.inr l0), some (.inl l1)]) rfl (by decide) rfl rfl ?_ hy
  unfold fT_takesValue
  refine r_iload rfl rfl ?_
  refine r_const (x := 40) rfl rfl ?_
  refine r_icmp rfl rfl (fun c1 => ?_) (fun c1 => ?_)
  · refine r_iload rfl rfl ?_
    refine r_call0 rfl rfl trivial (fun y hy => AfT_isDigit (dp := dp + 0) hy) (fun y2 => ?_)
    refine r_if rfl rfl (fun c3 => ?_) (fun c3 => ?_)
    · refine r_ck (fun h4 => ?_)
      refine r_aload rfl rfl (am_nz h4) ?_
      refine r_const (x := 4) rfl rfl ?_
      refine r_putI rfl h4 (fun hz => absurd hz (by decide)) (fun I5 => ?_)
      refine r_iload rfl rfl ?_
      refine r_ite (fun c6 => ?_) (fun c6 => ?_)
      · refine r_lokE (t := 128) rfl c6 (by decide) ?_
        refine r_aload rfl rfl (am_nz h4) ?_
        refine r_const (x := 102) rfl rfl ?_
        refine r_call2 rfl rfl h4 (fun y hy => AfT_put (dp := dp + 0) hy) (fun y7 => ?_)
        refine r_const (x := 1) rfl rfl ?_
        exact r_ireturn rfl (Or.inr ⟨rfl, sm_011⟩) rfl
      refine r_ite (fun c8 => ?_) (fun c8 => ?_)
      · refine r_lokE (t := 136) rfl c8 (by decide) ?_
        refine r_aload rfl rfl (am_nz h4) ?_
        refine r_const (x := 103) rfl rfl ?_
        refine r_call2 rfl rfl h4 (fun y hy => AfT_put (dp := dp + 0) hy) (fun y9 => ?_)
        refine r_const (x := 1) rfl rfl ?_
        exact r_ireturn rfl (Or.inr ⟨rfl, sm_011⟩) rfl
      refine r_ite (fun c10 => ?_) (fun c10 => ?_)
      · refine r_lokE (t := 144) rfl c10 (by decide) ?_
        refine r_aload rfl rfl (am_nz h4) ?_
        refine r_const (x := 104) rfl rfl ?_
        refine r_call2 rfl rfl h4 (fun y hy => AfT_put (dp := dp + 0) hy) (fun y11 => ?_)
        refine r_const (x := 1) rfl rfl ?_
        exact r_ireturn rfl (Or.inr ⟨rfl, sm_011⟩) rfl
      refine r_ite (fun c12 => ?_) (fun c12 => ?_)
      · refine r_lokE (t := 112) rfl c12 (by decide) ?_
        refine r_aload rfl rfl (am_nz h4) ?_
        refine r_const (x := 100) rfl rfl ?_
        refine r_call2 rfl rfl h4 (fun y hy => AfT_put (dp := dp + 0) hy) (fun y13 => ?_)
        refine r_const (x := 1) rfl rfl ?_
        exact r_ireturn rfl (Or.inr ⟨rfl, sm_011⟩) rfl
      refine r_ite (fun c14 => ?_) (fun c14 => ?_)
      · refine r_lokE (t := 120) rfl c14 (by decide) ?_
        refine r_aload rfl rfl (am_nz h4) ?_
        refine r_const (x := 101) rfl rfl ?_
        refine r_call2 rfl rfl h4 (fun y hy => AfT_put (dp := dp + 0) hy) (fun y15 => ?_)
        refine r_const (x := 1) rfl rfl ?_
        exact r_ireturn rfl (Or.inr ⟨rfl, sm_011⟩) rfl
      refine r_lokD rfl ⟨c6, c8, c10, c12, c14, trivial⟩ ?_
      refine r_const (x := 0) rfl rfl ?_
      exact r_ireturn rfl (Or.inr ⟨rfl, sm_010⟩) rfl
    · refine r_ck (fun h16 => ?_)
      refine r_aload rfl rfl (am_nz h16) ?_
      refine r_iload rfl rfl ?_
      refine r_const (x := 48) rfl rfl ?_
      refine r_bin (z := l1 - 48) rfl rfl (by decide) ?_
      refine r_call2 rfl rfl h16 (fun y hy => AfT_put (dp := dp + 0) hy) (fun y17 => ?_)
      refine r_aload rfl rfl (am_nz h16) ?_
      refine r_const (x := 3) rfl rfl ?_
      refine r_putI rfl h16 (fun hz => absurd hz (by decide)) (fun I18 => ?_)
      refine r_const (x := 1) rfl rfl ?_
      exact r_ireturn rfl (Or.inr ⟨rfl, sm_011⟩) rfl
  · refine r_ck (fun h19 => ?_)
    refine r_aload rfl rfl (am_nz h19) ?_
    refine r_getI rfl h19 ?_
    refine r_const (x := 4) rfl rfl ?_
    refine r_icmp rfl rfl (fun c20 => ?_) (fun c20 => ?_)
    · refine r_aload rfl rfl (am_nz h19) ?_
      refine r_dup rfl ?_
      refine r_getI rfl h19 ?_
      refine r_const (x := 1) rfl rfl ?_
      refine r_bin (z := (I l0 9) + 1) rfl rfl (by decide) ?_
      refine r_putI rfl h19 (fun hz => absurd hz (by decide)) (fun I21 => ?_)
      refine r_aload rfl rfl (am_nz h19) ?_
      refine r_const (x := (-1)) rfl rfl ?_
      refine r_call2 rfl rfl h19 (fun y hy => AfT_await (dp := dp + 0) hy) (fun y22 => ?_)
      refine r_const (x := 1) rfl rfl ?_
      exact r_ireturn rfl (Or.inr ⟨rfl, sm_011⟩) rfl
    · refine r_const (x := 0) rfl rfl ?_
      exact r_ireturn rfl (Or.inr ⟨rfl, sm_010⟩) rfl
noncomputable def fT_takesSecondDigit (P : am_Q) (l0 : Nat) (l1 : Int32) (I : am_M) : Option (Int32 × am_M) :=
  sm_ck (am_t l0 = 10) <|
  if 1 ≤ (I l0 3) then
    (sm_ck (sm_in (P l0 2) ((I l0 3) - 1)) <|
    sm_ck (sm_iw (P l0 2) ((I l0 3) - 1)) <|
    sm_bd (am_up I (P l0 2) ((I l0 3) - 1).toNatClampNeg ((10 * (I (P l0 2) ((I l0 3) - 1).toNatClampNeg)) + (l1 - 48))) fun I5 =>
    sm_bd (am_up I5 l0 8 4) fun I6 =>
    some (1, I6))
  else
    (some (0, I))
set_option maxRecDepth 100000 in
theorem AfT_takesSecondDigit {dp : Nat} {P : am_Q} {nx : Nat} {sl : Nat} {I : am_M} {l0 : Nat} {l1 : Int32} {y : Int32 × am_M} (hy : fT_takesSecondDigit P l0 l1 I = some y) : sm_T (dp + 1) 50 [.inr l0, .inl l1] (I, P, nx, sl) ((sm_g1 P nx sl) y) := by
  refine r_meth (d := am_d50) (dp := dp + 0) (ls0 := [some (.inr l0), some (.inl l1)]) rfl (by decide) rfl rfl ?_ hy
  unfold fT_takesSecondDigit
  refine r_ck (fun h1 => ?_)
  refine r_aload rfl rfl (am_nz h1) ?_
  refine r_getI rfl h1 ?_
  refine r_const (x := 1) rfl rfl ?_
  refine r_icmp rfl rfl (fun c2 => ?_) (fun c2 => ?_)
  · refine r_aload rfl rfl (am_nz h1) ?_
    refine r_getP rfl h1 ?_
    refine r_aload rfl rfl (am_nz h1) ?_
    refine r_getI rfl h1 ?_
    refine r_const (x := 1) rfl rfl ?_
    refine r_bin (z := (I l0 3) - 1) rfl rfl (by decide) ?_
    refine r_const (x := 10) rfl rfl ?_
    refine r_aload rfl rfl (am_nz h1) ?_
    refine r_getP rfl h1 ?_
    refine r_aload rfl rfl (am_nz h1) ?_
    refine r_getI rfl h1 ?_
    refine r_const (x := 1) rfl rfl ?_
    refine r_bin (z := (I l0 3) - 1) rfl rfl (by decide) ?_
    refine r_ck (fun h3 => ?_)
    refine r_iald rfl h3 ?_
    refine r_bin (z := 10 * (I (P l0 2) ((I l0 3) - 1).toNatClampNeg)) rfl rfl (by decide) ?_
    refine r_iload rfl rfl ?_
    refine r_const (x := 48) rfl rfl ?_
    refine r_bin (z := l1 - 48) rfl rfl (by decide) ?_
    refine r_bin (z := (10 * (I (P l0 2) ((I l0 3) - 1).toNatClampNeg)) + (l1 - 48)) rfl rfl (by decide) ?_
    refine r_ck (fun h4 => ?_)
    refine r_iast rfl h4 (fun I5 => ?_)
    refine r_aload rfl rfl (am_nz h1) ?_
    refine r_const (x := 4) rfl rfl ?_
    refine r_putI rfl h1 (fun hz => absurd hz (by decide)) (fun I6 => ?_)
    refine r_const (x := 1) rfl rfl ?_
    exact r_ireturn rfl (Or.inr ⟨rfl, sm_011⟩) rfl
  · refine r_const (x := 0) rfl rfl ?_
    exact r_ireturn rfl (Or.inr ⟨rfl, sm_010⟩) rfl
noncomputable def fT_putWaiting_B0 (P : am_Q) (e0_48 : am_M → Option (am_M)) (r0 : Nat → Int32 → am_M → Option (am_M)) (l0 : Nat) (l1 : Int32) (I : am_M) : Option (am_M) :=
  sm_ck (am_t l0 = 10) <|
  if (I l0 5) ≤ 0 then
    (e0_48 I)
  else
    (sm_ck (sm_in (P l0 4) ((I l0 5) - 1)) <|
    if (I (P l0 4) ((I l0 5) - 1).toNatClampNeg) < l1 then
      (e0_48 I)
    else
      (sm_bd (am_up I l0 5 ((I l0 5) - 1)) fun I5 =>
      sm_ck (sm_in (P l0 4) (I5 l0 5)) <|
      Option.bind (fT_put P l0 (I5 (P l0 4) (I5 l0 5).toNatClampNeg) I5) fun y7 =>
      r0 l0 l1 y7))
set_option maxRecDepth 100000 in
theorem AfT_putWaiting_B0 {dp : Nat} {P : am_Q} {nx : Nat} {sl : Nat} {e0_48 : am_M → Option (am_M)} {r0 : Nat → Int32 → am_M → Option (am_M)} (he0_48 : ∀ (I : am_M) (o0 : Option am_V) (o1 : Option am_V), sm (dp + 1) am_d53 48 [o0, o1] [] (I, P, nx, sl) (sm_g2 P nx sl) (e0_48 I)) (hr0 : ∀ (l0 : Nat) (l1 : Int32) (I : am_M), sm (dp + 1) am_d53 0 [some (.inr l0), some (.inl l1)] [] (I, P, nx, sl) (sm_g2 P nx sl) (r0 l0 l1 I)) (l0 : Nat) (l1 : Int32) (I : am_M) : sm (dp + 1) am_d53 0 [some (.inr l0), some (.inl l1)] [] (I, P, nx, sl) (sm_g2 P nx sl) (fT_putWaiting_B0 P e0_48 r0 l0 l1 I) := by
  unfold fT_putWaiting_B0
  refine r_ck (fun h1 => ?_)
  refine r_aload rfl rfl (am_nz h1) ?_
  refine r_getI rfl h1 ?_
  refine r_if rfl rfl (fun c2 => ?_) (fun c2 => ?_)
  · exact he0_48 I (some (.inr l0)) (some (.inl l1))
  · refine r_aload rfl rfl (am_nz h1) ?_
    refine r_getP rfl h1 ?_
    refine r_aload rfl rfl (am_nz h1) ?_
    refine r_getI rfl h1 ?_
    refine r_const (x := 1) rfl rfl ?_
    refine r_bin (z := (I l0 5) - 1) rfl rfl (by decide) ?_
    refine r_ck (fun h3 => ?_)
    refine r_iald rfl h3 ?_
    refine r_iload rfl rfl ?_
    refine r_icmp rfl rfl (fun c4 => ?_) (fun c4 => ?_)
    · exact he0_48 I (some (.inr l0)) (some (.inl l1))
    · refine r_aload rfl rfl (am_nz h1) ?_
      refine r_dup rfl ?_
      refine r_getI rfl h1 ?_
      refine r_const (x := 1) rfl rfl ?_
      refine r_bin (z := (I l0 5) - 1) rfl rfl (by decide) ?_
      refine r_putI rfl h1 (fun hz => absurd hz (by decide)) (fun I5 => ?_)
      refine r_aload rfl rfl (am_nz h1) ?_
      refine r_aload rfl rfl (am_nz h1) ?_
      refine r_getP rfl h1 ?_
      refine r_aload rfl rfl (am_nz h1) ?_
      refine r_getI rfl h1 ?_
      refine r_ck (fun h6 => ?_)
      refine r_iald rfl h6 ?_
      refine r_call2 rfl rfl h1 (fun y hy => AfT_put (dp := dp + 0) hy) (fun y7 => ?_)
      refine r_goto rfl ?_
      exact hr0 l0 l1 y7
noncomputable def fT_putWaiting_L0 (P : am_Q) (e0_48 : am_M → Option (am_M)) : Nat → Nat → Int32 → am_M → Option (am_M)
  | 0, _, _, _ => none
  | n + 1, l0, l1, I => fT_putWaiting_B0 P e0_48 (fT_putWaiting_L0 P e0_48 n) l0 l1 I
theorem AfT_putWaiting_L0 {dp : Nat} {P : am_Q} {nx : Nat} {sl : Nat} {e0_48 : am_M → Option (am_M)} (he0_48 : ∀ (I : am_M) (o0 : Option am_V) (o1 : Option am_V), sm (dp + 1) am_d53 48 [o0, o1] [] (I, P, nx, sl) (sm_g2 P nx sl) (e0_48 I)) (n : Nat) : ∀ (l0 : Nat) (l1 : Int32) (I : am_M), sm (dp + 1) am_d53 0 [some (.inr l0), some (.inl l1)] [] (I, P, nx, sl) (sm_g2 P nx sl) (fT_putWaiting_L0 P e0_48 n l0 l1 I) := by
  induction n with
  | zero => intro l0 l1 I; exact sm_none
  | succ n ih => intro l0 l1 I; exact AfT_putWaiting_B0 he0_48 ih l0 l1 I
noncomputable def fT_putWaiting (P : am_Q) (l0 : Nat) (l1 : Int32) (I : am_M) : Option (am_M) :=
  fT_putWaiting_L0 P (fun I =>
      some I) sm_fu l0 l1 I
set_option maxRecDepth 100000 in
theorem AfT_putWaiting {dp : Nat} {P : am_Q} {nx : Nat} {sl : Nat} {I : am_M} {l0 : Nat} {l1 : Int32} {y : am_M} (hy : fT_putWaiting P l0 l1 I = some y) : sm_T (dp + 2) 53 [.inr l0, .inl l1] (I, P, nx, sl) ((sm_g2 P nx sl) y) := by
  refine r_meth (d := am_d53) (dp := dp + 1) (ls0 := [some (.inr l0), some (.inl l1)]) rfl (by decide) rfl rfl ?_ hy
  unfold fT_putWaiting
  refine AfT_putWaiting_L0 ?_ sm_fu l0 l1 I
  · intro I o0 o1
    exact r_return rfl rfl
noncomputable def fT_takesOperator_J14 (P : am_Q) (l0 : Nat) (l1 : Int32) (s0 : Int32) (s1 : Nat) (I : am_M) : Option (Int32 × am_M) :=
  sm_ck (am_t s1 = 10) <|
  Option.bind (fT_putWaiting P s1 s0 I) fun y4 =>
  sm_ck (am_t l0 = 10) <|
  Option.bind (fT_await P l0 l1 y4) fun y6 =>
  sm_bd (am_up y6 l0 8 2) fun I7 =>
  some (1, I7)
set_option maxRecDepth 100000 in
theorem AfT_takesOperator_J14 {dp : Nat} {P : am_Q} {nx : Nat} {sl : Nat} (l0 : Nat) (l1 : Int32) (s0 : Int32) (s1 : Nat) (I : am_M) : sm (dp + 2) am_d52 14 [some (.inr l0), some (.inl l1)] [.inl s0, .inr s1] (I, P, nx, sl) (sm_g1 P nx sl) (fT_takesOperator_J14 P l0 l1 s0 s1 I) := by
  unfold fT_takesOperator_J14
  refine r_ck (fun h3 => ?_)
  refine r_call2 rfl rfl h3 (fun y hy => AfT_putWaiting (dp := dp + 0) hy) (fun y4 => ?_)
  refine r_ck (fun h5 => ?_)
  refine r_aload rfl rfl (am_nz h5) ?_
  refine r_iload rfl rfl ?_
  refine r_call2 rfl rfl h5 (fun y hy => AfT_await (dp := dp + 1) hy) (fun y6 => ?_)
  refine r_aload rfl rfl (am_nz h5) ?_
  refine r_const (x := 2) rfl rfl ?_
  refine r_putI rfl h5 (fun hz => absurd hz (by decide)) (fun I7 => ?_)
  refine r_const (x := 1) rfl rfl ?_
  exact r_ireturn rfl (Or.inr ⟨rfl, sm_011⟩) rfl
noncomputable def fT_takesOperator (P : am_Q) (l0 : Nat) (l1 : Int32) (I : am_M) : Option (Int32 × am_M) :=
  sm_ck (am_t l0 = 10) <|
  if 112 ≤ l1 then
    (fT_takesOperator_J14 P l0 l1 112 l0 I)
  else
    (fT_takesOperator_J14 P l0 l1 110 l0 I)
set_option maxRecDepth 100000 in
theorem AfT_takesOperator {dp : Nat} {P : am_Q} {nx : Nat} {sl : Nat} {I : am_M} {l0 : Nat} {l1 : Int32} {y : Int32 × am_M} (hy : fT_takesOperator P l0 l1 I = some y) : sm_T (dp + 3) 52 [.inr l0, .inl l1] (I, P, nx, sl) ((sm_g1 P nx sl) y) := by
  refine r_meth (d := am_d52) (dp := dp + 2) (ls0 := [some (.inr l0), some (.inl l1)]) rfl (by decide) rfl rfl ?_ hy
  unfold fT_takesOperator
  refine r_ck (fun h1 => ?_)
  refine r_aload rfl rfl (am_nz h1) ?_
  refine r_iload rfl rfl ?_
  refine r_const (x := 112) rfl rfl ?_
  refine r_icmp rfl rfl (fun c2 => ?_) (fun c2 => ?_)
  · refine r_const (x := 112) rfl rfl ?_
    exact AfT_takesOperator_J14 l0 l1 112 l0 I
  · refine r_const (x := 110) rfl rfl ?_
    refine r_goto rfl ?_
    exact AfT_takesOperator_J14 l0 l1 110 l0 I
noncomputable def fT_takesClosing_J32 (P : am_Q) (l0 : Nat) (I : am_M) : Option (Int32 × am_M) :=
  sm_ck (am_t l0 = 10) <|
  sm_bd (am_up I l0 9 ((I l0 9) - 1)) fun I6 =>
  sm_bd (am_up I6 l0 8 4) fun I7 =>
  some (1, I7)
set_option maxRecDepth 100000 in
theorem AfT_takesClosing_J32 {dp : Nat} {P : am_Q} {nx : Nat} {sl : Nat} (l0 : Nat) (I : am_M) : sm (dp + 2) am_d54 32 [some (.inr l0)] [] (I, P, nx, sl) (sm_g1 P nx sl) (fT_takesClosing_J32 P l0 I) := by
  unfold fT_takesClosing_J32
  refine r_ck (fun h5 => ?_)
  refine r_aload rfl rfl (am_nz h5) ?_
  refine r_dup rfl ?_
  refine r_getI rfl h5 ?_
  refine r_const (x := 1) rfl rfl ?_
  refine r_bin (z := (I l0 9) - 1) rfl rfl (by decide) ?_
  refine r_putI rfl h5 (fun hz => absurd hz (by decide)) (fun I6 => ?_)
  refine r_aload rfl rfl (am_nz h5) ?_
  refine r_const (x := 4) rfl rfl ?_
  refine r_putI rfl h5 (fun hz => absurd hz (by decide)) (fun I7 => ?_)
  refine r_const (x := 1) rfl rfl ?_
  exact r_ireturn rfl (Or.inr ⟨rfl, sm_011⟩) rfl
noncomputable def fT_takesClosing (P : am_Q) (l0 : Nat) (I : am_M) : Option (Int32 × am_M) :=
  sm_ck (am_t l0 = 10) <|
  if ¬ (I l0 9) = 0 then
    (Option.bind (fT_putWaiting P l0 110 I) fun y3 =>
    if (y3 l0 5) ≤ 0 then
      (fT_takesClosing_J32 P l0 y3)
    else
      (sm_bd (am_up y3 l0 5 ((y3 l0 5) - 1)) fun I8 =>
      fT_takesClosing_J32 P l0 I8))
  else
    (some (0, I))
set_option maxRecDepth 100000 in
theorem AfT_takesClosing {dp : Nat} {P : am_Q} {nx : Nat} {sl : Nat} {I : am_M} {l0 : Nat} {y : Int32 × am_M} (hy : fT_takesClosing P l0 I = some y) : sm_T (dp + 3) 54 [.inr l0] (I, P, nx, sl) ((sm_g1 P nx sl) y) := by
  refine r_meth (d := am_d54) (dp := dp + 2) (ls0 := [some (.inr l0)]) rfl (by decide) rfl rfl ?_ hy
  unfold fT_takesClosing
  refine r_ck (fun h1 => ?_)
  refine r_aload rfl rfl (am_nz h1) ?_
  refine r_getI rfl h1 ?_
  refine r_if rfl rfl (fun c2 => ?_) (fun c2 => ?_)
  · refine r_aload rfl rfl (am_nz h1) ?_
    refine r_const (x := 110) rfl rfl ?_
    refine r_call2 rfl rfl h1 (fun y hy => AfT_putWaiting (dp := dp + 0) hy) (fun y3 => ?_)
    refine r_aload rfl rfl (am_nz h1) ?_
    refine r_getI rfl h1 ?_
    refine r_if rfl rfl (fun c4 => ?_) (fun c4 => ?_)
    · exact AfT_takesClosing_J32 l0 y3
    · refine r_aload rfl rfl (am_nz h1) ?_
      refine r_dup rfl ?_
      refine r_getI rfl h1 ?_
      refine r_const (x := 1) rfl rfl ?_
      refine r_bin (z := (y3 l0 5) - 1) rfl rfl (by decide) ?_
      refine r_putI rfl h1 (fun hz => absurd hz (by decide)) (fun I8 => ?_)
      exact AfT_takesClosing_J32 l0 I8
  · refine r_const (x := 0) rfl rfl ?_
    exact r_ireturn rfl (Or.inr ⟨rfl, sm_010⟩) rfl
noncomputable def fT_closeLine (P : am_Q) (l0 : Nat) (I : am_M) : Option (am_M) :=
  sm_ck (am_t l0 = 10) <|
  sm_ck (sm_iw (P l0 6) (I l0 11)) <|
  sm_bd (am_up I (P l0 6) (I l0 11).toNatClampNeg (I l0 12)) fun I3 =>
  sm_ck (sm_iw (P l0 7) (I3 l0 11)) <|
  sm_bd (am_up I3 (P l0 7) (I3 l0 11).toNatClampNeg (I3 l0 3)) fun I5 =>
  sm_bd (am_up I5 l0 12 (I5 l0 3)) fun I6 =>
  sm_bd (am_up I6 l0 10 ((I6 l0 10) + 1)) fun I7 =>
  some I7
set_option maxRecDepth 100000 in
theorem AfT_closeLine {dp : Nat} {P : am_Q} {nx : Nat} {sl : Nat} {I : am_M} {l0 : Nat} {y : am_M} (hy : fT_closeLine P l0 I = some y) : sm_T (dp + 1) 56 [.inr l0] (I, P, nx, sl) ((sm_g2 P nx sl) y) := by
  refine r_meth (d := am_d56) (dp := dp + 0) (ls0 := [some (.inr l0)]) rfl (by decide) rfl rfl ?_ hy
  unfold fT_closeLine
  refine r_ck (fun h1 => ?_)
  refine r_aload rfl rfl (am_nz h1) ?_
  refine r_getP rfl h1 ?_
  refine r_aload rfl rfl (am_nz h1) ?_
  refine r_getI rfl h1 ?_
  refine r_aload rfl rfl (am_nz h1) ?_
  refine r_getI rfl h1 ?_
  refine r_ck (fun h2 => ?_)
  refine r_iast rfl h2 (fun I3 => ?_)
  refine r_aload rfl rfl (am_nz h1) ?_
  refine r_getP rfl h1 ?_
  refine r_aload rfl rfl (am_nz h1) ?_
  refine r_getI rfl h1 ?_
  refine r_aload rfl rfl (am_nz h1) ?_
  refine r_getI rfl h1 ?_
  refine r_ck (fun h4 => ?_)
  refine r_iast rfl h4 (fun I5 => ?_)
  refine r_aload rfl rfl (am_nz h1) ?_
  refine r_aload rfl rfl (am_nz h1) ?_
  refine r_getI rfl h1 ?_
  refine r_putI rfl h1 (fun hz => absurd hz (by decide)) (fun I6 => ?_)
  refine r_aload rfl rfl (am_nz h1) ?_
  refine r_dup rfl ?_
  refine r_getI rfl h1 ?_
  refine r_const (x := 1) rfl rfl ?_
  refine r_bin (z := (I6 l0 10) + 1) rfl rfl (by decide) ?_
  refine r_putI rfl h1 (fun hz => absurd hz (by decide)) (fun I7 => ?_)
  exact r_return rfl rfl
noncomputable def fT_takesLineEnd (P : am_Q) (l0 : Nat) (I : am_M) : Option (Int32 × am_M) :=
  sm_ck (am_t l0 = 10) <|
  if 0 < (I l0 9) then
    (some (0, I))
  else
    (if ((I l0 10) + 1) < 6 then
      (Option.bind (fT_putWaiting P l0 110 I) fun y4 =>
      Option.bind (fT_closeLine P l0 y4) fun y5 =>
      sm_bd (am_up y5 l0 8 0) fun I6 =>
      some (1, I6))
    else
      (some (0, I)))
set_option maxRecDepth 100000 in
theorem AfT_takesLineEnd {dp : Nat} {P : am_Q} {nx : Nat} {sl : Nat} {I : am_M} {l0 : Nat} {y : Int32 × am_M} (hy : fT_takesLineEnd P l0 I = some y) : sm_T (dp + 3) 55 [.inr l0] (I, P, nx, sl) ((sm_g1 P nx sl) y) := by
  refine r_meth (d := am_d55) (dp := dp + 2) (ls0 := [some (.inr l0)]) rfl (by decide) rfl rfl ?_ hy
  unfold fT_takesLineEnd
  refine r_ck (fun h1 => ?_)
  refine r_aload rfl rfl (am_nz h1) ?_
  refine r_getI rfl h1 ?_
  refine r_if rfl rfl (fun c2 => ?_) (fun c2 => ?_)
  · refine r_const (x := 0) rfl rfl ?_
    exact r_ireturn rfl (Or.inr ⟨rfl, sm_010⟩) rfl
  · refine r_aload rfl rfl (am_nz h1) ?_
    refine r_getI rfl h1 ?_
    refine r_const (x := 1) rfl rfl ?_
    refine r_bin (z := (I l0 10) + 1) rfl rfl (by decide) ?_
    refine r_const (x := 6) rfl rfl ?_
    refine r_icmp rfl rfl (fun c3 => ?_) (fun c3 => ?_)
    · refine r_aload rfl rfl (am_nz h1) ?_
      refine r_const (x := 110) rfl rfl ?_
      refine r_call2 rfl rfl h1 (fun y hy => AfT_putWaiting (dp := dp + 0) hy) (fun y4 => ?_)
      refine r_aload rfl rfl (am_nz h1) ?_
      refine r_call2 rfl rfl h1 (fun y hy => AfT_closeLine (dp := dp + 1) hy) (fun y5 => ?_)
      refine r_aload rfl rfl (am_nz h1) ?_
      refine r_const (x := 0) rfl rfl ?_
      refine r_putI rfl h1 (fun hz => absurd hz (by decide)) (fun I6 => ?_)
      refine r_const (x := 1) rfl rfl ?_
      exact r_ireturn rfl (Or.inr ⟨rfl, sm_011⟩) rfl
    · refine r_const (x := 0) rfl rfl ?_
      exact r_ireturn rfl (Or.inr ⟨rfl, sm_010⟩) rfl
