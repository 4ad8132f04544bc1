noncomputable def fX_left_J16 (P : am_Q) (l0 : Nat) (l1 : Int32) (I : am_M) : Option (Int32 × am_M) :=
  sm_ck (am_t l0 = 12) <|
  sm_ck (am_t (P l0 0) = 11) <|
  if 0 ≤ (I (P l0 0) 4) then
    (if ¬ l1 = 0 then
      (some (I (P l0 0) 5, I))
    else
      (some (I (P l0 0) 4, I)))
  else
    (Option.bind (fX_found P l0 ((-1000004)) I) fun y6 =>
    some (y6.1, y6.2))
set_option maxRecDepth 100000 in
theorem AfX_left_J16 {dp : Nat} {P : am_Q} {nx : Nat} {sl : Nat} (l0 : Nat) (l1 : Int32) (I : am_M) : sm (dp + 1) am_d110 16 [some (.inr l0), some (.inl l1)] [] (I, P, nx, sl) (sm_g1 P nx sl) (fX_left_J16 P l0 l1 I) := by
  unfold fX_left_J16
  refine r_ck (fun h2 => ?_)
  refine r_aload rfl rfl (am_nz h2) ?_
  refine r_getP rfl h2 ?_
  refine r_ck (fun h3 => ?_)
  refine r_getI rfl h3 ?_
  refine r_if rfl rfl (fun c4 => ?_) (fun c4 => ?_)
  · refine r_iload rfl rfl ?_
    refine r_if rfl rfl (fun c5 => ?_) (fun c5 => ?_)
    · refine r_aload rfl rfl (am_nz h2) ?_
      refine r_getP rfl h2 ?_
      refine r_getI rfl h3 ?_
      exact r_ireturn rfl (Or.inl rfl) rfl
    · refine r_aload rfl rfl (am_nz h2) ?_
      refine r_getP rfl h2 ?_
      refine r_getI rfl h3 ?_
      refine r_goto rfl ?_
      exact r_ireturn rfl (Or.inl rfl) rfl
  · refine r_aload rfl rfl (am_nz h2) ?_
    refine r_const (x := (-1000004)) rfl rfl ?_
    refine r_call1 rfl rfl h2 (fun y hy => AfX_found (dp := dp + 0) hy) (fun y6 => ?_)
    exact r_ireturn rfl (Or.inl rfl) rfl
noncomputable def fX_left (P : am_Q) (l0 : Nat) (l1 : Int32) (I : am_M) : Option (Int32 × am_M) :=
  if l1 = 0 then
    (fX_left_J16 P l0 l1 I)
  else
    (if l1 = 1 then
      (fX_left_J16 P l0 l1 I)
    else
      (sm_ck (am_t l0 = 12) <|
      Option.bind (fX_found P l0 ((-1000001)) I) fun y9 =>
      some (y9.1, y9.2)))
set_option maxRecDepth 100000 in
theorem AfX_left {dp : Nat} {P : am_Q} {nx : Nat} {sl : Nat} {I : am_M} {l0 : Nat} {l1 : Int32} {y : Int32 × am_M} (hy : fX_left P l0 l1 I = some y) : sm_T (dp + 2) 110 [.inr l0, .inl l1] (I, P, nx, sl) ((sm_g1 P nx sl) y) := by
  refine r_meth (d := am_d110) (dp := dp + 1) (ls0 := [some (.inr l0), some (.inl l1)]) rfl (by decide) rfl rfl ?_ hy
  unfold fX_left
  refine r_iload rfl rfl ?_
  refine r_if rfl rfl (fun c1 => ?_) (fun c1 => ?_)
  · exact AfX_left_J16 l0 l1 I
  · refine r_iload rfl rfl ?_
    refine r_const (x := 1) rfl rfl ?_
    refine r_icmp rfl rfl (fun c7 => ?_) (fun c7 => ?_)
    · exact AfX_left_J16 l0 l1 I
    · refine r_ck (fun h8 => ?_)
      refine r_aload rfl rfl (am_nz h8) ?_
      refine r_const (x := (-1000001)) rfl rfl ?_
      refine r_call1 rfl rfl h8 (fun y hy => AfX_found (dp := dp + 0) hy) (fun y9 => ?_)
      exact r_ireturn rfl (Or.inl rfl) rfl
noncomputable def fX_off (l0 : Nat) (I : am_M) (P : am_Q) (nx : Nat) (sl : Nat) : Option (Int32 × am_S) :=
  sm_ck (am_t l0 = 12) <|
  sm_ck (am_t (P l0 1) = 11) <|
  Option.bind (fW_copyFrom (P l0 1) (P l0 0) I P nx sl) fun y3 =>
  sm_ck (am_t (y3.2.1 l0 10) = 3) <|
  Option.bind (fH_pass y3.2.1 (y3.2.1 l0 10) (y3.2.1 l0 1) y3.1) fun y5 =>
  some (y5.1, y5.2, y3.2.1, y3.2.2.1, y3.2.2.2)
set_option maxRecDepth 100000 in
theorem AfX_off {dp : Nat}  {I : am_M} {P : am_Q} {nx : Nat} {sl : Nat} {l0 : Nat} {y : Int32 × am_S} (hy : fX_off l0 I P nx sl = some y) : sm_T (dp + 6) 111 [.inr l0] (I, P, nx, sl) (sm_g3 y) := by
  refine r_meth (d := am_d111) (dp := dp + 5) (ls0 := [some (.inr l0)]) rfl (by decide) rfl rfl ?_ hy
  unfold fX_off
  refine r_ck (fun h1 => ?_)
  refine r_aload rfl rfl (am_nz h1) ?_
  refine r_getP rfl h1 ?_
  refine r_aload rfl rfl (am_nz h1) ?_
  refine r_getP rfl h1 ?_
  refine r_ck (fun h2 => ?_)
  refine r_call4 rfl rfl h2 (fun y hy => AfW_copyFrom (dp := dp + 3) hy) (fun y3 => ?_)
  refine r_aload rfl rfl (am_nz h1) ?_
  refine r_getP rfl h1 ?_
  refine r_aload rfl rfl (am_nz h1) ?_
  refine r_getP rfl h1 ?_
  refine r_ck (fun h4 => ?_)
  refine r_call1 rfl rfl h4 (fun y hy => AfH_pass (dp := dp + 0) hy) (fun y5 => ?_)
  exact r_ireturn rfl (Or.inl rfl) rfl
noncomputable def fH_swap (P : am_Q) (l0 : Nat) (l1 : Int32) (l2 : Int32) (I : am_M) : Option (am_M) :=
  sm_ck (am_t l0 = 3) <|
  sm_ck (sm_in (P l0 1) l1) <|
  sm_bd (I (P l0 1) l1.toNatClampNeg) fun x3 =>
  sm_ck (sm_in (P l0 1) l2) <|
  sm_ck (sm_iw (P l0 1) l1) <|
  sm_bd (am_up I (P l0 1) l1.toNatClampNeg (I (P l0 1) l2.toNatClampNeg)) fun I6 =>
  sm_ck (sm_iw (P l0 1) l2) <|
  sm_bd (am_up I6 (P l0 1) l2.toNatClampNeg x3) fun I8 =>
  some I8
set_option maxRecDepth 100000 in
theorem AfH_swap {dp : Nat} {P : am_Q} {nx : Nat} {sl : Nat} {I : am_M} {l0 : Nat} {l1 : Int32} {l2 : Int32} {y : am_M} (hy : fH_swap P l0 l1 l2 I = some y) : sm_T (dp + 1) 115 [.inr l0, .inl l1, .inl l2] (I, P, nx, sl) ((sm_g2 P nx sl) y) := by
  refine r_meth (d := am_d115) (dp := dp + 0) (ls0 := [some (.inr l0), some (.inl l1), some (.inl l2), none]) rfl (by decide) rfl rfl ?_ hy
  unfold fH_swap
  refine r_ck (fun h1 => ?_)
  refine r_aload rfl rfl (am_nz h1) ?_
  refine r_getP rfl h1 ?_
  refine r_iload rfl rfl ?_
  refine r_ck (fun h2 => ?_)
  refine r_iald rfl h2 ?_
  refine r_bd (fun x3 => ?_)
  refine r_istore (ls' := [some (.inr l0), some (.inl l1), some (.inl l2), some (.inl x3)]) rfl (Nat.le_of_ble_eq_true rfl) rfl ?_
  refine r_aload rfl rfl (am_nz h1) ?_
  refine r_getP rfl h1 ?_
  refine r_iload rfl rfl ?_
  refine r_aload rfl rfl (am_nz h1) ?_
  refine r_getP rfl h1 ?_
  refine r_iload rfl rfl ?_
  refine r_ck (fun h4 => ?_)
  refine r_iald rfl h4 ?_
  refine r_ck (fun h5 => ?_)
  refine r_iast rfl h5 (fun I6 => ?_)
  refine r_aload rfl rfl (am_nz h1) ?_
  refine r_getP rfl h1 ?_
  refine r_iload rfl rfl ?_
  refine r_iload rfl rfl ?_
  refine r_ck (fun h7 => ?_)
  refine r_iast rfl h7 (fun I8 => ?_)
  exact r_return rfl rfl
noncomputable def fH_nextRow_B4 (P : am_Q) (e4_31 : Nat → Int32 → Int32 → am_M → Option (am_M)) (r4 : Nat → Int32 → Int32 → am_M → Option (am_M)) (l0 : Nat) (l1 : Int32) (l2 : Int32) (I : am_M) : Option (am_M) :=
  if l2 < 0 then
    (e4_31 l0 l1 l2 I)
  else
    (sm_ck (am_t l0 = 3) <|
    sm_ck (sm_in (P l0 1) l2) <|
    sm_ck (sm_in (P l0 1) (l2 + 1)) <|
    if (I (P l0 1) l2.toNatClampNeg) ≤ (I (P l0 1) (l2 + 1).toNatClampNeg) then
      (e4_31 l0 l1 l2 I)
    else
      (sm_bd (l2 + (-1)) fun x7 =>
      r4 l0 l1 x7 I))
set_option maxRecDepth 100000 in
theorem AfH_nextRow_B4 {dp : Nat} {P : am_Q} {nx : Nat} {sl : Nat} {e4_31 : Nat → Int32 → Int32 → am_M → Option (am_M)} {r4 : Nat → Int32 → Int32 → am_M → Option (am_M)} (he4_31 : ∀ (l0 : Nat) (l1 : Int32) (l2 : Int32) (I : am_M) (o3 : Option am_V) (o4 : Option am_V) (o5 : Option am_V), sm (dp + 1) am_d114 31 [some (.inr l0), some (.inl l1), some (.inl l2), o3, o4, o5] [] (I, P, nx, sl) (sm_g2 P nx sl) (e4_31 l0 l1 l2 I)) (hr4 : ∀ (l0 : Nat) (l1 : Int32) (l2 : Int32) (I : am_M) (o3 : Option am_V) (o4 : Option am_V) (o5 : Option am_V), sm (dp + 1) am_d114 4 [some (.inr l0), some (.inl l1), some (.inl l2), o3, o4, o5] [] (I, P, nx, sl) (sm_g2 P nx sl) (r4 l0 l1 l2 I)) (l0 : Nat) (l1 : Int32) (l2 : Int32) (I : am_M) (o3 : Option am_V) (o4 : Option am_V) (o5 : Option am_V) : sm (dp + 1) am_d114 4 [some (.inr l0), some (.inl l1), some (.inl l2), o3, o4, o5] [] (I, P, nx, sl) (sm_g2 P nx sl) (fH_nextRow_B4 P e4_31 r4 l0 l1 l2 I) := by
  unfold fH_nextRow_B4
  refine r_iload rfl rfl ?_
  refine r_if rfl rfl (fun c2 => ?_) (fun c2 => ?_)
  · exact he4_31 l0 l1 l2 I o3 o4 o5
  · refine r_ck (fun h3 => ?_)
    refine r_aload rfl rfl (am_nz h3) ?_
    refine r_getP rfl h3 ?_
    refine r_iload rfl rfl ?_
    refine r_ck (fun h4 => ?_)
    refine r_iald rfl h4 ?_
    refine r_aload rfl rfl (am_nz h3) ?_
    refine r_getP rfl h3 ?_
    refine r_iload rfl rfl ?_
    refine r_const (x := 1) rfl rfl ?_
    refine r_bin (z := l2 + 1) rfl rfl (by decide) ?_
    refine r_ck (fun h5 => ?_)
    refine r_iald rfl h5 ?_
    refine r_icmp rfl rfl (fun c6 => ?_) (fun c6 => ?_)
    · exact he4_31 l0 l1 l2 I o3 o4 o5
    · refine r_iinc (e := l2 + (-1)) (ls' := fun x7 => [some (.inr l0), some (.inl l1), some (.inl x7), o3, o4, o5]) rfl rfl rfl (fun _ => rfl) (fun x7 => ?_)
      refine r_goto rfl ?_
      exact hr4 l0 l1 x7 I o3 o4 o5
noncomputable def fH_nextRow_L4 (P : am_Q) (e4_31 : Nat → Int32 → Int32 → am_M → Option (am_M)) : Nat → Nat → Int32 → Int32 → am_M → Option (am_M)
  | 0, _, _, _, _ => none
  | n + 1, l0, l1, l2, I => fH_nextRow_B4 P e4_31 (fH_nextRow_L4 P e4_31 n) l0 l1 l2 I
theorem AfH_nextRow_L4 {dp : Nat} {P : am_Q} {nx : Nat} {sl : Nat} {e4_31 : Nat → Int32 → Int32 → am_M → Option (am_M)} (he4_31 : ∀ (l0 : Nat) (l1 : Int32) (l2 : Int32) (I : am_M) (o3 : Option am_V) (o4 : Option am_V) (o5 : Option am_V), sm (dp + 1) am_d114 31 [some (.inr l0), some (.inl l1), some (.inl l2), o3, o4, o5] [] (I, P, nx, sl) (sm_g2 P nx sl) (e4_31 l0 l1 l2 I)) (n : Nat) : ∀ (l0 : Nat) (l1 : Int32) (l2 : Int32) (I : am_M) (o3 : Option am_V) (o4 : Option am_V) (o5 : Option am_V), sm (dp + 1) am_d114 4 [some (.inr l0), some (.inl l1), some (.inl l2), o3, o4, o5] [] (I, P, nx, sl) (sm_g2 P nx sl) (fH_nextRow_L4 P e4_31 n l0 l1 l2 I) := by
  induction n with
  | zero => intro l0 l1 l2 I o3 o4 o5; exact sm_none
  | succ n ih => intro l0 l1 l2 I o3 o4 o5; exact AfH_nextRow_B4 he4_31 ih l0 l1 l2 I o3 o4 o5
noncomputable def fH_nextRow_B40 (P : am_Q) (e40_66 : Nat → Int32 → Int32 → Int32 → am_M → Option (am_M)) (r40 : Nat → Int32 → Int32 → Int32 → am_M → Option (am_M)) (l0 : Nat) (l1 : Int32) (l2 : Int32) (l3 : Int32) (I : am_M) : Option (am_M) :=
  if l3 ≤ l2 then
    (e40_66 l0 l1 l2 l3 I)
  else
    (sm_ck (am_t l0 = 3) <|
    sm_ck (sm_in (P l0 1) l3) <|
    sm_ck (sm_in (P l0 1) l2) <|
    if (I (P l0 1) l2.toNatClampNeg) ≤ (I (P l0 1) l3.toNatClampNeg) then
      (e40_66 l0 l1 l2 l3 I)
    else
      (sm_bd (l3 + (-1)) fun x15 =>
      r40 l0 l1 l2 x15 I))
set_option maxRecDepth 100000 in
theorem AfH_nextRow_B40 {dp : Nat} {P : am_Q} {nx : Nat} {sl : Nat} {e40_66 : Nat → Int32 → Int32 → Int32 → am_M → Option (am_M)} {r40 : Nat → Int32 → Int32 → Int32 → am_M → Option (am_M)} (he40_66 : ∀ (l0 : Nat) (l1 : Int32) (l2 : Int32) (l3 : Int32) (I : am_M) (o4 : Option am_V) (o5 : Option am_V), sm (dp + 1) am_d114 66 [some (.inr l0), some (.inl l1), some (.inl l2), some (.inl l3), o4, o5] [] (I, P, nx, sl) (sm_g2 P nx sl) (e40_66 l0 l1 l2 l3 I)) (hr40 : ∀ (l0 : Nat) (l1 : Int32) (l2 : Int32) (l3 : Int32) (I : am_M) (o4 : Option am_V) (o5 : Option am_V), sm (dp + 1) am_d114 40 [some (.inr l0), some (.inl l1), some (.inl l2), some (.inl l3), o4, o5] [] (I, P, nx, sl) (sm_g2 P nx sl) (r40 l0 l1 l2 l3 I)) (l0 : Nat) (l1 : Int32) (l2 : Int32) (l3 : Int32) (I : am_M) (o4 : Option am_V) (o5 : Option am_V) : sm (dp + 1) am_d114 40 [some (.inr l0), some (.inl l1), some (.inl l2), some (.inl l3), o4, o5] [] (I, P, nx, sl) (sm_g2 P nx sl) (fH_nextRow_B40 P e40_66 r40 l0 l1 l2 l3 I) := by
  unfold fH_nextRow_B40
  refine r_iload rfl rfl ?_
  refine r_iload rfl rfl ?_
  refine r_icmp rfl rfl (fun c10 => ?_) (fun c10 => ?_)
  · exact he40_66 l0 l1 l2 l3 I o4 o5
  · refine r_ck (fun h11 => ?_)
    refine r_aload rfl rfl (am_nz h11) ?_
    refine r_getP rfl h11 ?_
    refine r_iload rfl rfl ?_
    refine r_ck (fun h12 => ?_)
    refine r_iald rfl h12 ?_
    refine r_aload rfl rfl (am_nz h11) ?_
    refine r_getP rfl h11 ?_
    refine r_iload rfl rfl ?_
    refine r_ck (fun h13 => ?_)
    refine r_iald rfl h13 ?_
    refine r_icmp rfl rfl (fun c14 => ?_) (fun c14 => ?_)
    · exact he40_66 l0 l1 l2 l3 I o4 o5
    · refine r_iinc (e := l3 + (-1)) (ls' := fun x15 => [some (.inr l0), some (.inl l1), some (.inl l2), some (.inl x15), o4, o5]) rfl rfl rfl (fun _ => rfl) (fun x15 => ?_)
      refine r_goto rfl ?_
      exact hr40 l0 l1 l2 x15 I o4 o5
noncomputable def fH_nextRow_L40 (P : am_Q) (e40_66 : Nat → Int32 → Int32 → Int32 → am_M → Option (am_M)) : Nat → Nat → Int32 → Int32 → Int32 → am_M → Option (am_M)
  | 0, _, _, _, _, _ => none
  | n + 1, l0, l1, l2, l3, I => fH_nextRow_B40 P e40_66 (fH_nextRow_L40 P e40_66 n) l0 l1 l2 l3 I
theorem AfH_nextRow_L40 {dp : Nat} {P : am_Q} {nx : Nat} {sl : Nat} {e40_66 : Nat → Int32 → Int32 → Int32 → am_M → Option (am_M)} (he40_66 : ∀ (l0 : Nat) (l1 : Int32) (l2 : Int32) (l3 : Int32) (I : am_M) (o4 : Option am_V) (o5 : Option am_V), sm (dp + 1) am_d114 66 [some (.inr l0), some (.inl l1), some (.inl l2), some (.inl l3), o4, o5] [] (I, P, nx, sl) (sm_g2 P nx sl) (e40_66 l0 l1 l2 l3 I)) (n : Nat) : ∀ (l0 : Nat) (l1 : Int32) (l2 : Int32) (l3 : Int32) (I : am_M) (o4 : Option am_V) (o5 : Option am_V), sm (dp + 1) am_d114 40 [some (.inr l0), some (.inl l1), some (.inl l2), some (.inl l3), o4, o5] [] (I, P, nx, sl) (sm_g2 P nx sl) (fH_nextRow_L40 P e40_66 n l0 l1 l2 l3 I) := by
  induction n with
  | zero => intro l0 l1 l2 l3 I o4 o5; exact sm_none
  | succ n ih => intro l0 l1 l2 l3 I o4 o5; exact AfH_nextRow_B40 he40_66 ih l0 l1 l2 l3 I o4 o5
noncomputable def fH_nextRow_B82 (P : am_Q) (e82_106 : am_M → Option (am_M)) (r82 : Nat → Int32 → Int32 → am_M → Option (am_M)) (l0 : Nat) (l4 : Int32) (l5 : Int32) (I : am_M) : Option (am_M) :=
  if l5 ≤ l4 then
    (e82_106 I)
  else
    (sm_ck (am_t l0 = 3) <|
    Option.bind (fH_swap P l0 l4 l5 I) fun y22 =>
    sm_bd (l4 + 1) fun x23 =>
    sm_bd (l5 + (-1)) fun x24 =>
    r82 l0 x23 x24 y22)
set_option maxRecDepth 100000 in
theorem AfH_nextRow_B82 {dp : Nat} {P : am_Q} {nx : Nat} {sl : Nat} {e82_106 : am_M → Option (am_M)} {r82 : Nat → Int32 → Int32 → am_M → Option (am_M)} (he82_106 : ∀ (I : am_M) (o0 : Option am_V) (o1 : Option am_V) (o2 : Option am_V) (o3 : Option am_V) (o4 : Option am_V) (o5 : Option am_V), sm (dp + 1) am_d114 106 [o0, o1, o2, o3, o4, o5] [] (I, P, nx, sl) (sm_g2 P nx sl) (e82_106 I)) (hr82 : ∀ (l0 : Nat) (l4 : Int32) (l5 : Int32) (I : am_M) (o1 : Option am_V) (o2 : Option am_V) (o3 : Option am_V), sm (dp + 1) am_d114 82 [some (.inr l0), o1, o2, o3, some (.inl l4), some (.inl l5)] [] (I, P, nx, sl) (sm_g2 P nx sl) (r82 l0 l4 l5 I)) (l0 : Nat) (l4 : Int32) (l5 : Int32) (I : am_M) (o1 : Option am_V) (o2 : Option am_V) (o3 : Option am_V) : sm (dp + 1) am_d114 82 [some (.inr l0), o1, o2, o3, some (.inl l4), some (.inl l5)] [] (I, P, nx, sl) (sm_g2 P nx sl) (fH_nextRow_B82 P e82_106 r82 l0 l4 l5 I) := by
  unfold fH_nextRow_B82
  refine r_iload rfl rfl ?_
  refine r_iload rfl rfl ?_
  refine r_icmp rfl rfl (fun c20 => ?_) (fun c20 => ?_)
  · exact he82_106 I (some (.inr l0)) o1 o2 o3 (some (.inl l4)) (some (.inl l5))
  · refine r_ck (fun h21 => ?_)
    refine r_aload rfl rfl (am_nz h21) ?_
    refine r_iload rfl rfl ?_
    refine r_iload rfl rfl ?_
    refine r_call2 rfl rfl h21 (fun y hy => AfH_swap (dp := dp + 0) hy) (fun y22 => ?_)
    refine r_iinc (e := l4 + 1) (ls' := fun x23 => [some (.inr l0), o1, o2, o3, some (.inl x23), some (.inl l5)]) rfl rfl rfl (fun _ => rfl) (fun x23 => ?_)
    refine r_iinc (e := l5 + (-1)) (ls' := fun x24 => [some (.inr l0), o1, o2, o3, some (.inl x23), some (.inl x24)]) rfl rfl rfl (fun _ => rfl) (fun x24 => ?_)
    refine r_goto rfl ?_
    exact hr82 l0 x23 x24 y22 o1 o2 o3
noncomputable def fH_nextRow_L82 (P : am_Q) (e82_106 : am_M → Option (am_M)) : Nat → Nat → Int32 → Int32 → am_M → Option (am_M)
  | 0, _, _, _, _ => none
  | n + 1, l0, l4, l5, I => fH_nextRow_B82 P e82_106 (fH_nextRow_L82 P e82_106 n) l0 l4 l5 I
theorem AfH_nextRow_L82 {dp : Nat} {P : am_Q} {nx : Nat} {sl : Nat} {e82_106 : am_M → Option (am_M)} (he82_106 : ∀ (I : am_M) (o0 : Option am_V) (o1 : Option am_V) (o2 : Option am_V) (o3 : Option am_V) (o4 : Option am_V) (o5 : Option am_V), sm (dp + 1) am_d114 106 [o0, o1, o2, o3, o4, o5] [] (I, P, nx, sl) (sm_g2 P nx sl) (e82_106 I)) (n : Nat) : ∀ (l0 : Nat) (l4 : Int32) (l5 : Int32) (I : am_M) (o1 : Option am_V) (o2 : Option am_V) (o3 : Option am_V), sm (dp + 1) am_d114 82 [some (.inr l0), o1, o2, o3, some (.inl l4), some (.inl l5)] [] (I, P, nx, sl) (sm_g2 P nx sl) (fH_nextRow_L82 P e82_106 n l0 l4 l5 I) := by
  induction n with
  | zero => intro l0 l4 l5 I o1 o2 o3; exact sm_none
  | succ n ih => intro l0 l4 l5 I o1 o2 o3; exact AfH_nextRow_B82 he82_106 ih l0 l4 l5 I o1 o2 o3
noncomputable def fH_nextRow_J66 (P : am_Q) (l0 : Nat) (l1 : Int32) (l2 : Int32) (l3 : Int32) (I : am_M) : Option (am_M) :=
  sm_ck (am_t l0 = 3) <|
  Option.bind (fH_swap P l0 l2 l3 I) fun y17 =>
  sm_bd (l2 + 1) fun x18 =>
  sm_bd (l1 - 1) fun x19 =>
  fH_nextRow_L82 P (fun I =>
      some I) sm_fu l0 x18 x19 y17
set_option maxRecDepth 100000 in
theorem AfH_nextRow_J66 {dp : Nat} {P : am_Q} {nx : Nat} {sl : Nat} (l0 : Nat) (l1 : Int32) (l2 : Int32) (l3 : Int32) (I : am_M) (o4 : Option am_V) (o5 : Option am_V) : sm (dp + 1) am_d114 66 [some (.inr l0), some (.inl l1), some (.inl l2), some (.inl l3), o4, o5] [] (I, P, nx, sl) (sm_g2 P nx sl) (fH_nextRow_J66 P l0 l1 l2 l3 I) := by
  unfold fH_nextRow_J66
  refine r_ck (fun h16 => ?_)
  refine r_aload rfl rfl (am_nz h16) ?_
  refine r_iload rfl rfl ?_
  refine r_iload rfl rfl ?_
  refine r_call2 rfl rfl h16 (fun y hy => AfH_swap (dp := dp + 0) hy) (fun y17 => ?_)
  refine r_iload rfl rfl ?_
  refine r_const (x := 1) rfl rfl ?_
  refine r_bin (z := l2 + 1) rfl rfl (by decide) ?_
  refine r_bd (fun x18 => ?_)
  refine r_istore (ls' := [some (.inr l0), some (.inl l1), some (.inl l2), some (.inl l3), some (.inl x18), o5]) rfl (Nat.le_of_ble_eq_true rfl) rfl ?_
  refine r_iload rfl rfl ?_
  refine r_const (x := 1) rfl rfl ?_
  refine r_bin (z := l1 - 1) rfl rfl (by decide) ?_
  refine r_bd (fun x19 => ?_)
  refine r_istore (ls' := [some (.inr l0), some (.inl l1), some (.inl l2), some (.inl l3), some (.inl x18), some (.inl x19)]) rfl (Nat.le_of_ble_eq_true rfl) rfl ?_
  refine AfH_nextRow_L82 ?_ sm_fu l0 x18 x19 y17 (some (.inl l1)) (some (.inl l2)) (some (.inl l3))
  · intro I o0 o1 o2 o3 o4 o5
    exact r_return rfl rfl
noncomputable def fH_nextRow_J31 (P : am_Q) (l0 : Nat) (l1 : Int32) (l2 : Int32) (I : am_M) : Option (am_M) :=
  if 0 ≤ l2 then
    (sm_bd (l1 - 1) fun x9 =>
    fH_nextRow_L40 P (fun l0 l1 l2 l3 I =>
        fH_nextRow_J66 P l0 l1 l2 l3 I) sm_fu l0 l1 l2 x9 I)
  else
    (some I)
set_option maxRecDepth 100000 in
theorem AfH_nextRow_J31 {dp : Nat} {P : am_Q} {nx : Nat} {sl : Nat} (l0 : Nat) (l1 : Int32) (l2 : Int32) (I : am_M) (o3 : Option am_V) (o4 : Option am_V) (o5 : Option am_V) : sm (dp + 1) am_d114 31 [some (.inr l0), some (.inl l1), some (.inl l2), o3, o4, o5] [] (I, P, nx, sl) (sm_g2 P nx sl) (fH_nextRow_J31 P l0 l1 l2 I) := by
  unfold fH_nextRow_J31
  refine r_iload rfl rfl ?_
  refine r_if rfl rfl (fun c8 => ?_) (fun c8 => ?_)
  · refine r_iload rfl rfl ?_
    refine r_const (x := 1) rfl rfl ?_
    refine r_bin (z := l1 - 1) rfl rfl (by decide) ?_
    refine r_bd (fun x9 => ?_)
    refine r_istore (ls' := [some (.inr l0), some (.inl l1), some (.inl l2), some (.inl x9), o4, o5]) rfl (Nat.le_of_ble_eq_true rfl) rfl ?_
    refine AfH_nextRow_L40 ?_ sm_fu l0 l1 l2 x9 I o4 o5
    · intro l0 l1 l2 l3 I o4 o5
      exact AfH_nextRow_J66 l0 l1 l2 l3 I o4 o5
  · exact r_return rfl rfl
noncomputable def fH_nextRow (P : am_Q) (l0 : Nat) (l1 : Int32) (I : am_M) : Option (am_M) :=
  sm_bd (l1 - 2) fun x1 =>
  fH_nextRow_L4 P (fun l0 l1 l2 I =>
      fH_nextRow_J31 P l0 l1 l2 I) sm_fu l0 l1 x1 I
set_option maxRecDepth 100000 in
theorem AfH_nextRow {dp : Nat} {P : am_Q} {nx : Nat} {sl : Nat} {I : am_M} {l0 : Nat} {l1 : Int32} {y : am_M} (hy : fH_nextRow P l0 l1 I = some y) : sm_T (dp + 2) 114 [.inr l0, .inl l1] (I, P, nx, sl) ((sm_g2 P nx sl) y) := by
  refine r_meth (d := am_d114) (dp := dp + 1) (ls0 := [some (.inr l0), some (.inl l1), none, none, none, none]) rfl (by decide) rfl rfl ?_ hy
  unfold fH_nextRow
  refine r_iload rfl rfl ?_
  refine r_const (x := 2) rfl rfl ?_
  refine r_bin (z := l1 - 2) rfl rfl (by decide) ?_
  refine r_bd (fun x1 => ?_)
  refine r_istore (ls' := [some (.inr l0), some (.inl l1), some (.inl x1), none, none, none]) rfl (Nat.le_of_ble_eq_true rfl) rfl ?_
  refine AfH_nextRow_L4 ?_ sm_fu l0 l1 x1 I none none none
  · intro l0 l1 l2 I o3 o4 o5
    exact AfH_nextRow_J31 l0 l1 l2 I o3 o4 o5
noncomputable def fH_findBest_B15 (e15_45 : Nat → Nat → Nat → Int32 → Int32 → am_M → am_Q → Nat → Nat → Option (Int32 × am_S)) (r15 : Nat → Nat → Nat → Int32 → Int32 → Int32 → am_M → am_Q → Nat → Nat → Option (Int32 × am_S)) (l0 : Nat) (l1 : Nat) (l2 : Nat) (l3 : Int32) (l4 : Int32) (l5 : Int32) (I : am_M) (P : am_Q) (nx : Nat) (sl : Nat) : Option (Int32 × am_S) :=
  if l3 ≤ l5 then
    (e15_45 l0 l1 l2 l3 l4 I P nx sl)
  else
    (sm_ck (am_t l0 = 3) <|
    sm_ck (sm_iw (P l0 1) l5) <|
    sm_bd (am_up I (P l0 1) l5.toNatClampNeg l5) fun I6 =>
    sm_bd (l4 * (l5 + 1)) fun x7 =>
    sm_bd (l5 + 1) fun x8 =>
    r15 l0 l1 l2 l3 x7 x8 I6 P nx sl)
set_option maxRecDepth 100000 in
theorem AfH_findBest_B15 {dp : Nat}  {e15_45 : Nat → Nat → Nat → Int32 → Int32 → am_M → am_Q → Nat → Nat → Option (Int32 × am_S)} {r15 : Nat → Nat → Nat → Int32 → Int32 → Int32 → am_M → am_Q → Nat → Nat → Option (Int32 × am_S)} (he15_45 : ∀ (l0 : Nat) (l1 : Nat) (l2 : Nat) (l3 : Int32) (l4 : Int32) (I : am_M) (P : am_Q) (nx : Nat) (sl : Nat) (o5 : Option am_V) (o6 : Option am_V) (o7 : Option am_V), sm (dp + 5) am_d113 45 [some (.inr l0), some (.inr l1), some (.inr l2), some (.inl l3), some (.inl l4), o5, o6, o7] [] (I, P, nx, sl) sm_g3 (e15_45 l0 l1 l2 l3 l4 I P nx sl)) (hr15 : ∀ (l0 : Nat) (l1 : Nat) (l2 : Nat) (l3 : Int32) (l4 : Int32) (l5 : Int32) (I : am_M) (P : am_Q) (nx : Nat) (sl : Nat) (o6 : Option am_V) (o7 : Option am_V), sm (dp + 5) am_d113 15 [some (.inr l0), some (.inr l1), some (.inr l2), some (.inl l3), some (.inl l4), some (.inl l5), o6, o7] [] (I, P, nx, sl) sm_g3 (r15 l0 l1 l2 l3 l4 l5 I P nx sl)) (l0 : Nat) (l1 : Nat) (l2 : Nat) (l3 : Int32) (l4 : Int32) (l5 : Int32) (I : am_M) (P : am_Q) (nx : Nat) (sl : Nat) (o6 : Option am_V) (o7 : Option am_V) : sm (dp + 5) am_d113 15 [some (.inr l0), some (.inr l1), some (.inr l2), some (.inl l3), some (.inl l4), some (.inl l5), o6, o7] [] (I, P, nx, sl) sm_g3 (fH_findBest_B15 e15_45 r15 l0 l1 l2 l3 l4 l5 I P nx sl) := by
  unfold fH_findBest_B15
  refine r_iload rfl rfl ?_
  refine r_iload rfl rfl ?_
  refine r_icmp rfl rfl (fun c3 => ?_) (fun c3 => ?_)
  · exact he15_45 l0 l1 l2 l3 l4 I P nx sl (some (.inl l5)) o6 o7
  · refine r_ck (fun h4 => ?_)
    refine r_aload rfl rfl (am_nz h4) ?_
    refine r_getP rfl h4 ?_
    refine r_iload rfl rfl ?_
    refine r_iload rfl rfl ?_
    refine r_ck (fun h5 => ?_)
    refine r_iast rfl h5 (fun I6 => ?_)
    refine r_iload rfl rfl ?_
    refine r_iload rfl rfl ?_
    refine r_const (x := 1) rfl rfl ?_
    refine r_bin (z := l5 + 1) rfl rfl (by decide) ?_
    refine r_bin (z := l4 * (l5 + 1)) rfl rfl (by decide) ?_
    refine r_bd (fun x7 => ?_)
    refine r_istore (ls' := [some (.inr l0), some (.inr l1), some (.inr l2), some (.inl l3), some (.inl x7), some (.inl l5), o6, o7]) rfl (Nat.le_of_ble_eq_true rfl) rfl ?_
    refine r_iinc (e := l5 + 1) (ls' := fun x8 => [some (.inr l0), some (.inr l1), some (.inr l2), some (.inl l3), some (.inl x7), some (.inl x8), o6, o7]) rfl rfl rfl (fun _ => rfl) (fun x8 => ?_)
    refine r_goto rfl ?_
    exact hr15 l0 l1 l2 l3 x7 x8 I6 P nx sl o6 o7
noncomputable def fH_findBest_L15 (e15_45 : Nat → Nat → Nat → Int32 → Int32 → am_M → am_Q → Nat → Nat → Option (Int32 × am_S)) : Nat → Nat → Nat → Nat → Int32 → Int32 → Int32 → am_M → am_Q → Nat → Nat → Option (Int32 × am_S)
  | 0, _, _, _, _, _, _, _, _, _, _ => none
  | n + 1, l0, l1, l2, l3, l4, l5, I, P, nx, sl => fH_findBest_B15 e15_45 (fH_findBest_L15 e15_45 n) l0 l1 l2 l3 l4 l5 I P nx sl
theorem AfH_findBest_L15 {dp : Nat}  {e15_45 : Nat → Nat → Nat → Int32 → Int32 → am_M → am_Q → Nat → Nat → Option (Int32 × am_S)} (he15_45 : ∀ (l0 : Nat) (l1 : Nat) (l2 : Nat) (l3 : Int32) (l4 : Int32) (I : am_M) (P : am_Q) (nx : Nat) (sl : Nat) (o5 : Option am_V) (o6 : Option am_V) (o7 : Option am_V), sm (dp + 5) am_d113 45 [some (.inr l0), some (.inr l1), some (.inr l2), some (.inl l3), some (.inl l4), o5, o6, o7] [] (I, P, nx, sl) sm_g3 (e15_45 l0 l1 l2 l3 l4 I P nx sl)) (n : Nat) : ∀ (l0 : Nat) (l1 : Nat) (l2 : Nat) (l3 : Int32) (l4 : Int32) (l5 : Int32) (I : am_M) (P : am_Q) (nx : Nat) (sl : Nat) (o6 : Option am_V) (o7 : Option am_V), sm (dp + 5) am_d113 15 [some (.inr l0), some (.inr l1), some (.inr l2), some (.inl l3), some (.inl l4), some (.inl l5), o6, o7] [] (I, P, nx, sl) sm_g3 (fH_findBest_L15 e15_45 n l0 l1 l2 l3 l4 l5 I P nx sl) := by
  induction n with
  | zero => intro l0 l1 l2 l3 l4 l5 I P nx sl o6 o7; exact sm_none
  | succ n ih => intro l0 l1 l2 l3 l4 l5 I P nx sl o6 o7; exact AfH_findBest_B15 he15_45 ih l0 l1 l2 l3 l4 l5 I P nx sl o6 o7
noncomputable def fH_findBest_J110 (r52 : Nat → Nat → Nat → Int32 → Int32 → Int32 → Int32 → am_M → am_Q → Nat → Nat → Option (Int32 × am_S)) (l0 : Nat) (l1 : Nat) (l2 : Nat) (l3 : Int32) (l4 : Int32) (l5 : Int32) (l6 : Int32) (I : am_M) (P : am_Q) (nx : Nat) (sl : Nat) : Option (Int32 × am_S) :=
  sm_ck (am_t l0 = 3) <|
  Option.bind (fH_nextRow P l0 l3 I) fun y19 =>
  sm_bd (l6 + 1) fun x20 =>
  r52 l0 l1 l2 l3 l4 l5 x20 y19 P nx sl
set_option maxRecDepth 100000 in
theorem AfH_findBest_J110 {dp : Nat}  {r52 : Nat → Nat → Nat → Int32 → Int32 → Int32 → Int32 → am_M → am_Q → Nat → Nat → Option (Int32 × am_S)} (hr52 : ∀ (l0 : Nat) (l1 : Nat) (l2 : Nat) (l3 : Int32) (l4 : Int32) (l5 : Int32) (l6 : Int32) (I : am_M) (P : am_Q) (nx : Nat) (sl : Nat) (o7 : Option am_V), sm (dp + 5) am_d113 52 [some (.inr l0), some (.inr l1), some (.inr l2), some (.inl l3), some (.inl l4), some (.inl l5), some (.inl l6), o7] [] (I, P, nx, sl) sm_g3 (r52 l0 l1 l2 l3 l4 l5 l6 I P nx sl)) (l0 : Nat) (l1 : Nat) (l2 : Nat) (l3 : Int32) (l4 : Int32) (l5 : Int32) (l6 : Int32) (I : am_M) (P : am_Q) (nx : Nat) (sl : Nat) (o7 : Option am_V) : sm (dp + 5) am_d113 110 [some (.inr l0), some (.inr l1), some (.inr l2), some (.inl l3), some (.inl l4), some (.inl l5), some (.inl l6), o7] [] (I, P, nx, sl) sm_g3 (fH_findBest_J110 r52 l0 l1 l2 l3 l4 l5 l6 I P nx sl) := by
  unfold fH_findBest_J110
  refine r_ck (fun h18 => ?_)
  refine r_aload rfl rfl (am_nz h18) ?_
  refine r_iload rfl rfl ?_
  refine r_call2 rfl rfl h18 (fun y hy => AfH_nextRow (dp := dp + 3) hy) (fun y19 => ?_)
  refine r_iinc (e := l6 + 1) (ls' := fun x20 => [some (.inr l0), some (.inr l1), some (.inr l2), some (.inl l3), some (.inl l4), some (.inl l5), some (.inl x20), o7]) rfl rfl rfl (fun _ => rfl) (fun x20 => ?_)
  refine r_goto rfl ?_
  exact hr52 l0 l1 l2 l3 l4 l5 x20 y19 P nx sl o7
noncomputable def fH_findBest_B52 (e52_121 : Int32 → am_M → am_Q → Nat → Nat → Option (Int32 × am_S)) (r52 : Nat → Nat → Nat → Int32 → Int32 → Int32 → Int32 → am_M → am_Q → Nat → Nat → Option (Int32 × am_S)) (l0 : Nat) (l1 : Nat) (l2 : Nat) (l3 : Int32) (l4 : Int32) (l5 : Int32) (l6 : Int32) (I : am_M) (P : am_Q) (nx : Nat) (sl : Nat) : Option (Int32 × am_S) :=
  if l4 ≤ l6 then
    (e52_121 l5 I P nx sl)
  else
    (sm_ck (am_t l2 = 11) <|
    sm_ck (am_t l1 = 11) <|
    Option.bind (fW_copyFrom l2 l1 I P nx sl) fun y12 =>
    sm_ck (am_t l0 = 3) <|
    sm_ck (sm_cp (y12.2.1 l0 1) 0 (y12.2.1 l2 11) 0 l3) <|
    sm_bd (am_set y12.1 (y12.2.1 l2 11) (va_cpy (y12.1 (y12.2.1 l0 1)) (y12.1 (y12.2.1 l2 11)) (0 : Int32).toNatClampNeg (0 : Int32).toNatClampNeg l3.toNatClampNeg)) fun I15 =>
    Option.bind (fH_pass y12.2.1 l0 l2 I15) fun y16 =>
    if l5 ≤ y16.1 then
      (fH_findBest_J110 r52 l0 l1 l2 l3 l4 l5 l6 y16.2 y12.2.1 y12.2.2.1 y12.2.2.2)
    else
      (sm_ck (sm_cp (y12.2.1 l0 1) 0 (y12.2.1 l0 2) 0 l3) <|
      sm_bd (am_set y16.2 (y12.2.1 l0 2) (va_cpy (y16.2 (y12.2.1 l0 1)) (y16.2 (y12.2.1 l0 2)) (0 : Int32).toNatClampNeg (0 : Int32).toNatClampNeg l3.toNatClampNeg)) fun I22 =>
      fH_findBest_J110 r52 l0 l1 l2 l3 l4 y16.1 l6 I22 y12.2.1 y12.2.2.1 y12.2.2.2))
set_option maxRecDepth 100000 in
theorem AfH_findBest_B52 {dp : Nat}  {e52_121 : Int32 → am_M → am_Q → Nat → Nat → Option (Int32 × am_S)} {r52 : Nat → Nat → Nat → Int32 → Int32 → Int32 → Int32 → am_M → am_Q → Nat → Nat → Option (Int32 × am_S)} (he52_121 : ∀ (l5 : Int32) (I : am_M) (P : am_Q) (nx : Nat) (sl : Nat) (o0 : Option am_V) (o1 : Option am_V) (o2 : Option am_V) (o3 : Option am_V) (o4 : Option am_V) (o6 : Option am_V) (o7 : Option am_V), sm (dp + 5) am_d113 121 [o0, o1, o2, o3, o4, some (.inl l5), o6, o7] [] (I, P, nx, sl) sm_g3 (e52_121 l5 I P nx sl)) (hr52 : ∀ (l0 : Nat) (l1 : Nat) (l2 : Nat) (l3 : Int32) (l4 : Int32) (l5 : Int32) (l6 : Int32) (I : am_M) (P : am_Q) (nx : Nat) (sl : Nat) (o7 : Option am_V), sm (dp + 5) am_d113 52 [some (.inr l0), some (.inr l1), some (.inr l2), some (.inl l3), some (.inl l4), some (.inl l5), some (.inl l6), o7] [] (I, P, nx, sl) sm_g3 (r52 l0 l1 l2 l3 l4 l5 l6 I P nx sl)) (l0 : Nat) (l1 : Nat) (l2 : Nat) (l3 : Int32) (l4 : Int32) (l5 : Int32) (l6 : Int32) (I : am_M) (P : am_Q) (nx : Nat) (sl : Nat) (o7 : Option am_V) : sm (dp + 5) am_d113 52 [some (.inr l0), some (.inr l1), some (.inr l2), some (.inl l3), some (.inl l4), some (.inl l5), some (.inl l6), o7] [] (I, P, nx, sl) sm_g3 (fH_findBest_B52 e52_121 r52 l0 l1 l2 l3 l4 l5 l6 I P nx sl) := by
  unfold fH_findBest_B52
  refine r_iload rfl rfl ?_
  refine r_iload rfl rfl ?_
  refine r_icmp rfl rfl (fun c9 => ?_) (fun c9 => ?_)
  · exact he52_121 l5 I P nx sl (some (.inr l0)) (some (.inr l1)) (some (.inr l2)) (some (.inl l3)) (some (.inl l4)) (some (.inl l6)) o7
  · refine r_ck (fun h10 => ?_)
    refine r_aload rfl rfl (am_nz h10) ?_
    refine r_ck (fun h11 => ?_)
    refine r_aload rfl rfl (am_nz h11) ?_
    refine r_call4 rfl rfl h10 (fun y hy => AfW_copyFrom (dp := dp + 3) hy) (fun y12 => ?_)
    refine r_ck (fun h13 => ?_)
    refine r_aload rfl rfl (am_nz h13) ?_
    refine r_getP rfl h13 ?_
    refine r_const (x := 0) rfl rfl ?_
    refine r_aload rfl rfl (am_nz h10) ?_
    refine r_getP rfl h10 ?_
    refine r_const (x := 0) rfl rfl ?_
    refine r_iload rfl rfl ?_
    refine r_ck (fun h14 => ?_)
    refine r_copy rfl h14 (Nat.le_of_ble_eq_true rfl) (fun I15 => ?_)
    refine r_aload rfl rfl (am_nz h13) ?_
    refine r_aload rfl rfl (am_nz h10) ?_
    refine r_call1 rfl rfl h13 (fun y hy => AfH_pass (dp := dp + 0) hy) (fun y16 => ?_)
    refine r_istore (ls' := [some (.inr l0), some (.inr l1), some (.inr l2), some (.inl l3), some (.inl l4), some (.inl l5), some (.inl l6), some (.inl y16.1)]) rfl (Nat.le_of_ble_eq_true rfl) rfl ?_
    refine r_iload rfl rfl ?_
    refine r_iload rfl rfl ?_
    refine r_icmp rfl rfl (fun c17 => ?_) (fun c17 => ?_)
    · exact AfH_findBest_J110 hr52 l0 l1 l2 l3 l4 l5 l6 y16.2 y12.2.1 y12.2.2.1 y12.2.2.2 (some (.inl y16.1))
    · refine r_iload rfl rfl ?_
      refine r_istore (ls' := [some (.inr l0), some (.inr l1), some (.inr l2), some (.inl l3), some (.inl l4), some (.inl y16.1), some (.inl l6), some (.inl y16.1)]) rfl (Nat.le_of_ble_eq_true rfl) rfl ?_
      refine r_aload rfl rfl (am_nz h13) ?_
      refine r_getP rfl h13 ?_
      refine r_const (x := 0) rfl rfl ?_
      refine r_aload rfl rfl (am_nz h13) ?_
      refine r_getP rfl h13 ?_
      refine r_const (x := 0) rfl rfl ?_
      refine r_iload rfl rfl ?_
      refine r_ck (fun h21 => ?_)
      refine r_copy rfl h21 (Nat.le_of_ble_eq_true rfl) (fun I22 => ?_)
      exact AfH_findBest_J110 hr52 l0 l1 l2 l3 l4 y16.1 l6 I22 y12.2.1 y12.2.2.1 y12.2.2.2 (some (.inl y16.1))
noncomputable def fH_findBest_L52 (e52_121 : Int32 → am_M → am_Q → Nat → Nat → Option (Int32 × am_S)) : Nat → Nat → Nat → Nat → Int32 → Int32 → Int32 → Int32 → am_M → am_Q → Nat → Nat → Option (Int32 × am_S)
  | 0, _, _, _, _, _, _, _, _, _, _, _ => none
  | n + 1, l0, l1, l2, l3, l4, l5, l6, I, P, nx, sl => fH_findBest_B52 e52_121 (fH_findBest_L52 e52_121 n) l0 l1 l2 l3 l4 l5 l6 I P nx sl
theorem AfH_findBest_L52 {dp : Nat}  {e52_121 : Int32 → am_M → am_Q → Nat → Nat → Option (Int32 × am_S)} (he52_121 : ∀ (l5 : Int32) (I : am_M) (P : am_Q) (nx : Nat) (sl : Nat) (o0 : Option am_V) (o1 : Option am_V) (o2 : Option am_V) (o3 : Option am_V) (o4 : Option am_V) (o6 : Option am_V) (o7 : Option am_V), sm (dp + 5) am_d113 121 [o0, o1, o2, o3, o4, some (.inl l5), o6, o7] [] (I, P, nx, sl) sm_g3 (e52_121 l5 I P nx sl)) (n : Nat) : ∀ (l0 : Nat) (l1 : Nat) (l2 : Nat) (l3 : Int32) (l4 : Int32) (l5 : Int32) (l6 : Int32) (I : am_M) (P : am_Q) (nx : Nat) (sl : Nat) (o7 : Option am_V), sm (dp + 5) am_d113 52 [some (.inr l0), some (.inr l1), some (.inr l2), some (.inl l3), some (.inl l4), some (.inl l5), some (.inl l6), o7] [] (I, P, nx, sl) sm_g3 (fH_findBest_L52 e52_121 n l0 l1 l2 l3 l4 l5 l6 I P nx sl) := by
  induction n with
  | zero => intro l0 l1 l2 l3 l4 l5 l6 I P nx sl o7; exact sm_none
  | succ n ih => intro l0 l1 l2 l3 l4 l5 l6 I P nx sl o7; exact AfH_findBest_B52 he52_121 ih l0 l1 l2 l3 l4 l5 l6 I P nx sl o7
noncomputable def fH_findBest (l0 : Nat) (l1 : Nat) (l2 : Nat) (I : am_M) (P : am_Q) (nx : Nat) (sl : Nat) : Option (Int32 × am_S) :=
  sm_ck (am_t l1 = 11) <|
  sm_bd (sm_min (I l1 6) 5) fun x2 =>
  fH_findBest_L15 (fun l0 l1 l2 l3 l4 I P nx sl =>
      fH_findBest_L52 (fun l5 I P nx sl =>
          some (l5, I, P, nx, sl)) sm_fu l0 l1 l2 l3 l4 1000000 0 I P nx sl) sm_fu l0 l1 l2 x2 1 0 I P nx sl
set_option maxRecDepth 100000 in
theorem AfH_findBest {dp : Nat}  {I : am_M} {P : am_Q} {nx : Nat} {sl : Nat} {l0 : Nat} {l1 : Nat} {l2 : Nat} {y : Int32 × am_S} (hy : fH_findBest l0 l1 l2 I P nx sl = some y) : sm_T (dp + 6) 113 [.inr l0, .inr l1, .inr l2] (I, P, nx, sl) (sm_g3 y) := by
  refine r_meth (d := am_d113) (dp := dp + 5) (ls0 := [some (.inr l0), some (.inr l1), some (.inr l2), none, none, none, none, none]) rfl (by decide) rfl rfl ?_ hy
  unfold fH_findBest
  refine r_ck (fun h1 => ?_)
  refine r_aload rfl rfl (am_nz h1) ?_
  refine r_getI rfl h1 ?_
  refine r_const (x := 5) rfl rfl ?_
  refine r_mm (z := sm_min (I l1 6) 5) rfl rfl (Nat.le_of_ble_eq_true rfl) ?_
  refine r_bd (fun x2 => ?_)
  refine r_istore (ls' := [some (.inr l0), some (.inr l1), some (.inr l2), some (.inl x2), none, none, none, none]) rfl (Nat.le_of_ble_eq_true rfl) rfl ?_
  refine r_const (x := 1) rfl rfl ?_
  refine r_istore (ls' := [some (.inr l0), some (.inr l1), some (.inr l2), some (.inl x2), some (.inl 1), none, none, none]) rfl (Nat.le_of_ble_eq_true rfl) rfl ?_
  refine r_const (x := 0) rfl rfl ?_
  refine r_istore (ls' := [some (.inr l0), some (.inr l1), some (.inr l2), some (.inl x2), some (.inl 1), some (.inl 0), none, none]) rfl (Nat.le_of_ble_eq_true rfl) rfl ?_
  refine AfH_findBest_L15 ?_ sm_fu l0 l1 l2 x2 1 0 I P nx sl none none
  · intro l0 l1 l2 l3 l4 I P nx sl o5 o6 o7
    refine r_const (x := 1000000) rfl rfl ?_
    refine r_istore (ls' := [some (.inr l0), some (.inr l1), some (.inr l2), some (.inl l3), some (.inl l4), some (.inl 1000000), o6, o7]) rfl (Nat.le_of_ble_eq_true rfl) rfl ?_
    refine r_const (x := 0) rfl rfl ?_
    refine r_istore (ls' := [some (.inr l0), some (.inr l1), some (.inr l2), some (.inl l3), some (.inl l4), some (.inl 1000000), some (.inl 0), o7]) rfl (Nat.le_of_ble_eq_true rfl) rfl ?_
    refine AfH_findBest_L52 ?_ sm_fu l0 l1 l2 l3 l4 1000000 0 I P nx sl o7
    · intro l5 I P nx sl o0 o1 o2 o3 o4 o6 o7
      refine r_iload rfl rfl ?_
      exact r_ireturn rfl (Or.inl rfl) rfl
noncomputable def fX_best_J23 (l0 : Nat) (l1 : Int32) (I : am_M) (P : am_Q) (nx : Nat) (sl : Nat) : Option (Int32 × am_S) :=
  sm_ck (am_t l0 = 12) <|
  sm_ck (am_t (P l0 0) = 11) <|
  if (I (P l0 0) 6) ≤ 5 then
    (if ¬ (I (P l0 0) 6) = 0 then
      (sm_ck (am_t (P l0 10) = 3) <|
      Option.bind (fH_findBest (P l0 10) (P l0 0) (P l0 1) I P nx sl) fun y7 =>
      if ¬ l1 = ((-1)) then
        (sm_ck (am_t (y7.2.2.1 l0 10) = 3) <|
        sm_ck (sm_in (y7.2.2.1 (y7.2.2.1 l0 10) 2) l1) <|
        some (y7.2.1 (y7.2.2.1 (y7.2.2.1 l0 10) 2) l1.toNatClampNeg, y7.2.1, y7.2.2.1, y7.2.2.2.1, y7.2.2.2.2))
      else
        (some (y7.1, y7.2.1, y7.2.2.1, y7.2.2.2.1, y7.2.2.2.2)))
    else
      (Option.bind (fX_found P l0 ((-1000004)) I) fun y11 =>
      some (y11.1, y11.2, P, nx, sl)))
  else
    (Option.bind (fX_found P l0 ((-1000007)) I) fun y12 =>
    some (y12.1, y12.2, P, nx, sl))
set_option maxRecDepth 100000 in
theorem AfX_best_J23 {dp : Nat}  (l0 : Nat) (l1 : Int32) (I : am_M) (P : am_Q) (nx : Nat) (sl : Nat) (o2 : Option am_V) : sm (dp + 6) am_d112 23 [some (.inr l0), some (.inl l1), o2] [] (I, P, nx, sl) sm_g3 (fX_best_J23 l0 l1 I P nx sl) := by
  unfold fX_best_J23
  refine r_ck (fun h2 => ?_)
  refine r_aload rfl rfl (am_nz h2) ?_
  refine r_getP rfl h2 ?_
  refine r_ck (fun h3 => ?_)
  refine r_getI rfl h3 ?_
  refine r_const (x := 5) rfl rfl ?_
  refine r_icmp rfl rfl (fun c4 => ?_) (fun c4 => ?_)
  · refine r_aload rfl rfl (am_nz h2) ?_
    refine r_getP rfl h2 ?_
    refine r_getI rfl h3 ?_
    refine r_if rfl rfl (fun c5 => ?_) (fun c5 => ?_)
    · refine r_aload rfl rfl (am_nz h2) ?_
      refine r_getP rfl h2 ?_
      refine r_aload rfl rfl (am_nz h2) ?_
      refine r_getP rfl h2 ?_
      refine r_aload rfl rfl (am_nz h2) ?_
      refine r_getP rfl h2 ?_
      refine r_ck (fun h6 => ?_)
      refine r_call3 rfl rfl h6 (fun y hy => AfH_findBest (dp := dp + 0) hy) (fun y7 => ?_)
      refine r_istore (ls' := [some (.inr l0), some (.inl l1), some (.inl y7.1)]) rfl (Nat.le_of_ble_eq_true rfl) rfl ?_
      refine r_iload rfl rfl ?_
      refine r_const (x := (-1)) rfl rfl ?_
      refine r_icmp rfl rfl (fun c8 => ?_) (fun c8 => ?_)
      · refine r_aload rfl rfl (am_nz h2) ?_
        refine r_getP rfl h2 ?_
        refine r_ck (fun h9 => ?_)
        refine r_getP rfl h9 ?_
        refine r_iload rfl rfl ?_
        refine r_ck (fun h10 => ?_)
        refine r_iald rfl h10 ?_
        exact r_ireturn rfl (Or.inl rfl) rfl
      · refine r_iload rfl rfl ?_
        refine r_goto rfl ?_
        exact r_ireturn rfl (Or.inl rfl) rfl
    · refine r_aload rfl rfl (am_nz h2) ?_
      refine r_const (x := (-1000004)) rfl rfl ?_
      refine r_call1 rfl rfl h2 (fun y hy => AfX_found (dp := dp + 5) hy) (fun y11 => ?_)
      exact r_ireturn rfl (Or.inl rfl) rfl
  · refine r_aload rfl rfl (am_nz h2) ?_
    refine r_const (x := (-1000007)) rfl rfl ?_
    refine r_call1 rfl rfl h2 (fun y hy => AfX_found (dp := dp + 5) hy) (fun y12 => ?_)
    exact r_ireturn rfl (Or.inl rfl) rfl
noncomputable def fX_best (l0 : Nat) (l1 : Int32) (I : am_M) (P : am_Q) (nx : Nat) (sl : Nat) : Option (Int32 × am_S) :=
  if l1 = ((-1)) then
    (fX_best_J23 l0 l1 I P nx sl)
  else
    (sm_ck (am_t l0 = 12) <|
    sm_ck (am_t (P l0 0) = 11) <|
    Option.bind (fW_hasBox I P (P l0 0) l1) fun y15 =>
    if ¬ y15 = 0 then
      (fX_best_J23 l0 l1 I P nx sl)
    else
      (Option.bind (fX_found P l0 ((-1000001)) I) fun y17 =>
      some (y17.1, y17.2, P, nx, sl)))
set_option maxRecDepth 100000 in
theorem AfX_best {dp : Nat}  {I : am_M} {P : am_Q} {nx : Nat} {sl : Nat} {l0 : Nat} {l1 : Int32} {y : Int32 × am_S} (hy : fX_best l0 l1 I P nx sl = some y) : sm_T (dp + 7) 112 [.inr l0, .inl l1] (I, P, nx, sl) (sm_g3 y) := by
  refine r_meth (d := am_d112) (dp := dp + 6) (ls0 := [some (.inr l0), some (.inl l1), none]) rfl (by decide) rfl rfl ?_ hy
  unfold fX_best
  refine r_iload rfl rfl ?_
  refine r_const (x := (-1)) rfl rfl ?_
  refine r_icmp rfl rfl (fun c1 => ?_) (fun c1 => ?_)
  · exact AfX_best_J23 l0 l1 I P nx sl none
  · refine r_ck (fun h13 => ?_)
    refine r_aload rfl rfl (am_nz h13) ?_
    refine r_getP rfl h13 ?_
    refine r_iload rfl rfl ?_
    refine r_ck (fun h14 => ?_)
    refine r_call0 rfl rfl h14 (fun y hy => AfW_hasBox (dp := dp + 5) hy) (fun y15 => ?_)
    refine r_if rfl rfl (fun c16 => ?_) (fun c16 => ?_)
    · exact AfX_best_J23 l0 l1 I P nx sl none
    · refine r_aload rfl rfl (am_nz h13) ?_
      refine r_const (x := (-1000001)) rfl rfl ?_
      refine r_call1 rfl rfl h13 (fun y hy => AfX_found (dp := dp + 5) hy) (fun y17 => ?_)
      exact r_ireturn rfl (Or.inl rfl) rfl
noncomputable def fX_isMachines (l0 : Int32) : Option (Int32) :=
  if l0 < 1 then
    (some 0)
  else
    (if 3 < l0 then
      (some 0)
    else
      (some 1))
set_option maxRecDepth 100000 in
theorem AfX_isMachines {dp : Nat} {S : am_S} {l0 : Int32} {y : Int32} (hy : fX_isMachines l0 = some y) : sm_T (dp + 1) 117 [.inl l0] S ((sm_g0 S) y) := by
  refine r_meth (d := am_d117) (dp := dp + 0) (ls0 := [some (.inl l0)]) rfl (by decide) rfl rfl ?_ hy
  unfold fX_isMachines
  refine r_iload rfl rfl ?_
  refine r_const (x := 1) rfl rfl ?_
  refine r_icmp rfl rfl (fun c1 => ?_) (fun c1 => ?_)
  · refine r_const (x := 0) rfl rfl ?_
    exact r_ireturn rfl (Or.inr ⟨rfl, sm_010⟩) rfl
  · refine r_iload rfl rfl ?_
    refine r_const (x := 3) rfl rfl ?_
    refine r_icmp rfl rfl (fun c2 => ?_) (fun c2 => ?_)
    · refine r_const (x := 0) rfl rfl ?_
      exact r_ireturn rfl (Or.inr ⟨rfl, sm_010⟩) rfl
    · refine r_const (x := 1) rfl rfl ?_
      refine r_goto rfl ?_
      exact r_ireturn rfl (Or.inr ⟨rfl, sm_011⟩) rfl
noncomputable def fE_areBelow_B2 (I : am_M) (P : am_Q) (e2_29 : Option (Int32)) (e2_37 : Option (Int32)) (r2 : Nat → Int32 → Int32 → Option (Int32)) (l0 : Nat) (l1 : Int32) (l2 : Int32) : Option (Int32) :=
  sm_ck (am_t l0 = 9) <|
  if (I l0 1) ≤ l2 then
    (e2_37)
  else
    (sm_ck (sm_in (P l0 0) l2) <|
    if (I (P l0 0) l2.toNatClampNeg) < 0 then
      (e2_29)
    else
      (sm_ck (sm_in (P l0 0) l2) <|
      if (I (P l0 0) l2.toNatClampNeg) < l1 then
        (sm_bd (l2 + 1) fun x7 =>
        r2 l0 l1 x7)
      else
        (e2_29)))
set_option maxRecDepth 100000 in
theorem AfE_areBelow_B2 {dp : Nat} {I : am_M} {P : am_Q} {nx : Nat} {sl : Nat} {e2_29 : Option (Int32)} {e2_37 : Option (Int32)} {r2 : Nat → Int32 → Int32 → Option (Int32)} (he2_29 : ∀ (o0 : Option am_V) (o1 : Option am_V) (o2 : Option am_V), sm (dp + 0) am_d118 29 [o0, o1, o2] [] (I, P, nx, sl) (sm_g0 (I, P, nx, sl)) (e2_29)) (he2_37 : ∀ (o0 : Option am_V) (o1 : Option am_V) (o2 : Option am_V), sm (dp + 0) am_d118 37 [o0, o1, o2] [] (I, P, nx, sl) (sm_g0 (I, P, nx, sl)) (e2_37)) (hr2 : ∀ (l0 : Nat) (l1 : Int32) (l2 : Int32), sm (dp + 0) am_d118 2 [some (.inr l0), some (.inl l1), some (.inl l2)] [] (I, P, nx, sl) (sm_g0 (I, P, nx, sl)) (r2 l0 l1 l2)) (l0 : Nat) (l1 : Int32) (l2 : Int32) : sm (dp + 0) am_d118 2 [some (.inr l0), some (.inl l1), some (.inl l2)] [] (I, P, nx, sl) (sm_g0 (I, P, nx, sl)) (fE_areBelow_B2 I P e2_29 e2_37 r2 l0 l1 l2) := by
  unfold fE_areBelow_B2
  refine r_iload rfl rfl ?_
  refine r_ck (fun h1 => ?_)
  refine r_aload rfl rfl (am_nz h1) ?_
  refine r_getI rfl h1 ?_
  refine r_icmp rfl rfl (fun c2 => ?_) (fun c2 => ?_)
  · exact he2_37 (some (.inr l0)) (some (.inl l1)) (some (.inl l2))
  · refine r_aload rfl rfl (am_nz h1) ?_
    refine r_getP rfl h1 ?_
    refine r_iload rfl rfl ?_
    refine r_ck (fun h3 => ?_)
    refine r_iald rfl h3 ?_
    refine r_if rfl rfl (fun c4 => ?_) (fun c4 => ?_)
    · exact he2_29 (some (.inr l0)) (some (.inl l1)) (some (.inl l2))
    · refine r_aload rfl rfl (am_nz h1) ?_
      refine r_getP rfl h1 ?_
      refine r_iload rfl rfl ?_
      refine r_ck (fun h5 => ?_)
      refine r_iald rfl h5 ?_
      refine r_iload rfl rfl ?_
      refine r_icmp rfl rfl (fun c6 => ?_) (fun c6 => ?_)
      · refine r_iinc (e := l2 + 1) (ls' := fun x7 => [some (.inr l0), some (.inl l1), some (.inl x7)]) rfl rfl rfl (fun _ => rfl) (fun x7 => ?_)
        refine r_goto rfl ?_
        exact hr2 l0 l1 x7
      · exact he2_29 (some (.inr l0)) (some (.inl l1)) (some (.inl l2))
noncomputable def fE_areBelow_L2 (I : am_M) (P : am_Q) (e2_29 : Option (Int32)) (e2_37 : Option (Int32)) : Nat → Nat → Int32 → Int32 → Option (Int32)
  | 0, _, _, _ => none
  | n + 1, l0, l1, l2 => fE_areBelow_B2 I P e2_29 e2_37 (fE_areBelow_L2 I P e2_29 e2_37 n) l0 l1 l2
theorem AfE_areBelow_L2 {dp : Nat} {I : am_M} {P : am_Q} {nx : Nat} {sl : Nat} {e2_29 : Option (Int32)} {e2_37 : Option (Int32)} (he2_29 : ∀ (o0 : Option am_V) (o1 : Option am_V) (o2 : Option am_V), sm (dp + 0) am_d118 29 [o0, o1, o2] [] (I, P, nx, sl) (sm_g0 (I, P, nx, sl)) (e2_29)) (he2_37 : ∀ (o0 : Option am_V) (o1 : Option am_V) (o2 : Option am_V), sm (dp + 0) am_d118 37 [o0, o1, o2] [] (I, P, nx, sl) (sm_g0 (I, P, nx, sl)) (e2_37)) (n : Nat) : ∀ (l0 : Nat) (l1 : Int32) (l2 : Int32), sm (dp + 0) am_d118 2 [some (.inr l0), some (.inl l1), some (.inl l2)] [] (I, P, nx, sl) (sm_g0 (I, P, nx, sl)) (fE_areBelow_L2 I P e2_29 e2_37 n l0 l1 l2) := by
  induction n with
  | zero => intro l0 l1 l2; exact sm_none
  | succ n ih => intro l0 l1 l2; exact AfE_areBelow_B2 he2_29 he2_37 ih l0 l1 l2
noncomputable def fE_areBelow (I : am_M) (P : am_Q) (l0 : Nat) (l1 : Int32) : Option (Int32) :=
  fE_areBelow_L2 I P (some 0) (some 1) sm_fu l0 l1 0
set_option maxRecDepth 100000 in
theorem AfE_areBelow {dp : Nat} {I : am_M} {P : am_Q} {nx : Nat} {sl : Nat} {l0 : Nat} {l1 : Int32} {y : Int32} (hy : fE_areBelow I P l0 l1 = some y) : sm_T (dp + 1) 118 [.inr l0, .inl l1] (I, P, nx, sl) ((sm_g0 (I, P, nx, sl)) y) := by
  refine r_meth (d := am_d118) (dp := dp + 0) (ls0 := [some (.inr l0), some (.inl l1), none]) rfl (by decide) rfl rfl ?_ hy
  unfold fE_areBelow
  refine r_const (x := 0) rfl rfl ?_
  refine r_istore (ls' := [some (.inr l0), some (.inl l1), some (.inl 0)]) rfl (Nat.le_of_ble_eq_true rfl) rfl ?_
  refine AfE_areBelow_L2 ?_ ?_ sm_fu l0 l1 0
  · intro o0 o1 o2
    refine r_const (x := 0) rfl rfl ?_
    exact r_ireturn rfl (Or.inr ⟨rfl, sm_010⟩) rfl
  · intro o0 o1 o2
    refine r_const (x := 1) rfl rfl ?_
    exact r_ireturn rfl (Or.inr ⟨rfl, sm_011⟩) rfl
noncomputable def fC_findWaits_J76 (P : am_Q) (r31 : Nat → Nat → Int32 → Int32 → Int32 → Int32 → am_M → Option (am_M)) (l0 : Nat) (l1 : Nat) (l2 : Int32) (l3 : Int32) (l4 : Int32) (l5 : Int32) (I : am_M) : Option (am_M) :=
  sm_bd (l5 + 1) fun x12 =>
  r31 l0 l1 l2 l3 l4 x12 I
set_option maxRecDepth 100000 in
theorem AfC_findWaits_J76 {dp : Nat} {P : am_Q} {nx : Nat} {sl : Nat} {r31 : Nat → Nat → Int32 → Int32 → Int32 → Int32 → am_M → Option (am_M)} (hr31 : ∀ (l0 : Nat) (l1 : Nat) (l2 : Int32) (l3 : Int32) (l4 : Int32) (l5 : Int32) (I : am_M) (o6 : Option am_V), sm (dp + 2) am_d120 31 [some (.inr l0), some (.inr l1), some (.inl l2), some (.inl l3), some (.inl l4), some (.inl l5), o6] [] (I, P, nx, sl) (sm_g2 P nx sl) (r31 l0 l1 l2 l3 l4 l5 I)) (l0 : Nat) (l1 : Nat) (l2 : Int32) (l3 : Int32) (l4 : Int32) (l5 : Int32) (I : am_M) (o6 : Option am_V) : sm (dp + 2) am_d120 76 [some (.inr l0), some (.inr l1), some (.inl l2), some (.inl l3), some (.inl l4), some (.inl l5), o6] [] (I, P, nx, sl) (sm_g2 P nx sl) (fC_findWaits_J76 P r31 l0 l1 l2 l3 l4 l5 I) := by
  unfold fC_findWaits_J76
  refine r_iinc (e := l5 + 1) (ls' := fun x12 => [some (.inr l0), some (.inr l1), some (.inl l2), some (.inl l3), some (.inl l4), some (.inl x12), o6]) rfl rfl rfl (fun _ => rfl) (fun x12 => ?_)
  refine r_goto rfl ?_
  exact hr31 l0 l1 l2 l3 l4 x12 I o6
noncomputable def fC_findWaits_B31 (P : am_Q) (e31_82 : Nat → Nat → Int32 → Int32 → Int32 → am_M → Option (am_M)) (r31 : Nat → Nat → Int32 → Int32 → Int32 → Int32 → am_M → Option (am_M)) (l0 : Nat) (l1 : Nat) (l2 : Int32) (l3 : Int32) (l4 : Int32) (l5 : Int32) (I : am_M) : Option (am_M) :=
  if 2 ≤ l5 then
    (e31_82 l0 l1 l2 l3 l4 I)
  else
    (sm_ck (am_t l1 = 11) <|
    Option.bind (fW_seamInto I P l1 l4 l5) fun y10 =>
    if y10 < 0 then
      (fC_findWaits_J76 P r31 l0 l1 l2 l3 l4 l5 I)
    else
      (sm_ck (am_t l0 = 5) <|
      sm_ck (sm_in (P l0 4) l4) <|
      sm_ck (sm_ia (P l1 10) y10) <|
      sm_ck (am_t (P (P l1 10) y10.toNatClampNeg) = 8) <|
      sm_ck (sm_iw (P l0 4) l4) <|
      sm_bd (am_up I (P l0 4) l4.toNatClampNeg ((I (P l0 4) l4.toNatClampNeg) ||| (l2 &&& (sm_shl 1 (I (P (P l1 10) y10.toNatClampNeg) 0))))) fun I18 =>
      fC_findWaits_J76 P r31 l0 l1 l2 l3 l4 l5 I18))
set_option maxRecDepth 100000 in
theorem AfC_findWaits_B31 {dp : Nat} {P : am_Q} {nx : Nat} {sl : Nat} {e31_82 : Nat → Nat → Int32 → Int32 → Int32 → am_M → Option (am_M)} {r31 : Nat → Nat → Int32 → Int32 → Int32 → Int32 → am_M → Option (am_M)} (he31_82 : ∀ (l0 : Nat) (l1 : Nat) (l2 : Int32) (l3 : Int32) (l4 : Int32) (I : am_M) (o5 : Option am_V) (o6 : Option am_V), sm (dp + 2) am_d120 82 [some (.inr l0), some (.inr l1), some (.inl l2), some (.inl l3), some (.inl l4), o5, o6] [] (I, P, nx, sl) (sm_g2 P nx sl) (e31_82 l0 l1 l2 l3 l4 I)) (hr31 : ∀ (l0 : Nat) (l1 : Nat) (l2 : Int32) (l3 : Int32) (l4 : Int32) (l5 : Int32) (I : am_M) (o6 : Option am_V), sm (dp + 2) am_d120 31 [some (.inr l0), some (.inr l1), some (.inl l2), some (.inl l3), some (.inl l4), some (.inl l5), o6] [] (I, P, nx, sl) (sm_g2 P nx sl) (r31 l0 l1 l2 l3 l4 l5 I)) (l0 : Nat) (l1 : Nat) (l2 : Int32) (l3 : Int32) (l4 : Int32) (l5 : Int32) (I : am_M) (o6 : Option am_V) : sm (dp + 2) am_d120 31 [some (.inr l0), some (.inr l1), some (.inl l2), some (.inl l3), some (.inl l4), some (.inl l5), o6] [] (I, P, nx, sl) (sm_g2 P nx sl) (fC_findWaits_B31 P e31_82 r31 l0 l1 l2 l3 l4 l5 I) := by
  unfold fC_findWaits_B31
  refine r_iload rfl rfl ?_
  refine r_const (x := 2) rfl rfl ?_
  refine r_icmp rfl rfl (fun c8 => ?_) (fun c8 => ?_)
  · exact he31_82 l0 l1 l2 l3 l4 I (some (.inl l5)) o6
  · refine r_ck (fun h9 => ?_)
    refine r_aload rfl rfl (am_nz h9) ?_
    refine r_iload rfl rfl ?_
    refine r_iload rfl rfl ?_
    refine r_call0 rfl rfl h9 (fun y hy => AfW_seamInto (dp := dp + 0) hy) (fun y10 => ?_)
    refine r_istore (ls' := [some (.inr l0), some (.inr l1), some (.inl l2), some (.inl l3), some (.inl l4), some (.inl l5), some (.inl y10)]) rfl (Nat.le_of_ble_eq_true rfl) rfl ?_
    refine r_iload rfl rfl ?_
    refine r_if rfl rfl (fun c11 => ?_) (fun c11 => ?_)
    · exact AfC_findWaits_J76 hr31 l0 l1 l2 l3 l4 l5 I (some (.inl y10))
    · refine r_ck (fun h13 => ?_)
      refine r_aload rfl rfl (am_nz h13) ?_
      refine r_getP rfl h13 ?_
      refine r_iload rfl rfl ?_
      refine r_dup2 rfl ?_
      refine r_ck (fun h14 => ?_)
      refine r_iald rfl h14 ?_
      refine r_iload rfl rfl ?_
      refine r_const (x := 1) rfl rfl ?_
      refine r_aload rfl rfl (am_nz h9) ?_
      refine r_getP rfl h9 ?_
      refine r_iload rfl rfl ?_
      refine r_ck (fun h15 => ?_)
      refine r_aald rfl h15 ?_
      refine r_ck (fun h16 => ?_)
      refine r_getI rfl h16 ?_
      refine r_bin (z := sm_shl 1 (I (P (P l1 10) y10.toNatClampNeg) 0)) rfl rfl (by decide) ?_
      refine r_bin (z := l2 &&& (sm_shl 1 (I (P (P l1 10) y10.toNatClampNeg) 0))) rfl rfl (by decide) ?_
      refine r_bin (z := (I (P l0 4) l4.toNatClampNeg) ||| (l2 &&& (sm_shl 1 (I (P (P l1 10) y10.toNatClampNeg) 0)))) rfl rfl (by decide) ?_
      refine r_ck (fun h17 => ?_)
      refine r_iast rfl h17 (fun I18 => ?_)
      exact AfC_findWaits_J76 hr31 l0 l1 l2 l3 l4 l5 I18 (some (.inl y10))
noncomputable def fC_findWaits_L31 (P : am_Q) (e31_82 : Nat → Nat → Int32 → Int32 → Int32 → am_M → Option (am_M)) : Nat → Nat → Nat → Int32 → Int32 → Int32 → Int32 → am_M → Option (am_M)
  | 0, _, _, _, _, _, _, _ => none
  | n + 1, l0, l1, l2, l3, l4, l5, I => fC_findWaits_B31 P e31_82 (fC_findWaits_L31 P e31_82 n) l0 l1 l2 l3 l4 l5 I
theorem AfC_findWaits_L31 {dp : Nat} {P : am_Q} {nx : Nat} {sl : Nat} {e31_82 : Nat → Nat → Int32 → Int32 → Int32 → am_M → Option (am_M)} (he31_82 : ∀ (l0 : Nat) (l1 : Nat) (l2 : Int32) (l3 : Int32) (l4 : Int32) (I : am_M) (o5 : Option am_V) (o6 : Option am_V), sm (dp + 2) am_d120 82 [some (.inr l0), some (.inr l1), some (.inl l2), some (.inl l3), some (.inl l4), o5, o6] [] (I, P, nx, sl) (sm_g2 P nx sl) (e31_82 l0 l1 l2 l3 l4 I)) (n : Nat) : ∀ (l0 : Nat) (l1 : Nat) (l2 : Int32) (l3 : Int32) (l4 : Int32) (l5 : Int32) (I : am_M) (o6 : Option am_V), sm (dp + 2) am_d120 31 [some (.inr l0), some (.inr l1), some (.inl l2), some (.inl l3), some (.inl l4), some (.inl l5), o6] [] (I, P, nx, sl) (sm_g2 P nx sl) (fC_findWaits_L31 P e31_82 n l0 l1 l2 l3 l4 l5 I) := by
  induction n with
  | zero => intro l0 l1 l2 l3 l4 l5 I o6; exact sm_none
  | succ n ih => intro l0 l1 l2 l3 l4 l5 I o6; exact AfC_findWaits_B31 he31_82 ih l0 l1 l2 l3 l4 l5 I o6
noncomputable def fC_findWaits_B4 (P : am_Q) (e4_95 : am_M → Option (am_M)) (r4 : Nat → Nat → Int32 → Int32 → am_M → Option (am_M)) (l0 : Nat) (l1 : Nat) (l2 : Int32) (l3 : Int32) (I : am_M) : Option (am_M) :=
  sm_ck (am_t l1 = 11) <|
  if (I l1 6) ≤ l3 then
    (e4_95 I)
  else
    (sm_ck (sm_in (P l1 11) l3) <|
    sm_bd (I (P l1 11) l3.toNatClampNeg) fun x4 =>
    sm_ck (am_t l0 = 5) <|
    sm_ck (sm_iw (P l0 4) x4) <|
    sm_bd (am_up I (P l0 4) x4.toNatClampNeg 0) fun I7 =>
    fC_findWaits_L31 P (fun l0 l1 l2 l3 l4 I =>
        sm_bd (l2 ||| (sm_shl 1 l4)) fun x19 =>
        sm_bd (l3 + 1) fun x20 =>
        r4 l0 l1 x19 x20 I) sm_fu l0 l1 l2 l3 x4 0 I7)
set_option maxRecDepth 100000 in
theorem AfC_findWaits_B4 {dp : Nat} {P : am_Q} {nx : Nat} {sl : Nat} {e4_95 : am_M → Option (am_M)} {r4 : Nat → Nat → Int32 → Int32 → am_M → Option (am_M)} (he4_95 : ∀ (I : am_M) (o0 : Option am_V) (o1 : Option am_V) (o2 : Option am_V) (o3 : Option am_V) (o4 : Option am_V) (o5 : Option am_V) (o6 : Option am_V), sm (dp + 2) am_d120 95 [o0, o1, o2, o3, o4, o5, o6] [] (I, P, nx, sl) (sm_g2 P nx sl) (e4_95 I)) (hr4 : ∀ (l0 : Nat) (l1 : Nat) (l2 : Int32) (l3 : Int32) (I : am_M) (o4 : Option am_V) (o5 : Option am_V) (o6 : Option am_V), sm (dp + 2) am_d120 4 [some (.inr l0), some (.inr l1), some (.inl l2), some (.inl l3), o4, o5, o6] [] (I, P, nx, sl) (sm_g2 P nx sl) (r4 l0 l1 l2 l3 I)) (l0 : Nat) (l1 : Nat) (l2 : Int32) (l3 : Int32) (I : am_M) (o4 : Option am_V) (o5 : Option am_V) (o6 : Option am_V) : sm (dp + 2) am_d120 4 [some (.inr l0), some (.inr l1), some (.inl l2), some (.inl l3), o4, o5, o6] [] (I, P, nx, sl) (sm_g2 P nx sl) (fC_findWaits_B4 P e4_95 r4 l0 l1 l2 l3 I) := by
  unfold fC_findWaits_B4
  refine r_iload rfl rfl ?_
  refine r_ck (fun h1 => ?_)
  refine r_aload rfl rfl (am_nz h1) ?_
  refine r_getI rfl h1 ?_
  refine r_icmp rfl rfl (fun c2 => ?_) (fun c2 => ?_)
  · exact he4_95 I (some (.inr l0)) (some (.inr l1)) (some (.inl l2)) (some (.inl l3)) o4 o5 o6
  · refine r_aload rfl rfl (am_nz h1) ?_
    refine r_getP rfl h1 ?_
    refine r_iload rfl rfl ?_
    refine r_ck (fun h3 => ?_)
    refine r_iald rfl h3 ?_
    refine r_bd (fun x4 => ?_)
    refine r_istore (ls' := [some (.inr l0), some (.inr l1), some (.inl l2), some (.inl l3), some (.inl x4), o5, o6]) rfl (Nat.le_of_ble_eq_true rfl) rfl ?_
    refine r_ck (fun h5 => ?_)
    refine r_aload rfl rfl (am_nz h5) ?_
    refine r_getP rfl h5 ?_
    refine r_iload rfl rfl ?_
    refine r_const (x := 0) rfl rfl ?_
    refine r_ck (fun h6 => ?_)
    refine r_iast rfl h6 (fun I7 => ?_)
    refine r_const (x := 0) rfl rfl ?_
    refine r_istore (ls' := [some (.inr l0), some (.inr l1), some (.inl l2), some (.inl l3), some (.inl x4), some (.inl 0), o6]) rfl (Nat.le_of_ble_eq_true rfl) rfl ?_
    refine AfC_findWaits_L31 ?_ sm_fu l0 l1 l2 l3 x4 0 I7 o6
    · intro l0 l1 l2 l3 l4 I o5 o6
      refine r_iload rfl rfl ?_
      refine r_const (x := 1) rfl rfl ?_
      refine r_iload rfl rfl ?_
      refine r_bin (z := sm_shl 1 l4) rfl rfl (by decide) ?_
      refine r_bin (z := l2 ||| (sm_shl 1 l4)) rfl rfl (by decide) ?_
      refine r_bd (fun x19 => ?_)
      refine r_istore (ls' := [some (.inr l0), some (.inr l1), some (.inl x19), some (.inl l3), some (.inl l4), o5, o6]) rfl (Nat.le_of_ble_eq_true rfl) rfl ?_
      refine r_iinc (e := l3 + 1) (ls' := fun x20 => [some (.inr l0), some (.inr l1), some (.inl x19), some (.inl x20), some (.inl l4), o5, o6]) rfl rfl rfl (fun _ => rfl) (fun x20 => ?_)
      refine r_goto rfl ?_
      exact hr4 l0 l1 x19 x20 I (some (.inl l4)) o5 o6
noncomputable def fC_findWaits_L4 (P : am_Q) (e4_95 : am_M → Option (am_M)) : Nat → Nat → Nat → Int32 → Int32 → am_M → Option (am_M)
  | 0, _, _, _, _, _ => none
  | n + 1, l0, l1, l2, l3, I => fC_findWaits_B4 P e4_95 (fC_findWaits_L4 P e4_95 n) l0 l1 l2 l3 I
theorem AfC_findWaits_L4 {dp : Nat} {P : am_Q} {nx : Nat} {sl : Nat} {e4_95 : am_M → Option (am_M)} (he4_95 : ∀ (I : am_M) (o0 : Option am_V) (o1 : Option am_V) (o2 : Option am_V) (o3 : Option am_V) (o4 : Option am_V) (o5 : Option am_V) (o6 : Option am_V), sm (dp + 2) am_d120 95 [o0, o1, o2, o3, o4, o5, o6] [] (I, P, nx, sl) (sm_g2 P nx sl) (e4_95 I)) (n : Nat) : ∀ (l0 : Nat) (l1 : Nat) (l2 : Int32) (l3 : Int32) (I : am_M) (o4 : Option am_V) (o5 : Option am_V) (o6 : Option am_V), sm (dp + 2) am_d120 4 [some (.inr l0), some (.inr l1), some (.inl l2), some (.inl l3), o4, o5, o6] [] (I, P, nx, sl) (sm_g2 P nx sl) (fC_findWaits_L4 P e4_95 n l0 l1 l2 l3 I) := by
  induction n with
  | zero => intro l0 l1 l2 l3 I o4 o5 o6; exact sm_none
  | succ n ih => intro l0 l1 l2 l3 I o4 o5 o6; exact AfC_findWaits_B4 he4_95 ih l0 l1 l2 l3 I o4 o5 o6
noncomputable def fC_findWaits (P : am_Q) (l0 : Nat) (l1 : Nat) (I : am_M) : Option (am_M) :=
  fC_findWaits_L4 P (fun I =>
      some I) sm_fu l0 l1 0 0 I
set_option maxRecDepth 100000 in
theorem AfC_findWaits {dp : Nat} {P : am_Q} {nx : Nat} {sl : Nat} {I : am_M} {l0 : Nat} {l1 : Nat} {y : am_M} (hy : fC_findWaits P l0 l1 I = some y) : sm_T (dp + 3) 120 [.inr l0, .inr l1] (I, P, nx, sl) ((sm_g2 P nx sl) y) := by
  refine r_meth (d := am_d120) (dp := dp + 2) (ls0 := [some (.inr l0), some (.inr l1), none, none, none, none, none]) rfl (by decide) rfl rfl ?_ hy
  unfold fC_findWaits
  refine r_const (x := 0) rfl rfl ?_
  refine r_istore (ls' := [some (.inr l0), some (.inr l1), some (.inl 0), none, none, none, none]) rfl (Nat.le_of_ble_eq_true rfl) rfl ?_
  refine r_const (x := 0) rfl rfl ?_
  refine r_istore (ls' := [some (.inr l0), some (.inr l1), some (.inl 0), some (.inl 0), none, none, none]) rfl (Nat.le_of_ble_eq_true rfl) rfl ?_
  refine AfC_findWaits_L4 ?_ sm_fu l0 l1 0 0 I none none none
  · intro I o0 o1 o2 o3 o4 o5 o6
    exact r_return rfl rfl
noncomputable def fC_endBelow_J98 (P : am_Q) (r52 : Nat → Nat → Int32 → Int32 → Int32 → Int32 → Int32 → Int32 → Int32 → am_M → Option (Int32 × am_M)) (l0 : Nat) (l1 : Nat) (l2 : Int32) (l3 : Int32) (l4 : Int32) (l5 : Int32) (l6 : Int32) (l7 : Int32) (l8 : Int32) (I : am_M) : Option (Int32 × am_M) :=
  sm_bd (l8 + 1) fun x19 =>
  r52 l0 l1 l2 l3 l4 l5 l6 l7 x19 I
set_option maxRecDepth 100000 in
theorem AfC_endBelow_J98 {dp : Nat} {P : am_Q} {nx : Nat} {sl : Nat} {r52 : Nat → Nat → Int32 → Int32 → Int32 → Int32 → Int32 → Int32 → Int32 → am_M → Option (Int32 × am_M)} (hr52 : ∀ (l0 : Nat) (l1 : Nat) (l2 : Int32) (l3 : Int32) (l4 : Int32) (l5 : Int32) (l6 : Int32) (l7 : Int32) (l8 : Int32) (I : am_M) (o9 : Option am_V), sm (dp + 1) am_d121 52 [some (.inr l0), some (.inr l1), some (.inl l2), some (.inl l3), some (.inl l4), some (.inl l5), some (.inl l6), some (.inl l7), some (.inl l8), o9] [] (I, P, nx, sl) (sm_g1 P nx sl) (r52 l0 l1 l2 l3 l4 l5 l6 l7 l8 I)) (l0 : Nat) (l1 : Nat) (l2 : Int32) (l3 : Int32) (l4 : Int32) (l5 : Int32) (l6 : Int32) (l7 : Int32) (l8 : Int32) (I : am_M) (o9 : Option am_V) : sm (dp + 1) am_d121 98 [some (.inr l0), some (.inr l1), some (.inl l2), some (.inl l3), some (.inl l4), some (.inl l5), some (.inl l6), some (.inl l7), some (.inl l8), o9] [] (I, P, nx, sl) (sm_g1 P nx sl) (fC_endBelow_J98 P r52 l0 l1 l2 l3 l4 l5 l6 l7 l8 I) := by
  unfold fC_endBelow_J98
  refine r_iinc (e := l8 + 1) (ls' := fun x19 => [some (.inr l0), some (.inr l1), some (.inl l2), some (.inl l3), some (.inl l4), some (.inl l5), some (.inl l6), some (.inl l7), some (.inl x19), o9]) rfl rfl rfl (fun _ => rfl) (fun x19 => ?_)
  refine r_goto rfl ?_
  exact hr52 l0 l1 l2 l3 l4 l5 l6 l7 x19 I o9
noncomputable def fC_endBelow_B52 (P : am_Q) (e52_104 : Nat → Nat → Int32 → Int32 → Int32 → Int32 → Int32 → Int32 → am_M → Option (Int32 × am_M)) (r52 : Nat → Nat → Int32 → Int32 → Int32 → Int32 → Int32 → Int32 → Int32 → am_M → Option (Int32 × am_M)) (l0 : Nat) (l1 : Nat) (l2 : Int32) (l3 : Int32) (l4 : Int32) (l5 : Int32) (l6 : Int32) (l7 : Int32) (l8 : Int32) (I : am_M) : Option (Int32 × am_M) :=
  if l4 ≤ l8 then
    (e52_104 l0 l1 l2 l3 l4 l5 l6 l7 I)
  else
    (sm_ck (am_t l1 = 11) <|
    sm_ck (sm_in (P l1 11) l8) <|
    sm_bd (I (P l1 11) l8.toNatClampNeg) fun x15 =>
    sm_ck (am_t l0 = 5) <|
    sm_ck (sm_in (P l0 4) l5) <|
    if ¬ ((sm_shr (I (P l0 4) l5.toNatClampNeg) x15) &&& 1) = 1 then
      (fC_endBelow_J98 P r52 l0 l1 l2 l3 l4 l5 l6 l7 l8 I)
    else
      (sm_ck (sm_in (P l0 3) x15) <|
      sm_bd (sm_max l7 (I (P l0 3) x15.toNatClampNeg)) fun x21 =>
      fC_endBelow_J98 P r52 l0 l1 l2 l3 l4 l5 l6 x21 l8 I))
set_option maxRecDepth 100000 in
theorem AfC_endBelow_B52 {dp : Nat} {P : am_Q} {nx : Nat} {sl : Nat} {e52_104 : Nat → Nat → Int32 → Int32 → Int32 → Int32 → Int32 → Int32 → am_M → Option (Int32 × am_M)} {r52 : Nat → Nat → Int32 → Int32 → Int32 → Int32 → Int32 → Int32 → Int32 → am_M → Option (Int32 × am_M)} (he52_104 : ∀ (l0 : Nat) (l1 : Nat) (l2 : Int32) (l3 : Int32) (l4 : Int32) (l5 : Int32) (l6 : Int32) (l7 : Int32) (I : am_M) (o8 : Option am_V) (o9 : Option am_V), sm (dp + 1) am_d121 104 [some (.inr l0), some (.inr l1), some (.inl l2), some (.inl l3), some (.inl l4), some (.inl l5), some (.inl l6), some (.inl l7), o8, o9] [] (I, P, nx, sl) (sm_g1 P nx sl) (e52_104 l0 l1 l2 l3 l4 l5 l6 l7 I)) (hr52 : ∀ (l0 : Nat) (l1 : Nat) (l2 : Int32) (l3 : Int32) (l4 : Int32) (l5 : Int32) (l6 : Int32) (l7 : Int32) (l8 : Int32) (I : am_M) (o9 : Option am_V), sm (dp + 1) am_d121 52 [some (.inr l0), some (.inr l1), some (.inl l2), some (.inl l3), some (.inl l4), some (.inl l5), some (.inl l6), some (.inl l7), some (.inl l8), o9] [] (I, P, nx, sl) (sm_g1 P nx sl) (r52 l0 l1 l2 l3 l4 l5 l6 l7 l8 I)) (l0 : Nat) (l1 : Nat) (l2 : Int32) (l3 : Int32) (l4 : Int32) (l5 : Int32) (l6 : Int32) (l7 : Int32) (l8 : Int32) (I : am_M) (o9 : Option am_V) : sm (dp + 1) am_d121 52 [some (.inr l0), some (.inr l1), some (.inl l2), some (.inl l3), some (.inl l4), some (.inl l5), some (.inl l6), some (.inl l7), some (.inl l8), o9] [] (I, P, nx, sl) (sm_g1 P nx sl) (fC_endBelow_B52 P e52_104 r52 l0 l1 l2 l3 l4 l5 l6 l7 l8 I) := by
  unfold fC_endBelow_B52
  refine r_iload rfl rfl ?_
  refine r_iload rfl rfl ?_
  refine r_icmp rfl rfl (fun c12 => ?_) (fun c12 => ?_)
  · exact he52_104 l0 l1 l2 l3 l4 l5 l6 l7 I (some (.inl l8)) o9
  · refine r_ck (fun h13 => ?_)
    refine r_aload rfl rfl (am_nz h13) ?_
    refine r_getP rfl h13 ?_
    refine r_iload rfl rfl ?_
    refine r_ck (fun h14 => ?_)
    refine r_iald rfl h14 ?_
    refine r_bd (fun x15 => ?_)
    refine r_istore (ls' := [some (.inr l0), some (.inr l1), some (.inl l2), some (.inl l3), some (.inl l4), some (.inl l5), some (.inl l6), some (.inl l7), some (.inl l8), some (.inl x15)]) rfl (Nat.le_of_ble_eq_true rfl) rfl ?_
    refine r_ck (fun h16 => ?_)
    refine r_aload rfl rfl (am_nz h16) ?_
    refine r_getP rfl h16 ?_
    refine r_iload rfl rfl ?_
    refine r_ck (fun h17 => ?_)
    refine r_iald rfl h17 ?_
    refine r_iload rfl rfl ?_
    refine r_bin (z := sm_shr (I (P l0 4) l5.toNatClampNeg) x15) rfl rfl (by decide) ?_
    refine r_const (x := 1) rfl rfl ?_
    refine r_bin (z := (sm_shr (I (P l0 4) l5.toNatClampNeg) x15) &&& 1) rfl rfl (by decide) ?_
    refine r_const (x := 1) rfl rfl ?_
    refine r_icmp rfl rfl (fun c18 => ?_) (fun c18 => ?_)
    · exact AfC_endBelow_J98 hr52 l0 l1 l2 l3 l4 l5 l6 l7 l8 I (some (.inl x15))
    · refine r_iload rfl rfl ?_
      refine r_aload rfl rfl (am_nz h16) ?_
      refine r_getP rfl h16 ?_
      refine r_iload rfl rfl ?_
      refine r_ck (fun h20 => ?_)
      refine r_iald rfl h20 ?_
      refine r_mm (z := sm_max l7 (I (P l0 3) x15.toNatClampNeg)) rfl rfl (Nat.le_of_ble_eq_true rfl) ?_
      refine r_bd (fun x21 => ?_)
      refine r_istore (ls' := [some (.inr l0), some (.inr l1), some (.inl l2), some (.inl l3), some (.inl l4), some (.inl l5), some (.inl l6), some (.inl x21), some (.inl l8), some (.inl x15)]) rfl (Nat.le_of_ble_eq_true rfl) rfl ?_
      exact AfC_endBelow_J98 hr52 l0 l1 l2 l3 l4 l5 l6 x21 l8 I (some (.inl x15))
noncomputable def fC_endBelow_L52 (P : am_Q) (e52_104 : Nat → Nat → Int32 → Int32 → Int32 → Int32 → Int32 → Int32 → am_M → Option (Int32 × am_M)) : Nat → Nat → Nat → Int32 → Int32 → Int32 → Int32 → Int32 → Int32 → Int32 → am_M → Option (Int32 × am_M)
  | 0, _, _, _, _, _, _, _, _, _, _ => none
  | n + 1, l0, l1, l2, l3, l4, l5, l6, l7, l8, I => fC_endBelow_B52 P e52_104 (fC_endBelow_L52 P e52_104 n) l0 l1 l2 l3 l4 l5 l6 l7 l8 I
theorem AfC_endBelow_L52 {dp : Nat} {P : am_Q} {nx : Nat} {sl : Nat} {e52_104 : Nat → Nat → Int32 → Int32 → Int32 → Int32 → Int32 → Int32 → am_M → Option (Int32 × am_M)} (he52_104 : ∀ (l0 : Nat) (l1 : Nat) (l2 : Int32) (l3 : Int32) (l4 : Int32) (l5 : Int32) (l6 : Int32) (l7 : Int32) (I : am_M) (o8 : Option am_V) (o9 : Option am_V), sm (dp + 1) am_d121 104 [some (.inr l0), some (.inr l1), some (.inl l2), some (.inl l3), some (.inl l4), some (.inl l5), some (.inl l6), some (.inl l7), o8, o9] [] (I, P, nx, sl) (sm_g1 P nx sl) (e52_104 l0 l1 l2 l3 l4 l5 l6 l7 I)) (n : Nat) : ∀ (l0 : Nat) (l1 : Nat) (l2 : Int32) (l3 : Int32) (l4 : Int32) (l5 : Int32) (l6 : Int32) (l7 : Int32) (l8 : Int32) (I : am_M) (o9 : Option am_V), sm (dp + 1) am_d121 52 [some (.inr l0), some (.inr l1), some (.inl l2), some (.inl l3), some (.inl l4), some (.inl l5), some (.inl l6), some (.inl l7), some (.inl l8), o9] [] (I, P, nx, sl) (sm_g1 P nx sl) (fC_endBelow_L52 P e52_104 n l0 l1 l2 l3 l4 l5 l6 l7 l8 I) := by
  induction n with
  | zero => intro l0 l1 l2 l3 l4 l5 l6 l7 l8 I o9; exact sm_none
  | succ n ih => intro l0 l1 l2 l3 l4 l5 l6 l7 l8 I o9; exact AfC_endBelow_B52 he52_104 ih l0 l1 l2 l3 l4 l5 l6 l7 l8 I o9
noncomputable def fC_endBelow_B13 (P : am_Q) (e13_155 : Int32 → am_M → Option (Int32 × am_M)) (e13_163 : Int32 → am_M → Option (Int32 × am_M)) (r13 : Nat → Nat → Int32 → Int32 → Int32 → am_M → Option (Int32 × am_M)) (l0 : Nat) (l1 : Nat) (l2 : Int32) (l3 : Int32) (l4 : Int32) (I : am_M) : Option (Int32 × am_M) :=
  sm_ck (am_t l1 = 11) <|
  if (I l1 6) ≤ l4 then
    (e13_163 l3 I)
  else
    (sm_ck (sm_in (P l1 11) l4) <|
    sm_bd (I (P l1 11) l4.toNatClampNeg) fun x6 =>
    sm_ck (am_t l0 = 5) <|
    sm_ck (sm_in (P l0 0) x6) <|
    sm_bd (I (P l0 0) x6.toNatClampNeg) fun x9 =>
    sm_ck (sm_in (P l0 2) x9) <|
    sm_bd (I (P l0 2) x9.toNatClampNeg) fun x11 =>
    fC_endBelow_L52 P (fun l0 l1 l2 l3 l4 l5 l6 l7 I =>
        sm_ck (am_t l0 = 5) <|
        sm_ck (am_t l1 = 11) <|
        sm_ck (sm_ia (P l1 9) l5) <|
        sm_ck (am_t (P (P l1 9) l5.toNatClampNeg) = 1) <|
        sm_ck (sm_iw (P l0 3) l5) <|
        sm_bd (am_up I (P l0 3) l5.toNatClampNeg (l7 + (I (P (P l1 9) l5.toNatClampNeg) 6))) fun I27 =>
        sm_ck (sm_in (P l0 3) l5) <|
        sm_ck (sm_iw (P l0 2) l6) <|
        sm_bd (am_up I27 (P l0 2) l6.toNatClampNeg (I27 (P l0 3) l5.toNatClampNeg)) fun I30 =>
        sm_ck (sm_in (P l0 3) l5) <|
        sm_bd (sm_max l3 (I30 (P l0 3) l5.toNatClampNeg)) fun x32 =>
        if x32 < l2 then
          (sm_bd (l4 + 1) fun x34 =>
          r13 l0 l1 l2 x32 x34 I30)
        else
          (e13_155 l2 I30)) sm_fu l0 l1 l2 l3 l4 x6 x9 x11 0 I)
set_option maxRecDepth 100000 in
theorem AfC_endBelow_B13 {dp : Nat} {P : am_Q} {nx : Nat} {sl : Nat} {e13_155 : Int32 → am_M → Option (Int32 × am_M)} {e13_163 : Int32 → am_M → Option (Int32 × am_M)} {r13 : Nat → Nat → Int32 → Int32 → Int32 → am_M → Option (Int32 × am_M)} (he13_155 : ∀ (l2 : Int32) (I : am_M) (o0 : Option am_V) (o1 : Option am_V) (o3 : Option am_V) (o4 : Option am_V) (o5 : Option am_V) (o6 : Option am_V) (o7 : Option am_V) (o8 : Option am_V) (o9 : Option am_V), sm (dp + 1) am_d121 155 [o0, o1, some (.inl l2), o3, o4, o5, o6, o7, o8, o9] [] (I, P, nx, sl) (sm_g1 P nx sl) (e13_155 l2 I)) (he13_163 : ∀ (l3 : Int32) (I : am_M) (o0 : Option am_V) (o1 : Option am_V) (o2 : Option am_V) (o4 : Option am_V) (o5 : Option am_V) (o6 : Option am_V) (o7 : Option am_V) (o8 : Option am_V) (o9 : Option am_V), sm (dp + 1) am_d121 163 [o0, o1, o2, some (.inl l3), o4, o5, o6, o7, o8, o9] [] (I, P, nx, sl) (sm_g1 P nx sl) (e13_163 l3 I)) (hr13 : ∀ (l0 : Nat) (l1 : Nat) (l2 : Int32) (l3 : Int32) (l4 : Int32) (I : am_M) (o5 : Option am_V) (o6 : Option am_V) (o7 : Option am_V) (o8 : Option am_V) (o9 : Option am_V), sm (dp + 1) am_d121 13 [some (.inr l0), some (.inr l1), some (.inl l2), some (.inl l3), some (.inl l4), o5, o6, o7, o8, o9] [] (I, P, nx, sl) (sm_g1 P nx sl) (r13 l0 l1 l2 l3 l4 I)) (l0 : Nat) (l1 : Nat) (l2 : Int32) (l3 : Int32) (l4 : Int32) (I : am_M) (o5 : Option am_V) (o6 : Option am_V) (o7 : Option am_V) (o8 : Option am_V) (o9 : Option am_V) : sm (dp + 1) am_d121 13 [some (.inr l0), some (.inr l1), some (.inl l2), some (.inl l3), some (.inl l4), o5, o6, o7, o8, o9] [] (I, P, nx, sl) (sm_g1 P nx sl) (fC_endBelow_B13 P e13_155 e13_163 r13 l0 l1 l2 l3 l4 I) := by
  unfold fC_endBelow_B13
  refine r_iload rfl rfl ?_
  refine r_ck (fun h3 => ?_)
  refine r_aload rfl rfl (am_nz h3) ?_
  refine r_getI rfl h3 ?_
  refine r_icmp rfl rfl (fun c4 => ?_) (fun c4 => ?_)
  · exact he13_163 l3 I (some (.inr l0)) (some (.inr l1)) (some (.inl l2)) (some (.inl l4)) o5 o6 o7 o8 o9
  · refine r_aload rfl rfl (am_nz h3) ?_
    refine r_getP rfl h3 ?_
    refine r_iload rfl rfl ?_
    refine r_ck (fun h5 => ?_)
    refine r_iald rfl h5 ?_
    refine r_bd (fun x6 => ?_)
    refine r_istore (ls' := [some (.inr l0), some (.inr l1), some (.inl l2), some (.inl l3), some (.inl l4), some (.inl x6), o6, o7, o8, o9]) rfl (Nat.le_of_ble_eq_true rfl) rfl ?_
    refine r_ck (fun h7 => ?_)
    refine r_aload rfl rfl (am_nz h7) ?_
    refine r_getP rfl h7 ?_
    refine r_iload rfl rfl ?_
    refine r_ck (fun h8 => ?_)
    refine r_iald rfl h8 ?_
    refine r_bd (fun x9 => ?_)
    refine r_istore (ls' := [some (.inr l0), some (.inr l1), some (.inl l2), some (.inl l3), some (.inl l4), some (.inl x6), some (.inl x9), o7, o8, o9]) rfl (Nat.le_of_ble_eq_true rfl) rfl ?_
    refine r_aload rfl rfl (am_nz h7) ?_
    refine r_getP rfl h7 ?_
    refine r_iload rfl rfl ?_
    refine r_ck (fun h10 => ?_)
    refine r_iald rfl h10 ?_
    refine r_bd (fun x11 => ?_)
    refine r_istore (ls' := [some (.inr l0), some (.inr l1), some (.inl l2), some (.inl l3), some (.inl l4), some (.inl x6), some (.inl x9), some (.inl x11), o8, o9]) rfl (Nat.le_of_ble_eq_true rfl) rfl ?_
    refine r_const (x := 0) rfl rfl ?_
    refine r_istore (ls' := [some (.inr l0), some (.inr l1), some (.inl l2), some (.inl l3), some (.inl l4), some (.inl x6), some (.inl x9), some (.inl x11), some (.inl 0), o9]) rfl (Nat.le_of_ble_eq_true rfl) rfl ?_
    refine AfC_endBelow_L52 ?_ sm_fu l0 l1 l2 l3 l4 x6 x9 x11 0 I o9
    · intro l0 l1 l2 l3 l4 l5 l6 l7 I o8 o9
      refine r_ck (fun h22 => ?_)
      refine r_aload rfl rfl (am_nz h22) ?_
      refine r_getP rfl h22 ?_
      refine r_iload rfl rfl ?_
      refine r_iload rfl rfl ?_
      refine r_ck (fun h23 => ?_)
      refine r_aload rfl rfl (am_nz h23) ?_
      refine r_getP rfl h23 ?_
      refine r_iload rfl rfl ?_
      refine r_ck (fun h24 => ?_)
      refine r_aald rfl h24 ?_
      refine r_ck (fun h25 => ?_)
      refine r_getI rfl h25 ?_
      refine r_bin (z := l7 + (I (P (P l1 9) l5.toNatClampNeg) 6)) rfl rfl (by decide) ?_
      refine r_ck (fun h26 => ?_)
      refine r_iast rfl h26 (fun I27 => ?_)
      refine r_aload rfl rfl (am_nz h22) ?_
      refine r_getP rfl h22 ?_
      refine r_iload rfl rfl ?_
      refine r_aload rfl rfl (am_nz h22) ?_
      refine r_getP rfl h22 ?_
      refine r_iload rfl rfl ?_
      refine r_ck (fun h28 => ?_)
      refine r_iald rfl h28 ?_
      refine r_ck (fun h29 => ?_)
      refine r_iast rfl h29 (fun I30 => ?_)
      refine r_iload rfl rfl ?_
      refine r_aload rfl rfl (am_nz h22) ?_
      refine r_getP rfl h22 ?_
      refine r_iload rfl rfl ?_
      refine r_ck (fun h31 => ?_)
      refine r_iald rfl h31 ?_
      refine r_mm (z := sm_max l3 (I30 (P l0 3) l5.toNatClampNeg)) rfl rfl (Nat.le_of_ble_eq_true rfl) ?_
      refine r_bd (fun x32 => ?_)
      refine r_istore (ls' := [some (.inr l0), some (.inr l1), some (.inl l2), some (.inl x32), some (.inl l4), some (.inl l5), some (.inl l6), some (.inl l7), o8, o9]) rfl (Nat.le_of_ble_eq_true rfl) rfl ?_
      refine r_iload rfl rfl ?_
      refine r_iload rfl rfl ?_
      refine r_icmp rfl rfl (fun c33 => ?_) (fun c33 => ?_)
      · refine r_iinc (e := l4 + 1) (ls' := fun x34 => [some (.inr l0), some (.inr l1), some (.inl l2), some (.inl x32), some (.inl x34), some (.inl l5), some (.inl l6), some (.inl l7), o8, o9]) rfl rfl rfl (fun _ => rfl) (fun x34 => ?_)
        refine r_goto rfl ?_
        exact hr13 l0 l1 l2 x32 x34 I30 (some (.inl l5)) (some (.inl l6)) (some (.inl l7)) o8 o9
      · exact he13_155 l2 I30 (some (.inr l0)) (some (.inr l1)) (some (.inl x32)) (some (.inl l4)) (some (.inl l5)) (some (.inl l6)) (some (.inl l7)) o8 o9
noncomputable def fC_endBelow_L13 (P : am_Q) (e13_155 : Int32 → am_M → Option (Int32 × am_M)) (e13_163 : Int32 → am_M → Option (Int32 × am_M)) : Nat → Nat → Nat → Int32 → Int32 → Int32 → am_M → Option (Int32 × am_M)
  | 0, _, _, _, _, _, _ => none
  | n + 1, l0, l1, l2, l3, l4, I => fC_endBelow_B13 P e13_155 e13_163 (fC_endBelow_L13 P e13_155 e13_163 n) l0 l1 l2 l3 l4 I
theorem AfC_endBelow_L13 {dp : Nat} {P : am_Q} {nx : Nat} {sl : Nat} {e13_155 : Int32 → am_M → Option (Int32 × am_M)} {e13_163 : Int32 → am_M → Option (Int32 × am_M)} (he13_155 : ∀ (l2 : Int32) (I : am_M) (o0 : Option am_V) (o1 : Option am_V) (o3 : Option am_V) (o4 : Option am_V) (o5 : Option am_V) (o6 : Option am_V) (o7 : Option am_V) (o8 : Option am_V) (o9 : Option am_V), sm (dp + 1) am_d121 155 [o0, o1, some (.inl l2), o3, o4, o5, o6, o7, o8, o9] [] (I, P, nx, sl) (sm_g1 P nx sl) (e13_155 l2 I)) (he13_163 : ∀ (l3 : Int32) (I : am_M) (o0 : Option am_V) (o1 : Option am_V) (o2 : Option am_V) (o4 : Option am_V) (o5 : Option am_V) (o6 : Option am_V) (o7 : Option am_V) (o8 : Option am_V) (o9 : Option am_V), sm (dp + 1) am_d121 163 [o0, o1, o2, some (.inl l3), o4, o5, o6, o7, o8, o9] [] (I, P, nx, sl) (sm_g1 P nx sl) (e13_163 l3 I)) (n : Nat) : ∀ (l0 : Nat) (l1 : Nat) (l2 : Int32) (l3 : Int32) (l4 : Int32) (I : am_M) (o5 : Option am_V) (o6 : Option am_V) (o7 : Option am_V) (o8 : Option am_V) (o9 : Option am_V), sm (dp + 1) am_d121 13 [some (.inr l0), some (.inr l1), some (.inl l2), some (.inl l3), some (.inl l4), o5, o6, o7, o8, o9] [] (I, P, nx, sl) (sm_g1 P nx sl) (fC_endBelow_L13 P e13_155 e13_163 n l0 l1 l2 l3 l4 I) := by
  induction n with
  | zero => intro l0 l1 l2 l3 l4 I o5 o6 o7 o8 o9; exact sm_none
  | succ n ih => intro l0 l1 l2 l3 l4 I o5 o6 o7 o8 o9; exact AfC_endBelow_B13 he13_155 he13_163 ih l0 l1 l2 l3 l4 I o5 o6 o7 o8 o9
noncomputable def fC_endBelow (P : am_Q) (l0 : Nat) (l1 : Nat) (l2 : Int32) (I : am_M) : Option (Int32 × am_M) :=
  sm_ck (am_t l0 = 5) <|
  Option.bind (fA_fill P (P l0 2) 0 I) fun y2 =>
  fC_endBelow_L13 P (fun l2 I =>
      some (l2, I)) (fun l3 I =>
      some (l3, I)) sm_fu l0 l1 l2 0 0 y2
set_option maxRecDepth 100000 in
theorem AfC_endBelow {dp : Nat} {P : am_Q} {nx : Nat} {sl : Nat} {I : am_M} {l0 : Nat} {l1 : Nat} {l2 : Int32} {y : Int32 × am_M} (hy : fC_endBelow P l0 l1 l2 I = some y) : sm_T (dp + 2) 121 [.inr l0, .inr l1, .inl l2] (I, P, nx, sl) ((sm_g1 P nx sl) y) := by
  refine r_meth (d := am_d121) (dp := dp + 1) (ls0 := [some (.inr l0), some (.inr l1), some (.inl l2), none, none, none, none, none, none, none]) rfl (by decide) rfl rfl ?_ hy
  unfold fC_endBelow
  refine r_ck (fun h1 => ?_)
  refine r_aload rfl rfl (am_nz h1) ?_
  refine r_getP rfl h1 ?_
  refine r_const (x := 0) rfl rfl ?_
  refine r_call2 rfl rfl trivial (fun y hy => AfA_fill (dp := dp + 0) hy) (fun y2 => ?_)
  refine r_const (x := 0) rfl rfl ?_
  refine r_istore (ls' := [some (.inr l0), some (.inr l1), some (.inl l2), some (.inl 0), none, none, none, none, none, none]) rfl (Nat.le_of_ble_eq_true rfl) rfl ?_
  refine r_const (x := 0) rfl rfl ?_
  refine r_istore (ls' := [some (.inr l0), some (.inr l1), some (.inl l2), some (.inl 0), some (.inl 0), none, none, none, none, none]) rfl (Nat.le_of_ble_eq_true rfl) rfl ?_
  refine AfC_endBelow_L13 ?_ ?_ sm_fu l0 l1 l2 0 0 y2 none none none none none
  · intro l2 I o0 o1 o3 o4 o5 o6 o7 o8 o9
    refine r_iload rfl rfl ?_
    exact r_ireturn rfl (Or.inl rfl) rfl
  · intro l3 I o0 o1 o2 o4 o5 o6 o7 o8 o9
    refine r_iload rfl rfl ?_
    exact r_ireturn rfl (Or.inl rfl) rfl
noncomputable def fC_endAs (P : am_Q) (l0 : Nat) (l1 : Nat) (l2 : Nat) (I : am_M) : Option (Int32 × am_M) :=
  sm_ck (am_t l2 = 20) <|
  sm_ck (am_t l0 = 5) <|
  sm_ck (am_t l1 = 11) <|
  sm_ck (sm_cp l2 0 (P l0 0) 0 (I l1 6)) <|
  sm_bd (am_set I (P l0 0) (va_cpy (I l2) (I (P l0 0)) (0 : Int32).toNatClampNeg (0 : Int32).toNatClampNeg (I l1 6).toNatClampNeg)) fun I5 =>
  Option.bind (fC_findWaits P l0 l1 I5) fun y6 =>
  Option.bind (fC_endBelow P l0 l1 1000 y6) fun y7 =>
  some (y7.1, y7.2)
set_option maxRecDepth 100000 in
theorem AfC_endAs {dp : Nat} {P : am_Q} {nx : Nat} {sl : Nat} {I : am_M} {l0 : Nat} {l1 : Nat} {l2 : Nat} {y : Int32 × am_M} (hy : fC_endAs P l0 l1 l2 I = some y) : sm_T (dp + 4) 119 [.inr l0, .inr l1, .inr l2] (I, P, nx, sl) ((sm_g1 P nx sl) y) := by
  refine r_meth (d := am_d119) (dp := dp + 3) (ls0 := [some (.inr l0), some (.inr l1), some (.inr l2)]) rfl (by decide) rfl rfl ?_ hy
  unfold fC_endAs
  refine r_ck (fun h1 => ?_)
  refine r_aload rfl rfl (am_nz h1) ?_
  refine r_const (x := 0) rfl rfl ?_
  refine r_ck (fun h2 => ?_)
  refine r_aload rfl rfl (am_nz h2) ?_
  refine r_getP rfl h2 ?_
  refine r_const (x := 0) rfl rfl ?_
  refine r_ck (fun h3 => ?_)
  refine r_aload rfl rfl (am_nz h3) ?_
  refine r_getI rfl h3 ?_
  refine r_ck (fun h4 => ?_)
  refine r_copy rfl h4 (Nat.le_of_ble_eq_true rfl) (fun I5 => ?_)
  refine r_aload rfl rfl (am_nz h2) ?_
  refine r_aload rfl rfl (am_nz h3) ?_
  refine r_call2 rfl rfl h2 (fun y hy => AfC_findWaits (dp := dp + 0) hy) (fun y6 => ?_)
  refine r_aload rfl rfl (am_nz h2) ?_
  refine r_aload rfl rfl (am_nz h3) ?_
  refine r_const (x := 1000) rfl rfl ?_
  refine r_call1 rfl rfl h2 (fun y hy => AfC_endBelow (dp := dp + 1) hy) (fun y7 => ?_)
  exact r_ireturn rfl (Or.inl rfl) rfl
noncomputable def fX_end (P : am_Q) (l0 : Nat) (l1 : Int32) (l2 : Int32) (I : am_M) : Option (Int32 × am_M) :=
  Option.bind (fX_isMachines l1) fun y1 =>
  if y1 = 0 then
    (sm_ck (am_t l0 = 12) <|
    Option.bind (fX_found P l0 ((-1000001)) I) fun y4 =>
    some (y4.1, y4.2))
  else
    (Option.bind (fX_isSheet l2) fun y5 =>
    if ¬ y5 = 0 then
      (sm_ck (am_t l0 = 12) <|
      sm_ck (sm_ia (P l0 13) l2) <|
      sm_ck (am_t (P (P l0 13) l2.toNatClampNeg) = 9) <|
      Option.bind (fE_isMissing I P (P (P l0 13) l2.toNatClampNeg)) fun y10 =>
      if y10 = 0 then
        (sm_ck (sm_ia (P l0 13) l2) <|
        sm_ck (am_t (P l0 0) = 11) <|
        if (I (P (P l0 13) l2.toNatClampNeg) 1) = (I (P l0 0) 6) then
          (sm_ck (sm_ia (P l0 13) l2) <|
          Option.bind (fE_areBelow I P (P (P l0 13) l2.toNatClampNeg) l1) fun y16 =>
          if ¬ y16 = 0 then
            (sm_ck (sm_ia (P l0 13) l2) <|
            sm_ck (am_t (P l0 12) = 5) <|
            Option.bind (fC_endAs P (P l0 12) (P l0 0) (P (P (P l0 13) l2.toNatClampNeg) 0) I) fun y20 =>
            some (y20.1, y20.2))
          else
            (Option.bind (fX_found P l0 ((-1000001)) I) fun y21 =>
            some (y21.1, y21.2)))
        else
          (Option.bind (fX_found P l0 ((-1000007)) I) fun y22 =>
          some (y22.1, y22.2)))
      else
        (Option.bind (fX_found P l0 ((-1000006)) I) fun y23 =>
        some (y23.1, y23.2)))
    else
      (sm_ck (am_t l0 = 12) <|
      Option.bind (fX_found P l0 ((-1000001)) I) fun y25 =>
      some (y25.1, y25.2)))
set_option maxRecDepth 100000 in
theorem AfX_end {dp : Nat} {P : am_Q} {nx : Nat} {sl : Nat} {I : am_M} {l0 : Nat} {l1 : Int32} {l2 : Int32} {y : Int32 × am_M} (hy : fX_end P l0 l1 l2 I = some y) : sm_T (dp + 5) 116 [.inr l0, .inl l1, .inl l2] (I, P, nx, sl) ((sm_g1 P nx sl) y) := by
  refine r_meth (d := am_d116) (dp := dp + 4) (ls0 := [some (.inr l0), some (.inl l1), some (.inl l2)]) rfl (by decide) rfl rfl ?_ hy
  unfold fX_end
  refine r_iload rfl rfl ?_
  refine r_call0 rfl rfl trivial (fun y hy => AfX_isMachines (dp := dp + 3) hy) (fun y1 => ?_)
  refine r_if rfl rfl (fun c2 => ?_) (fun c2 => ?_)
  · refine r_ck (fun h3 => ?_)
    refine r_aload rfl rfl (am_nz h3) ?_
    refine r_const (x := (-1000001)) rfl rfl ?_
    refine r_call1 rfl rfl h3 (fun y hy => AfX_found (dp := dp + 3) hy) (fun y4 => ?_)
    exact r_ireturn rfl (Or.inl rfl) rfl
  · refine r_iload rfl rfl ?_
    refine r_call0 rfl rfl trivial (fun y hy => AfX_isSheet (dp := dp + 3) hy) (fun y5 => ?_)
    refine r_if rfl rfl (fun c6 => ?_) (fun c6 => ?_)
    · refine r_ck (fun h7 => ?_)
      refine r_aload rfl rfl (am_nz h7) ?_
      refine r_getP rfl h7 ?_
      refine r_iload rfl rfl ?_
      refine r_ck (fun h8 => ?_)
      refine r_aald rfl h8 ?_
      refine r_ck (fun h9 => ?_)
      refine r_call0 rfl rfl h9 (fun y hy => AfE_isMissing (dp := dp + 3) hy) (fun y10 => ?_)
      refine r_if rfl rfl (fun c11 => ?_) (fun c11 => ?_)
      · refine r_aload rfl rfl (am_nz h7) ?_
        refine r_getP rfl h7 ?_
        refine r_iload rfl rfl ?_
        refine r_ck (fun h12 => ?_)
        refine r_aald rfl h12 ?_
        refine r_getI rfl h9 ?_
        refine r_aload rfl rfl (am_nz h7) ?_
        refine r_getP rfl h7 ?_
        refine r_ck (fun h13 => ?_)
        refine r_getI rfl h13 ?_
        refine r_icmp rfl rfl (fun c14 => ?_) (fun c14 => ?_)
        · refine r_aload rfl rfl (am_nz h7) ?_
          refine r_getP rfl h7 ?_
          refine r_iload rfl rfl ?_
          refine r_ck (fun h15 => ?_)
          refine r_aald rfl h15 ?_
          refine r_iload rfl rfl ?_
          refine r_call0 rfl rfl h9 (fun y hy => AfE_areBelow (dp := dp + 3) hy) (fun y16 => ?_)
          refine r_if rfl rfl (fun c17 => ?_) (fun c17 => ?_)
          · refine r_aload rfl rfl (am_nz h7) ?_
            refine r_getP rfl h7 ?_
            refine r_aload rfl rfl (am_nz h7) ?_
            refine r_getP rfl h7 ?_
            refine r_aload rfl rfl (am_nz h7) ?_
            refine r_getP rfl h7 ?_
            refine r_iload rfl rfl ?_
            refine r_ck (fun h18 => ?_)
            refine r_aald rfl h18 ?_
            refine r_getP rfl h9 ?_
            refine r_ck (fun h19 => ?_)
            refine r_call1 rfl rfl h19 (fun y hy => AfC_endAs (dp := dp + 0) hy) (fun y20 => ?_)
            exact r_ireturn rfl (Or.inl rfl) rfl
          · refine r_aload rfl rfl (am_nz h7) ?_
            refine r_const (x := (-1000001)) rfl rfl ?_
            refine r_call1 rfl rfl h7 (fun y hy => AfX_found (dp := dp + 3) hy) (fun y21 => ?_)
            exact r_ireturn rfl (Or.inl rfl) rfl
        · refine r_aload rfl rfl (am_nz h7) ?_
          refine r_const (x := (-1000007)) rfl rfl ?_
          refine r_call1 rfl rfl h7 (fun y hy => AfX_found (dp := dp + 3) hy) (fun y22 => ?_)
          exact r_ireturn rfl (Or.inl rfl) rfl
      · refine r_aload rfl rfl (am_nz h7) ?_
        refine r_const (x := (-1000006)) rfl rfl ?_
        refine r_call1 rfl rfl h7 (fun y hy => AfX_found (dp := dp + 3) hy) (fun y23 => ?_)
        exact r_ireturn rfl (Or.inl rfl) rfl
    · refine r_ck (fun h24 => ?_)
      refine r_aload rfl rfl (am_nz h24) ?_
      refine r_const (x := (-1000001)) rfl rfl ?_
      refine r_call1 rfl rfl h24 (fun y hy => AfX_found (dp := dp + 3) hy) (fun y25 => ?_)
      exact r_ireturn rfl (Or.inl rfl) rfl
noncomputable def fC_findLaying_B5 (P : am_Q) (e5_24 : Nat → Nat → Int32 → Int32 → am_M → Option (Int32 × am_M)) (r5 : Nat → Nat → Int32 → Int32 → Int32 → am_M → Option (Int32 × am_M)) (l0 : Nat) (l1 : Nat) (l2 : Int32) (l3 : Int32) (l4 : Int32) (I : am_M) : Option (Int32 × am_M) :=
  sm_ck (am_t l1 = 11) <|
  if (I l1 6) ≤ l4 then
    (e5_24 l0 l1 l2 l3 I)
  else
    (sm_bd (l3 * l2) fun x3 =>
    sm_bd (l4 + 1) fun x4 =>
    r5 l0 l1 l2 x3 x4 I)
set_option maxRecDepth 100000 in
theorem AfC_findLaying_B5 {dp : Nat} {P : am_Q} {nx : Nat} {sl : Nat} {e5_24 : Nat → Nat → Int32 → Int32 → am_M → Option (Int32 × am_M)} {r5 : Nat → Nat → Int32 → Int32 → Int32 → am_M → Option (Int32 × am_M)} (he5_24 : ∀ (l0 : Nat) (l1 : Nat) (l2 : Int32) (l3 : Int32) (I : am_M) (o4 : Option am_V) (o5 : Option am_V) (o6 : Option am_V), sm (dp + 3) am_d123 24 [some (.inr l0), some (.inr l1), some (.inl l2), some (.inl l3), o4, o5, o6] [] (I, P, nx, sl) (sm_g1 P nx sl) (e5_24 l0 l1 l2 l3 I)) (hr5 : ∀ (l0 : Nat) (l1 : Nat) (l2 : Int32) (l3 : Int32) (l4 : Int32) (I : am_M) (o5 : Option am_V) (o6 : Option am_V), sm (dp + 3) am_d123 5 [some (.inr l0), some (.inr l1), some (.inl l2), some (.inl l3), some (.inl l4), o5, o6] [] (I, P, nx, sl) (sm_g1 P nx sl) (r5 l0 l1 l2 l3 l4 I)) (l0 : Nat) (l1 : Nat) (l2 : Int32) (l3 : Int32) (l4 : Int32) (I : am_M) (o5 : Option am_V) (o6 : Option am_V) : sm (dp + 3) am_d123 5 [some (.inr l0), some (.inr l1), some (.inl l2), some (.inl l3), some (.inl l4), o5, o6] [] (I, P, nx, sl) (sm_g1 P nx sl) (fC_findLaying_B5 P e5_24 r5 l0 l1 l2 l3 l4 I) := by
  unfold fC_findLaying_B5
  refine r_iload rfl rfl ?_
  refine r_ck (fun h1 => ?_)
  refine r_aload rfl rfl (am_nz h1) ?_
  refine r_getI rfl h1 ?_
  refine r_icmp rfl rfl (fun c2 => ?_) (fun c2 => ?_)
  · exact he5_24 l0 l1 l2 l3 I (some (.inl l4)) o5 o6
  · refine r_iload rfl rfl ?_
    refine r_iload rfl rfl ?_
    refine r_bin (z := l3 * l2) rfl rfl (by decide) ?_
    refine r_bd (fun x3 => ?_)
    refine r_istore (ls' := [some (.inr l0), some (.inr l1), some (.inl l2), some (.inl x3), some (.inl l4), o5, o6]) rfl (Nat.le_of_ble_eq_true rfl) rfl ?_
    refine r_iinc (e := l4 + 1) (ls' := fun x4 => [some (.inr l0), some (.inr l1), some (.inl l2), some (.inl x3), some (.inl x4), o5, o6]) rfl rfl rfl (fun _ => rfl) (fun x4 => ?_)
    refine r_goto rfl ?_
    exact hr5 l0 l1 l2 x3 x4 I o5 o6
noncomputable def fC_findLaying_L5 (P : am_Q) (e5_24 : Nat → Nat → Int32 → Int32 → am_M → Option (Int32 × am_M)) : Nat → Nat → Nat → Int32 → Int32 → Int32 → am_M → Option (Int32 × am_M)
  | 0, _, _, _, _, _, _ => none
  | n + 1, l0, l1, l2, l3, l4, I => fC_findLaying_B5 P e5_24 (fC_findLaying_L5 P e5_24 n) l0 l1 l2 l3 l4 I
theorem AfC_findLaying_L5 {dp : Nat} {P : am_Q} {nx : Nat} {sl : Nat} {e5_24 : Nat → Nat → Int32 → Int32 → am_M → Option (Int32 × am_M)} (he5_24 : ∀ (l0 : Nat) (l1 : Nat) (l2 : Int32) (l3 : Int32) (I : am_M) (o4 : Option am_V) (o5 : Option am_V) (o6 : Option am_V), sm (dp + 3) am_d123 24 [some (.inr l0), some (.inr l1), some (.inl l2), some (.inl l3), o4, o5, o6] [] (I, P, nx, sl) (sm_g1 P nx sl) (e5_24 l0 l1 l2 l3 I)) (n : Nat) : ∀ (l0 : Nat) (l1 : Nat) (l2 : Int32) (l3 : Int32) (l4 : Int32) (I : am_M) (o5 : Option am_V) (o6 : Option am_V), sm (dp + 3) am_d123 5 [some (.inr l0), some (.inr l1), some (.inl l2), some (.inl l3), some (.inl l4), o5, o6] [] (I, P, nx, sl) (sm_g1 P nx sl) (fC_findLaying_L5 P e5_24 n l0 l1 l2 l3 l4 I) := by
  induction n with
  | zero => intro l0 l1 l2 l3 l4 I o5 o6; exact sm_none
  | succ n ih => intro l0 l1 l2 l3 l4 I o5 o6; exact AfC_findLaying_B5 he5_24 ih l0 l1 l2 l3 l4 I o5 o6
noncomputable def fC_findLaying_J88 (P : am_Q) (r45 : Nat → Nat → Int32 → Int32 → Int32 → Int32 → am_M → Option (Int32 × am_M)) (l0 : Nat) (l1 : Nat) (l2 : Int32) (l3 : Int32) (l4 : Int32) (l5 : Int32) (I : am_M) : Option (Int32 × am_M) :=
  sm_ck (am_t l0 = 5) <|
  sm_ck (am_t l1 = 11) <|
  Option.bind (fX_advance P (P l0 0) (I l1 6) l2 I) fun y16 =>
  sm_bd (l5 + 1) fun x17 =>
  r45 l0 l1 l2 l3 l4 x17 y16
set_option maxRecDepth 100000 in
theorem AfC_findLaying_J88 {dp : Nat} {P : am_Q} {nx : Nat} {sl : Nat} {r45 : Nat → Nat → Int32 → Int32 → Int32 → Int32 → am_M → Option (Int32 × am_M)} (hr45 : ∀ (l0 : Nat) (l1 : Nat) (l2 : Int32) (l3 : Int32) (l4 : Int32) (l5 : Int32) (I : am_M) (o6 : Option am_V), sm (dp + 3) am_d123 45 [some (.inr l0), some (.inr l1), some (.inl l2), some (.inl l3), some (.inl l4), some (.inl l5), o6] [] (I, P, nx, sl) (sm_g1 P nx sl) (r45 l0 l1 l2 l3 l4 l5 I)) (l0 : Nat) (l1 : Nat) (l2 : Int32) (l3 : Int32) (l4 : Int32) (l5 : Int32) (I : am_M) (o6 : Option am_V) : sm (dp + 3) am_d123 88 [some (.inr l0), some (.inr l1), some (.inl l2), some (.inl l3), some (.inl l4), some (.inl l5), o6] [] (I, P, nx, sl) (sm_g1 P nx sl) (fC_findLaying_J88 P r45 l0 l1 l2 l3 l4 l5 I) := by
  unfold fC_findLaying_J88
  refine r_ck (fun h14 => ?_)
  refine r_aload rfl rfl (am_nz h14) ?_
  refine r_getP rfl h14 ?_
  refine r_ck (fun h15 => ?_)
  refine r_aload rfl rfl (am_nz h15) ?_
  refine r_getI rfl h15 ?_
  refine r_iload rfl rfl ?_
  refine r_call2 rfl rfl trivial (fun y hy => AfX_advance (dp := dp + 2) hy) (fun y16 => ?_)
  refine r_iinc (e := l5 + 1) (ls' := fun x17 => [some (.inr l0), some (.inr l1), some (.inl l2), some (.inl l3), some (.inl l4), some (.inl x17), o6]) rfl rfl rfl (fun _ => rfl) (fun x17 => ?_)
  refine r_goto rfl ?_
  exact hr45 l0 l1 l2 l3 l4 x17 y16 o6
noncomputable def fC_findLaying_B45 (P : am_Q) (e45_106 : Int32 → am_M → Option (Int32 × am_M)) (r45 : Nat → Nat → Int32 → Int32 → Int32 → Int32 → am_M → Option (Int32 × am_M)) (l0 : Nat) (l1 : Nat) (l2 : Int32) (l3 : Int32) (l4 : Int32) (l5 : Int32) (I : am_M) : Option (Int32 × am_M) :=
  if l3 ≤ l5 then
    (e45_106 l4 I)
  else
    (sm_ck (am_t l0 = 5) <|
    sm_ck (am_t l1 = 11) <|
    Option.bind (fC_endBelow P l0 l1 l4 I) fun y12 =>
    if l4 ≤ y12.1 then
      (fC_findLaying_J88 P r45 l0 l1 l2 l3 l4 l5 y12.2)
    else
      (sm_ck (sm_cp (P l0 0) 0 (P l0 1) 0 (y12.2 l1 6)) <|
      sm_bd (am_set y12.2 (P l0 1) (va_cpy (y12.2 (P l0 0)) (y12.2 (P l0 1)) (0 : Int32).toNatClampNeg (0 : Int32).toNatClampNeg (y12.2 l1 6).toNatClampNeg)) fun I19 =>
      fC_findLaying_J88 P r45 l0 l1 l2 l3 y12.1 l5 I19))
set_option maxRecDepth 100000 in
theorem AfC_findLaying_B45 {dp : Nat} {P : am_Q} {nx : Nat} {sl : Nat} {e45_106 : Int32 → am_M → Option (Int32 × am_M)} {r45 : Nat → Nat → Int32 → Int32 → Int32 → Int32 → am_M → Option (Int32 × am_M)} (he45_106 : ∀ (l4 : Int32) (I : am_M) (o0 : Option am_V) (o1 : Option am_V) (o2 : Option am_V) (o3 : Option am_V) (o5 : Option am_V) (o6 : Option am_V), sm (dp + 3) am_d123 106 [o0, o1, o2, o3, some (.inl l4), o5, o6] [] (I, P, nx, sl) (sm_g1 P nx sl) (e45_106 l4 I)) (hr45 : ∀ (l0 : Nat) (l1 : Nat) (l2 : Int32) (l3 : Int32) (l4 : Int32) (l5 : Int32) (I : am_M) (o6 : Option am_V), sm (dp + 3) am_d123 45 [some (.inr l0), some (.inr l1), some (.inl l2), some (.inl l3), some (.inl l4), some (.inl l5), o6] [] (I, P, nx, sl) (sm_g1 P nx sl) (r45 l0 l1 l2 l3 l4 l5 I)) (l0 : Nat) (l1 : Nat) (l2 : Int32) (l3 : Int32) (l4 : Int32) (l5 : Int32) (I : am_M) (o6 : Option am_V) : sm (dp + 3) am_d123 45 [some (.inr l0), some (.inr l1), some (.inl l2), some (.inl l3), some (.inl l4), some (.inl l5), o6] [] (I, P, nx, sl) (sm_g1 P nx sl) (fC_findLaying_B45 P e45_106 r45 l0 l1 l2 l3 l4 l5 I) := by
  unfold fC_findLaying_B45
  refine r_iload rfl rfl ?_
  refine r_iload rfl rfl ?_
  refine r_icmp rfl rfl (fun c9 => ?_) (fun c9 => ?_)
  · exact he45_106 l4 I (some (.inr l0)) (some (.inr l1)) (some (.inl l2)) (some (.inl l3)) (some (.inl l5)) o6
  · refine r_ck (fun h10 => ?_)
    refine r_aload rfl rfl (am_nz h10) ?_
    refine r_ck (fun h11 => ?_)
    refine r_aload rfl rfl (am_nz h11) ?_
    refine r_iload rfl rfl ?_
    refine r_call1 rfl rfl h10 (fun y hy => AfC_endBelow (dp := dp + 1) hy) (fun y12 => ?_)
    refine r_istore (ls' := [some (.inr l0), some (.inr l1), some (.inl l2), some (.inl l3), some (.inl l4), some (.inl l5), some (.inl y12.1)]) rfl (Nat.le_of_ble_eq_true rfl) rfl ?_
    refine r_iload rfl rfl ?_
    refine r_iload rfl rfl ?_
    refine r_icmp rfl rfl (fun c13 => ?_) (fun c13 => ?_)
    · exact AfC_findLaying_J88 hr45 l0 l1 l2 l3 l4 l5 y12.2 (some (.inl y12.1))
    · refine r_iload rfl rfl ?_
      refine r_istore (ls' := [some (.inr l0), some (.inr l1), some (.inl l2), some (.inl l3), some (.inl y12.1), some (.inl l5), some (.inl y12.1)]) rfl (Nat.le_of_ble_eq_true rfl) rfl ?_
      refine r_aload rfl rfl (am_nz h10) ?_
      refine r_getP rfl h10 ?_
      refine r_const (x := 0) rfl rfl ?_
      refine r_aload rfl rfl (am_nz h10) ?_
      refine r_getP rfl h10 ?_
      refine r_const (x := 0) rfl rfl ?_
      refine r_aload rfl rfl (am_nz h11) ?_
      refine r_getI rfl h11 ?_
      refine r_ck (fun h18 => ?_)
      refine r_copy rfl h18 (Nat.le_of_ble_eq_true rfl) (fun I19 => ?_)
      exact AfC_findLaying_J88 hr45 l0 l1 l2 l3 y12.1 l5 I19 (some (.inl y12.1))
noncomputable def fC_findLaying_L45 (P : am_Q) (e45_106 : Int32 → am_M → Option (Int32 × am_M)) : Nat → Nat → Nat → Int32 → Int32 → Int32 → Int32 → am_M → Option (Int32 × am_M)
  | 0, _, _, _, _, _, _, _ => none
  | n + 1, l0, l1, l2, l3, l4, l5, I => fC_findLaying_B45 P e45_106 (fC_findLaying_L45 P e45_106 n) l0 l1 l2 l3 l4 l5 I
theorem AfC_findLaying_L45 {dp : Nat} {P : am_Q} {nx : Nat} {sl : Nat} {e45_106 : Int32 → am_M → Option (Int32 × am_M)} (he45_106 : ∀ (l4 : Int32) (I : am_M) (o0 : Option am_V) (o1 : Option am_V) (o2 : Option am_V) (o3 : Option am_V) (o5 : Option am_V) (o6 : Option am_V), sm (dp + 3) am_d123 106 [o0, o1, o2, o3, some (.inl l4), o5, o6] [] (I, P, nx, sl) (sm_g1 P nx sl) (e45_106 l4 I)) (n : Nat) : ∀ (l0 : Nat) (l1 : Nat) (l2 : Int32) (l3 : Int32) (l4 : Int32) (l5 : Int32) (I : am_M) (o6 : Option am_V), sm (dp + 3) am_d123 45 [some (.inr l0), some (.inr l1), some (.inl l2), some (.inl l3), some (.inl l4), some (.inl l5), o6] [] (I, P, nx, sl) (sm_g1 P nx sl) (fC_findLaying_L45 P e45_106 n l0 l1 l2 l3 l4 l5 I) := by
  induction n with
  | zero => intro l0 l1 l2 l3 l4 l5 I o6; exact sm_none
  | succ n ih => intro l0 l1 l2 l3 l4 l5 I o6; exact AfC_findLaying_B45 he45_106 ih l0 l1 l2 l3 l4 l5 I o6
noncomputable def fC_findLaying (P : am_Q) (l0 : Nat) (l1 : Nat) (l2 : Int32) (I : am_M) : Option (Int32 × am_M) :=
  fC_findLaying_L5 P (fun l0 l1 l2 l3 I =>
      sm_ck (am_t l0 = 5) <|
      Option.bind (fA_fill P (P l0 0) 0 I) fun y6 =>
      sm_ck (am_t l1 = 11) <|
      Option.bind (fC_findWaits P l0 l1 y6) fun y8 =>
      fC_findLaying_L45 P (fun l4 I =>
          some (l4, I)) sm_fu l0 l1 l2 l3 1000 0 y8) sm_fu l0 l1 l2 1 0 I
set_option maxRecDepth 100000 in
theorem AfC_findLaying {dp : Nat} {P : am_Q} {nx : Nat} {sl : Nat} {I : am_M} {l0 : Nat} {l1 : Nat} {l2 : Int32} {y : Int32 × am_M} (hy : fC_findLaying P l0 l1 l2 I = some y) : sm_T (dp + 4) 123 [.inr l0, .inr l1, .inl l2] (I, P, nx, sl) ((sm_g1 P nx sl) y) := by
  refine r_meth (d := am_d123) (dp := dp + 3) (ls0 := [some (.inr l0), some (.inr l1), some (.inl l2), none, none, none, none]) rfl (by decide) rfl rfl ?_ hy
  unfold fC_findLaying
  refine r_const (x := 1) rfl rfl ?_
  refine r_istore (ls' := [some (.inr l0), some (.inr l1), some (.inl l2), some (.inl 1), none, none, none]) rfl (Nat.le_of_ble_eq_true rfl) rfl ?_
  refine r_const (x := 0) rfl rfl ?_
  refine r_istore (ls' := [some (.inr l0), some (.inr l1), some (.inl l2), some (.inl 1), some (.inl 0), none, none]) rfl (Nat.le_of_ble_eq_true rfl) rfl ?_
  refine AfC_findLaying_L5 ?_ sm_fu l0 l1 l2 1 0 I none none
  · intro l0 l1 l2 l3 I o4 o5 o6
    refine r_ck (fun h5 => ?_)
    refine r_aload rfl rfl (am_nz h5) ?_
    refine r_getP rfl h5 ?_
    refine r_const (x := 0) rfl rfl ?_
    refine r_call2 rfl rfl trivial (fun y hy => AfA_fill (dp := dp + 2) hy) (fun y6 => ?_)
    refine r_aload rfl rfl (am_nz h5) ?_
    refine r_ck (fun h7 => ?_)
    refine r_aload rfl rfl (am_nz h7) ?_
    refine r_call2 rfl rfl h5 (fun y hy => AfC_findWaits (dp := dp + 0) hy) (fun y8 => ?_)
    refine r_const (x := 1000) rfl rfl ?_
    refine r_istore (ls' := [some (.inr l0), some (.inr l1), some (.inl l2), some (.inl l3), some (.inl 1000), o5, o6]) rfl (Nat.le_of_ble_eq_true rfl) rfl ?_
    refine r_const (x := 0) rfl rfl ?_
    refine r_istore (ls' := [some (.inr l0), some (.inr l1), some (.inl l2), some (.inl l3), some (.inl 1000), some (.inl 0), o6]) rfl (Nat.le_of_ble_eq_true rfl) rfl ?_
    refine AfC_findLaying_L45 ?_ sm_fu l0 l1 l2 l3 1000 0 y8 o6
    · intro l4 I o0 o1 o2 o3 o5 o6
      refine r_iload rfl rfl ?_
      exact r_ireturn rfl (Or.inl rfl) rfl
noncomputable def fX_lay_J30 (P : am_Q) (l0 : Nat) (l1 : Int32) (l2 : Int32) (I : am_M) : Option (Int32 × am_M) :=
  sm_ck (am_t l0 = 12) <|
  sm_ck (am_t (P l0 12) = 5) <|
  Option.bind (fC_findLaying P (P l0 12) (P l0 0) l1 I) fun y8 =>
  if ¬ l2 = ((-1)) then
    (sm_ck (sm_in (P (P l0 12) 1) l2) <|
    some (y8.2 (P (P l0 12) 1) l2.toNatClampNeg, y8.2))
  else
    (some (y8.1, y8.2))
set_option maxRecDepth 100000 in
theorem AfX_lay_J30 {dp : Nat} {P : am_Q} {nx : Nat} {sl : Nat} (l0 : Nat) (l1 : Int32) (l2 : Int32) (I : am_M) (o3 : Option am_V) : sm (dp + 4) am_d122 30 [some (.inr l0), some (.inl l1), some (.inl l2), o3] [] (I, P, nx, sl) (sm_g1 P nx sl) (fX_lay_J30 P l0 l1 l2 I) := by
  unfold fX_lay_J30
  refine r_ck (fun h6 => ?_)
  refine r_aload rfl rfl (am_nz h6) ?_
  refine r_getP rfl h6 ?_
  refine r_aload rfl rfl (am_nz h6) ?_
  refine r_getP rfl h6 ?_
  refine r_iload rfl rfl ?_
  refine r_ck (fun h7 => ?_)
  refine r_call1 rfl rfl h7 (fun y hy => AfC_findLaying (dp := dp + 0) hy) (fun y8 => ?_)
  refine r_istore (ls' := [some (.inr l0), some (.inl l1), some (.inl l2), some (.inl y8.1)]) rfl (Nat.le_of_ble_eq_true rfl) rfl ?_
  refine r_iload rfl rfl ?_
  refine r_const (x := (-1)) rfl rfl ?_
  refine r_icmp rfl rfl (fun c9 => ?_) (fun c9 => ?_)
  · refine r_aload rfl rfl (am_nz h6) ?_
    refine r_getP rfl h6 ?_
    refine r_getP rfl h7 ?_
    refine r_iload rfl rfl ?_
    refine r_ck (fun h10 => ?_)
    refine r_iald rfl h10 ?_
    exact r_ireturn rfl (Or.inl rfl) rfl
  · refine r_iload rfl rfl ?_
    refine r_goto rfl ?_
    exact r_ireturn rfl (Or.inl rfl) rfl
noncomputable def fX_lay (P : am_Q) (l0 : Nat) (l1 : Int32) (l2 : Int32) (I : am_M) : Option (Int32 × am_M) :=
  Option.bind (fX_isMachines l1) fun y1 =>
  if y1 = 0 then
    (sm_ck (am_t l0 = 12) <|
    Option.bind (fX_found P l0 ((-1000001)) I) fun y4 =>
    some (y4.1, y4.2))
  else
    (if l2 = ((-1)) then
      (fX_lay_J30 P l0 l1 l2 I)
    else
      (sm_ck (am_t l0 = 12) <|
      sm_ck (am_t (P l0 0) = 11) <|
      Option.bind (fW_hasBox I P (P l0 0) l2) fun y13 =>
      if ¬ y13 = 0 then
        (fX_lay_J30 P l0 l1 l2 I)
      else
        (Option.bind (fX_found P l0 ((-1000001)) I) fun y15 =>
        some (y15.1, y15.2))))
set_option maxRecDepth 100000 in
theorem AfX_lay {dp : Nat} {P : am_Q} {nx : Nat} {sl : Nat} {I : am_M} {l0 : Nat} {l1 : Int32} {l2 : Int32} {y : Int32 × am_M} (hy : fX_lay P l0 l1 l2 I = some y) : sm_T (dp + 5) 122 [.inr l0, .inl l1, .inl l2] (I, P, nx, sl) ((sm_g1 P nx sl) y) := by
  refine r_meth (d := am_d122) (dp := dp + 4) (ls0 := [some (.inr l0), some (.inl l1), some (.inl l2), none]) rfl (by decide) rfl rfl ?_ hy
  unfold fX_lay
  refine r_iload rfl rfl ?_
  refine r_call0 rfl rfl trivial (fun y hy => AfX_isMachines (dp := dp + 3) hy) (fun y1 => ?_)
  refine r_if rfl rfl (fun c2 => ?_) (fun c2 => ?_)
  · refine r_ck (fun h3 => ?_)
    refine r_aload rfl rfl (am_nz h3) ?_
    refine r_const (x := (-1000001)) rfl rfl ?_
    refine r_call1 rfl rfl h3 (fun y hy => AfX_found (dp := dp + 3) hy) (fun y4 => ?_)
    exact r_ireturn rfl (Or.inl rfl) rfl
  · refine r_iload rfl rfl ?_
    refine r_const (x := (-1)) rfl rfl ?_
    refine r_icmp rfl rfl (fun c5 => ?_) (fun c5 => ?_)
    · exact AfX_lay_J30 l0 l1 l2 I none
    · refine r_ck (fun h11 => ?_)
      refine r_aload rfl rfl (am_nz h11) ?_
      refine r_getP rfl h11 ?_
      refine r_iload rfl rfl ?_
      refine r_ck (fun h12 => ?_)
      refine r_call0 rfl rfl h12 (fun y hy => AfW_hasBox (dp := dp + 3) hy) (fun y13 => ?_)
      refine r_if rfl rfl (fun c14 => ?_) (fun c14 => ?_)
      · exact AfX_lay_J30 l0 l1 l2 I none
      · refine r_aload rfl rfl (am_nz h11) ?_
        refine r_const (x := (-1000001)) rfl rfl ?_
        refine r_call1 rfl rfl h11 (fun y hy => AfX_found (dp := dp + 3) hy) (fun y15 => ?_)
        exact r_ireturn rfl (Or.inl rfl) rfl
noncomputable def fX_firstChanged_B71 (e71_112 : Int32 → am_M → am_Q → Nat → Nat → Option (Int32 × am_S)) (e71_121 : Nat → Int32 → Int32 → am_M → am_Q → Nat → Nat → Option (Int32 × am_S)) (r71 : Nat → Int32 → Int32 → Int32 → am_M → am_Q → Nat → Nat → Option (Int32 × am_S)) (l0 : Nat) (l3 : Int32) (l4 : Int32) (l5 : Int32) (I : am_M) (P : am_Q) (nx : Nat) (sl : Nat) : Option (Int32 × am_S) :=
  sm_ck (am_t l0 = 12) <|
  sm_ck (am_t (P l0 1) = 11) <|
  if (I (P l0 1) 7) ≤ l5 then
    (e71_121 l0 l3 l4 I P nx sl)
  else
    (sm_ck (sm_ia (P (P l0 1) 10) l5) <|
    sm_ck (am_t (P (P (P l0 1) 10) l5.toNatClampNeg) = 8) <|
    sm_ck (am_t (P l0 2) = 11) <|
    sm_ck (sm_ia (P (P l0 2) 10) l5) <|
    sm_ck (am_t (P (P (P l0 2) 10) l5.toNatClampNeg) = 8) <|
    if (I (P (P (P l0 1) 10) l5.toNatClampNeg) 4) = (I (P (P (P l0 2) 10) l5.toNatClampNeg) 4) then
      (sm_bd (l5 + 1) fun x25 =>
      r71 l0 l3 l4 x25 I P nx sl)
    else
      (e71_112 l5 I P nx sl))
set_option maxRecDepth 100000 in
theorem AfX_firstChanged_B71 {dp : Nat}  {e71_112 : Int32 → am_M → am_Q → Nat → Nat → Option (Int32 × am_S)} {e71_121 : Nat → Int32 → Int32 → am_M → am_Q → Nat → Nat → Option (Int32 × am_S)} {r71 : Nat → Int32 → Int32 → Int32 → am_M → am_Q → Nat → Nat → Option (Int32 × am_S)} (he71_112 : ∀ (l5 : Int32) (I : am_M) (P : am_Q) (nx : Nat) (sl : Nat) (o0 : Option am_V) (o1 : Option am_V) (o2 : Option am_V) (o3 : Option am_V) (o4 : Option am_V), sm (dp + 5) am_d125 112 [o0, o1, o2, o3, o4, some (.inl l5)] [] (I, P, nx, sl) sm_g3 (e71_112 l5 I P nx sl)) (he71_121 : ∀ (l0 : Nat) (l3 : Int32) (l4 : Int32) (I : am_M) (P : am_Q) (nx : Nat) (sl : Nat) (o1 : Option am_V) (o2 : Option am_V) (o5 : Option am_V), sm (dp + 5) am_d125 121 [some (.inr l0), o1, o2, some (.inl l3), some (.inl l4), o5] [] (I, P, nx, sl) sm_g3 (e71_121 l0 l3 l4 I P nx sl)) (hr71 : ∀ (l0 : Nat) (l3 : Int32) (l4 : Int32) (l5 : Int32) (I : am_M) (P : am_Q) (nx : Nat) (sl : Nat) (o1 : Option am_V) (o2 : Option am_V), sm (dp + 5) am_d125 71 [some (.inr l0), o1, o2, some (.inl l3), some (.inl l4), some (.inl l5)] [] (I, P, nx, sl) sm_g3 (r71 l0 l3 l4 l5 I P nx sl)) (l0 : Nat) (l3 : Int32) (l4 : Int32) (l5 : Int32) (I : am_M) (P : am_Q) (nx : Nat) (sl : Nat) (o1 : Option am_V) (o2 : Option am_V) : sm (dp + 5) am_d125 71 [some (.inr l0), o1, o2, some (.inl l3), some (.inl l4), some (.inl l5)] [] (I, P, nx, sl) sm_g3 (fX_firstChanged_B71 e71_112 e71_121 r71 l0 l3 l4 l5 I P nx sl) := by
  unfold fX_firstChanged_B71
  refine r_iload rfl rfl ?_
  refine r_ck (fun h16 => ?_)
  refine r_aload rfl rfl (am_nz h16) ?_
  refine r_getP rfl h16 ?_
  refine r_ck (fun h17 => ?_)
  refine r_getI rfl h17 ?_
  refine r_icmp rfl rfl (fun c18 => ?_) (fun c18 => ?_)
  · exact he71_121 l0 l3 l4 I P nx sl o1 o2 (some (.inl l5))
  · refine r_aload rfl rfl (am_nz h16) ?_
    refine r_getP rfl h16 ?_
    refine r_getP rfl h17 ?_
    refine r_iload rfl rfl ?_
    refine r_ck (fun h19 => ?_)
    refine r_aald rfl h19 ?_
    refine r_ck (fun h20 => ?_)
    refine r_getI rfl h20 ?_
    refine r_aload rfl rfl (am_nz h16) ?_
    refine r_getP rfl h16 ?_
    refine r_ck (fun h21 => ?_)
    refine r_getP rfl h21 ?_
    refine r_iload rfl rfl ?_
    refine r_ck (fun h22 => ?_)
    refine r_aald rfl h22 ?_
    refine r_ck (fun h23 => ?_)
    refine r_getI rfl h23 ?_
    refine r_icmp rfl rfl (fun c24 => ?_) (fun c24 => ?_)
    · refine r_iinc (e := l5 + 1) (ls' := fun x25 => [some (.inr l0), o1, o2, some (.inl l3), some (.inl l4), some (.inl x25)]) rfl rfl rfl (fun _ => rfl) (fun x25 => ?_)
      refine r_goto rfl ?_
      exact hr71 l0 l3 l4 x25 I P nx sl o1 o2
    · exact he71_112 l5 I P nx sl (some (.inr l0)) o1 o2 (some (.inl l3)) (some (.inl l4))
noncomputable def fX_firstChanged_L71 (e71_112 : Int32 → am_M → am_Q → Nat → Nat → Option (Int32 × am_S)) (e71_121 : Nat → Int32 → Int32 → am_M → am_Q → Nat → Nat → Option (Int32 × am_S)) : Nat → Nat → Int32 → Int32 → Int32 → am_M → am_Q → Nat → Nat → Option (Int32 × am_S)
  | 0, _, _, _, _, _, _, _, _ => none
  | n + 1, l0, l3, l4, l5, I, P, nx, sl => fX_firstChanged_B71 e71_112 e71_121 (fX_firstChanged_L71 e71_112 e71_121 n) l0 l3 l4 l5 I P nx sl
theorem AfX_firstChanged_L71 {dp : Nat}  {e71_112 : Int32 → am_M → am_Q → Nat → Nat → Option (Int32 × am_S)} {e71_121 : Nat → Int32 → Int32 → am_M → am_Q → Nat → Nat → Option (Int32 × am_S)} (he71_112 : ∀ (l5 : Int32) (I : am_M) (P : am_Q) (nx : Nat) (sl : Nat) (o0 : Option am_V) (o1 : Option am_V) (o2 : Option am_V) (o3 : Option am_V) (o4 : Option am_V), sm (dp + 5) am_d125 112 [o0, o1, o2, o3, o4, some (.inl l5)] [] (I, P, nx, sl) sm_g3 (e71_112 l5 I P nx sl)) (he71_121 : ∀ (l0 : Nat) (l3 : Int32) (l4 : Int32) (I : am_M) (P : am_Q) (nx : Nat) (sl : Nat) (o1 : Option am_V) (o2 : Option am_V) (o5 : Option am_V), sm (dp + 5) am_d125 121 [some (.inr l0), o1, o2, some (.inl l3), some (.inl l4), o5] [] (I, P, nx, sl) sm_g3 (e71_121 l0 l3 l4 I P nx sl)) (n : Nat) : ∀ (l0 : Nat) (l3 : Int32) (l4 : Int32) (l5 : Int32) (I : am_M) (P : am_Q) (nx : Nat) (sl : Nat) (o1 : Option am_V) (o2 : Option am_V), sm (dp + 5) am_d125 71 [some (.inr l0), o1, o2, some (.inl l3), some (.inl l4), some (.inl l5)] [] (I, P, nx, sl) sm_g3 (fX_firstChanged_L71 e71_112 e71_121 n l0 l3 l4 l5 I P nx sl) := by
  induction n with
  | zero => intro l0 l3 l4 l5 I P nx sl o1 o2; exact sm_none
  | succ n ih => intro l0 l3 l4 l5 I P nx sl o1 o2; exact AfX_firstChanged_B71 he71_112 he71_121 ih l0 l3 l4 l5 I P nx sl o1 o2
noncomputable def fX_firstChanged_B38 (e38_112 : Int32 → am_M → am_Q → Nat → Nat → Option (Int32 × am_S)) (e38_127 : am_M → am_Q → Nat → Nat → Option (Int32 × am_S)) (r38 : Nat → Int32 → Int32 → am_M → am_Q → Nat → Nat → Option (Int32 × am_S)) (l0 : Nat) (l3 : Int32) (l4 : Int32) (I : am_M) (P : am_Q) (nx : Nat) (sl : Nat) : Option (Int32 × am_S) :=
  if l3 ≤ l4 then
    (e38_127 I P nx sl)
  else
    (sm_ck (am_t l0 = 12) <|
    sm_ck (am_t (P l0 10) = 3) <|
    Option.bind (fH_pass P (P l0 10) (P l0 1) I) fun y14 =>
    Option.bind (fH_pass P (P l0 10) (P l0 2) y14.2) fun y15 =>
    fX_firstChanged_L71 (fun l5 I P nx sl =>
        e38_112 l5 I P nx sl) (fun l0 l3 l4 I P nx sl =>
        sm_bd (l4 + 1) fun x26 =>
        r38 l0 l3 x26 I P nx sl) sm_fu l0 l3 l4 0 y15.2 P nx sl)
set_option maxRecDepth 100000 in
theorem AfX_firstChanged_B38 {dp : Nat}  {e38_112 : Int32 → am_M → am_Q → Nat → Nat → Option (Int32 × am_S)} {e38_127 : am_M → am_Q → Nat → Nat → Option (Int32 × am_S)} {r38 : Nat → Int32 → Int32 → am_M → am_Q → Nat → Nat → Option (Int32 × am_S)} (he38_112 : ∀ (l5 : Int32) (I : am_M) (P : am_Q) (nx : Nat) (sl : Nat) (o0 : Option am_V) (o1 : Option am_V) (o2 : Option am_V) (o3 : Option am_V) (o4 : Option am_V), sm (dp + 5) am_d125 112 [o0, o1, o2, o3, o4, some (.inl l5)] [] (I, P, nx, sl) sm_g3 (e38_112 l5 I P nx sl)) (he38_127 : ∀ (I : am_M) (P : am_Q) (nx : Nat) (sl : Nat) (o0 : Option am_V) (o1 : Option am_V) (o2 : Option am_V) (o3 : Option am_V) (o4 : Option am_V) (o5 : Option am_V), sm (dp + 5) am_d125 127 [o0, o1, o2, o3, o4, o5] [] (I, P, nx, sl) sm_g3 (e38_127 I P nx sl)) (hr38 : ∀ (l0 : Nat) (l3 : Int32) (l4 : Int32) (I : am_M) (P : am_Q) (nx : Nat) (sl : Nat) (o1 : Option am_V) (o2 : Option am_V) (o5 : Option am_V), sm (dp + 5) am_d125 38 [some (.inr l0), o1, o2, some (.inl l3), some (.inl l4), o5] [] (I, P, nx, sl) sm_g3 (r38 l0 l3 l4 I P nx sl)) (l0 : Nat) (l3 : Int32) (l4 : Int32) (I : am_M) (P : am_Q) (nx : Nat) (sl : Nat) (o1 : Option am_V) (o2 : Option am_V) (o5 : Option am_V) : sm (dp + 5) am_d125 38 [some (.inr l0), o1, o2, some (.inl l3), some (.inl l4), o5] [] (I, P, nx, sl) sm_g3 (fX_firstChanged_B38 e38_112 e38_127 r38 l0 l3 l4 I P nx sl) := by
  unfold fX_firstChanged_B38
  refine r_iload rfl rfl ?_
  refine r_iload rfl rfl ?_
  refine r_icmp rfl rfl (fun c11 => ?_) (fun c11 => ?_)
  · exact he38_127 I P nx sl (some (.inr l0)) o1 o2 (some (.inl l3)) (some (.inl l4)) o5
  · refine r_ck (fun h12 => ?_)
    refine r_aload rfl rfl (am_nz h12) ?_
    refine r_getP rfl h12 ?_
    refine r_aload rfl rfl (am_nz h12) ?_
    refine r_getP rfl h12 ?_
    refine r_ck (fun h13 => ?_)
    refine r_call1 rfl rfl h13 (fun y hy => AfH_pass (dp := dp + 0) hy) (fun y14 => ?_)
    refine r_pop rfl ?_
    refine r_aload rfl rfl (am_nz h12) ?_
    refine r_getP rfl h12 ?_
    refine r_aload rfl rfl (am_nz h12) ?_
    refine r_getP rfl h12 ?_
    refine r_call1 rfl rfl h13 (fun y hy => AfH_pass (dp := dp + 0) hy) (fun y15 => ?_)
    refine r_pop rfl ?_
    refine r_const (x := 0) rfl rfl ?_
    refine r_istore (ls' := [some (.inr l0), o1, o2, some (.inl l3), some (.inl l4), some (.inl 0)]) rfl (Nat.le_of_ble_eq_true rfl) rfl ?_
    refine AfX_firstChanged_L71 ?_ ?_ sm_fu l0 l3 l4 0 y15.2 P nx sl o1 o2
    · intro l5 I P nx sl o0 o1 o2 o3 o4
      exact he38_112 l5 I P nx sl o0 o1 o2 o3 o4
    · intro l0 l3 l4 I P nx sl o1 o2 o5
      refine r_iinc (e := l4 + 1) (ls' := fun x26 => [some (.inr l0), o1, o2, some (.inl l3), some (.inl x26), o5]) rfl rfl rfl (fun _ => rfl) (fun x26 => ?_)
      refine r_goto rfl ?_
      exact hr38 l0 l3 x26 I P nx sl o1 o2 o5
noncomputable def fX_firstChanged_L38 (e38_112 : Int32 → am_M → am_Q → Nat → Nat → Option (Int32 × am_S)) (e38_127 : am_M → am_Q → Nat → Nat → Option (Int32 × am_S)) : Nat → Nat → Int32 → Int32 → am_M → am_Q → Nat → Nat → Option (Int32 × am_S)
  | 0, _, _, _, _, _, _, _ => none
  | n + 1, l0, l3, l4, I, P, nx, sl => fX_firstChanged_B38 e38_112 e38_127 (fX_firstChanged_L38 e38_112 e38_127 n) l0 l3 l4 I P nx sl
theorem AfX_firstChanged_L38 {dp : Nat}  {e38_112 : Int32 → am_M → am_Q → Nat → Nat → Option (Int32 × am_S)} {e38_127 : am_M → am_Q → Nat → Nat → Option (Int32 × am_S)} (he38_112 : ∀ (l5 : Int32) (I : am_M) (P : am_Q) (nx : Nat) (sl : Nat) (o0 : Option am_V) (o1 : Option am_V) (o2 : Option am_V) (o3 : Option am_V) (o4 : Option am_V), sm (dp + 5) am_d125 112 [o0, o1, o2, o3, o4, some (.inl l5)] [] (I, P, nx, sl) sm_g3 (e38_112 l5 I P nx sl)) (he38_127 : ∀ (I : am_M) (P : am_Q) (nx : Nat) (sl : Nat) (o0 : Option am_V) (o1 : Option am_V) (o2 : Option am_V) (o3 : Option am_V) (o4 : Option am_V) (o5 : Option am_V), sm (dp + 5) am_d125 127 [o0, o1, o2, o3, o4, o5] [] (I, P, nx, sl) sm_g3 (e38_127 I P nx sl)) (n : Nat) : ∀ (l0 : Nat) (l3 : Int32) (l4 : Int32) (I : am_M) (P : am_Q) (nx : Nat) (sl : Nat) (o1 : Option am_V) (o2 : Option am_V) (o5 : Option am_V), sm (dp + 5) am_d125 38 [some (.inr l0), o1, o2, some (.inl l3), some (.inl l4), o5] [] (I, P, nx, sl) sm_g3 (fX_firstChanged_L38 e38_112 e38_127 n l0 l3 l4 I P nx sl) := by
  induction n with
  | zero => intro l0 l3 l4 I P nx sl o1 o2 o5; exact sm_none
  | succ n ih => intro l0 l3 l4 I P nx sl o1 o2 o5; exact AfX_firstChanged_B38 he38_112 he38_127 ih l0 l3 l4 I P nx sl o1 o2 o5
noncomputable def fX_firstChanged (l0 : Nat) (l1 : Int32) (l2 : Nat) (l3 : Int32) (I : am_M) (P : am_Q) (nx : Nat) (sl : Nat) : Option (Int32 × am_S) :=
  sm_ck (am_t l0 = 12) <|
  sm_ck (am_t (P l0 1) = 11) <|
  Option.bind (fW_copyFrom (P l0 1) (P l0 0) I P nx sl) fun y3 =>
  sm_ck (am_t (y3.2.1 l0 2) = 11) <|
  Option.bind (fW_copyFrom (y3.2.1 l0 2) (y3.2.1 l0 0) y3.1 y3.2.1 y3.2.2.1 y3.2.2.2) fun y5 =>
  sm_ck (am_t (y5.2.1 l0 2) = 11) <|
  sm_ck (sm_ia (y5.2.1 (y5.2.1 l0 2) 9) l1) <|
  sm_ck (am_t l2 = 4) <|
  sm_ck (am_t (y5.2.1 (y5.2.1 (y5.2.1 l0 2) 9) l1.toNatClampNeg) = 1) <|
  sm_bd (am_up y5.2.1 (y5.2.1 (y5.2.1 (y5.2.1 l0 2) 9) l1.toNatClampNeg) 10 l2) fun P10 =>
  fX_firstChanged_L38 (fun l5 I P nx sl =>
      some (l5, I, P, nx, sl)) (fun I P nx sl =>
      some ((-1), I, P, nx, sl)) sm_fu l0 l3 0 y5.1 P10 y5.2.2.1 y5.2.2.2
set_option maxRecDepth 100000 in
theorem AfX_firstChanged {dp : Nat}  {I : am_M} {P : am_Q} {nx : Nat} {sl : Nat} {l0 : Nat} {l1 : Int32} {l2 : Nat} {l3 : Int32} {y : Int32 × am_S} (hy : fX_firstChanged l0 l1 l2 l3 I P nx sl = some y) : sm_T (dp + 6) 125 [.inr l0, .inl l1, .inr l2, .inl l3] (I, P, nx, sl) (sm_g3 y) := by
  refine r_meth (d := am_d125) (dp := dp + 5) (ls0 := [some (.inr l0), some (.inl l1), some (.inr l2), some (.inl l3), none, none]) rfl (by decide) rfl rfl ?_ hy
  unfold fX_firstChanged
  refine r_ck (fun h1 => ?_)
  refine r_aload rfl rfl (am_nz h1) ?_
  refine r_getP rfl h1 ?_
  refine r_aload rfl rfl (am_nz h1) ?_
  refine r_getP rfl h1 ?_
  refine r_ck (fun h2 => ?_)
  refine r_call4 rfl rfl h2 (fun y hy => AfW_copyFrom (dp := dp + 3) hy) (fun y3 => ?_)
  refine r_aload rfl rfl (am_nz h1) ?_
  refine r_getP rfl h1 ?_
  refine r_aload rfl rfl (am_nz h1) ?_
  refine r_getP rfl h1 ?_
  refine r_ck (fun h4 => ?_)
  refine r_call4 rfl rfl h4 (fun y hy => AfW_copyFrom (dp := dp + 3) hy) (fun y5 => ?_)
  refine r_aload rfl rfl (am_nz h1) ?_
  refine r_getP rfl h1 ?_
  refine r_ck (fun h6 => ?_)
  refine r_getP rfl h6 ?_
  refine r_iload rfl rfl ?_
  refine r_ck (fun h7 => ?_)
  refine r_aald rfl h7 ?_
  refine r_ck (fun h8 => ?_)
  refine r_aload rfl rfl (am_nz h8) ?_
  refine r_ck (fun h9 => ?_)
  refine r_putP rfl h9 (fun P10 => ?_)
  refine r_const (x := 0) rfl rfl ?_
  refine r_istore (ls' := [some (.inr l0), some (.inl l1), some (.inr l2), some (.inl l3), some (.inl 0), none]) rfl (Nat.le_of_ble_eq_true rfl) rfl ?_
  refine AfX_firstChanged_L38 ?_ ?_ sm_fu l0 l3 0 y5.1 P10 y5.2.2.1 y5.2.2.2 (some (.inl l1)) (some (.inr l2)) none
  · intro l5 I P nx sl o0 o1 o2 o3 o4
    refine r_iload rfl rfl ?_
    exact r_ireturn rfl (Or.inl rfl) rfl
  · intro I P nx sl o0 o1 o2 o3 o4 o5
    refine r_const (x := (-1)) rfl rfl ?_
    exact r_ireturn rfl (Or.inl rfl) rfl
noncomputable def fX_change (l0 : Nat) (l1 : Int32) (l2 : Int32) (I : am_M) (P : am_Q) (nx : Nat) (sl : Nat) : Option (Int32 × am_S) :=
  sm_ck (am_t l0 = 12) <|
  sm_ck (am_t (P l0 0) = 11) <|
  Option.bind (fW_hasBox I P (P l0 0) l1) fun y3 =>
  if y3 = 0 then
    (Option.bind (fX_found P l0 ((-1000001)) I) fun y5 =>
    some (y5.1, y5.2, P, nx, sl))
  else
    (if l2 < 1 then
      (Option.bind (fX_found P l0 ((-1000001)) I) fun y7 =>
      some (y7.1, y7.2, P, nx, sl))
    else
      (if l2 ≤ 30 then
        (sm_ck (am_t (P l0 7) = 10) <|
        Option.bind (fT_readAll P (P l0 7) I) fun y10 =>
        if y10.1 < 0 then
          (Option.bind (fT_linesRead (P l0 7) y10.2 P nx sl) fun y12 =>
          Option.bind (fX_firstChanged l0 l1 y12.1 l2 y12.2.1 y12.2.2.1 y12.2.2.2.1 y12.2.2.2.2) fun y13 =>
          if 0 ≤ y13.1 then
            (sm_ck (am_t (y13.2.2.1 l0 1) = 11) <|
            some ((y13.2.1 (y13.2.2.1 l0 1) 1) - 1, y13.2.1, y13.2.2.1, y13.2.2.2.1, y13.2.2.2.2))
          else
            (Option.bind (fX_found y13.2.2.1 l0 ((-1000004)) y13.2.1) fun y16 =>
            some (y16.1, y16.2, y13.2.2.1, y13.2.2.2.1, y13.2.2.2.2)))
        else
          (Option.bind (fX_found P l0 ((-1000003)) y10.2) fun y17 =>
          some (y17.1, y17.2, P, nx, sl)))
      else
        (Option.bind (fX_found P l0 ((-1000001)) I) fun y18 =>
        some (y18.1, y18.2, P, nx, sl))))
set_option maxRecDepth 100000 in
theorem AfX_change {dp : Nat}  {I : am_M} {P : am_Q} {nx : Nat} {sl : Nat} {l0 : Nat} {l1 : Int32} {l2 : Int32} {y : Int32 × am_S} (hy : fX_change l0 l1 l2 I P nx sl = some y) : sm_T (dp + 7) 124 [.inr l0, .inl l1, .inl l2] (I, P, nx, sl) (sm_g3 y) := by
  refine r_meth (d := am_d124) (dp := dp + 6) (ls0 := [some (.inr l0), some (.inl l1), some (.inl l2), none]) rfl (by decide) rfl rfl ?_ hy
  unfold fX_change
  refine r_ck (fun h1 => ?_)
  refine r_aload rfl rfl (am_nz h1) ?_
  refine r_getP rfl h1 ?_
  refine r_iload rfl rfl ?_
  refine r_ck (fun h2 => ?_)
  refine r_call0 rfl rfl h2 (fun y hy => AfW_hasBox (dp := dp + 5) hy) (fun y3 => ?_)
  refine r_if rfl rfl (fun c4 => ?_) (fun c4 => ?_)
  · refine r_aload rfl rfl (am_nz h1) ?_
    refine r_const (x := (-1000001)) rfl rfl ?_
    refine r_call1 rfl rfl h1 (fun y hy => AfX_found (dp := dp + 5) hy) (fun y5 => ?_)
    exact r_ireturn rfl (Or.inl rfl) rfl
  · refine r_iload rfl rfl ?_
    refine r_const (x := 1) rfl rfl ?_
    refine r_icmp rfl rfl (fun c6 => ?_) (fun c6 => ?_)
    · refine r_aload rfl rfl (am_nz h1) ?_
      refine r_const (x := (-1000001)) rfl rfl ?_
      refine r_call1 rfl rfl h1 (fun y hy => AfX_found (dp := dp + 5) hy) (fun y7 => ?_)
      exact r_ireturn rfl (Or.inl rfl) rfl
    · refine r_iload rfl rfl ?_
      refine r_const (x := 30) rfl rfl ?_
      refine r_icmp rfl rfl (fun c8 => ?_) (fun c8 => ?_)
      · refine r_aload rfl rfl (am_nz h1) ?_
        refine r_getP rfl h1 ?_
        refine r_ck (fun h9 => ?_)
        refine r_call1 rfl rfl h9 (fun y hy => AfT_readAll (dp := dp + 0) hy) (fun y10 => ?_)
        refine r_if rfl rfl (fun c11 => ?_) (fun c11 => ?_)
        · refine r_aload rfl rfl (am_nz h1) ?_
          refine r_iload rfl rfl ?_
          refine r_aload rfl rfl (am_nz h1) ?_
          refine r_getP rfl h1 ?_
          refine r_call5 rfl rfl h9 (fun y hy => AfT_linesRead (dp := dp + 4) hy) (fun y12 => ?_)
          refine r_iload rfl rfl ?_
          refine r_call3 rfl rfl h1 (fun y hy => AfX_firstChanged (dp := dp + 0) hy) (fun y13 => ?_)
          refine r_istore (ls' := [some (.inr l0), some (.inl l1), some (.inl l2), some (.inl y13.1)]) rfl (Nat.le_of_ble_eq_true rfl) rfl ?_
          refine r_iload rfl rfl ?_
          refine r_if rfl rfl (fun c14 => ?_) (fun c14 => ?_)
          · refine r_aload rfl rfl (am_nz h1) ?_
            refine r_getP rfl h1 ?_
            refine r_ck (fun h15 => ?_)
            refine r_getI rfl h15 ?_
            refine r_const (x := 1) rfl rfl ?_
            refine r_bin (z := (y13.2.1 (y13.2.2.1 l0 1) 1) - 1) rfl rfl (by decide) ?_
            exact r_ireturn rfl (Or.inl rfl) rfl
          · refine r_aload rfl rfl (am_nz h1) ?_
            refine r_const (x := (-1000004)) rfl rfl ?_
            refine r_call1 rfl rfl h1 (fun y hy => AfX_found (dp := dp + 5) hy) (fun y16 => ?_)
            refine r_goto rfl ?_
            exact r_ireturn rfl (Or.inl rfl) rfl
        · refine r_aload rfl rfl (am_nz h1) ?_
          refine r_const (x := (-1000003)) rfl rfl ?_
          refine r_call1 rfl rfl h1 (fun y hy => AfX_found (dp := dp + 5) hy) (fun y17 => ?_)
          exact r_ireturn rfl (Or.inl rfl) rfl
      · refine r_aload rfl rfl (am_nz h1) ?_
        refine r_const (x := (-1000001)) rfl rfl ?_
        refine r_call1 rfl rfl h1 (fun y hy => AfX_found (dp := dp + 5) hy) (fun y18 => ?_)
        exact r_ireturn rfl (Or.inl rfl) rfl
