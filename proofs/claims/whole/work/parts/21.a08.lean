noncomputable def fM_out (P : am_Q) (l0 : Nat) (l1 : Int32) (l2 : Int32) (I : am_M) : Option (Int32 × am_M) :=
  sm_ck (am_t l0 = 13) <|
  sm_ck (sm_in (P l0 1) 3) <|
  sm_ck (sm_in (P l0 3) l1) <|
  sm_ck (sm_in (P l0 4) l1) <|
  sm_ck (sm_in (P l0 9) (2 * l1)) <|
  sm_ck (sm_in (P l0 9) ((2 * l1) + 1)) <|
  Option.bind (fM_worth P l0 l1 (2 + l2) (I (P l0 1) (3 : Int32).toNatClampNeg) (I (P l0 3) l1.toNatClampNeg) (I (P l0 4) l1.toNatClampNeg) (I (P l0 9) (2 * l1).toNatClampNeg) (I (P l0 9) ((2 * l1) + 1).toNatClampNeg) I) fun y7 =>
  some (y7.1, y7.2)
set_option maxRecDepth 100000 in
theorem AfM_out {dp : Nat} {P : am_Q} {nx : Nat} {sl : Nat} {I : am_M} {l0 : Nat} {l1 : Int32} {l2 : Int32} {y : Int32 × am_M} (hy : fM_out P l0 l1 l2 I = some y) : sm_T (dp + 3) 151 [.inr l0, .inl l1, .inl l2] (I, P, nx, sl) ((sm_g1 P nx sl) y) := by
  refine r_meth (d := am_d151) (dp := dp + 2) (ls0 := [some (.inr l0), some (.inl l1), some (.inl l2)]) rfl (by decide) rfl rfl ?_ hy
  unfold fM_out
  refine r_ck (fun h1 => ?_)
  refine r_aload rfl rfl (am_nz h1) ?_
  refine r_iload rfl rfl ?_
  refine r_const (x := 2) rfl rfl ?_
  refine r_iload rfl rfl ?_
  refine r_bin (z := 2 + l2) rfl rfl (by decide) ?_
  refine r_aload rfl rfl (am_nz h1) ?_
  refine r_getP rfl h1 ?_
  refine r_const (x := 3) rfl rfl ?_
  refine r_ck (fun h2 => ?_)
  refine r_iald rfl h2 ?_
  refine r_aload rfl rfl (am_nz h1) ?_
  refine r_getP rfl h1 ?_
  refine r_iload rfl rfl ?_
  refine r_ck (fun h3 => ?_)
  refine r_iald rfl h3 ?_
  refine r_aload rfl rfl (am_nz h1) ?_
  refine r_getP rfl h1 ?_
  refine r_iload rfl rfl ?_
  refine r_ck (fun h4 => ?_)
  refine r_iald rfl h4 ?_
  refine r_aload rfl rfl (am_nz h1) ?_
  refine r_getP rfl h1 ?_
  refine r_const (x := 2) rfl rfl ?_
  refine r_iload rfl rfl ?_
  refine r_bin (z := 2 * l1) rfl rfl (by decide) ?_
  refine r_ck (fun h5 => ?_)
  refine r_iald rfl h5 ?_
  refine r_aload rfl rfl (am_nz h1) ?_
  refine r_getP rfl h1 ?_
  refine r_const (x := 2) rfl rfl ?_
  refine r_iload rfl rfl ?_
  refine r_bin (z := 2 * l1) rfl rfl (by decide) ?_
  refine r_const (x := 1) rfl rfl ?_
  refine r_bin (z := (2 * l1) + 1) rfl rfl (by decide) ?_
  refine r_ck (fun h6 => ?_)
  refine r_iald rfl h6 ?_
  refine r_call1 rfl rfl h1 (fun y hy => AfM_worth (dp := dp + 0) hy) (fun y7 => ?_)
  exact r_ireturn rfl (Or.inl rfl) rfl
noncomputable def fM_linesOf_J36 (I : am_M) (P : am_Q) (r6 : Nat → Int32 → Int32 → Int32 → Option (Int32)) (l0 : Nat) (l1 : Int32) (l3 : Int32) (s0 : Int32) (s1 : Int32) : Option (Int32) :=
  sm_bd (s1 + s0) fun x7 =>
  sm_bd (l3 + 1) fun x8 =>
  r6 l0 l1 x7 x8
set_option maxRecDepth 100000 in
theorem AfM_linesOf_J36 {dp : Nat} {I : am_M} {P : am_Q} {nx : Nat} {sl : Nat} {r6 : Nat → Int32 → Int32 → Int32 → Option (Int32)} (hr6 : ∀ (l0 : Nat) (l1 : Int32) (l2 : Int32) (l3 : Int32), sm (dp + 0) am_d154 6 [some (.inr l0), some (.inl l1), some (.inl l2), some (.inl l3)] [] (I, P, nx, sl) (sm_g0 (I, P, nx, sl)) (r6 l0 l1 l2 l3)) (l0 : Nat) (l1 : Int32) (l3 : Int32) (s0 : Int32) (s1 : Int32) (o2 : Option am_V) : sm (dp + 0) am_d154 36 [some (.inr l0), some (.inl l1), o2, some (.inl l3)] [.inl s0, .inl s1] (I, P, nx, sl) (sm_g0 (I, P, nx, sl)) (fM_linesOf_J36 I P r6 l0 l1 l3 s0 s1) := by
  unfold fM_linesOf_J36
  refine r_bin (z := s1 + s0) rfl rfl (by decide) ?_
  refine r_bd (fun x7 => ?_)
  refine r_istore (ls' := [some (.inr l0), some (.inl l1), some (.inl x7), some (.inl l3)]) rfl (Nat.le_of_ble_eq_true rfl) rfl ?_
  refine r_iinc (e := l3 + 1) (ls' := fun x8 => [some (.inr l0), some (.inl l1), some (.inl x7), some (.inl x8)]) rfl rfl rfl (fun _ => rfl) (fun x8 => ?_)
  refine r_goto rfl ?_
  exact hr6 l0 l1 x7 x8
noncomputable def fM_linesOf_B6 (I : am_M) (P : am_Q) (e6_44 : Int32 → Option (Int32)) (r6 : Nat → Int32 → Int32 → Int32 → Option (Int32)) (l0 : Nat) (l1 : Int32) (l2 : Int32) (l3 : Int32) : Option (Int32) :=
  if ((4 * l1) + 4) ≤ l3 then
    (e6_44 l2)
  else
    (sm_ck (am_t l0 = 13) <|
    sm_ck (sm_in (P l0 11) l3) <|
    sm_ck (sm_in (P l0 12) l3) <|
    if (I (P l0 12) l3.toNatClampNeg) ≤ (I (P l0 11) l3.toNatClampNeg) then
      (fM_linesOf_J36 I P r6 l0 l1 l3 0 l2)
    else
      (fM_linesOf_J36 I P r6 l0 l1 l3 1 l2))
set_option maxRecDepth 100000 in
theorem AfM_linesOf_B6 {dp : Nat} {I : am_M} {P : am_Q} {nx : Nat} {sl : Nat} {e6_44 : Int32 → Option (Int32)} {r6 : Nat → Int32 → Int32 → Int32 → Option (Int32)} (he6_44 : ∀ (l2 : Int32) (o0 : Option am_V) (o1 : Option am_V) (o3 : Option am_V), sm (dp + 0) am_d154 44 [o0, o1, some (.inl l2), o3] [] (I, P, nx, sl) (sm_g0 (I, P, nx, sl)) (e6_44 l2)) (hr6 : ∀ (l0 : Nat) (l1 : Int32) (l2 : Int32) (l3 : Int32), sm (dp + 0) am_d154 6 [some (.inr l0), some (.inl l1), some (.inl l2), some (.inl l3)] [] (I, P, nx, sl) (sm_g0 (I, P, nx, sl)) (r6 l0 l1 l2 l3)) (l0 : Nat) (l1 : Int32) (l2 : Int32) (l3 : Int32) : sm (dp + 0) am_d154 6 [some (.inr l0), some (.inl l1), some (.inl l2), some (.inl l3)] [] (I, P, nx, sl) (sm_g0 (I, P, nx, sl)) (fM_linesOf_B6 I P e6_44 r6 l0 l1 l2 l3) := by
  unfold fM_linesOf_B6
  refine r_iload rfl rfl ?_
  refine r_const (x := 4) rfl rfl ?_
  refine r_iload rfl rfl ?_
  refine r_bin (z := 4 * l1) rfl rfl (by decide) ?_
  refine r_const (x := 4) rfl rfl ?_
  refine r_bin (z := (4 * l1) + 4) rfl rfl (by decide) ?_
  refine r_icmp rfl rfl (fun c2 => ?_) (fun c2 => ?_)
  · exact he6_44 l2 (some (.inr l0)) (some (.inl l1)) (some (.inl l3))
  · refine r_iload rfl rfl ?_
    refine r_ck (fun h3 => ?_)
    refine r_aload rfl rfl (am_nz h3) ?_
    refine r_getP rfl h3 ?_
    refine r_iload rfl rfl ?_
    refine r_ck (fun h4 => ?_)
    refine r_iald rfl h4 ?_
    refine r_aload rfl rfl (am_nz h3) ?_
    refine r_getP rfl h3 ?_
    refine r_iload rfl rfl ?_
    refine r_ck (fun h5 => ?_)
    refine r_iald rfl h5 ?_
    refine r_icmp rfl rfl (fun c6 => ?_) (fun c6 => ?_)
    · refine r_const (x := 0) rfl rfl ?_
      exact AfM_linesOf_J36 hr6 l0 l1 l3 0 l2 (some (.inl l2))
    · refine r_const (x := 1) rfl rfl ?_
      refine r_goto rfl ?_
      exact AfM_linesOf_J36 hr6 l0 l1 l3 1 l2 (some (.inl l2))
noncomputable def fM_linesOf_L6 (I : am_M) (P : am_Q) (e6_44 : Int32 → Option (Int32)) : Nat → Nat → Int32 → Int32 → Int32 → Option (Int32)
  | 0, _, _, _, _ => none
  | n + 1, l0, l1, l2, l3 => fM_linesOf_B6 I P e6_44 (fM_linesOf_L6 I P e6_44 n) l0 l1 l2 l3
theorem AfM_linesOf_L6 {dp : Nat} {I : am_M} {P : am_Q} {nx : Nat} {sl : Nat} {e6_44 : Int32 → Option (Int32)} (he6_44 : ∀ (l2 : Int32) (o0 : Option am_V) (o1 : Option am_V) (o3 : Option am_V), sm (dp + 0) am_d154 44 [o0, o1, some (.inl l2), o3] [] (I, P, nx, sl) (sm_g0 (I, P, nx, sl)) (e6_44 l2)) (n : Nat) : ∀ (l0 : Nat) (l1 : Int32) (l2 : Int32) (l3 : Int32), sm (dp + 0) am_d154 6 [some (.inr l0), some (.inl l1), some (.inl l2), some (.inl l3)] [] (I, P, nx, sl) (sm_g0 (I, P, nx, sl)) (fM_linesOf_L6 I P e6_44 n l0 l1 l2 l3) := by
  induction n with
  | zero => intro l0 l1 l2 l3; exact sm_none
  | succ n ih => intro l0 l1 l2 l3; exact AfM_linesOf_B6 he6_44 ih l0 l1 l2 l3
noncomputable def fM_linesOf (I : am_M) (P : am_Q) (l0 : Nat) (l1 : Int32) : Option (Int32) :=
  sm_bd (4 * l1) fun x1 =>
  fM_linesOf_L6 I P (fun l2 =>
      some l2) sm_fu l0 l1 0 x1
set_option maxRecDepth 100000 in
theorem AfM_linesOf {dp : Nat} {I : am_M} {P : am_Q} {nx : Nat} {sl : Nat} {l0 : Nat} {l1 : Int32} {y : Int32} (hy : fM_linesOf I P l0 l1 = some y) : sm_T (dp + 1) 154 [.inr l0, .inl l1] (I, P, nx, sl) ((sm_g0 (I, P, nx, sl)) y) := by
  refine r_meth (d := am_d154) (dp := dp + 0) (ls0 := [some (.inr l0), some (.inl l1), none, none]) rfl (by decide) rfl rfl ?_ hy
  unfold fM_linesOf
  refine r_const (x := 0) rfl rfl ?_
  refine r_istore (ls' := [some (.inr l0), some (.inl l1), some (.inl 0), none]) rfl (Nat.le_of_ble_eq_true rfl) rfl ?_
  refine r_const (x := 4) rfl rfl ?_
  refine r_iload rfl rfl ?_
  refine r_bin (z := 4 * l1) rfl rfl (by decide) ?_
  refine r_bd (fun x1 => ?_)
  refine r_istore (ls' := [some (.inr l0), some (.inl l1), some (.inl 0), some (.inl x1)]) rfl (Nat.le_of_ble_eq_true rfl) rfl ?_
  refine AfM_linesOf_L6 ?_ sm_fu l0 l1 0 x1
  · intro l2 o0 o1 o3
    refine r_iload rfl rfl ?_
    exact r_ireturn rfl (Or.inl rfl) rfl
noncomputable def fM_of_J93 (P : am_Q) (l0 : Nat) (l1 : Int32) (l2 : Int32) (I : am_M) : Option (Int32 × am_M) :=
  sm_ck (am_t l0 = 13) <|
  sm_ck (sm_in (P l0 9) (((2 * l1) + l2) - 3)) <|
  some (I (P l0 9) (((2 * l1) + l2) - 3).toNatClampNeg, I)
set_option maxRecDepth 100000 in
theorem AfM_of_J93 {dp : Nat} {P : am_Q} {nx : Nat} {sl : Nat} (l0 : Nat) (l1 : Int32) (l2 : Int32) (I : am_M) : sm (dp + 3) am_d150 93 [some (.inr l0), some (.inl l1), some (.inl l2)] [] (I, P, nx, sl) (sm_g1 P nx sl) (fM_of_J93 P l0 l1 l2 I) := by
  unfold fM_of_J93
  refine r_ck (fun h11 => ?_)
  refine r_aload rfl rfl (am_nz h11) ?_
  refine r_getP rfl h11 ?_
  refine r_const (x := 2) rfl rfl ?_
  refine r_iload rfl rfl ?_
  refine r_bin (z := 2 * l1) rfl rfl (by decide) ?_
  refine r_iload rfl rfl ?_
  refine r_bin (z := (2 * l1) + l2) rfl rfl (by decide) ?_
  refine r_const (x := 3) rfl rfl ?_
  refine r_bin (z := ((2 * l1) + l2) - 3) rfl rfl (by decide) ?_
  refine r_ck (fun h12 => ?_)
  refine r_iald rfl h12 ?_
  exact r_ireturn rfl (Or.inl rfl) rfl
noncomputable def fM_of (P : am_Q) (l0 : Nat) (l1 : Int32) (l2 : Int32) (I : am_M) : Option (Int32 × am_M) :=
  sm_ck (am_t l0 = 13) <|
  Option.bind (fM_isOf I P l0 0 l1) fun y2 =>
  if ¬ y2 = 0 then
    (if l2 = 0 then
      (sm_ck (sm_in (P l0 2) l1) <|
      some (I (P l0 2) l1.toNatClampNeg, I))
    else if l2 = 1 then
      (sm_ck (sm_in (P l0 3) l1) <|
      some (I (P l0 3) l1.toNatClampNeg, I))
    else if l2 = 2 then
      (sm_ck (sm_in (P l0 4) l1) <|
      some (I (P l0 4) l1.toNatClampNeg, I))
    else if l2 = 3 then
      (fM_of_J93 P l0 l1 l2 I)
    else if l2 = 4 then
      (fM_of_J93 P l0 l1 l2 I)
    else if l2 = 5 then
      (Option.bind (fM_out P l0 l1 (l2 - 5) I) fun y15 =>
      some (y15.1, y15.2))
    else if l2 = 6 then
      (Option.bind (fM_out P l0 l1 (l2 - 5) I) fun y17 =>
      some (y17.1, y17.2))
    else if l2 = 7 then
      (Option.bind (fM_linesOf I P l0 l1) fun y19 =>
      some (y19, I))
    else if l2 = 8 then
      (sm_ck (sm_in (P l0 6) l1) <|
      some (I (P l0 6) l1.toNatClampNeg, I))
    else if l2 = 9 then
      (sm_ck (sm_in (P l0 2) l1) <|
      if ¬ (I (P l0 2) l1.toNatClampNeg) = 2 then
        (Option.bind (fM_finds P l0 ((-1000003)) I) fun y25 =>
        some (y25.1, y25.2))
      else
        (sm_ck (sm_in (P l0 5) l1) <|
        some (I (P l0 5) l1.toNatClampNeg, I)))
    else (
      Option.bind (fM_finds P l0 ((-1000001)) I) fun y27 =>
      some (y27.1, y27.2)))
  else
    (Option.bind (fM_finds P l0 ((-1000001)) I) fun y28 =>
    some (y28.1, y28.2))
set_option maxRecDepth 100000 in
theorem AfM_of {dp : Nat} {P : am_Q} {nx : Nat} {sl : Nat} {I : am_M} {l0 : Nat} {l1 : Int32} {l2 : Int32} {y : Int32 × am_M} (hy : fM_of P l0 l1 l2 I = some y) : sm_T (dp + 4) 150 [.inr l0, .inl l1, .inl l2] (I, P, nx, sl) ((sm_g1 P nx sl) y) := by
  refine r_meth (d := am_d150) (dp := dp + 3) (ls0 := [some (.inr l0), some (.inl l1), some (.inl l2)]) rfl (by decide) rfl rfl ?_ hy
  unfold fM_of
  refine r_ck (fun h1 => ?_)
  refine r_aload rfl rfl (am_nz h1) ?_
  refine r_const (x := 0) rfl rfl ?_
  refine r_iload rfl rfl ?_
  refine r_call0 rfl rfl h1 (fun y hy => AfM_isOf (dp := dp + 1) hy) (fun y2 => ?_)
  refine r_if rfl rfl (fun c3 => ?_) (fun c3 => ?_)
  · refine r_iload rfl rfl ?_
    refine r_ite (fun c4 => ?_) (fun c4 => ?_)
    · refine r_tabE (t := 72) rfl c4 (by decide) ?_
      refine r_aload rfl rfl (am_nz h1) ?_
      refine r_getP rfl h1 ?_
      refine r_iload rfl rfl ?_
      refine r_ck (fun h5 => ?_)
      refine r_iald rfl h5 ?_
      exact r_ireturn rfl (Or.inl rfl) rfl
    refine r_ite (fun c6 => ?_) (fun c6 => ?_)
    · refine r_tabE (t := 79) rfl c6 (by decide) ?_
      refine r_aload rfl rfl (am_nz h1) ?_
      refine r_getP rfl h1 ?_
      refine r_iload rfl rfl ?_
      refine r_ck (fun h7 => ?_)
      refine r_iald rfl h7 ?_
      exact r_ireturn rfl (Or.inl rfl) rfl
    refine r_ite (fun c8 => ?_) (fun c8 => ?_)
    · refine r_tabE (t := 86) rfl c8 (by decide) ?_
      refine r_aload rfl rfl (am_nz h1) ?_
      refine r_getP rfl h1 ?_
      refine r_iload rfl rfl ?_
      refine r_ck (fun h9 => ?_)
      refine r_iald rfl h9 ?_
      exact r_ireturn rfl (Or.inl rfl) rfl
    refine r_ite (fun c10 => ?_) (fun c10 => ?_)
    · refine r_tabE (t := 93) rfl c10 (by decide) ?_
      exact AfM_of_J93 l0 l1 l2 I
    refine r_ite (fun c13 => ?_) (fun c13 => ?_)
    · refine r_tabE (t := 93) rfl c13 (by decide) ?_
      exact AfM_of_J93 l0 l1 l2 I
    refine r_ite (fun c14 => ?_) (fun c14 => ?_)
    · refine r_tabE (t := 106) rfl c14 (by decide) ?_
      refine r_aload rfl rfl (am_nz h1) ?_
      refine r_iload rfl rfl ?_
      refine r_iload rfl rfl ?_
      refine r_const (x := 5) rfl rfl ?_
      refine r_bin (z := l2 - 5) rfl rfl (by decide) ?_
      refine r_call1 rfl rfl h1 (fun y hy => AfM_out (dp := dp + 0) hy) (fun y15 => ?_)
      exact r_ireturn rfl (Or.inl rfl) rfl
    refine r_ite (fun c16 => ?_) (fun c16 => ?_)
    · refine r_tabE (t := 106) rfl c16 (by decide) ?_
      refine r_aload rfl rfl (am_nz h1) ?_
      refine r_iload rfl rfl ?_
      refine r_iload rfl rfl ?_
      refine r_const (x := 5) rfl rfl ?_
      refine r_bin (z := l2 - 5) rfl rfl (by decide) ?_
      refine r_call1 rfl rfl h1 (fun y hy => AfM_out (dp := dp + 0) hy) (fun y17 => ?_)
      exact r_ireturn rfl (Or.inl rfl) rfl
    refine r_ite (fun c18 => ?_) (fun c18 => ?_)
    · refine r_tabE (t := 115) rfl c18 (by decide) ?_
      refine r_aload rfl rfl (am_nz h1) ?_
      refine r_iload rfl rfl ?_
      refine r_call0 rfl rfl h1 (fun y hy => AfM_linesOf (dp := dp + 2) hy) (fun y19 => ?_)
      exact r_ireturn rfl (Or.inl rfl) rfl
    refine r_ite (fun c20 => ?_) (fun c20 => ?_)
    · refine r_tabE (t := 121) rfl c20 (by decide) ?_
      refine r_aload rfl rfl (am_nz h1) ?_
      refine r_getP rfl h1 ?_
      refine r_iload rfl rfl ?_
      refine r_ck (fun h21 => ?_)
      refine r_iald rfl h21 ?_
      exact r_ireturn rfl (Or.inl rfl) rfl
    refine r_ite (fun c22 => ?_) (fun c22 => ?_)
    · refine r_tabE (t := 128) rfl c22 (by decide) ?_
      refine r_aload rfl rfl (am_nz h1) ?_
      refine r_getP rfl h1 ?_
      refine r_iload rfl rfl ?_
      refine r_ck (fun h23 => ?_)
      refine r_iald rfl h23 ?_
      refine r_const (x := 2) rfl rfl ?_
      refine r_icmp rfl rfl (fun c24 => ?_) (fun c24 => ?_)
      · refine r_aload rfl rfl (am_nz h1) ?_
        refine r_const (x := (-1000003)) rfl rfl ?_
        refine r_call1 rfl rfl h1 (fun y hy => AfM_finds (dp := dp + 2) hy) (fun y25 => ?_)
        exact r_ireturn rfl (Or.inl rfl) rfl
      · refine r_aload rfl rfl (am_nz h1) ?_
        refine r_getP rfl h1 ?_
        refine r_iload rfl rfl ?_
        refine r_ck (fun h26 => ?_)
        refine r_iald rfl h26 ?_
        refine r_goto rfl ?_
        exact r_ireturn rfl (Or.inl rfl) rfl
    refine r_tabD rfl ⟨c4, c6, c8, c10, c13, c14, c16, c18, c20, c22, trivial⟩ ?_
    refine r_aload rfl rfl (am_nz h1) ?_
    refine r_const (x := (-1000001)) rfl rfl ?_
    refine r_call1 rfl rfl h1 (fun y hy => AfM_finds (dp := dp + 2) hy) (fun y27 => ?_)
    exact r_ireturn rfl (Or.inl rfl) rfl
  · refine r_aload rfl rfl (am_nz h1) ?_
    refine r_const (x := (-1000001)) rfl rfl ?_
    refine r_call1 rfl rfl h1 (fun y hy => AfM_finds (dp := dp + 2) hy) (fun y28 => ?_)
    exact r_ireturn rfl (Or.inl rfl) rfl
noncomputable def fM_set (P : am_Q) (l0 : Nat) (l1 : Int32) (l2 : Int32) (I : am_M) : Option (Int32 × am_M) :=
  sm_ck (am_t l0 = 13) <|
  Option.bind (fM_isOf I P l0 0 l1) fun y2 =>
  if y2 = 0 then
    (Option.bind (fM_finds P l0 ((-1000001)) I) fun y4 =>
    some (y4.1, y4.2))
  else
    (Option.bind (fM_arePair I P l0 l2) fun y5 =>
    if ¬ y5 = 0 then
      (sm_ck (sm_in (P l0 3) l1) <|
      sm_ck (sm_in (P l0 4) l1) <|
      sm_bd ((100 * (I (P l0 3) l1.toNatClampNeg)) + (I (P l0 4) l1.toNatClampNeg)) fun x9 =>
      sm_ck (sm_iw (P l0 3) l1) <|
      sm_bd (am_up I (P l0 3) l1.toNatClampNeg (l2 / 100)) fun I11 =>
      sm_ck (sm_iw (P l0 4) l1) <|
      sm_bd (am_up I11 (P l0 4) l1.toNatClampNeg (sm_rem l2 100)) fun I13 =>
      some (x9, I13))
    else
      (Option.bind (fM_finds P l0 ((-1000001)) I) fun y14 =>
      some (y14.1, y14.2)))
set_option maxRecDepth 100000 in
theorem AfM_set {dp : Nat} {P : am_Q} {nx : Nat} {sl : Nat} {I : am_M} {l0 : Nat} {l1 : Int32} {l2 : Int32} {y : Int32 × am_M} (hy : fM_set P l0 l1 l2 I = some y) : sm_T (dp + 4) 155 [.inr l0, .inl l1, .inl l2] (I, P, nx, sl) ((sm_g1 P nx sl) y) := by
  refine r_meth (d := am_d155) (dp := dp + 3) (ls0 := [some (.inr l0), some (.inl l1), some (.inl l2), none]) rfl (by decide) rfl rfl ?_ hy
  unfold fM_set
  refine r_ck (fun h1 => ?_)
  refine r_aload rfl rfl (am_nz h1) ?_
  refine r_const (x := 0) rfl rfl ?_
  refine r_iload rfl rfl ?_
  refine r_call0 rfl rfl h1 (fun y hy => AfM_isOf (dp := dp + 1) hy) (fun y2 => ?_)
  refine r_if rfl rfl (fun c3 => ?_) (fun c3 => ?_)
  · refine r_aload rfl rfl (am_nz h1) ?_
    refine r_const (x := (-1000001)) rfl rfl ?_
    refine r_call1 rfl rfl h1 (fun y hy => AfM_finds (dp := dp + 2) hy) (fun y4 => ?_)
    exact r_ireturn rfl (Or.inl rfl) rfl
  · refine r_aload rfl rfl (am_nz h1) ?_
    refine r_iload rfl rfl ?_
    refine r_call0 rfl rfl h1 (fun y hy => AfM_arePair (dp := dp + 0) hy) (fun y5 => ?_)
    refine r_if rfl rfl (fun c6 => ?_) (fun c6 => ?_)
    · refine r_const (x := 100) rfl rfl ?_
      refine r_aload rfl rfl (am_nz h1) ?_
      refine r_getP rfl h1 ?_
      refine r_iload rfl rfl ?_
      refine r_ck (fun h7 => ?_)
      refine r_iald rfl h7 ?_
      refine r_bin (z := 100 * (I (P l0 3) l1.toNatClampNeg)) rfl rfl (by decide) ?_
      refine r_aload rfl rfl (am_nz h1) ?_
      refine r_getP rfl h1 ?_
      refine r_iload rfl rfl ?_
      refine r_ck (fun h8 => ?_)
      refine r_iald rfl h8 ?_
      refine r_bin (z := (100 * (I (P l0 3) l1.toNatClampNeg)) + (I (P l0 4) l1.toNatClampNeg)) rfl rfl (by decide) ?_
      refine r_bd (fun x9 => ?_)
      refine r_istore (ls' := [some (.inr l0), some (.inl l1), some (.inl l2), some (.inl x9)]) rfl (Nat.le_of_ble_eq_true rfl) rfl ?_
      refine r_aload rfl rfl (am_nz h1) ?_
      refine r_getP rfl h1 ?_
      refine r_iload rfl rfl ?_
      refine r_iload rfl rfl ?_
      refine r_const (x := 100) rfl rfl ?_
      refine r_bin (z := l2 / 100) rfl (sm_dv (by decide)) (by decide) ?_
      refine r_ck (fun h10 => ?_)
      refine r_iast rfl h10 (fun I11 => ?_)
      refine r_aload rfl rfl (am_nz h1) ?_
      refine r_getP rfl h1 ?_
      refine r_iload rfl rfl ?_
      refine r_iload rfl rfl ?_
      refine r_const (x := 100) rfl rfl ?_
      refine r_bin (z := sm_rem l2 100) rfl (sm_rv (by decide)) (by decide) ?_
      refine r_ck (fun h12 => ?_)
      refine r_iast rfl h12 (fun I13 => ?_)
      refine r_iload rfl rfl ?_
      exact r_ireturn rfl (Or.inl rfl) rfl
    · refine r_aload rfl rfl (am_nz h1) ?_
      refine r_const (x := (-1000001)) rfl rfl ?_
      refine r_call1 rfl rfl h1 (fun y hy => AfM_finds (dp := dp + 2) hy) (fun y14 => ?_)
      exact r_ireturn rfl (Or.inl rfl) rfl
noncomputable def fM_seamTo_B2 (I : am_M) (P : am_Q) (e2_27 : Int32 → Option (Int32)) (e2_35 : Option (Int32)) (r2 : Nat → Int32 → Int32 → Int32 → Option (Int32)) (l0 : Nat) (l1 : Int32) (l2 : Int32) (l3 : Int32) : Option (Int32) :=
  sm_ck (am_t l0 = 13) <|
  sm_ck (sm_in (P l0 1) 1) <|
  if (I (P l0 1) (1 : Int32).toNatClampNeg) ≤ l3 then
    (e2_35)
  else
    (sm_ck (sm_in (P l0 16) l3) <|
    if ¬ (I (P l0 16) l3.toNatClampNeg) = ((10 * l1) + l2) then
      (sm_bd (l3 + 1) fun x6 =>
      r2 l0 l1 l2 x6)
    else
      (e2_27 l3))
set_option maxRecDepth 100000 in
theorem AfM_seamTo_B2 {dp : Nat} {I : am_M} {P : am_Q} {nx : Nat} {sl : Nat} {e2_27 : Int32 → Option (Int32)} {e2_35 : Option (Int32)} {r2 : Nat → Int32 → Int32 → Int32 → Option (Int32)} (he2_27 : ∀ (l3 : Int32) (o0 : Option am_V) (o1 : Option am_V) (o2 : Option am_V), sm (dp + 0) am_d157 27 [o0, o1, o2, some (.inl l3)] [] (I, P, nx, sl) (sm_g0 (I, P, nx, sl)) (e2_27 l3)) (he2_35 : ∀ (o0 : Option am_V) (o1 : Option am_V) (o2 : Option am_V) (o3 : Option am_V), sm (dp + 0) am_d157 35 [o0, o1, o2, o3] [] (I, P, nx, sl) (sm_g0 (I, P, nx, sl)) (e2_35)) (hr2 : ∀ (l0 : Nat) (l1 : Int32) (l2 : Int32) (l3 : Int32), sm (dp + 0) am_d157 2 [some (.inr l0), some (.inl l1), some (.inl l2), some (.inl l3)] [] (I, P, nx, sl) (sm_g0 (I, P, nx, sl)) (r2 l0 l1 l2 l3)) (l0 : Nat) (l1 : Int32) (l2 : Int32) (l3 : Int32) : sm (dp + 0) am_d157 2 [some (.inr l0), some (.inl l1), some (.inl l2), some (.inl l3)] [] (I, P, nx, sl) (sm_g0 (I, P, nx, sl)) (fM_seamTo_B2 I P e2_27 e2_35 r2 l0 l1 l2 l3) := by
  unfold fM_seamTo_B2
  refine r_iload rfl rfl ?_
  refine r_ck (fun h1 => ?_)
  refine r_aload rfl rfl (am_nz h1) ?_
  refine r_getP rfl h1 ?_
  refine r_const (x := 1) rfl rfl ?_
  refine r_ck (fun h2 => ?_)
  refine r_iald rfl h2 ?_
  refine r_icmp rfl rfl (fun c3 => ?_) (fun c3 => ?_)
  · exact he2_35 (some (.inr l0)) (some (.inl l1)) (some (.inl l2)) (some (.inl l3))
  · refine r_aload rfl rfl (am_nz h1) ?_
    refine r_getP rfl h1 ?_
    refine r_iload rfl rfl ?_
    refine r_ck (fun h4 => ?_)
    refine r_iald rfl h4 ?_
    refine r_const (x := 10) rfl rfl ?_
    refine r_iload rfl rfl ?_
    refine r_bin (z := 10 * l1) rfl rfl (by decide) ?_
    refine r_iload rfl rfl ?_
    refine r_bin (z := (10 * l1) + l2) rfl rfl (by decide) ?_
    refine r_icmp rfl rfl (fun c5 => ?_) (fun c5 => ?_)
    · refine r_iinc (e := l3 + 1) (ls' := fun x6 => [some (.inr l0), some (.inl l1), some (.inl l2), some (.inl x6)]) rfl rfl rfl (fun _ => rfl) (fun x6 => ?_)
      refine r_goto rfl ?_
      exact hr2 l0 l1 l2 x6
    · exact he2_27 l3 (some (.inr l0)) (some (.inl l1)) (some (.inl l2))
noncomputable def fM_seamTo_L2 (I : am_M) (P : am_Q) (e2_27 : Int32 → Option (Int32)) (e2_35 : Option (Int32)) : Nat → Nat → Int32 → Int32 → Int32 → Option (Int32)
  | 0, _, _, _, _ => none
  | n + 1, l0, l1, l2, l3 => fM_seamTo_B2 I P e2_27 e2_35 (fM_seamTo_L2 I P e2_27 e2_35 n) l0 l1 l2 l3
theorem AfM_seamTo_L2 {dp : Nat} {I : am_M} {P : am_Q} {nx : Nat} {sl : Nat} {e2_27 : Int32 → Option (Int32)} {e2_35 : Option (Int32)} (he2_27 : ∀ (l3 : Int32) (o0 : Option am_V) (o1 : Option am_V) (o2 : Option am_V), sm (dp + 0) am_d157 27 [o0, o1, o2, some (.inl l3)] [] (I, P, nx, sl) (sm_g0 (I, P, nx, sl)) (e2_27 l3)) (he2_35 : ∀ (o0 : Option am_V) (o1 : Option am_V) (o2 : Option am_V) (o3 : Option am_V), sm (dp + 0) am_d157 35 [o0, o1, o2, o3] [] (I, P, nx, sl) (sm_g0 (I, P, nx, sl)) (e2_35)) (n : Nat) : ∀ (l0 : Nat) (l1 : Int32) (l2 : Int32) (l3 : Int32), sm (dp + 0) am_d157 2 [some (.inr l0), some (.inl l1), some (.inl l2), some (.inl l3)] [] (I, P, nx, sl) (sm_g0 (I, P, nx, sl)) (fM_seamTo_L2 I P e2_27 e2_35 n l0 l1 l2 l3) := by
  induction n with
  | zero => intro l0 l1 l2 l3; exact sm_none
  | succ n ih => intro l0 l1 l2 l3; exact AfM_seamTo_B2 he2_27 he2_35 ih l0 l1 l2 l3
noncomputable def fM_seamTo (I : am_M) (P : am_Q) (l0 : Nat) (l1 : Int32) (l2 : Int32) : Option (Int32) :=
  fM_seamTo_L2 I P (fun l3 =>
      some l3) (some ((-1))) sm_fu l0 l1 l2 0
set_option maxRecDepth 100000 in
theorem AfM_seamTo {dp : Nat} {I : am_M} {P : am_Q} {nx : Nat} {sl : Nat} {l0 : Nat} {l1 : Int32} {l2 : Int32} {y : Int32} (hy : fM_seamTo I P l0 l1 l2 = some y) : sm_T (dp + 1) 157 [.inr l0, .inl l1, .inl l2] (I, P, nx, sl) ((sm_g0 (I, P, nx, sl)) y) := by
  refine r_meth (d := am_d157) (dp := dp + 0) (ls0 := [some (.inr l0), some (.inl l1), some (.inl l2), none]) rfl (by decide) rfl rfl ?_ hy
  unfold fM_seamTo
  refine r_const (x := 0) rfl rfl ?_
  refine r_istore (ls' := [some (.inr l0), some (.inl l1), some (.inl l2), some (.inl 0)]) rfl (Nat.le_of_ble_eq_true rfl) rfl ?_
  refine AfM_seamTo_L2 ?_ ?_ sm_fu l0 l1 l2 0
  · intro l3 o0 o1 o2
    refine r_iload rfl rfl ?_
    exact r_ireturn rfl (Or.inl rfl) rfl
  · intro o0 o1 o2 o3
    refine r_const (x := (-1)) rfl rfl ?_
    exact r_ireturn rfl (Or.inl rfl) rfl
noncomputable def fM_in (P : am_Q) (l0 : Nat) (l1 : Int32) (l2 : Int32) (l3 : Int32) (I : am_M) : Option (Int32 × am_M) :=
  sm_ck (am_t l0 = 13) <|
  Option.bind (fM_isOf I P l0 0 l1) fun y2 =>
  if y2 = 0 then
    (Option.bind (fM_finds P l0 ((-1000001)) I) fun y4 =>
    some (y4.1, y4.2))
  else
    (Option.bind (fM_within l2 0 1) fun y5 =>
    if y5 = 0 then
      (Option.bind (fM_finds P l0 ((-1000001)) I) fun y7 =>
      some (y7.1, y7.2))
    else
      (Option.bind (fM_isPart I P l0 l3) fun y8 =>
      if ¬ y8 = 0 then
        (Option.bind (fM_seamTo I P l0 l1 l2) fun y10 =>
        if y10 < 0 then
          (sm_ck (sm_in (P l0 9) ((2 * l1) + l2)) <|
          sm_bd (I (P l0 9) ((2 * l1) + l2).toNatClampNeg) fun x13 =>
          sm_ck (sm_iw (P l0 9) ((2 * l1) + l2)) <|
          sm_bd (am_up I (P l0 9) ((2 * l1) + l2).toNatClampNeg l3) fun I15 =>
          some (x13, I15))
        else
          (Option.bind (fM_finds P l0 ((-1000005)) I) fun y16 =>
          some (y16.1, y16.2)))
      else
        (Option.bind (fM_finds P l0 ((-1000001)) I) fun y17 =>
        some (y17.1, y17.2))))
set_option maxRecDepth 100000 in
theorem AfM_in {dp : Nat} {P : am_Q} {nx : Nat} {sl : Nat} {I : am_M} {l0 : Nat} {l1 : Int32} {l2 : Int32} {l3 : Int32} {y : Int32 × am_M} (hy : fM_in P l0 l1 l2 l3 I = some y) : sm_T (dp + 3) 156 [.inr l0, .inl l1, .inl l2, .inl l3] (I, P, nx, sl) ((sm_g1 P nx sl) y) := by
  refine r_meth (d := am_d156) (dp := dp + 2) (ls0 := [some (.inr l0), some (.inl l1), some (.inl l2), some (.inl l3), none]) rfl (by decide) rfl rfl ?_ hy
  unfold fM_in
  refine r_ck (fun h1 => ?_)
  refine r_aload rfl rfl (am_nz h1) ?_
  refine r_const (x := 0) rfl rfl ?_
  refine r_iload rfl rfl ?_
  refine r_call0 rfl rfl h1 (fun y hy => AfM_isOf (dp := dp + 0) hy) (fun y2 => ?_)
  refine r_if rfl rfl (fun c3 => ?_) (fun c3 => ?_)
  · refine r_aload rfl rfl (am_nz h1) ?_
    refine r_const (x := (-1000001)) rfl rfl ?_
    refine r_call1 rfl rfl h1 (fun y hy => AfM_finds (dp := dp + 1) hy) (fun y4 => ?_)
    exact r_ireturn rfl (Or.inl rfl) rfl
  · refine r_iload rfl rfl ?_
    refine r_const (x := 0) rfl rfl ?_
    refine r_const (x := 1) rfl rfl ?_
    refine r_call0 rfl rfl trivial (fun y hy => AfM_within (dp := dp + 1) hy) (fun y5 => ?_)
    refine r_if rfl rfl (fun c6 => ?_) (fun c6 => ?_)
    · refine r_aload rfl rfl (am_nz h1) ?_
      refine r_const (x := (-1000001)) rfl rfl ?_
      refine r_call1 rfl rfl h1 (fun y hy => AfM_finds (dp := dp + 1) hy) (fun y7 => ?_)
      exact r_ireturn rfl (Or.inl rfl) rfl
    · refine r_aload rfl rfl (am_nz h1) ?_
      refine r_iload rfl rfl ?_
      refine r_call0 rfl rfl h1 (fun y hy => AfM_isPart (dp := dp + 0) hy) (fun y8 => ?_)
      refine r_if rfl rfl (fun c9 => ?_) (fun c9 => ?_)
      · refine r_aload rfl rfl (am_nz h1) ?_
        refine r_iload rfl rfl ?_
        refine r_iload rfl rfl ?_
        refine r_call0 rfl rfl h1 (fun y hy => AfM_seamTo (dp := dp + 1) hy) (fun y10 => ?_)
        refine r_if rfl rfl (fun c11 => ?_) (fun c11 => ?_)
        · refine r_aload rfl rfl (am_nz h1) ?_
          refine r_getP rfl h1 ?_
          refine r_const (x := 2) rfl rfl ?_
          refine r_iload rfl rfl ?_
          refine r_bin (z := 2 * l1) rfl rfl (by decide) ?_
          refine r_iload rfl rfl ?_
          refine r_bin (z := (2 * l1) + l2) rfl rfl (by decide) ?_
          refine r_ck (fun h12 => ?_)
          refine r_iald rfl h12 ?_
          refine r_bd (fun x13 => ?_)
          refine r_istore (ls' := [some (.inr l0), some (.inl l1), some (.inl l2), some (.inl l3), some (.inl x13)]) rfl (Nat.le_of_ble_eq_true rfl) rfl ?_
          refine r_aload rfl rfl (am_nz h1) ?_
          refine r_getP rfl h1 ?_
          refine r_const (x := 2) rfl rfl ?_
          refine r_iload rfl rfl ?_
          refine r_bin (z := 2 * l1) rfl rfl (by decide) ?_
          refine r_iload rfl rfl ?_
          refine r_bin (z := (2 * l1) + l2) rfl rfl (by decide) ?_
          refine r_iload rfl rfl ?_
          refine r_ck (fun h14 => ?_)
          refine r_iast rfl h14 (fun I15 => ?_)
          refine r_iload rfl rfl ?_
          exact r_ireturn rfl (Or.inl rfl) rfl
        · refine r_aload rfl rfl (am_nz h1) ?_
          refine r_const (x := (-1000005)) rfl rfl ?_
          refine r_call1 rfl rfl h1 (fun y hy => AfM_finds (dp := dp + 1) hy) (fun y16 => ?_)
          exact r_ireturn rfl (Or.inl rfl) rfl
      · refine r_aload rfl rfl (am_nz h1) ?_
        refine r_const (x := (-1000001)) rfl rfl ?_
        refine r_call1 rfl rfl h1 (fun y hy => AfM_finds (dp := dp + 1) hy) (fun y17 => ?_)
        exact r_ireturn rfl (Or.inl rfl) rfl
noncomputable def fM_time (P : am_Q) (l0 : Nat) (l1 : Int32) (l2 : Int32) (I : am_M) : Option (Int32 × am_M) :=
  sm_ck (am_t l0 = 13) <|
  Option.bind (fM_isOf I P l0 0 l1) fun y2 =>
  if y2 = 0 then
    (Option.bind (fM_finds P l0 ((-1000001)) I) fun y4 =>
    some (y4.1, y4.2))
  else
    (Option.bind (fM_within l2 1 9) fun y5 =>
    if ¬ y5 = 0 then
      (sm_ck (sm_in (P l0 6) l1) <|
      sm_bd (I (P l0 6) l1.toNatClampNeg) fun x8 =>
      sm_ck (sm_iw (P l0 6) l1) <|
      sm_bd (am_up I (P l0 6) l1.toNatClampNeg l2) fun I10 =>
      some (x8, I10))
    else
      (Option.bind (fM_finds P l0 ((-1000001)) I) fun y11 =>
      some (y11.1, y11.2)))
set_option maxRecDepth 100000 in
theorem AfM_time {dp : Nat} {P : am_Q} {nx : Nat} {sl : Nat} {I : am_M} {l0 : Nat} {l1 : Int32} {l2 : Int32} {y : Int32 × am_M} (hy : fM_time P l0 l1 l2 I = some y) : sm_T (dp + 3) 158 [.inr l0, .inl l1, .inl l2] (I, P, nx, sl) ((sm_g1 P nx sl) y) := by
  refine r_meth (d := am_d158) (dp := dp + 2) (ls0 := [some (.inr l0), some (.inl l1), some (.inl l2), none]) rfl (by decide) rfl rfl ?_ hy
  unfold fM_time
  refine r_ck (fun h1 => ?_)
  refine r_aload rfl rfl (am_nz h1) ?_
  refine r_const (x := 0) rfl rfl ?_
  refine r_iload rfl rfl ?_
  refine r_call0 rfl rfl h1 (fun y hy => AfM_isOf (dp := dp + 0) hy) (fun y2 => ?_)
  refine r_if rfl rfl (fun c3 => ?_) (fun c3 => ?_)
  · refine r_aload rfl rfl (am_nz h1) ?_
    refine r_const (x := (-1000001)) rfl rfl ?_
    refine r_call1 rfl rfl h1 (fun y hy => AfM_finds (dp := dp + 1) hy) (fun y4 => ?_)
    exact r_ireturn rfl (Or.inl rfl) rfl
  · refine r_iload rfl rfl ?_
    refine r_const (x := 1) rfl rfl ?_
    refine r_const (x := 9) rfl rfl ?_
    refine r_call0 rfl rfl trivial (fun y hy => AfM_within (dp := dp + 1) hy) (fun y5 => ?_)
    refine r_if rfl rfl (fun c6 => ?_) (fun c6 => ?_)
    · refine r_aload rfl rfl (am_nz h1) ?_
      refine r_getP rfl h1 ?_
      refine r_iload rfl rfl ?_
      refine r_ck (fun h7 => ?_)
      refine r_iald rfl h7 ?_
      refine r_bd (fun x8 => ?_)
      refine r_istore (ls' := [some (.inr l0), some (.inl l1), some (.inl l2), some (.inl x8)]) rfl (Nat.le_of_ble_eq_true rfl) rfl ?_
      refine r_aload rfl rfl (am_nz h1) ?_
      refine r_getP rfl h1 ?_
      refine r_iload rfl rfl ?_
      refine r_iload rfl rfl ?_
      refine r_ck (fun h9 => ?_)
      refine r_iast rfl h9 (fun I10 => ?_)
      refine r_iload rfl rfl ?_
      exact r_ireturn rfl (Or.inl rfl) rfl
    · refine r_aload rfl rfl (am_nz h1) ?_
      refine r_const (x := (-1000001)) rfl rfl ?_
      refine r_call1 rfl rfl h1 (fun y hy => AfM_finds (dp := dp + 1) hy) (fun y11 => ?_)
      exact r_ireturn rfl (Or.inl rfl) rfl
noncomputable def fM_feed_B38 (P : am_Q) (e38_77 : Nat → am_M → Option (Int32 × am_M)) (r38 : Nat → Int32 → Int32 → am_M → Option (Int32 × am_M)) (l0 : Nat) (l1 : Int32) (l3 : Int32) (I : am_M) : Option (Int32 × am_M) :=
  if l3 < 0 then
    (e38_77 l0 I)
  else
    (sm_ck (am_t l0 = 13) <|
    sm_ck (sm_iw (P l0 31) (I l0 32)) <|
    sm_bd (am_up I (P l0 31) (I l0 32).toNatClampNeg ((sm_shr l1 (8 * l3)) &&& 255)) fun I9 =>
    sm_bd (am_up I9 l0 32 ((I9 l0 32) + 1)) fun I10 =>
    sm_bd (l3 + (-1)) fun x11 =>
    r38 l0 l1 x11 I10)
set_option maxRecDepth 100000 in
theorem AfM_feed_B38 {dp : Nat} {P : am_Q} {nx : Nat} {sl : Nat} {e38_77 : Nat → am_M → Option (Int32 × am_M)} {r38 : Nat → Int32 → Int32 → am_M → Option (Int32 × am_M)} (he38_77 : ∀ (l0 : Nat) (I : am_M) (o1 : Option am_V) (o2 : Option am_V) (o3 : Option am_V), sm (dp + 1) am_d159 77 [some (.inr l0), o1, o2, o3] [] (I, P, nx, sl) (sm_g1 P nx sl) (e38_77 l0 I)) (hr38 : ∀ (l0 : Nat) (l1 : Int32) (l3 : Int32) (I : am_M) (o2 : Option am_V), sm (dp + 1) am_d159 38 [some (.inr l0), some (.inl l1), o2, some (.inl l3)] [] (I, P, nx, sl) (sm_g1 P nx sl) (r38 l0 l1 l3 I)) (l0 : Nat) (l1 : Int32) (l3 : Int32) (I : am_M) (o2 : Option am_V) : sm (dp + 1) am_d159 38 [some (.inr l0), some (.inl l1), o2, some (.inl l3)] [] (I, P, nx, sl) (sm_g1 P nx sl) (fM_feed_B38 P e38_77 r38 l0 l1 l3 I) := by
  unfold fM_feed_B38
  refine r_iload rfl rfl ?_
  refine r_if rfl rfl (fun c6 => ?_) (fun c6 => ?_)
  · exact he38_77 l0 I (some (.inl l1)) o2 (some (.inl l3))
  · refine r_ck (fun h7 => ?_)
    refine r_aload rfl rfl (am_nz h7) ?_
    refine r_getP rfl h7 ?_
    refine r_aload rfl rfl (am_nz h7) ?_
    refine r_getI rfl h7 ?_
    refine r_iload rfl rfl ?_
    refine r_const (x := 8) rfl rfl ?_
    refine r_iload rfl rfl ?_
    refine r_bin (z := 8 * l3) rfl rfl (by decide) ?_
    refine r_bin (z := sm_shr l1 (8 * l3)) rfl rfl (by decide) ?_
    refine r_const (x := 255) rfl rfl ?_
    refine r_bin (z := (sm_shr l1 (8 * l3)) &&& 255) rfl rfl (by decide) ?_
    refine r_ck (fun h8 => ?_)
    refine r_iast rfl h8 (fun I9 => ?_)
    refine r_aload rfl rfl (am_nz h7) ?_
    refine r_dup rfl ?_
    refine r_getI rfl h7 ?_
    refine r_const (x := 1) rfl rfl ?_
    refine r_bin (z := (I9 l0 32) + 1) rfl rfl (by decide) ?_
    refine r_putI rfl h7 (fun hz => absurd hz (by decide)) (fun I10 => ?_)
    refine r_iinc (e := l3 + (-1)) (ls' := fun x11 => [some (.inr l0), some (.inl l1), o2, some (.inl x11)]) rfl rfl rfl (fun _ => rfl) (fun x11 => ?_)
    refine r_goto rfl ?_
    exact hr38 l0 l1 x11 I10 o2
noncomputable def fM_feed_L38 (P : am_Q) (e38_77 : Nat → am_M → Option (Int32 × am_M)) : Nat → Nat → Int32 → Int32 → am_M → Option (Int32 × am_M)
  | 0, _, _, _, _ => none
  | n + 1, l0, l1, l3, I => fM_feed_B38 P e38_77 (fM_feed_L38 P e38_77 n) l0 l1 l3 I
theorem AfM_feed_L38 {dp : Nat} {P : am_Q} {nx : Nat} {sl : Nat} {e38_77 : Nat → am_M → Option (Int32 × am_M)} (he38_77 : ∀ (l0 : Nat) (I : am_M) (o1 : Option am_V) (o2 : Option am_V) (o3 : Option am_V), sm (dp + 1) am_d159 77 [some (.inr l0), o1, o2, o3] [] (I, P, nx, sl) (sm_g1 P nx sl) (e38_77 l0 I)) (n : Nat) : ∀ (l0 : Nat) (l1 : Int32) (l3 : Int32) (I : am_M) (o2 : Option am_V), sm (dp + 1) am_d159 38 [some (.inr l0), some (.inl l1), o2, some (.inl l3)] [] (I, P, nx, sl) (sm_g1 P nx sl) (fM_feed_L38 P e38_77 n l0 l1 l3 I) := by
  induction n with
  | zero => intro l0 l1 l3 I o2; exact sm_none
  | succ n ih => intro l0 l1 l3 I o2; exact AfM_feed_B38 he38_77 ih l0 l1 l3 I o2
noncomputable def fM_feed (P : am_Q) (l0 : Nat) (l1 : Int32) (l2 : Int32) (I : am_M) : Option (Int32 × am_M) :=
  Option.bind (fM_within l2 1 4) fun y1 =>
  if ¬ y1 = 0 then
    (sm_ck (am_t l0 = 13) <|
    if ((I l0 32) + l2) ≤ 80 then
      (sm_bd (l2 - 1) fun x5 =>
      fM_feed_L38 P (fun l0 I =>
          sm_ck (am_t l0 = 13) <|
          some (I l0 32, I)) sm_fu l0 l1 x5 I)
    else
      (Option.bind (fM_finds P l0 ((-1000002)) I) fun y13 =>
      some (y13.1, y13.2)))
  else
    (sm_ck (am_t l0 = 13) <|
    Option.bind (fM_finds P l0 ((-1000001)) I) fun y15 =>
    some (y15.1, y15.2))
set_option maxRecDepth 100000 in
theorem AfM_feed {dp : Nat} {P : am_Q} {nx : Nat} {sl : Nat} {I : am_M} {l0 : Nat} {l1 : Int32} {l2 : Int32} {y : Int32 × am_M} (hy : fM_feed P l0 l1 l2 I = some y) : sm_T (dp + 2) 159 [.inr l0, .inl l1, .inl l2] (I, P, nx, sl) ((sm_g1 P nx sl) y) := by
  refine r_meth (d := am_d159) (dp := dp + 1) (ls0 := [some (.inr l0), some (.inl l1), some (.inl l2), none]) rfl (by decide) rfl rfl ?_ hy
  unfold fM_feed
  refine r_iload rfl rfl ?_
  refine r_const (x := 1) rfl rfl ?_
  refine r_const (x := 4) rfl rfl ?_
  refine r_call0 rfl rfl trivial (fun y hy => AfM_within (dp := dp + 0) hy) (fun y1 => ?_)
  refine r_if rfl rfl (fun c2 => ?_) (fun c2 => ?_)
  · refine r_ck (fun h3 => ?_)
    refine r_aload rfl rfl (am_nz h3) ?_
    refine r_getI rfl h3 ?_
    refine r_iload rfl rfl ?_
    refine r_bin (z := (I l0 32) + l2) rfl rfl (by decide) ?_
    refine r_const (x := 80) rfl rfl ?_
    refine r_icmp rfl rfl (fun c4 => ?_) (fun c4 => ?_)
    · refine r_iload rfl rfl ?_
      refine r_const (x := 1) rfl rfl ?_
      refine r_bin (z := l2 - 1) rfl rfl (by decide) ?_
      refine r_bd (fun x5 => ?_)
      refine r_istore (ls' := [some (.inr l0), some (.inl l1), some (.inl l2), some (.inl x5)]) rfl (Nat.le_of_ble_eq_true rfl) rfl ?_
      refine AfM_feed_L38 ?_ sm_fu l0 l1 x5 I (some (.inl l2))
      · intro l0 I o1 o2 o3
        refine r_ck (fun h12 => ?_)
        refine r_aload rfl rfl (am_nz h12) ?_
        refine r_getI rfl h12 ?_
        exact r_ireturn rfl (Or.inl rfl) rfl
    · refine r_aload rfl rfl (am_nz h3) ?_
      refine r_const (x := (-1000002)) rfl rfl ?_
      refine r_call1 rfl rfl h3 (fun y hy => AfM_finds (dp := dp + 0) hy) (fun y13 => ?_)
      exact r_ireturn rfl (Or.inl rfl) rfl
  · refine r_ck (fun h14 => ?_)
    refine r_aload rfl rfl (am_nz h14) ?_
    refine r_const (x := (-1000001)) rfl rfl ?_
    refine r_call1 rfl rfl h14 (fun y hy => AfM_finds (dp := dp + 0) hy) (fun y15 => ?_)
    exact r_ireturn rfl (Or.inl rfl) rfl
noncomputable def fM_wipe (P : am_Q) (l0 : Nat) (I : am_M) : Option (Int32 × am_M) :=
  sm_ck (am_t l0 = 13) <|
  sm_bd (I l0 32) fun x2 =>
  sm_bd (am_up I l0 32 0) fun I3 =>
  some (x2, I3)
set_option maxRecDepth 100000 in
theorem AfM_wipe {dp : Nat} {P : am_Q} {nx : Nat} {sl : Nat} {I : am_M} {l0 : Nat} {y : Int32 × am_M} (hy : fM_wipe P l0 I = some y) : sm_T (dp + 1) 160 [.inr l0] (I, P, nx, sl) ((sm_g1 P nx sl) y) := by
  refine r_meth (d := am_d160) (dp := dp + 0) (ls0 := [some (.inr l0), none]) rfl (by decide) rfl rfl ?_ hy
  unfold fM_wipe
  refine r_ck (fun h1 => ?_)
  refine r_aload rfl rfl (am_nz h1) ?_
  refine r_getI rfl h1 ?_
  refine r_bd (fun x2 => ?_)
  refine r_istore (ls' := [some (.inr l0), some (.inl x2)]) rfl (Nat.le_of_ble_eq_true rfl) rfl ?_
  refine r_aload rfl rfl (am_nz h1) ?_
  refine r_const (x := 0) rfl rfl ?_
  refine r_putI rfl h1 (fun hz => absurd hz (by decide)) (fun I3 => ?_)
  refine r_iload rfl rfl ?_
  exact r_ireturn rfl (Or.inl rfl) rfl
noncomputable def fM_byteHere (I : am_M) (P : am_Q) (l0 : Nat) : Option (Int32) :=
  sm_ck (am_t l0 = 13) <|
  if (I l0 32) ≤ (I l0 38) then
    (some ((-1)))
  else
    (sm_ck (sm_in (P l0 31) (I l0 38)) <|
    some (I (P l0 31) (I l0 38).toNatClampNeg))
set_option maxRecDepth 100000 in
theorem AfM_byteHere {dp : Nat} {I : am_M} {P : am_Q} {nx : Nat} {sl : Nat} {l0 : Nat} {y : Int32} (hy : fM_byteHere I P l0 = some y) : sm_T (dp + 1) 165 [.inr l0] (I, P, nx, sl) ((sm_g0 (I, P, nx, sl)) y) := by
  refine r_meth (d := am_d165) (dp := dp + 0) (ls0 := [some (.inr l0)]) rfl (by decide) rfl rfl ?_ hy
  unfold fM_byteHere
  refine r_ck (fun h1 => ?_)
  refine r_aload rfl rfl (am_nz h1) ?_
  refine r_getI rfl h1 ?_
  refine r_aload rfl rfl (am_nz h1) ?_
  refine r_getI rfl h1 ?_
  refine r_icmp rfl rfl (fun c2 => ?_) (fun c2 => ?_)
  · refine r_const (x := (-1)) rfl rfl ?_
    exact r_ireturn rfl (Or.inl rfl) rfl
  · refine r_aload rfl rfl (am_nz h1) ?_
    refine r_getP rfl h1 ?_
    refine r_aload rfl rfl (am_nz h1) ?_
    refine r_getI rfl h1 ?_
    refine r_ck (fun h3 => ?_)
    refine r_iald rfl h3 ?_
    refine r_goto rfl ?_
    exact r_ireturn rfl (Or.inl rfl) rfl
noncomputable def fM_skips_B0 (P : am_Q) (e0_22 : am_M → Option (am_M)) (r0 : Nat → am_M → Option (am_M)) (l0 : Nat) (I : am_M) : Option (am_M) :=
  sm_ck (am_t l0 = 13) <|
  Option.bind (fM_byteHere I P l0) fun y2 =>
  if ¬ y2 = 32 then
    (e0_22 I)
  else
    (sm_bd (am_up I l0 38 ((I l0 38) + 1)) fun I4 =>
    r0 l0 I4)
set_option maxRecDepth 100000 in
theorem AfM_skips_B0 {dp : Nat} {P : am_Q} {nx : Nat} {sl : Nat} {e0_22 : am_M → Option (am_M)} {r0 : Nat → am_M → Option (am_M)} (he0_22 : ∀ (I : am_M) (o0 : Option am_V), sm (dp + 1) am_d164 22 [o0] [] (I, P, nx, sl) (sm_g2 P nx sl) (e0_22 I)) (hr0 : ∀ (l0 : Nat) (I : am_M), sm (dp + 1) am_d164 0 [some (.inr l0)] [] (I, P, nx, sl) (sm_g2 P nx sl) (r0 l0 I)) (l0 : Nat) (I : am_M) : sm (dp + 1) am_d164 0 [some (.inr l0)] [] (I, P, nx, sl) (sm_g2 P nx sl) (fM_skips_B0 P e0_22 r0 l0 I) := by
  unfold fM_skips_B0
  refine r_ck (fun h1 => ?_)
  refine r_aload rfl rfl (am_nz h1) ?_
  refine r_call0 rfl rfl h1 (fun y hy => AfM_byteHere (dp := dp + 0) hy) (fun y2 => ?_)
  refine r_const (x := 32) rfl rfl ?_
  refine r_icmp rfl rfl (fun c3 => ?_) (fun c3 => ?_)
  · exact he0_22 I (some (.inr l0))
  · refine r_aload rfl rfl (am_nz h1) ?_
    refine r_dup rfl ?_
    refine r_getI rfl h1 ?_
    refine r_const (x := 1) rfl rfl ?_
    refine r_bin (z := (I l0 38) + 1) rfl rfl (by decide) ?_
    refine r_putI rfl h1 (fun hz => absurd hz (by decide)) (fun I4 => ?_)
    refine r_goto rfl ?_
    exact hr0 l0 I4
noncomputable def fM_skips_L0 (P : am_Q) (e0_22 : am_M → Option (am_M)) : Nat → Nat → am_M → Option (am_M)
  | 0, _, _ => none
  | n + 1, l0, I => fM_skips_B0 P e0_22 (fM_skips_L0 P e0_22 n) l0 I
theorem AfM_skips_L0 {dp : Nat} {P : am_Q} {nx : Nat} {sl : Nat} {e0_22 : am_M → Option (am_M)} (he0_22 : ∀ (I : am_M) (o0 : Option am_V), sm (dp + 1) am_d164 22 [o0] [] (I, P, nx, sl) (sm_g2 P nx sl) (e0_22 I)) (n : Nat) : ∀ (l0 : Nat) (I : am_M), sm (dp + 1) am_d164 0 [some (.inr l0)] [] (I, P, nx, sl) (sm_g2 P nx sl) (fM_skips_L0 P e0_22 n l0 I) := by
  induction n with
  | zero => intro l0 I; exact sm_none
  | succ n ih => intro l0 I; exact AfM_skips_B0 he0_22 ih l0 I
noncomputable def fM_skips (P : am_Q) (l0 : Nat) (I : am_M) : Option (am_M) :=
  fM_skips_L0 P (fun I =>
      some I) sm_fu l0 I
set_option maxRecDepth 100000 in
theorem AfM_skips {dp : Nat} {P : am_Q} {nx : Nat} {sl : Nat} {I : am_M} {l0 : Nat} {y : am_M} (hy : fM_skips P l0 I = some y) : sm_T (dp + 2) 164 [.inr l0] (I, P, nx, sl) ((sm_g2 P nx sl) y) := by
  refine r_meth (d := am_d164) (dp := dp + 1) (ls0 := [some (.inr l0)]) rfl (by decide) rfl rfl ?_ hy
  unfold fM_skips
  refine AfM_skips_L0 ?_ sm_fu l0 I
  · intro I o0
    exact r_return rfl rfl
noncomputable def fM_may (P : am_Q) (l0 : Nat) (l1 : Int32) (I : am_M) : Option (Int32 × am_M) :=
  sm_ck (am_t l0 = 13) <|
  if (I l0 40) = 0 then
    (Option.bind (fM_skips P l0 I) fun y3 =>
    Option.bind (fM_byteHere y3 P l0) fun y4 =>
    if y4 = l1 then
      (sm_bd (am_up y3 l0 38 ((y3 l0 38) + 1)) fun I6 =>
      some (1, I6))
    else
      (some (0, y3)))
  else
    (some (0, I))
set_option maxRecDepth 100000 in
theorem AfM_may {dp : Nat} {P : am_Q} {nx : Nat} {sl : Nat} {I : am_M} {l0 : Nat} {l1 : Int32} {y : Int32 × am_M} (hy : fM_may P l0 l1 I = some y) : sm_T (dp + 3) 166 [.inr l0, .inl l1] (I, P, nx, sl) ((sm_g1 P nx sl) y) := by
  refine r_meth (d := am_d166) (dp := dp + 2) (ls0 := [some (.inr l0), some (.inl l1)]) rfl (by decide) rfl rfl ?_ hy
  unfold fM_may
  refine r_ck (fun h1 => ?_)
  refine r_aload rfl rfl (am_nz h1) ?_
  refine r_getI rfl h1 ?_
  refine r_if rfl rfl (fun c2 => ?_) (fun c2 => ?_)
  · refine r_aload rfl rfl (am_nz h1) ?_
    refine r_call2 rfl rfl h1 (fun y hy => AfM_skips (dp := dp + 0) hy) (fun y3 => ?_)
    refine r_aload rfl rfl (am_nz h1) ?_
    refine r_call0 rfl rfl h1 (fun y hy => AfM_byteHere (dp := dp + 1) hy) (fun y4 => ?_)
    refine r_iload rfl rfl ?_
    refine r_icmp rfl rfl (fun c5 => ?_) (fun c5 => ?_)
    · refine r_aload rfl rfl (am_nz h1) ?_
      refine r_dup rfl ?_
      refine r_getI rfl h1 ?_
      refine r_const (x := 1) rfl rfl ?_
      refine r_bin (z := (y3 l0 38) + 1) rfl rfl (by decide) ?_
      refine r_putI rfl h1 (fun hz => absurd hz (by decide)) (fun I6 => ?_)
      refine r_const (x := 1) rfl rfl ?_
      exact r_ireturn rfl (Or.inr ⟨rfl, sm_011⟩) rfl
    · refine r_const (x := 0) rfl rfl ?_
      exact r_ireturn rfl (Or.inr ⟨rfl, sm_010⟩) rfl
  · refine r_const (x := 0) rfl rfl ?_
    exact r_ireturn rfl (Or.inr ⟨rfl, sm_010⟩) rfl
noncomputable def fM_does (P : am_Q) (l0 : Nat) (l1 : Int32) (l2 : Int32) (I : am_M) : Option (am_M) :=
  sm_ck (am_t l0 = 13) <|
  sm_ck (sm_iw (P l0 33) (I l0 37)) <|
  sm_bd (am_up I (P l0 33) (I l0 37).toNatClampNeg l1) fun I3 =>
  sm_ck (sm_iw (P l0 34) (I3 l0 37)) <|
  sm_bd (am_up I3 (P l0 34) (I3 l0 37).toNatClampNeg l2) fun I5 =>
  sm_bd (am_up I5 l0 37 ((I5 l0 37) + 1)) fun I6 =>
  some I6
set_option maxRecDepth 100000 in
theorem AfM_does {dp : Nat} {P : am_Q} {nx : Nat} {sl : Nat} {I : am_M} {l0 : Nat} {l1 : Int32} {l2 : Int32} {y : am_M} (hy : fM_does P l0 l1 l2 I = some y) : sm_T (dp + 1) 170 [.inr l0, .inl l1, .inl l2] (I, P, nx, sl) ((sm_g2 P nx sl) y) := by
  refine r_meth (d := am_d170) (dp := dp + 0) (ls0 := [some (.inr l0), some (.inl l1), some (.inl l2)]) rfl (by decide) rfl rfl ?_ hy
  unfold fM_does
  refine r_ck (fun h1 => ?_)
  refine r_aload rfl rfl (am_nz h1) ?_
  refine r_getP rfl h1 ?_
  refine r_aload rfl rfl (am_nz h1) ?_
  refine r_getI rfl h1 ?_
  refine r_iload rfl rfl ?_
  refine r_ck (fun h2 => ?_)
  refine r_iast rfl h2 (fun I3 => ?_)
  refine r_aload rfl rfl (am_nz h1) ?_
  refine r_getP rfl h1 ?_
  refine r_aload rfl rfl (am_nz h1) ?_
  refine r_getI rfl h1 ?_
  refine r_iload rfl rfl ?_
  refine r_ck (fun h4 => ?_)
  refine r_iast rfl h4 (fun I5 => ?_)
  refine r_aload rfl rfl (am_nz h1) ?_
  refine r_dup rfl ?_
  refine r_getI rfl h1 ?_
  refine r_const (x := 1) rfl rfl ?_
  refine r_bin (z := (I5 l0 37) + 1) rfl rfl (by decide) ?_
  refine r_putI rfl h1 (fun hz => absurd hz (by decide)) (fun I6 => ?_)
  exact r_return rfl rfl
noncomputable def fM_nameOf (l0 : Int32) : Option (Int32) :=
  if ¬ l0 = 112 then
    (if ¬ l0 = 113 then
      (if ¬ l0 = 97 then
        (if ¬ l0 = 98 then
          (if ¬ l0 = 104 then
            (some ((-1)))
          else
            (some 4))
        else
          (some 3))
      else
        (some 2))
    else
      (some 1))
  else
    (some 0)
set_option maxRecDepth 100000 in
theorem AfM_nameOf {dp : Nat} {S : am_S} {l0 : Int32} {y : Int32} (hy : fM_nameOf l0 = some y) : sm_T (dp + 1) 171 [.inl l0] S ((sm_g0 S) y) := by
  refine r_meth (d := am_d171) (dp := dp + 0) (ls0 := [some (.inl l0)]) rfl (by decide) rfl rfl ?_ hy
  unfold fM_nameOf
  refine r_iload rfl rfl ?_
  refine r_const (x := 112) rfl rfl ?_
  refine r_icmp rfl rfl (fun c1 => ?_) (fun c1 => ?_)
  · refine r_iload rfl rfl ?_
    refine r_const (x := 113) rfl rfl ?_
    refine r_icmp rfl rfl (fun c2 => ?_) (fun c2 => ?_)
    · refine r_iload rfl rfl ?_
      refine r_const (x := 97) rfl rfl ?_
      refine r_icmp rfl rfl (fun c3 => ?_) (fun c3 => ?_)
      · refine r_iload rfl rfl ?_
        refine r_const (x := 98) rfl rfl ?_
        refine r_icmp rfl rfl (fun c4 => ?_) (fun c4 => ?_)
        · refine r_iload rfl rfl ?_
          refine r_const (x := 104) rfl rfl ?_
          refine r_icmp rfl rfl (fun c5 => ?_) (fun c5 => ?_)
          · refine r_const (x := (-1)) rfl rfl ?_
            exact r_ireturn rfl (Or.inl rfl) rfl
          · refine r_const (x := 4) rfl rfl ?_
            refine r_goto rfl ?_
            exact r_ireturn rfl (Or.inl rfl) rfl
        · refine r_const (x := 3) rfl rfl ?_
          refine r_goto rfl ?_
          exact r_ireturn rfl (Or.inl rfl) rfl
      · refine r_const (x := 2) rfl rfl ?_
        refine r_goto rfl ?_
        exact r_ireturn rfl (Or.inl rfl) rfl
    · refine r_const (x := 1) rfl rfl ?_
      refine r_goto rfl ?_
      exact r_ireturn rfl (Or.inl rfl) rfl
  · refine r_const (x := 0) rfl rfl ?_
    refine r_goto rfl ?_
    exact r_ireturn rfl (Or.inl rfl) rfl
noncomputable def fM_takesText_B2 (P : am_Q) (e2_50 : Nat → Int32 → am_M → Option (am_M)) (r2 : Nat → Int32 → Int32 → am_M → Option (am_M)) (l0 : Nat) (l1 : Int32) (l2 : Int32) (I : am_M) : Option (am_M) :=
  sm_ck (am_t l0 = 13) <|
  if (I l0 37) ≤ l2 then
    (e2_50 l0 l1 I)
  else
    (sm_ck (sm_in (P l0 33) l2) <|
    sm_ck (sm_iw (P l0 13) ((80 * l1) + l2)) <|
    sm_bd (am_up I (P l0 13) ((80 * l1) + l2).toNatClampNeg (I (P l0 33) l2.toNatClampNeg)) fun I5 =>
    sm_ck (sm_in (P l0 34) l2) <|
    sm_ck (sm_iw (P l0 14) ((80 * l1) + l2)) <|
    sm_bd (am_up I5 (P l0 14) ((80 * l1) + l2).toNatClampNeg (I5 (P l0 34) l2.toNatClampNeg)) fun I8 =>
    sm_bd (l2 + 1) fun x9 =>
    r2 l0 l1 x9 I8)
set_option maxRecDepth 100000 in
theorem AfM_takesText_B2 {dp : Nat} {P : am_Q} {nx : Nat} {sl : Nat} {e2_50 : Nat → Int32 → am_M → Option (am_M)} {r2 : Nat → Int32 → Int32 → am_M → Option (am_M)} (he2_50 : ∀ (l0 : Nat) (l1 : Int32) (I : am_M) (o2 : Option am_V), sm (dp + 0) am_d172 50 [some (.inr l0), some (.inl l1), o2] [] (I, P, nx, sl) (sm_g2 P nx sl) (e2_50 l0 l1 I)) (hr2 : ∀ (l0 : Nat) (l1 : Int32) (l2 : Int32) (I : am_M), sm (dp + 0) am_d172 2 [some (.inr l0), some (.inl l1), some (.inl l2)] [] (I, P, nx, sl) (sm_g2 P nx sl) (r2 l0 l1 l2 I)) (l0 : Nat) (l1 : Int32) (l2 : Int32) (I : am_M) : sm (dp + 0) am_d172 2 [some (.inr l0), some (.inl l1), some (.inl l2)] [] (I, P, nx, sl) (sm_g2 P nx sl) (fM_takesText_B2 P e2_50 r2 l0 l1 l2 I) := by
  unfold fM_takesText_B2
  refine r_iload rfl rfl ?_
  refine r_ck (fun h1 => ?_)
  refine r_aload rfl rfl (am_nz h1) ?_
  refine r_getI rfl h1 ?_
  refine r_icmp rfl rfl (fun c2 => ?_) (fun c2 => ?_)
  · exact he2_50 l0 l1 I (some (.inl l2))
  · refine r_aload rfl rfl (am_nz h1) ?_
    refine r_getP rfl h1 ?_
    refine r_const (x := 80) rfl rfl ?_
    refine r_iload rfl rfl ?_
    refine r_bin (z := 80 * l1) rfl rfl (by decide) ?_
    refine r_iload rfl rfl ?_
    refine r_bin (z := (80 * l1) + l2) rfl rfl (by decide) ?_
    refine r_aload rfl rfl (am_nz h1) ?_
    refine r_getP rfl h1 ?_
    refine r_iload rfl rfl ?_
    refine r_ck (fun h3 => ?_)
    refine r_iald rfl h3 ?_
    refine r_ck (fun h4 => ?_)
    refine r_iast rfl h4 (fun I5 => ?_)
    refine r_aload rfl rfl (am_nz h1) ?_
    refine r_getP rfl h1 ?_
    refine r_const (x := 80) rfl rfl ?_
    refine r_iload rfl rfl ?_
    refine r_bin (z := 80 * l1) rfl rfl (by decide) ?_
    refine r_iload rfl rfl ?_
    refine r_bin (z := (80 * l1) + l2) rfl rfl (by decide) ?_
    refine r_aload rfl rfl (am_nz h1) ?_
    refine r_getP rfl h1 ?_
    refine r_iload rfl rfl ?_
    refine r_ck (fun h6 => ?_)
    refine r_iald rfl h6 ?_
    refine r_ck (fun h7 => ?_)
    refine r_iast rfl h7 (fun I8 => ?_)
    refine r_iinc (e := l2 + 1) (ls' := fun x9 => [some (.inr l0), some (.inl l1), some (.inl x9)]) rfl rfl rfl (fun _ => rfl) (fun x9 => ?_)
    refine r_goto rfl ?_
    exact hr2 l0 l1 x9 I8
noncomputable def fM_takesText_L2 (P : am_Q) (e2_50 : Nat → Int32 → am_M → Option (am_M)) : Nat → Nat → Int32 → Int32 → am_M → Option (am_M)
  | 0, _, _, _, _ => none
  | n + 1, l0, l1, l2, I => fM_takesText_B2 P e2_50 (fM_takesText_L2 P e2_50 n) l0 l1 l2 I
theorem AfM_takesText_L2 {dp : Nat} {P : am_Q} {nx : Nat} {sl : Nat} {e2_50 : Nat → Int32 → am_M → Option (am_M)} (he2_50 : ∀ (l0 : Nat) (l1 : Int32) (I : am_M) (o2 : Option am_V), sm (dp + 0) am_d172 50 [some (.inr l0), some (.inl l1), o2] [] (I, P, nx, sl) (sm_g2 P nx sl) (e2_50 l0 l1 I)) (n : Nat) : ∀ (l0 : Nat) (l1 : Int32) (l2 : Int32) (I : am_M), sm (dp + 0) am_d172 2 [some (.inr l0), some (.inl l1), some (.inl l2)] [] (I, P, nx, sl) (sm_g2 P nx sl) (fM_takesText_L2 P e2_50 n l0 l1 l2 I) := by
  induction n with
  | zero => intro l0 l1 l2 I; exact sm_none
  | succ n ih => intro l0 l1 l2 I; exact AfM_takesText_B2 he2_50 ih l0 l1 l2 I
noncomputable def fM_takesText_B52 (P : am_Q) (e52_95 : am_M → Option (am_M)) (r52 : Nat → Int32 → Int32 → am_M → Option (am_M)) (l0 : Nat) (l1 : Int32) (l2 : Int32) (I : am_M) : Option (am_M) :=
  if 4 ≤ l2 then
    (e52_95 I)
  else
    (sm_ck (am_t l0 = 13) <|
    sm_ck (sm_in (P l0 35) l2) <|
    sm_ck (sm_iw (P l0 11) ((4 * l1) + l2)) <|
    sm_bd (am_up I (P l0 11) ((4 * l1) + l2).toNatClampNeg (I (P l0 35) l2.toNatClampNeg)) fun I14 =>
    sm_ck (sm_in (P l0 36) l2) <|
    sm_ck (sm_iw (P l0 12) ((4 * l1) + l2)) <|
    sm_bd (am_up I14 (P l0 12) ((4 * l1) + l2).toNatClampNeg (I14 (P l0 36) l2.toNatClampNeg)) fun I17 =>
    sm_bd (l2 + 1) fun x18 =>
    r52 l0 l1 x18 I17)
set_option maxRecDepth 100000 in
theorem AfM_takesText_B52 {dp : Nat} {P : am_Q} {nx : Nat} {sl : Nat} {e52_95 : am_M → Option (am_M)} {r52 : Nat → Int32 → Int32 → am_M → Option (am_M)} (he52_95 : ∀ (I : am_M) (o0 : Option am_V) (o1 : Option am_V) (o2 : Option am_V), sm (dp + 0) am_d172 95 [o0, o1, o2] [] (I, P, nx, sl) (sm_g2 P nx sl) (e52_95 I)) (hr52 : ∀ (l0 : Nat) (l1 : Int32) (l2 : Int32) (I : am_M), sm (dp + 0) am_d172 52 [some (.inr l0), some (.inl l1), some (.inl l2)] [] (I, P, nx, sl) (sm_g2 P nx sl) (r52 l0 l1 l2 I)) (l0 : Nat) (l1 : Int32) (l2 : Int32) (I : am_M) : sm (dp + 0) am_d172 52 [some (.inr l0), some (.inl l1), some (.inl l2)] [] (I, P, nx, sl) (sm_g2 P nx sl) (fM_takesText_B52 P e52_95 r52 l0 l1 l2 I) := by
  unfold fM_takesText_B52
  refine r_iload rfl rfl ?_
  refine r_const (x := 4) rfl rfl ?_
  refine r_icmp rfl rfl (fun c10 => ?_) (fun c10 => ?_)
  · exact he52_95 I (some (.inr l0)) (some (.inl l1)) (some (.inl l2))
  · refine r_ck (fun h11 => ?_)
    refine r_aload rfl rfl (am_nz h11) ?_
    refine r_getP rfl h11 ?_
    refine r_const (x := 4) rfl rfl ?_
    refine r_iload rfl rfl ?_
    refine r_bin (z := 4 * l1) rfl rfl (by decide) ?_
    refine r_iload rfl rfl ?_
    refine r_bin (z := (4 * l1) + l2) rfl rfl (by decide) ?_
    refine r_aload rfl rfl (am_nz h11) ?_
    refine r_getP rfl h11 ?_
    refine r_iload rfl rfl ?_
    refine r_ck (fun h12 => ?_)
    refine r_iald rfl h12 ?_
    refine r_ck (fun h13 => ?_)
    refine r_iast rfl h13 (fun I14 => ?_)
    refine r_aload rfl rfl (am_nz h11) ?_
    refine r_getP rfl h11 ?_
    refine r_const (x := 4) rfl rfl ?_
    refine r_iload rfl rfl ?_
    refine r_bin (z := 4 * l1) rfl rfl (by decide) ?_
    refine r_iload rfl rfl ?_
    refine r_bin (z := (4 * l1) + l2) rfl rfl (by decide) ?_
    refine r_aload rfl rfl (am_nz h11) ?_
    refine r_getP rfl h11 ?_
    refine r_iload rfl rfl ?_
    refine r_ck (fun h15 => ?_)
    refine r_iald rfl h15 ?_
    refine r_ck (fun h16 => ?_)
    refine r_iast rfl h16 (fun I17 => ?_)
    refine r_iinc (e := l2 + 1) (ls' := fun x18 => [some (.inr l0), some (.inl l1), some (.inl x18)]) rfl rfl rfl (fun _ => rfl) (fun x18 => ?_)
    refine r_goto rfl ?_
    exact hr52 l0 l1 x18 I17
noncomputable def fM_takesText_L52 (P : am_Q) (e52_95 : am_M → Option (am_M)) : Nat → Nat → Int32 → Int32 → am_M → Option (am_M)
  | 0, _, _, _, _ => none
  | n + 1, l0, l1, l2, I => fM_takesText_B52 P e52_95 (fM_takesText_L52 P e52_95 n) l0 l1 l2 I
theorem AfM_takesText_L52 {dp : Nat} {P : am_Q} {nx : Nat} {sl : Nat} {e52_95 : am_M → Option (am_M)} (he52_95 : ∀ (I : am_M) (o0 : Option am_V) (o1 : Option am_V) (o2 : Option am_V), sm (dp + 0) am_d172 95 [o0, o1, o2] [] (I, P, nx, sl) (sm_g2 P nx sl) (e52_95 I)) (n : Nat) : ∀ (l0 : Nat) (l1 : Int32) (l2 : Int32) (I : am_M), sm (dp + 0) am_d172 52 [some (.inr l0), some (.inl l1), some (.inl l2)] [] (I, P, nx, sl) (sm_g2 P nx sl) (fM_takesText_L52 P e52_95 n l0 l1 l2 I) := by
  induction n with
  | zero => intro l0 l1 l2 I; exact sm_none
  | succ n ih => intro l0 l1 l2 I; exact AfM_takesText_B52 he52_95 ih l0 l1 l2 I
noncomputable def fM_takesText (P : am_Q) (l0 : Nat) (l1 : Int32) (I : am_M) : Option (am_M) :=
  fM_takesText_L2 P (fun l0 l1 I =>
      fM_takesText_L52 P (fun I =>
          some I) sm_fu l0 l1 0 I) sm_fu l0 l1 0 I
set_option maxRecDepth 100000 in
theorem AfM_takesText {dp : Nat} {P : am_Q} {nx : Nat} {sl : Nat} {I : am_M} {l0 : Nat} {l1 : Int32} {y : am_M} (hy : fM_takesText P l0 l1 I = some y) : sm_T (dp + 1) 172 [.inr l0, .inl l1] (I, P, nx, sl) ((sm_g2 P nx sl) y) := by
  refine r_meth (d := am_d172) (dp := dp + 0) (ls0 := [some (.inr l0), some (.inl l1), none]) rfl (by decide) rfl rfl ?_ hy
  unfold fM_takesText
  refine r_const (x := 0) rfl rfl ?_
  refine r_istore (ls' := [some (.inr l0), some (.inl l1), some (.inl 0)]) rfl (Nat.le_of_ble_eq_true rfl) rfl ?_
  refine AfM_takesText_L2 ?_ sm_fu l0 l1 0 I
  · intro l0 l1 I o2
    refine r_const (x := 0) rfl rfl ?_
    refine r_istore (ls' := [some (.inr l0), some (.inl l1), some (.inl 0)]) rfl (Nat.le_of_ble_eq_true rfl) rfl ?_
    refine AfM_takesText_L52 ?_ sm_fu l0 l1 0 I
    · intro I o0 o1 o2
      exact r_return rfl rfl
noncomputable def fM_would (P : am_Q) (l0 : Nat) (l1 : Int32) (l2 : Int32) (l3 : Int32) (l4 : Int32) (l5 : Int32) (I : am_M) : Option (Int32 × am_M) :=
  sm_ck (am_t l0 = 13) <|
  Option.bind (fM_isOf I P l0 0 l1) fun y2 =>
  if y2 = 0 then
    (Option.bind (fM_finds P l0 ((-1000001)) I) fun y4 =>
    some (y4.1, y4.2))
  else
    (Option.bind (fM_within l2 0 3) fun y5 =>
    if y5 = 0 then
      (Option.bind (fM_finds P l0 ((-1000001)) I) fun y7 =>
      some (y7.1, y7.2))
    else
      (Option.bind (fM_arePair I P l0 l3) fun y8 =>
      if y8 = 0 then
        (Option.bind (fM_finds P l0 ((-1000001)) I) fun y10 =>
        some (y10.1, y10.2))
      else
        (Option.bind (fM_arePair I P l0 l4) fun y11 =>
        if y11 = 0 then
          (Option.bind (fM_finds P l0 ((-1000001)) I) fun y13 =>
          some (y13.1, y13.2))
        else
          (Option.bind (fM_within l5 0 999) fun y14 =>
          if ¬ y14 = 0 then
            (Option.bind (fM_worth P l0 l1 l2 l5 (l3 / 100) (sm_rem l3 100) (l4 / 100) (sm_rem l4 100) I) fun y16 =>
            some (y16.1, y16.2))
          else
            (Option.bind (fM_finds P l0 ((-1000001)) I) fun y17 =>
            some (y17.1, y17.2))))))
set_option maxRecDepth 100000 in
theorem AfM_would {dp : Nat} {P : am_Q} {nx : Nat} {sl : Nat} {I : am_M} {l0 : Nat} {l1 : Int32} {l2 : Int32} {l3 : Int32} {l4 : Int32} {l5 : Int32} {y : Int32 × am_M} (hy : fM_would P l0 l1 l2 l3 l4 l5 I = some y) : sm_T (dp + 4) 173 [.inr l0, .inl l1, .inl l2, .inl l3, .inl l4, .inl l5] (I, P, nx, sl) ((sm_g1 P nx sl) y) := by
  refine r_meth (d := am_d173) (dp := dp + 3) (ls0 := [some (.inr l0), some (.inl l1), some (.inl l2), some (.inl l3), some (.inl l4), some (.inl l5)]) rfl (by decide) rfl rfl ?_ hy
  unfold fM_would
  refine r_ck (fun h1 => ?_)
  refine r_aload rfl rfl (am_nz h1) ?_
  refine r_const (x := 0) rfl rfl ?_
  refine r_iload rfl rfl ?_
  refine r_call0 rfl rfl h1 (fun y hy => AfM_isOf (dp := dp + 1) hy) (fun y2 => ?_)
  refine r_if rfl rfl (fun c3 => ?_) (fun c3 => ?_)
  · refine r_aload rfl rfl (am_nz h1) ?_
    refine r_const (x := (-1000001)) rfl rfl ?_
    refine r_call1 rfl rfl h1 (fun y hy => AfM_finds (dp := dp + 2) hy) (fun y4 => ?_)
    exact r_ireturn rfl (Or.inl rfl) rfl
  · refine r_iload rfl rfl ?_
    refine r_const (x := 0) rfl rfl ?_
    refine r_const (x := 3) rfl rfl ?_
    refine r_call0 rfl rfl trivial (fun y hy => AfM_within (dp := dp + 2) hy) (fun y5 => ?_)
    refine r_if rfl rfl (fun c6 => ?_) (fun c6 => ?_)
    · refine r_aload rfl rfl (am_nz h1) ?_
      refine r_const (x := (-1000001)) rfl rfl ?_
      refine r_call1 rfl rfl h1 (fun y hy => AfM_finds (dp := dp + 2) hy) (fun y7 => ?_)
      exact r_ireturn rfl (Or.inl rfl) rfl
    · refine r_aload rfl rfl (am_nz h1) ?_
      refine r_iload rfl rfl ?_
      refine r_call0 rfl rfl h1 (fun y hy => AfM_arePair (dp := dp + 0) hy) (fun y8 => ?_)
      refine r_if rfl rfl (fun c9 => ?_) (fun c9 => ?_)
      · refine r_aload rfl rfl (am_nz h1) ?_
        refine r_const (x := (-1000001)) rfl rfl ?_
        refine r_call1 rfl rfl h1 (fun y hy => AfM_finds (dp := dp + 2) hy) (fun y10 => ?_)
        exact r_ireturn rfl (Or.inl rfl) rfl
      · refine r_aload rfl rfl (am_nz h1) ?_
        refine r_iload rfl rfl ?_
        refine r_call0 rfl rfl h1 (fun y hy => AfM_arePair (dp := dp + 0) hy) (fun y11 => ?_)
        refine r_if rfl rfl (fun c12 => ?_) (fun c12 => ?_)
        · refine r_aload rfl rfl (am_nz h1) ?_
          refine r_const (x := (-1000001)) rfl rfl ?_
          refine r_call1 rfl rfl h1 (fun y hy => AfM_finds (dp := dp + 2) hy) (fun y13 => ?_)
          exact r_ireturn rfl (Or.inl rfl) rfl
        · refine r_iload rfl rfl ?_
          refine r_const (x := 0) rfl rfl ?_
          refine r_const (x := 999) rfl rfl ?_
          refine r_call0 rfl rfl trivial (fun y hy => AfM_within (dp := dp + 2) hy) (fun y14 => ?_)
          refine r_if rfl rfl (fun c15 => ?_) (fun c15 => ?_)
          · refine r_aload rfl rfl (am_nz h1) ?_
            refine r_iload rfl rfl ?_
            refine r_iload rfl rfl ?_
            refine r_iload rfl rfl ?_
            refine r_iload rfl rfl ?_
            refine r_const (x := 100) rfl rfl ?_
            refine r_bin (z := l3 / 100) rfl (sm_dv (by decide)) (by decide) ?_
            refine r_iload rfl rfl ?_
            refine r_const (x := 100) rfl rfl ?_
            refine r_bin (z := sm_rem l3 100) rfl (sm_rv (by decide)) (by decide) ?_
            refine r_iload rfl rfl ?_
            refine r_const (x := 100) rfl rfl ?_
            refine r_bin (z := l4 / 100) rfl (sm_dv (by decide)) (by decide) ?_
            refine r_iload rfl rfl ?_
            refine r_const (x := 100) rfl rfl ?_
            refine r_bin (z := sm_rem l4 100) rfl (sm_rv (by decide)) (by decide) ?_
            refine r_call1 rfl rfl h1 (fun y hy => AfM_worth (dp := dp + 1) hy) (fun y16 => ?_)
            exact r_ireturn rfl (Or.inl rfl) rfl
          · refine r_aload rfl rfl (am_nz h1) ?_
            refine r_const (x := (-1000001)) rfl rfl ?_
            refine r_call1 rfl rfl h1 (fun y hy => AfM_finds (dp := dp + 2) hy) (fun y17 => ?_)
            exact r_ireturn rfl (Or.inl rfl) rfl
noncomputable def fM_isEnd (I : am_M) (P : am_Q) (l0 : Nat) (l1 : Int32) : Option (Int32) :=
  if l1 < 0 then
    (some 0)
  else
    (sm_ck (am_t l0 = 13) <|
    Option.bind (fM_isOf I P l0 0 (l1 / 10)) fun y3 =>
    if y3 = 0 then
      (some 0)
    else
      (if 2 ≤ (sm_rem l1 10) then
        (some 0)
      else
        (some 1)))
set_option maxRecDepth 100000 in
theorem AfM_isEnd {dp : Nat} {I : am_M} {P : am_Q} {nx : Nat} {sl : Nat} {l0 : Nat} {l1 : Int32} {y : Int32} (hy : fM_isEnd I P l0 l1 = some y) : sm_T (dp + 3) 175 [.inr l0, .inl l1] (I, P, nx, sl) ((sm_g0 (I, P, nx, sl)) y) := by
  refine r_meth (d := am_d175) (dp := dp + 2) (ls0 := [some (.inr l0), some (.inl l1)]) rfl (by decide) rfl rfl ?_ hy
  unfold fM_isEnd
  refine r_iload rfl rfl ?_
  refine r_if rfl rfl (fun c1 => ?_) (fun c1 => ?_)
  · refine r_const (x := 0) rfl rfl ?_
    exact r_ireturn rfl (Or.inr ⟨rfl, sm_010⟩) rfl
  · refine r_ck (fun h2 => ?_)
    refine r_aload rfl rfl (am_nz h2) ?_
    refine r_const (x := 0) rfl rfl ?_
    refine r_iload rfl rfl ?_
    refine r_const (x := 10) rfl rfl ?_
    refine r_bin (z := l1 / 10) rfl (sm_dv (by decide)) (by decide) ?_
    refine r_call0 rfl rfl h2 (fun y hy => AfM_isOf (dp := dp + 0) hy) (fun y3 => ?_)
    refine r_if rfl rfl (fun c4 => ?_) (fun c4 => ?_)
    · refine r_const (x := 0) rfl rfl ?_
      exact r_ireturn rfl (Or.inr ⟨rfl, sm_010⟩) rfl
    · refine r_iload rfl rfl ?_
      refine r_const (x := 10) rfl rfl ?_
      refine r_bin (z := sm_rem l1 10) rfl (sm_rv (by decide)) (by decide) ?_
      refine r_const (x := 2) rfl rfl ?_
      refine r_icmp rfl rfl (fun c5 => ?_) (fun c5 => ?_)
      · refine r_const (x := 0) rfl rfl ?_
        exact r_ireturn rfl (Or.inr ⟨rfl, sm_010⟩) rfl
      · refine r_const (x := 1) rfl rfl ?_
        refine r_goto rfl ?_
        exact r_ireturn rfl (Or.inr ⟨rfl, sm_011⟩) rfl
noncomputable def fM_seam (P : am_Q) (l0 : Nat) (l1 : Int32) (l2 : Int32) (I : am_M) : Option (Int32 × am_M) :=
  sm_ck (am_t l0 = 13) <|
  Option.bind (fM_isEnd I P l0 l1) fun y2 =>
  if y2 = 0 then
    (Option.bind (fM_finds P l0 ((-1000001)) I) fun y4 =>
    some (y4.1, y4.2))
  else
    (Option.bind (fM_isEnd I P l0 l2) fun y5 =>
    if ¬ y5 = 0 then
      (Option.bind (fM_seamTo I P l0 (l2 / 10) (sm_rem l2 10)) fun y7 =>
      if y7 < 0 then
        (sm_ck (sm_in (P l0 1) 1) <|
        if ¬ (I (P l0 1) (1 : Int32).toNatClampNeg) = 14 then
          (sm_ck (sm_in (P l0 1) 1) <|
          sm_bd (I (P l0 1) (1 : Int32).toNatClampNeg) fun x12 =>
          sm_ck (sm_iw (P l0 15) x12) <|
          sm_bd (am_up I (P l0 15) x12.toNatClampNeg l1) fun I14 =>
          sm_ck (sm_iw (P l0 16) x12) <|
          sm_bd (am_up I14 (P l0 16) x12.toNatClampNeg l2) fun I16 =>
          sm_ck (sm_iw (P l0 17) x12) <|
          sm_bd (am_up I16 (P l0 17) x12.toNatClampNeg 0) fun I18 =>
          sm_ck (sm_iw (P l0 18) x12) <|
          sm_bd (am_up I18 (P l0 18) x12.toNatClampNeg 0) fun I20 =>
          sm_ck (sm_iw (P l0 19) x12) <|
          sm_bd (am_up I20 (P l0 19) x12.toNatClampNeg 0) fun I22 =>
          sm_ck (sm_iw (P l0 20) x12) <|
          sm_bd (am_up I22 (P l0 20) x12.toNatClampNeg 0) fun I24 =>
          sm_ck (sm_iw (P l0 21) x12) <|
          sm_bd (am_up I24 (P l0 21) x12.toNatClampNeg 0) fun I26 =>
          sm_ck (sm_in (P l0 1) 5) <|
          sm_ck (sm_iw (P l0 22) x12) <|
          sm_bd (am_up I26 (P l0 22) x12.toNatClampNeg ((I26 (P l0 1) (5 : Int32).toNatClampNeg) - 1)) fun I29 =>
          sm_ck (sm_in (P l0 1) 1) <|
          sm_ck (sm_iw (P l0 1) 1) <|
          sm_bd (am_up I29 (P l0 1) (1 : Int32).toNatClampNeg ((I29 (P l0 1) (1 : Int32).toNatClampNeg) + 1)) fun I32 =>
          some (x12, I32))
        else
          (Option.bind (fM_finds P l0 ((-1000002)) I) fun y33 =>
          some (y33.1, y33.2)))
      else
        (Option.bind (fM_finds P l0 ((-1000005)) I) fun y34 =>
        some (y34.1, y34.2)))
    else
      (Option.bind (fM_finds P l0 ((-1000001)) I) fun y35 =>
      some (y35.1, y35.2)))
set_option maxRecDepth 100000 in
theorem AfM_seam {dp : Nat} {P : am_Q} {nx : Nat} {sl : Nat} {I : am_M} {l0 : Nat} {l1 : Int32} {l2 : Int32} {y : Int32 × am_M} (hy : fM_seam P l0 l1 l2 I = some y) : sm_T (dp + 4) 174 [.inr l0, .inl l1, .inl l2] (I, P, nx, sl) ((sm_g1 P nx sl) y) := by
  refine r_meth (d := am_d174) (dp := dp + 3) (ls0 := [some (.inr l0), some (.inl l1), some (.inl l2), none]) rfl (by decide) rfl rfl ?_ hy
  unfold fM_seam
  refine r_ck (fun h1 => ?_)
  refine r_aload rfl rfl (am_nz h1) ?_
  refine r_iload rfl rfl ?_
  refine r_call0 rfl rfl h1 (fun y hy => AfM_isEnd (dp := dp + 0) hy) (fun y2 => ?_)
  refine r_if rfl rfl (fun c3 => ?_) (fun c3 => ?_)
  · refine r_aload rfl rfl (am_nz h1) ?_
    refine r_const (x := (-1000001)) rfl rfl ?_
    refine r_call1 rfl rfl h1 (fun y hy => AfM_finds (dp := dp + 2) hy) (fun y4 => ?_)
    exact r_ireturn rfl (Or.inl rfl) rfl
  · refine r_aload rfl rfl (am_nz h1) ?_
    refine r_iload rfl rfl ?_
    refine r_call0 rfl rfl h1 (fun y hy => AfM_isEnd (dp := dp + 0) hy) (fun y5 => ?_)
    refine r_if rfl rfl (fun c6 => ?_) (fun c6 => ?_)
    · refine r_aload rfl rfl (am_nz h1) ?_
      refine r_iload rfl rfl ?_
      refine r_const (x := 10) rfl rfl ?_
      refine r_bin (z := l2 / 10) rfl (sm_dv (by decide)) (by decide) ?_
      refine r_iload rfl rfl ?_
      refine r_const (x := 10) rfl rfl ?_
      refine r_bin (z := sm_rem l2 10) rfl (sm_rv (by decide)) (by decide) ?_
      refine r_call0 rfl rfl h1 (fun y hy => AfM_seamTo (dp := dp + 2) hy) (fun y7 => ?_)
      refine r_if rfl rfl (fun c8 => ?_) (fun c8 => ?_)
      · refine r_aload rfl rfl (am_nz h1) ?_
        refine r_getP rfl h1 ?_
        refine r_const (x := 1) rfl rfl ?_
        refine r_ck (fun h9 => ?_)
        refine r_iald rfl h9 ?_
        refine r_const (x := 14) rfl rfl ?_
        refine r_icmp rfl rfl (fun c10 => ?_) (fun c10 => ?_)
        · refine r_aload rfl rfl (am_nz h1) ?_
          refine r_getP rfl h1 ?_
          refine r_const (x := 1) rfl rfl ?_
          refine r_ck (fun h11 => ?_)
          refine r_iald rfl h11 ?_
          refine r_bd (fun x12 => ?_)
          refine r_istore (ls' := [some (.inr l0), some (.inl l1), some (.inl l2), some (.inl x12)]) rfl (Nat.le_of_ble_eq_true rfl) rfl ?_
          refine r_aload rfl rfl (am_nz h1) ?_
          refine r_getP rfl h1 ?_
          refine r_iload rfl rfl ?_
          refine r_iload rfl rfl ?_
          refine r_ck (fun h13 => ?_)
          refine r_iast rfl h13 (fun I14 => ?_)
          refine r_aload rfl rfl (am_nz h1) ?_
          refine r_getP rfl h1 ?_
          refine r_iload rfl rfl ?_
          refine r_iload rfl rfl ?_
          refine r_ck (fun h15 => ?_)
          refine r_iast rfl h15 (fun I16 => ?_)
          refine r_aload rfl rfl (am_nz h1) ?_
          refine r_getP rfl h1 ?_
          refine r_iload rfl rfl ?_
          refine r_const (x := 0) rfl rfl ?_
          refine r_ck (fun h17 => ?_)
          refine r_iast rfl h17 (fun I18 => ?_)
          refine r_aload rfl rfl (am_nz h1) ?_
          refine r_getP rfl h1 ?_
          refine r_iload rfl rfl ?_
          refine r_const (x := 0) rfl rfl ?_
          refine r_ck (fun h19 => ?_)
          refine r_iast rfl h19 (fun I20 => ?_)
          refine r_aload rfl rfl (am_nz h1) ?_
          refine r_getP rfl h1 ?_
          refine r_iload rfl rfl ?_
          refine r_const (x := 0) rfl rfl ?_
          refine r_ck (fun h21 => ?_)
          refine r_iast rfl h21 (fun I22 => ?_)
          refine r_aload rfl rfl (am_nz h1) ?_
          refine r_getP rfl h1 ?_
          refine r_iload rfl rfl ?_
          refine r_const (x := 0) rfl rfl ?_
          refine r_ck (fun h23 => ?_)
          refine r_iast rfl h23 (fun I24 => ?_)
          refine r_aload rfl rfl (am_nz h1) ?_
          refine r_getP rfl h1 ?_
          refine r_iload rfl rfl ?_
          refine r_const (x := 0) rfl rfl ?_
          refine r_ck (fun h25 => ?_)
          refine r_iast rfl h25 (fun I26 => ?_)
          refine r_aload rfl rfl (am_nz h1) ?_
          refine r_getP rfl h1 ?_
          refine r_iload rfl rfl ?_
          refine r_aload rfl rfl (am_nz h1) ?_
          refine r_getP rfl h1 ?_
          refine r_const (x := 5) rfl rfl ?_
          refine r_ck (fun h27 => ?_)
          refine r_iald rfl h27 ?_
          refine r_const (x := 1) rfl rfl ?_
          refine r_bin (z := (I26 (P l0 1) (5 : Int32).toNatClampNeg) - 1) rfl rfl (by decide) ?_
          refine r_ck (fun h28 => ?_)
          refine r_iast rfl h28 (fun I29 => ?_)
          refine r_aload rfl rfl (am_nz h1) ?_
          refine r_getP rfl h1 ?_
          refine r_const (x := 1) rfl rfl ?_
          refine r_dup2 rfl ?_
          refine r_ck (fun h30 => ?_)
          refine r_iald rfl h30 ?_
          refine r_const (x := 1) rfl rfl ?_
          refine r_bin (z := (I29 (P l0 1) (1 : Int32).toNatClampNeg) + 1) rfl rfl (by decide) ?_
          refine r_ck (fun h31 => ?_)
          refine r_iast rfl h31 (fun I32 => ?_)
          refine r_iload rfl rfl ?_
          exact r_ireturn rfl (Or.inl rfl) rfl
        · refine r_aload rfl rfl (am_nz h1) ?_
          refine r_const (x := (-1000002)) rfl rfl ?_
          refine r_call1 rfl rfl h1 (fun y hy => AfM_finds (dp := dp + 2) hy) (fun y33 => ?_)
          exact r_ireturn rfl (Or.inl rfl) rfl
      · refine r_aload rfl rfl (am_nz h1) ?_
        refine r_const (x := (-1000005)) rfl rfl ?_
        refine r_call1 rfl rfl h1 (fun y hy => AfM_finds (dp := dp + 2) hy) (fun y34 => ?_)
        exact r_ireturn rfl (Or.inl rfl) rfl
    · refine r_aload rfl rfl (am_nz h1) ?_
      refine r_const (x := (-1000001)) rfl rfl ?_
      refine r_call1 rfl rfl h1 (fun y hy => AfM_finds (dp := dp + 2) hy) (fun y35 => ?_)
      exact r_ireturn rfl (Or.inl rfl) rfl
noncomputable def fM_seamIs (P : am_Q) (l0 : Nat) (l1 : Int32) (l2 : Int32) (I : am_M) : Option (Int32 × am_M) :=
  sm_ck (am_t l0 = 13) <|
  Option.bind (fM_isOf I P l0 1 l1) fun y2 =>
  if ¬ y2 = 0 then
    (if l2 = 0 then
      (sm_ck (sm_in (P l0 15) l1) <|
      some (I (P l0 15) l1.toNatClampNeg, I))
    else if l2 = 1 then
      (sm_ck (sm_in (P l0 16) l1) <|
      some (I (P l0 16) l1.toNatClampNeg, I))
    else if l2 = 2 then
      (sm_ck (sm_in (P l0 17) l1) <|
      some (I (P l0 17) l1.toNatClampNeg, I))
    else if l2 = 3 then
      (sm_ck (sm_in (P l0 18) l1) <|
      some (I (P l0 18) l1.toNatClampNeg, I))
    else if l2 = 4 then
      (sm_ck (sm_in (P l0 19) l1) <|
      some (I (P l0 19) l1.toNatClampNeg, I))
    else if l2 = 5 then
      (sm_ck (sm_in (P l0 20) l1) <|
      some (I (P l0 20) l1.toNatClampNeg, I))
    else if l2 = 6 then
      (sm_ck (sm_in (P l0 21) l1) <|
      some (I (P l0 21) l1.toNatClampNeg, I))
    else if l2 = 7 then
      (sm_ck (sm_in (P l0 22) l1) <|
      some (I (P l0 22) l1.toNatClampNeg, I))
    else (
      Option.bind (fM_finds P l0 ((-1000001)) I) fun y20 =>
      some (y20.1, y20.2)))
  else
    (Option.bind (fM_finds P l0 ((-1000001)) I) fun y21 =>
    some (y21.1, y21.2))
set_option maxRecDepth 100000 in
theorem AfM_seamIs {dp : Nat} {P : am_Q} {nx : Nat} {sl : Nat} {I : am_M} {l0 : Nat} {l1 : Int32} {l2 : Int32} {y : Int32 × am_M} (hy : fM_seamIs P l0 l1 l2 I = some y) : sm_T (dp + 3) 176 [.inr l0, .inl l1, .inl l2] (I, P, nx, sl) ((sm_g1 P nx sl) y) := by
  refine r_meth (d := am_d176) (dp := dp + 2) (ls0 := [some (.inr l0), some (.inl l1), some (.inl l2)]) rfl (by decide) rfl rfl ?_ hy
  unfold fM_seamIs
  refine r_ck (fun h1 => ?_)
  refine r_aload rfl rfl (am_nz h1) ?_
  refine r_const (x := 1) rfl rfl ?_
  refine r_iload rfl rfl ?_
  refine r_call0 rfl rfl h1 (fun y hy => AfM_isOf (dp := dp + 0) hy) (fun y2 => ?_)
  refine r_if rfl rfl (fun c3 => ?_) (fun c3 => ?_)
  · refine r_iload rfl rfl ?_
    refine r_ite (fun c4 => ?_) (fun c4 => ?_)
    · refine r_tabE (t := 64) rfl c4 (by decide) ?_
      refine r_aload rfl rfl (am_nz h1) ?_
      refine r_getP rfl h1 ?_
      refine r_iload rfl rfl ?_
      refine r_ck (fun h5 => ?_)
      refine r_iald rfl h5 ?_
      exact r_ireturn rfl (Or.inl rfl) rfl
    refine r_ite (fun c6 => ?_) (fun c6 => ?_)
    · refine r_tabE (t := 71) rfl c6 (by decide) ?_
      refine r_aload rfl rfl (am_nz h1) ?_
      refine r_getP rfl h1 ?_
      refine r_iload rfl rfl ?_
      refine r_ck (fun h7 => ?_)
      refine r_iald rfl h7 ?_
      exact r_ireturn rfl (Or.inl rfl) rfl
    refine r_ite (fun c8 => ?_) (fun c8 => ?_)
    · refine r_tabE (t := 78) rfl c8 (by decide) ?_
      refine r_aload rfl rfl (am_nz h1) ?_
      refine r_getP rfl h1 ?_
      refine r_iload rfl rfl ?_
      refine r_ck (fun h9 => ?_)
      refine r_iald rfl h9 ?_
      exact r_ireturn rfl (Or.inl rfl) rfl
    refine r_ite (fun c10 => ?_) (fun c10 => ?_)
    · refine r_tabE (t := 85) rfl c10 (by decide) ?_
      refine r_aload rfl rfl (am_nz h1) ?_
      refine r_getP rfl h1 ?_
      refine r_iload rfl rfl ?_
      refine r_ck (fun h11 => ?_)
      refine r_iald rfl h11 ?_
      exact r_ireturn rfl (Or.inl rfl) rfl
    refine r_ite (fun c12 => ?_) (fun c12 => ?_)
    · refine r_tabE (t := 92) rfl c12 (by decide) ?_
      refine r_aload rfl rfl (am_nz h1) ?_
      refine r_getP rfl h1 ?_
      refine r_iload rfl rfl ?_
      refine r_ck (fun h13 => ?_)
      refine r_iald rfl h13 ?_
      exact r_ireturn rfl (Or.inl rfl) rfl
    refine r_ite (fun c14 => ?_) (fun c14 => ?_)
    · refine r_tabE (t := 99) rfl c14 (by decide) ?_
      refine r_aload rfl rfl (am_nz h1) ?_
      refine r_getP rfl h1 ?_
      refine r_iload rfl rfl ?_
      refine r_ck (fun h15 => ?_)
      refine r_iald rfl h15 ?_
      exact r_ireturn rfl (Or.inl rfl) rfl
    refine r_ite (fun c16 => ?_) (fun c16 => ?_)
    · refine r_tabE (t := 106) rfl c16 (by decide) ?_
      refine r_aload rfl rfl (am_nz h1) ?_
      refine r_getP rfl h1 ?_
      refine r_iload rfl rfl ?_
      refine r_ck (fun h17 => ?_)
      refine r_iald rfl h17 ?_
      exact r_ireturn rfl (Or.inl rfl) rfl
    refine r_ite (fun c18 => ?_) (fun c18 => ?_)
    · refine r_tabE (t := 113) rfl c18 (by decide) ?_
      refine r_aload rfl rfl (am_nz h1) ?_
      refine r_getP rfl h1 ?_
      refine r_iload rfl rfl ?_
      refine r_ck (fun h19 => ?_)
      refine r_iald rfl h19 ?_
      exact r_ireturn rfl (Or.inl rfl) rfl
    refine r_tabD rfl ⟨c4, c6, c8, c10, c12, c14, c16, c18, trivial⟩ ?_
    refine r_aload rfl rfl (am_nz h1) ?_
    refine r_const (x := (-1000001)) rfl rfl ?_
    refine r_call1 rfl rfl h1 (fun y hy => AfM_finds (dp := dp + 1) hy) (fun y20 => ?_)
    exact r_ireturn rfl (Or.inl rfl) rfl
  · refine r_aload rfl rfl (am_nz h1) ?_
    refine r_const (x := (-1000001)) rfl rfl ?_
    refine r_call1 rfl rfl h1 (fun y hy => AfM_finds (dp := dp + 1) hy) (fun y21 => ?_)
    exact r_ireturn rfl (Or.inl rfl) rfl
