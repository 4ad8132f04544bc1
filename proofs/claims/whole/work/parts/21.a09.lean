noncomputable def fM_say (P : am_Q) (l0 : Nat) (l1 : Int32) (l2 : Int32) (l3 : Int32) (I : am_M) : Option (Int32 × am_M) :=
  sm_ck (am_t l0 = 13) <|
  Option.bind (fM_isOf I P l0 1 l1) fun y2 =>
  if y2 = 0 then
    (Option.bind (fM_finds P l0 ((-1000001)) I) fun y4 =>
    some (y4.1, y4.2))
  else
    (Option.bind (fM_isPart I P l0 l2) fun y5 =>
    if y5 = 0 then
      (Option.bind (fM_finds P l0 ((-1000001)) I) fun y7 =>
      some (y7.1, y7.2))
    else
      (Option.bind (fM_isPart I P l0 l3) fun y8 =>
      if y8 = 0 then
        (Option.bind (fM_finds P l0 ((-1000001)) I) fun y10 =>
        some (y10.1, y10.2))
      else
        (if l2 ≤ l3 then
          (sm_ck (sm_iw (P l0 21) l1) <|
          sm_bd (am_up I (P l0 21) l1.toNatClampNeg l2) fun I13 =>
          sm_ck (sm_iw (P l0 22) l1) <|
          sm_bd (am_up I13 (P l0 22) l1.toNatClampNeg l3) fun I15 =>
          some (1, I15))
        else
          (Option.bind (fM_finds P l0 ((-1000001)) I) fun y16 =>
          some (y16.1, y16.2)))))
set_option maxRecDepth 100000 in
theorem AfM_say {dp : Nat} {P : am_Q} {nx : Nat} {sl : Nat} {I : am_M} {l0 : Nat} {l1 : Int32} {l2 : Int32} {l3 : Int32} {y : Int32 × am_M} (hy : fM_say P l0 l1 l2 l3 I = some y) : sm_T (dp + 3) 177 [.inr l0, .inl l1, .inl l2, .inl l3] (I, P, nx, sl) ((sm_g1 P nx sl) y) := by
  refine r_meth (d := am_d177) (dp := dp + 2) (ls0 := [some (.inr l0), some (.inl l1), some (.inl l2), some (.inl l3)]) rfl (by decide) rfl rfl ?_ hy
  unfold fM_say
  refine r_ck (fun h1 => ?_)
  refine r_aload rfl rfl (am_nz h1) ?_
  refine r_const (x := 1) rfl rfl ?_
  refine r_iload rfl rfl ?_
  refine r_call0 rfl rfl h1 (fun y hy => AfM_isOf (dp := dp + 0) hy) (fun y2 => ?_)
  refine r_if rfl rfl (fun c3 => ?_) (fun c3 => ?_)
  · refine r_aload rfl rfl (am_nz h1) ?_
    refine r_const (x := (-1000001)) rfl rfl ?_
    refine r_call1 rfl rfl h1 (fun y hy => AfM_finds (dp := dp + 1) hy) (fun y4 => ?_)
    exact r_ireturn rfl (Or.inl rfl) rfl
  · refine r_aload rfl rfl (am_nz h1) ?_
    refine r_iload rfl rfl ?_
    refine r_call0 rfl rfl h1 (fun y hy => AfM_isPart (dp := dp + 0) hy) (fun y5 => ?_)
    refine r_if rfl rfl (fun c6 => ?_) (fun c6 => ?_)
    · refine r_aload rfl rfl (am_nz h1) ?_
      refine r_const (x := (-1000001)) rfl rfl ?_
      refine r_call1 rfl rfl h1 (fun y hy => AfM_finds (dp := dp + 1) hy) (fun y7 => ?_)
      exact r_ireturn rfl (Or.inl rfl) rfl
    · refine r_aload rfl rfl (am_nz h1) ?_
      refine r_iload rfl rfl ?_
      refine r_call0 rfl rfl h1 (fun y hy => AfM_isPart (dp := dp + 0) hy) (fun y8 => ?_)
      refine r_if rfl rfl (fun c9 => ?_) (fun c9 => ?_)
      · refine r_aload rfl rfl (am_nz h1) ?_
        refine r_const (x := (-1000001)) rfl rfl ?_
        refine r_call1 rfl rfl h1 (fun y hy => AfM_finds (dp := dp + 1) hy) (fun y10 => ?_)
        exact r_ireturn rfl (Or.inl rfl) rfl
      · refine r_iload rfl rfl ?_
        refine r_iload rfl rfl ?_
        refine r_icmp rfl rfl (fun c11 => ?_) (fun c11 => ?_)
        · refine r_aload rfl rfl (am_nz h1) ?_
          refine r_getP rfl h1 ?_
          refine r_iload rfl rfl ?_
          refine r_iload rfl rfl ?_
          refine r_ck (fun h12 => ?_)
          refine r_iast rfl h12 (fun I13 => ?_)
          refine r_aload rfl rfl (am_nz h1) ?_
          refine r_getP rfl h1 ?_
          refine r_iload rfl rfl ?_
          refine r_iload rfl rfl ?_
          refine r_ck (fun h14 => ?_)
          refine r_iast rfl h14 (fun I15 => ?_)
          refine r_const (x := 1) rfl rfl ?_
          exact r_ireturn rfl (Or.inl rfl) rfl
        · refine r_aload rfl rfl (am_nz h1) ?_
          refine r_const (x := (-1000001)) rfl rfl ?_
          refine r_call1 rfl rfl h1 (fun y hy => AfM_finds (dp := dp + 1) hy) (fun y16 => ?_)
          exact r_ireturn rfl (Or.inl rfl) rfl
noncomputable def fM_guess (P : am_Q) (l0 : Nat) (l1 : Int32) (I : am_M) : Option (Int32 × am_M) :=
  Option.bind (fM_within l1 0 2) fun y1 =>
  if ¬ y1 = 0 then
    (sm_ck (am_t l0 = 13) <|
    sm_ck (sm_in (P l0 1) 6) <|
    sm_bd (I (P l0 1) (6 : Int32).toNatClampNeg) fun x5 =>
    sm_ck (sm_iw (P l0 1) 6) <|
    sm_bd (am_up I (P l0 1) (6 : Int32).toNatClampNeg l1) fun I7 =>
    some (x5, I7))
  else
    (sm_ck (am_t l0 = 13) <|
    Option.bind (fM_finds P l0 ((-1000001)) I) fun y9 =>
    some (y9.1, y9.2))
set_option maxRecDepth 100000 in
theorem AfM_guess {dp : Nat} {P : am_Q} {nx : Nat} {sl : Nat} {I : am_M} {l0 : Nat} {l1 : Int32} {y : Int32 × am_M} (hy : fM_guess P l0 l1 I = some y) : sm_T (dp + 2) 178 [.inr l0, .inl l1] (I, P, nx, sl) ((sm_g1 P nx sl) y) := by
  refine r_meth (d := am_d178) (dp := dp + 1) (ls0 := [some (.inr l0), some (.inl l1), none]) rfl (by decide) rfl rfl ?_ hy
  unfold fM_guess
  refine r_iload rfl rfl ?_
  refine r_const (x := 0) rfl rfl ?_
  refine r_const (x := 2) rfl rfl ?_
  refine r_call0 rfl rfl trivial (fun y hy => AfM_within (dp := dp + 0) hy) (fun y1 => ?_)
  refine r_if rfl rfl (fun c2 => ?_) (fun c2 => ?_)
  · refine r_ck (fun h3 => ?_)
    refine r_aload rfl rfl (am_nz h3) ?_
    refine r_getP rfl h3 ?_
    refine r_const (x := 6) rfl rfl ?_
    refine r_ck (fun h4 => ?_)
    refine r_iald rfl h4 ?_
    refine r_bd (fun x5 => ?_)
    refine r_istore (ls' := [some (.inr l0), some (.inl l1), some (.inl x5)]) rfl (Nat.le_of_ble_eq_true rfl) rfl ?_
    refine r_aload rfl rfl (am_nz h3) ?_
    refine r_getP rfl h3 ?_
    refine r_const (x := 6) rfl rfl ?_
    refine r_iload rfl rfl ?_
    refine r_ck (fun h6 => ?_)
    refine r_iast rfl h6 (fun I7 => ?_)
    refine r_iload rfl rfl ?_
    exact r_ireturn rfl (Or.inl rfl) rfl
  · refine r_ck (fun h8 => ?_)
    refine r_aload rfl rfl (am_nz h8) ?_
    refine r_const (x := (-1000001)) rfl rfl ?_
    refine r_call1 rfl rfl h8 (fun y hy => AfM_finds (dp := dp + 0) hy) (fun y9 => ?_)
    exact r_ireturn rfl (Or.inl rfl) rfl
noncomputable def fM_guessFor (I : am_M) (P : am_Q) (l0 : Nat) (l1 : Int32) : Option (Int32) :=
  sm_ck (am_t l0 = 13) <|
  sm_ck (sm_in (P l0 1) 6) <|
  if ¬ (I (P l0 1) (6 : Int32).toNatClampNeg) = 0 then
    (sm_ck (sm_in (P l0 1) 6) <|
    if ¬ (I (P l0 1) (6 : Int32).toNatClampNeg) = 1 then
      (sm_ck (sm_in (P l0 17) l1) <|
      sm_ck (sm_in (P l0 18) l1) <|
      sm_ck (sm_in (P l0 19) l1) <|
      Option.bind (fM_part I P l0 (((3 * (I (P l0 17) l1.toNatClampNeg)) - (3 * (I (P l0 18) l1.toNatClampNeg))) + (I (P l0 19) l1.toNatClampNeg))) fun y9 =>
      some y9)
    else
      (sm_ck (sm_in (P l0 17) l1) <|
      sm_ck (sm_in (P l0 18) l1) <|
      Option.bind (fM_part I P l0 ((2 * (I (P l0 17) l1.toNatClampNeg)) - (I (P l0 18) l1.toNatClampNeg))) fun y12 =>
      some y12))
  else
    (sm_ck (sm_in (P l0 17) l1) <|
    some (I (P l0 17) l1.toNatClampNeg))
set_option maxRecDepth 100000 in
theorem AfM_guessFor {dp : Nat} {I : am_M} {P : am_Q} {nx : Nat} {sl : Nat} {l0 : Nat} {l1 : Int32} {y : Int32} (hy : fM_guessFor I P l0 l1 = some y) : sm_T (dp + 2) 180 [.inr l0, .inl l1] (I, P, nx, sl) ((sm_g0 (I, P, nx, sl)) y) := by
  refine r_meth (d := am_d180) (dp := dp + 1) (ls0 := [some (.inr l0), some (.inl l1)]) rfl (by decide) rfl rfl ?_ hy
  unfold fM_guessFor
  refine r_ck (fun h1 => ?_)
  refine r_aload rfl rfl (am_nz h1) ?_
  refine r_getP rfl h1 ?_
  refine r_const (x := 6) rfl rfl ?_
  refine r_ck (fun h2 => ?_)
  refine r_iald rfl h2 ?_
  refine r_if rfl rfl (fun c3 => ?_) (fun c3 => ?_)
  · refine r_aload rfl rfl (am_nz h1) ?_
    refine r_getP rfl h1 ?_
    refine r_const (x := 6) rfl rfl ?_
    refine r_ck (fun h4 => ?_)
    refine r_iald rfl h4 ?_
    refine r_const (x := 1) rfl rfl ?_
    refine r_icmp rfl rfl (fun c5 => ?_) (fun c5 => ?_)
    · refine r_aload rfl rfl (am_nz h1) ?_
      refine r_const (x := 3) rfl rfl ?_
      refine r_aload rfl rfl (am_nz h1) ?_
      refine r_getP rfl h1 ?_
      refine r_iload rfl rfl ?_
      refine r_ck (fun h6 => ?_)
      refine r_iald rfl h6 ?_
      refine r_bin (z := 3 * (I (P l0 17) l1.toNatClampNeg)) rfl rfl (by decide) ?_
      refine r_const (x := 3) rfl rfl ?_
      refine r_aload rfl rfl (am_nz h1) ?_
      refine r_getP rfl h1 ?_
      refine r_iload rfl rfl ?_
      refine r_ck (fun h7 => ?_)
      refine r_iald rfl h7 ?_
      refine r_bin (z := 3 * (I (P l0 18) l1.toNatClampNeg)) rfl rfl (by decide) ?_
      refine r_bin (z := (3 * (I (P l0 17) l1.toNatClampNeg)) - (3 * (I (P l0 18) l1.toNatClampNeg))) rfl rfl (by decide) ?_
      refine r_aload rfl rfl (am_nz h1) ?_
      refine r_getP rfl h1 ?_
      refine r_iload rfl rfl ?_
      refine r_ck (fun h8 => ?_)
      refine r_iald rfl h8 ?_
      refine r_bin (z := ((3 * (I (P l0 17) l1.toNatClampNeg)) - (3 * (I (P l0 18) l1.toNatClampNeg))) + (I (P l0 19) l1.toNatClampNeg)) rfl rfl (by decide) ?_
      refine r_call0 rfl rfl h1 (fun y hy => AfM_part (dp := dp + 0) hy) (fun y9 => ?_)
      exact r_ireturn rfl (Or.inl rfl) rfl
    · refine r_aload rfl rfl (am_nz h1) ?_
      refine r_const (x := 2) rfl rfl ?_
      refine r_aload rfl rfl (am_nz h1) ?_
      refine r_getP rfl h1 ?_
      refine r_iload rfl rfl ?_
      refine r_ck (fun h10 => ?_)
      refine r_iald rfl h10 ?_
      refine r_bin (z := 2 * (I (P l0 17) l1.toNatClampNeg)) rfl rfl (by decide) ?_
      refine r_aload rfl rfl (am_nz h1) ?_
      refine r_getP rfl h1 ?_
      refine r_iload rfl rfl ?_
      refine r_ck (fun h11 => ?_)
      refine r_iald rfl h11 ?_
      refine r_bin (z := (2 * (I (P l0 17) l1.toNatClampNeg)) - (I (P l0 18) l1.toNatClampNeg)) rfl rfl (by decide) ?_
      refine r_call0 rfl rfl h1 (fun y hy => AfM_part (dp := dp + 0) hy) (fun y12 => ?_)
      refine r_goto rfl ?_
      exact r_ireturn rfl (Or.inl rfl) rfl
  · refine r_aload rfl rfl (am_nz h1) ?_
    refine r_getP rfl h1 ?_
    refine r_iload rfl rfl ?_
    refine r_ck (fun h13 => ?_)
    refine r_iald rfl h13 ?_
    refine r_goto rfl ?_
    exact r_ireturn rfl (Or.inl rfl) rfl
noncomputable def fM_guessed (P : am_Q) (l0 : Nat) (l1 : Int32) (I : am_M) : Option (Int32 × am_M) :=
  sm_ck (am_t l0 = 13) <|
  Option.bind (fM_isOf I P l0 1 l1) fun y2 =>
  if y2 = 0 then
    (Option.bind (fM_finds P l0 ((-1000001)) I) fun y4 =>
    some (y4.1, y4.2))
  else
    (Option.bind (fM_guessFor I P l0 l1) fun y5 =>
    some (y5, I))
set_option maxRecDepth 100000 in
theorem AfM_guessed {dp : Nat} {P : am_Q} {nx : Nat} {sl : Nat} {I : am_M} {l0 : Nat} {l1 : Int32} {y : Int32 × am_M} (hy : fM_guessed P l0 l1 I = some y) : sm_T (dp + 3) 179 [.inr l0, .inl l1] (I, P, nx, sl) ((sm_g1 P nx sl) y) := by
  refine r_meth (d := am_d179) (dp := dp + 2) (ls0 := [some (.inr l0), some (.inl l1)]) rfl (by decide) rfl rfl ?_ hy
  unfold fM_guessed
  refine r_ck (fun h1 => ?_)
  refine r_aload rfl rfl (am_nz h1) ?_
  refine r_const (x := 1) rfl rfl ?_
  refine r_iload rfl rfl ?_
  refine r_call0 rfl rfl h1 (fun y hy => AfM_isOf (dp := dp + 0) hy) (fun y2 => ?_)
  refine r_if rfl rfl (fun c3 => ?_) (fun c3 => ?_)
  · refine r_aload rfl rfl (am_nz h1) ?_
    refine r_const (x := (-1000001)) rfl rfl ?_
    refine r_call1 rfl rfl h1 (fun y hy => AfM_finds (dp := dp + 1) hy) (fun y4 => ?_)
    exact r_ireturn rfl (Or.inl rfl) rfl
  · refine r_aload rfl rfl (am_nz h1) ?_
    refine r_iload rfl rfl ?_
    refine r_call0 rfl rfl h1 (fun y hy => AfM_guessFor (dp := dp + 0) hy) (fun y5 => ?_)
    refine r_goto rfl ?_
    exact r_ireturn rfl (Or.inl rfl) rfl
noncomputable def fM_names_J83 (I : am_M) (P : am_Q) (r24 : Nat → Int32 → Int32 → Int32 → Int32 → Int32 → Option (Int32)) (l0 : Nat) (l1 : Int32) (l2 : Int32) (l4 : Int32) (l5 : Int32) (s0 : Int32) : Option (Int32) :=
  sm_bd (l5 + 1) fun x9 =>
  r24 l0 l1 l2 s0 l4 x9
set_option maxRecDepth 100000 in
theorem AfM_names_J83 {dp : Nat} {I : am_M} {P : am_Q} {nx : Nat} {sl : Nat} {r24 : Nat → Int32 → Int32 → Int32 → Int32 → Int32 → Option (Int32)} (hr24 : ∀ (l0 : Nat) (l1 : Int32) (l2 : Int32) (l3 : Int32) (l4 : Int32) (l5 : Int32), sm (dp + 0) am_d183 24 [some (.inr l0), some (.inl l1), some (.inl l2), some (.inl l3), some (.inl l4), some (.inl l5)] [] (I, P, nx, sl) (sm_g0 (I, P, nx, sl)) (r24 l0 l1 l2 l3 l4 l5)) (l0 : Nat) (l1 : Int32) (l2 : Int32) (l4 : Int32) (l5 : Int32) (s0 : Int32) (o3 : Option am_V) : sm (dp + 0) am_d183 83 [some (.inr l0), some (.inl l1), some (.inl l2), o3, some (.inl l4), some (.inl l5)] [.inl s0] (I, P, nx, sl) (sm_g0 (I, P, nx, sl)) (fM_names_J83 I P r24 l0 l1 l2 l4 l5 s0) := by
  unfold fM_names_J83
  refine r_istore (ls' := [some (.inr l0), some (.inl l1), some (.inl l2), some (.inl s0), some (.inl l4), some (.inl l5)]) rfl (Nat.le_of_ble_eq_true rfl) rfl ?_
  refine r_iinc (e := l5 + 1) (ls' := fun x9 => [some (.inr l0), some (.inl l1), some (.inl l2), some (.inl s0), some (.inl l4), some (.inl x9)]) rfl rfl rfl (fun _ => rfl) (fun x9 => ?_)
  refine r_goto rfl ?_
  exact hr24 l0 l1 l2 s0 l4 x9
noncomputable def fM_names_J78 (I : am_M) (P : am_Q) (r24 : Nat → Int32 → Int32 → Int32 → Int32 → Int32 → Option (Int32)) (l0 : Nat) (l1 : Int32) (l2 : Int32) (l4 : Int32) (l5 : Int32) : Option (Int32) :=
  fM_names_J83 I P r24 l0 l1 l2 l4 l5 1
set_option maxRecDepth 100000 in
theorem AfM_names_J78 {dp : Nat} {I : am_M} {P : am_Q} {nx : Nat} {sl : Nat} {r24 : Nat → Int32 → Int32 → Int32 → Int32 → Int32 → Option (Int32)} (hr24 : ∀ (l0 : Nat) (l1 : Int32) (l2 : Int32) (l3 : Int32) (l4 : Int32) (l5 : Int32), sm (dp + 0) am_d183 24 [some (.inr l0), some (.inl l1), some (.inl l2), some (.inl l3), some (.inl l4), some (.inl l5)] [] (I, P, nx, sl) (sm_g0 (I, P, nx, sl)) (r24 l0 l1 l2 l3 l4 l5)) (l0 : Nat) (l1 : Int32) (l2 : Int32) (l4 : Int32) (l5 : Int32) (o3 : Option am_V) : sm (dp + 0) am_d183 78 [some (.inr l0), some (.inl l1), some (.inl l2), o3, some (.inl l4), some (.inl l5)] [] (I, P, nx, sl) (sm_g0 (I, P, nx, sl)) (fM_names_J78 I P r24 l0 l1 l2 l4 l5) := by
  unfold fM_names_J78
  refine r_const (x := 1) rfl rfl ?_
  refine r_goto rfl ?_
  exact AfM_names_J83 hr24 l0 l1 l2 l4 l5 1 o3
noncomputable def fM_names_J82 (I : am_M) (P : am_Q) (r24 : Nat → Int32 → Int32 → Int32 → Int32 → Int32 → Option (Int32)) (l0 : Nat) (l1 : Int32) (l2 : Int32) (l4 : Int32) (l5 : Int32) : Option (Int32) :=
  fM_names_J83 I P r24 l0 l1 l2 l4 l5 0
set_option maxRecDepth 100000 in
theorem AfM_names_J82 {dp : Nat} {I : am_M} {P : am_Q} {nx : Nat} {sl : Nat} {r24 : Nat → Int32 → Int32 → Int32 → Int32 → Int32 → Option (Int32)} (hr24 : ∀ (l0 : Nat) (l1 : Int32) (l2 : Int32) (l3 : Int32) (l4 : Int32) (l5 : Int32), sm (dp + 0) am_d183 24 [some (.inr l0), some (.inl l1), some (.inl l2), some (.inl l3), some (.inl l4), some (.inl l5)] [] (I, P, nx, sl) (sm_g0 (I, P, nx, sl)) (r24 l0 l1 l2 l3 l4 l5)) (l0 : Nat) (l1 : Int32) (l2 : Int32) (l4 : Int32) (l5 : Int32) (o3 : Option am_V) : sm (dp + 0) am_d183 82 [some (.inr l0), some (.inl l1), some (.inl l2), o3, some (.inl l4), some (.inl l5)] [] (I, P, nx, sl) (sm_g0 (I, P, nx, sl)) (fM_names_J82 I P r24 l0 l1 l2 l4 l5) := by
  unfold fM_names_J82
  refine r_const (x := 0) rfl rfl ?_
  exact AfM_names_J83 hr24 l0 l1 l2 l4 l5 0 o3
noncomputable def fM_names_B24 (I : am_M) (P : am_Q) (e24_90 : Nat → Int32 → Int32 → Int32 → Int32 → Option (Int32)) (r24 : Nat → Int32 → Int32 → Int32 → Int32 → Int32 → Option (Int32)) (l0 : Nat) (l1 : Int32) (l2 : Int32) (l3 : Int32) (l4 : Int32) (l5 : Int32) : Option (Int32) :=
  sm_ck (am_t l0 = 13) <|
  sm_ck (sm_in (P l0 12) ((4 * l1) + l4)) <|
  if (I (P l0 12) ((4 * l1) + l4).toNatClampNeg) ≤ l5 then
    (e24_90 l0 l1 l2 l3 l4)
  else
    (if ¬ l3 = 0 then
      (fM_names_J78 I P r24 l0 l1 l2 l4 l5)
    else
      (sm_ck (sm_in (P l0 13) ((80 * l1) + l5)) <|
      if ¬ (I (P l0 13) ((80 * l1) + l5).toNatClampNeg) = 1 then
        (fM_names_J82 I P r24 l0 l1 l2 l4 l5)
      else
        (sm_ck (sm_in (P l0 14) ((80 * l1) + l5)) <|
        if ¬ (I (P l0 14) ((80 * l1) + l5).toNatClampNeg) = (2 + l2) then
          (fM_names_J82 I P r24 l0 l1 l2 l4 l5)
        else
          (fM_names_J78 I P r24 l0 l1 l2 l4 l5))))
set_option maxRecDepth 100000 in
theorem AfM_names_B24 {dp : Nat} {I : am_M} {P : am_Q} {nx : Nat} {sl : Nat} {e24_90 : Nat → Int32 → Int32 → Int32 → Int32 → Option (Int32)} {r24 : Nat → Int32 → Int32 → Int32 → Int32 → Int32 → Option (Int32)} (he24_90 : ∀ (l0 : Nat) (l1 : Int32) (l2 : Int32) (l3 : Int32) (l4 : Int32) (o5 : Option am_V), sm (dp + 0) am_d183 90 [some (.inr l0), some (.inl l1), some (.inl l2), some (.inl l3), some (.inl l4), o5] [] (I, P, nx, sl) (sm_g0 (I, P, nx, sl)) (e24_90 l0 l1 l2 l3 l4)) (hr24 : ∀ (l0 : Nat) (l1 : Int32) (l2 : Int32) (l3 : Int32) (l4 : Int32) (l5 : Int32), sm (dp + 0) am_d183 24 [some (.inr l0), some (.inl l1), some (.inl l2), some (.inl l3), some (.inl l4), some (.inl l5)] [] (I, P, nx, sl) (sm_g0 (I, P, nx, sl)) (r24 l0 l1 l2 l3 l4 l5)) (l0 : Nat) (l1 : Int32) (l2 : Int32) (l3 : Int32) (l4 : Int32) (l5 : Int32) : sm (dp + 0) am_d183 24 [some (.inr l0), some (.inl l1), some (.inl l2), some (.inl l3), some (.inl l4), some (.inl l5)] [] (I, P, nx, sl) (sm_g0 (I, P, nx, sl)) (fM_names_B24 I P e24_90 r24 l0 l1 l2 l3 l4 l5) := by
  unfold fM_names_B24
  refine r_iload rfl rfl ?_
  refine r_ck (fun h5 => ?_)
  refine r_aload rfl rfl (am_nz h5) ?_
  refine r_getP rfl h5 ?_
  refine r_const (x := 4) rfl rfl ?_
  refine r_iload rfl rfl ?_
  refine r_bin (z := 4 * l1) rfl rfl (by decide) ?_
  refine r_iload rfl rfl ?_
  refine r_bin (z := (4 * l1) + l4) rfl rfl (by decide) ?_
  refine r_ck (fun h6 => ?_)
  refine r_iald rfl h6 ?_
  refine r_icmp rfl rfl (fun c7 => ?_) (fun c7 => ?_)
  · exact he24_90 l0 l1 l2 l3 l4 (some (.inl l5))
  · refine r_iload rfl rfl ?_
    refine r_if rfl rfl (fun c8 => ?_) (fun c8 => ?_)
    · exact AfM_names_J78 hr24 l0 l1 l2 l4 l5 (some (.inl l3))
    · refine r_aload rfl rfl (am_nz h5) ?_
      refine r_getP rfl h5 ?_
      refine r_const (x := 80) rfl rfl ?_
      refine r_iload rfl rfl ?_
      refine r_bin (z := 80 * l1) rfl rfl (by decide) ?_
      refine r_iload rfl rfl ?_
      refine r_bin (z := (80 * l1) + l5) rfl rfl (by decide) ?_
      refine r_ck (fun h10 => ?_)
      refine r_iald rfl h10 ?_
      refine r_const (x := 1) rfl rfl ?_
      refine r_icmp rfl rfl (fun c11 => ?_) (fun c11 => ?_)
      · exact AfM_names_J82 hr24 l0 l1 l2 l4 l5 (some (.inl l3))
      · refine r_aload rfl rfl (am_nz h5) ?_
        refine r_getP rfl h5 ?_
        refine r_const (x := 80) rfl rfl ?_
        refine r_iload rfl rfl ?_
        refine r_bin (z := 80 * l1) rfl rfl (by decide) ?_
        refine r_iload rfl rfl ?_
        refine r_bin (z := (80 * l1) + l5) rfl rfl (by decide) ?_
        refine r_ck (fun h12 => ?_)
        refine r_iald rfl h12 ?_
        refine r_const (x := 2) rfl rfl ?_
        refine r_iload rfl rfl ?_
        refine r_bin (z := 2 + l2) rfl rfl (by decide) ?_
        refine r_icmp rfl rfl (fun c13 => ?_) (fun c13 => ?_)
        · exact AfM_names_J82 hr24 l0 l1 l2 l4 l5 (some (.inl l3))
        · exact AfM_names_J78 hr24 l0 l1 l2 l4 l5 (some (.inl l3))
noncomputable def fM_names_L24 (I : am_M) (P : am_Q) (e24_90 : Nat → Int32 → Int32 → Int32 → Int32 → Option (Int32)) : Nat → Nat → Int32 → Int32 → Int32 → Int32 → Int32 → Option (Int32)
  | 0, _, _, _, _, _, _ => none
  | n + 1, l0, l1, l2, l3, l4, l5 => fM_names_B24 I P e24_90 (fM_names_L24 I P e24_90 n) l0 l1 l2 l3 l4 l5
theorem AfM_names_L24 {dp : Nat} {I : am_M} {P : am_Q} {nx : Nat} {sl : Nat} {e24_90 : Nat → Int32 → Int32 → Int32 → Int32 → Option (Int32)} (he24_90 : ∀ (l0 : Nat) (l1 : Int32) (l2 : Int32) (l3 : Int32) (l4 : Int32) (o5 : Option am_V), sm (dp + 0) am_d183 90 [some (.inr l0), some (.inl l1), some (.inl l2), some (.inl l3), some (.inl l4), o5] [] (I, P, nx, sl) (sm_g0 (I, P, nx, sl)) (e24_90 l0 l1 l2 l3 l4)) (n : Nat) : ∀ (l0 : Nat) (l1 : Int32) (l2 : Int32) (l3 : Int32) (l4 : Int32) (l5 : Int32), sm (dp + 0) am_d183 24 [some (.inr l0), some (.inl l1), some (.inl l2), some (.inl l3), some (.inl l4), some (.inl l5)] [] (I, P, nx, sl) (sm_g0 (I, P, nx, sl)) (fM_names_L24 I P e24_90 n l0 l1 l2 l3 l4 l5) := by
  induction n with
  | zero => intro l0 l1 l2 l3 l4 l5; exact sm_none
  | succ n ih => intro l0 l1 l2 l3 l4 l5; exact AfM_names_B24 he24_90 ih l0 l1 l2 l3 l4 l5
noncomputable def fM_names_B5 (I : am_M) (P : am_Q) (e5_96 : Int32 → Option (Int32)) (r5 : Nat → Int32 → Int32 → Int32 → Int32 → Option (Int32)) (l0 : Nat) (l1 : Int32) (l2 : Int32) (l3 : Int32) (l4 : Int32) : Option (Int32) :=
  if 4 ≤ l4 then
    (e5_96 l3)
  else
    (sm_ck (am_t l0 = 13) <|
    sm_ck (sm_in (P l0 11) ((4 * l1) + l4)) <|
    sm_bd (I (P l0 11) ((4 * l1) + l4).toNatClampNeg) fun x4 =>
    fM_names_L24 I P (fun l0 l1 l2 l3 l4 =>
        sm_bd (l4 + 1) fun x14 =>
        r5 l0 l1 l2 l3 x14) sm_fu l0 l1 l2 l3 l4 x4)
set_option maxRecDepth 100000 in
theorem AfM_names_B5 {dp : Nat} {I : am_M} {P : am_Q} {nx : Nat} {sl : Nat} {e5_96 : Int32 → Option (Int32)} {r5 : Nat → Int32 → Int32 → Int32 → Int32 → Option (Int32)} (he5_96 : ∀ (l3 : Int32) (o0 : Option am_V) (o1 : Option am_V) (o2 : Option am_V) (o4 : Option am_V) (o5 : Option am_V), sm (dp + 0) am_d183 96 [o0, o1, o2, some (.inl l3), o4, o5] [] (I, P, nx, sl) (sm_g0 (I, P, nx, sl)) (e5_96 l3)) (hr5 : ∀ (l0 : Nat) (l1 : Int32) (l2 : Int32) (l3 : Int32) (l4 : Int32) (o5 : Option am_V), sm (dp + 0) am_d183 5 [some (.inr l0), some (.inl l1), some (.inl l2), some (.inl l3), some (.inl l4), o5] [] (I, P, nx, sl) (sm_g0 (I, P, nx, sl)) (r5 l0 l1 l2 l3 l4)) (l0 : Nat) (l1 : Int32) (l2 : Int32) (l3 : Int32) (l4 : Int32) (o5 : Option am_V) : sm (dp + 0) am_d183 5 [some (.inr l0), some (.inl l1), some (.inl l2), some (.inl l3), some (.inl l4), o5] [] (I, P, nx, sl) (sm_g0 (I, P, nx, sl)) (fM_names_B5 I P e5_96 r5 l0 l1 l2 l3 l4) := by
  unfold fM_names_B5
  refine r_iload rfl rfl ?_
  refine r_const (x := 4) rfl rfl ?_
  refine r_icmp rfl rfl (fun c1 => ?_) (fun c1 => ?_)
  · exact he5_96 l3 (some (.inr l0)) (some (.inl l1)) (some (.inl l2)) (some (.inl l4)) o5
  · refine r_ck (fun h2 => ?_)
    refine r_aload rfl rfl (am_nz h2) ?_
    refine r_getP rfl h2 ?_
    refine r_const (x := 4) rfl rfl ?_
    refine r_iload rfl rfl ?_
    refine r_bin (z := 4 * l1) rfl rfl (by decide) ?_
    refine r_iload rfl rfl ?_
    refine r_bin (z := (4 * l1) + l4) rfl rfl (by decide) ?_
    refine r_ck (fun h3 => ?_)
    refine r_iald rfl h3 ?_
    refine r_bd (fun x4 => ?_)
    refine r_istore (ls' := [some (.inr l0), some (.inl l1), some (.inl l2), some (.inl l3), some (.inl l4), some (.inl x4)]) rfl (Nat.le_of_ble_eq_true rfl) rfl ?_
    refine AfM_names_L24 ?_ sm_fu l0 l1 l2 l3 l4 x4
    · intro l0 l1 l2 l3 l4 o5
      refine r_iinc (e := l4 + 1) (ls' := fun x14 => [some (.inr l0), some (.inl l1), some (.inl l2), some (.inl l3), some (.inl x14), o5]) rfl rfl rfl (fun _ => rfl) (fun x14 => ?_)
      refine r_goto rfl ?_
      exact hr5 l0 l1 l2 l3 x14 o5
noncomputable def fM_names_L5 (I : am_M) (P : am_Q) (e5_96 : Int32 → Option (Int32)) : Nat → Nat → Int32 → Int32 → Int32 → Int32 → Option (Int32)
  | 0, _, _, _, _, _ => none
  | n + 1, l0, l1, l2, l3, l4 => fM_names_B5 I P e5_96 (fM_names_L5 I P e5_96 n) l0 l1 l2 l3 l4
theorem AfM_names_L5 {dp : Nat} {I : am_M} {P : am_Q} {nx : Nat} {sl : Nat} {e5_96 : Int32 → Option (Int32)} (he5_96 : ∀ (l3 : Int32) (o0 : Option am_V) (o1 : Option am_V) (o2 : Option am_V) (o4 : Option am_V) (o5 : Option am_V), sm (dp + 0) am_d183 96 [o0, o1, o2, some (.inl l3), o4, o5] [] (I, P, nx, sl) (sm_g0 (I, P, nx, sl)) (e5_96 l3)) (n : Nat) : ∀ (l0 : Nat) (l1 : Int32) (l2 : Int32) (l3 : Int32) (l4 : Int32) (o5 : Option am_V), sm (dp + 0) am_d183 5 [some (.inr l0), some (.inl l1), some (.inl l2), some (.inl l3), some (.inl l4), o5] [] (I, P, nx, sl) (sm_g0 (I, P, nx, sl)) (fM_names_L5 I P e5_96 n l0 l1 l2 l3 l4) := by
  induction n with
  | zero => intro l0 l1 l2 l3 l4 o5; exact sm_none
  | succ n ih => intro l0 l1 l2 l3 l4 o5; exact AfM_names_B5 he5_96 ih l0 l1 l2 l3 l4 o5
noncomputable def fM_names (I : am_M) (P : am_Q) (l0 : Nat) (l1 : Int32) (l2 : Int32) : Option (Int32) :=
  fM_names_L5 I P (fun l3 =>
      sm_ck (sm_01 l3) <|
      some l3) sm_fu l0 l1 l2 0 2
set_option maxRecDepth 100000 in
theorem AfM_names {dp : Nat} {I : am_M} {P : am_Q} {nx : Nat} {sl : Nat} {l0 : Nat} {l1 : Int32} {l2 : Int32} {y : Int32} (hy : fM_names I P l0 l1 l2 = some y) : sm_T (dp + 1) 183 [.inr l0, .inl l1, .inl l2] (I, P, nx, sl) ((sm_g0 (I, P, nx, sl)) y) := by
  refine r_meth (d := am_d183) (dp := dp + 0) (ls0 := [some (.inr l0), some (.inl l1), some (.inl l2), none, none, none]) rfl (by decide) rfl rfl ?_ hy
  unfold fM_names
  refine r_const (x := 0) rfl rfl ?_
  refine r_istore (ls' := [some (.inr l0), some (.inl l1), some (.inl l2), some (.inl 0), none, none]) rfl (Nat.le_of_ble_eq_true rfl) rfl ?_
  refine r_const (x := 2) rfl rfl ?_
  refine r_istore (ls' := [some (.inr l0), some (.inl l1), some (.inl l2), some (.inl 0), some (.inl 2), none]) rfl (Nat.le_of_ble_eq_true rfl) rfl ?_
  refine AfM_names_L5 ?_ sm_fu l0 l1 l2 0 2 none
  · intro l3 o0 o1 o2 o4 o5
    refine r_iload rfl rfl ?_
    refine r_ck (fun h15 => ?_)
    exact r_ireturn rfl (Or.inr ⟨rfl, h15⟩) rfl
noncomputable def fM_hangsOn_J58 (I : am_M) (P : am_Q) (r4 : Nat → Int32 → Int32 → Int32 → Option (Int32)) (l0 : Nat) (l1 : Int32) (l2 : Int32) (l3 : Int32) : Option (Int32) :=
  sm_bd (l3 + 1) fun x6 =>
  r4 l0 l1 l2 x6
set_option maxRecDepth 100000 in
theorem AfM_hangsOn_J58 {dp : Nat} {I : am_M} {P : am_Q} {nx : Nat} {sl : Nat} {r4 : Nat → Int32 → Int32 → Int32 → Option (Int32)} (hr4 : ∀ (l0 : Nat) (l1 : Int32) (l2 : Int32) (l3 : Int32), sm (dp + 1) am_d182 4 [some (.inr l0), some (.inl l1), some (.inl l2), some (.inl l3)] [] (I, P, nx, sl) (sm_g0 (I, P, nx, sl)) (r4 l0 l1 l2 l3)) (l0 : Nat) (l1 : Int32) (l2 : Int32) (l3 : Int32) : sm (dp + 1) am_d182 58 [some (.inr l0), some (.inl l1), some (.inl l2), some (.inl l3)] [] (I, P, nx, sl) (sm_g0 (I, P, nx, sl)) (fM_hangsOn_J58 I P r4 l0 l1 l2 l3) := by
  unfold fM_hangsOn_J58
  refine r_iinc (e := l3 + 1) (ls' := fun x6 => [some (.inr l0), some (.inl l1), some (.inl l2), some (.inl x6)]) rfl rfl rfl (fun _ => rfl) (fun x6 => ?_)
  refine r_goto rfl ?_
  exact hr4 l0 l1 l2 x6
noncomputable def fM_hangsOn_B4 (I : am_M) (P : am_Q) (e4_64 : Int32 → Option (Int32)) (r4 : Nat → Int32 → Int32 → Int32 → Option (Int32)) (l0 : Nat) (l1 : Int32) (l2 : Int32) (l3 : Int32) : Option (Int32) :=
  sm_ck (am_t l0 = 13) <|
  sm_ck (sm_in (P l0 1) 1) <|
  if (I (P l0 1) (1 : Int32).toNatClampNeg) ≤ l3 then
    (e4_64 l2)
  else
    (sm_ck (sm_in (P l0 16) l3) <|
    if ¬ ((I (P l0 16) l3.toNatClampNeg) / 10) = l1 then
      (fM_hangsOn_J58 I P r4 l0 l1 l2 l3)
    else
      (sm_ck (sm_in (P l0 16) l3) <|
      Option.bind (fM_names I P l0 l1 (sm_rem (I (P l0 16) l3.toNatClampNeg) 10)) fun y8 =>
      if y8 = 0 then
        (fM_hangsOn_J58 I P r4 l0 l1 l2 l3)
      else
        (sm_ck (sm_in (P l0 15) l3) <|
        sm_bd (l2 ||| (sm_shl 1 ((I (P l0 15) l3.toNatClampNeg) / 10))) fun x11 =>
        fM_hangsOn_J58 I P r4 l0 l1 x11 l3)))
set_option maxRecDepth 100000 in
theorem AfM_hangsOn_B4 {dp : Nat} {I : am_M} {P : am_Q} {nx : Nat} {sl : Nat} {e4_64 : Int32 → Option (Int32)} {r4 : Nat → Int32 → Int32 → Int32 → Option (Int32)} (he4_64 : ∀ (l2 : Int32) (o0 : Option am_V) (o1 : Option am_V) (o3 : Option am_V), sm (dp + 1) am_d182 64 [o0, o1, some (.inl l2), o3] [] (I, P, nx, sl) (sm_g0 (I, P, nx, sl)) (e4_64 l2)) (hr4 : ∀ (l0 : Nat) (l1 : Int32) (l2 : Int32) (l3 : Int32), sm (dp + 1) am_d182 4 [some (.inr l0), some (.inl l1), some (.inl l2), some (.inl l3)] [] (I, P, nx, sl) (sm_g0 (I, P, nx, sl)) (r4 l0 l1 l2 l3)) (l0 : Nat) (l1 : Int32) (l2 : Int32) (l3 : Int32) : sm (dp + 1) am_d182 4 [some (.inr l0), some (.inl l1), some (.inl l2), some (.inl l3)] [] (I, P, nx, sl) (sm_g0 (I, P, nx, sl)) (fM_hangsOn_B4 I P e4_64 r4 l0 l1 l2 l3) := by
  unfold fM_hangsOn_B4
  refine r_iload rfl rfl ?_
  refine r_ck (fun h1 => ?_)
  refine r_aload rfl rfl (am_nz h1) ?_
  refine r_getP rfl h1 ?_
  refine r_const (x := 1) rfl rfl ?_
  refine r_ck (fun h2 => ?_)
  refine r_iald rfl h2 ?_
  refine r_icmp rfl rfl (fun c3 => ?_) (fun c3 => ?_)
  · exact he4_64 l2 (some (.inr l0)) (some (.inl l1)) (some (.inl l3))
  · refine r_aload rfl rfl (am_nz h1) ?_
    refine r_getP rfl h1 ?_
    refine r_iload rfl rfl ?_
    refine r_ck (fun h4 => ?_)
    refine r_iald rfl h4 ?_
    refine r_const (x := 10) rfl rfl ?_
    refine r_bin (z := (I (P l0 16) l3.toNatClampNeg) / 10) rfl (sm_dv (by decide)) (by decide) ?_
    refine r_iload rfl rfl ?_
    refine r_icmp rfl rfl (fun c5 => ?_) (fun c5 => ?_)
    · exact AfM_hangsOn_J58 hr4 l0 l1 l2 l3
    · refine r_aload rfl rfl (am_nz h1) ?_
      refine r_iload rfl rfl ?_
      refine r_aload rfl rfl (am_nz h1) ?_
      refine r_getP rfl h1 ?_
      refine r_iload rfl rfl ?_
      refine r_ck (fun h7 => ?_)
      refine r_iald rfl h7 ?_
      refine r_const (x := 10) rfl rfl ?_
      refine r_bin (z := sm_rem (I (P l0 16) l3.toNatClampNeg) 10) rfl (sm_rv (by decide)) (by decide) ?_
      refine r_call0 rfl rfl h1 (fun y hy => AfM_names (dp := dp + 0) hy) (fun y8 => ?_)
      refine r_if rfl rfl (fun c9 => ?_) (fun c9 => ?_)
      · exact AfM_hangsOn_J58 hr4 l0 l1 l2 l3
      · refine r_iload rfl rfl ?_
        refine r_const (x := 1) rfl rfl ?_
        refine r_aload rfl rfl (am_nz h1) ?_
        refine r_getP rfl h1 ?_
        refine r_iload rfl rfl ?_
        refine r_ck (fun h10 => ?_)
        refine r_iald rfl h10 ?_
        refine r_const (x := 10) rfl rfl ?_
        refine r_bin (z := (I (P l0 15) l3.toNatClampNeg) / 10) rfl (sm_dv (by decide)) (by decide) ?_
        refine r_bin (z := sm_shl 1 ((I (P l0 15) l3.toNatClampNeg) / 10)) rfl rfl (by decide) ?_
        refine r_bin (z := l2 ||| (sm_shl 1 ((I (P l0 15) l3.toNatClampNeg) / 10))) rfl rfl (by decide) ?_
        refine r_bd (fun x11 => ?_)
        refine r_istore (ls' := [some (.inr l0), some (.inl l1), some (.inl x11), some (.inl l3)]) rfl (Nat.le_of_ble_eq_true rfl) rfl ?_
        exact AfM_hangsOn_J58 hr4 l0 l1 x11 l3
noncomputable def fM_hangsOn_L4 (I : am_M) (P : am_Q) (e4_64 : Int32 → Option (Int32)) : Nat → Nat → Int32 → Int32 → Int32 → Option (Int32)
  | 0, _, _, _, _ => none
  | n + 1, l0, l1, l2, l3 => fM_hangsOn_B4 I P e4_64 (fM_hangsOn_L4 I P e4_64 n) l0 l1 l2 l3
theorem AfM_hangsOn_L4 {dp : Nat} {I : am_M} {P : am_Q} {nx : Nat} {sl : Nat} {e4_64 : Int32 → Option (Int32)} (he4_64 : ∀ (l2 : Int32) (o0 : Option am_V) (o1 : Option am_V) (o3 : Option am_V), sm (dp + 1) am_d182 64 [o0, o1, some (.inl l2), o3] [] (I, P, nx, sl) (sm_g0 (I, P, nx, sl)) (e4_64 l2)) (n : Nat) : ∀ (l0 : Nat) (l1 : Int32) (l2 : Int32) (l3 : Int32), sm (dp + 1) am_d182 4 [some (.inr l0), some (.inl l1), some (.inl l2), some (.inl l3)] [] (I, P, nx, sl) (sm_g0 (I, P, nx, sl)) (fM_hangsOn_L4 I P e4_64 n l0 l1 l2 l3) := by
  induction n with
  | zero => intro l0 l1 l2 l3; exact sm_none
  | succ n ih => intro l0 l1 l2 l3; exact AfM_hangsOn_B4 he4_64 ih l0 l1 l2 l3
noncomputable def fM_hangsOn (I : am_M) (P : am_Q) (l0 : Nat) (l1 : Int32) : Option (Int32) :=
  fM_hangsOn_L4 I P (fun l2 =>
      some l2) sm_fu l0 l1 0 0
set_option maxRecDepth 100000 in
theorem AfM_hangsOn {dp : Nat} {I : am_M} {P : am_Q} {nx : Nat} {sl : Nat} {l0 : Nat} {l1 : Int32} {y : Int32} (hy : fM_hangsOn I P l0 l1 = some y) : sm_T (dp + 2) 182 [.inr l0, .inl l1] (I, P, nx, sl) ((sm_g0 (I, P, nx, sl)) y) := by
  refine r_meth (d := am_d182) (dp := dp + 1) (ls0 := [some (.inr l0), some (.inl l1), none, none]) rfl (by decide) rfl rfl ?_ hy
  unfold fM_hangsOn
  refine r_const (x := 0) rfl rfl ?_
  refine r_istore (ls' := [some (.inr l0), some (.inl l1), some (.inl 0), none]) rfl (Nat.le_of_ble_eq_true rfl) rfl ?_
  refine r_const (x := 0) rfl rfl ?_
  refine r_istore (ls' := [some (.inr l0), some (.inl l1), some (.inl 0), some (.inl 0)]) rfl (Nat.le_of_ble_eq_true rfl) rfl ?_
  refine AfM_hangsOn_L4 ?_ sm_fu l0 l1 0 0
  · intro l2 o0 o1 o3
    refine r_iload rfl rfl ?_
    exact r_ireturn rfl (Or.inl rfl) rfl
noncomputable def fM_hangs (P : am_Q) (l0 : Nat) (l1 : Int32) (I : am_M) : Option (Int32 × am_M) :=
  sm_ck (am_t l0 = 13) <|
  Option.bind (fM_isOf I P l0 0 l1) fun y2 =>
  if y2 = 0 then
    (Option.bind (fM_finds P l0 ((-1000001)) I) fun y4 =>
    some (y4.1, y4.2))
  else
    (Option.bind (fM_hangsOn I P l0 l1) fun y5 =>
    some (y5, I))
set_option maxRecDepth 100000 in
theorem AfM_hangs {dp : Nat} {P : am_Q} {nx : Nat} {sl : Nat} {I : am_M} {l0 : Nat} {l1 : Int32} {y : Int32 × am_M} (hy : fM_hangs P l0 l1 I = some y) : sm_T (dp + 3) 181 [.inr l0, .inl l1] (I, P, nx, sl) ((sm_g1 P nx sl) y) := by
  refine r_meth (d := am_d181) (dp := dp + 2) (ls0 := [some (.inr l0), some (.inl l1)]) rfl (by decide) rfl rfl ?_ hy
  unfold fM_hangs
  refine r_ck (fun h1 => ?_)
  refine r_aload rfl rfl (am_nz h1) ?_
  refine r_const (x := 0) rfl rfl ?_
  refine r_iload rfl rfl ?_
  refine r_call0 rfl rfl h1 (fun y hy => AfM_isOf (dp := dp + 0) hy) (fun y2 => ?_)
  refine r_if rfl rfl (fun c3 => ?_) (fun c3 => ?_)
  · refine r_aload rfl rfl (am_nz h1) ?_
    refine r_const (x := (-1000001)) rfl rfl ?_
    refine r_call1 rfl rfl h1 (fun y hy => AfM_finds (dp := dp + 1) hy) (fun y4 => ?_)
    exact r_ireturn rfl (Or.inl rfl) rfl
  · refine r_aload rfl rfl (am_nz h1) ?_
    refine r_iload rfl rfl ?_
    refine r_call0 rfl rfl h1 (fun y hy => AfM_hangsOn (dp := dp + 0) hy) (fun y5 => ?_)
    refine r_goto rfl ?_
    exact r_ireturn rfl (Or.inl rfl) rfl
noncomputable def fM_allOn_J50 (I : am_M) (P : am_Q) (r18 : Nat → Int32 → Int32 → Int32 → Option (Int32)) (l0 : Nat) (l3 : Int32) (l4 : Int32) (s0 : Int32) (s1 : Int32) : Option (Int32) :=
  sm_bd (s1 ||| s0) fun x8 =>
  sm_bd (l4 + 1) fun x9 =>
  r18 l0 x8 l3 x9
set_option maxRecDepth 100000 in
theorem AfM_allOn_J50 {dp : Nat} {I : am_M} {P : am_Q} {nx : Nat} {sl : Nat} {r18 : Nat → Int32 → Int32 → Int32 → Option (Int32)} (hr18 : ∀ (l0 : Nat) (l2 : Int32) (l3 : Int32) (l4 : Int32) (o1 : Option am_V), sm (dp + 2) am_d186 18 [some (.inr l0), o1, some (.inl l2), some (.inl l3), some (.inl l4)] [] (I, P, nx, sl) (sm_g0 (I, P, nx, sl)) (r18 l0 l2 l3 l4)) (l0 : Nat) (l3 : Int32) (l4 : Int32) (s0 : Int32) (s1 : Int32) (o1 : Option am_V) (o2 : Option am_V) : sm (dp + 2) am_d186 50 [some (.inr l0), o1, o2, some (.inl l3), some (.inl l4)] [.inl s0, .inl s1] (I, P, nx, sl) (sm_g0 (I, P, nx, sl)) (fM_allOn_J50 I P r18 l0 l3 l4 s0 s1) := by
  unfold fM_allOn_J50
  refine r_bin (z := s1 ||| s0) rfl rfl (by decide) ?_
  refine r_bd (fun x8 => ?_)
  refine r_istore (ls' := [some (.inr l0), o1, some (.inl x8), some (.inl l3), some (.inl l4)]) rfl (Nat.le_of_ble_eq_true rfl) rfl ?_
  refine r_iinc (e := l4 + 1) (ls' := fun x9 => [some (.inr l0), o1, some (.inl x8), some (.inl l3), some (.inl x9)]) rfl rfl rfl (fun _ => rfl) (fun x9 => ?_)
  refine r_goto rfl ?_
  exact hr18 l0 x8 l3 x9 o1
noncomputable def fM_allOn_B18 (I : am_M) (P : am_Q) (e18_58 : Nat → Int32 → Int32 → Option (Int32)) (r18 : Nat → Int32 → Int32 → Int32 → Option (Int32)) (l0 : Nat) (l2 : Int32) (l3 : Int32) (l4 : Int32) : Option (Int32) :=
  sm_ck (am_t l0 = 13) <|
  sm_ck (sm_in (P l0 1) 0) <|
  if (I (P l0 1) (0 : Int32).toNatClampNeg) ≤ l4 then
    (e18_58 l0 l2 l3)
  else
    (if ¬ ((sm_shr l3 l4) &&& 1) = 1 then
      (fM_allOn_J50 I P r18 l0 l3 l4 0 l2)
    else
      (Option.bind (fM_hangsOn I P l0 l4) fun y10 =>
      fM_allOn_J50 I P r18 l0 l3 l4 y10 l2))
set_option maxRecDepth 100000 in
theorem AfM_allOn_B18 {dp : Nat} {I : am_M} {P : am_Q} {nx : Nat} {sl : Nat} {e18_58 : Nat → Int32 → Int32 → Option (Int32)} {r18 : Nat → Int32 → Int32 → Int32 → Option (Int32)} (he18_58 : ∀ (l0 : Nat) (l2 : Int32) (l3 : Int32) (o1 : Option am_V) (o4 : Option am_V), sm (dp + 2) am_d186 58 [some (.inr l0), o1, some (.inl l2), some (.inl l3), o4] [] (I, P, nx, sl) (sm_g0 (I, P, nx, sl)) (e18_58 l0 l2 l3)) (hr18 : ∀ (l0 : Nat) (l2 : Int32) (l3 : Int32) (l4 : Int32) (o1 : Option am_V), sm (dp + 2) am_d186 18 [some (.inr l0), o1, some (.inl l2), some (.inl l3), some (.inl l4)] [] (I, P, nx, sl) (sm_g0 (I, P, nx, sl)) (r18 l0 l2 l3 l4)) (l0 : Nat) (l2 : Int32) (l3 : Int32) (l4 : Int32) (o1 : Option am_V) : sm (dp + 2) am_d186 18 [some (.inr l0), o1, some (.inl l2), some (.inl l3), some (.inl l4)] [] (I, P, nx, sl) (sm_g0 (I, P, nx, sl)) (fM_allOn_B18 I P e18_58 r18 l0 l2 l3 l4) := by
  unfold fM_allOn_B18
  refine r_iload rfl rfl ?_
  refine r_ck (fun h4 => ?_)
  refine r_aload rfl rfl (am_nz h4) ?_
  refine r_getP rfl h4 ?_
  refine r_const (x := 0) rfl rfl ?_
  refine r_ck (fun h5 => ?_)
  refine r_iald rfl h5 ?_
  refine r_icmp rfl rfl (fun c6 => ?_) (fun c6 => ?_)
  · exact he18_58 l0 l2 l3 o1 (some (.inl l4))
  · refine r_iload rfl rfl ?_
    refine r_iload rfl rfl ?_
    refine r_iload rfl rfl ?_
    refine r_bin (z := sm_shr l3 l4) rfl rfl (by decide) ?_
    refine r_const (x := 1) rfl rfl ?_
    refine r_bin (z := (sm_shr l3 l4) &&& 1) rfl rfl (by decide) ?_
    refine r_const (x := 1) rfl rfl ?_
    refine r_icmp rfl rfl (fun c7 => ?_) (fun c7 => ?_)
    · refine r_const (x := 0) rfl rfl ?_
      exact AfM_allOn_J50 hr18 l0 l3 l4 0 l2 o1 (some (.inl l2))
    · refine r_aload rfl rfl (am_nz h4) ?_
      refine r_iload rfl rfl ?_
      refine r_call0 rfl rfl h4 (fun y hy => AfM_hangsOn (dp := dp + 0) hy) (fun y10 => ?_)
      refine r_goto rfl ?_
      exact AfM_allOn_J50 hr18 l0 l3 l4 y10 l2 o1 (some (.inl l2))
noncomputable def fM_allOn_L18 (I : am_M) (P : am_Q) (e18_58 : Nat → Int32 → Int32 → Option (Int32)) : Nat → Nat → Int32 → Int32 → Int32 → Option (Int32)
  | 0, _, _, _, _ => none
  | n + 1, l0, l2, l3, l4 => fM_allOn_B18 I P e18_58 (fM_allOn_L18 I P e18_58 n) l0 l2 l3 l4
theorem AfM_allOn_L18 {dp : Nat} {I : am_M} {P : am_Q} {nx : Nat} {sl : Nat} {e18_58 : Nat → Int32 → Int32 → Option (Int32)} (he18_58 : ∀ (l0 : Nat) (l2 : Int32) (l3 : Int32) (o1 : Option am_V) (o4 : Option am_V), sm (dp + 2) am_d186 58 [some (.inr l0), o1, some (.inl l2), some (.inl l3), o4] [] (I, P, nx, sl) (sm_g0 (I, P, nx, sl)) (e18_58 l0 l2 l3)) (n : Nat) : ∀ (l0 : Nat) (l2 : Int32) (l3 : Int32) (l4 : Int32) (o1 : Option am_V), sm (dp + 2) am_d186 18 [some (.inr l0), o1, some (.inl l2), some (.inl l3), some (.inl l4)] [] (I, P, nx, sl) (sm_g0 (I, P, nx, sl)) (fM_allOn_L18 I P e18_58 n l0 l2 l3 l4) := by
  induction n with
  | zero => intro l0 l2 l3 l4 o1; exact sm_none
  | succ n ih => intro l0 l2 l3 l4 o1; exact AfM_allOn_B18 he18_58 ih l0 l2 l3 l4 o1
noncomputable def fM_allOn_B8 (I : am_M) (P : am_Q) (e8_61 : Int32 → Option (Int32)) (r8 : Nat → Int32 → Int32 → Option (Int32)) (l0 : Nat) (l2 : Int32) (l3 : Int32) : Option (Int32) :=
  if l3 = l2 then
    (e8_61 l2)
  else
    (fM_allOn_L18 I P (fun l0 l2 l3 =>
        r8 l0 l2 l3) sm_fu l0 l2 l2 0)
set_option maxRecDepth 100000 in
theorem AfM_allOn_B8 {dp : Nat} {I : am_M} {P : am_Q} {nx : Nat} {sl : Nat} {e8_61 : Int32 → Option (Int32)} {r8 : Nat → Int32 → Int32 → Option (Int32)} (he8_61 : ∀ (l2 : Int32) (o0 : Option am_V) (o1 : Option am_V) (o3 : Option am_V) (o4 : Option am_V), sm (dp + 2) am_d186 61 [o0, o1, some (.inl l2), o3, o4] [] (I, P, nx, sl) (sm_g0 (I, P, nx, sl)) (e8_61 l2)) (hr8 : ∀ (l0 : Nat) (l2 : Int32) (l3 : Int32) (o1 : Option am_V) (o4 : Option am_V), sm (dp + 2) am_d186 8 [some (.inr l0), o1, some (.inl l2), some (.inl l3), o4] [] (I, P, nx, sl) (sm_g0 (I, P, nx, sl)) (r8 l0 l2 l3)) (l0 : Nat) (l2 : Int32) (l3 : Int32) (o1 : Option am_V) (o4 : Option am_V) : sm (dp + 2) am_d186 8 [some (.inr l0), o1, some (.inl l2), some (.inl l3), o4] [] (I, P, nx, sl) (sm_g0 (I, P, nx, sl)) (fM_allOn_B8 I P e8_61 r8 l0 l2 l3) := by
  unfold fM_allOn_B8
  refine r_iload rfl rfl ?_
  refine r_iload rfl rfl ?_
  refine r_icmp rfl rfl (fun c3 => ?_) (fun c3 => ?_)
  · exact he8_61 l2 (some (.inr l0)) o1 (some (.inl l3)) o4
  · refine r_iload rfl rfl ?_
    refine r_istore (ls' := [some (.inr l0), o1, some (.inl l2), some (.inl l2), o4]) rfl (Nat.le_of_ble_eq_true rfl) rfl ?_
    refine r_const (x := 0) rfl rfl ?_
    refine r_istore (ls' := [some (.inr l0), o1, some (.inl l2), some (.inl l2), some (.inl 0)]) rfl (Nat.le_of_ble_eq_true rfl) rfl ?_
    refine AfM_allOn_L18 ?_ sm_fu l0 l2 l2 0 o1
    · intro l0 l2 l3 o1 o4
      refine r_goto rfl ?_
      exact hr8 l0 l2 l3 o1 o4
noncomputable def fM_allOn_L8 (I : am_M) (P : am_Q) (e8_61 : Int32 → Option (Int32)) : Nat → Nat → Int32 → Int32 → Option (Int32)
  | 0, _, _, _ => none
  | n + 1, l0, l2, l3 => fM_allOn_B8 I P e8_61 (fM_allOn_L8 I P e8_61 n) l0 l2 l3
theorem AfM_allOn_L8 {dp : Nat} {I : am_M} {P : am_Q} {nx : Nat} {sl : Nat} {e8_61 : Int32 → Option (Int32)} (he8_61 : ∀ (l2 : Int32) (o0 : Option am_V) (o1 : Option am_V) (o3 : Option am_V) (o4 : Option am_V), sm (dp + 2) am_d186 61 [o0, o1, some (.inl l2), o3, o4] [] (I, P, nx, sl) (sm_g0 (I, P, nx, sl)) (e8_61 l2)) (n : Nat) : ∀ (l0 : Nat) (l2 : Int32) (l3 : Int32) (o1 : Option am_V) (o4 : Option am_V), sm (dp + 2) am_d186 8 [some (.inr l0), o1, some (.inl l2), some (.inl l3), o4] [] (I, P, nx, sl) (sm_g0 (I, P, nx, sl)) (fM_allOn_L8 I P e8_61 n l0 l2 l3) := by
  induction n with
  | zero => intro l0 l2 l3 o1 o4; exact sm_none
  | succ n ih => intro l0 l2 l3 o1 o4; exact AfM_allOn_B8 he8_61 ih l0 l2 l3 o1 o4
noncomputable def fM_allOn (I : am_M) (P : am_Q) (l0 : Nat) (l1 : Int32) : Option (Int32) :=
  sm_ck (am_t l0 = 13) <|
  Option.bind (fM_hangsOn I P l0 l1) fun y2 =>
  fM_allOn_L8 I P (fun l2 =>
      some l2) sm_fu l0 y2 0
set_option maxRecDepth 100000 in
theorem AfM_allOn {dp : Nat} {I : am_M} {P : am_Q} {nx : Nat} {sl : Nat} {l0 : Nat} {l1 : Int32} {y : Int32} (hy : fM_allOn I P l0 l1 = some y) : sm_T (dp + 3) 186 [.inr l0, .inl l1] (I, P, nx, sl) ((sm_g0 (I, P, nx, sl)) y) := by
  refine r_meth (d := am_d186) (dp := dp + 2) (ls0 := [some (.inr l0), some (.inl l1), none, none, none]) rfl (by decide) rfl rfl ?_ hy
  unfold fM_allOn
  refine r_ck (fun h1 => ?_)
  refine r_aload rfl rfl (am_nz h1) ?_
  refine r_iload rfl rfl ?_
  refine r_call0 rfl rfl h1 (fun y hy => AfM_hangsOn (dp := dp + 0) hy) (fun y2 => ?_)
  refine r_istore (ls' := [some (.inr l0), some (.inl l1), some (.inl y2), none, none]) rfl (Nat.le_of_ble_eq_true rfl) rfl ?_
  refine r_const (x := 0) rfl rfl ?_
  refine r_istore (ls' := [some (.inr l0), some (.inl l1), some (.inl y2), some (.inl 0), none]) rfl (Nat.le_of_ble_eq_true rfl) rfl ?_
  refine AfM_allOn_L8 ?_ sm_fu l0 y2 0 (some (.inl l1)) none
  · intro l2 o0 o1 o3 o4
    refine r_iload rfl rfl ?_
    exact r_ireturn rfl (Or.inl rfl) rfl
noncomputable def fM_ringOf_J55 (I : am_M) (P : am_Q) (r11 : Nat → Int32 → Int32 → Int32 → Int32 → Option (Int32)) (l0 : Nat) (l1 : Int32) (l3 : Int32) (l4 : Int32) (s0 : Int32) (s1 : Int32) : Option (Int32) :=
  sm_bd (s1 ||| s0) fun x7 =>
  sm_bd (l4 + 1) fun x8 =>
  r11 l0 l1 x7 l3 x8
set_option maxRecDepth 100000 in
theorem AfM_ringOf_J55 {dp : Nat} {I : am_M} {P : am_Q} {nx : Nat} {sl : Nat} {r11 : Nat → Int32 → Int32 → Int32 → Int32 → Option (Int32)} (hr11 : ∀ (l0 : Nat) (l1 : Int32) (l2 : Int32) (l3 : Int32) (l4 : Int32), sm (dp + 3) am_d185 11 [some (.inr l0), some (.inl l1), some (.inl l2), some (.inl l3), some (.inl l4)] [] (I, P, nx, sl) (sm_g0 (I, P, nx, sl)) (r11 l0 l1 l2 l3 l4)) (l0 : Nat) (l1 : Int32) (l3 : Int32) (l4 : Int32) (s0 : Int32) (s1 : Int32) (o2 : Option am_V) : sm (dp + 3) am_d185 55 [some (.inr l0), some (.inl l1), o2, some (.inl l3), some (.inl l4)] [.inl s0, .inl s1] (I, P, nx, sl) (sm_g0 (I, P, nx, sl)) (fM_ringOf_J55 I P r11 l0 l1 l3 l4 s0 s1) := by
  unfold fM_ringOf_J55
  refine r_bin (z := s1 ||| s0) rfl rfl (by decide) ?_
  refine r_bd (fun x7 => ?_)
  refine r_istore (ls' := [some (.inr l0), some (.inl l1), some (.inl x7), some (.inl l3), some (.inl l4)]) rfl (Nat.le_of_ble_eq_true rfl) rfl ?_
  refine r_iinc (e := l4 + 1) (ls' := fun x8 => [some (.inr l0), some (.inl l1), some (.inl x7), some (.inl l3), some (.inl x8)]) rfl rfl rfl (fun _ => rfl) (fun x8 => ?_)
  refine r_goto rfl ?_
  exact hr11 l0 l1 x7 l3 x8
noncomputable def fM_ringOf_J54 (I : am_M) (P : am_Q) (r11 : Nat → Int32 → Int32 → Int32 → Int32 → Option (Int32)) (l0 : Nat) (l1 : Int32) (l3 : Int32) (l4 : Int32) (s0 : Int32) : Option (Int32) :=
  fM_ringOf_J55 I P r11 l0 l1 l3 l4 0 s0
set_option maxRecDepth 100000 in
theorem AfM_ringOf_J54 {dp : Nat} {I : am_M} {P : am_Q} {nx : Nat} {sl : Nat} {r11 : Nat → Int32 → Int32 → Int32 → Int32 → Option (Int32)} (hr11 : ∀ (l0 : Nat) (l1 : Int32) (l2 : Int32) (l3 : Int32) (l4 : Int32), sm (dp + 3) am_d185 11 [some (.inr l0), some (.inl l1), some (.inl l2), some (.inl l3), some (.inl l4)] [] (I, P, nx, sl) (sm_g0 (I, P, nx, sl)) (r11 l0 l1 l2 l3 l4)) (l0 : Nat) (l1 : Int32) (l3 : Int32) (l4 : Int32) (s0 : Int32) (o2 : Option am_V) : sm (dp + 3) am_d185 54 [some (.inr l0), some (.inl l1), o2, some (.inl l3), some (.inl l4)] [.inl s0] (I, P, nx, sl) (sm_g0 (I, P, nx, sl)) (fM_ringOf_J54 I P r11 l0 l1 l3 l4 s0) := by
  unfold fM_ringOf_J54
  refine r_const (x := 0) rfl rfl ?_
  exact AfM_ringOf_J55 hr11 l0 l1 l3 l4 0 s0 o2
noncomputable def fM_ringOf_B11 (I : am_M) (P : am_Q) (e11_63 : Int32 → Option (Int32)) (r11 : Nat → Int32 → Int32 → Int32 → Int32 → Option (Int32)) (l0 : Nat) (l1 : Int32) (l2 : Int32) (l3 : Int32) (l4 : Int32) : Option (Int32) :=
  sm_ck (am_t l0 = 13) <|
  sm_ck (sm_in (P l0 1) 0) <|
  if (I (P l0 1) (0 : Int32).toNatClampNeg) ≤ l4 then
    (e11_63 l2)
  else
    (if ¬ ((sm_shr l3 l4) &&& 1) = 1 then
      (fM_ringOf_J54 I P r11 l0 l1 l3 l4 l2)
    else
      (Option.bind (fM_allOn I P l0 l4) fun y9 =>
      if ¬ ((sm_shr y9 l1) &&& 1) = 1 then
        (fM_ringOf_J54 I P r11 l0 l1 l3 l4 l2)
      else
        (fM_ringOf_J55 I P r11 l0 l1 l3 l4 (sm_shl 1 l4) l2)))
set_option maxRecDepth 100000 in
theorem AfM_ringOf_B11 {dp : Nat} {I : am_M} {P : am_Q} {nx : Nat} {sl : Nat} {e11_63 : Int32 → Option (Int32)} {r11 : Nat → Int32 → Int32 → Int32 → Int32 → Option (Int32)} (he11_63 : ∀ (l2 : Int32) (o0 : Option am_V) (o1 : Option am_V) (o3 : Option am_V) (o4 : Option am_V), sm (dp + 3) am_d185 63 [o0, o1, some (.inl l2), o3, o4] [] (I, P, nx, sl) (sm_g0 (I, P, nx, sl)) (e11_63 l2)) (hr11 : ∀ (l0 : Nat) (l1 : Int32) (l2 : Int32) (l3 : Int32) (l4 : Int32), sm (dp + 3) am_d185 11 [some (.inr l0), some (.inl l1), some (.inl l2), some (.inl l3), some (.inl l4)] [] (I, P, nx, sl) (sm_g0 (I, P, nx, sl)) (r11 l0 l1 l2 l3 l4)) (l0 : Nat) (l1 : Int32) (l2 : Int32) (l3 : Int32) (l4 : Int32) : sm (dp + 3) am_d185 11 [some (.inr l0), some (.inl l1), some (.inl l2), some (.inl l3), some (.inl l4)] [] (I, P, nx, sl) (sm_g0 (I, P, nx, sl)) (fM_ringOf_B11 I P e11_63 r11 l0 l1 l2 l3 l4) := by
  unfold fM_ringOf_B11
  refine r_iload rfl rfl ?_
  refine r_ck (fun h3 => ?_)
  refine r_aload rfl rfl (am_nz h3) ?_
  refine r_getP rfl h3 ?_
  refine r_const (x := 0) rfl rfl ?_
  refine r_ck (fun h4 => ?_)
  refine r_iald rfl h4 ?_
  refine r_icmp rfl rfl (fun c5 => ?_) (fun c5 => ?_)
  · exact he11_63 l2 (some (.inr l0)) (some (.inl l1)) (some (.inl l3)) (some (.inl l4))
  · refine r_iload rfl rfl ?_
    refine r_iload rfl rfl ?_
    refine r_iload rfl rfl ?_
    refine r_bin (z := sm_shr l3 l4) rfl rfl (by decide) ?_
    refine r_const (x := 1) rfl rfl ?_
    refine r_bin (z := (sm_shr l3 l4) &&& 1) rfl rfl (by decide) ?_
    refine r_const (x := 1) rfl rfl ?_
    refine r_icmp rfl rfl (fun c6 => ?_) (fun c6 => ?_)
    · exact AfM_ringOf_J54 hr11 l0 l1 l3 l4 l2 (some (.inl l2))
    · refine r_aload rfl rfl (am_nz h3) ?_
      refine r_iload rfl rfl ?_
      refine r_call0 rfl rfl h3 (fun y hy => AfM_allOn (dp := dp + 0) hy) (fun y9 => ?_)
      refine r_iload rfl rfl ?_
      refine r_bin (z := sm_shr y9 l1) rfl rfl (by decide) ?_
      refine r_const (x := 1) rfl rfl ?_
      refine r_bin (z := (sm_shr y9 l1) &&& 1) rfl rfl (by decide) ?_
      refine r_const (x := 1) rfl rfl ?_
      refine r_icmp rfl rfl (fun c10 => ?_) (fun c10 => ?_)
      · exact AfM_ringOf_J54 hr11 l0 l1 l3 l4 l2 (some (.inl l2))
      · refine r_const (x := 1) rfl rfl ?_
        refine r_iload rfl rfl ?_
        refine r_bin (z := sm_shl 1 l4) rfl rfl (by decide) ?_
        refine r_goto rfl ?_
        exact AfM_ringOf_J55 hr11 l0 l1 l3 l4 (sm_shl 1 l4) l2 (some (.inl l2))
noncomputable def fM_ringOf_L11 (I : am_M) (P : am_Q) (e11_63 : Int32 → Option (Int32)) : Nat → Nat → Int32 → Int32 → Int32 → Int32 → Option (Int32)
  | 0, _, _, _, _, _ => none
  | n + 1, l0, l1, l2, l3, l4 => fM_ringOf_B11 I P e11_63 (fM_ringOf_L11 I P e11_63 n) l0 l1 l2 l3 l4
theorem AfM_ringOf_L11 {dp : Nat} {I : am_M} {P : am_Q} {nx : Nat} {sl : Nat} {e11_63 : Int32 → Option (Int32)} (he11_63 : ∀ (l2 : Int32) (o0 : Option am_V) (o1 : Option am_V) (o3 : Option am_V) (o4 : Option am_V), sm (dp + 3) am_d185 63 [o0, o1, some (.inl l2), o3, o4] [] (I, P, nx, sl) (sm_g0 (I, P, nx, sl)) (e11_63 l2)) (n : Nat) : ∀ (l0 : Nat) (l1 : Int32) (l2 : Int32) (l3 : Int32) (l4 : Int32), sm (dp + 3) am_d185 11 [some (.inr l0), some (.inl l1), some (.inl l2), some (.inl l3), some (.inl l4)] [] (I, P, nx, sl) (sm_g0 (I, P, nx, sl)) (fM_ringOf_L11 I P e11_63 n l0 l1 l2 l3 l4) := by
  induction n with
  | zero => intro l0 l1 l2 l3 l4; exact sm_none
  | succ n ih => intro l0 l1 l2 l3 l4; exact AfM_ringOf_B11 he11_63 ih l0 l1 l2 l3 l4
noncomputable def fM_ringOf (I : am_M) (P : am_Q) (l0 : Nat) (l1 : Int32) : Option (Int32) :=
  sm_ck (am_t l0 = 13) <|
  Option.bind (fM_allOn I P l0 l1) fun y2 =>
  fM_ringOf_L11 I P (fun l2 =>
      some l2) sm_fu l0 l1 0 y2 0
set_option maxRecDepth 100000 in
theorem AfM_ringOf {dp : Nat} {I : am_M} {P : am_Q} {nx : Nat} {sl : Nat} {l0 : Nat} {l1 : Int32} {y : Int32} (hy : fM_ringOf I P l0 l1 = some y) : sm_T (dp + 4) 185 [.inr l0, .inl l1] (I, P, nx, sl) ((sm_g0 (I, P, nx, sl)) y) := by
  refine r_meth (d := am_d185) (dp := dp + 3) (ls0 := [some (.inr l0), some (.inl l1), none, none, none]) rfl (by decide) rfl rfl ?_ hy
  unfold fM_ringOf
  refine r_const (x := 0) rfl rfl ?_
  refine r_istore (ls' := [some (.inr l0), some (.inl l1), some (.inl 0), none, none]) rfl (Nat.le_of_ble_eq_true rfl) rfl ?_
  refine r_ck (fun h1 => ?_)
  refine r_aload rfl rfl (am_nz h1) ?_
  refine r_iload rfl rfl ?_
  refine r_call0 rfl rfl h1 (fun y hy => AfM_allOn (dp := dp + 0) hy) (fun y2 => ?_)
  refine r_istore (ls' := [some (.inr l0), some (.inl l1), some (.inl 0), some (.inl y2), none]) rfl (Nat.le_of_ble_eq_true rfl) rfl ?_
  refine r_const (x := 0) rfl rfl ?_
  refine r_istore (ls' := [some (.inr l0), some (.inl l1), some (.inl 0), some (.inl y2), some (.inl 0)]) rfl (Nat.le_of_ble_eq_true rfl) rfl ?_
  refine AfM_ringOf_L11 ?_ sm_fu l0 l1 0 y2 0
  · intro l2 o0 o1 o3 o4
    refine r_iload rfl rfl ?_
    exact r_ireturn rfl (Or.inl rfl) rfl
noncomputable def fM_ring (P : am_Q) (l0 : Nat) (l1 : Int32) (I : am_M) : Option (Int32 × am_M) :=
  sm_ck (am_t l0 = 13) <|
  Option.bind (fM_isOf I P l0 0 l1) fun y2 =>
  if y2 = 0 then
    (Option.bind (fM_finds P l0 ((-1000001)) I) fun y4 =>
    some (y4.1, y4.2))
  else
    (Option.bind (fM_ringOf I P l0 l1) fun y5 =>
    some (y5, I))
set_option maxRecDepth 100000 in
theorem AfM_ring {dp : Nat} {P : am_Q} {nx : Nat} {sl : Nat} {I : am_M} {l0 : Nat} {l1 : Int32} {y : Int32 × am_M} (hy : fM_ring P l0 l1 I = some y) : sm_T (dp + 5) 184 [.inr l0, .inl l1] (I, P, nx, sl) ((sm_g1 P nx sl) y) := by
  refine r_meth (d := am_d184) (dp := dp + 4) (ls0 := [some (.inr l0), some (.inl l1)]) rfl (by decide) rfl rfl ?_ hy
  unfold fM_ring
  refine r_ck (fun h1 => ?_)
  refine r_aload rfl rfl (am_nz h1) ?_
  refine r_const (x := 0) rfl rfl ?_
  refine r_iload rfl rfl ?_
  refine r_call0 rfl rfl h1 (fun y hy => AfM_isOf (dp := dp + 2) hy) (fun y2 => ?_)
  refine r_if rfl rfl (fun c3 => ?_) (fun c3 => ?_)
  · refine r_aload rfl rfl (am_nz h1) ?_
    refine r_const (x := (-1000001)) rfl rfl ?_
    refine r_call1 rfl rfl h1 (fun y hy => AfM_finds (dp := dp + 3) hy) (fun y4 => ?_)
    exact r_ireturn rfl (Or.inl rfl) rfl
  · refine r_aload rfl rfl (am_nz h1) ?_
    refine r_iload rfl rfl ?_
    refine r_call0 rfl rfl h1 (fun y hy => AfM_ringOf (dp := dp + 0) hy) (fun y5 => ?_)
    refine r_goto rfl ?_
    exact r_ireturn rfl (Or.inl rfl) rfl
noncomputable def fM_takesRing_J71 (P : am_Q) (r7 : Nat → Int32 → Int32 → am_M → Option (am_M)) (l0 : Nat) (l1 : Int32) (l2 : Int32) (I : am_M) : Option (am_M) :=
  sm_bd (l2 + 1) fun x8 =>
  r7 l0 l1 x8 I
set_option maxRecDepth 100000 in
theorem AfM_takesRing_J71 {dp : Nat} {P : am_Q} {nx : Nat} {sl : Nat} {r7 : Nat → Int32 → Int32 → am_M → Option (am_M)} (hr7 : ∀ (l0 : Nat) (l1 : Int32) (l2 : Int32) (I : am_M), sm (dp + 0) am_d188 7 [some (.inr l0), some (.inl l1), some (.inl l2)] [] (I, P, nx, sl) (sm_g2 P nx sl) (r7 l0 l1 l2 I)) (l0 : Nat) (l1 : Int32) (l2 : Int32) (I : am_M) : sm (dp + 0) am_d188 71 [some (.inr l0), some (.inl l1), some (.inl l2)] [] (I, P, nx, sl) (sm_g2 P nx sl) (fM_takesRing_J71 P r7 l0 l1 l2 I) := by
  unfold fM_takesRing_J71
  refine r_iinc (e := l2 + 1) (ls' := fun x8 => [some (.inr l0), some (.inl l1), some (.inl x8)]) rfl rfl rfl (fun _ => rfl) (fun x8 => ?_)
  refine r_goto rfl ?_
  exact hr7 l0 l1 x8 I
noncomputable def fM_takesRing_B7 (P : am_Q) (e7_77 : am_M → Option (am_M)) (r7 : Nat → Int32 → Int32 → am_M → Option (am_M)) (l0 : Nat) (l1 : Int32) (l2 : Int32) (I : am_M) : Option (am_M) :=
  sm_ck (am_t l0 = 13) <|
  sm_ck (sm_in (P l0 1) 1) <|
  if (I (P l0 1) (1 : Int32).toNatClampNeg) ≤ l2 then
    (e7_77 I)
  else
    (sm_ck (sm_in (P l0 15) l2) <|
    if ¬ ((sm_shr l1 ((I (P l0 15) l2.toNatClampNeg) / 10)) &&& 1) = 1 then
      (fM_takesRing_J71 P r7 l0 l1 l2 I)
    else
      (sm_ck (sm_in (P l0 16) l2) <|
      if ¬ ((sm_shr l1 ((I (P l0 16) l2.toNatClampNeg) / 10)) &&& 1) = 1 then
        (fM_takesRing_J71 P r7 l0 l1 l2 I)
      else
        (sm_ck (sm_iw (P l0 41) (I l0 45)) <|
        sm_bd (am_up I (P l0 41) (I l0 45).toNatClampNeg l2) fun I12 =>
        sm_bd (am_up I12 l0 45 ((I12 l0 45) + 1)) fun I13 =>
        fM_takesRing_J71 P r7 l0 l1 l2 I13)))
set_option maxRecDepth 100000 in
theorem AfM_takesRing_B7 {dp : Nat} {P : am_Q} {nx : Nat} {sl : Nat} {e7_77 : am_M → Option (am_M)} {r7 : Nat → Int32 → Int32 → am_M → Option (am_M)} (he7_77 : ∀ (I : am_M) (o0 : Option am_V) (o1 : Option am_V) (o2 : Option am_V), sm (dp + 0) am_d188 77 [o0, o1, o2] [] (I, P, nx, sl) (sm_g2 P nx sl) (e7_77 I)) (hr7 : ∀ (l0 : Nat) (l1 : Int32) (l2 : Int32) (I : am_M), sm (dp + 0) am_d188 7 [some (.inr l0), some (.inl l1), some (.inl l2)] [] (I, P, nx, sl) (sm_g2 P nx sl) (r7 l0 l1 l2 I)) (l0 : Nat) (l1 : Int32) (l2 : Int32) (I : am_M) : sm (dp + 0) am_d188 7 [some (.inr l0), some (.inl l1), some (.inl l2)] [] (I, P, nx, sl) (sm_g2 P nx sl) (fM_takesRing_B7 P e7_77 r7 l0 l1 l2 I) := by
  unfold fM_takesRing_B7
  refine r_iload rfl rfl ?_
  refine r_ck (fun h3 => ?_)
  refine r_aload rfl rfl (am_nz h3) ?_
  refine r_getP rfl h3 ?_
  refine r_const (x := 1) rfl rfl ?_
  refine r_ck (fun h4 => ?_)
  refine r_iald rfl h4 ?_
  refine r_icmp rfl rfl (fun c5 => ?_) (fun c5 => ?_)
  · exact he7_77 I (some (.inr l0)) (some (.inl l1)) (some (.inl l2))
  · refine r_iload rfl rfl ?_
    refine r_aload rfl rfl (am_nz h3) ?_
    refine r_getP rfl h3 ?_
    refine r_iload rfl rfl ?_
    refine r_ck (fun h6 => ?_)
    refine r_iald rfl h6 ?_
    refine r_const (x := 10) rfl rfl ?_
    refine r_bin (z := (I (P l0 15) l2.toNatClampNeg) / 10) rfl (sm_dv (by decide)) (by decide) ?_
    refine r_bin (z := sm_shr l1 ((I (P l0 15) l2.toNatClampNeg) / 10)) rfl rfl (by decide) ?_
    refine r_const (x := 1) rfl rfl ?_
    refine r_bin (z := (sm_shr l1 ((I (P l0 15) l2.toNatClampNeg) / 10)) &&& 1) rfl rfl (by decide) ?_
    refine r_const (x := 1) rfl rfl ?_
    refine r_icmp rfl rfl (fun c7 => ?_) (fun c7 => ?_)
    · exact AfM_takesRing_J71 hr7 l0 l1 l2 I
    · refine r_iload rfl rfl ?_
      refine r_aload rfl rfl (am_nz h3) ?_
      refine r_getP rfl h3 ?_
      refine r_iload rfl rfl ?_
      refine r_ck (fun h9 => ?_)
      refine r_iald rfl h9 ?_
      refine r_const (x := 10) rfl rfl ?_
      refine r_bin (z := (I (P l0 16) l2.toNatClampNeg) / 10) rfl (sm_dv (by decide)) (by decide) ?_
      refine r_bin (z := sm_shr l1 ((I (P l0 16) l2.toNatClampNeg) / 10)) rfl rfl (by decide) ?_
      refine r_const (x := 1) rfl rfl ?_
      refine r_bin (z := (sm_shr l1 ((I (P l0 16) l2.toNatClampNeg) / 10)) &&& 1) rfl rfl (by decide) ?_
      refine r_const (x := 1) rfl rfl ?_
      refine r_icmp rfl rfl (fun c10 => ?_) (fun c10 => ?_)
      · exact AfM_takesRing_J71 hr7 l0 l1 l2 I
      · refine r_aload rfl rfl (am_nz h3) ?_
        refine r_getP rfl h3 ?_
        refine r_aload rfl rfl (am_nz h3) ?_
        refine r_getI rfl h3 ?_
        refine r_iload rfl rfl ?_
        refine r_ck (fun h11 => ?_)
        refine r_iast rfl h11 (fun I12 => ?_)
        refine r_aload rfl rfl (am_nz h3) ?_
        refine r_dup rfl ?_
        refine r_getI rfl h3 ?_
        refine r_const (x := 1) rfl rfl ?_
        refine r_bin (z := (I12 l0 45) + 1) rfl rfl (by decide) ?_
        refine r_putI rfl h3 (fun hz => absurd hz (by decide)) (fun I13 => ?_)
        exact AfM_takesRing_J71 hr7 l0 l1 l2 I13
noncomputable def fM_takesRing_L7 (P : am_Q) (e7_77 : am_M → Option (am_M)) : Nat → Nat → Int32 → Int32 → am_M → Option (am_M)
  | 0, _, _, _, _ => none
  | n + 1, l0, l1, l2, I => fM_takesRing_B7 P e7_77 (fM_takesRing_L7 P e7_77 n) l0 l1 l2 I
theorem AfM_takesRing_L7 {dp : Nat} {P : am_Q} {nx : Nat} {sl : Nat} {e7_77 : am_M → Option (am_M)} (he7_77 : ∀ (I : am_M) (o0 : Option am_V) (o1 : Option am_V) (o2 : Option am_V), sm (dp + 0) am_d188 77 [o0, o1, o2] [] (I, P, nx, sl) (sm_g2 P nx sl) (e7_77 I)) (n : Nat) : ∀ (l0 : Nat) (l1 : Int32) (l2 : Int32) (I : am_M), sm (dp + 0) am_d188 7 [some (.inr l0), some (.inl l1), some (.inl l2)] [] (I, P, nx, sl) (sm_g2 P nx sl) (fM_takesRing_L7 P e7_77 n l0 l1 l2 I) := by
  induction n with
  | zero => intro l0 l1 l2 I; exact sm_none
  | succ n ih => intro l0 l1 l2 I; exact AfM_takesRing_B7 he7_77 ih l0 l1 l2 I
noncomputable def fM_takesRing (P : am_Q) (l0 : Nat) (l1 : Int32) (I : am_M) : Option (am_M) :=
  sm_ck (am_t l0 = 13) <|
  sm_bd (am_up I l0 45 0) fun I2 =>
  fM_takesRing_L7 P (fun I =>
      some I) sm_fu l0 l1 0 I2
set_option maxRecDepth 100000 in
theorem AfM_takesRing {dp : Nat} {P : am_Q} {nx : Nat} {sl : Nat} {I : am_M} {l0 : Nat} {l1 : Int32} {y : am_M} (hy : fM_takesRing P l0 l1 I = some y) : sm_T (dp + 1) 188 [.inr l0, .inl l1] (I, P, nx, sl) ((sm_g2 P nx sl) y) := by
  refine r_meth (d := am_d188) (dp := dp + 0) (ls0 := [some (.inr l0), some (.inl l1), none]) rfl (by decide) rfl rfl ?_ hy
  unfold fM_takesRing
  refine r_ck (fun h1 => ?_)
  refine r_aload rfl rfl (am_nz h1) ?_
  refine r_const (x := 0) rfl rfl ?_
  refine r_putI rfl h1 (fun hz => absurd hz (by decide)) (fun I2 => ?_)
  refine r_const (x := 0) rfl rfl ?_
  refine r_istore (ls' := [some (.inr l0), some (.inl l1), some (.inl 0)]) rfl (Nat.le_of_ble_eq_true rfl) rfl ?_
  refine AfM_takesRing_L7 ?_ sm_fu l0 l1 0 I2
  · intro I o0 o1 o2
    exact r_return rfl rfl
noncomputable def fM_doorOf (l0 : Int32) : Option (Int32) :=
  some ((2 * (l0 / 10)) + (sm_rem l0 10))
set_option maxRecDepth 100000 in
theorem AfM_doorOf {dp : Nat} {S : am_S} {l0 : Int32} {y : Int32} (hy : fM_doorOf l0 = some y) : sm_T (dp + 1) 190 [.inl l0] S ((sm_g0 S) y) := by
  refine r_meth (d := am_d190) (dp := dp + 0) (ls0 := [some (.inl l0)]) rfl (by decide) rfl rfl ?_ hy
  unfold fM_doorOf
  refine r_const (x := 2) rfl rfl ?_
  refine r_iload rfl rfl ?_
  refine r_const (x := 10) rfl rfl ?_
  refine r_bin (z := l0 / 10) rfl (sm_dv (by decide)) (by decide) ?_
  refine r_bin (z := 2 * (l0 / 10)) rfl rfl (by decide) ?_
  refine r_iload rfl rfl ?_
  refine r_const (x := 10) rfl rfl ?_
  refine r_bin (z := sm_rem l0 10) rfl (sm_rv (by decide)) (by decide) ?_
  refine r_bin (z := (2 * (l0 / 10)) + (sm_rem l0 10)) rfl rfl (by decide) ?_
  exact r_ireturn rfl (Or.inl rfl) rfl
noncomputable def fM_triesAll_B2 (P : am_Q) (e2_26 : Nat → am_M → Option (am_M)) (r2 : Nat → Int32 → am_M → Option (am_M)) (l0 : Nat) (l1 : Int32) (I : am_M) : Option (am_M) :=
  if 14 ≤ l1 then
    (e2_26 l0 I)
  else
    (sm_ck (am_t l0 = 13) <|
    sm_ck (sm_in (P l0 9) l1) <|
    sm_ck (sm_iw (P l0 44) l1) <|
    sm_bd (am_up I (P l0 44) l1.toNatClampNeg (I (P l0 9) l1.toNatClampNeg)) fun I5 =>
    sm_bd (l1 + 1) fun x6 =>
    r2 l0 x6 I5)
set_option maxRecDepth 100000 in
theorem AfM_triesAll_B2 {dp : Nat} {P : am_Q} {nx : Nat} {sl : Nat} {e2_26 : Nat → am_M → Option (am_M)} {r2 : Nat → Int32 → am_M → Option (am_M)} (he2_26 : ∀ (l0 : Nat) (I : am_M) (o1 : Option am_V) (o2 : Option am_V) (o3 : Option am_V) (o4 : Option am_V) (o5 : Option am_V) (o6 : Option am_V), sm (dp + 3) am_d189 26 [some (.inr l0), o1, o2, o3, o4, o5, o6] [] (I, P, nx, sl) (sm_g2 P nx sl) (e2_26 l0 I)) (hr2 : ∀ (l0 : Nat) (l1 : Int32) (I : am_M) (o2 : Option am_V) (o3 : Option am_V) (o4 : Option am_V) (o5 : Option am_V) (o6 : Option am_V), sm (dp + 3) am_d189 2 [some (.inr l0), some (.inl l1), o2, o3, o4, o5, o6] [] (I, P, nx, sl) (sm_g2 P nx sl) (r2 l0 l1 I)) (l0 : Nat) (l1 : Int32) (I : am_M) (o2 : Option am_V) (o3 : Option am_V) (o4 : Option am_V) (o5 : Option am_V) (o6 : Option am_V) : sm (dp + 3) am_d189 2 [some (.inr l0), some (.inl l1), o2, o3, o4, o5, o6] [] (I, P, nx, sl) (sm_g2 P nx sl) (fM_triesAll_B2 P e2_26 r2 l0 l1 I) := by
  unfold fM_triesAll_B2
  refine r_iload rfl rfl ?_
  refine r_const (x := 14) rfl rfl ?_
  refine r_icmp rfl rfl (fun c1 => ?_) (fun c1 => ?_)
  · exact he2_26 l0 I (some (.inl l1)) o2 o3 o4 o5 o6
  · refine r_ck (fun h2 => ?_)
    refine r_aload rfl rfl (am_nz h2) ?_
    refine r_getP rfl h2 ?_
    refine r_iload rfl rfl ?_
    refine r_aload rfl rfl (am_nz h2) ?_
    refine r_getP rfl h2 ?_
    refine r_iload rfl rfl ?_
    refine r_ck (fun h3 => ?_)
    refine r_iald rfl h3 ?_
    refine r_ck (fun h4 => ?_)
    refine r_iast rfl h4 (fun I5 => ?_)
    refine r_iinc (e := l1 + 1) (ls' := fun x6 => [some (.inr l0), some (.inl x6), o2, o3, o4, o5, o6]) rfl rfl rfl (fun _ => rfl) (fun x6 => ?_)
    refine r_goto rfl ?_
    exact hr2 l0 x6 I5 o2 o3 o4 o5 o6
noncomputable def fM_triesAll_L2 (P : am_Q) (e2_26 : Nat → am_M → Option (am_M)) : Nat → Nat → Int32 → am_M → Option (am_M)
  | 0, _, _, _ => none
  | n + 1, l0, l1, I => fM_triesAll_B2 P e2_26 (fM_triesAll_L2 P e2_26 n) l0 l1 I
theorem AfM_triesAll_L2 {dp : Nat} {P : am_Q} {nx : Nat} {sl : Nat} {e2_26 : Nat → am_M → Option (am_M)} (he2_26 : ∀ (l0 : Nat) (I : am_M) (o1 : Option am_V) (o2 : Option am_V) (o3 : Option am_V) (o4 : Option am_V) (o5 : Option am_V) (o6 : Option am_V), sm (dp + 3) am_d189 26 [some (.inr l0), o1, o2, o3, o4, o5, o6] [] (I, P, nx, sl) (sm_g2 P nx sl) (e2_26 l0 I)) (n : Nat) : ∀ (l0 : Nat) (l1 : Int32) (I : am_M) (o2 : Option am_V) (o3 : Option am_V) (o4 : Option am_V) (o5 : Option am_V) (o6 : Option am_V), sm (dp + 3) am_d189 2 [some (.inr l0), some (.inl l1), o2, o3, o4, o5, o6] [] (I, P, nx, sl) (sm_g2 P nx sl) (fM_triesAll_L2 P e2_26 n l0 l1 I) := by
  induction n with
  | zero => intro l0 l1 I o2 o3 o4 o5 o6; exact sm_none
  | succ n ih => intro l0 l1 I o2 o3 o4 o5 o6; exact AfM_triesAll_B2 he2_26 ih l0 l1 I o2 o3 o4 o5 o6
noncomputable def fM_triesAll_B30 (P : am_Q) (e30_53 : Nat → Int32 → am_M → Option (am_M)) (r30 : Nat → Int32 → Int32 → am_M → Option (am_M)) (l0 : Nat) (l1 : Int32) (l2 : Int32) (I : am_M) : Option (am_M) :=
  sm_ck (am_t l0 = 13) <|
  if (I l0 45) ≤ l2 then
    (e30_53 l0 l1 I)
  else
    (sm_ck (sm_in (P l0 1) 5) <|
    sm_bd (l1 * (I (P l0 1) (5 : Int32).toNatClampNeg)) fun x10 =>
    sm_bd (l2 + 1) fun x11 =>
    r30 l0 x10 x11 I)
set_option maxRecDepth 100000 in
theorem AfM_triesAll_B30 {dp : Nat} {P : am_Q} {nx : Nat} {sl : Nat} {e30_53 : Nat → Int32 → am_M → Option (am_M)} {r30 : Nat → Int32 → Int32 → am_M → Option (am_M)} (he30_53 : ∀ (l0 : Nat) (l1 : Int32) (I : am_M) (o2 : Option am_V) (o3 : Option am_V) (o4 : Option am_V) (o5 : Option am_V) (o6 : Option am_V), sm (dp + 3) am_d189 53 [some (.inr l0), some (.inl l1), o2, o3, o4, o5, o6] [] (I, P, nx, sl) (sm_g2 P nx sl) (e30_53 l0 l1 I)) (hr30 : ∀ (l0 : Nat) (l1 : Int32) (l2 : Int32) (I : am_M) (o3 : Option am_V) (o4 : Option am_V) (o5 : Option am_V) (o6 : Option am_V), sm (dp + 3) am_d189 30 [some (.inr l0), some (.inl l1), some (.inl l2), o3, o4, o5, o6] [] (I, P, nx, sl) (sm_g2 P nx sl) (r30 l0 l1 l2 I)) (l0 : Nat) (l1 : Int32) (l2 : Int32) (I : am_M) (o3 : Option am_V) (o4 : Option am_V) (o5 : Option am_V) (o6 : Option am_V) : sm (dp + 3) am_d189 30 [some (.inr l0), some (.inl l1), some (.inl l2), o3, o4, o5, o6] [] (I, P, nx, sl) (sm_g2 P nx sl) (fM_triesAll_B30 P e30_53 r30 l0 l1 l2 I) := by
  unfold fM_triesAll_B30
  refine r_iload rfl rfl ?_
  refine r_ck (fun h7 => ?_)
  refine r_aload rfl rfl (am_nz h7) ?_
  refine r_getI rfl h7 ?_
  refine r_icmp rfl rfl (fun c8 => ?_) (fun c8 => ?_)
  · exact he30_53 l0 l1 I (some (.inl l2)) o3 o4 o5 o6
  · refine r_iload rfl rfl ?_
    refine r_aload rfl rfl (am_nz h7) ?_
    refine r_getP rfl h7 ?_
    refine r_const (x := 5) rfl rfl ?_
    refine r_ck (fun h9 => ?_)
    refine r_iald rfl h9 ?_
    refine r_bin (z := l1 * (I (P l0 1) (5 : Int32).toNatClampNeg)) rfl rfl (by decide) ?_
    refine r_bd (fun x10 => ?_)
    refine r_istore (ls' := [some (.inr l0), some (.inl x10), some (.inl l2), o3, o4, o5, o6]) rfl (Nat.le_of_ble_eq_true rfl) rfl ?_
    refine r_iinc (e := l2 + 1) (ls' := fun x11 => [some (.inr l0), some (.inl x10), some (.inl x11), o3, o4, o5, o6]) rfl rfl rfl (fun _ => rfl) (fun x11 => ?_)
    refine r_goto rfl ?_
    exact hr30 l0 x10 x11 I o3 o4 o5 o6
noncomputable def fM_triesAll_L30 (P : am_Q) (e30_53 : Nat → Int32 → am_M → Option (am_M)) : Nat → Nat → Int32 → Int32 → am_M → Option (am_M)
  | 0, _, _, _, _ => none
  | n + 1, l0, l1, l2, I => fM_triesAll_B30 P e30_53 (fM_triesAll_L30 P e30_53 n) l0 l1 l2 I
theorem AfM_triesAll_L30 {dp : Nat} {P : am_Q} {nx : Nat} {sl : Nat} {e30_53 : Nat → Int32 → am_M → Option (am_M)} (he30_53 : ∀ (l0 : Nat) (l1 : Int32) (I : am_M) (o2 : Option am_V) (o3 : Option am_V) (o4 : Option am_V) (o5 : Option am_V) (o6 : Option am_V), sm (dp + 3) am_d189 53 [some (.inr l0), some (.inl l1), o2, o3, o4, o5, o6] [] (I, P, nx, sl) (sm_g2 P nx sl) (e30_53 l0 l1 I)) (n : Nat) : ∀ (l0 : Nat) (l1 : Int32) (l2 : Int32) (I : am_M) (o3 : Option am_V) (o4 : Option am_V) (o5 : Option am_V) (o6 : Option am_V), sm (dp + 3) am_d189 30 [some (.inr l0), some (.inl l1), some (.inl l2), o3, o4, o5, o6] [] (I, P, nx, sl) (sm_g2 P nx sl) (fM_triesAll_L30 P e30_53 n l0 l1 l2 I) := by
  induction n with
  | zero => intro l0 l1 l2 I o3 o4 o5 o6; exact sm_none
  | succ n ih => intro l0 l1 l2 I o3 o4 o5 o6; exact AfM_triesAll_B30 he30_53 ih l0 l1 l2 I o3 o4 o5 o6
noncomputable def fM_triesAll_B75 (P : am_Q) (e75_137 : Nat → Int32 → Int32 → am_M → Option (am_M)) (r75 : Nat → Int32 → Int32 → Int32 → Int32 → am_M → Option (am_M)) (l0 : Nat) (l1 : Int32) (l2 : Int32) (l3 : Int32) (l4 : Int32) (I : am_M) : Option (am_M) :=
  if l4 < 0 then
    (e75_137 l0 l1 l2 I)
  else
    (sm_ck (am_t l0 = 13) <|
    sm_ck (sm_in (P l0 1) 5) <|
    sm_ck (¬ (I (P l0 1) (5 : Int32).toNatClampNeg) = 0) <|
    sm_ck (sm_iw (P l0 42) l4) <|
    sm_bd (am_up I (P l0 42) l4.toNatClampNeg (sm_rem l3 (I (P l0 1) (5 : Int32).toNatClampNeg))) fun I22 =>
    sm_ck (sm_in (P l0 1) 5) <|
    sm_ck (¬ (I22 (P l0 1) (5 : Int32).toNatClampNeg) = 0) <|
    sm_bd (l3 / (I22 (P l0 1) (5 : Int32).toNatClampNeg)) fun x25 =>
    sm_ck (sm_in (P l0 41) l4) <|
    sm_ck (sm_in (P l0 16) (I22 (P l0 41) l4.toNatClampNeg)) <|
    Option.bind (fM_doorOf (I22 (P l0 16) (I22 (P l0 41) l4.toNatClampNeg).toNatClampNeg)) fun y28 =>
    sm_ck (sm_in (P l0 42) l4) <|
    sm_ck (sm_iw (P l0 9) y28) <|
    sm_bd (am_up I22 (P l0 9) y28.toNatClampNeg (I22 (P l0 42) l4.toNatClampNeg)) fun I31 =>
    sm_bd (l4 + (-1)) fun x32 =>
    r75 l0 l1 l2 x25 x32 I31)
set_option maxRecDepth 100000 in
theorem AfM_triesAll_B75 {dp : Nat} {P : am_Q} {nx : Nat} {sl : Nat} {e75_137 : Nat → Int32 → Int32 → am_M → Option (am_M)} {r75 : Nat → Int32 → Int32 → Int32 → Int32 → am_M → Option (am_M)} (he75_137 : ∀ (l0 : Nat) (l1 : Int32) (l2 : Int32) (I : am_M) (o3 : Option am_V) (o4 : Option am_V) (o5 : Option am_V) (o6 : Option am_V), sm (dp + 3) am_d189 137 [some (.inr l0), some (.inl l1), some (.inl l2), o3, o4, o5, o6] [] (I, P, nx, sl) (sm_g2 P nx sl) (e75_137 l0 l1 l2 I)) (hr75 : ∀ (l0 : Nat) (l1 : Int32) (l2 : Int32) (l3 : Int32) (l4 : Int32) (I : am_M) (o5 : Option am_V) (o6 : Option am_V), sm (dp + 3) am_d189 75 [some (.inr l0), some (.inl l1), some (.inl l2), some (.inl l3), some (.inl l4), o5, o6] [] (I, P, nx, sl) (sm_g2 P nx sl) (r75 l0 l1 l2 l3 l4 I)) (l0 : Nat) (l1 : Int32) (l2 : Int32) (l3 : Int32) (l4 : Int32) (I : am_M) (o5 : Option am_V) (o6 : Option am_V) : sm (dp + 3) am_d189 75 [some (.inr l0), some (.inl l1), some (.inl l2), some (.inl l3), some (.inl l4), o5, o6] [] (I, P, nx, sl) (sm_g2 P nx sl) (fM_triesAll_B75 P e75_137 r75 l0 l1 l2 l3 l4 I) := by
  unfold fM_triesAll_B75
  refine r_iload rfl rfl ?_
  refine r_if rfl rfl (fun c17 => ?_) (fun c17 => ?_)
  · exact he75_137 l0 l1 l2 I (some (.inl l3)) (some (.inl l4)) o5 o6
  · refine r_ck (fun h18 => ?_)
    refine r_aload rfl rfl (am_nz h18) ?_
    refine r_getP rfl h18 ?_
    refine r_iload rfl rfl ?_
    refine r_iload rfl rfl ?_
    refine r_aload rfl rfl (am_nz h18) ?_
    refine r_getP rfl h18 ?_
    refine r_const (x := 5) rfl rfl ?_
    refine r_ck (fun h19 => ?_)
    refine r_iald rfl h19 ?_
    refine r_ck (fun h20 => ?_)
    refine r_bin (z := sm_rem l3 (I (P l0 1) (5 : Int32).toNatClampNeg)) rfl (sm_rv h20) (by decide) ?_
    refine r_ck (fun h21 => ?_)
    refine r_iast rfl h21 (fun I22 => ?_)
    refine r_iload rfl rfl ?_
    refine r_aload rfl rfl (am_nz h18) ?_
    refine r_getP rfl h18 ?_
    refine r_const (x := 5) rfl rfl ?_
    refine r_ck (fun h23 => ?_)
    refine r_iald rfl h23 ?_
    refine r_ck (fun h24 => ?_)
    refine r_bin (z := l3 / (I22 (P l0 1) (5 : Int32).toNatClampNeg)) rfl (sm_dv h24) (by decide) ?_
    refine r_bd (fun x25 => ?_)
    refine r_istore (ls' := [some (.inr l0), some (.inl l1), some (.inl l2), some (.inl x25), some (.inl l4), o5, o6]) rfl (Nat.le_of_ble_eq_true rfl) rfl ?_
    refine r_aload rfl rfl (am_nz h18) ?_
    refine r_getP rfl h18 ?_
    refine r_aload rfl rfl (am_nz h18) ?_
    refine r_getP rfl h18 ?_
    refine r_aload rfl rfl (am_nz h18) ?_
    refine r_getP rfl h18 ?_
    refine r_iload rfl rfl ?_
    refine r_ck (fun h26 => ?_)
    refine r_iald rfl h26 ?_
    refine r_ck (fun h27 => ?_)
    refine r_iald rfl h27 ?_
    refine r_call0 rfl rfl trivial (fun y hy => AfM_doorOf (dp := dp + 2) hy) (fun y28 => ?_)
    refine r_aload rfl rfl (am_nz h18) ?_
    refine r_getP rfl h18 ?_
    refine r_iload rfl rfl ?_
    refine r_ck (fun h29 => ?_)
    refine r_iald rfl h29 ?_
    refine r_ck (fun h30 => ?_)
    refine r_iast rfl h30 (fun I31 => ?_)
    refine r_iinc (e := l4 + (-1)) (ls' := fun x32 => [some (.inr l0), some (.inl l1), some (.inl l2), some (.inl x25), some (.inl x32), o5, o6]) rfl rfl rfl (fun _ => rfl) (fun x32 => ?_)
    refine r_goto rfl ?_
    exact hr75 l0 l1 l2 x25 x32 I31 o5 o6
noncomputable def fM_triesAll_L75 (P : am_Q) (e75_137 : Nat → Int32 → Int32 → am_M → Option (am_M)) : Nat → Nat → Int32 → Int32 → Int32 → Int32 → am_M → Option (am_M)
  | 0, _, _, _, _, _, _ => none
  | n + 1, l0, l1, l2, l3, l4, I => fM_triesAll_B75 P e75_137 (fM_triesAll_L75 P e75_137 n) l0 l1 l2 l3 l4 I
theorem AfM_triesAll_L75 {dp : Nat} {P : am_Q} {nx : Nat} {sl : Nat} {e75_137 : Nat → Int32 → Int32 → am_M → Option (am_M)} (he75_137 : ∀ (l0 : Nat) (l1 : Int32) (l2 : Int32) (I : am_M) (o3 : Option am_V) (o4 : Option am_V) (o5 : Option am_V) (o6 : Option am_V), sm (dp + 3) am_d189 137 [some (.inr l0), some (.inl l1), some (.inl l2), o3, o4, o5, o6] [] (I, P, nx, sl) (sm_g2 P nx sl) (e75_137 l0 l1 l2 I)) (n : Nat) : ∀ (l0 : Nat) (l1 : Int32) (l2 : Int32) (l3 : Int32) (l4 : Int32) (I : am_M) (o5 : Option am_V) (o6 : Option am_V), sm (dp + 3) am_d189 75 [some (.inr l0), some (.inl l1), some (.inl l2), some (.inl l3), some (.inl l4), o5, o6] [] (I, P, nx, sl) (sm_g2 P nx sl) (fM_triesAll_L75 P e75_137 n l0 l1 l2 l3 l4 I) := by
  induction n with
  | zero => intro l0 l1 l2 l3 l4 I o5 o6; exact sm_none
  | succ n ih => intro l0 l1 l2 l3 l4 I o5 o6; exact AfM_triesAll_B75 he75_137 ih l0 l1 l2 l3 l4 I o5 o6
noncomputable def fM_triesAll_J200 (P : am_Q) (r143 : Nat → Int32 → Int32 → Int32 → Int32 → am_M → Option (am_M)) (l0 : Nat) (l1 : Int32) (l2 : Int32) (l5 : Int32) (s0 : Int32) (I : am_M) : Option (am_M) :=
  sm_bd (l5 + 1) fun x39 =>
  r143 l0 l1 l2 s0 x39 I
set_option maxRecDepth 100000 in
theorem AfM_triesAll_J200 {dp : Nat} {P : am_Q} {nx : Nat} {sl : Nat} {r143 : Nat → Int32 → Int32 → Int32 → Int32 → am_M → Option (am_M)} (hr143 : ∀ (l0 : Nat) (l1 : Int32) (l2 : Int32) (l4 : Int32) (l5 : Int32) (I : am_M) (o3 : Option am_V) (o6 : Option am_V), sm (dp + 3) am_d189 143 [some (.inr l0), some (.inl l1), some (.inl l2), o3, some (.inl l4), some (.inl l5), o6] [] (I, P, nx, sl) (sm_g2 P nx sl) (r143 l0 l1 l2 l4 l5 I)) (l0 : Nat) (l1 : Int32) (l2 : Int32) (l5 : Int32) (s0 : Int32) (I : am_M) (o3 : Option am_V) (o4 : Option am_V) (o6 : Option am_V) : sm (dp + 3) am_d189 200 [some (.inr l0), some (.inl l1), some (.inl l2), o3, o4, some (.inl l5), o6] [.inl s0] (I, P, nx, sl) (sm_g2 P nx sl) (fM_triesAll_J200 P r143 l0 l1 l2 l5 s0 I) := by
  unfold fM_triesAll_J200
  refine r_istore (ls' := [some (.inr l0), some (.inl l1), some (.inl l2), o3, some (.inl s0), some (.inl l5), o6]) rfl (Nat.le_of_ble_eq_true rfl) rfl ?_
  refine r_iinc (e := l5 + 1) (ls' := fun x39 => [some (.inr l0), some (.inl l1), some (.inl l2), o3, some (.inl s0), some (.inl x39), o6]) rfl rfl rfl (fun _ => rfl) (fun x39 => ?_)
  refine r_goto rfl ?_
  exact hr143 l0 l1 l2 s0 x39 I o3 o6
noncomputable def fM_triesAll_J199 (P : am_Q) (r143 : Nat → Int32 → Int32 → Int32 → Int32 → am_M → Option (am_M)) (l0 : Nat) (l1 : Int32) (l2 : Int32) (l5 : Int32) (I : am_M) : Option (am_M) :=
  fM_triesAll_J200 P r143 l0 l1 l2 l5 0 I
set_option maxRecDepth 100000 in
theorem AfM_triesAll_J199 {dp : Nat} {P : am_Q} {nx : Nat} {sl : Nat} {r143 : Nat → Int32 → Int32 → Int32 → Int32 → am_M → Option (am_M)} (hr143 : ∀ (l0 : Nat) (l1 : Int32) (l2 : Int32) (l4 : Int32) (l5 : Int32) (I : am_M) (o3 : Option am_V) (o6 : Option am_V), sm (dp + 3) am_d189 143 [some (.inr l0), some (.inl l1), some (.inl l2), o3, some (.inl l4), some (.inl l5), o6] [] (I, P, nx, sl) (sm_g2 P nx sl) (r143 l0 l1 l2 l4 l5 I)) (l0 : Nat) (l1 : Int32) (l2 : Int32) (l5 : Int32) (I : am_M) (o3 : Option am_V) (o4 : Option am_V) (o6 : Option am_V) : sm (dp + 3) am_d189 199 [some (.inr l0), some (.inl l1), some (.inl l2), o3, o4, some (.inl l5), o6] [] (I, P, nx, sl) (sm_g2 P nx sl) (fM_triesAll_J199 P r143 l0 l1 l2 l5 I) := by
  unfold fM_triesAll_J199
  refine r_const (x := 0) rfl rfl ?_
  exact AfM_triesAll_J200 hr143 l0 l1 l2 l5 0 I o3 o4 o6
noncomputable def fM_triesAll_B143 (P : am_Q) (e143_208 : Nat → Int32 → Int32 → Int32 → am_M → Option (am_M)) (r143 : Nat → Int32 → Int32 → Int32 → Int32 → am_M → Option (am_M)) (l0 : Nat) (l1 : Int32) (l2 : Int32) (l4 : Int32) (l5 : Int32) (I : am_M) : Option (am_M) :=
  sm_ck (am_t l0 = 13) <|
  if (I l0 45) ≤ l5 then
    (e143_208 l0 l1 l2 l4 I)
  else
    (sm_ck (sm_in (P l0 41) l5) <|
    sm_ck (sm_in (P l0 15) (I (P l0 41) l5.toNatClampNeg)) <|
    sm_bd (I (P l0 15) (I (P l0 41) l5.toNatClampNeg).toNatClampNeg) fun x37 =>
    if l4 = 0 then
      (fM_triesAll_J199 P r143 l0 l1 l2 l5 I)
    else
      (Option.bind (fM_out P l0 (x37 / 10) (sm_rem x37 10) I) fun y40 =>
      sm_ck (sm_in (P l0 42) l5) <|
      if ¬ y40.1 = (y40.2 (P l0 42) l5.toNatClampNeg) then
        (fM_triesAll_J199 P r143 l0 l1 l2 l5 y40.2)
      else
        (fM_triesAll_J200 P r143 l0 l1 l2 l5 1 y40.2)))
set_option maxRecDepth 100000 in
theorem AfM_triesAll_B143 {dp : Nat} {P : am_Q} {nx : Nat} {sl : Nat} {e143_208 : Nat → Int32 → Int32 → Int32 → am_M → Option (am_M)} {r143 : Nat → Int32 → Int32 → Int32 → Int32 → am_M → Option (am_M)} (he143_208 : ∀ (l0 : Nat) (l1 : Int32) (l2 : Int32) (l4 : Int32) (I : am_M) (o3 : Option am_V) (o5 : Option am_V) (o6 : Option am_V), sm (dp + 3) am_d189 208 [some (.inr l0), some (.inl l1), some (.inl l2), o3, some (.inl l4), o5, o6] [] (I, P, nx, sl) (sm_g2 P nx sl) (e143_208 l0 l1 l2 l4 I)) (hr143 : ∀ (l0 : Nat) (l1 : Int32) (l2 : Int32) (l4 : Int32) (l5 : Int32) (I : am_M) (o3 : Option am_V) (o6 : Option am_V), sm (dp + 3) am_d189 143 [some (.inr l0), some (.inl l1), some (.inl l2), o3, some (.inl l4), some (.inl l5), o6] [] (I, P, nx, sl) (sm_g2 P nx sl) (r143 l0 l1 l2 l4 l5 I)) (l0 : Nat) (l1 : Int32) (l2 : Int32) (l4 : Int32) (l5 : Int32) (I : am_M) (o3 : Option am_V) (o6 : Option am_V) : sm (dp + 3) am_d189 143 [some (.inr l0), some (.inl l1), some (.inl l2), o3, some (.inl l4), some (.inl l5), o6] [] (I, P, nx, sl) (sm_g2 P nx sl) (fM_triesAll_B143 P e143_208 r143 l0 l1 l2 l4 l5 I) := by
  unfold fM_triesAll_B143
  refine r_iload rfl rfl ?_
  refine r_ck (fun h33 => ?_)
  refine r_aload rfl rfl (am_nz h33) ?_
  refine r_getI rfl h33 ?_
  refine r_icmp rfl rfl (fun c34 => ?_) (fun c34 => ?_)
  · exact he143_208 l0 l1 l2 l4 I o3 (some (.inl l5)) o6
  · refine r_aload rfl rfl (am_nz h33) ?_
    refine r_getP rfl h33 ?_
    refine r_aload rfl rfl (am_nz h33) ?_
    refine r_getP rfl h33 ?_
    refine r_iload rfl rfl ?_
    refine r_ck (fun h35 => ?_)
    refine r_iald rfl h35 ?_
    refine r_ck (fun h36 => ?_)
    refine r_iald rfl h36 ?_
    refine r_bd (fun x37 => ?_)
    refine r_istore (ls' := [some (.inr l0), some (.inl l1), some (.inl l2), o3, some (.inl l4), some (.inl l5), some (.inl x37)]) rfl (Nat.le_of_ble_eq_true rfl) rfl ?_
    refine r_iload rfl rfl ?_
    refine r_if rfl rfl (fun c38 => ?_) (fun c38 => ?_)
    · exact AfM_triesAll_J199 hr143 l0 l1 l2 l5 I o3 (some (.inl l4)) (some (.inl x37))
    · refine r_aload rfl rfl (am_nz h33) ?_
      refine r_iload rfl rfl ?_
      refine r_const (x := 10) rfl rfl ?_
      refine r_bin (z := x37 / 10) rfl (sm_dv (by decide)) (by decide) ?_
      refine r_iload rfl rfl ?_
      refine r_const (x := 10) rfl rfl ?_
      refine r_bin (z := sm_rem x37 10) rfl (sm_rv (by decide)) (by decide) ?_
      refine r_call1 rfl rfl h33 (fun y hy => AfM_out (dp := dp + 0) hy) (fun y40 => ?_)
      refine r_aload rfl rfl (am_nz h33) ?_
      refine r_getP rfl h33 ?_
      refine r_iload rfl rfl ?_
      refine r_ck (fun h41 => ?_)
      refine r_iald rfl h41 ?_
      refine r_icmp rfl rfl (fun c42 => ?_) (fun c42 => ?_)
      · exact AfM_triesAll_J199 hr143 l0 l1 l2 l5 y40.2 o3 (some (.inl l4)) (some (.inl x37))
      · refine r_const (x := 1) rfl rfl ?_
        refine r_goto rfl ?_
        exact AfM_triesAll_J200 hr143 l0 l1 l2 l5 1 y40.2 o3 (some (.inl l4)) (some (.inl x37))
noncomputable def fM_triesAll_L143 (P : am_Q) (e143_208 : Nat → Int32 → Int32 → Int32 → am_M → Option (am_M)) : Nat → Nat → Int32 → Int32 → Int32 → Int32 → am_M → Option (am_M)
  | 0, _, _, _, _, _, _ => none
  | n + 1, l0, l1, l2, l4, l5, I => fM_triesAll_B143 P e143_208 (fM_triesAll_L143 P e143_208 n) l0 l1 l2 l4 l5 I
theorem AfM_triesAll_L143 {dp : Nat} {P : am_Q} {nx : Nat} {sl : Nat} {e143_208 : Nat → Int32 → Int32 → Int32 → am_M → Option (am_M)} (he143_208 : ∀ (l0 : Nat) (l1 : Int32) (l2 : Int32) (l4 : Int32) (I : am_M) (o3 : Option am_V) (o5 : Option am_V) (o6 : Option am_V), sm (dp + 3) am_d189 208 [some (.inr l0), some (.inl l1), some (.inl l2), o3, some (.inl l4), o5, o6] [] (I, P, nx, sl) (sm_g2 P nx sl) (e143_208 l0 l1 l2 l4 I)) (n : Nat) : ∀ (l0 : Nat) (l1 : Int32) (l2 : Int32) (l4 : Int32) (l5 : Int32) (I : am_M) (o3 : Option am_V) (o6 : Option am_V), sm (dp + 3) am_d189 143 [some (.inr l0), some (.inl l1), some (.inl l2), o3, some (.inl l4), some (.inl l5), o6] [] (I, P, nx, sl) (sm_g2 P nx sl) (fM_triesAll_L143 P e143_208 n l0 l1 l2 l4 l5 I) := by
  induction n with
  | zero => intro l0 l1 l2 l4 l5 I o3 o6; exact sm_none
  | succ n ih => intro l0 l1 l2 l4 l5 I o3 o6; exact AfM_triesAll_B143 he143_208 ih l0 l1 l2 l4 l5 I o3 o6
noncomputable def fM_triesAll_B211 (P : am_Q) (e211_252 : Nat → Int32 → Int32 → Int32 → am_M → Option (am_M)) (r211 : Nat → Int32 → Int32 → Int32 → Int32 → am_M → Option (am_M)) (l0 : Nat) (l1 : Int32) (l2 : Int32) (l4 : Int32) (l5 : Int32) (I : am_M) : Option (am_M) :=
  sm_ck (am_t l0 = 13) <|
  if (I l0 45) ≤ l5 then
    (e211_252 l0 l1 l2 l4 I)
  else
    (if l4 = 0 then
      (e211_252 l0 l1 l2 l4 I)
    else
      (if ¬ (I l0 46) = 0 then
        (e211_252 l0 l1 l2 l4 I)
      else
        (sm_ck (sm_in (P l0 42) l5) <|
        sm_ck (sm_iw (P l0 43) l5) <|
        sm_bd (am_up I (P l0 43) l5.toNatClampNeg (I (P l0 42) l5.toNatClampNeg)) fun I49 =>
        sm_bd (l5 + 1) fun x50 =>
        r211 l0 l1 l2 l4 x50 I49)))
set_option maxRecDepth 100000 in
theorem AfM_triesAll_B211 {dp : Nat} {P : am_Q} {nx : Nat} {sl : Nat} {e211_252 : Nat → Int32 → Int32 → Int32 → am_M → Option (am_M)} {r211 : Nat → Int32 → Int32 → Int32 → Int32 → am_M → Option (am_M)} (he211_252 : ∀ (l0 : Nat) (l1 : Int32) (l2 : Int32) (l4 : Int32) (I : am_M) (o3 : Option am_V) (o5 : Option am_V) (o6 : Option am_V), sm (dp + 3) am_d189 252 [some (.inr l0), some (.inl l1), some (.inl l2), o3, some (.inl l4), o5, o6] [] (I, P, nx, sl) (sm_g2 P nx sl) (e211_252 l0 l1 l2 l4 I)) (hr211 : ∀ (l0 : Nat) (l1 : Int32) (l2 : Int32) (l4 : Int32) (l5 : Int32) (I : am_M) (o3 : Option am_V) (o6 : Option am_V), sm (dp + 3) am_d189 211 [some (.inr l0), some (.inl l1), some (.inl l2), o3, some (.inl l4), some (.inl l5), o6] [] (I, P, nx, sl) (sm_g2 P nx sl) (r211 l0 l1 l2 l4 l5 I)) (l0 : Nat) (l1 : Int32) (l2 : Int32) (l4 : Int32) (l5 : Int32) (I : am_M) (o3 : Option am_V) (o6 : Option am_V) : sm (dp + 3) am_d189 211 [some (.inr l0), some (.inl l1), some (.inl l2), o3, some (.inl l4), some (.inl l5), o6] [] (I, P, nx, sl) (sm_g2 P nx sl) (fM_triesAll_B211 P e211_252 r211 l0 l1 l2 l4 l5 I) := by
  unfold fM_triesAll_B211
  refine r_iload rfl rfl ?_
  refine r_ck (fun h43 => ?_)
  refine r_aload rfl rfl (am_nz h43) ?_
  refine r_getI rfl h43 ?_
  refine r_icmp rfl rfl (fun c44 => ?_) (fun c44 => ?_)
  · exact he211_252 l0 l1 l2 l4 I o3 (some (.inl l5)) o6
  · refine r_iload rfl rfl ?_
    refine r_if rfl rfl (fun c45 => ?_) (fun c45 => ?_)
    · exact he211_252 l0 l1 l2 l4 I o3 (some (.inl l5)) o6
    · refine r_aload rfl rfl (am_nz h43) ?_
      refine r_getI rfl h43 ?_
      refine r_if rfl rfl (fun c46 => ?_) (fun c46 => ?_)
      · exact he211_252 l0 l1 l2 l4 I o3 (some (.inl l5)) o6
      · refine r_aload rfl rfl (am_nz h43) ?_
        refine r_getP rfl h43 ?_
        refine r_iload rfl rfl ?_
        refine r_aload rfl rfl (am_nz h43) ?_
        refine r_getP rfl h43 ?_
        refine r_iload rfl rfl ?_
        refine r_ck (fun h47 => ?_)
        refine r_iald rfl h47 ?_
        refine r_ck (fun h48 => ?_)
        refine r_iast rfl h48 (fun I49 => ?_)
        refine r_iinc (e := l5 + 1) (ls' := fun x50 => [some (.inr l0), some (.inl l1), some (.inl l2), o3, some (.inl l4), some (.inl x50), o6]) rfl rfl rfl (fun _ => rfl) (fun x50 => ?_)
        refine r_goto rfl ?_
        exact hr211 l0 l1 l2 l4 x50 I49 o3 o6
noncomputable def fM_triesAll_L211 (P : am_Q) (e211_252 : Nat → Int32 → Int32 → Int32 → am_M → Option (am_M)) : Nat → Nat → Int32 → Int32 → Int32 → Int32 → am_M → Option (am_M)
  | 0, _, _, _, _, _, _ => none
  | n + 1, l0, l1, l2, l4, l5, I => fM_triesAll_B211 P e211_252 (fM_triesAll_L211 P e211_252 n) l0 l1 l2 l4 l5 I
theorem AfM_triesAll_L211 {dp : Nat} {P : am_Q} {nx : Nat} {sl : Nat} {e211_252 : Nat → Int32 → Int32 → Int32 → am_M → Option (am_M)} (he211_252 : ∀ (l0 : Nat) (l1 : Int32) (l2 : Int32) (l4 : Int32) (I : am_M) (o3 : Option am_V) (o5 : Option am_V) (o6 : Option am_V), sm (dp + 3) am_d189 252 [some (.inr l0), some (.inl l1), some (.inl l2), o3, some (.inl l4), o5, o6] [] (I, P, nx, sl) (sm_g2 P nx sl) (e211_252 l0 l1 l2 l4 I)) (n : Nat) : ∀ (l0 : Nat) (l1 : Int32) (l2 : Int32) (l4 : Int32) (l5 : Int32) (I : am_M) (o3 : Option am_V) (o6 : Option am_V), sm (dp + 3) am_d189 211 [some (.inr l0), some (.inl l1), some (.inl l2), o3, some (.inl l4), some (.inl l5), o6] [] (I, P, nx, sl) (sm_g2 P nx sl) (fM_triesAll_L211 P e211_252 n l0 l1 l2 l4 l5 I) := by
  induction n with
  | zero => intro l0 l1 l2 l4 l5 I o3 o6; exact sm_none
  | succ n ih => intro l0 l1 l2 l4 l5 I o3 o6; exact AfM_triesAll_B211 he211_252 ih l0 l1 l2 l4 l5 I o3 o6
noncomputable def fM_triesAll_J267 (P : am_Q) (r60 : Nat → Int32 → Int32 → am_M → Option (am_M)) (l0 : Nat) (l1 : Int32) (l2 : Int32) (s0 : Int32) (s1 : Int32) (s2 : Nat) (I : am_M) : Option (am_M) :=
  sm_ck (am_t s2 = 13) <|
  sm_bd (am_up I s2 46 (s1 + s0)) fun I54 =>
  sm_bd (l2 + 1) fun x55 =>
  r60 l0 l1 x55 I54
set_option maxRecDepth 100000 in
theorem AfM_triesAll_J267 {dp : Nat} {P : am_Q} {nx : Nat} {sl : Nat} {r60 : Nat → Int32 → Int32 → am_M → Option (am_M)} (hr60 : ∀ (l0 : Nat) (l1 : Int32) (l2 : Int32) (I : am_M) (o3 : Option am_V) (o4 : Option am_V) (o5 : Option am_V) (o6 : Option am_V), sm (dp + 3) am_d189 60 [some (.inr l0), some (.inl l1), some (.inl l2), o3, o4, o5, o6] [] (I, P, nx, sl) (sm_g2 P nx sl) (r60 l0 l1 l2 I)) (l0 : Nat) (l1 : Int32) (l2 : Int32) (s0 : Int32) (s1 : Int32) (s2 : Nat) (I : am_M) (o3 : Option am_V) (o4 : Option am_V) (o5 : Option am_V) (o6 : Option am_V) : sm (dp + 3) am_d189 267 [some (.inr l0), some (.inl l1), some (.inl l2), o3, o4, o5, o6] [.inl s0, .inl s1, .inr s2] (I, P, nx, sl) (sm_g2 P nx sl) (fM_triesAll_J267 P r60 l0 l1 l2 s0 s1 s2 I) := by
  unfold fM_triesAll_J267
  refine r_bin (z := s1 + s0) rfl rfl (by decide) ?_
  refine r_ck (fun h53 => ?_)
  refine r_putI rfl h53 (fun hz => absurd hz (by decide)) (fun I54 => ?_)
  refine r_iinc (e := l2 + 1) (ls' := fun x55 => [some (.inr l0), some (.inl l1), some (.inl x55), o3, o4, o5, o6]) rfl rfl rfl (fun _ => rfl) (fun x55 => ?_)
  refine r_goto rfl ?_
  exact hr60 l0 l1 x55 I54 o3 o4 o5 o6
noncomputable def fM_triesAll_J252 (P : am_Q) (r60 : Nat → Int32 → Int32 → am_M → Option (am_M)) (l0 : Nat) (l1 : Int32) (l2 : Int32) (l4 : Int32) (I : am_M) : Option (am_M) :=
  sm_ck (am_t l0 = 13) <|
  if l4 = 0 then
    (fM_triesAll_J267 P r60 l0 l1 l2 0 (I l0 46) l0 I)
  else
    (fM_triesAll_J267 P r60 l0 l1 l2 1 (I l0 46) l0 I)
set_option maxRecDepth 100000 in
theorem AfM_triesAll_J252 {dp : Nat} {P : am_Q} {nx : Nat} {sl : Nat} {r60 : Nat → Int32 → Int32 → am_M → Option (am_M)} (hr60 : ∀ (l0 : Nat) (l1 : Int32) (l2 : Int32) (I : am_M) (o3 : Option am_V) (o4 : Option am_V) (o5 : Option am_V) (o6 : Option am_V), sm (dp + 3) am_d189 60 [some (.inr l0), some (.inl l1), some (.inl l2), o3, o4, o5, o6] [] (I, P, nx, sl) (sm_g2 P nx sl) (r60 l0 l1 l2 I)) (l0 : Nat) (l1 : Int32) (l2 : Int32) (l4 : Int32) (I : am_M) (o3 : Option am_V) (o5 : Option am_V) (o6 : Option am_V) : sm (dp + 3) am_d189 252 [some (.inr l0), some (.inl l1), some (.inl l2), o3, some (.inl l4), o5, o6] [] (I, P, nx, sl) (sm_g2 P nx sl) (fM_triesAll_J252 P r60 l0 l1 l2 l4 I) := by
  unfold fM_triesAll_J252
  refine r_ck (fun h51 => ?_)
  refine r_aload rfl rfl (am_nz h51) ?_
  refine r_dup rfl ?_
  refine r_getI rfl h51 ?_
  refine r_iload rfl rfl ?_
  refine r_if rfl rfl (fun c52 => ?_) (fun c52 => ?_)
  · refine r_const (x := 0) rfl rfl ?_
    exact AfM_triesAll_J267 hr60 l0 l1 l2 0 (I l0 46) l0 I o3 (some (.inl l4)) o5 o6
  · refine r_const (x := 1) rfl rfl ?_
    refine r_goto rfl ?_
    exact AfM_triesAll_J267 hr60 l0 l1 l2 1 (I l0 46) l0 I o3 (some (.inl l4)) o5 o6
noncomputable def fM_triesAll_B60 (P : am_Q) (e60_277 : Nat → am_M → Option (am_M)) (r60 : Nat → Int32 → Int32 → am_M → Option (am_M)) (l0 : Nat) (l1 : Int32) (l2 : Int32) (I : am_M) : Option (am_M) :=
  if l1 ≤ l2 then
    (e60_277 l0 I)
  else
    (sm_ck (am_t l0 = 13) <|
    sm_bd ((I l0 45) - 1) fun x16 =>
    fM_triesAll_L75 P (fun l0 l1 l2 I =>
        fM_triesAll_L143 P (fun l0 l1 l2 l4 I =>
            fM_triesAll_L211 P (fun l0 l1 l2 l4 I =>
                fM_triesAll_J252 P r60 l0 l1 l2 l4 I) sm_fu l0 l1 l2 l4 0 I) sm_fu l0 l1 l2 1 0 I) sm_fu l0 l1 l2 l2 x16 I)
set_option maxRecDepth 100000 in
theorem AfM_triesAll_B60 {dp : Nat} {P : am_Q} {nx : Nat} {sl : Nat} {e60_277 : Nat → am_M → Option (am_M)} {r60 : Nat → Int32 → Int32 → am_M → Option (am_M)} (he60_277 : ∀ (l0 : Nat) (I : am_M) (o1 : Option am_V) (o2 : Option am_V) (o3 : Option am_V) (o4 : Option am_V) (o5 : Option am_V) (o6 : Option am_V), sm (dp + 3) am_d189 277 [some (.inr l0), o1, o2, o3, o4, o5, o6] [] (I, P, nx, sl) (sm_g2 P nx sl) (e60_277 l0 I)) (hr60 : ∀ (l0 : Nat) (l1 : Int32) (l2 : Int32) (I : am_M) (o3 : Option am_V) (o4 : Option am_V) (o5 : Option am_V) (o6 : Option am_V), sm (dp + 3) am_d189 60 [some (.inr l0), some (.inl l1), some (.inl l2), o3, o4, o5, o6] [] (I, P, nx, sl) (sm_g2 P nx sl) (r60 l0 l1 l2 I)) (l0 : Nat) (l1 : Int32) (l2 : Int32) (I : am_M) (o3 : Option am_V) (o4 : Option am_V) (o5 : Option am_V) (o6 : Option am_V) : sm (dp + 3) am_d189 60 [some (.inr l0), some (.inl l1), some (.inl l2), o3, o4, o5, o6] [] (I, P, nx, sl) (sm_g2 P nx sl) (fM_triesAll_B60 P e60_277 r60 l0 l1 l2 I) := by
  unfold fM_triesAll_B60
  refine r_iload rfl rfl ?_
  refine r_iload rfl rfl ?_
  refine r_icmp rfl rfl (fun c14 => ?_) (fun c14 => ?_)
  · exact he60_277 l0 I (some (.inl l1)) (some (.inl l2)) o3 o4 o5 o6
  · refine r_iload rfl rfl ?_
    refine r_istore (ls' := [some (.inr l0), some (.inl l1), some (.inl l2), some (.inl l2), o4, o5, o6]) rfl (Nat.le_of_ble_eq_true rfl) rfl ?_
    refine r_ck (fun h15 => ?_)
    refine r_aload rfl rfl (am_nz h15) ?_
    refine r_getI rfl h15 ?_
    refine r_const (x := 1) rfl rfl ?_
    refine r_bin (z := (I l0 45) - 1) rfl rfl (by decide) ?_
    refine r_bd (fun x16 => ?_)
    refine r_istore (ls' := [some (.inr l0), some (.inl l1), some (.inl l2), some (.inl l2), some (.inl x16), o5, o6]) rfl (Nat.le_of_ble_eq_true rfl) rfl ?_
    refine AfM_triesAll_L75 ?_ sm_fu l0 l1 l2 l2 x16 I o5 o6
    · intro l0 l1 l2 I o3 o4 o5 o6
      refine r_const (x := 1) rfl rfl ?_
      refine r_istore (ls' := [some (.inr l0), some (.inl l1), some (.inl l2), o3, some (.inl 1), o5, o6]) rfl (Nat.le_of_ble_eq_true rfl) rfl ?_
      refine r_const (x := 0) rfl rfl ?_
      refine r_istore (ls' := [some (.inr l0), some (.inl l1), some (.inl l2), o3, some (.inl 1), some (.inl 0), o6]) rfl (Nat.le_of_ble_eq_true rfl) rfl ?_
      refine AfM_triesAll_L143 ?_ sm_fu l0 l1 l2 1 0 I o3 o6
      · intro l0 l1 l2 l4 I o3 o5 o6
        refine r_const (x := 0) rfl rfl ?_
        refine r_istore (ls' := [some (.inr l0), some (.inl l1), some (.inl l2), o3, some (.inl l4), some (.inl 0), o6]) rfl (Nat.le_of_ble_eq_true rfl) rfl ?_
        refine AfM_triesAll_L211 ?_ sm_fu l0 l1 l2 l4 0 I o3 o6
        · intro l0 l1 l2 l4 I o3 o5 o6
          exact AfM_triesAll_J252 hr60 l0 l1 l2 l4 I o3 o5 o6
noncomputable def fM_triesAll_L60 (P : am_Q) (e60_277 : Nat → am_M → Option (am_M)) : Nat → Nat → Int32 → Int32 → am_M → Option (am_M)
  | 0, _, _, _, _ => none
  | n + 1, l0, l1, l2, I => fM_triesAll_B60 P e60_277 (fM_triesAll_L60 P e60_277 n) l0 l1 l2 I
theorem AfM_triesAll_L60 {dp : Nat} {P : am_Q} {nx : Nat} {sl : Nat} {e60_277 : Nat → am_M → Option (am_M)} (he60_277 : ∀ (l0 : Nat) (I : am_M) (o1 : Option am_V) (o2 : Option am_V) (o3 : Option am_V) (o4 : Option am_V) (o5 : Option am_V) (o6 : Option am_V), sm (dp + 3) am_d189 277 [some (.inr l0), o1, o2, o3, o4, o5, o6] [] (I, P, nx, sl) (sm_g2 P nx sl) (e60_277 l0 I)) (n : Nat) : ∀ (l0 : Nat) (l1 : Int32) (l2 : Int32) (I : am_M) (o3 : Option am_V) (o4 : Option am_V) (o5 : Option am_V) (o6 : Option am_V), sm (dp + 3) am_d189 60 [some (.inr l0), some (.inl l1), some (.inl l2), o3, o4, o5, o6] [] (I, P, nx, sl) (sm_g2 P nx sl) (fM_triesAll_L60 P e60_277 n l0 l1 l2 I) := by
  induction n with
  | zero => intro l0 l1 l2 I o3 o4 o5 o6; exact sm_none
  | succ n ih => intro l0 l1 l2 I o3 o4 o5 o6; exact AfM_triesAll_B60 he60_277 ih l0 l1 l2 I o3 o4 o5 o6
noncomputable def fM_triesAll_B279 (P : am_Q) (e279_303 : am_M → Option (am_M)) (r279 : Nat → Int32 → am_M → Option (am_M)) (l0 : Nat) (l2 : Int32) (I : am_M) : Option (am_M) :=
  if 14 ≤ l2 then
    (e279_303 I)
  else
    (sm_ck (am_t l0 = 13) <|
    sm_ck (sm_in (P l0 44) l2) <|
    sm_ck (sm_iw (P l0 9) l2) <|
    sm_bd (am_up I (P l0 9) l2.toNatClampNeg (I (P l0 44) l2.toNatClampNeg)) fun I60 =>
    sm_bd (l2 + 1) fun x61 =>
    r279 l0 x61 I60)
set_option maxRecDepth 100000 in
theorem AfM_triesAll_B279 {dp : Nat} {P : am_Q} {nx : Nat} {sl : Nat} {e279_303 : am_M → Option (am_M)} {r279 : Nat → Int32 → am_M → Option (am_M)} (he279_303 : ∀ (I : am_M) (o0 : Option am_V) (o1 : Option am_V) (o2 : Option am_V) (o3 : Option am_V) (o4 : Option am_V) (o5 : Option am_V) (o6 : Option am_V), sm (dp + 3) am_d189 303 [o0, o1, o2, o3, o4, o5, o6] [] (I, P, nx, sl) (sm_g2 P nx sl) (e279_303 I)) (hr279 : ∀ (l0 : Nat) (l2 : Int32) (I : am_M) (o1 : Option am_V) (o3 : Option am_V) (o4 : Option am_V) (o5 : Option am_V) (o6 : Option am_V), sm (dp + 3) am_d189 279 [some (.inr l0), o1, some (.inl l2), o3, o4, o5, o6] [] (I, P, nx, sl) (sm_g2 P nx sl) (r279 l0 l2 I)) (l0 : Nat) (l2 : Int32) (I : am_M) (o1 : Option am_V) (o3 : Option am_V) (o4 : Option am_V) (o5 : Option am_V) (o6 : Option am_V) : sm (dp + 3) am_d189 279 [some (.inr l0), o1, some (.inl l2), o3, o4, o5, o6] [] (I, P, nx, sl) (sm_g2 P nx sl) (fM_triesAll_B279 P e279_303 r279 l0 l2 I) := by
  unfold fM_triesAll_B279
  refine r_iload rfl rfl ?_
  refine r_const (x := 14) rfl rfl ?_
  refine r_icmp rfl rfl (fun c56 => ?_) (fun c56 => ?_)
  · exact he279_303 I (some (.inr l0)) o1 (some (.inl l2)) o3 o4 o5 o6
  · refine r_ck (fun h57 => ?_)
    refine r_aload rfl rfl (am_nz h57) ?_
    refine r_getP rfl h57 ?_
    refine r_iload rfl rfl ?_
    refine r_aload rfl rfl (am_nz h57) ?_
    refine r_getP rfl h57 ?_
    refine r_iload rfl rfl ?_
    refine r_ck (fun h58 => ?_)
    refine r_iald rfl h58 ?_
    refine r_ck (fun h59 => ?_)
    refine r_iast rfl h59 (fun I60 => ?_)
    refine r_iinc (e := l2 + 1) (ls' := fun x61 => [some (.inr l0), o1, some (.inl x61), o3, o4, o5, o6]) rfl rfl rfl (fun _ => rfl) (fun x61 => ?_)
    refine r_goto rfl ?_
    exact hr279 l0 x61 I60 o1 o3 o4 o5 o6
noncomputable def fM_triesAll_L279 (P : am_Q) (e279_303 : am_M → Option (am_M)) : Nat → Nat → Int32 → am_M → Option (am_M)
  | 0, _, _, _ => none
  | n + 1, l0, l2, I => fM_triesAll_B279 P e279_303 (fM_triesAll_L279 P e279_303 n) l0 l2 I
theorem AfM_triesAll_L279 {dp : Nat} {P : am_Q} {nx : Nat} {sl : Nat} {e279_303 : am_M → Option (am_M)} (he279_303 : ∀ (I : am_M) (o0 : Option am_V) (o1 : Option am_V) (o2 : Option am_V) (o3 : Option am_V) (o4 : Option am_V) (o5 : Option am_V) (o6 : Option am_V), sm (dp + 3) am_d189 303 [o0, o1, o2, o3, o4, o5, o6] [] (I, P, nx, sl) (sm_g2 P nx sl) (e279_303 I)) (n : Nat) : ∀ (l0 : Nat) (l2 : Int32) (I : am_M) (o1 : Option am_V) (o3 : Option am_V) (o4 : Option am_V) (o5 : Option am_V) (o6 : Option am_V), sm (dp + 3) am_d189 279 [some (.inr l0), o1, some (.inl l2), o3, o4, o5, o6] [] (I, P, nx, sl) (sm_g2 P nx sl) (fM_triesAll_L279 P e279_303 n l0 l2 I) := by
  induction n with
  | zero => intro l0 l2 I o1 o3 o4 o5 o6; exact sm_none
  | succ n ih => intro l0 l2 I o1 o3 o4 o5 o6; exact AfM_triesAll_B279 he279_303 ih l0 l2 I o1 o3 o4 o5 o6
noncomputable def fM_triesAll (P : am_Q) (l0 : Nat) (I : am_M) : Option (am_M) :=
  fM_triesAll_L2 P (fun l0 I =>
      fM_triesAll_L30 P (fun l0 l1 I =>
          sm_ck (am_t l0 = 13) <|
          sm_bd (am_up I l0 46 0) fun I13 =>
          fM_triesAll_L60 P (fun l0 I =>
              fM_triesAll_L279 P (fun I =>
                  some I) sm_fu l0 0 I) sm_fu l0 l1 0 I13) sm_fu l0 1 0 I) sm_fu l0 0 I
set_option maxRecDepth 100000 in
theorem AfM_triesAll {dp : Nat} {P : am_Q} {nx : Nat} {sl : Nat} {I : am_M} {l0 : Nat} {y : am_M} (hy : fM_triesAll P l0 I = some y) : sm_T (dp + 4) 189 [.inr l0] (I, P, nx, sl) ((sm_g2 P nx sl) y) := by
  refine r_meth (d := am_d189) (dp := dp + 3) (ls0 := [some (.inr l0), none, none, none, none, none, none]) rfl (by decide) rfl rfl ?_ hy
  unfold fM_triesAll
  refine r_const (x := 0) rfl rfl ?_
  refine r_istore (ls' := [some (.inr l0), some (.inl 0), none, none, none, none, none]) rfl (Nat.le_of_ble_eq_true rfl) rfl ?_
  refine AfM_triesAll_L2 ?_ sm_fu l0 0 I none none none none none
  · intro l0 I o1 o2 o3 o4 o5 o6
    refine r_const (x := 1) rfl rfl ?_
    refine r_istore (ls' := [some (.inr l0), some (.inl 1), o2, o3, o4, o5, o6]) rfl (Nat.le_of_ble_eq_true rfl) rfl ?_
    refine r_const (x := 0) rfl rfl ?_
    refine r_istore (ls' := [some (.inr l0), some (.inl 1), some (.inl 0), o3, o4, o5, o6]) rfl (Nat.le_of_ble_eq_true rfl) rfl ?_
    refine AfM_triesAll_L30 ?_ sm_fu l0 1 0 I o3 o4 o5 o6
    · intro l0 l1 I o2 o3 o4 o5 o6
      refine r_ck (fun h12 => ?_)
      refine r_aload rfl rfl (am_nz h12) ?_
      refine r_const (x := 0) rfl rfl ?_
      refine r_putI rfl h12 (fun hz => absurd hz (by decide)) (fun I13 => ?_)
      refine r_const (x := 0) rfl rfl ?_
      refine r_istore (ls' := [some (.inr l0), some (.inl l1), some (.inl 0), o3, o4, o5, o6]) rfl (Nat.le_of_ble_eq_true rfl) rfl ?_
      refine AfM_triesAll_L60 ?_ sm_fu l0 l1 0 I13 o3 o4 o5 o6
      · intro l0 I o1 o2 o3 o4 o5 o6
        refine r_const (x := 0) rfl rfl ?_
        refine r_istore (ls' := [some (.inr l0), o1, some (.inl 0), o3, o4, o5, o6]) rfl (Nat.le_of_ble_eq_true rfl) rfl ?_
        refine AfM_triesAll_L279 ?_ sm_fu l0 0 I o1 o3 o4 o5 o6
        · intro I o0 o1 o2 o3 o4 o5 o6
          exact r_return rfl rfl
noncomputable def fM_answers (P : am_Q) (l0 : Nat) (l1 : Int32) (I : am_M) : Option (Int32 × am_M) :=
  sm_ck (am_t l0 = 13) <|
  Option.bind (fM_isOf I P l0 0 l1) fun y2 =>
  if ¬ y2 = 0 then
    (Option.bind (fM_ringOf I P l0 l1) fun y4 =>
    if ¬ y4 = 0 then
      (Option.bind (fM_takesRing P l0 y4 I) fun y6 =>
      if (y6 l0 45) ≤ 3 then
        (Option.bind (fM_triesAll P l0 y6) fun y8 =>
        some (y8 l0 46, y8))
      else
        (Option.bind (fM_finds P l0 ((-1000007)) y6) fun y9 =>
        some (y9.1, y9.2)))
    else
      (Option.bind (fM_finds P l0 ((-1000004)) I) fun y10 =>
      some (y10.1, y10.2)))
  else
    (Option.bind (fM_finds P l0 ((-1000001)) I) fun y11 =>
    some (y11.1, y11.2))
set_option maxRecDepth 100000 in
theorem AfM_answers {dp : Nat} {P : am_Q} {nx : Nat} {sl : Nat} {I : am_M} {l0 : Nat} {l1 : Int32} {y : Int32 × am_M} (hy : fM_answers P l0 l1 I = some y) : sm_T (dp + 5) 187 [.inr l0, .inl l1] (I, P, nx, sl) ((sm_g1 P nx sl) y) := by
  refine r_meth (d := am_d187) (dp := dp + 4) (ls0 := [some (.inr l0), some (.inl l1), none]) rfl (by decide) rfl rfl ?_ hy
  unfold fM_answers
  refine r_ck (fun h1 => ?_)
  refine r_aload rfl rfl (am_nz h1) ?_
  refine r_const (x := 0) rfl rfl ?_
  refine r_iload rfl rfl ?_
  refine r_call0 rfl rfl h1 (fun y hy => AfM_isOf (dp := dp + 2) hy) (fun y2 => ?_)
  refine r_if rfl rfl (fun c3 => ?_) (fun c3 => ?_)
  · refine r_aload rfl rfl (am_nz h1) ?_
    refine r_iload rfl rfl ?_
    refine r_call0 rfl rfl h1 (fun y hy => AfM_ringOf (dp := dp + 0) hy) (fun y4 => ?_)
    refine r_istore (ls' := [some (.inr l0), some (.inl l1), some (.inl y4)]) rfl (Nat.le_of_ble_eq_true rfl) rfl ?_
    refine r_iload rfl rfl ?_
    refine r_if rfl rfl (fun c5 => ?_) (fun c5 => ?_)
    · refine r_aload rfl rfl (am_nz h1) ?_
      refine r_iload rfl rfl ?_
      refine r_call2 rfl rfl h1 (fun y hy => AfM_takesRing (dp := dp + 3) hy) (fun y6 => ?_)
      refine r_aload rfl rfl (am_nz h1) ?_
      refine r_getI rfl h1 ?_
      refine r_const (x := 3) rfl rfl ?_
      refine r_icmp rfl rfl (fun c7 => ?_) (fun c7 => ?_)
      · refine r_aload rfl rfl (am_nz h1) ?_
        refine r_call2 rfl rfl h1 (fun y hy => AfM_triesAll (dp := dp + 0) hy) (fun y8 => ?_)
        refine r_aload rfl rfl (am_nz h1) ?_
        refine r_getI rfl h1 ?_
        exact r_ireturn rfl (Or.inl rfl) rfl
      · refine r_aload rfl rfl (am_nz h1) ?_
        refine r_const (x := (-1000007)) rfl rfl ?_
        refine r_call1 rfl rfl h1 (fun y hy => AfM_finds (dp := dp + 3) hy) (fun y9 => ?_)
        exact r_ireturn rfl (Or.inl rfl) rfl
    · refine r_aload rfl rfl (am_nz h1) ?_
      refine r_const (x := (-1000004)) rfl rfl ?_
      refine r_call1 rfl rfl h1 (fun y hy => AfM_finds (dp := dp + 3) hy) (fun y10 => ?_)
      exact r_ireturn rfl (Or.inl rfl) rfl
  · refine r_aload rfl rfl (am_nz h1) ?_
    refine r_const (x := (-1000001)) rfl rfl ?_
    refine r_call1 rfl rfl h1 (fun y hy => AfM_finds (dp := dp + 3) hy) (fun y11 => ?_)
    exact r_ireturn rfl (Or.inl rfl) rfl
noncomputable def fM_solve (P : am_Q) (l0 : Nat) (l1 : Int32) (l2 : Int32) (I : am_M) : Option (Int32 × am_M) :=
  sm_ck (am_t l0 = 13) <|
  Option.bind (fM_isOf I P l0 0 l1) fun y2 =>
  if y2 = 0 then
    (Option.bind (fM_finds P l0 ((-1000001)) I) fun y4 =>
    some (y4.1, y4.2))
  else
    (if 0 ≤ l2 then
      (Option.bind (fM_ringOf I P l0 l1) fun y6 =>
      if ¬ y6 = 0 then
        (Option.bind (fM_takesRing P l0 y6 I) fun y8 =>
        if (y8 l0 45) ≤ 3 then
          (Option.bind (fM_triesAll P l0 y8) fun y10 =>
          if (y10 l0 46) = 0 then
            (Option.bind (fM_finds P l0 ((-1000004)) y10) fun y12 =>
            some (y12.1, y12.2))
          else
            (if l2 < (y10 l0 45) then
              (sm_ck (sm_in (P l0 43) l2) <|
              some (y10 (P l0 43) l2.toNatClampNeg, y10))
            else
              (Option.bind (fM_finds P l0 ((-1000004)) y10) fun y15 =>
              some (y15.1, y15.2))))
        else
          (Option.bind (fM_finds P l0 ((-1000007)) y8) fun y16 =>
          some (y16.1, y16.2)))
      else
        (Option.bind (fM_finds P l0 ((-1000004)) I) fun y17 =>
        some (y17.1, y17.2)))
    else
      (Option.bind (fM_finds P l0 ((-1000001)) I) fun y18 =>
      some (y18.1, y18.2)))
set_option maxRecDepth 100000 in
theorem AfM_solve {dp : Nat} {P : am_Q} {nx : Nat} {sl : Nat} {I : am_M} {l0 : Nat} {l1 : Int32} {l2 : Int32} {y : Int32 × am_M} (hy : fM_solve P l0 l1 l2 I = some y) : sm_T (dp + 5) 191 [.inr l0, .inl l1, .inl l2] (I, P, nx, sl) ((sm_g1 P nx sl) y) := by
  refine r_meth (d := am_d191) (dp := dp + 4) (ls0 := [some (.inr l0), some (.inl l1), some (.inl l2), none]) rfl (by decide) rfl rfl ?_ hy
  unfold fM_solve
  refine r_ck (fun h1 => ?_)
  refine r_aload rfl rfl (am_nz h1) ?_
  refine r_const (x := 0) rfl rfl ?_
  refine r_iload rfl rfl ?_
  refine r_call0 rfl rfl h1 (fun y hy => AfM_isOf (dp := dp + 2) hy) (fun y2 => ?_)
  refine r_if rfl rfl (fun c3 => ?_) (fun c3 => ?_)
  · refine r_aload rfl rfl (am_nz h1) ?_
    refine r_const (x := (-1000001)) rfl rfl ?_
    refine r_call1 rfl rfl h1 (fun y hy => AfM_finds (dp := dp + 3) hy) (fun y4 => ?_)
    exact r_ireturn rfl (Or.inl rfl) rfl
  · refine r_iload rfl rfl ?_
    refine r_if rfl rfl (fun c5 => ?_) (fun c5 => ?_)
    · refine r_aload rfl rfl (am_nz h1) ?_
      refine r_iload rfl rfl ?_
      refine r_call0 rfl rfl h1 (fun y hy => AfM_ringOf (dp := dp + 0) hy) (fun y6 => ?_)
      refine r_istore (ls' := [some (.inr l0), some (.inl l1), some (.inl l2), some (.inl y6)]) rfl (Nat.le_of_ble_eq_true rfl) rfl ?_
      refine r_iload rfl rfl ?_
      refine r_if rfl rfl (fun c7 => ?_) (fun c7 => ?_)
      · refine r_aload rfl rfl (am_nz h1) ?_
        refine r_iload rfl rfl ?_
        refine r_call2 rfl rfl h1 (fun y hy => AfM_takesRing (dp := dp + 3) hy) (fun y8 => ?_)
        refine r_aload rfl rfl (am_nz h1) ?_
        refine r_getI rfl h1 ?_
        refine r_const (x := 3) rfl rfl ?_
        refine r_icmp rfl rfl (fun c9 => ?_) (fun c9 => ?_)
        · refine r_aload rfl rfl (am_nz h1) ?_
          refine r_call2 rfl rfl h1 (fun y hy => AfM_triesAll (dp := dp + 0) hy) (fun y10 => ?_)
          refine r_aload rfl rfl (am_nz h1) ?_
          refine r_getI rfl h1 ?_
          refine r_if rfl rfl (fun c11 => ?_) (fun c11 => ?_)
          · refine r_aload rfl rfl (am_nz h1) ?_
            refine r_const (x := (-1000004)) rfl rfl ?_
            refine r_call1 rfl rfl h1 (fun y hy => AfM_finds (dp := dp + 3) hy) (fun y12 => ?_)
            refine r_goto rfl ?_
            exact r_ireturn rfl (Or.inl rfl) rfl
          · refine r_iload rfl rfl ?_
            refine r_aload rfl rfl (am_nz h1) ?_
            refine r_getI rfl h1 ?_
            refine r_icmp rfl rfl (fun c13 => ?_) (fun c13 => ?_)
            · refine r_aload rfl rfl (am_nz h1) ?_
              refine r_getP rfl h1 ?_
              refine r_iload rfl rfl ?_
              refine r_ck (fun h14 => ?_)
              refine r_iald rfl h14 ?_
              exact r_ireturn rfl (Or.inl rfl) rfl
            · refine r_aload rfl rfl (am_nz h1) ?_
              refine r_const (x := (-1000004)) rfl rfl ?_
              refine r_call1 rfl rfl h1 (fun y hy => AfM_finds (dp := dp + 3) hy) (fun y15 => ?_)
              refine r_goto rfl ?_
              exact r_ireturn rfl (Or.inl rfl) rfl
        · refine r_aload rfl rfl (am_nz h1) ?_
          refine r_const (x := (-1000007)) rfl rfl ?_
          refine r_call1 rfl rfl h1 (fun y hy => AfM_finds (dp := dp + 3) hy) (fun y16 => ?_)
          exact r_ireturn rfl (Or.inl rfl) rfl
      · refine r_aload rfl rfl (am_nz h1) ?_
        refine r_const (x := (-1000004)) rfl rfl ?_
        refine r_call1 rfl rfl h1 (fun y hy => AfM_finds (dp := dp + 3) hy) (fun y17 => ?_)
        exact r_ireturn rfl (Or.inl rfl) rfl
    · refine r_aload rfl rfl (am_nz h1) ?_
      refine r_const (x := (-1000001)) rfl rfl ?_
      refine r_call1 rfl rfl h1 (fun y hy => AfM_finds (dp := dp + 3) hy) (fun y18 => ?_)
      exact r_ireturn rfl (Or.inl rfl) rfl
noncomputable def fM_isSheet (l0 : Int32) : Option (Int32) :=
  Option.bind (fM_within l0 0 3) fun y1 =>
  sm_ck (sm_01 y1) <|
  some y1
set_option maxRecDepth 100000 in
theorem AfM_isSheet {dp : Nat} {S : am_S} {l0 : Int32} {y : Int32} (hy : fM_isSheet l0 = some y) : sm_T (dp + 2) 193 [.inl l0] S ((sm_g0 S) y) := by
  refine r_meth (d := am_d193) (dp := dp + 1) (ls0 := [some (.inl l0)]) rfl (by decide) rfl rfl ?_ hy
  unfold fM_isSheet
  refine r_iload rfl rfl ?_
  refine r_const (x := 0) rfl rfl ?_
  refine r_const (x := 3) rfl rfl ?_
  refine r_call0 rfl rfl trivial (fun y hy => AfM_within (dp := dp + 0) hy) (fun y1 => ?_)
  refine r_ck (fun h2 => ?_)
  exact r_ireturn rfl (Or.inr ⟨rfl, h2⟩) rfl
