noncomputable def fM_lay_B35 (P : am_Q) (e35_56 : Nat → Int32 → Int32 → Int32 → am_M → Option (Int32 × am_M)) (r35 : Nat → Int32 → Int32 → Int32 → Int32 → am_M → Option (Int32 × am_M)) (l0 : Nat) (l1 : Int32) (l2 : Int32) (l3 : Int32) (l4 : Int32) (I : am_M) : Option (Int32 × am_M) :=
  sm_ck (am_t l0 = 13) <|
  sm_ck (sm_in (P l0 1) 0) <|
  if (I (P l0 1) (0 : Int32).toNatClampNeg) ≤ l4 then
    (e35_56 l0 l1 l2 l3 I)
  else
    (sm_bd (l3 * l1) fun x9 =>
    sm_bd (l4 + 1) fun x10 =>
    r35 l0 l1 l2 x9 x10 I)
set_option maxRecDepth 100000 in
theorem AfM_lay_B35 {dp : Nat} {P : am_Q} {nx : Nat} {sl : Nat} {e35_56 : Nat → Int32 → Int32 → Int32 → am_M → Option (Int32 × am_M)} {r35 : Nat → Int32 → Int32 → Int32 → Int32 → am_M → Option (Int32 × am_M)} (he35_56 : ∀ (l0 : Nat) (l1 : Int32) (l2 : Int32) (l3 : Int32) (I : am_M) (o4 : Option am_V) (o5 : Option am_V) (o6 : Option am_V) (o7 : Option am_V) (o8 : Option am_V), sm (dp + 2) am_d212 56 [some (.inr l0), some (.inl l1), some (.inl l2), some (.inl l3), o4, o5, o6, o7, o8] [] (I, P, nx, sl) (sm_g1 P nx sl) (e35_56 l0 l1 l2 l3 I)) (hr35 : ∀ (l0 : Nat) (l1 : Int32) (l2 : Int32) (l3 : Int32) (l4 : Int32) (I : am_M) (o5 : Option am_V) (o6 : Option am_V) (o7 : Option am_V) (o8 : Option am_V), sm (dp + 2) am_d212 35 [some (.inr l0), some (.inl l1), some (.inl l2), some (.inl l3), some (.inl l4), o5, o6, o7, o8] [] (I, P, nx, sl) (sm_g1 P nx sl) (r35 l0 l1 l2 l3 l4 I)) (l0 : Nat) (l1 : Int32) (l2 : Int32) (l3 : Int32) (l4 : Int32) (I : am_M) (o5 : Option am_V) (o6 : Option am_V) (o7 : Option am_V) (o8 : Option am_V) : sm (dp + 2) am_d212 35 [some (.inr l0), some (.inl l1), some (.inl l2), some (.inl l3), some (.inl l4), o5, o6, o7, o8] [] (I, P, nx, sl) (sm_g1 P nx sl) (fM_lay_B35 P e35_56 r35 l0 l1 l2 l3 l4 I) := by
  unfold fM_lay_B35
  refine r_iload rfl rfl ?_
  refine r_ck (fun h6 => ?_)
  refine r_aload rfl rfl (am_nz h6) ?_
  refine r_getP rfl h6 ?_
  refine r_const (x := 0) rfl rfl ?_
  refine r_ck (fun h7 => ?_)
  refine r_iald rfl h7 ?_
  refine r_icmp rfl rfl (fun c8 => ?_) (fun c8 => ?_)
  · exact he35_56 l0 l1 l2 l3 I (some (.inl l4)) o5 o6 o7 o8
  · refine r_iload rfl rfl ?_
    refine r_iload rfl rfl ?_
    refine r_bin (z := l3 * l1) rfl rfl (by decide) ?_
    refine r_bd (fun x9 => ?_)
    refine r_istore (ls' := [some (.inr l0), some (.inl l1), some (.inl l2), some (.inl x9), some (.inl l4), o5, o6, o7, o8]) rfl (Nat.le_of_ble_eq_true rfl) rfl ?_
    refine r_iinc (e := l4 + 1) (ls' := fun x10 => [some (.inr l0), some (.inl l1), some (.inl l2), some (.inl x9), some (.inl x10), o5, o6, o7, o8]) rfl rfl rfl (fun _ => rfl) (fun x10 => ?_)
    refine r_goto rfl ?_
    exact hr35 l0 l1 l2 x9 x10 I o5 o6 o7 o8
noncomputable def fM_lay_L35 (P : am_Q) (e35_56 : Nat → Int32 → Int32 → Int32 → am_M → Option (Int32 × am_M)) : Nat → Nat → Int32 → Int32 → Int32 → Int32 → am_M → Option (Int32 × am_M)
  | 0, _, _, _, _, _, _ => none
  | n + 1, l0, l1, l2, l3, l4, I => fM_lay_B35 P e35_56 (fM_lay_L35 P e35_56 n) l0 l1 l2 l3 l4 I
theorem AfM_lay_L35 {dp : Nat} {P : am_Q} {nx : Nat} {sl : Nat} {e35_56 : Nat → Int32 → Int32 → Int32 → am_M → Option (Int32 × am_M)} (he35_56 : ∀ (l0 : Nat) (l1 : Int32) (l2 : Int32) (l3 : Int32) (I : am_M) (o4 : Option am_V) (o5 : Option am_V) (o6 : Option am_V) (o7 : Option am_V) (o8 : Option am_V), sm (dp + 2) am_d212 56 [some (.inr l0), some (.inl l1), some (.inl l2), some (.inl l3), o4, o5, o6, o7, o8] [] (I, P, nx, sl) (sm_g1 P nx sl) (e35_56 l0 l1 l2 l3 I)) (n : Nat) : ∀ (l0 : Nat) (l1 : Int32) (l2 : Int32) (l3 : Int32) (l4 : Int32) (I : am_M) (o5 : Option am_V) (o6 : Option am_V) (o7 : Option am_V) (o8 : Option am_V), sm (dp + 2) am_d212 35 [some (.inr l0), some (.inl l1), some (.inl l2), some (.inl l3), some (.inl l4), o5, o6, o7, o8] [] (I, P, nx, sl) (sm_g1 P nx sl) (fM_lay_L35 P e35_56 n l0 l1 l2 l3 l4 I) := by
  induction n with
  | zero => intro l0 l1 l2 l3 l4 I o5 o6 o7 o8; exact sm_none
  | succ n ih => intro l0 l1 l2 l3 l4 I o5 o6 o7 o8; exact AfM_lay_B35 he35_56 ih l0 l1 l2 l3 l4 I o5 o6 o7 o8
noncomputable def fM_lay_B82 (P : am_Q) (e82_110 : Nat → Int32 → Int32 → Int32 → Int32 → Int32 → am_M → Option (Int32 × am_M)) (r82 : Nat → Int32 → Int32 → Int32 → Int32 → Int32 → Int32 → Int32 → am_M → Option (Int32 × am_M)) (l0 : Nat) (l1 : Int32) (l2 : Int32) (l3 : Int32) (l4 : Int32) (l5 : Int32) (l6 : Int32) (l7 : Int32) (I : am_M) : Option (Int32 × am_M) :=
  if l7 < 0 then
    (e82_110 l0 l1 l2 l3 l4 l5 I)
  else
    (sm_ck (am_t l0 = 13) <|
    sm_ck (¬ l1 = 0) <|
    sm_ck (sm_iw (P l0 54) l7) <|
    sm_bd (am_up I (P l0 54) l7.toNatClampNeg (sm_rem l6 l1)) fun I19 =>
    sm_ck (¬ l1 = 0) <|
    sm_bd (l6 / l1) fun x21 =>
    sm_bd (l7 + (-1)) fun x22 =>
    r82 l0 l1 l2 l3 l4 l5 x21 x22 I19)
set_option maxRecDepth 100000 in
theorem AfM_lay_B82 {dp : Nat} {P : am_Q} {nx : Nat} {sl : Nat} {e82_110 : Nat → Int32 → Int32 → Int32 → Int32 → Int32 → am_M → Option (Int32 × am_M)} {r82 : Nat → Int32 → Int32 → Int32 → Int32 → Int32 → Int32 → Int32 → am_M → Option (Int32 × am_M)} (he82_110 : ∀ (l0 : Nat) (l1 : Int32) (l2 : Int32) (l3 : Int32) (l4 : Int32) (l5 : Int32) (I : am_M) (o6 : Option am_V) (o7 : Option am_V) (o8 : Option am_V), sm (dp + 2) am_d212 110 [some (.inr l0), some (.inl l1), some (.inl l2), some (.inl l3), some (.inl l4), some (.inl l5), o6, o7, o8] [] (I, P, nx, sl) (sm_g1 P nx sl) (e82_110 l0 l1 l2 l3 l4 l5 I)) (hr82 : ∀ (l0 : Nat) (l1 : Int32) (l2 : Int32) (l3 : Int32) (l4 : Int32) (l5 : Int32) (l6 : Int32) (l7 : Int32) (I : am_M) (o8 : Option am_V), sm (dp + 2) am_d212 82 [some (.inr l0), some (.inl l1), some (.inl l2), some (.inl l3), some (.inl l4), some (.inl l5), some (.inl l6), some (.inl l7), o8] [] (I, P, nx, sl) (sm_g1 P nx sl) (r82 l0 l1 l2 l3 l4 l5 l6 l7 I)) (l0 : Nat) (l1 : Int32) (l2 : Int32) (l3 : Int32) (l4 : Int32) (l5 : Int32) (l6 : Int32) (l7 : Int32) (I : am_M) (o8 : Option am_V) : sm (dp + 2) am_d212 82 [some (.inr l0), some (.inl l1), some (.inl l2), some (.inl l3), some (.inl l4), some (.inl l5), some (.inl l6), some (.inl l7), o8] [] (I, P, nx, sl) (sm_g1 P nx sl) (fM_lay_B82 P e82_110 r82 l0 l1 l2 l3 l4 l5 l6 l7 I) := by
  unfold fM_lay_B82
  refine r_iload rfl rfl ?_
  refine r_if rfl rfl (fun c15 => ?_) (fun c15 => ?_)
  · exact he82_110 l0 l1 l2 l3 l4 l5 I (some (.inl l6)) (some (.inl l7)) o8
  · refine r_ck (fun h16 => ?_)
    refine r_aload rfl rfl (am_nz h16) ?_
    refine r_getP rfl h16 ?_
    refine r_iload rfl rfl ?_
    refine r_iload rfl rfl ?_
    refine r_iload rfl rfl ?_
    refine r_ck (fun h17 => ?_)
    refine r_bin (z := sm_rem l6 l1) rfl (sm_rv h17) (by decide) ?_
    refine r_ck (fun h18 => ?_)
    refine r_iast rfl h18 (fun I19 => ?_)
    refine r_iload rfl rfl ?_
    refine r_iload rfl rfl ?_
    refine r_ck (fun h20 => ?_)
    refine r_bin (z := l6 / l1) rfl (sm_dv h20) (by decide) ?_
    refine r_bd (fun x21 => ?_)
    refine r_istore (ls' := [some (.inr l0), some (.inl l1), some (.inl l2), some (.inl l3), some (.inl l4), some (.inl l5), some (.inl x21), some (.inl l7), o8]) rfl (Nat.le_of_ble_eq_true rfl) rfl ?_
    refine r_iinc (e := l7 + (-1)) (ls' := fun x22 => [some (.inr l0), some (.inl l1), some (.inl l2), some (.inl l3), some (.inl l4), some (.inl l5), some (.inl x21), some (.inl x22), o8]) rfl rfl rfl (fun _ => rfl) (fun x22 => ?_)
    refine r_goto rfl ?_
    exact hr82 l0 l1 l2 l3 l4 l5 x21 x22 I19 o8
noncomputable def fM_lay_L82 (P : am_Q) (e82_110 : Nat → Int32 → Int32 → Int32 → Int32 → Int32 → am_M → Option (Int32 × am_M)) : Nat → Nat → Int32 → Int32 → Int32 → Int32 → Int32 → Int32 → Int32 → am_M → Option (Int32 × am_M)
  | 0, _, _, _, _, _, _, _, _, _ => none
  | n + 1, l0, l1, l2, l3, l4, l5, l6, l7, I => fM_lay_B82 P e82_110 (fM_lay_L82 P e82_110 n) l0 l1 l2 l3 l4 l5 l6 l7 I
theorem AfM_lay_L82 {dp : Nat} {P : am_Q} {nx : Nat} {sl : Nat} {e82_110 : Nat → Int32 → Int32 → Int32 → Int32 → Int32 → am_M → Option (Int32 × am_M)} (he82_110 : ∀ (l0 : Nat) (l1 : Int32) (l2 : Int32) (l3 : Int32) (l4 : Int32) (l5 : Int32) (I : am_M) (o6 : Option am_V) (o7 : Option am_V) (o8 : Option am_V), sm (dp + 2) am_d212 110 [some (.inr l0), some (.inl l1), some (.inl l2), some (.inl l3), some (.inl l4), some (.inl l5), o6, o7, o8] [] (I, P, nx, sl) (sm_g1 P nx sl) (e82_110 l0 l1 l2 l3 l4 l5 I)) (n : Nat) : ∀ (l0 : Nat) (l1 : Int32) (l2 : Int32) (l3 : Int32) (l4 : Int32) (l5 : Int32) (l6 : Int32) (l7 : Int32) (I : am_M) (o8 : Option am_V), sm (dp + 2) am_d212 82 [some (.inr l0), some (.inl l1), some (.inl l2), some (.inl l3), some (.inl l4), some (.inl l5), some (.inl l6), some (.inl l7), o8] [] (I, P, nx, sl) (sm_g1 P nx sl) (fM_lay_L82 P e82_110 n l0 l1 l2 l3 l4 l5 l6 l7 I) := by
  induction n with
  | zero => intro l0 l1 l2 l3 l4 l5 l6 l7 I o8; exact sm_none
  | succ n ih => intro l0 l1 l2 l3 l4 l5 l6 l7 I o8; exact AfM_lay_B82 he82_110 ih l0 l1 l2 l3 l4 l5 l6 l7 I o8
noncomputable def fM_lay_B135 (P : am_Q) (e135_166 : Nat → Int32 → Int32 → Int32 → Int32 → Int32 → am_M → Option (Int32 × am_M)) (r135 : Nat → Int32 → Int32 → Int32 → Int32 → Int32 → Int32 → am_M → Option (Int32 × am_M)) (l0 : Nat) (l1 : Int32) (l2 : Int32) (l3 : Int32) (l4 : Int32) (l5 : Int32) (l8 : Int32) (I : am_M) : Option (Int32 × am_M) :=
  sm_ck (am_t l0 = 13) <|
  sm_ck (sm_in (P l0 1) 0) <|
  if (I (P l0 1) (0 : Int32).toNatClampNeg) ≤ l8 then
    (e135_166 l0 l1 l2 l3 l4 l5 I)
  else
    (sm_ck (sm_in (P l0 54) l8) <|
    sm_ck (sm_iw (P l0 55) l8) <|
    sm_bd (am_up I (P l0 55) l8.toNatClampNeg (I (P l0 54) l8.toNatClampNeg)) fun I31 =>
    sm_bd (l8 + 1) fun x32 =>
    r135 l0 l1 l2 l3 l4 l5 x32 I31)
set_option maxRecDepth 100000 in
theorem AfM_lay_B135 {dp : Nat} {P : am_Q} {nx : Nat} {sl : Nat} {e135_166 : Nat → Int32 → Int32 → Int32 → Int32 → Int32 → am_M → Option (Int32 × am_M)} {r135 : Nat → Int32 → Int32 → Int32 → Int32 → Int32 → Int32 → am_M → Option (Int32 × am_M)} (he135_166 : ∀ (l0 : Nat) (l1 : Int32) (l2 : Int32) (l3 : Int32) (l4 : Int32) (l5 : Int32) (I : am_M) (o6 : Option am_V) (o7 : Option am_V) (o8 : Option am_V), sm (dp + 2) am_d212 166 [some (.inr l0), some (.inl l1), some (.inl l2), some (.inl l3), some (.inl l4), some (.inl l5), o6, o7, o8] [] (I, P, nx, sl) (sm_g1 P nx sl) (e135_166 l0 l1 l2 l3 l4 l5 I)) (hr135 : ∀ (l0 : Nat) (l1 : Int32) (l2 : Int32) (l3 : Int32) (l4 : Int32) (l5 : Int32) (l8 : Int32) (I : am_M) (o6 : Option am_V) (o7 : Option am_V), sm (dp + 2) am_d212 135 [some (.inr l0), some (.inl l1), some (.inl l2), some (.inl l3), some (.inl l4), some (.inl l5), o6, o7, some (.inl l8)] [] (I, P, nx, sl) (sm_g1 P nx sl) (r135 l0 l1 l2 l3 l4 l5 l8 I)) (l0 : Nat) (l1 : Int32) (l2 : Int32) (l3 : Int32) (l4 : Int32) (l5 : Int32) (l8 : Int32) (I : am_M) (o6 : Option am_V) (o7 : Option am_V) : sm (dp + 2) am_d212 135 [some (.inr l0), some (.inl l1), some (.inl l2), some (.inl l3), some (.inl l4), some (.inl l5), o6, o7, some (.inl l8)] [] (I, P, nx, sl) (sm_g1 P nx sl) (fM_lay_B135 P e135_166 r135 l0 l1 l2 l3 l4 l5 l8 I) := by
  unfold fM_lay_B135
  refine r_iload rfl rfl ?_
  refine r_ck (fun h26 => ?_)
  refine r_aload rfl rfl (am_nz h26) ?_
  refine r_getP rfl h26 ?_
  refine r_const (x := 0) rfl rfl ?_
  refine r_ck (fun h27 => ?_)
  refine r_iald rfl h27 ?_
  refine r_icmp rfl rfl (fun c28 => ?_) (fun c28 => ?_)
  · exact he135_166 l0 l1 l2 l3 l4 l5 I o6 o7 (some (.inl l8))
  · refine r_aload rfl rfl (am_nz h26) ?_
    refine r_getP rfl h26 ?_
    refine r_iload rfl rfl ?_
    refine r_aload rfl rfl (am_nz h26) ?_
    refine r_getP rfl h26 ?_
    refine r_iload rfl rfl ?_
    refine r_ck (fun h29 => ?_)
    refine r_iald rfl h29 ?_
    refine r_ck (fun h30 => ?_)
    refine r_iast rfl h30 (fun I31 => ?_)
    refine r_iinc (e := l8 + 1) (ls' := fun x32 => [some (.inr l0), some (.inl l1), some (.inl l2), some (.inl l3), some (.inl l4), some (.inl l5), o6, o7, some (.inl x32)]) rfl rfl rfl (fun _ => rfl) (fun x32 => ?_)
    refine r_goto rfl ?_
    exact hr135 l0 l1 l2 l3 l4 l5 x32 I31 o6 o7
noncomputable def fM_lay_L135 (P : am_Q) (e135_166 : Nat → Int32 → Int32 → Int32 → Int32 → Int32 → am_M → Option (Int32 × am_M)) : Nat → Nat → Int32 → Int32 → Int32 → Int32 → Int32 → Int32 → am_M → Option (Int32 × am_M)
  | 0, _, _, _, _, _, _, _, _ => none
  | n + 1, l0, l1, l2, l3, l4, l5, l8, I => fM_lay_B135 P e135_166 (fM_lay_L135 P e135_166 n) l0 l1 l2 l3 l4 l5 l8 I
theorem AfM_lay_L135 {dp : Nat} {P : am_Q} {nx : Nat} {sl : Nat} {e135_166 : Nat → Int32 → Int32 → Int32 → Int32 → Int32 → am_M → Option (Int32 × am_M)} (he135_166 : ∀ (l0 : Nat) (l1 : Int32) (l2 : Int32) (l3 : Int32) (l4 : Int32) (l5 : Int32) (I : am_M) (o6 : Option am_V) (o7 : Option am_V) (o8 : Option am_V), sm (dp + 2) am_d212 166 [some (.inr l0), some (.inl l1), some (.inl l2), some (.inl l3), some (.inl l4), some (.inl l5), o6, o7, o8] [] (I, P, nx, sl) (sm_g1 P nx sl) (e135_166 l0 l1 l2 l3 l4 l5 I)) (n : Nat) : ∀ (l0 : Nat) (l1 : Int32) (l2 : Int32) (l3 : Int32) (l4 : Int32) (l5 : Int32) (l8 : Int32) (I : am_M) (o6 : Option am_V) (o7 : Option am_V), sm (dp + 2) am_d212 135 [some (.inr l0), some (.inl l1), some (.inl l2), some (.inl l3), some (.inl l4), some (.inl l5), o6, o7, some (.inl l8)] [] (I, P, nx, sl) (sm_g1 P nx sl) (fM_lay_L135 P e135_166 n l0 l1 l2 l3 l4 l5 l8 I) := by
  induction n with
  | zero => intro l0 l1 l2 l3 l4 l5 l8 I o6 o7; exact sm_none
  | succ n ih => intro l0 l1 l2 l3 l4 l5 l8 I o6 o7; exact AfM_lay_B135 he135_166 ih l0 l1 l2 l3 l4 l5 l8 I o6 o7
noncomputable def fM_lay_J166 (P : am_Q) (r62 : Nat → Int32 → Int32 → Int32 → Int32 → Int32 → am_M → Option (Int32 × am_M)) (l0 : Nat) (l1 : Int32) (l2 : Int32) (l3 : Int32) (l4 : Int32) (l5 : Int32) (I : am_M) : Option (Int32 × am_M) :=
  sm_bd (l5 + 1) fun x33 =>
  r62 l0 l1 l2 l3 l4 x33 I
set_option maxRecDepth 100000 in
theorem AfM_lay_J166 {dp : Nat} {P : am_Q} {nx : Nat} {sl : Nat} {r62 : Nat → Int32 → Int32 → Int32 → Int32 → Int32 → am_M → Option (Int32 × am_M)} (hr62 : ∀ (l0 : Nat) (l1 : Int32) (l2 : Int32) (l3 : Int32) (l4 : Int32) (l5 : Int32) (I : am_M) (o6 : Option am_V) (o7 : Option am_V) (o8 : Option am_V), sm (dp + 2) am_d212 62 [some (.inr l0), some (.inl l1), some (.inl l2), some (.inl l3), some (.inl l4), some (.inl l5), o6, o7, o8] [] (I, P, nx, sl) (sm_g1 P nx sl) (r62 l0 l1 l2 l3 l4 l5 I)) (l0 : Nat) (l1 : Int32) (l2 : Int32) (l3 : Int32) (l4 : Int32) (l5 : Int32) (I : am_M) (o6 : Option am_V) (o7 : Option am_V) (o8 : Option am_V) : sm (dp + 2) am_d212 166 [some (.inr l0), some (.inl l1), some (.inl l2), some (.inl l3), some (.inl l4), some (.inl l5), o6, o7, o8] [] (I, P, nx, sl) (sm_g1 P nx sl) (fM_lay_J166 P r62 l0 l1 l2 l3 l4 l5 I) := by
  unfold fM_lay_J166
  refine r_iinc (e := l5 + 1) (ls' := fun x33 => [some (.inr l0), some (.inl l1), some (.inl l2), some (.inl l3), some (.inl l4), some (.inl x33), o6, o7, o8]) rfl rfl rfl (fun _ => rfl) (fun x33 => ?_)
  refine r_goto rfl ?_
  exact hr62 l0 l1 l2 l3 l4 x33 I o6 o7 o8
noncomputable def fM_lay_J128 (P : am_Q) (r62 : Nat → Int32 → Int32 → Int32 → Int32 → Int32 → am_M → Option (Int32 × am_M)) (l0 : Nat) (l1 : Int32) (l2 : Int32) (l3 : Int32) (l5 : Int32) (l7 : Int32) (I : am_M) : Option (Int32 × am_M) :=
  fM_lay_L135 P (fun l0 l1 l2 l3 l4 l5 I =>
      fM_lay_J166 P r62 l0 l1 l2 l3 l4 l5 I) sm_fu l0 l1 l2 l3 l7 l5 0 I
set_option maxRecDepth 100000 in
theorem AfM_lay_J128 {dp : Nat} {P : am_Q} {nx : Nat} {sl : Nat} {r62 : Nat → Int32 → Int32 → Int32 → Int32 → Int32 → am_M → Option (Int32 × am_M)} (hr62 : ∀ (l0 : Nat) (l1 : Int32) (l2 : Int32) (l3 : Int32) (l4 : Int32) (l5 : Int32) (I : am_M) (o6 : Option am_V) (o7 : Option am_V) (o8 : Option am_V), sm (dp + 2) am_d212 62 [some (.inr l0), some (.inl l1), some (.inl l2), some (.inl l3), some (.inl l4), some (.inl l5), o6, o7, o8] [] (I, P, nx, sl) (sm_g1 P nx sl) (r62 l0 l1 l2 l3 l4 l5 I)) (l0 : Nat) (l1 : Int32) (l2 : Int32) (l3 : Int32) (l5 : Int32) (l7 : Int32) (I : am_M) (o4 : Option am_V) (o6 : Option am_V) (o8 : Option am_V) : sm (dp + 2) am_d212 128 [some (.inr l0), some (.inl l1), some (.inl l2), some (.inl l3), o4, some (.inl l5), o6, some (.inl l7), o8] [] (I, P, nx, sl) (sm_g1 P nx sl) (fM_lay_J128 P r62 l0 l1 l2 l3 l5 l7 I) := by
  unfold fM_lay_J128
  refine r_iload rfl rfl ?_
  refine r_istore (ls' := [some (.inr l0), some (.inl l1), some (.inl l2), some (.inl l3), some (.inl l7), some (.inl l5), o6, some (.inl l7), o8]) rfl (Nat.le_of_ble_eq_true rfl) rfl ?_
  refine r_const (x := 0) rfl rfl ?_
  refine r_istore (ls' := [some (.inr l0), some (.inl l1), some (.inl l2), some (.inl l3), some (.inl l7), some (.inl l5), o6, some (.inl l7), some (.inl 0)]) rfl (Nat.le_of_ble_eq_true rfl) rfl ?_
  refine AfM_lay_L135 ?_ sm_fu l0 l1 l2 l3 l7 l5 0 I o6 (some (.inl l7))
  · intro l0 l1 l2 l3 l4 l5 I o6 o7 o8
    exact AfM_lay_J166 hr62 l0 l1 l2 l3 l4 l5 I o6 o7 o8
noncomputable def fM_lay_B62 (P : am_Q) (e62_172 : Nat → Int32 → Int32 → am_M → Option (Int32 × am_M)) (r62 : Nat → Int32 → Int32 → Int32 → Int32 → Int32 → am_M → Option (Int32 × am_M)) (l0 : Nat) (l1 : Int32) (l2 : Int32) (l3 : Int32) (l4 : Int32) (l5 : Int32) (I : am_M) : Option (Int32 × am_M) :=
  if l3 ≤ l5 then
    (e62_172 l0 l2 l4 I)
  else
    (sm_ck (am_t l0 = 13) <|
    sm_ck (sm_in (P l0 1) 0) <|
    sm_bd ((I (P l0 1) (0 : Int32).toNatClampNeg) - 1) fun x14 =>
    fM_lay_L82 P (fun l0 l1 l2 l3 l4 l5 I =>
        sm_ck (am_t l0 = 13) <|
        Option.bind (fM_endOf P l0 I) fun y24 =>
        if l4 < 0 then
          (fM_lay_J128 P r62 l0 l1 l2 l3 l5 y24.1 y24.2)
        else
          (if l4 ≤ y24.1 then
            (fM_lay_J166 P r62 l0 l1 l2 l3 l4 l5 y24.2)
          else
            (fM_lay_J128 P r62 l0 l1 l2 l3 l5 y24.1 y24.2))) sm_fu l0 l1 l2 l3 l4 l5 l5 x14 I)
set_option maxRecDepth 100000 in
theorem AfM_lay_B62 {dp : Nat} {P : am_Q} {nx : Nat} {sl : Nat} {e62_172 : Nat → Int32 → Int32 → am_M → Option (Int32 × am_M)} {r62 : Nat → Int32 → Int32 → Int32 → Int32 → Int32 → am_M → Option (Int32 × am_M)} (he62_172 : ∀ (l0 : Nat) (l2 : Int32) (l4 : Int32) (I : am_M) (o1 : Option am_V) (o3 : Option am_V) (o5 : Option am_V) (o6 : Option am_V) (o7 : Option am_V) (o8 : Option am_V), sm (dp + 2) am_d212 172 [some (.inr l0), o1, some (.inl l2), o3, some (.inl l4), o5, o6, o7, o8] [] (I, P, nx, sl) (sm_g1 P nx sl) (e62_172 l0 l2 l4 I)) (hr62 : ∀ (l0 : Nat) (l1 : Int32) (l2 : Int32) (l3 : Int32) (l4 : Int32) (l5 : Int32) (I : am_M) (o6 : Option am_V) (o7 : Option am_V) (o8 : Option am_V), sm (dp + 2) am_d212 62 [some (.inr l0), some (.inl l1), some (.inl l2), some (.inl l3), some (.inl l4), some (.inl l5), o6, o7, o8] [] (I, P, nx, sl) (sm_g1 P nx sl) (r62 l0 l1 l2 l3 l4 l5 I)) (l0 : Nat) (l1 : Int32) (l2 : Int32) (l3 : Int32) (l4 : Int32) (l5 : Int32) (I : am_M) (o6 : Option am_V) (o7 : Option am_V) (o8 : Option am_V) : sm (dp + 2) am_d212 62 [some (.inr l0), some (.inl l1), some (.inl l2), some (.inl l3), some (.inl l4), some (.inl l5), o6, o7, o8] [] (I, P, nx, sl) (sm_g1 P nx sl) (fM_lay_B62 P e62_172 r62 l0 l1 l2 l3 l4 l5 I) := by
  unfold fM_lay_B62
  refine r_iload rfl rfl ?_
  refine r_iload rfl rfl ?_
  refine r_icmp rfl rfl (fun c11 => ?_) (fun c11 => ?_)
  · exact he62_172 l0 l2 l4 I (some (.inl l1)) (some (.inl l3)) (some (.inl l5)) o6 o7 o8
  · refine r_iload rfl rfl ?_
    refine r_istore (ls' := [some (.inr l0), some (.inl l1), some (.inl l2), some (.inl l3), some (.inl l4), some (.inl l5), some (.inl l5), o7, o8]) rfl (Nat.le_of_ble_eq_true rfl) rfl ?_
    refine r_ck (fun h12 => ?_)
    refine r_aload rfl rfl (am_nz h12) ?_
    refine r_getP rfl h12 ?_
    refine r_const (x := 0) rfl rfl ?_
    refine r_ck (fun h13 => ?_)
    refine r_iald rfl h13 ?_
    refine r_const (x := 1) rfl rfl ?_
    refine r_bin (z := (I (P l0 1) (0 : Int32).toNatClampNeg) - 1) rfl rfl (by decide) ?_
    refine r_bd (fun x14 => ?_)
    refine r_istore (ls' := [some (.inr l0), some (.inl l1), some (.inl l2), some (.inl l3), some (.inl l4), some (.inl l5), some (.inl l5), some (.inl x14), o8]) rfl (Nat.le_of_ble_eq_true rfl) rfl ?_
    refine AfM_lay_L82 ?_ sm_fu l0 l1 l2 l3 l4 l5 l5 x14 I o8
    · intro l0 l1 l2 l3 l4 l5 I o6 o7 o8
      refine r_ck (fun h23 => ?_)
      refine r_aload rfl rfl (am_nz h23) ?_
      refine r_call1 rfl rfl h23 (fun y hy => AfM_endOf (dp := dp + 1) hy) (fun y24 => ?_)
      refine r_istore (ls' := [some (.inr l0), some (.inl l1), some (.inl l2), some (.inl l3), some (.inl l4), some (.inl l5), o6, some (.inl y24.1), o8]) rfl (Nat.le_of_ble_eq_true rfl) rfl ?_
      refine r_iload rfl rfl ?_
      refine r_if rfl rfl (fun c25 => ?_) (fun c25 => ?_)
      · exact AfM_lay_J128 hr62 l0 l1 l2 l3 l5 y24.1 y24.2 (some (.inl l4)) o6 o8
      · refine r_iload rfl rfl ?_
        refine r_iload rfl rfl ?_
        refine r_icmp rfl rfl (fun c34 => ?_) (fun c34 => ?_)
        · exact AfM_lay_J166 hr62 l0 l1 l2 l3 l4 l5 y24.2 o6 (some (.inl y24.1)) o8
        · exact AfM_lay_J128 hr62 l0 l1 l2 l3 l5 y24.1 y24.2 (some (.inl l4)) o6 o8
noncomputable def fM_lay_L62 (P : am_Q) (e62_172 : Nat → Int32 → Int32 → am_M → Option (Int32 × am_M)) : Nat → Nat → Int32 → Int32 → Int32 → Int32 → Int32 → am_M → Option (Int32 × am_M)
  | 0, _, _, _, _, _, _, _ => none
  | n + 1, l0, l1, l2, l3, l4, l5, I => fM_lay_B62 P e62_172 (fM_lay_L62 P e62_172 n) l0 l1 l2 l3 l4 l5 I
theorem AfM_lay_L62 {dp : Nat} {P : am_Q} {nx : Nat} {sl : Nat} {e62_172 : Nat → Int32 → Int32 → am_M → Option (Int32 × am_M)} (he62_172 : ∀ (l0 : Nat) (l2 : Int32) (l4 : Int32) (I : am_M) (o1 : Option am_V) (o3 : Option am_V) (o5 : Option am_V) (o6 : Option am_V) (o7 : Option am_V) (o8 : Option am_V), sm (dp + 2) am_d212 172 [some (.inr l0), o1, some (.inl l2), o3, some (.inl l4), o5, o6, o7, o8] [] (I, P, nx, sl) (sm_g1 P nx sl) (e62_172 l0 l2 l4 I)) (n : Nat) : ∀ (l0 : Nat) (l1 : Int32) (l2 : Int32) (l3 : Int32) (l4 : Int32) (l5 : Int32) (I : am_M) (o6 : Option am_V) (o7 : Option am_V) (o8 : Option am_V), sm (dp + 2) am_d212 62 [some (.inr l0), some (.inl l1), some (.inl l2), some (.inl l3), some (.inl l4), some (.inl l5), o6, o7, o8] [] (I, P, nx, sl) (sm_g1 P nx sl) (fM_lay_L62 P e62_172 n l0 l1 l2 l3 l4 l5 I) := by
  induction n with
  | zero => intro l0 l1 l2 l3 l4 l5 I o6 o7 o8; exact sm_none
  | succ n ih => intro l0 l1 l2 l3 l4 l5 I o6 o7 o8; exact AfM_lay_B62 he62_172 ih l0 l1 l2 l3 l4 l5 I o6 o7 o8
noncomputable def fM_lay_J30 (P : am_Q) (l0 : Nat) (l1 : Int32) (l2 : Int32) (I : am_M) : Option (Int32 × am_M) :=
  fM_lay_L35 P (fun l0 l1 l2 l3 I =>
      fM_lay_L62 P (fun l0 l2 l4 I =>
          if ¬ l2 = ((-1)) then
            (sm_ck (am_t l0 = 13) <|
            sm_ck (sm_in (P l0 55) l2) <|
            some (I (P l0 55) l2.toNatClampNeg, I))
          else
            (some (l4, I))) sm_fu l0 l1 l2 l3 ((-1)) 0 I) sm_fu l0 l1 l2 1 0 I
set_option maxRecDepth 100000 in
theorem AfM_lay_J30 {dp : Nat} {P : am_Q} {nx : Nat} {sl : Nat} (l0 : Nat) (l1 : Int32) (l2 : Int32) (I : am_M) (o3 : Option am_V) (o4 : Option am_V) (o5 : Option am_V) (o6 : Option am_V) (o7 : Option am_V) (o8 : Option am_V) : sm (dp + 2) am_d212 30 [some (.inr l0), some (.inl l1), some (.inl l2), o3, o4, o5, o6, o7, o8] [] (I, P, nx, sl) (sm_g1 P nx sl) (fM_lay_J30 P l0 l1 l2 I) := by
  unfold fM_lay_J30
  refine r_const (x := 1) rfl rfl ?_
  refine r_istore (ls' := [some (.inr l0), some (.inl l1), some (.inl l2), some (.inl 1), o4, o5, o6, o7, o8]) rfl (Nat.le_of_ble_eq_true rfl) rfl ?_
  refine r_const (x := 0) rfl rfl ?_
  refine r_istore (ls' := [some (.inr l0), some (.inl l1), some (.inl l2), some (.inl 1), some (.inl 0), o5, o6, o7, o8]) rfl (Nat.le_of_ble_eq_true rfl) rfl ?_
  refine AfM_lay_L35 ?_ sm_fu l0 l1 l2 1 0 I o5 o6 o7 o8
  · intro l0 l1 l2 l3 I o4 o5 o6 o7 o8
    refine r_const (x := (-1)) rfl rfl ?_
    refine r_istore (ls' := [some (.inr l0), some (.inl l1), some (.inl l2), some (.inl l3), some (.inl ((-1))), o5, o6, o7, o8]) rfl (Nat.le_of_ble_eq_true rfl) rfl ?_
    refine r_const (x := 0) rfl rfl ?_
    refine r_istore (ls' := [some (.inr l0), some (.inl l1), some (.inl l2), some (.inl l3), some (.inl ((-1))), some (.inl 0), o6, o7, o8]) rfl (Nat.le_of_ble_eq_true rfl) rfl ?_
    refine AfM_lay_L62 ?_ sm_fu l0 l1 l2 l3 ((-1)) 0 I o6 o7 o8
    · intro l0 l2 l4 I o1 o3 o5 o6 o7 o8
      refine r_iload rfl rfl ?_
      refine r_const (x := (-1)) rfl rfl ?_
      refine r_icmp rfl rfl (fun c35 => ?_) (fun c35 => ?_)
      · refine r_ck (fun h36 => ?_)
        refine r_aload rfl rfl (am_nz h36) ?_
        refine r_getP rfl h36 ?_
        refine r_iload rfl rfl ?_
        refine r_ck (fun h37 => ?_)
        refine r_iald rfl h37 ?_
        exact r_ireturn rfl (Or.inl rfl) rfl
      · refine r_iload rfl rfl ?_
        refine r_goto rfl ?_
        exact r_ireturn rfl (Or.inl rfl) rfl
noncomputable def fM_lay (P : am_Q) (l0 : Nat) (l1 : Int32) (l2 : Int32) (I : am_M) : Option (Int32 × am_M) :=
  Option.bind (fM_within l1 1 3) fun y1 =>
  if y1 = 0 then
    (sm_ck (am_t l0 = 13) <|
    Option.bind (fM_finds P l0 ((-1000001)) I) fun y4 =>
    some (y4.1, y4.2))
  else
    (if l2 = ((-1)) then
      (fM_lay_J30 P l0 l1 l2 I)
    else
      (sm_ck (am_t l0 = 13) <|
      Option.bind (fM_isOf I P l0 0 l2) fun y39 =>
      if ¬ y39 = 0 then
        (fM_lay_J30 P l0 l1 l2 I)
      else
        (Option.bind (fM_finds P l0 ((-1000001)) I) fun y41 =>
        some (y41.1, y41.2))))
set_option maxRecDepth 100000 in
theorem AfM_lay {dp : Nat} {P : am_Q} {nx : Nat} {sl : Nat} {I : am_M} {l0 : Nat} {l1 : Int32} {l2 : Int32} {y : Int32 × am_M} (hy : fM_lay P l0 l1 l2 I = some y) : sm_T (dp + 3) 212 [.inr l0, .inl l1, .inl l2] (I, P, nx, sl) ((sm_g1 P nx sl) y) := by
  refine r_meth (d := am_d212) (dp := dp + 2) (ls0 := [some (.inr l0), some (.inl l1), some (.inl l2), none, none, none, none, none, none]) rfl (by decide) rfl rfl ?_ hy
  unfold fM_lay
  refine r_iload rfl rfl ?_
  refine r_const (x := 1) rfl rfl ?_
  refine r_const (x := 3) rfl rfl ?_
  refine r_call0 rfl rfl trivial (fun y hy => AfM_within (dp := dp + 1) hy) (fun y1 => ?_)
  refine r_if rfl rfl (fun c2 => ?_) (fun c2 => ?_)
  · refine r_ck (fun h3 => ?_)
    refine r_aload rfl rfl (am_nz h3) ?_
    refine r_const (x := (-1000001)) rfl rfl ?_
    refine r_call1 rfl rfl h3 (fun y hy => AfM_finds (dp := dp + 1) hy) (fun y4 => ?_)
    exact r_ireturn rfl (Or.inl rfl) rfl
  · refine r_iload rfl rfl ?_
    refine r_const (x := (-1)) rfl rfl ?_
    refine r_icmp rfl rfl (fun c5 => ?_) (fun c5 => ?_)
    · exact AfM_lay_J30 l0 l1 l2 I none none none none none none
    · refine r_ck (fun h38 => ?_)
      refine r_aload rfl rfl (am_nz h38) ?_
      refine r_const (x := 0) rfl rfl ?_
      refine r_iload rfl rfl ?_
      refine r_call0 rfl rfl h38 (fun y hy => AfM_isOf (dp := dp + 0) hy) (fun y39 => ?_)
      refine r_if rfl rfl (fun c40 => ?_) (fun c40 => ?_)
      · exact AfM_lay_J30 l0 l1 l2 I none none none none none none
      · refine r_aload rfl rfl (am_nz h38) ?_
        refine r_const (x := (-1000001)) rfl rfl ?_
        refine r_call1 rfl rfl h38 (fun y hy => AfM_finds (dp := dp + 1) hy) (fun y41 => ?_)
        exact r_ireturn rfl (Or.inl rfl) rfl
noncomputable def fM_judge_J109 (r52 : Nat → Int32 → Int32 → Int32 → Int32 → am_M → am_Q → Nat → Nat → Option (Int32 × am_S)) (l0 : Nat) (l1 : Int32) (l2 : Int32) (l4 : Int32) (s0 : Int32) (s1 : Int32) (I : am_M) (P : am_Q) (nx : Nat) (sl : Nat) : Option (Int32 × am_S) :=
  sm_bd (s1 + s0) fun x19 =>
  r52 l0 l1 l2 x19 l4 I P nx sl
set_option maxRecDepth 100000 in
theorem AfM_judge_J109 {dp : Nat}  {r52 : Nat → Int32 → Int32 → Int32 → Int32 → am_M → am_Q → Nat → Nat → Option (Int32 × am_S)} (hr52 : ∀ (l0 : Nat) (l1 : Int32) (l2 : Int32) (l3 : Int32) (l4 : Int32) (I : am_M) (P : am_Q) (nx : Nat) (sl : Nat), sm (dp + 5) am_d216 52 [some (.inr l0), some (.inl l1), some (.inl l2), some (.inl l3), some (.inl l4)] [] (I, P, nx, sl) sm_g3 (r52 l0 l1 l2 l3 l4 I P nx sl)) (l0 : Nat) (l1 : Int32) (l2 : Int32) (l4 : Int32) (s0 : Int32) (s1 : Int32) (I : am_M) (P : am_Q) (nx : Nat) (sl : Nat) (o3 : Option am_V) : sm (dp + 5) am_d216 109 [some (.inr l0), some (.inl l1), some (.inl l2), o3, some (.inl l4)] [.inl s0, .inl s1] (I, P, nx, sl) sm_g3 (fM_judge_J109 r52 l0 l1 l2 l4 s0 s1 I P nx sl) := by
  unfold fM_judge_J109
  refine r_bin (z := s1 + s0) rfl rfl (by decide) ?_
  refine r_bd (fun x19 => ?_)
  refine r_istore (ls' := [some (.inr l0), some (.inl l1), some (.inl l2), some (.inl x19), some (.inl l4)]) rfl (Nat.le_of_ble_eq_true rfl) rfl ?_
  refine r_goto rfl ?_
  exact hr52 l0 l1 l2 x19 l4 I P nx sl
noncomputable def fM_judge_J96 (r52 : Nat → Int32 → Int32 → Int32 → Int32 → am_M → am_Q → Nat → Nat → Option (Int32 × am_S)) (l0 : Nat) (l1 : Int32) (l2 : Int32) (l3 : Int32) (s0 : Int32) (I : am_M) (P : am_Q) (nx : Nat) (sl : Nat) : Option (Int32 × am_S) :=
  if s0 = 0 then
    (fM_judge_J109 r52 l0 l1 l2 s0 0 l3 I P nx sl)
  else
    (fM_judge_J109 r52 l0 l1 l2 s0 1 l3 I P nx sl)
set_option maxRecDepth 100000 in
theorem AfM_judge_J96 {dp : Nat}  {r52 : Nat → Int32 → Int32 → Int32 → Int32 → am_M → am_Q → Nat → Nat → Option (Int32 × am_S)} (hr52 : ∀ (l0 : Nat) (l1 : Int32) (l2 : Int32) (l3 : Int32) (l4 : Int32) (I : am_M) (P : am_Q) (nx : Nat) (sl : Nat), sm (dp + 5) am_d216 52 [some (.inr l0), some (.inl l1), some (.inl l2), some (.inl l3), some (.inl l4)] [] (I, P, nx, sl) sm_g3 (r52 l0 l1 l2 l3 l4 I P nx sl)) (l0 : Nat) (l1 : Int32) (l2 : Int32) (l3 : Int32) (s0 : Int32) (I : am_M) (P : am_Q) (nx : Nat) (sl : Nat) (o4 : Option am_V) : sm (dp + 5) am_d216 96 [some (.inr l0), some (.inl l1), some (.inl l2), some (.inl l3), o4] [.inl s0] (I, P, nx, sl) sm_g3 (fM_judge_J96 r52 l0 l1 l2 l3 s0 I P nx sl) := by
  unfold fM_judge_J96
  refine r_istore (ls' := [some (.inr l0), some (.inl l1), some (.inl l2), some (.inl l3), some (.inl s0)]) rfl (Nat.le_of_ble_eq_true rfl) rfl ?_
  refine r_iload rfl rfl ?_
  refine r_iload rfl rfl ?_
  refine r_if rfl rfl (fun c18 => ?_) (fun c18 => ?_)
  · refine r_const (x := 0) rfl rfl ?_
    exact AfM_judge_J109 hr52 l0 l1 l2 s0 0 l3 I P nx sl (some (.inl l3))
  · refine r_const (x := 1) rfl rfl ?_
    refine r_goto rfl ?_
    exact AfM_judge_J109 hr52 l0 l1 l2 s0 1 l3 I P nx sl (some (.inl l3))
noncomputable def fM_judge_B52 (e52_114 : Nat → Int32 → am_M → am_Q → Nat → Nat → Option (Int32 × am_S)) (r52 : Nat → Int32 → Int32 → Int32 → Int32 → am_M → am_Q → Nat → Nat → Option (Int32 × am_S)) (l0 : Nat) (l1 : Int32) (l2 : Int32) (l3 : Int32) (l4 : Int32) (I : am_M) (P : am_Q) (nx : Nat) (sl : Nat) : Option (Int32 × am_S) :=
  sm_ck (am_t l0 = 13) <|
  sm_ck (sm_in (P l0 48) l2) <|
  if (I (P l0 48) l2.toNatClampNeg) ≤ l3 then
    (e52_114 l0 l3 I P nx sl)
  else
    (if l4 = 0 then
      (e52_114 l0 l3 I P nx sl)
    else
      (Option.bind (fM_hour l0 I P nx sl) fun y14 =>
      sm_ck (sm_in (y14.2.1 l0 49) ((24 * l2) + l3)) <|
      sm_ck (sm_in (y14.2.1 l0 17) l1) <|
      if ¬ (y14.1 (y14.2.1 l0 49) ((24 * l2) + l3).toNatClampNeg) = (y14.1 (y14.2.1 l0 17) l1.toNatClampNeg) then
        (fM_judge_J96 r52 l0 l1 l2 l3 0 y14.1 y14.2.1 y14.2.2.1 y14.2.2.2)
      else
        (fM_judge_J96 r52 l0 l1 l2 l3 1 y14.1 y14.2.1 y14.2.2.1 y14.2.2.2)))
set_option maxRecDepth 100000 in
theorem AfM_judge_B52 {dp : Nat}  {e52_114 : Nat → Int32 → am_M → am_Q → Nat → Nat → Option (Int32 × am_S)} {r52 : Nat → Int32 → Int32 → Int32 → Int32 → am_M → am_Q → Nat → Nat → Option (Int32 × am_S)} (he52_114 : ∀ (l0 : Nat) (l3 : Int32) (I : am_M) (P : am_Q) (nx : Nat) (sl : Nat) (o1 : Option am_V) (o2 : Option am_V) (o4 : Option am_V), sm (dp + 5) am_d216 114 [some (.inr l0), o1, o2, some (.inl l3), o4] [] (I, P, nx, sl) sm_g3 (e52_114 l0 l3 I P nx sl)) (hr52 : ∀ (l0 : Nat) (l1 : Int32) (l2 : Int32) (l3 : Int32) (l4 : Int32) (I : am_M) (P : am_Q) (nx : Nat) (sl : Nat), sm (dp + 5) am_d216 52 [some (.inr l0), some (.inl l1), some (.inl l2), some (.inl l3), some (.inl l4)] [] (I, P, nx, sl) sm_g3 (r52 l0 l1 l2 l3 l4 I P nx sl)) (l0 : Nat) (l1 : Int32) (l2 : Int32) (l3 : Int32) (l4 : Int32) (I : am_M) (P : am_Q) (nx : Nat) (sl : Nat) : sm (dp + 5) am_d216 52 [some (.inr l0), some (.inl l1), some (.inl l2), some (.inl l3), some (.inl l4)] [] (I, P, nx, sl) sm_g3 (fM_judge_B52 e52_114 r52 l0 l1 l2 l3 l4 I P nx sl) := by
  unfold fM_judge_B52
  refine r_iload rfl rfl ?_
  refine r_ck (fun h10 => ?_)
  refine r_aload rfl rfl (am_nz h10) ?_
  refine r_getP rfl h10 ?_
  refine r_iload rfl rfl ?_
  refine r_ck (fun h11 => ?_)
  refine r_iald rfl h11 ?_
  refine r_icmp rfl rfl (fun c12 => ?_) (fun c12 => ?_)
  · exact he52_114 l0 l3 I P nx sl (some (.inl l1)) (some (.inl l2)) (some (.inl l4))
  · refine r_iload rfl rfl ?_
    refine r_if rfl rfl (fun c13 => ?_) (fun c13 => ?_)
    · exact he52_114 l0 l3 I P nx sl (some (.inl l1)) (some (.inl l2)) (some (.inl l4))
    · refine r_aload rfl rfl (am_nz h10) ?_
      refine r_call4 rfl rfl h10 (fun y hy => AfM_hour (dp := dp + 0) hy) (fun y14 => ?_)
      refine r_aload rfl rfl (am_nz h10) ?_
      refine r_getP rfl h10 ?_
      refine r_const (x := 24) rfl rfl ?_
      refine r_iload rfl rfl ?_
      refine r_bin (z := 24 * l2) rfl rfl (by decide) ?_
      refine r_iload rfl rfl ?_
      refine r_bin (z := (24 * l2) + l3) rfl rfl (by decide) ?_
      refine r_ck (fun h15 => ?_)
      refine r_iald rfl h15 ?_
      refine r_aload rfl rfl (am_nz h10) ?_
      refine r_getP rfl h10 ?_
      refine r_iload rfl rfl ?_
      refine r_ck (fun h16 => ?_)
      refine r_iald rfl h16 ?_
      refine r_icmp rfl rfl (fun c17 => ?_) (fun c17 => ?_)
      · refine r_const (x := 0) rfl rfl ?_
        exact AfM_judge_J96 hr52 l0 l1 l2 l3 0 y14.1 y14.2.1 y14.2.2.1 y14.2.2.2 (some (.inl l4))
      · refine r_const (x := 1) rfl rfl ?_
        refine r_goto rfl ?_
        exact AfM_judge_J96 hr52 l0 l1 l2 l3 1 y14.1 y14.2.1 y14.2.2.1 y14.2.2.2 (some (.inl l4))
noncomputable def fM_judge_L52 (e52_114 : Nat → Int32 → am_M → am_Q → Nat → Nat → Option (Int32 × am_S)) : Nat → Nat → Int32 → Int32 → Int32 → Int32 → am_M → am_Q → Nat → Nat → Option (Int32 × am_S)
  | 0, _, _, _, _, _, _, _, _, _ => none
  | n + 1, l0, l1, l2, l3, l4, I, P, nx, sl => fM_judge_B52 e52_114 (fM_judge_L52 e52_114 n) l0 l1 l2 l3 l4 I P nx sl
theorem AfM_judge_L52 {dp : Nat}  {e52_114 : Nat → Int32 → am_M → am_Q → Nat → Nat → Option (Int32 × am_S)} (he52_114 : ∀ (l0 : Nat) (l3 : Int32) (I : am_M) (P : am_Q) (nx : Nat) (sl : Nat) (o1 : Option am_V) (o2 : Option am_V) (o4 : Option am_V), sm (dp + 5) am_d216 114 [some (.inr l0), o1, o2, some (.inl l3), o4] [] (I, P, nx, sl) sm_g3 (e52_114 l0 l3 I P nx sl)) (n : Nat) : ∀ (l0 : Nat) (l1 : Int32) (l2 : Int32) (l3 : Int32) (l4 : Int32) (I : am_M) (P : am_Q) (nx : Nat) (sl : Nat), sm (dp + 5) am_d216 52 [some (.inr l0), some (.inl l1), some (.inl l2), some (.inl l3), some (.inl l4)] [] (I, P, nx, sl) sm_g3 (fM_judge_L52 e52_114 n l0 l1 l2 l3 l4 I P nx sl) := by
  induction n with
  | zero => intro l0 l1 l2 l3 l4 I P nx sl; exact sm_none
  | succ n ih => intro l0 l1 l2 l3 l4 I P nx sl; exact AfM_judge_B52 he52_114 ih l0 l1 l2 l3 l4 I P nx sl
noncomputable def fM_judge (l0 : Nat) (l1 : Int32) (l2 : Int32) (I : am_M) (P : am_Q) (nx : Nat) (sl : Nat) : Option (Int32 × am_S) :=
  sm_ck (am_t l0 = 13) <|
  Option.bind (fM_isOf I P l0 1 l1) fun y2 =>
  if y2 = 0 then
    (Option.bind (fM_finds P l0 ((-1000001)) I) fun y4 =>
    some (y4.1, y4.2, P, nx, sl))
  else
    (Option.bind (fM_isSheet l2) fun y5 =>
    if ¬ y5 = 0 then
      (sm_ck (sm_in (P l0 47) l2) <|
      if ¬ (I (P l0 47) l2.toNatClampNeg) = 0 then
        (Option.bind (fM_copiesAll P l0 7 1 I) fun y9 =>
        fM_judge_L52 (fun l0 l3 I P nx sl =>
            sm_ck (am_t l0 = 13) <|
            Option.bind (fM_copiesAll P l0 7 0 I) fun y21 =>
            some (l3, y21, P, nx, sl)) sm_fu l0 l1 l2 0 1 y9 P nx sl)
      else
        (Option.bind (fM_finds P l0 ((-1000006)) I) fun y22 =>
        some (y22.1, y22.2, P, nx, sl)))
    else
      (Option.bind (fM_finds P l0 ((-1000001)) I) fun y23 =>
      some (y23.1, y23.2, P, nx, sl)))
set_option maxRecDepth 100000 in
theorem AfM_judge {dp : Nat}  {I : am_M} {P : am_Q} {nx : Nat} {sl : Nat} {l0 : Nat} {l1 : Int32} {l2 : Int32} {y : Int32 × am_S} (hy : fM_judge l0 l1 l2 I P nx sl = some y) : sm_T (dp + 6) 216 [.inr l0, .inl l1, .inl l2] (I, P, nx, sl) (sm_g3 y) := by
  refine r_meth (d := am_d216) (dp := dp + 5) (ls0 := [some (.inr l0), some (.inl l1), some (.inl l2), none, none]) rfl (by decide) rfl rfl ?_ hy
  unfold fM_judge
  refine r_ck (fun h1 => ?_)
  refine r_aload rfl rfl (am_nz h1) ?_
  refine r_const (x := 1) rfl rfl ?_
  refine r_iload rfl rfl ?_
  refine r_call0 rfl rfl h1 (fun y hy => AfM_isOf (dp := dp + 3) hy) (fun y2 => ?_)
  refine r_if rfl rfl (fun c3 => ?_) (fun c3 => ?_)
  · refine r_aload rfl rfl (am_nz h1) ?_
    refine r_const (x := (-1000001)) rfl rfl ?_
    refine r_call1 rfl rfl h1 (fun y hy => AfM_finds (dp := dp + 4) hy) (fun y4 => ?_)
    exact r_ireturn rfl (Or.inl rfl) rfl
  · refine r_iload rfl rfl ?_
    refine r_call0 rfl rfl trivial (fun y hy => AfM_isSheet (dp := dp + 3) hy) (fun y5 => ?_)
    refine r_if rfl rfl (fun c6 => ?_) (fun c6 => ?_)
    · refine r_aload rfl rfl (am_nz h1) ?_
      refine r_getP rfl h1 ?_
      refine r_iload rfl rfl ?_
      refine r_ck (fun h7 => ?_)
      refine r_iald rfl h7 ?_
      refine r_if rfl rfl (fun c8 => ?_) (fun c8 => ?_)
      · refine r_aload rfl rfl (am_nz h1) ?_
        refine r_const (x := 7) rfl rfl ?_
        refine r_const (x := 1) rfl rfl ?_
        refine r_call2 rfl rfl h1 (fun y hy => AfM_copiesAll (dp := dp + 3) hy) (fun y9 => ?_)
        refine r_const (x := 0) rfl rfl ?_
        refine r_istore (ls' := [some (.inr l0), some (.inl l1), some (.inl l2), some (.inl 0), none]) rfl (Nat.le_of_ble_eq_true rfl) rfl ?_
        refine r_const (x := 1) rfl rfl ?_
        refine r_istore (ls' := [some (.inr l0), some (.inl l1), some (.inl l2), some (.inl 0), some (.inl 1)]) rfl (Nat.le_of_ble_eq_true rfl) rfl ?_
        refine AfM_judge_L52 ?_ sm_fu l0 l1 l2 0 1 y9 P nx sl
        · intro l0 l3 I P nx sl o1 o2 o4
          refine r_ck (fun h20 => ?_)
          refine r_aload rfl rfl (am_nz h20) ?_
          refine r_const (x := 7) rfl rfl ?_
          refine r_const (x := 0) rfl rfl ?_
          refine r_call2 rfl rfl h20 (fun y hy => AfM_copiesAll (dp := dp + 3) hy) (fun y21 => ?_)
          refine r_iload rfl rfl ?_
          exact r_ireturn rfl (Or.inl rfl) rfl
      · refine r_aload rfl rfl (am_nz h1) ?_
        refine r_const (x := (-1000006)) rfl rfl ?_
        refine r_call1 rfl rfl h1 (fun y hy => AfM_finds (dp := dp + 4) hy) (fun y22 => ?_)
        exact r_ireturn rfl (Or.inl rfl) rfl
    · refine r_aload rfl rfl (am_nz h1) ?_
      refine r_const (x := (-1000001)) rfl rfl ?_
      refine r_call1 rfl rfl h1 (fun y hy => AfM_finds (dp := dp + 4) hy) (fun y23 => ?_)
      exact r_ireturn rfl (Or.inl rfl) rfl
noncomputable def fM_allOwes_B4 (I : am_M) (P : am_Q) (e4_29 : Int32 → Option (Int32)) (r4 : Nat → Int32 → Int32 → Option (Int32)) (l0 : Nat) (l1 : Int32) (l2 : Int32) : Option (Int32) :=
  sm_ck (am_t l0 = 13) <|
  sm_ck (sm_in (P l0 1) 1) <|
  if (I (P l0 1) (1 : Int32).toNatClampNeg) ≤ l2 then
    (e4_29 l1)
  else
    (sm_ck (sm_in (P l0 20) l2) <|
    sm_bd (l1 + (I (P l0 20) l2.toNatClampNeg)) fun x5 =>
    sm_bd (l2 + 1) fun x6 =>
    r4 l0 x5 x6)
set_option maxRecDepth 100000 in
theorem AfM_allOwes_B4 {dp : Nat} {I : am_M} {P : am_Q} {nx : Nat} {sl : Nat} {e4_29 : Int32 → Option (Int32)} {r4 : Nat → Int32 → Int32 → Option (Int32)} (he4_29 : ∀ (l1 : Int32) (o0 : Option am_V) (o2 : Option am_V), sm (dp + 0) am_d218 29 [o0, some (.inl l1), o2] [] (I, P, nx, sl) (sm_g0 (I, P, nx, sl)) (e4_29 l1)) (hr4 : ∀ (l0 : Nat) (l1 : Int32) (l2 : Int32), sm (dp + 0) am_d218 4 [some (.inr l0), some (.inl l1), some (.inl l2)] [] (I, P, nx, sl) (sm_g0 (I, P, nx, sl)) (r4 l0 l1 l2)) (l0 : Nat) (l1 : Int32) (l2 : Int32) : sm (dp + 0) am_d218 4 [some (.inr l0), some (.inl l1), some (.inl l2)] [] (I, P, nx, sl) (sm_g0 (I, P, nx, sl)) (fM_allOwes_B4 I P e4_29 r4 l0 l1 l2) := by
  unfold fM_allOwes_B4
  refine r_iload rfl rfl ?_
  refine r_ck (fun h1 => ?_)
  refine r_aload rfl rfl (am_nz h1) ?_
  refine r_getP rfl h1 ?_
  refine r_const (x := 1) rfl rfl ?_
  refine r_ck (fun h2 => ?_)
  refine r_iald rfl h2 ?_
  refine r_icmp rfl rfl (fun c3 => ?_) (fun c3 => ?_)
  · exact he4_29 l1 (some (.inr l0)) (some (.inl l2))
  · refine r_iload rfl rfl ?_
    refine r_aload rfl rfl (am_nz h1) ?_
    refine r_getP rfl h1 ?_
    refine r_iload rfl rfl ?_
    refine r_ck (fun h4 => ?_)
    refine r_iald rfl h4 ?_
    refine r_bin (z := l1 + (I (P l0 20) l2.toNatClampNeg)) rfl rfl (by decide) ?_
    refine r_bd (fun x5 => ?_)
    refine r_istore (ls' := [some (.inr l0), some (.inl x5), some (.inl l2)]) rfl (Nat.le_of_ble_eq_true rfl) rfl ?_
    refine r_iinc (e := l2 + 1) (ls' := fun x6 => [some (.inr l0), some (.inl x5), some (.inl x6)]) rfl rfl rfl (fun _ => rfl) (fun x6 => ?_)
    refine r_goto rfl ?_
    exact hr4 l0 x5 x6
noncomputable def fM_allOwes_L4 (I : am_M) (P : am_Q) (e4_29 : Int32 → Option (Int32)) : Nat → Nat → Int32 → Int32 → Option (Int32)
  | 0, _, _, _ => none
  | n + 1, l0, l1, l2 => fM_allOwes_B4 I P e4_29 (fM_allOwes_L4 I P e4_29 n) l0 l1 l2
theorem AfM_allOwes_L4 {dp : Nat} {I : am_M} {P : am_Q} {nx : Nat} {sl : Nat} {e4_29 : Int32 → Option (Int32)} (he4_29 : ∀ (l1 : Int32) (o0 : Option am_V) (o2 : Option am_V), sm (dp + 0) am_d218 29 [o0, some (.inl l1), o2] [] (I, P, nx, sl) (sm_g0 (I, P, nx, sl)) (e4_29 l1)) (n : Nat) : ∀ (l0 : Nat) (l1 : Int32) (l2 : Int32), sm (dp + 0) am_d218 4 [some (.inr l0), some (.inl l1), some (.inl l2)] [] (I, P, nx, sl) (sm_g0 (I, P, nx, sl)) (fM_allOwes_L4 I P e4_29 n l0 l1 l2) := by
  induction n with
  | zero => intro l0 l1 l2; exact sm_none
  | succ n ih => intro l0 l1 l2; exact AfM_allOwes_B4 he4_29 ih l0 l1 l2
noncomputable def fM_allOwes (I : am_M) (P : am_Q) (l0 : Nat) : Option (Int32) :=
  fM_allOwes_L4 I P (fun l1 =>
      some l1) sm_fu l0 0 0
set_option maxRecDepth 100000 in
theorem AfM_allOwes {dp : Nat} {I : am_M} {P : am_Q} {nx : Nat} {sl : Nat} {l0 : Nat} {y : Int32} (hy : fM_allOwes I P l0 = some y) : sm_T (dp + 1) 218 [.inr l0] (I, P, nx, sl) ((sm_g0 (I, P, nx, sl)) y) := by
  refine r_meth (d := am_d218) (dp := dp + 0) (ls0 := [some (.inr l0), none, none]) rfl (by decide) rfl rfl ?_ hy
  unfold fM_allOwes
  refine r_const (x := 0) rfl rfl ?_
  refine r_istore (ls' := [some (.inr l0), some (.inl 0), none]) rfl (Nat.le_of_ble_eq_true rfl) rfl ?_
  refine r_const (x := 0) rfl rfl ?_
  refine r_istore (ls' := [some (.inr l0), some (.inl 0), some (.inl 0)]) rfl (Nat.le_of_ble_eq_true rfl) rfl ?_
  refine AfM_allOwes_L4 ?_ sm_fu l0 0 0
  · intro l1 o0 o2
    refine r_iload rfl rfl ?_
    exact r_ireturn rfl (Or.inl rfl) rfl
noncomputable def fM_beside_B43 (e43_58 : Nat → am_M → am_Q → Nat → Nat → Option (Int32 × am_S)) (r43 : Nat → Int32 → Int32 → am_M → am_Q → Nat → Nat → Option (Int32 × am_S)) (l0 : Nat) (l2 : Int32) (l3 : Int32) (I : am_M) (P : am_Q) (nx : Nat) (sl : Nat) : Option (Int32 × am_S) :=
  if l2 ≤ l3 then
    (e43_58 l0 I P nx sl)
  else
    (sm_ck (am_t l0 = 13) <|
    Option.bind (fM_hour l0 I P nx sl) fun y13 =>
    sm_bd (l3 + 1) fun x14 =>
    r43 l0 l2 x14 y13.1 y13.2.1 y13.2.2.1 y13.2.2.2)
set_option maxRecDepth 100000 in
theorem AfM_beside_B43 {dp : Nat}  {e43_58 : Nat → am_M → am_Q → Nat → Nat → Option (Int32 × am_S)} {r43 : Nat → Int32 → Int32 → am_M → am_Q → Nat → Nat → Option (Int32 × am_S)} (he43_58 : ∀ (l0 : Nat) (I : am_M) (P : am_Q) (nx : Nat) (sl : Nat) (o1 : Option am_V) (o2 : Option am_V) (o3 : Option am_V), sm (dp + 5) am_d217 58 [some (.inr l0), o1, o2, o3] [] (I, P, nx, sl) sm_g3 (e43_58 l0 I P nx sl)) (hr43 : ∀ (l0 : Nat) (l2 : Int32) (l3 : Int32) (I : am_M) (P : am_Q) (nx : Nat) (sl : Nat) (o1 : Option am_V), sm (dp + 5) am_d217 43 [some (.inr l0), o1, some (.inl l2), some (.inl l3)] [] (I, P, nx, sl) sm_g3 (r43 l0 l2 l3 I P nx sl)) (l0 : Nat) (l2 : Int32) (l3 : Int32) (I : am_M) (P : am_Q) (nx : Nat) (sl : Nat) (o1 : Option am_V) : sm (dp + 5) am_d217 43 [some (.inr l0), o1, some (.inl l2), some (.inl l3)] [] (I, P, nx, sl) sm_g3 (fM_beside_B43 e43_58 r43 l0 l2 l3 I P nx sl) := by
  unfold fM_beside_B43
  refine r_iload rfl rfl ?_
  refine r_iload rfl rfl ?_
  refine r_icmp rfl rfl (fun c11 => ?_) (fun c11 => ?_)
  · exact he43_58 l0 I P nx sl o1 (some (.inl l2)) (some (.inl l3))
  · refine r_ck (fun h12 => ?_)
    refine r_aload rfl rfl (am_nz h12) ?_
    refine r_call4 rfl rfl h12 (fun y hy => AfM_hour (dp := dp + 0) hy) (fun y13 => ?_)
    refine r_iinc (e := l3 + 1) (ls' := fun x14 => [some (.inr l0), o1, some (.inl l2), some (.inl x14)]) rfl rfl rfl (fun _ => rfl) (fun x14 => ?_)
    refine r_goto rfl ?_
    exact hr43 l0 l2 x14 y13.1 y13.2.1 y13.2.2.1 y13.2.2.2 o1
noncomputable def fM_beside_L43 (e43_58 : Nat → am_M → am_Q → Nat → Nat → Option (Int32 × am_S)) : Nat → Nat → Int32 → Int32 → am_M → am_Q → Nat → Nat → Option (Int32 × am_S)
  | 0, _, _, _, _, _, _, _ => none
  | n + 1, l0, l2, l3, I, P, nx, sl => fM_beside_B43 e43_58 (fM_beside_L43 e43_58 n) l0 l2 l3 I P nx sl
theorem AfM_beside_L43 {dp : Nat}  {e43_58 : Nat → am_M → am_Q → Nat → Nat → Option (Int32 × am_S)} (he43_58 : ∀ (l0 : Nat) (I : am_M) (P : am_Q) (nx : Nat) (sl : Nat) (o1 : Option am_V) (o2 : Option am_V) (o3 : Option am_V), sm (dp + 5) am_d217 58 [some (.inr l0), o1, o2, o3] [] (I, P, nx, sl) sm_g3 (e43_58 l0 I P nx sl)) (n : Nat) : ∀ (l0 : Nat) (l2 : Int32) (l3 : Int32) (I : am_M) (P : am_Q) (nx : Nat) (sl : Nat) (o1 : Option am_V), sm (dp + 5) am_d217 43 [some (.inr l0), o1, some (.inl l2), some (.inl l3)] [] (I, P, nx, sl) sm_g3 (fM_beside_L43 e43_58 n l0 l2 l3 I P nx sl) := by
  induction n with
  | zero => intro l0 l2 l3 I P nx sl o1; exact sm_none
  | succ n ih => intro l0 l2 l3 I P nx sl o1; exact AfM_beside_B43 he43_58 ih l0 l2 l3 I P nx sl o1
noncomputable def fM_beside (l0 : Nat) (l1 : Int32) (l2 : Int32) (I : am_M) (P : am_Q) (nx : Nat) (sl : Nat) : Option (Int32 × am_S) :=
  Option.bind (fM_within l1 0 2) fun y1 =>
  if y1 = 0 then
    (sm_ck (am_t l0 = 13) <|
    Option.bind (fM_finds P l0 ((-1000001)) I) fun y4 =>
    some (y4.1, y4.2, P, nx, sl))
  else
    (Option.bind (fM_within l2 0 30) fun y5 =>
    if ¬ y5 = 0 then
      (sm_ck (am_t l0 = 13) <|
      Option.bind (fM_copiesAll P l0 7 1 I) fun y8 =>
      sm_ck (sm_iw (P l0 1) 6) <|
      sm_bd (am_up y8 (P l0 1) (6 : Int32).toNatClampNeg l1) fun I10 =>
      fM_beside_L43 (fun l0 I P nx sl =>
          sm_ck (am_t l0 = 13) <|
          Option.bind (fM_allOwes I P l0) fun y16 =>
          Option.bind (fM_copiesAll P l0 7 0 I) fun y17 =>
          some (y16, y17, P, nx, sl)) sm_fu l0 l2 0 I10 P nx sl)
    else
      (sm_ck (am_t l0 = 13) <|
      Option.bind (fM_finds P l0 ((-1000001)) I) fun y19 =>
      some (y19.1, y19.2, P, nx, sl)))
set_option maxRecDepth 100000 in
theorem AfM_beside {dp : Nat}  {I : am_M} {P : am_Q} {nx : Nat} {sl : Nat} {l0 : Nat} {l1 : Int32} {l2 : Int32} {y : Int32 × am_S} (hy : fM_beside l0 l1 l2 I P nx sl = some y) : sm_T (dp + 6) 217 [.inr l0, .inl l1, .inl l2] (I, P, nx, sl) (sm_g3 y) := by
  refine r_meth (d := am_d217) (dp := dp + 5) (ls0 := [some (.inr l0), some (.inl l1), some (.inl l2), none]) rfl (by decide) rfl rfl ?_ hy
  unfold fM_beside
  refine r_iload rfl rfl ?_
  refine r_const (x := 0) rfl rfl ?_
  refine r_const (x := 2) rfl rfl ?_
  refine r_call0 rfl rfl trivial (fun y hy => AfM_within (dp := dp + 4) hy) (fun y1 => ?_)
  refine r_if rfl rfl (fun c2 => ?_) (fun c2 => ?_)
  · refine r_ck (fun h3 => ?_)
    refine r_aload rfl rfl (am_nz h3) ?_
    refine r_const (x := (-1000001)) rfl rfl ?_
    refine r_call1 rfl rfl h3 (fun y hy => AfM_finds (dp := dp + 4) hy) (fun y4 => ?_)
    exact r_ireturn rfl (Or.inl rfl) rfl
  · refine r_iload rfl rfl ?_
    refine r_const (x := 0) rfl rfl ?_
    refine r_const (x := 30) rfl rfl ?_
    refine r_call0 rfl rfl trivial (fun y hy => AfM_within (dp := dp + 4) hy) (fun y5 => ?_)
    refine r_if rfl rfl (fun c6 => ?_) (fun c6 => ?_)
    · refine r_ck (fun h7 => ?_)
      refine r_aload rfl rfl (am_nz h7) ?_
      refine r_const (x := 7) rfl rfl ?_
      refine r_const (x := 1) rfl rfl ?_
      refine r_call2 rfl rfl h7 (fun y hy => AfM_copiesAll (dp := dp + 3) hy) (fun y8 => ?_)
      refine r_aload rfl rfl (am_nz h7) ?_
      refine r_getP rfl h7 ?_
      refine r_const (x := 6) rfl rfl ?_
      refine r_iload rfl rfl ?_
      refine r_ck (fun h9 => ?_)
      refine r_iast rfl h9 (fun I10 => ?_)
      refine r_const (x := 0) rfl rfl ?_
      refine r_istore (ls' := [some (.inr l0), some (.inl l1), some (.inl l2), some (.inl 0)]) rfl (Nat.le_of_ble_eq_true rfl) rfl ?_
      refine AfM_beside_L43 ?_ sm_fu l0 l2 0 I10 P nx sl (some (.inl l1))
      · intro l0 I P nx sl o1 o2 o3
        refine r_ck (fun h15 => ?_)
        refine r_aload rfl rfl (am_nz h15) ?_
        refine r_call0 rfl rfl h15 (fun y hy => AfM_allOwes (dp := dp + 4) hy) (fun y16 => ?_)
        refine r_istore (ls' := [some (.inr l0), o1, o2, some (.inl y16)]) rfl (Nat.le_of_ble_eq_true rfl) rfl ?_
        refine r_aload rfl rfl (am_nz h15) ?_
        refine r_const (x := 7) rfl rfl ?_
        refine r_const (x := 0) rfl rfl ?_
        refine r_call2 rfl rfl h15 (fun y hy => AfM_copiesAll (dp := dp + 3) hy) (fun y17 => ?_)
        refine r_iload rfl rfl ?_
        exact r_ireturn rfl (Or.inl rfl) rfl
    · refine r_ck (fun h18 => ?_)
      refine r_aload rfl rfl (am_nz h18) ?_
      refine r_const (x := (-1000001)) rfl rfl ?_
      refine r_call1 rfl rfl h18 (fun y hy => AfM_finds (dp := dp + 4) hy) (fun y19 => ?_)
      exact r_ireturn rfl (Or.inl rfl) rfl
noncomputable def fM_sheet_B86 (P : am_Q) (e86_112 : Nat → Int32 → am_M → Option (Int32 × am_M)) (r86 : Nat → Int32 → Int32 → am_M → Option (Int32 × am_M)) (l0 : Nat) (l1 : Int32) (l4 : Int32) (I : am_M) : Option (Int32 × am_M) :=
  if 24 ≤ l4 then
    (e86_112 l0 l1 I)
  else
    (sm_ck (am_t l0 = 13) <|
    sm_ck (sm_iw (P l0 49) ((24 * l1) + l4)) <|
    sm_bd (am_up I (P l0 49) ((24 * l1) + l4).toNatClampNeg 0) fun I17 =>
    sm_bd (l4 + 1) fun x18 =>
    r86 l0 l1 x18 I17)
set_option maxRecDepth 100000 in
theorem AfM_sheet_B86 {dp : Nat} {P : am_Q} {nx : Nat} {sl : Nat} {e86_112 : Nat → Int32 → am_M → Option (Int32 × am_M)} {r86 : Nat → Int32 → Int32 → am_M → Option (Int32 × am_M)} (he86_112 : ∀ (l0 : Nat) (l1 : Int32) (I : am_M) (o2 : Option am_V) (o3 : Option am_V) (o4 : Option am_V), sm (dp + 2) am_d219 112 [some (.inr l0), some (.inl l1), o2, o3, o4] [] (I, P, nx, sl) (sm_g1 P nx sl) (e86_112 l0 l1 I)) (hr86 : ∀ (l0 : Nat) (l1 : Int32) (l4 : Int32) (I : am_M) (o2 : Option am_V) (o3 : Option am_V), sm (dp + 2) am_d219 86 [some (.inr l0), some (.inl l1), o2, o3, some (.inl l4)] [] (I, P, nx, sl) (sm_g1 P nx sl) (r86 l0 l1 l4 I)) (l0 : Nat) (l1 : Int32) (l4 : Int32) (I : am_M) (o2 : Option am_V) (o3 : Option am_V) : sm (dp + 2) am_d219 86 [some (.inr l0), some (.inl l1), o2, o3, some (.inl l4)] [] (I, P, nx, sl) (sm_g1 P nx sl) (fM_sheet_B86 P e86_112 r86 l0 l1 l4 I) := by
  unfold fM_sheet_B86
  refine r_iload rfl rfl ?_
  refine r_const (x := 24) rfl rfl ?_
  refine r_icmp rfl rfl (fun c14 => ?_) (fun c14 => ?_)
  · exact he86_112 l0 l1 I o2 o3 (some (.inl l4))
  · refine r_ck (fun h15 => ?_)
    refine r_aload rfl rfl (am_nz h15) ?_
    refine r_getP rfl h15 ?_
    refine r_const (x := 24) rfl rfl ?_
    refine r_iload rfl rfl ?_
    refine r_bin (z := 24 * l1) rfl rfl (by decide) ?_
    refine r_iload rfl rfl ?_
    refine r_bin (z := (24 * l1) + l4) rfl rfl (by decide) ?_
    refine r_const (x := 0) rfl rfl ?_
    refine r_ck (fun h16 => ?_)
    refine r_iast rfl h16 (fun I17 => ?_)
    refine r_iinc (e := l4 + 1) (ls' := fun x18 => [some (.inr l0), some (.inl l1), o2, o3, some (.inl x18)]) rfl rfl rfl (fun _ => rfl) (fun x18 => ?_)
    refine r_goto rfl ?_
    exact hr86 l0 l1 x18 I17 o2 o3
noncomputable def fM_sheet_L86 (P : am_Q) (e86_112 : Nat → Int32 → am_M → Option (Int32 × am_M)) : Nat → Nat → Int32 → Int32 → am_M → Option (Int32 × am_M)
  | 0, _, _, _, _ => none
  | n + 1, l0, l1, l4, I => fM_sheet_B86 P e86_112 (fM_sheet_L86 P e86_112 n) l0 l1 l4 I
theorem AfM_sheet_L86 {dp : Nat} {P : am_Q} {nx : Nat} {sl : Nat} {e86_112 : Nat → Int32 → am_M → Option (Int32 × am_M)} (he86_112 : ∀ (l0 : Nat) (l1 : Int32) (I : am_M) (o2 : Option am_V) (o3 : Option am_V) (o4 : Option am_V), sm (dp + 2) am_d219 112 [some (.inr l0), some (.inl l1), o2, o3, o4] [] (I, P, nx, sl) (sm_g1 P nx sl) (e86_112 l0 l1 I)) (n : Nat) : ∀ (l0 : Nat) (l1 : Int32) (l4 : Int32) (I : am_M) (o2 : Option am_V) (o3 : Option am_V), sm (dp + 2) am_d219 86 [some (.inr l0), some (.inl l1), o2, o3, some (.inl l4)] [] (I, P, nx, sl) (sm_g1 P nx sl) (fM_sheet_L86 P e86_112 n l0 l1 l4 I) := by
  induction n with
  | zero => intro l0 l1 l4 I o2 o3; exact sm_none
  | succ n ih => intro l0 l1 l4 I o2 o3; exact AfM_sheet_B86 he86_112 ih l0 l1 l4 I o2 o3
noncomputable def fM_sheet_J82 (P : am_Q) (l0 : Nat) (l1 : Int32) (s0 : Int32) (s1 : Int32) (s2 : Nat) (I : am_M) : Option (Int32 × am_M) :=
  sm_ck (sm_iw s2 s1) <|
  sm_bd (am_up I s2 s1.toNatClampNeg s0) fun I13 =>
  fM_sheet_L86 P (fun l0 l1 I =>
      sm_ck (am_t l0 = 13) <|
      sm_ck (sm_in (P l0 48) l1) <|
      some (I (P l0 48) l1.toNatClampNeg, I)) sm_fu l0 l1 0 I13
set_option maxRecDepth 100000 in
theorem AfM_sheet_J82 {dp : Nat} {P : am_Q} {nx : Nat} {sl : Nat} (l0 : Nat) (l1 : Int32) (s0 : Int32) (s1 : Int32) (s2 : Nat) (I : am_M) (o2 : Option am_V) (o3 : Option am_V) (o4 : Option am_V) : sm (dp + 2) am_d219 82 [some (.inr l0), some (.inl l1), o2, o3, o4] [.inl s0, .inl s1, .inr s2] (I, P, nx, sl) (sm_g1 P nx sl) (fM_sheet_J82 P l0 l1 s0 s1 s2 I) := by
  unfold fM_sheet_J82
  refine r_ck (fun h12 => ?_)
  refine r_iast rfl h12 (fun I13 => ?_)
  refine r_const (x := 0) rfl rfl ?_
  refine r_istore (ls' := [some (.inr l0), some (.inl l1), o2, o3, some (.inl 0)]) rfl (Nat.le_of_ble_eq_true rfl) rfl ?_
  refine AfM_sheet_L86 ?_ sm_fu l0 l1 0 I13 o2 o3
  · intro l0 l1 I o2 o3 o4
    refine r_ck (fun h19 => ?_)
    refine r_aload rfl rfl (am_nz h19) ?_
    refine r_getP rfl h19 ?_
    refine r_iload rfl rfl ?_
    refine r_ck (fun h20 => ?_)
    refine r_iald rfl h20 ?_
    exact r_ireturn rfl (Or.inl rfl) rfl
noncomputable def fM_sheet_J36 (P : am_Q) (l0 : Nat) (l1 : Int32) (l2 : Int32) (l3 : Int32) (I : am_M) : Option (Int32 × am_M) :=
  if 0 ≤ l3 then
    (if l3 ≤ 24 then
      (sm_ck (am_t l0 = 13) <|
      sm_ck (sm_iw (P l0 47) l1) <|
      sm_bd (am_up I (P l0 47) l1.toNatClampNeg l2) fun I10 =>
      if ¬ l2 = 0 then
        (fM_sheet_J82 P l0 l1 l3 l1 (P l0 48) I10)
      else
        (fM_sheet_J82 P l0 l1 0 l1 (P l0 48) I10))
    else
      (sm_ck (am_t l0 = 13) <|
      Option.bind (fM_finds P l0 ((-1000001)) I) fun y22 =>
      some (y22.1, y22.2)))
  else
    (sm_ck (am_t l0 = 13) <|
    Option.bind (fM_finds P l0 ((-1000007)) I) fun y24 =>
    some (y24.1, y24.2))
set_option maxRecDepth 100000 in
theorem AfM_sheet_J36 {dp : Nat} {P : am_Q} {nx : Nat} {sl : Nat} (l0 : Nat) (l1 : Int32) (l2 : Int32) (l3 : Int32) (I : am_M) (o4 : Option am_V) : sm (dp + 2) am_d219 36 [some (.inr l0), some (.inl l1), some (.inl l2), some (.inl l3), o4] [] (I, P, nx, sl) (sm_g1 P nx sl) (fM_sheet_J36 P l0 l1 l2 l3 I) := by
  unfold fM_sheet_J36
  refine r_iload rfl rfl ?_
  refine r_if rfl rfl (fun c6 => ?_) (fun c6 => ?_)
  · refine r_iload rfl rfl ?_
    refine r_const (x := 24) rfl rfl ?_
    refine r_icmp rfl rfl (fun c7 => ?_) (fun c7 => ?_)
    · refine r_ck (fun h8 => ?_)
      refine r_aload rfl rfl (am_nz h8) ?_
      refine r_getP rfl h8 ?_
      refine r_iload rfl rfl ?_
      refine r_iload rfl rfl ?_
      refine r_ck (fun h9 => ?_)
      refine r_iast rfl h9 (fun I10 => ?_)
      refine r_aload rfl rfl (am_nz h8) ?_
      refine r_getP rfl h8 ?_
      refine r_iload rfl rfl ?_
      refine r_iload rfl rfl ?_
      refine r_if rfl rfl (fun c11 => ?_) (fun c11 => ?_)
      · refine r_iload rfl rfl ?_
        exact AfM_sheet_J82 l0 l1 l3 l1 (P l0 48) I10 (some (.inl l2)) (some (.inl l3)) o4
      · refine r_const (x := 0) rfl rfl ?_
        refine r_goto rfl ?_
        exact AfM_sheet_J82 l0 l1 0 l1 (P l0 48) I10 (some (.inl l2)) (some (.inl l3)) o4
    · refine r_ck (fun h21 => ?_)
      refine r_aload rfl rfl (am_nz h21) ?_
      refine r_const (x := (-1000001)) rfl rfl ?_
      refine r_call1 rfl rfl h21 (fun y hy => AfM_finds (dp := dp + 1) hy) (fun y22 => ?_)
      exact r_ireturn rfl (Or.inl rfl) rfl
  · refine r_ck (fun h23 => ?_)
    refine r_aload rfl rfl (am_nz h23) ?_
    refine r_const (x := (-1000007)) rfl rfl ?_
    refine r_call1 rfl rfl h23 (fun y hy => AfM_finds (dp := dp + 1) hy) (fun y24 => ?_)
    exact r_ireturn rfl (Or.inl rfl) rfl
noncomputable def fM_sheet (P : am_Q) (l0 : Nat) (l1 : Int32) (l2 : Int32) (l3 : Int32) (I : am_M) : Option (Int32 × am_M) :=
  Option.bind (fM_isSheet l1) fun y1 =>
  if y1 = 0 then
    (sm_ck (am_t l0 = 13) <|
    Option.bind (fM_finds P l0 ((-1000001)) I) fun y4 =>
    some (y4.1, y4.2))
  else
    (if l2 = 0 then
      (fM_sheet_J36 P l0 l1 l2 l3 I)
    else
      (if l2 = 8 then
        (fM_sheet_J36 P l0 l1 l2 l3 I)
      else
        (if l2 = 16 then
          (fM_sheet_J36 P l0 l1 l2 l3 I)
        else
          (if l2 = 32 then
            (fM_sheet_J36 P l0 l1 l2 l3 I)
          else
            (sm_ck (am_t l0 = 13) <|
            Option.bind (fM_finds P l0 ((-1000001)) I) fun y29 =>
            some (y29.1, y29.2))))))
set_option maxRecDepth 100000 in
theorem AfM_sheet {dp : Nat} {P : am_Q} {nx : Nat} {sl : Nat} {I : am_M} {l0 : Nat} {l1 : Int32} {l2 : Int32} {l3 : Int32} {y : Int32 × am_M} (hy : fM_sheet P l0 l1 l2 l3 I = some y) : sm_T (dp + 3) 219 [.inr l0, .inl l1, .inl l2, .inl l3] (I, P, nx, sl) ((sm_g1 P nx sl) y) := by
  refine r_meth (d := am_d219) (dp := dp + 2) (ls0 := [some (.inr l0), some (.inl l1), some (.inl l2), some (.inl l3), none]) rfl (by decide) rfl rfl ?_ hy
  unfold fM_sheet
  refine r_iload rfl rfl ?_
  refine r_call0 rfl rfl trivial (fun y hy => AfM_isSheet (dp := dp + 0) hy) (fun y1 => ?_)
  refine r_if rfl rfl (fun c2 => ?_) (fun c2 => ?_)
  · refine r_ck (fun h3 => ?_)
    refine r_aload rfl rfl (am_nz h3) ?_
    refine r_const (x := (-1000001)) rfl rfl ?_
    refine r_call1 rfl rfl h3 (fun y hy => AfM_finds (dp := dp + 1) hy) (fun y4 => ?_)
    exact r_ireturn rfl (Or.inl rfl) rfl
  · refine r_iload rfl rfl ?_
    refine r_if rfl rfl (fun c5 => ?_) (fun c5 => ?_)
    · exact AfM_sheet_J36 l0 l1 l2 l3 I none
    · refine r_iload rfl rfl ?_
      refine r_const (x := 8) rfl rfl ?_
      refine r_icmp rfl rfl (fun c25 => ?_) (fun c25 => ?_)
      · exact AfM_sheet_J36 l0 l1 l2 l3 I none
      · refine r_iload rfl rfl ?_
        refine r_const (x := 16) rfl rfl ?_
        refine r_icmp rfl rfl (fun c26 => ?_) (fun c26 => ?_)
        · exact AfM_sheet_J36 l0 l1 l2 l3 I none
        · refine r_iload rfl rfl ?_
          refine r_const (x := 32) rfl rfl ?_
          refine r_icmp rfl rfl (fun c27 => ?_) (fun c27 => ?_)
          · exact AfM_sheet_J36 l0 l1 l2 l3 I none
          · refine r_ck (fun h28 => ?_)
            refine r_aload rfl rfl (am_nz h28) ?_
            refine r_const (x := (-1000001)) rfl rfl ?_
            refine r_call1 rfl rfl h28 (fun y hy => AfM_finds (dp := dp + 1) hy) (fun y29 => ?_)
            exact r_ireturn rfl (Or.inl rfl) rfl
noncomputable def fM_write (P : am_Q) (l0 : Nat) (l1 : Int32) (l2 : Int32) (l3 : Int32) (I : am_M) : Option (Int32 × am_M) :=
  Option.bind (fM_isSheet l1) fun y1 =>
  if ¬ y1 = 0 then
    (sm_ck (am_t l0 = 13) <|
    sm_ck (sm_in (P l0 47) l1) <|
    if ¬ (I (P l0 47) l1.toNatClampNeg) = 0 then
      (sm_ck (sm_in (P l0 48) l1) <|
      Option.bind (fM_within l2 0 ((I (P l0 48) l1.toNatClampNeg) - 1)) fun y7 =>
      if ¬ y7 = 0 then
        (sm_ck (sm_in (P l0 47) l1) <|
        if ¬ (I (P l0 47) l1.toNatClampNeg) = 8 then
          (sm_ck (sm_in (P l0 47) l1) <|
          if ¬ (I (P l0 47) l1.toNatClampNeg) = 16 then
            (sm_ck (sm_iw (P l0 49) ((24 * l1) + l2)) <|
            sm_bd (am_up I (P l0 49) ((24 * l1) + l2).toNatClampNeg l3) fun I14 =>
            some (1, I14))
          else
            (sm_ck (sm_iw (P l0 49) ((24 * l1) + l2)) <|
            sm_bd (am_up I (P l0 49) ((24 * l1) + l2).toNatClampNeg l3.toInt16.toInt32) fun I16 =>
            some (1, I16)))
        else
          (sm_ck (sm_iw (P l0 49) ((24 * l1) + l2)) <|
          sm_bd (am_up I (P l0 49) ((24 * l1) + l2).toNatClampNeg l3.toInt8.toInt32) fun I18 =>
          some (1, I18)))
      else
        (Option.bind (fM_finds P l0 ((-1000001)) I) fun y19 =>
        some (y19.1, y19.2)))
    else
      (Option.bind (fM_finds P l0 ((-1000006)) I) fun y20 =>
      some (y20.1, y20.2)))
  else
    (sm_ck (am_t l0 = 13) <|
    Option.bind (fM_finds P l0 ((-1000001)) I) fun y22 =>
    some (y22.1, y22.2))
set_option maxRecDepth 100000 in
theorem AfM_write {dp : Nat} {P : am_Q} {nx : Nat} {sl : Nat} {I : am_M} {l0 : Nat} {l1 : Int32} {l2 : Int32} {l3 : Int32} {y : Int32 × am_M} (hy : fM_write P l0 l1 l2 l3 I = some y) : sm_T (dp + 3) 220 [.inr l0, .inl l1, .inl l2, .inl l3] (I, P, nx, sl) ((sm_g1 P nx sl) y) := by
  refine r_meth (d := am_d220) (dp := dp + 2) (ls0 := [some (.inr l0), some (.inl l1), some (.inl l2), some (.inl l3)]) rfl (by decide) rfl rfl ?_ hy
  unfold fM_write
  refine r_iload rfl rfl ?_
  refine r_call0 rfl rfl trivial (fun y hy => AfM_isSheet (dp := dp + 0) hy) (fun y1 => ?_)
  refine r_if rfl rfl (fun c2 => ?_) (fun c2 => ?_)
  · refine r_ck (fun h3 => ?_)
    refine r_aload rfl rfl (am_nz h3) ?_
    refine r_getP rfl h3 ?_
    refine r_iload rfl rfl ?_
    refine r_ck (fun h4 => ?_)
    refine r_iald rfl h4 ?_
    refine r_if rfl rfl (fun c5 => ?_) (fun c5 => ?_)
    · refine r_iload rfl rfl ?_
      refine r_const (x := 0) rfl rfl ?_
      refine r_aload rfl rfl (am_nz h3) ?_
      refine r_getP rfl h3 ?_
      refine r_iload rfl rfl ?_
      refine r_ck (fun h6 => ?_)
      refine r_iald rfl h6 ?_
      refine r_const (x := 1) rfl rfl ?_
      refine r_bin (z := (I (P l0 48) l1.toNatClampNeg) - 1) rfl rfl (by decide) ?_
      refine r_call0 rfl rfl trivial (fun y hy => AfM_within (dp := dp + 1) hy) (fun y7 => ?_)
      refine r_if rfl rfl (fun c8 => ?_) (fun c8 => ?_)
      · refine r_aload rfl rfl (am_nz h3) ?_
        refine r_getP rfl h3 ?_
        refine r_const (x := 24) rfl rfl ?_
        refine r_iload rfl rfl ?_
        refine r_bin (z := 24 * l1) rfl rfl (by decide) ?_
        refine r_iload rfl rfl ?_
        refine r_bin (z := (24 * l1) + l2) rfl rfl (by decide) ?_
        refine r_aload rfl rfl (am_nz h3) ?_
        refine r_getP rfl h3 ?_
        refine r_iload rfl rfl ?_
        refine r_ck (fun h9 => ?_)
        refine r_iald rfl h9 ?_
        refine r_const (x := 8) rfl rfl ?_
        refine r_icmp rfl rfl (fun c10 => ?_) (fun c10 => ?_)
        · refine r_aload rfl rfl (am_nz h3) ?_
          refine r_getP rfl h3 ?_
          refine r_iload rfl rfl ?_
          refine r_ck (fun h11 => ?_)
          refine r_iald rfl h11 ?_
          refine r_const (x := 16) rfl rfl ?_
          refine r_icmp rfl rfl (fun c12 => ?_) (fun c12 => ?_)
          · refine r_iload rfl rfl ?_
            refine r_ck (fun h13 => ?_)
            refine r_iast rfl h13 (fun I14 => ?_)
            refine r_const (x := 1) rfl rfl ?_
            exact r_ireturn rfl (Or.inl rfl) rfl
          · refine r_iload rfl rfl ?_
            refine r_un rfl rfl ?_
            refine r_goto rfl ?_
            refine r_ck (fun h15 => ?_)
            refine r_iast rfl h15 (fun I16 => ?_)
            refine r_const (x := 1) rfl rfl ?_
            exact r_ireturn rfl (Or.inl rfl) rfl
        · refine r_iload rfl rfl ?_
          refine r_un rfl rfl ?_
          refine r_goto rfl ?_
          refine r_ck (fun h17 => ?_)
          refine r_iast rfl h17 (fun I18 => ?_)
          refine r_const (x := 1) rfl rfl ?_
          exact r_ireturn rfl (Or.inl rfl) rfl
      · refine r_aload rfl rfl (am_nz h3) ?_
        refine r_const (x := (-1000001)) rfl rfl ?_
        refine r_call1 rfl rfl h3 (fun y hy => AfM_finds (dp := dp + 1) hy) (fun y19 => ?_)
        exact r_ireturn rfl (Or.inl rfl) rfl
    · refine r_aload rfl rfl (am_nz h3) ?_
      refine r_const (x := (-1000006)) rfl rfl ?_
      refine r_call1 rfl rfl h3 (fun y hy => AfM_finds (dp := dp + 1) hy) (fun y20 => ?_)
      exact r_ireturn rfl (Or.inl rfl) rfl
  · refine r_ck (fun h21 => ?_)
    refine r_aload rfl rfl (am_nz h21) ?_
    refine r_const (x := (-1000001)) rfl rfl ?_
    refine r_call1 rfl rfl h21 (fun y hy => AfM_finds (dp := dp + 1) hy) (fun y22 => ?_)
    exact r_ireturn rfl (Or.inl rfl) rfl
noncomputable def fM_copy_B120 (P : am_Q) (e120_154 : Nat → Int32 → Int32 → Int32 → am_M → Option (Int32 × am_M)) (r120 : Nat → Int32 → Int32 → Int32 → Int32 → Int32 → Int32 → am_M → Option (Int32 × am_M)) (l0 : Nat) (l1 : Int32) (l2 : Int32) (l3 : Int32) (l4 : Int32) (l5 : Int32) (l6 : Int32) (I : am_M) : Option (Int32 × am_M) :=
  if l5 ≤ l6 then
    (e120_154 l0 l3 l4 l5 I)
  else
    (sm_ck (am_t l0 = 13) <|
    sm_ck (sm_in (P l0 49) (((24 * l1) + l2) + l6)) <|
    sm_ck (sm_iw (P l0 61) l6) <|
    sm_bd (am_up I (P l0 61) l6.toNatClampNeg (I (P l0 49) (((24 * l1) + l2) + l6).toNatClampNeg)) fun I31 =>
    sm_bd (l6 + 1) fun x32 =>
    r120 l0 l1 l2 l3 l4 l5 x32 I31)
set_option maxRecDepth 100000 in
theorem AfM_copy_B120 {dp : Nat} {P : am_Q} {nx : Nat} {sl : Nat} {e120_154 : Nat → Int32 → Int32 → Int32 → am_M → Option (Int32 × am_M)} {r120 : Nat → Int32 → Int32 → Int32 → Int32 → Int32 → Int32 → am_M → Option (Int32 × am_M)} (he120_154 : ∀ (l0 : Nat) (l3 : Int32) (l4 : Int32) (l5 : Int32) (I : am_M) (o1 : Option am_V) (o2 : Option am_V) (o6 : Option am_V), sm (dp + 2) am_d221 154 [some (.inr l0), o1, o2, some (.inl l3), some (.inl l4), some (.inl l5), o6] [] (I, P, nx, sl) (sm_g1 P nx sl) (e120_154 l0 l3 l4 l5 I)) (hr120 : ∀ (l0 : Nat) (l1 : Int32) (l2 : Int32) (l3 : Int32) (l4 : Int32) (l5 : Int32) (l6 : Int32) (I : am_M), sm (dp + 2) am_d221 120 [some (.inr l0), some (.inl l1), some (.inl l2), some (.inl l3), some (.inl l4), some (.inl l5), some (.inl l6)] [] (I, P, nx, sl) (sm_g1 P nx sl) (r120 l0 l1 l2 l3 l4 l5 l6 I)) (l0 : Nat) (l1 : Int32) (l2 : Int32) (l3 : Int32) (l4 : Int32) (l5 : Int32) (l6 : Int32) (I : am_M) : sm (dp + 2) am_d221 120 [some (.inr l0), some (.inl l1), some (.inl l2), some (.inl l3), some (.inl l4), some (.inl l5), some (.inl l6)] [] (I, P, nx, sl) (sm_g1 P nx sl) (fM_copy_B120 P e120_154 r120 l0 l1 l2 l3 l4 l5 l6 I) := by
  unfold fM_copy_B120
  refine r_iload rfl rfl ?_
  refine r_iload rfl rfl ?_
  refine r_icmp rfl rfl (fun c27 => ?_) (fun c27 => ?_)
  · exact he120_154 l0 l3 l4 l5 I (some (.inl l1)) (some (.inl l2)) (some (.inl l6))
  · refine r_ck (fun h28 => ?_)
    refine r_aload rfl rfl (am_nz h28) ?_
    refine r_getP rfl h28 ?_
    refine r_iload rfl rfl ?_
    refine r_aload rfl rfl (am_nz h28) ?_
    refine r_getP rfl h28 ?_
    refine r_const (x := 24) rfl rfl ?_
    refine r_iload rfl rfl ?_
    refine r_bin (z := 24 * l1) rfl rfl (by decide) ?_
    refine r_iload rfl rfl ?_
    refine r_bin (z := (24 * l1) + l2) rfl rfl (by decide) ?_
    refine r_iload rfl rfl ?_
    refine r_bin (z := ((24 * l1) + l2) + l6) rfl rfl (by decide) ?_
    refine r_ck (fun h29 => ?_)
    refine r_iald rfl h29 ?_
    refine r_ck (fun h30 => ?_)
    refine r_iast rfl h30 (fun I31 => ?_)
    refine r_iinc (e := l6 + 1) (ls' := fun x32 => [some (.inr l0), some (.inl l1), some (.inl l2), some (.inl l3), some (.inl l4), some (.inl l5), some (.inl x32)]) rfl rfl rfl (fun _ => rfl) (fun x32 => ?_)
    refine r_goto rfl ?_
    exact hr120 l0 l1 l2 l3 l4 l5 x32 I31
noncomputable def fM_copy_L120 (P : am_Q) (e120_154 : Nat → Int32 → Int32 → Int32 → am_M → Option (Int32 × am_M)) : Nat → Nat → Int32 → Int32 → Int32 → Int32 → Int32 → Int32 → am_M → Option (Int32 × am_M)
  | 0, _, _, _, _, _, _, _, _ => none
  | n + 1, l0, l1, l2, l3, l4, l5, l6, I => fM_copy_B120 P e120_154 (fM_copy_L120 P e120_154 n) l0 l1 l2 l3 l4 l5 l6 I
theorem AfM_copy_L120 {dp : Nat} {P : am_Q} {nx : Nat} {sl : Nat} {e120_154 : Nat → Int32 → Int32 → Int32 → am_M → Option (Int32 × am_M)} (he120_154 : ∀ (l0 : Nat) (l3 : Int32) (l4 : Int32) (l5 : Int32) (I : am_M) (o1 : Option am_V) (o2 : Option am_V) (o6 : Option am_V), sm (dp + 2) am_d221 154 [some (.inr l0), o1, o2, some (.inl l3), some (.inl l4), some (.inl l5), o6] [] (I, P, nx, sl) (sm_g1 P nx sl) (e120_154 l0 l3 l4 l5 I)) (n : Nat) : ∀ (l0 : Nat) (l1 : Int32) (l2 : Int32) (l3 : Int32) (l4 : Int32) (l5 : Int32) (l6 : Int32) (I : am_M), sm (dp + 2) am_d221 120 [some (.inr l0), some (.inl l1), some (.inl l2), some (.inl l3), some (.inl l4), some (.inl l5), some (.inl l6)] [] (I, P, nx, sl) (sm_g1 P nx sl) (fM_copy_L120 P e120_154 n l0 l1 l2 l3 l4 l5 l6 I) := by
  induction n with
  | zero => intro l0 l1 l2 l3 l4 l5 l6 I; exact sm_none
  | succ n ih => intro l0 l1 l2 l3 l4 l5 l6 I; exact AfM_copy_B120 he120_154 ih l0 l1 l2 l3 l4 l5 l6 I
noncomputable def fM_copy_B157 (P : am_Q) (e157_192 : Int32 → am_M → Option (Int32 × am_M)) (r157 : Nat → Int32 → Int32 → Int32 → Int32 → am_M → Option (Int32 × am_M)) (l0 : Nat) (l3 : Int32) (l4 : Int32) (l5 : Int32) (l6 : Int32) (I : am_M) : Option (Int32 × am_M) :=
  if l5 ≤ l6 then
    (e157_192 l5 I)
  else
    (sm_ck (am_t l0 = 13) <|
    sm_ck (sm_in (P l0 61) l6) <|
    sm_ck (sm_iw (P l0 49) (((24 * l3) + l4) + l6)) <|
    sm_bd (am_up I (P l0 49) (((24 * l3) + l4) + l6).toNatClampNeg (I (P l0 61) l6.toNatClampNeg)) fun I37 =>
    sm_bd (l6 + 1) fun x38 =>
    r157 l0 l3 l4 l5 x38 I37)
set_option maxRecDepth 100000 in
theorem AfM_copy_B157 {dp : Nat} {P : am_Q} {nx : Nat} {sl : Nat} {e157_192 : Int32 → am_M → Option (Int32 × am_M)} {r157 : Nat → Int32 → Int32 → Int32 → Int32 → am_M → Option (Int32 × am_M)} (he157_192 : ∀ (l5 : Int32) (I : am_M) (o0 : Option am_V) (o1 : Option am_V) (o2 : Option am_V) (o3 : Option am_V) (o4 : Option am_V) (o6 : Option am_V), sm (dp + 2) am_d221 192 [o0, o1, o2, o3, o4, some (.inl l5), o6] [] (I, P, nx, sl) (sm_g1 P nx sl) (e157_192 l5 I)) (hr157 : ∀ (l0 : Nat) (l3 : Int32) (l4 : Int32) (l5 : Int32) (l6 : Int32) (I : am_M) (o1 : Option am_V) (o2 : Option am_V), sm (dp + 2) am_d221 157 [some (.inr l0), o1, o2, some (.inl l3), some (.inl l4), some (.inl l5), some (.inl l6)] [] (I, P, nx, sl) (sm_g1 P nx sl) (r157 l0 l3 l4 l5 l6 I)) (l0 : Nat) (l3 : Int32) (l4 : Int32) (l5 : Int32) (l6 : Int32) (I : am_M) (o1 : Option am_V) (o2 : Option am_V) : sm (dp + 2) am_d221 157 [some (.inr l0), o1, o2, some (.inl l3), some (.inl l4), some (.inl l5), some (.inl l6)] [] (I, P, nx, sl) (sm_g1 P nx sl) (fM_copy_B157 P e157_192 r157 l0 l3 l4 l5 l6 I) := by
  unfold fM_copy_B157
  refine r_iload rfl rfl ?_
  refine r_iload rfl rfl ?_
  refine r_icmp rfl rfl (fun c33 => ?_) (fun c33 => ?_)
  · exact he157_192 l5 I (some (.inr l0)) o1 o2 (some (.inl l3)) (some (.inl l4)) (some (.inl l6))
  · refine r_ck (fun h34 => ?_)
    refine r_aload rfl rfl (am_nz h34) ?_
    refine r_getP rfl h34 ?_
    refine r_const (x := 24) rfl rfl ?_
    refine r_iload rfl rfl ?_
    refine r_bin (z := 24 * l3) rfl rfl (by decide) ?_
    refine r_iload rfl rfl ?_
    refine r_bin (z := (24 * l3) + l4) rfl rfl (by decide) ?_
    refine r_iload rfl rfl ?_
    refine r_bin (z := ((24 * l3) + l4) + l6) rfl rfl (by decide) ?_
    refine r_aload rfl rfl (am_nz h34) ?_
    refine r_getP rfl h34 ?_
    refine r_iload rfl rfl ?_
    refine r_ck (fun h35 => ?_)
    refine r_iald rfl h35 ?_
    refine r_ck (fun h36 => ?_)
    refine r_iast rfl h36 (fun I37 => ?_)
    refine r_iinc (e := l6 + 1) (ls' := fun x38 => [some (.inr l0), o1, o2, some (.inl l3), some (.inl l4), some (.inl l5), some (.inl x38)]) rfl rfl rfl (fun _ => rfl) (fun x38 => ?_)
    refine r_goto rfl ?_
    exact hr157 l0 l3 l4 l5 x38 I37 o1 o2
noncomputable def fM_copy_L157 (P : am_Q) (e157_192 : Int32 → am_M → Option (Int32 × am_M)) : Nat → Nat → Int32 → Int32 → Int32 → Int32 → am_M → Option (Int32 × am_M)
  | 0, _, _, _, _, _, _ => none
  | n + 1, l0, l3, l4, l5, l6, I => fM_copy_B157 P e157_192 (fM_copy_L157 P e157_192 n) l0 l3 l4 l5 l6 I
theorem AfM_copy_L157 {dp : Nat} {P : am_Q} {nx : Nat} {sl : Nat} {e157_192 : Int32 → am_M → Option (Int32 × am_M)} (he157_192 : ∀ (l5 : Int32) (I : am_M) (o0 : Option am_V) (o1 : Option am_V) (o2 : Option am_V) (o3 : Option am_V) (o4 : Option am_V) (o6 : Option am_V), sm (dp + 2) am_d221 192 [o0, o1, o2, o3, o4, some (.inl l5), o6] [] (I, P, nx, sl) (sm_g1 P nx sl) (e157_192 l5 I)) (n : Nat) : ∀ (l0 : Nat) (l3 : Int32) (l4 : Int32) (l5 : Int32) (l6 : Int32) (I : am_M) (o1 : Option am_V) (o2 : Option am_V), sm (dp + 2) am_d221 157 [some (.inr l0), o1, o2, some (.inl l3), some (.inl l4), some (.inl l5), some (.inl l6)] [] (I, P, nx, sl) (sm_g1 P nx sl) (fM_copy_L157 P e157_192 n l0 l3 l4 l5 l6 I) := by
  induction n with
  | zero => intro l0 l3 l4 l5 l6 I o1 o2; exact sm_none
  | succ n ih => intro l0 l3 l4 l5 l6 I o1 o2; exact AfM_copy_B157 he157_192 ih l0 l3 l4 l5 l6 I o1 o2
noncomputable def fM_copy (P : am_Q) (l0 : Nat) (l1 : Int32) (l2 : Int32) (l3 : Int32) (l4 : Int32) (l5 : Int32) (I : am_M) : Option (Int32 × am_M) :=
  Option.bind (fM_isSheet l1) fun y1 =>
  if y1 = 0 then
    (sm_ck (am_t l0 = 13) <|
    Option.bind (fM_finds P l0 ((-1000001)) I) fun y4 =>
    some (y4.1, y4.2))
  else
    (Option.bind (fM_isSheet l3) fun y5 =>
    if ¬ y5 = 0 then
      (sm_ck (am_t l0 = 13) <|
      sm_ck (sm_in (P l0 47) l1) <|
      if (I (P l0 47) l1.toNatClampNeg) = 0 then
        (Option.bind (fM_finds P l0 ((-1000006)) I) fun y10 =>
        some (y10.1, y10.2))
      else
        (sm_ck (sm_in (P l0 47) l3) <|
        if ¬ (I (P l0 47) l3.toNatClampNeg) = 0 then
          (sm_ck (sm_in (P l0 47) l1) <|
          sm_ck (sm_in (P l0 47) l3) <|
          if (I (P l0 47) l1.toNatClampNeg) = (I (P l0 47) l3.toNatClampNeg) then
            (if l5 < 0 then
              (Option.bind (fM_finds P l0 ((-1000001)) I) fun y17 =>
              some (y17.1, y17.2))
            else
              (if l2 < 0 then
                (Option.bind (fM_finds P l0 ((-1000001)) I) fun y19 =>
                some (y19.1, y19.2))
              else
                (if l4 < 0 then
                  (Option.bind (fM_finds P l0 ((-1000001)) I) fun y21 =>
                  some (y21.1, y21.2))
                else
                  (sm_ck (sm_in (P l0 48) l1) <|
                  if ((I (P l0 48) l1.toNatClampNeg) - l2) < l5 then
                    (Option.bind (fM_finds P l0 ((-1000001)) I) fun y24 =>
                    some (y24.1, y24.2))
                  else
                    (sm_ck (sm_in (P l0 48) l3) <|
                    if l5 ≤ ((I (P l0 48) l3.toNatClampNeg) - l4) then
                      (fM_copy_L120 P (fun l0 l3 l4 l5 I =>
                          fM_copy_L157 P (fun l5 I =>
                              some (l5, I)) sm_fu l0 l3 l4 l5 0 I) sm_fu l0 l1 l2 l3 l4 l5 0 I)
                    else
                      (Option.bind (fM_finds P l0 ((-1000001)) I) fun y39 =>
                      some (y39.1, y39.2)))))))
          else
            (Option.bind (fM_finds P l0 ((-1000003)) I) fun y40 =>
            some (y40.1, y40.2)))
        else
          (Option.bind (fM_finds P l0 ((-1000006)) I) fun y41 =>
          some (y41.1, y41.2))))
    else
      (sm_ck (am_t l0 = 13) <|
      Option.bind (fM_finds P l0 ((-1000001)) I) fun y43 =>
      some (y43.1, y43.2)))
set_option maxRecDepth 100000 in
theorem AfM_copy {dp : Nat} {P : am_Q} {nx : Nat} {sl : Nat} {I : am_M} {l0 : Nat} {l1 : Int32} {l2 : Int32} {l3 : Int32} {l4 : Int32} {l5 : Int32} {y : Int32 × am_M} (hy : fM_copy P l0 l1 l2 l3 l4 l5 I = some y) : sm_T (dp + 3) 221 [.inr l0, .inl l1, .inl l2, .inl l3, .inl l4, .inl l5] (I, P, nx, sl) ((sm_g1 P nx sl) y) := by
  refine r_meth (d := am_d221) (dp := dp + 2) (ls0 := [some (.inr l0), some (.inl l1), some (.inl l2), some (.inl l3), some (.inl l4), some (.inl l5), none]) rfl (by decide) rfl rfl ?_ hy
  unfold fM_copy
  refine r_iload rfl rfl ?_
  refine r_call0 rfl rfl trivial (fun y hy => AfM_isSheet (dp := dp + 0) hy) (fun y1 => ?_)
  refine r_if rfl rfl (fun c2 => ?_) (fun c2 => ?_)
  · refine r_ck (fun h3 => ?_)
    refine r_aload rfl rfl (am_nz h3) ?_
    refine r_const (x := (-1000001)) rfl rfl ?_
    refine r_call1 rfl rfl h3 (fun y hy => AfM_finds (dp := dp + 1) hy) (fun y4 => ?_)
    exact r_ireturn rfl (Or.inl rfl) rfl
  · refine r_iload rfl rfl ?_
    refine r_call0 rfl rfl trivial (fun y hy => AfM_isSheet (dp := dp + 0) hy) (fun y5 => ?_)
    refine r_if rfl rfl (fun c6 => ?_) (fun c6 => ?_)
    · refine r_ck (fun h7 => ?_)
      refine r_aload rfl rfl (am_nz h7) ?_
      refine r_getP rfl h7 ?_
      refine r_iload rfl rfl ?_
      refine r_ck (fun h8 => ?_)
      refine r_iald rfl h8 ?_
      refine r_if rfl rfl (fun c9 => ?_) (fun c9 => ?_)
      · refine r_aload rfl rfl (am_nz h7) ?_
        refine r_const (x := (-1000006)) rfl rfl ?_
        refine r_call1 rfl rfl h7 (fun y hy => AfM_finds (dp := dp + 1) hy) (fun y10 => ?_)
        exact r_ireturn rfl (Or.inl rfl) rfl
      · refine r_aload rfl rfl (am_nz h7) ?_
        refine r_getP rfl h7 ?_
        refine r_iload rfl rfl ?_
        refine r_ck (fun h11 => ?_)
        refine r_iald rfl h11 ?_
        refine r_if rfl rfl (fun c12 => ?_) (fun c12 => ?_)
        · refine r_aload rfl rfl (am_nz h7) ?_
          refine r_getP rfl h7 ?_
          refine r_iload rfl rfl ?_
          refine r_ck (fun h13 => ?_)
          refine r_iald rfl h13 ?_
          refine r_aload rfl rfl (am_nz h7) ?_
          refine r_getP rfl h7 ?_
          refine r_iload rfl rfl ?_
          refine r_ck (fun h14 => ?_)
          refine r_iald rfl h14 ?_
          refine r_icmp rfl rfl (fun c15 => ?_) (fun c15 => ?_)
          · refine r_iload rfl rfl ?_
            refine r_if rfl rfl (fun c16 => ?_) (fun c16 => ?_)
            · refine r_aload rfl rfl (am_nz h7) ?_
              refine r_const (x := (-1000001)) rfl rfl ?_
              refine r_call1 rfl rfl h7 (fun y hy => AfM_finds (dp := dp + 1) hy) (fun y17 => ?_)
              exact r_ireturn rfl (Or.inl rfl) rfl
            · refine r_iload rfl rfl ?_
              refine r_if rfl rfl (fun c18 => ?_) (fun c18 => ?_)
              · refine r_aload rfl rfl (am_nz h7) ?_
                refine r_const (x := (-1000001)) rfl rfl ?_
                refine r_call1 rfl rfl h7 (fun y hy => AfM_finds (dp := dp + 1) hy) (fun y19 => ?_)
                exact r_ireturn rfl (Or.inl rfl) rfl
              · refine r_iload rfl rfl ?_
                refine r_if rfl rfl (fun c20 => ?_) (fun c20 => ?_)
                · refine r_aload rfl rfl (am_nz h7) ?_
                  refine r_const (x := (-1000001)) rfl rfl ?_
                  refine r_call1 rfl rfl h7 (fun y hy => AfM_finds (dp := dp + 1) hy) (fun y21 => ?_)
                  exact r_ireturn rfl (Or.inl rfl) rfl
                · refine r_iload rfl rfl ?_
                  refine r_aload rfl rfl (am_nz h7) ?_
                  refine r_getP rfl h7 ?_
                  refine r_iload rfl rfl ?_
                  refine r_ck (fun h22 => ?_)
                  refine r_iald rfl h22 ?_
                  refine r_iload rfl rfl ?_
                  refine r_bin (z := (I (P l0 48) l1.toNatClampNeg) - l2) rfl rfl (by decide) ?_
                  refine r_icmp rfl rfl (fun c23 => ?_) (fun c23 => ?_)
                  · refine r_aload rfl rfl (am_nz h7) ?_
                    refine r_const (x := (-1000001)) rfl rfl ?_
                    refine r_call1 rfl rfl h7 (fun y hy => AfM_finds (dp := dp + 1) hy) (fun y24 => ?_)
                    exact r_ireturn rfl (Or.inl rfl) rfl
                  · refine r_iload rfl rfl ?_
                    refine r_aload rfl rfl (am_nz h7) ?_
                    refine r_getP rfl h7 ?_
                    refine r_iload rfl rfl ?_
                    refine r_ck (fun h25 => ?_)
                    refine r_iald rfl h25 ?_
                    refine r_iload rfl rfl ?_
                    refine r_bin (z := (I (P l0 48) l3.toNatClampNeg) - l4) rfl rfl (by decide) ?_
                    refine r_icmp rfl rfl (fun c26 => ?_) (fun c26 => ?_)
                    · refine r_const (x := 0) rfl rfl ?_
                      refine r_istore (ls' := [some (.inr l0), some (.inl l1), some (.inl l2), some (.inl l3), some (.inl l4), some (.inl l5), some (.inl 0)]) rfl (Nat.le_of_ble_eq_true rfl) rfl ?_
                      refine AfM_copy_L120 ?_ sm_fu l0 l1 l2 l3 l4 l5 0 I
                      · intro l0 l3 l4 l5 I o1 o2 o6
                        refine r_const (x := 0) rfl rfl ?_
                        refine r_istore (ls' := [some (.inr l0), o1, o2, some (.inl l3), some (.inl l4), some (.inl l5), some (.inl 0)]) rfl (Nat.le_of_ble_eq_true rfl) rfl ?_
                        refine AfM_copy_L157 ?_ sm_fu l0 l3 l4 l5 0 I o1 o2
                        · intro l5 I o0 o1 o2 o3 o4 o6
                          refine r_iload rfl rfl ?_
                          exact r_ireturn rfl (Or.inl rfl) rfl
                    · refine r_aload rfl rfl (am_nz h7) ?_
                      refine r_const (x := (-1000001)) rfl rfl ?_
                      refine r_call1 rfl rfl h7 (fun y hy => AfM_finds (dp := dp + 1) hy) (fun y39 => ?_)
                      exact r_ireturn rfl (Or.inl rfl) rfl
          · refine r_aload rfl rfl (am_nz h7) ?_
            refine r_const (x := (-1000003)) rfl rfl ?_
            refine r_call1 rfl rfl h7 (fun y hy => AfM_finds (dp := dp + 1) hy) (fun y40 => ?_)
            exact r_ireturn rfl (Or.inl rfl) rfl
        · refine r_aload rfl rfl (am_nz h7) ?_
          refine r_const (x := (-1000006)) rfl rfl ?_
          refine r_call1 rfl rfl h7 (fun y hy => AfM_finds (dp := dp + 1) hy) (fun y41 => ?_)
          exact r_ireturn rfl (Or.inl rfl) rfl
    · refine r_ck (fun h42 => ?_)
      refine r_aload rfl rfl (am_nz h42) ?_
      refine r_const (x := (-1000001)) rfl rfl ?_
      refine r_call1 rfl rfl h42 (fun y hy => AfM_finds (dp := dp + 1) hy) (fun y43 => ?_)
      exact r_ireturn rfl (Or.inl rfl) rfl
noncomputable def fM_image (P : am_Q) (l0 : Nat) (I : am_M) : Option (Int32 × am_M) :=
  sm_ck (am_t l0 = 13) <|
  Option.bind (fM_copiesAll P l0 6 1 I) fun y2 =>
  sm_bd (am_up y2 l0 29 1) fun I3 =>
  some (1, I3)
set_option maxRecDepth 100000 in
theorem AfM_image {dp : Nat} {P : am_Q} {nx : Nat} {sl : Nat} {I : am_M} {l0 : Nat} {y : Int32 × am_M} (hy : fM_image P l0 I = some y) : sm_T (dp + 3) 222 [.inr l0] (I, P, nx, sl) ((sm_g1 P nx sl) y) := by
  refine r_meth (d := am_d222) (dp := dp + 2) (ls0 := [some (.inr l0)]) rfl (by decide) rfl rfl ?_ hy
  unfold fM_image
  refine r_ck (fun h1 => ?_)
  refine r_aload rfl rfl (am_nz h1) ?_
  refine r_const (x := 6) rfl rfl ?_
  refine r_const (x := 1) rfl rfl ?_
  refine r_call2 rfl rfl h1 (fun y hy => AfM_copiesAll (dp := dp + 0) hy) (fun y2 => ?_)
  refine r_aload rfl rfl (am_nz h1) ?_
  refine r_const (x := 1) rfl rfl ?_
  refine r_putI rfl h1 (fun _ => sm_011) (fun I3 => ?_)
  refine r_const (x := 1) rfl rfl ?_
  exact r_ireturn rfl (Or.inl rfl) rfl
noncomputable def fM_undo (P : am_Q) (l0 : Nat) (I : am_M) : Option (Int32 × am_M) :=
  sm_ck (am_t l0 = 13) <|
  if ¬ (I l0 29) = 0 then
    (Option.bind (fM_copiesAll P l0 6 0 I) fun y3 =>
    sm_bd (am_up y3 l0 28 0) fun I4 =>
    sm_ck (sm_in (P l0 1) 3) <|
    some (I4 (P l0 1) (3 : Int32).toNatClampNeg, I4))
  else
    (Option.bind (fM_finds P l0 ((-1000004)) I) fun y6 =>
    some (y6.1, y6.2))
set_option maxRecDepth 100000 in
theorem AfM_undo {dp : Nat} {P : am_Q} {nx : Nat} {sl : Nat} {I : am_M} {l0 : Nat} {y : Int32 × am_M} (hy : fM_undo P l0 I = some y) : sm_T (dp + 3) 223 [.inr l0] (I, P, nx, sl) ((sm_g1 P nx sl) y) := by
  refine r_meth (d := am_d223) (dp := dp + 2) (ls0 := [some (.inr l0)]) rfl (by decide) rfl rfl ?_ hy
  unfold fM_undo
  refine r_ck (fun h1 => ?_)
  refine r_aload rfl rfl (am_nz h1) ?_
  refine r_getI rfl h1 ?_
  refine r_if rfl rfl (fun c2 => ?_) (fun c2 => ?_)
  · refine r_aload rfl rfl (am_nz h1) ?_
    refine r_const (x := 6) rfl rfl ?_
    refine r_const (x := 0) rfl rfl ?_
    refine r_call2 rfl rfl h1 (fun y hy => AfM_copiesAll (dp := dp + 0) hy) (fun y3 => ?_)
    refine r_aload rfl rfl (am_nz h1) ?_
    refine r_const (x := 0) rfl rfl ?_
    refine r_putI rfl h1 (fun hz => absurd hz (by decide)) (fun I4 => ?_)
    refine r_aload rfl rfl (am_nz h1) ?_
    refine r_getP rfl h1 ?_
    refine r_const (x := 3) rfl rfl ?_
    refine r_ck (fun h5 => ?_)
    refine r_iald rfl h5 ?_
    exact r_ireturn rfl (Or.inl rfl) rfl
  · refine r_aload rfl rfl (am_nz h1) ?_
    refine r_const (x := (-1000004)) rfl rfl ?_
    refine r_call1 rfl rfl h1 (fun y hy => AfM_finds (dp := dp + 1) hy) (fun y6 => ?_)
    exact r_ireturn rfl (Or.inl rfl) rfl
noncomputable def fM_tear (P : am_Q) (l0 : Nat) (I : am_M) : Option (Int32 × am_M) :=
  sm_ck (am_t l0 = 13) <|
  if (I l0 29) = 0 then
    (sm_bd (am_up I l0 29 0) fun I3 =>
    some (0, I3))
  else
    (sm_bd (am_up I l0 29 0) fun I4 =>
    some (1, I4))
set_option maxRecDepth 100000 in
theorem AfM_tear {dp : Nat} {P : am_Q} {nx : Nat} {sl : Nat} {I : am_M} {l0 : Nat} {y : Int32 × am_M} (hy : fM_tear P l0 I = some y) : sm_T (dp + 1) 224 [.inr l0] (I, P, nx, sl) ((sm_g1 P nx sl) y) := by
  refine r_meth (d := am_d224) (dp := dp + 0) (ls0 := [some (.inr l0), none]) rfl (by decide) rfl rfl ?_ hy
  unfold fM_tear
  refine r_ck (fun h1 => ?_)
  refine r_aload rfl rfl (am_nz h1) ?_
  refine r_getI rfl h1 ?_
  refine r_if rfl rfl (fun c2 => ?_) (fun c2 => ?_)
  · refine r_const (x := 0) rfl rfl ?_
    refine r_istore (ls' := [some (.inr l0), some (.inl 0)]) rfl (Nat.le_of_ble_eq_true rfl) rfl ?_
    refine r_aload rfl rfl (am_nz h1) ?_
    refine r_const (x := 0) rfl rfl ?_
    refine r_putI rfl h1 (fun _ => sm_010) (fun I3 => ?_)
    refine r_iload rfl rfl ?_
    exact r_ireturn rfl (Or.inl rfl) rfl
  · refine r_const (x := 1) rfl rfl ?_
    refine r_goto rfl ?_
    refine r_istore (ls' := [some (.inr l0), some (.inl 1)]) rfl (Nat.le_of_ble_eq_true rfl) rfl ?_
    refine r_aload rfl rfl (am_nz h1) ?_
    refine r_const (x := 0) rfl rfl ?_
    refine r_putI rfl h1 (fun _ => sm_010) (fun I4 => ?_)
    refine r_iload rfl rfl ?_
    exact r_ireturn rfl (Or.inl rfl) rfl
noncomputable def fM_count (P : am_Q) (l0 : Nat) (l1 : Int32) (I : am_M) : Option (Int32 × am_M) :=
  if l1 = 0 then
    (sm_ck (am_t l0 = 13) <|
    sm_ck (sm_in (P l0 1) 0) <|
    some (I (P l0 1) (0 : Int32).toNatClampNeg, I))
  else if l1 = 1 then
    (sm_ck (am_t l0 = 13) <|
    sm_ck (sm_in (P l0 1) 1) <|
    some (I (P l0 1) (1 : Int32).toNatClampNeg, I))
  else if l1 = 2 then
    (sm_ck (am_t l0 = 13) <|
    sm_ck (sm_in (P l0 1) 2) <|
    some (I (P l0 1) (2 : Int32).toNatClampNeg, I))
  else if l1 = 3 then
    (sm_ck (am_t l0 = 13) <|
    sm_ck (sm_in (P l0 1) 3) <|
    some (I (P l0 1) (3 : Int32).toNatClampNeg, I))
  else if l1 = 4 then
    (sm_ck (am_t l0 = 13) <|
    sm_ck (sm_in (P l0 1) 4) <|
    some (I (P l0 1) (4 : Int32).toNatClampNeg, I))
  else if l1 = 5 then
    (sm_ck (am_t l0 = 13) <|
    Option.bind (fM_allOwes I P l0) fun y18 =>
    some (y18, I))
  else if l1 = 6 then
    (sm_ck (am_t l0 = 13) <|
    some (I l0 32, I))
  else if l1 = 7 then
    (sm_ck (am_t l0 = 13) <|
    some (I l0 28, I))
  else if l1 = 8 then
    (sm_ck (am_t l0 = 13) <|
    sm_ck (sm_in (P l0 1) 5) <|
    some (I (P l0 1) (5 : Int32).toNatClampNeg, I))
  else (
    sm_ck (am_t l0 = 13) <|
    Option.bind (fM_finds P l0 ((-1000001)) I) fun y27 =>
    some (y27.1, y27.2))
set_option maxRecDepth 100000 in
theorem AfM_count {dp : Nat} {P : am_Q} {nx : Nat} {sl : Nat} {I : am_M} {l0 : Nat} {l1 : Int32} {y : Int32 × am_M} (hy : fM_count P l0 l1 I = some y) : sm_T (dp + 2) 225 [.inr l0, .inl l1] (I, P, nx, sl) ((sm_g1 P nx sl) y) := by
  refine r_meth (d := am_d225) (dp := dp + 1) (ls0 := [some (.inr l0), some (.inl l1)]) rfl (by decide) rfl rfl ?_ hy
  unfold fM_count
  refine r_iload rfl rfl ?_
  refine r_ite (fun c1 => ?_) (fun c1 => ?_)
  · refine r_tabE (t := 52) rfl c1 (by decide) ?_
    refine r_ck (fun h2 => ?_)
    refine r_aload rfl rfl (am_nz h2) ?_
    refine r_getP rfl h2 ?_
    refine r_const (x := 0) rfl rfl ?_
    refine r_ck (fun h3 => ?_)
    refine r_iald rfl h3 ?_
    exact r_ireturn rfl (Or.inl rfl) rfl
  refine r_ite (fun c4 => ?_) (fun c4 => ?_)
  · refine r_tabE (t := 59) rfl c4 (by decide) ?_
    refine r_ck (fun h5 => ?_)
    refine r_aload rfl rfl (am_nz h5) ?_
    refine r_getP rfl h5 ?_
    refine r_const (x := 1) rfl rfl ?_
    refine r_ck (fun h6 => ?_)
    refine r_iald rfl h6 ?_
    exact r_ireturn rfl (Or.inl rfl) rfl
  refine r_ite (fun c7 => ?_) (fun c7 => ?_)
  · refine r_tabE (t := 66) rfl c7 (by decide) ?_
    refine r_ck (fun h8 => ?_)
    refine r_aload rfl rfl (am_nz h8) ?_
    refine r_getP rfl h8 ?_
    refine r_const (x := 2) rfl rfl ?_
    refine r_ck (fun h9 => ?_)
    refine r_iald rfl h9 ?_
    exact r_ireturn rfl (Or.inl rfl) rfl
  refine r_ite (fun c10 => ?_) (fun c10 => ?_)
  · refine r_tabE (t := 73) rfl c10 (by decide) ?_
    refine r_ck (fun h11 => ?_)
    refine r_aload rfl rfl (am_nz h11) ?_
    refine r_getP rfl h11 ?_
    refine r_const (x := 3) rfl rfl ?_
    refine r_ck (fun h12 => ?_)
    refine r_iald rfl h12 ?_
    exact r_ireturn rfl (Or.inl rfl) rfl
  refine r_ite (fun c13 => ?_) (fun c13 => ?_)
  · refine r_tabE (t := 80) rfl c13 (by decide) ?_
    refine r_ck (fun h14 => ?_)
    refine r_aload rfl rfl (am_nz h14) ?_
    refine r_getP rfl h14 ?_
    refine r_const (x := 4) rfl rfl ?_
    refine r_ck (fun h15 => ?_)
    refine r_iald rfl h15 ?_
    exact r_ireturn rfl (Or.inl rfl) rfl
  refine r_ite (fun c16 => ?_) (fun c16 => ?_)
  · refine r_tabE (t := 87) rfl c16 (by decide) ?_
    refine r_ck (fun h17 => ?_)
    refine r_aload rfl rfl (am_nz h17) ?_
    refine r_call0 rfl rfl h17 (fun y hy => AfM_allOwes (dp := dp + 0) hy) (fun y18 => ?_)
    exact r_ireturn rfl (Or.inl rfl) rfl
  refine r_ite (fun c19 => ?_) (fun c19 => ?_)
  · refine r_tabE (t := 92) rfl c19 (by decide) ?_
    refine r_ck (fun h20 => ?_)
    refine r_aload rfl rfl (am_nz h20) ?_
    refine r_getI rfl h20 ?_
    exact r_ireturn rfl (Or.inl rfl) rfl
  refine r_ite (fun c21 => ?_) (fun c21 => ?_)
  · refine r_tabE (t := 97) rfl c21 (by decide) ?_
    refine r_ck (fun h22 => ?_)
    refine r_aload rfl rfl (am_nz h22) ?_
    refine r_getI rfl h22 ?_
    exact r_ireturn rfl (Or.inl rfl) rfl
  refine r_ite (fun c23 => ?_) (fun c23 => ?_)
  · refine r_tabE (t := 102) rfl c23 (by decide) ?_
    refine r_ck (fun h24 => ?_)
    refine r_aload rfl rfl (am_nz h24) ?_
    refine r_getP rfl h24 ?_
    refine r_const (x := 5) rfl rfl ?_
    refine r_ck (fun h25 => ?_)
    refine r_iald rfl h25 ?_
    exact r_ireturn rfl (Or.inl rfl) rfl
  refine r_tabD rfl ⟨c1, c4, c7, c10, c13, c16, c19, c21, c23, trivial⟩ ?_
  refine r_ck (fun h26 => ?_)
  refine r_aload rfl rfl (am_nz h26) ?_
  refine r_const (x := (-1000001)) rfl rfl ?_
  refine r_call1 rfl rfl h26 (fun y hy => AfM_finds (dp := dp + 0) hy) (fun y27 => ?_)
  exact r_ireturn rfl (Or.inl rfl) rfl
noncomputable def fM_status_J48 (P : am_Q) (r21 : Nat → Int32 → Int32 → Int32 → am_M → Option (Int32 × am_M)) (l0 : Nat) (l1 : Int32) (l3 : Int32) (s0 : Int32) (s1 : Int32) (I : am_M) : Option (Int32 × am_M) :=
  sm_bd (s1 + s0) fun x7 =>
  sm_bd (l3 + 1) fun x8 =>
  r21 l0 l1 x7 x8 I
set_option maxRecDepth 100000 in
theorem AfM_status_J48 {dp : Nat} {P : am_Q} {nx : Nat} {sl : Nat} {r21 : Nat → Int32 → Int32 → Int32 → am_M → Option (Int32 × am_M)} (hr21 : ∀ (l0 : Nat) (l1 : Int32) (l2 : Int32) (l3 : Int32) (I : am_M), sm (dp + 1) am_d226 21 [some (.inr l0), some (.inl l1), some (.inl l2), some (.inl l3)] [] (I, P, nx, sl) (sm_g1 P nx sl) (r21 l0 l1 l2 l3 I)) (l0 : Nat) (l1 : Int32) (l3 : Int32) (s0 : Int32) (s1 : Int32) (I : am_M) (o2 : Option am_V) : sm (dp + 1) am_d226 48 [some (.inr l0), some (.inl l1), o2, some (.inl l3)] [.inl s0, .inl s1] (I, P, nx, sl) (sm_g1 P nx sl) (fM_status_J48 P r21 l0 l1 l3 s0 s1 I) := by
  unfold fM_status_J48
  refine r_bin (z := s1 + s0) rfl rfl (by decide) ?_
  refine r_bd (fun x7 => ?_)
  refine r_istore (ls' := [some (.inr l0), some (.inl l1), some (.inl x7), some (.inl l3)]) rfl (Nat.le_of_ble_eq_true rfl) rfl ?_
  refine r_iinc (e := l3 + 1) (ls' := fun x8 => [some (.inr l0), some (.inl l1), some (.inl x7), some (.inl x8)]) rfl rfl rfl (fun _ => rfl) (fun x8 => ?_)
  refine r_goto rfl ?_
  exact hr21 l0 l1 x7 x8 I
noncomputable def fM_status_J38 (P : am_Q) (r21 : Nat → Int32 → Int32 → Int32 → am_M → Option (Int32 × am_M)) (l0 : Nat) (l1 : Int32) (l3 : Int32) (s0 : Int32) (I : am_M) : Option (Int32 × am_M) :=
  sm_ck (am_t l0 = 13) <|
  sm_ck (sm_in (P l0 0) l3) <|
  fM_status_J48 P r21 l0 l1 l3 (I (P l0 0) l3.toNatClampNeg) s0 I
set_option maxRecDepth 100000 in
theorem AfM_status_J38 {dp : Nat} {P : am_Q} {nx : Nat} {sl : Nat} {r21 : Nat → Int32 → Int32 → Int32 → am_M → Option (Int32 × am_M)} (hr21 : ∀ (l0 : Nat) (l1 : Int32) (l2 : Int32) (l3 : Int32) (I : am_M), sm (dp + 1) am_d226 21 [some (.inr l0), some (.inl l1), some (.inl l2), some (.inl l3)] [] (I, P, nx, sl) (sm_g1 P nx sl) (r21 l0 l1 l2 l3 I)) (l0 : Nat) (l1 : Int32) (l3 : Int32) (s0 : Int32) (I : am_M) (o2 : Option am_V) : sm (dp + 1) am_d226 38 [some (.inr l0), some (.inl l1), o2, some (.inl l3)] [.inl s0] (I, P, nx, sl) (sm_g1 P nx sl) (fM_status_J38 P r21 l0 l1 l3 s0 I) := by
  unfold fM_status_J38
  refine r_ck (fun h5 => ?_)
  refine r_aload rfl rfl (am_nz h5) ?_
  refine r_getP rfl h5 ?_
  refine r_iload rfl rfl ?_
  refine r_ck (fun h6 => ?_)
  refine r_iald rfl h6 ?_
  refine r_goto rfl ?_
  exact AfM_status_J48 hr21 l0 l1 l3 (I (P l0 0) l3.toNatClampNeg) s0 I o2
noncomputable def fM_status_B21 (P : am_Q) (e21_56 : Int32 → am_M → Option (Int32 × am_M)) (r21 : Nat → Int32 → Int32 → Int32 → am_M → Option (Int32 × am_M)) (l0 : Nat) (l1 : Int32) (l2 : Int32) (l3 : Int32) (I : am_M) : Option (Int32 × am_M) :=
  if 7 ≤ l3 then
    (e21_56 l2 I)
  else
    (if l1 = ((-1)) then
      (fM_status_J38 P r21 l0 l1 l3 l2 I)
    else
      (if ¬ l1 = l3 then
        (fM_status_J48 P r21 l0 l1 l3 0 l2 I)
      else
        (fM_status_J38 P r21 l0 l1 l3 l2 I)))
set_option maxRecDepth 100000 in
theorem AfM_status_B21 {dp : Nat} {P : am_Q} {nx : Nat} {sl : Nat} {e21_56 : Int32 → am_M → Option (Int32 × am_M)} {r21 : Nat → Int32 → Int32 → Int32 → am_M → Option (Int32 × am_M)} (he21_56 : ∀ (l2 : Int32) (I : am_M) (o0 : Option am_V) (o1 : Option am_V) (o3 : Option am_V), sm (dp + 1) am_d226 56 [o0, o1, some (.inl l2), o3] [] (I, P, nx, sl) (sm_g1 P nx sl) (e21_56 l2 I)) (hr21 : ∀ (l0 : Nat) (l1 : Int32) (l2 : Int32) (l3 : Int32) (I : am_M), sm (dp + 1) am_d226 21 [some (.inr l0), some (.inl l1), some (.inl l2), some (.inl l3)] [] (I, P, nx, sl) (sm_g1 P nx sl) (r21 l0 l1 l2 l3 I)) (l0 : Nat) (l1 : Int32) (l2 : Int32) (l3 : Int32) (I : am_M) : sm (dp + 1) am_d226 21 [some (.inr l0), some (.inl l1), some (.inl l2), some (.inl l3)] [] (I, P, nx, sl) (sm_g1 P nx sl) (fM_status_B21 P e21_56 r21 l0 l1 l2 l3 I) := by
  unfold fM_status_B21
  refine r_iload rfl rfl ?_
  refine r_const (x := 7) rfl rfl ?_
  refine r_icmp rfl rfl (fun c3 => ?_) (fun c3 => ?_)
  · exact he21_56 l2 I (some (.inr l0)) (some (.inl l1)) (some (.inl l3))
  · refine r_iload rfl rfl ?_
    refine r_iload rfl rfl ?_
    refine r_const (x := (-1)) rfl rfl ?_
    refine r_icmp rfl rfl (fun c4 => ?_) (fun c4 => ?_)
    · exact AfM_status_J38 hr21 l0 l1 l3 l2 I (some (.inl l2))
    · refine r_iload rfl rfl ?_
      refine r_iload rfl rfl ?_
      refine r_icmp rfl rfl (fun c9 => ?_) (fun c9 => ?_)
      · refine r_const (x := 0) rfl rfl ?_
        exact AfM_status_J48 hr21 l0 l1 l3 0 l2 I (some (.inl l2))
      · exact AfM_status_J38 hr21 l0 l1 l3 l2 I (some (.inl l2))
noncomputable def fM_status_L21 (P : am_Q) (e21_56 : Int32 → am_M → Option (Int32 × am_M)) : Nat → Nat → Int32 → Int32 → Int32 → am_M → Option (Int32 × am_M)
  | 0, _, _, _, _, _ => none
  | n + 1, l0, l1, l2, l3, I => fM_status_B21 P e21_56 (fM_status_L21 P e21_56 n) l0 l1 l2 l3 I
theorem AfM_status_L21 {dp : Nat} {P : am_Q} {nx : Nat} {sl : Nat} {e21_56 : Int32 → am_M → Option (Int32 × am_M)} (he21_56 : ∀ (l2 : Int32) (I : am_M) (o0 : Option am_V) (o1 : Option am_V) (o3 : Option am_V), sm (dp + 1) am_d226 56 [o0, o1, some (.inl l2), o3] [] (I, P, nx, sl) (sm_g1 P nx sl) (e21_56 l2 I)) (n : Nat) : ∀ (l0 : Nat) (l1 : Int32) (l2 : Int32) (l3 : Int32) (I : am_M), sm (dp + 1) am_d226 21 [some (.inr l0), some (.inl l1), some (.inl l2), some (.inl l3)] [] (I, P, nx, sl) (sm_g1 P nx sl) (fM_status_L21 P e21_56 n l0 l1 l2 l3 I) := by
  induction n with
  | zero => intro l0 l1 l2 l3 I; exact sm_none
  | succ n ih => intro l0 l1 l2 l3 I; exact AfM_status_B21 he21_56 ih l0 l1 l2 l3 I
noncomputable def fM_status (P : am_Q) (l0 : Nat) (l1 : Int32) (I : am_M) : Option (Int32 × am_M) :=
  Option.bind (fM_within l1 ((-1)) 6) fun y1 =>
  if ¬ y1 = 0 then
    (fM_status_L21 P (fun l2 I =>
        some (l2, I)) sm_fu l0 l1 0 0 I)
  else
    (sm_ck (am_t l0 = 13) <|
    Option.bind (fM_finds P l0 ((-1000001)) I) fun y11 =>
    some (y11.1, y11.2))
set_option maxRecDepth 100000 in
theorem AfM_status {dp : Nat} {P : am_Q} {nx : Nat} {sl : Nat} {I : am_M} {l0 : Nat} {l1 : Int32} {y : Int32 × am_M} (hy : fM_status P l0 l1 I = some y) : sm_T (dp + 2) 226 [.inr l0, .inl l1] (I, P, nx, sl) ((sm_g1 P nx sl) y) := by
  refine r_meth (d := am_d226) (dp := dp + 1) (ls0 := [some (.inr l0), some (.inl l1), none, none]) rfl (by decide) rfl rfl ?_ hy
  unfold fM_status
  refine r_iload rfl rfl ?_
  refine r_const (x := (-1)) rfl rfl ?_
  refine r_const (x := 6) rfl rfl ?_
  refine r_call0 rfl rfl trivial (fun y hy => AfM_within (dp := dp + 0) hy) (fun y1 => ?_)
  refine r_if rfl rfl (fun c2 => ?_) (fun c2 => ?_)
  · refine r_const (x := 0) rfl rfl ?_
    refine r_istore (ls' := [some (.inr l0), some (.inl l1), some (.inl 0), none]) rfl (Nat.le_of_ble_eq_true rfl) rfl ?_
    refine r_const (x := 0) rfl rfl ?_
    refine r_istore (ls' := [some (.inr l0), some (.inl l1), some (.inl 0), some (.inl 0)]) rfl (Nat.le_of_ble_eq_true rfl) rfl ?_
    refine AfM_status_L21 ?_ sm_fu l0 l1 0 0 I
    · intro l2 I o0 o1 o3
      refine r_iload rfl rfl ?_
      exact r_ireturn rfl (Or.inl rfl) rfl
  · refine r_ck (fun h10 => ?_)
    refine r_aload rfl rfl (am_nz h10) ?_
    refine r_const (x := (-1000001)) rfl rfl ?_
    refine r_call1 rfl rfl h10 (fun y hy => AfM_finds (dp := dp + 0) hy) (fun y11 => ?_)
    exact r_ireturn rfl (Or.inl rfl) rfl
noncomputable def fM_orders_O_J129 (rc209 : Nat → Int32 → Int32 → am_M → am_Q → Nat → Nat → Option (am_S)) (r92 : Nat → Int32 → Int32 → Int32 → am_M → am_Q → Nat → Nat → Option (am_S)) (l0 : Nat) (l1 : Int32) (l2 : Int32) (l3 : Int32) (I : am_M) (P : am_Q) (nx : Nat) (sl : Nat) : Option (am_S) :=
  sm_bd (l3 + 1) fun x8 =>
  r92 l0 l1 l2 x8 I P nx sl
set_option maxRecDepth 100000 in
theorem AfM_orders_O_J129 {D : Nat} {rc209 : Nat → Int32 → Int32 → am_M → am_Q → Nat → Nat → Option (am_S)} {r92 : Nat → Int32 → Int32 → Int32 → am_M → am_Q → Nat → Nat → Option (am_S)} (hrc209 : ∀ (l0 : Nat) (l1 : Int32) (l2 : Int32) (I : am_M) (P : am_Q) (nx : Nat) (sl : Nat) (y : am_S), rc209 l0 l1 l2 I P nx sl = some y → sm_T D 209 [.inr l0, .inl l1, .inl l2] (I, P, nx, sl) (sm_g4 y)) (hD : 6 ≤ D) (hr92 : ∀ (l0 : Nat) (l1 : Int32) (l2 : Int32) (l3 : Int32) (I : am_M) (P : am_Q) (nx : Nat) (sl : Nat) (o4 : Option am_V), sm D am_d209 92 [some (.inr l0), some (.inl l1), some (.inl l2), some (.inl l3), o4] [] (I, P, nx, sl) sm_g4 (r92 l0 l1 l2 l3 I P nx sl)) (l0 : Nat) (l1 : Int32) (l2 : Int32) (l3 : Int32) (I : am_M) (P : am_Q) (nx : Nat) (sl : Nat) (o4 : Option am_V) : sm D am_d209 129 [some (.inr l0), some (.inl l1), some (.inl l2), some (.inl l3), o4] [] (I, P, nx, sl) sm_g4 (fM_orders_O_J129 rc209 r92 l0 l1 l2 l3 I P nx sl) := by
  unfold fM_orders_O_J129
  refine r_iinc (e := l3 + 1) (ls' := fun x8 => [some (.inr l0), some (.inl l1), some (.inl l2), some (.inl x8), o4]) rfl rfl rfl (fun _ => rfl) (fun x8 => ?_)
  refine r_goto rfl ?_
  exact hr92 l0 l1 l2 x8 I P nx sl o4
noncomputable def fM_orders_O_B92 (rc209 : Nat → Int32 → Int32 → am_M → am_Q → Nat → Nat → Option (am_S)) (e92_135 : am_M → am_Q → Nat → Nat → Option (am_S)) (r92 : Nat → Int32 → Int32 → Int32 → am_M → am_Q → Nat → Nat → Option (am_S)) (l0 : Nat) (l1 : Int32) (l2 : Int32) (l3 : Int32) (I : am_M) (P : am_Q) (nx : Nat) (sl : Nat) : Option (am_S) :=
  sm_ck (am_t l0 = 13) <|
  sm_ck (sm_in (P l0 1) 0) <|
  if (I (P l0 1) (0 : Int32).toNatClampNeg) ≤ l3 then
    (e92_135 I P nx sl)
  else
    (if ¬ ((sm_shr l2 l3) &&& 1) = 0 then
      (fM_orders_O_J129 rc209 r92 l0 l1 l2 l3 I P nx sl)
    else
      (sm_ck (sm_iw (P l0 51) l1) <|
      sm_bd (am_up I (P l0 51) l1.toNatClampNeg l3) fun I10 =>
      Option.bind (rc209 l0 (l1 + 1) (l2 ||| (sm_shl 1 l3)) I10 P nx sl) fun y11 =>
      fM_orders_O_J129 rc209 r92 l0 l1 l2 l3 y11.1 y11.2.1 y11.2.2.1 y11.2.2.2))
set_option maxRecDepth 100000 in
theorem AfM_orders_O_B92 {D : Nat} {rc209 : Nat → Int32 → Int32 → am_M → am_Q → Nat → Nat → Option (am_S)} {e92_135 : am_M → am_Q → Nat → Nat → Option (am_S)} {r92 : Nat → Int32 → Int32 → Int32 → am_M → am_Q → Nat → Nat → Option (am_S)} (hrc209 : ∀ (l0 : Nat) (l1 : Int32) (l2 : Int32) (I : am_M) (P : am_Q) (nx : Nat) (sl : Nat) (y : am_S), rc209 l0 l1 l2 I P nx sl = some y → sm_T D 209 [.inr l0, .inl l1, .inl l2] (I, P, nx, sl) (sm_g4 y)) (hD : 6 ≤ D) (he92_135 : ∀ (I : am_M) (P : am_Q) (nx : Nat) (sl : Nat) (o0 : Option am_V) (o1 : Option am_V) (o2 : Option am_V) (o3 : Option am_V) (o4 : Option am_V), sm D am_d209 135 [o0, o1, o2, o3, o4] [] (I, P, nx, sl) sm_g4 (e92_135 I P nx sl)) (hr92 : ∀ (l0 : Nat) (l1 : Int32) (l2 : Int32) (l3 : Int32) (I : am_M) (P : am_Q) (nx : Nat) (sl : Nat) (o4 : Option am_V), sm D am_d209 92 [some (.inr l0), some (.inl l1), some (.inl l2), some (.inl l3), o4] [] (I, P, nx, sl) sm_g4 (r92 l0 l1 l2 l3 I P nx sl)) (l0 : Nat) (l1 : Int32) (l2 : Int32) (l3 : Int32) (I : am_M) (P : am_Q) (nx : Nat) (sl : Nat) (o4 : Option am_V) : sm D am_d209 92 [some (.inr l0), some (.inl l1), some (.inl l2), some (.inl l3), o4] [] (I, P, nx, sl) sm_g4 (fM_orders_O_B92 rc209 e92_135 r92 l0 l1 l2 l3 I P nx sl) := by
  unfold fM_orders_O_B92
  refine r_iload rfl rfl ?_
  refine r_ck (fun h4 => ?_)
  refine r_aload rfl rfl (am_nz h4) ?_
  refine r_getP rfl h4 ?_
  refine r_const (x := 0) rfl rfl ?_
  refine r_ck (fun h5 => ?_)
  refine r_iald rfl h5 ?_
  refine r_icmp rfl rfl (fun c6 => ?_) (fun c6 => ?_)
  · exact he92_135 I P nx sl (some (.inr l0)) (some (.inl l1)) (some (.inl l2)) (some (.inl l3)) o4
  · refine r_iload rfl rfl ?_
    refine r_iload rfl rfl ?_
    refine r_bin (z := sm_shr l2 l3) rfl rfl (by decide) ?_
    refine r_const (x := 1) rfl rfl ?_
    refine r_bin (z := (sm_shr l2 l3) &&& 1) rfl rfl (by decide) ?_
    refine r_if rfl rfl (fun c7 => ?_) (fun c7 => ?_)
    · exact AfM_orders_O_J129 hrc209 hD hr92 l0 l1 l2 l3 I P nx sl o4
    · refine r_aload rfl rfl (am_nz h4) ?_
      refine r_getP rfl h4 ?_
      refine r_iload rfl rfl ?_
      refine r_iload rfl rfl ?_
      refine r_ck (fun h9 => ?_)
      refine r_iast rfl h9 (fun I10 => ?_)
      refine r_aload rfl rfl (am_nz h4) ?_
      refine r_iload rfl rfl ?_
      refine r_const (x := 1) rfl rfl ?_
      refine r_bin (z := l1 + 1) rfl rfl (by decide) ?_
      refine r_iload rfl rfl ?_
      refine r_const (x := 1) rfl rfl ?_
      refine r_iload rfl rfl ?_
      refine r_bin (z := sm_shl 1 l3) rfl rfl (by decide) ?_
      refine r_bin (z := l2 ||| (sm_shl 1 l3)) rfl rfl (by decide) ?_
      refine r_call4 rfl rfl h4 (fun y hy => hrc209 _ _ _ _ _ _ _ _ hy) (fun y11 => ?_)
      exact AfM_orders_O_J129 hrc209 hD hr92 l0 l1 l2 l3 y11.1 y11.2.1 y11.2.2.1 y11.2.2.2 o4
noncomputable def fM_orders_O_L92 (rc209 : Nat → Int32 → Int32 → am_M → am_Q → Nat → Nat → Option (am_S)) (e92_135 : am_M → am_Q → Nat → Nat → Option (am_S)) : Nat → Nat → Int32 → Int32 → Int32 → am_M → am_Q → Nat → Nat → Option (am_S)
  | 0, _, _, _, _, _, _, _, _ => none
  | n + 1, l0, l1, l2, l3, I, P, nx, sl => fM_orders_O_B92 rc209 e92_135 (fM_orders_O_L92 rc209 e92_135 n) l0 l1 l2 l3 I P nx sl
theorem AfM_orders_O_L92 {D : Nat} {rc209 : Nat → Int32 → Int32 → am_M → am_Q → Nat → Nat → Option (am_S)} {e92_135 : am_M → am_Q → Nat → Nat → Option (am_S)} (hrc209 : ∀ (l0 : Nat) (l1 : Int32) (l2 : Int32) (I : am_M) (P : am_Q) (nx : Nat) (sl : Nat) (y : am_S), rc209 l0 l1 l2 I P nx sl = some y → sm_T D 209 [.inr l0, .inl l1, .inl l2] (I, P, nx, sl) (sm_g4 y)) (hD : 6 ≤ D) (he92_135 : ∀ (I : am_M) (P : am_Q) (nx : Nat) (sl : Nat) (o0 : Option am_V) (o1 : Option am_V) (o2 : Option am_V) (o3 : Option am_V) (o4 : Option am_V), sm D am_d209 135 [o0, o1, o2, o3, o4] [] (I, P, nx, sl) sm_g4 (e92_135 I P nx sl)) (n : Nat) : ∀ (l0 : Nat) (l1 : Int32) (l2 : Int32) (l3 : Int32) (I : am_M) (P : am_Q) (nx : Nat) (sl : Nat) (o4 : Option am_V), sm D am_d209 92 [some (.inr l0), some (.inl l1), some (.inl l2), some (.inl l3), o4] [] (I, P, nx, sl) sm_g4 (fM_orders_O_L92 rc209 e92_135 n l0 l1 l2 l3 I P nx sl) := by
  induction n with
  | zero => intro l0 l1 l2 l3 I P nx sl o4; exact sm_none
  | succ n ih => intro l0 l1 l2 l3 I P nx sl o4; exact AfM_orders_O_B92 hrc209 hD he92_135 ih l0 l1 l2 l3 I P nx sl o4
noncomputable def fM_orders_O_B12 (rc209 : Nat → Int32 → Int32 → am_M → am_Q → Nat → Nat → Option (am_S)) (e12_35 : Nat → Int32 → am_M → am_Q → Nat → Nat → Option (am_S)) (r12 : Nat → Int32 → Int32 → am_M → am_Q → Nat → Nat → Option (am_S)) (l0 : Nat) (l1 : Int32) (l3 : Int32) (I : am_M) (P : am_Q) (nx : Nat) (sl : Nat) : Option (am_S) :=
  if l1 ≤ l3 then
    (e12_35 l0 l1 I P nx sl)
  else
    (sm_ck (am_t l0 = 13) <|
    sm_ck (sm_in (P l0 51) l3) <|
    sm_ck (sm_iw (P l0 7) l3) <|
    sm_bd (am_up I (P l0 7) l3.toNatClampNeg (I (P l0 51) l3.toNatClampNeg)) fun I16 =>
    sm_bd (l3 + 1) fun x17 =>
    r12 l0 l1 x17 I16 P nx sl)
set_option maxRecDepth 100000 in
theorem AfM_orders_O_B12 {D : Nat} {rc209 : Nat → Int32 → Int32 → am_M → am_Q → Nat → Nat → Option (am_S)} {e12_35 : Nat → Int32 → am_M → am_Q → Nat → Nat → Option (am_S)} {r12 : Nat → Int32 → Int32 → am_M → am_Q → Nat → Nat → Option (am_S)} (hrc209 : ∀ (l0 : Nat) (l1 : Int32) (l2 : Int32) (I : am_M) (P : am_Q) (nx : Nat) (sl : Nat) (y : am_S), rc209 l0 l1 l2 I P nx sl = some y → sm_T D 209 [.inr l0, .inl l1, .inl l2] (I, P, nx, sl) (sm_g4 y)) (hD : 6 ≤ D) (he12_35 : ∀ (l0 : Nat) (l1 : Int32) (I : am_M) (P : am_Q) (nx : Nat) (sl : Nat) (o2 : Option am_V) (o3 : Option am_V) (o4 : Option am_V), sm D am_d209 35 [some (.inr l0), some (.inl l1), o2, o3, o4] [] (I, P, nx, sl) sm_g4 (e12_35 l0 l1 I P nx sl)) (hr12 : ∀ (l0 : Nat) (l1 : Int32) (l3 : Int32) (I : am_M) (P : am_Q) (nx : Nat) (sl : Nat) (o2 : Option am_V) (o4 : Option am_V), sm D am_d209 12 [some (.inr l0), some (.inl l1), o2, some (.inl l3), o4] [] (I, P, nx, sl) sm_g4 (r12 l0 l1 l3 I P nx sl)) (l0 : Nat) (l1 : Int32) (l3 : Int32) (I : am_M) (P : am_Q) (nx : Nat) (sl : Nat) (o2 : Option am_V) (o4 : Option am_V) : sm D am_d209 12 [some (.inr l0), some (.inl l1), o2, some (.inl l3), o4] [] (I, P, nx, sl) sm_g4 (fM_orders_O_B12 rc209 e12_35 r12 l0 l1 l3 I P nx sl) := by
  unfold fM_orders_O_B12
  refine r_iload rfl rfl ?_
  refine r_iload rfl rfl ?_
  refine r_icmp rfl rfl (fun c12 => ?_) (fun c12 => ?_)
  · exact he12_35 l0 l1 I P nx sl o2 (some (.inl l3)) o4
  · refine r_ck (fun h13 => ?_)
    refine r_aload rfl rfl (am_nz h13) ?_
    refine r_getP rfl h13 ?_
    refine r_iload rfl rfl ?_
    refine r_aload rfl rfl (am_nz h13) ?_
    refine r_getP rfl h13 ?_
    refine r_iload rfl rfl ?_
    refine r_ck (fun h14 => ?_)
    refine r_iald rfl h14 ?_
    refine r_ck (fun h15 => ?_)
    refine r_iast rfl h15 (fun I16 => ?_)
    refine r_iinc (e := l3 + 1) (ls' := fun x17 => [some (.inr l0), some (.inl l1), o2, some (.inl x17), o4]) rfl rfl rfl (fun _ => rfl) (fun x17 => ?_)
    refine r_goto rfl ?_
    exact hr12 l0 l1 x17 I16 P nx sl o2 o4
noncomputable def fM_orders_O_L12 (rc209 : Nat → Int32 → Int32 → am_M → am_Q → Nat → Nat → Option (am_S)) (e12_35 : Nat → Int32 → am_M → am_Q → Nat → Nat → Option (am_S)) : Nat → Nat → Int32 → Int32 → am_M → am_Q → Nat → Nat → Option (am_S)
  | 0, _, _, _, _, _, _, _ => none
  | n + 1, l0, l1, l3, I, P, nx, sl => fM_orders_O_B12 rc209 e12_35 (fM_orders_O_L12 rc209 e12_35 n) l0 l1 l3 I P nx sl
theorem AfM_orders_O_L12 {D : Nat} {rc209 : Nat → Int32 → Int32 → am_M → am_Q → Nat → Nat → Option (am_S)} {e12_35 : Nat → Int32 → am_M → am_Q → Nat → Nat → Option (am_S)} (hrc209 : ∀ (l0 : Nat) (l1 : Int32) (l2 : Int32) (I : am_M) (P : am_Q) (nx : Nat) (sl : Nat) (y : am_S), rc209 l0 l1 l2 I P nx sl = some y → sm_T D 209 [.inr l0, .inl l1, .inl l2] (I, P, nx, sl) (sm_g4 y)) (hD : 6 ≤ D) (he12_35 : ∀ (l0 : Nat) (l1 : Int32) (I : am_M) (P : am_Q) (nx : Nat) (sl : Nat) (o2 : Option am_V) (o3 : Option am_V) (o4 : Option am_V), sm D am_d209 35 [some (.inr l0), some (.inl l1), o2, o3, o4] [] (I, P, nx, sl) sm_g4 (e12_35 l0 l1 I P nx sl)) (n : Nat) : ∀ (l0 : Nat) (l1 : Int32) (l3 : Int32) (I : am_M) (P : am_Q) (nx : Nat) (sl : Nat) (o2 : Option am_V) (o4 : Option am_V), sm D am_d209 12 [some (.inr l0), some (.inl l1), o2, some (.inl l3), o4] [] (I, P, nx, sl) sm_g4 (fM_orders_O_L12 rc209 e12_35 n l0 l1 l3 I P nx sl) := by
  induction n with
  | zero => intro l0 l1 l3 I P nx sl o2 o4; exact sm_none
  | succ n ih => intro l0 l1 l3 I P nx sl o2 o4; exact AfM_orders_O_B12 hrc209 hD he12_35 ih l0 l1 l3 I P nx sl o2 o4
noncomputable def fM_orders_O_B63 (rc209 : Nat → Int32 → Int32 → am_M → am_Q → Nat → Nat → Option (am_S)) (e63_89 : am_M → am_Q → Nat → Nat → Option (am_S)) (r63 : Nat → Int32 → Int32 → am_M → am_Q → Nat → Nat → Option (am_S)) (l0 : Nat) (l1 : Int32) (l4 : Int32) (I : am_M) (P : am_Q) (nx : Nat) (sl : Nat) : Option (am_S) :=
  if l1 ≤ l4 then
    (e63_89 I P nx sl)
  else
    (sm_ck (am_t l0 = 13) <|
    sm_ck (sm_in (P l0 51) l4) <|
    sm_ck (sm_iw (P l0 52) l4) <|
    sm_bd (am_up I (P l0 52) l4.toNatClampNeg (I (P l0 51) l4.toNatClampNeg)) fun I27 =>
    sm_bd (l4 + 1) fun x28 =>
    r63 l0 l1 x28 I27 P nx sl)
set_option maxRecDepth 100000 in
theorem AfM_orders_O_B63 {D : Nat} {rc209 : Nat → Int32 → Int32 → am_M → am_Q → Nat → Nat → Option (am_S)} {e63_89 : am_M → am_Q → Nat → Nat → Option (am_S)} {r63 : Nat → Int32 → Int32 → am_M → am_Q → Nat → Nat → Option (am_S)} (hrc209 : ∀ (l0 : Nat) (l1 : Int32) (l2 : Int32) (I : am_M) (P : am_Q) (nx : Nat) (sl : Nat) (y : am_S), rc209 l0 l1 l2 I P nx sl = some y → sm_T D 209 [.inr l0, .inl l1, .inl l2] (I, P, nx, sl) (sm_g4 y)) (hD : 6 ≤ D) (he63_89 : ∀ (I : am_M) (P : am_Q) (nx : Nat) (sl : Nat) (o0 : Option am_V) (o1 : Option am_V) (o2 : Option am_V) (o3 : Option am_V) (o4 : Option am_V), sm D am_d209 89 [o0, o1, o2, o3, o4] [] (I, P, nx, sl) sm_g4 (e63_89 I P nx sl)) (hr63 : ∀ (l0 : Nat) (l1 : Int32) (l4 : Int32) (I : am_M) (P : am_Q) (nx : Nat) (sl : Nat) (o2 : Option am_V) (o3 : Option am_V), sm D am_d209 63 [some (.inr l0), some (.inl l1), o2, o3, some (.inl l4)] [] (I, P, nx, sl) sm_g4 (r63 l0 l1 l4 I P nx sl)) (l0 : Nat) (l1 : Int32) (l4 : Int32) (I : am_M) (P : am_Q) (nx : Nat) (sl : Nat) (o2 : Option am_V) (o3 : Option am_V) : sm D am_d209 63 [some (.inr l0), some (.inl l1), o2, o3, some (.inl l4)] [] (I, P, nx, sl) sm_g4 (fM_orders_O_B63 rc209 e63_89 r63 l0 l1 l4 I P nx sl) := by
  unfold fM_orders_O_B63
  refine r_iload rfl rfl ?_
  refine r_iload rfl rfl ?_
  refine r_icmp rfl rfl (fun c23 => ?_) (fun c23 => ?_)
  · exact he63_89 I P nx sl (some (.inr l0)) (some (.inl l1)) o2 o3 (some (.inl l4))
  · refine r_ck (fun h24 => ?_)
    refine r_aload rfl rfl (am_nz h24) ?_
    refine r_getP rfl h24 ?_
    refine r_iload rfl rfl ?_
    refine r_aload rfl rfl (am_nz h24) ?_
    refine r_getP rfl h24 ?_
    refine r_iload rfl rfl ?_
    refine r_ck (fun h25 => ?_)
    refine r_iald rfl h25 ?_
    refine r_ck (fun h26 => ?_)
    refine r_iast rfl h26 (fun I27 => ?_)
    refine r_iinc (e := l4 + 1) (ls' := fun x28 => [some (.inr l0), some (.inl l1), o2, o3, some (.inl x28)]) rfl rfl rfl (fun _ => rfl) (fun x28 => ?_)
    refine r_goto rfl ?_
    exact hr63 l0 l1 x28 I27 P nx sl o2 o3
noncomputable def fM_orders_O_L63 (rc209 : Nat → Int32 → Int32 → am_M → am_Q → Nat → Nat → Option (am_S)) (e63_89 : am_M → am_Q → Nat → Nat → Option (am_S)) : Nat → Nat → Int32 → Int32 → am_M → am_Q → Nat → Nat → Option (am_S)
  | 0, _, _, _, _, _, _, _ => none
  | n + 1, l0, l1, l4, I, P, nx, sl => fM_orders_O_B63 rc209 e63_89 (fM_orders_O_L63 rc209 e63_89 n) l0 l1 l4 I P nx sl
theorem AfM_orders_O_L63 {D : Nat} {rc209 : Nat → Int32 → Int32 → am_M → am_Q → Nat → Nat → Option (am_S)} {e63_89 : am_M → am_Q → Nat → Nat → Option (am_S)} (hrc209 : ∀ (l0 : Nat) (l1 : Int32) (l2 : Int32) (I : am_M) (P : am_Q) (nx : Nat) (sl : Nat) (y : am_S), rc209 l0 l1 l2 I P nx sl = some y → sm_T D 209 [.inr l0, .inl l1, .inl l2] (I, P, nx, sl) (sm_g4 y)) (hD : 6 ≤ D) (he63_89 : ∀ (I : am_M) (P : am_Q) (nx : Nat) (sl : Nat) (o0 : Option am_V) (o1 : Option am_V) (o2 : Option am_V) (o3 : Option am_V) (o4 : Option am_V), sm D am_d209 89 [o0, o1, o2, o3, o4] [] (I, P, nx, sl) sm_g4 (e63_89 I P nx sl)) (n : Nat) : ∀ (l0 : Nat) (l1 : Int32) (l4 : Int32) (I : am_M) (P : am_Q) (nx : Nat) (sl : Nat) (o2 : Option am_V) (o3 : Option am_V), sm D am_d209 63 [some (.inr l0), some (.inl l1), o2, o3, some (.inl l4)] [] (I, P, nx, sl) sm_g4 (fM_orders_O_L63 rc209 e63_89 n l0 l1 l4 I P nx sl) := by
  induction n with
  | zero => intro l0 l1 l4 I P nx sl o2 o3; exact sm_none
  | succ n ih => intro l0 l1 l4 I P nx sl o2 o3; exact AfM_orders_O_B63 hrc209 hD he63_89 ih l0 l1 l4 I P nx sl o2 o3
noncomputable def fM_orders_O_J55 (rc209 : Nat → Int32 → Int32 → am_M → am_Q → Nat → Nat → Option (am_S)) (l0 : Nat) (l1 : Int32) (l3 : Int32) (I : am_M) (P : am_Q) (nx : Nat) (sl : Nat) : Option (am_S) :=
  sm_ck (am_t l0 = 13) <|
  sm_bd (am_up I l0 53 l3) fun I22 =>
  fM_orders_O_L63 rc209 (fun I P nx sl =>
      some (I, P, nx, sl)) sm_fu l0 l1 0 I22 P nx sl
set_option maxRecDepth 100000 in
theorem AfM_orders_O_J55 {D : Nat} {rc209 : Nat → Int32 → Int32 → am_M → am_Q → Nat → Nat → Option (am_S)} (hrc209 : ∀ (l0 : Nat) (l1 : Int32) (l2 : Int32) (I : am_M) (P : am_Q) (nx : Nat) (sl : Nat) (y : am_S), rc209 l0 l1 l2 I P nx sl = some y → sm_T D 209 [.inr l0, .inl l1, .inl l2] (I, P, nx, sl) (sm_g4 y)) (hD : 6 ≤ D) (l0 : Nat) (l1 : Int32) (l3 : Int32) (I : am_M) (P : am_Q) (nx : Nat) (sl : Nat) (o2 : Option am_V) (o4 : Option am_V) : sm D am_d209 55 [some (.inr l0), some (.inl l1), o2, some (.inl l3), o4] [] (I, P, nx, sl) sm_g4 (fM_orders_O_J55 rc209 l0 l1 l3 I P nx sl) := by
  unfold fM_orders_O_J55
  refine r_ck (fun h21 => ?_)
  refine r_aload rfl rfl (am_nz h21) ?_
  refine r_iload rfl rfl ?_
  refine r_putI rfl h21 (fun hz => absurd hz (by decide)) (fun I22 => ?_)
  refine r_const (x := 0) rfl rfl ?_
  refine r_istore (ls' := [some (.inr l0), some (.inl l1), o2, some (.inl l3), some (.inl 0)]) rfl (Nat.le_of_ble_eq_true rfl) rfl ?_
  refine AfM_orders_O_L63 hrc209 hD ?_ sm_fu l0 l1 0 I22 P nx sl o2 (some (.inl l3))
  · intro I P nx sl o0 o1 o2 o3 o4
    exact r_return rfl rfl
noncomputable def fM_orders_O (rc209 : Nat → Int32 → Int32 → am_M → am_Q → Nat → Nat → Option (am_S)) (l0 : Nat) (l1 : Int32) (l2 : Int32) (I : am_M) (P : am_Q) (nx : Nat) (sl : Nat) : Option (am_S) :=
  sm_ck (am_t l0 = 13) <|
  sm_ck (sm_in (P l0 1) 0) <|
  if ¬ l1 = (I (P l0 1) (0 : Int32).toNatClampNeg) then
    (fM_orders_O_L92 rc209 (fun I P nx sl =>
        some (I, P, nx, sl)) sm_fu l0 l1 l2 0 I P nx sl)
  else
    (fM_orders_O_L12 rc209 (fun l0 l1 I P nx sl =>
        sm_ck (am_t l0 = 13) <|
        Option.bind (fM_offBy l0 I P nx sl) fun y19 =>
        if (y19.2.1 l0 53) < 0 then
          (fM_orders_O_J55 rc209 l0 l1 y19.1 y19.2.1 y19.2.2.1 y19.2.2.2.1 y19.2.2.2.2)
        else
          (if (y19.2.1 l0 53) ≤ y19.1 then
            (some (y19.2.1, y19.2.2.1, y19.2.2.2.1, y19.2.2.2.2))
          else
            (fM_orders_O_J55 rc209 l0 l1 y19.1 y19.2.1 y19.2.2.1 y19.2.2.2.1 y19.2.2.2.2))) sm_fu l0 l1 0 I P nx sl)
set_option maxRecDepth 100000 in
theorem AfM_orders_O {D : Nat} {rc209 : Nat → Int32 → Int32 → am_M → am_Q → Nat → Nat → Option (am_S)} {I : am_M} {P : am_Q} {nx : Nat} {sl : Nat} {l0 : Nat} {l1 : Int32} {l2 : Int32} (hrc209 : ∀ (l0 : Nat) (l1 : Int32) (l2 : Int32) (I : am_M) (P : am_Q) (nx : Nat) (sl : Nat) (y : am_S), rc209 l0 l1 l2 I P nx sl = some y → sm_T D 209 [.inr l0, .inl l1, .inl l2] (I, P, nx, sl) (sm_g4 y)) (hD : 6 ≤ D) {y : am_S} (hy : fM_orders_O rc209 l0 l1 l2 I P nx sl = some y) : sm_T (D + 1) 209 [.inr l0, .inl l1, .inl l2] (I, P, nx, sl) (sm_g4 y) := by
  refine r_meth (d := am_d209) (dp := D) (ls0 := [some (.inr l0), some (.inl l1), some (.inl l2), none, none]) rfl (by decide) rfl rfl ?_ hy
  unfold fM_orders_O
  refine r_iload rfl rfl ?_
  refine r_ck (fun h1 => ?_)
  refine r_aload rfl rfl (am_nz h1) ?_
  refine r_getP rfl h1 ?_
  refine r_const (x := 0) rfl rfl ?_
  refine r_ck (fun h2 => ?_)
  refine r_iald rfl h2 ?_
  refine r_icmp rfl rfl (fun c3 => ?_) (fun c3 => ?_)
  · refine r_const (x := 0) rfl rfl ?_
    refine r_istore (ls' := [some (.inr l0), some (.inl l1), some (.inl l2), some (.inl 0), none]) rfl (Nat.le_of_ble_eq_true rfl) rfl ?_
    refine AfM_orders_O_L92 hrc209 hD ?_ sm_fu l0 l1 l2 0 I P nx sl none
    · intro I P nx sl o0 o1 o2 o3 o4
      exact r_return rfl rfl
  · refine r_const (x := 0) rfl rfl ?_
    refine r_istore (ls' := [some (.inr l0), some (.inl l1), some (.inl l2), some (.inl 0), none]) rfl (Nat.le_of_ble_eq_true rfl) rfl ?_
    refine AfM_orders_O_L12 hrc209 hD ?_ sm_fu l0 l1 0 I P nx sl (some (.inl l2)) none
    · intro l0 l1 I P nx sl o2 o3 o4
      refine r_ck (fun h18 => ?_)
      refine r_aload rfl rfl (am_nz h18) ?_
      refine r_call3 rfl rfl h18 (fun y hy => sm_T_mono (show 0 + 6 ≤ D by omega) (AfM_offBy (dp := 0) hy)) (fun y19 => ?_)
      refine r_istore (ls' := [some (.inr l0), some (.inl l1), o2, some (.inl y19.1), o4]) rfl (Nat.le_of_ble_eq_true rfl) rfl ?_
      refine r_aload rfl rfl (am_nz h18) ?_
      refine r_getI rfl h18 ?_
      refine r_if rfl rfl (fun c20 => ?_) (fun c20 => ?_)
      · exact AfM_orders_O_J55 hrc209 hD l0 l1 y19.1 y19.2.1 y19.2.2.1 y19.2.2.2.1 y19.2.2.2.2 o2 o4
      · refine r_iload rfl rfl ?_
        refine r_aload rfl rfl (am_nz h18) ?_
        refine r_getI rfl h18 ?_
        refine r_icmp rfl rfl (fun c29 => ?_) (fun c29 => ?_)
        · exact r_return rfl rfl
        · exact AfM_orders_O_J55 hrc209 hD l0 l1 y19.1 y19.2.1 y19.2.2.1 y19.2.2.2.1 y19.2.2.2.2 o2 o4
