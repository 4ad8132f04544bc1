noncomputable def fM_order_B58 (P : am_Q) (e58_101 : Nat → am_M → Option (Int32 × am_M)) (e58_121 : Nat → Int32 → am_M → Option (Int32 × am_M)) (r58 : Nat → Int32 → Int32 → Int32 → am_M → Option (Int32 × am_M)) (l0 : Nat) (l1 : Int32) (l2 : Int32) (l3 : Int32) (I : am_M) : Option (Int32 × am_M) :=
  sm_ck (am_t l0 = 13) <|
  sm_ck (sm_in (P l0 48) l1) <|
  if (I (P l0 48) l1.toNatClampNeg) ≤ l3 then
    (e58_121 l0 l1 I)
  else
    (sm_ck (sm_in (P l0 49) ((24 * l1) + l3)) <|
    sm_bd (I (P l0 49) ((24 * l1) + l3).toNatClampNeg) fun x13 =>
    Option.bind (fM_isOf I P l0 0 x13) fun y14 =>
    if y14 = 0 then
      (e58_101 l0 I)
    else
      (if ¬ ((sm_shr l2 x13) &&& 1) = 1 then
        (sm_bd (l2 ||| (sm_shl 1 x13)) fun x17 =>
        sm_bd (l3 + 1) fun x18 =>
        r58 l0 l1 x17 x18 I)
      else
        (e58_101 l0 I)))
set_option maxRecDepth 100000 in
theorem AfM_order_B58 {dp : Nat} {P : am_Q} {nx : Nat} {sl : Nat} {e58_101 : Nat → am_M → Option (Int32 × am_M)} {e58_121 : Nat → Int32 → am_M → Option (Int32 × am_M)} {r58 : Nat → Int32 → Int32 → Int32 → am_M → Option (Int32 × am_M)} (he58_101 : ∀ (l0 : Nat) (I : am_M) (o1 : Option am_V) (o2 : Option am_V) (o3 : Option am_V) (o4 : Option am_V), sm (dp + 2) am_d192 101 [some (.inr l0), o1, o2, o3, o4] [] (I, P, nx, sl) (sm_g1 P nx sl) (e58_101 l0 I)) (he58_121 : ∀ (l0 : Nat) (l1 : Int32) (I : am_M) (o2 : Option am_V) (o3 : Option am_V) (o4 : Option am_V), sm (dp + 2) am_d192 121 [some (.inr l0), some (.inl l1), o2, o3, o4] [] (I, P, nx, sl) (sm_g1 P nx sl) (e58_121 l0 l1 I)) (hr58 : ∀ (l0 : Nat) (l1 : Int32) (l2 : Int32) (l3 : Int32) (I : am_M) (o4 : Option am_V), sm (dp + 2) am_d192 58 [some (.inr l0), some (.inl l1), some (.inl l2), some (.inl l3), o4] [] (I, P, nx, sl) (sm_g1 P nx sl) (r58 l0 l1 l2 l3 I)) (l0 : Nat) (l1 : Int32) (l2 : Int32) (l3 : Int32) (I : am_M) (o4 : Option am_V) : sm (dp + 2) am_d192 58 [some (.inr l0), some (.inl l1), some (.inl l2), some (.inl l3), o4] [] (I, P, nx, sl) (sm_g1 P nx sl) (fM_order_B58 P e58_101 e58_121 r58 l0 l1 l2 l3 I) := by
  unfold fM_order_B58
  refine r_iload rfl rfl ?_
  refine r_ck (fun h9 => ?_)
  refine r_aload rfl rfl (am_nz h9) ?_
  refine r_getP rfl h9 ?_
  refine r_iload rfl rfl ?_
  refine r_ck (fun h10 => ?_)
  refine r_iald rfl h10 ?_
  refine r_icmp rfl rfl (fun c11 => ?_) (fun c11 => ?_)
  · exact he58_121 l0 l1 I (some (.inl l2)) (some (.inl l3)) o4
  · refine r_aload rfl rfl (am_nz h9) ?_
    refine r_getP rfl h9 ?_
    refine r_const (x := 24) rfl rfl ?_
    refine r_iload rfl rfl ?_
    refine r_bin (z := 24 * l1) rfl rfl (by decide) ?_
    refine r_iload rfl rfl ?_
    refine r_bin (z := (24 * l1) + l3) rfl rfl (by decide) ?_
    refine r_ck (fun h12 => ?_)
    refine r_iald rfl h12 ?_
    refine r_bd (fun x13 => ?_)
    refine r_istore (ls' := [some (.inr l0), some (.inl l1), some (.inl l2), some (.inl l3), some (.inl x13)]) rfl (Nat.le_of_ble_eq_true rfl) rfl ?_
    refine r_aload rfl rfl (am_nz h9) ?_
    refine r_const (x := 0) rfl rfl ?_
    refine r_iload rfl rfl ?_
    refine r_call0 rfl rfl h9 (fun y hy => AfM_isOf (dp := dp + 0) hy) (fun y14 => ?_)
    refine r_if rfl rfl (fun c15 => ?_) (fun c15 => ?_)
    · exact he58_101 l0 I (some (.inl l1)) (some (.inl l2)) (some (.inl l3)) (some (.inl x13))
    · refine r_iload rfl rfl ?_
      refine r_iload rfl rfl ?_
      refine r_bin (z := sm_shr l2 x13) rfl rfl (by decide) ?_
      refine r_const (x := 1) rfl rfl ?_
      refine r_bin (z := (sm_shr l2 x13) &&& 1) rfl rfl (by decide) ?_
      refine r_const (x := 1) rfl rfl ?_
      refine r_icmp rfl rfl (fun c16 => ?_) (fun c16 => ?_)
      · refine r_iload rfl rfl ?_
        refine r_const (x := 1) rfl rfl ?_
        refine r_iload rfl rfl ?_
        refine r_bin (z := sm_shl 1 x13) rfl rfl (by decide) ?_
        refine r_bin (z := l2 ||| (sm_shl 1 x13)) rfl rfl (by decide) ?_
        refine r_bd (fun x17 => ?_)
        refine r_istore (ls' := [some (.inr l0), some (.inl l1), some (.inl x17), some (.inl l3), some (.inl x13)]) rfl (Nat.le_of_ble_eq_true rfl) rfl ?_
        refine r_iinc (e := l3 + 1) (ls' := fun x18 => [some (.inr l0), some (.inl l1), some (.inl x17), some (.inl x18), some (.inl x13)]) rfl rfl rfl (fun _ => rfl) (fun x18 => ?_)
        refine r_goto rfl ?_
        exact hr58 l0 l1 x17 x18 I (some (.inl x13))
      · exact he58_101 l0 I (some (.inl l1)) (some (.inl l2)) (some (.inl l3)) (some (.inl x13))
noncomputable def fM_order_L58 (P : am_Q) (e58_101 : Nat → am_M → Option (Int32 × am_M)) (e58_121 : Nat → Int32 → am_M → Option (Int32 × am_M)) : Nat → Nat → Int32 → Int32 → Int32 → am_M → Option (Int32 × am_M)
  | 0, _, _, _, _, _ => none
  | n + 1, l0, l1, l2, l3, I => fM_order_B58 P e58_101 e58_121 (fM_order_L58 P e58_101 e58_121 n) l0 l1 l2 l3 I
theorem AfM_order_L58 {dp : Nat} {P : am_Q} {nx : Nat} {sl : Nat} {e58_101 : Nat → am_M → Option (Int32 × am_M)} {e58_121 : Nat → Int32 → am_M → Option (Int32 × am_M)} (he58_101 : ∀ (l0 : Nat) (I : am_M) (o1 : Option am_V) (o2 : Option am_V) (o3 : Option am_V) (o4 : Option am_V), sm (dp + 2) am_d192 101 [some (.inr l0), o1, o2, o3, o4] [] (I, P, nx, sl) (sm_g1 P nx sl) (e58_101 l0 I)) (he58_121 : ∀ (l0 : Nat) (l1 : Int32) (I : am_M) (o2 : Option am_V) (o3 : Option am_V) (o4 : Option am_V), sm (dp + 2) am_d192 121 [some (.inr l0), some (.inl l1), o2, o3, o4] [] (I, P, nx, sl) (sm_g1 P nx sl) (e58_121 l0 l1 I)) (n : Nat) : ∀ (l0 : Nat) (l1 : Int32) (l2 : Int32) (l3 : Int32) (I : am_M) (o4 : Option am_V), sm (dp + 2) am_d192 58 [some (.inr l0), some (.inl l1), some (.inl l2), some (.inl l3), o4] [] (I, P, nx, sl) (sm_g1 P nx sl) (fM_order_L58 P e58_101 e58_121 n l0 l1 l2 l3 I) := by
  induction n with
  | zero => intro l0 l1 l2 l3 I o4; exact sm_none
  | succ n ih => intro l0 l1 l2 l3 I o4; exact AfM_order_B58 he58_101 he58_121 ih l0 l1 l2 l3 I o4
noncomputable def fM_order_B123 (P : am_Q) (e123_156 : am_M → Option (Int32 × am_M)) (r123 : Nat → Int32 → Int32 → am_M → Option (Int32 × am_M)) (l0 : Nat) (l1 : Int32) (l3 : Int32) (I : am_M) : Option (Int32 × am_M) :=
  sm_ck (am_t l0 = 13) <|
  sm_ck (sm_in (P l0 48) l1) <|
  if (I (P l0 48) l1.toNatClampNeg) ≤ l3 then
    (e123_156 I)
  else
    (sm_ck (sm_in (P l0 49) ((24 * l1) + l3)) <|
    sm_ck (sm_iw (P l0 7) l3) <|
    sm_bd (am_up I (P l0 7) l3.toNatClampNeg (I (P l0 49) ((24 * l1) + l3).toNatClampNeg)) fun I26 =>
    sm_bd (l3 + 1) fun x27 =>
    r123 l0 l1 x27 I26)
set_option maxRecDepth 100000 in
theorem AfM_order_B123 {dp : Nat} {P : am_Q} {nx : Nat} {sl : Nat} {e123_156 : am_M → Option (Int32 × am_M)} {r123 : Nat → Int32 → Int32 → am_M → Option (Int32 × am_M)} (he123_156 : ∀ (I : am_M) (o0 : Option am_V) (o1 : Option am_V) (o2 : Option am_V) (o3 : Option am_V) (o4 : Option am_V), sm (dp + 2) am_d192 156 [o0, o1, o2, o3, o4] [] (I, P, nx, sl) (sm_g1 P nx sl) (e123_156 I)) (hr123 : ∀ (l0 : Nat) (l1 : Int32) (l3 : Int32) (I : am_M) (o2 : Option am_V) (o4 : Option am_V), sm (dp + 2) am_d192 123 [some (.inr l0), some (.inl l1), o2, some (.inl l3), o4] [] (I, P, nx, sl) (sm_g1 P nx sl) (r123 l0 l1 l3 I)) (l0 : Nat) (l1 : Int32) (l3 : Int32) (I : am_M) (o2 : Option am_V) (o4 : Option am_V) : sm (dp + 2) am_d192 123 [some (.inr l0), some (.inl l1), o2, some (.inl l3), o4] [] (I, P, nx, sl) (sm_g1 P nx sl) (fM_order_B123 P e123_156 r123 l0 l1 l3 I) := by
  unfold fM_order_B123
  refine r_iload rfl rfl ?_
  refine r_ck (fun h21 => ?_)
  refine r_aload rfl rfl (am_nz h21) ?_
  refine r_getP rfl h21 ?_
  refine r_iload rfl rfl ?_
  refine r_ck (fun h22 => ?_)
  refine r_iald rfl h22 ?_
  refine r_icmp rfl rfl (fun c23 => ?_) (fun c23 => ?_)
  · exact he123_156 I (some (.inr l0)) (some (.inl l1)) o2 (some (.inl l3)) o4
  · refine r_aload rfl rfl (am_nz h21) ?_
    refine r_getP rfl h21 ?_
    refine r_iload rfl rfl ?_
    refine r_aload rfl rfl (am_nz h21) ?_
    refine r_getP rfl h21 ?_
    refine r_const (x := 24) rfl rfl ?_
    refine r_iload rfl rfl ?_
    refine r_bin (z := 24 * l1) rfl rfl (by decide) ?_
    refine r_iload rfl rfl ?_
    refine r_bin (z := (24 * l1) + l3) rfl rfl (by decide) ?_
    refine r_ck (fun h24 => ?_)
    refine r_iald rfl h24 ?_
    refine r_ck (fun h25 => ?_)
    refine r_iast rfl h25 (fun I26 => ?_)
    refine r_iinc (e := l3 + 1) (ls' := fun x27 => [some (.inr l0), some (.inl l1), o2, some (.inl x27), o4]) rfl rfl rfl (fun _ => rfl) (fun x27 => ?_)
    refine r_goto rfl ?_
    exact hr123 l0 l1 x27 I26 o2 o4
noncomputable def fM_order_L123 (P : am_Q) (e123_156 : am_M → Option (Int32 × am_M)) : Nat → Nat → Int32 → Int32 → am_M → Option (Int32 × am_M)
  | 0, _, _, _, _ => none
  | n + 1, l0, l1, l3, I => fM_order_B123 P e123_156 (fM_order_L123 P e123_156 n) l0 l1 l3 I
theorem AfM_order_L123 {dp : Nat} {P : am_Q} {nx : Nat} {sl : Nat} {e123_156 : am_M → Option (Int32 × am_M)} (he123_156 : ∀ (I : am_M) (o0 : Option am_V) (o1 : Option am_V) (o2 : Option am_V) (o3 : Option am_V) (o4 : Option am_V), sm (dp + 2) am_d192 156 [o0, o1, o2, o3, o4] [] (I, P, nx, sl) (sm_g1 P nx sl) (e123_156 I)) (n : Nat) : ∀ (l0 : Nat) (l1 : Int32) (l3 : Int32) (I : am_M) (o2 : Option am_V) (o4 : Option am_V), sm (dp + 2) am_d192 123 [some (.inr l0), some (.inl l1), o2, some (.inl l3), o4] [] (I, P, nx, sl) (sm_g1 P nx sl) (fM_order_L123 P e123_156 n l0 l1 l3 I) := by
  induction n with
  | zero => intro l0 l1 l3 I o2 o4; exact sm_none
  | succ n ih => intro l0 l1 l3 I o2 o4; exact AfM_order_B123 he123_156 ih l0 l1 l3 I o2 o4
noncomputable def fM_order (P : am_Q) (l0 : Nat) (l1 : Int32) (I : am_M) : Option (Int32 × am_M) :=
  Option.bind (fM_isSheet l1) fun y1 =>
  if ¬ y1 = 0 then
    (sm_ck (am_t l0 = 13) <|
    sm_ck (sm_in (P l0 47) l1) <|
    if ¬ (I (P l0 47) l1.toNatClampNeg) = 0 then
      (sm_ck (sm_in (P l0 48) l1) <|
      sm_ck (sm_in (P l0 1) 0) <|
      if (I (P l0 48) l1.toNatClampNeg) = (I (P l0 1) (0 : Int32).toNatClampNeg) then
        (fM_order_L58 P (fun l0 I =>
            sm_ck (am_t l0 = 13) <|
            Option.bind (fM_finds P l0 ((-1000001)) I) fun y20 =>
            some (y20.1, y20.2)) (fun l0 l1 I =>
            fM_order_L123 P (fun I =>
                some (1, I)) sm_fu l0 l1 0 I) sm_fu l0 l1 0 0 I)
      else
        (Option.bind (fM_finds P l0 ((-1000007)) I) fun y28 =>
        some (y28.1, y28.2)))
    else
      (Option.bind (fM_finds P l0 ((-1000006)) I) fun y29 =>
      some (y29.1, y29.2)))
  else
    (sm_ck (am_t l0 = 13) <|
    Option.bind (fM_finds P l0 ((-1000001)) I) fun y31 =>
    some (y31.1, y31.2))
set_option maxRecDepth 100000 in
theorem AfM_order {dp : Nat} {P : am_Q} {nx : Nat} {sl : Nat} {I : am_M} {l0 : Nat} {l1 : Int32} {y : Int32 × am_M} (hy : fM_order P l0 l1 I = some y) : sm_T (dp + 3) 192 [.inr l0, .inl l1] (I, P, nx, sl) ((sm_g1 P nx sl) y) := by
  refine r_meth (d := am_d192) (dp := dp + 2) (ls0 := [some (.inr l0), some (.inl l1), none, none, none]) rfl (by decide) rfl rfl ?_ hy
  unfold fM_order
  refine r_iload rfl rfl ?_
  refine r_call0 rfl rfl trivial (fun y hy => AfM_isSheet (dp := dp + 0) hy) (fun y1 => ?_)
  refine r_if rfl rfl (fun c2 => ?_) (fun c2 => ?_)
  · refine r_ck (fun h3 => ?_)
    refine r_aload rfl rfl (am_nz h3) ?_
    refine r_getP rfl h3 ?_
    refine r_iload rfl rfl ?_
    refine r_ck (fun h4 => ?_)
    refine r_iald rfl h4 ?_
    refine r_if rfl rfl (fun c5 => ?_) (fun c5 => ?_)
    · refine r_aload rfl rfl (am_nz h3) ?_
      refine r_getP rfl h3 ?_
      refine r_iload rfl rfl ?_
      refine r_ck (fun h6 => ?_)
      refine r_iald rfl h6 ?_
      refine r_aload rfl rfl (am_nz h3) ?_
      refine r_getP rfl h3 ?_
      refine r_const (x := 0) rfl rfl ?_
      refine r_ck (fun h7 => ?_)
      refine r_iald rfl h7 ?_
      refine r_icmp rfl rfl (fun c8 => ?_) (fun c8 => ?_)
      · refine r_const (x := 0) rfl rfl ?_
        refine r_istore (ls' := [some (.inr l0), some (.inl l1), some (.inl 0), none, none]) rfl (Nat.le_of_ble_eq_true rfl) rfl ?_
        refine r_const (x := 0) rfl rfl ?_
        refine r_istore (ls' := [some (.inr l0), some (.inl l1), some (.inl 0), some (.inl 0), none]) rfl (Nat.le_of_ble_eq_true rfl) rfl ?_
        refine AfM_order_L58 ?_ ?_ sm_fu l0 l1 0 0 I none
        · intro l0 I o1 o2 o3 o4
          refine r_ck (fun h19 => ?_)
          refine r_aload rfl rfl (am_nz h19) ?_
          refine r_const (x := (-1000001)) rfl rfl ?_
          refine r_call1 rfl rfl h19 (fun y hy => AfM_finds (dp := dp + 1) hy) (fun y20 => ?_)
          exact r_ireturn rfl (Or.inl rfl) rfl
        · intro l0 l1 I o2 o3 o4
          refine r_const (x := 0) rfl rfl ?_
          refine r_istore (ls' := [some (.inr l0), some (.inl l1), o2, some (.inl 0), o4]) rfl (Nat.le_of_ble_eq_true rfl) rfl ?_
          refine AfM_order_L123 ?_ sm_fu l0 l1 0 I o2 o4
          · intro I o0 o1 o2 o3 o4
            refine r_const (x := 1) rfl rfl ?_
            exact r_ireturn rfl (Or.inl rfl) rfl
      · refine r_aload rfl rfl (am_nz h3) ?_
        refine r_const (x := (-1000007)) rfl rfl ?_
        refine r_call1 rfl rfl h3 (fun y hy => AfM_finds (dp := dp + 1) hy) (fun y28 => ?_)
        exact r_ireturn rfl (Or.inl rfl) rfl
    · refine r_aload rfl rfl (am_nz h3) ?_
      refine r_const (x := (-1000006)) rfl rfl ?_
      refine r_call1 rfl rfl h3 (fun y hy => AfM_finds (dp := dp + 1) hy) (fun y29 => ?_)
      exact r_ireturn rfl (Or.inl rfl) rfl
  · refine r_ck (fun h30 => ?_)
    refine r_aload rfl rfl (am_nz h30) ?_
    refine r_const (x := (-1000001)) rfl rfl ?_
    refine r_call1 rfl rfl h30 (fun y hy => AfM_finds (dp := dp + 1) hy) (fun y31 => ?_)
    exact r_ireturn rfl (Or.inl rfl) rfl
noncomputable def fM_at (P : am_Q) (l0 : Nat) (l1 : Int32) (I : am_M) : Option (Int32 × am_M) :=
  sm_ck (am_t l0 = 13) <|
  Option.bind (fM_isOf I P l0 0 l1) fun y2 =>
  if y2 = 0 then
    (Option.bind (fM_finds P l0 ((-1000001)) I) fun y4 =>
    some (y4.1, y4.2))
  else
    (sm_ck (sm_in (P l0 7) l1) <|
    some (I (P l0 7) l1.toNatClampNeg, I))
set_option maxRecDepth 100000 in
theorem AfM_at {dp : Nat} {P : am_Q} {nx : Nat} {sl : Nat} {I : am_M} {l0 : Nat} {l1 : Int32} {y : Int32 × am_M} (hy : fM_at P l0 l1 I = some y) : sm_T (dp + 3) 194 [.inr l0, .inl l1] (I, P, nx, sl) ((sm_g1 P nx sl) y) := by
  refine r_meth (d := am_d194) (dp := dp + 2) (ls0 := [some (.inr l0), some (.inl l1)]) rfl (by decide) rfl rfl ?_ hy
  unfold fM_at
  refine r_ck (fun h1 => ?_)
  refine r_aload rfl rfl (am_nz h1) ?_
  refine r_const (x := 0) rfl rfl ?_
  refine r_iload rfl rfl ?_
  refine r_call0 rfl rfl h1 (fun y hy => AfM_isOf (dp := dp + 0) hy) (fun y2 => ?_)
  refine r_if rfl rfl (fun c3 => ?_) (fun c3 => ?_)
  · refine r_aload rfl rfl (am_nz h1) ?_
    refine r_const (x := (-1000001)) rfl rfl ?_
    refine r_call1 rfl rfl h1 (fun y hy => AfM_finds (dp := dp + 1) hy) (fun y4 => ?_)
    exact r_ireturn rfl (Or.inl rfl) rfl
  · refine r_aload rfl rfl (am_nz h1) ?_
    refine r_getP rfl h1 ?_
    refine r_iload rfl rfl ?_
    refine r_ck (fun h5 => ?_)
    refine r_iald rfl h5 ?_
    refine r_goto rfl ?_
    exact r_ireturn rfl (Or.inl rfl) rfl
noncomputable def fM_copies_J42 (P : am_Q) (r3 : Nat → Nat → Int32 → Int32 → Int32 → am_M → Option (am_M)) (l0 : Nat) (l1 : Nat) (l2 : Int32) (l3 : Int32) (l4 : Int32) (I : am_M) : Option (am_M) :=
  sm_ck (am_t l0 = 13) <|
  sm_bd (am_up I l0 27 ((I l0 27) + 1)) fun I9 =>
  sm_bd (l4 + 1) fun x10 =>
  r3 l0 l1 l2 l3 x10 I9
set_option maxRecDepth 100000 in
theorem AfM_copies_J42 {dp : Nat} {P : am_Q} {nx : Nat} {sl : Nat} {r3 : Nat → Nat → Int32 → Int32 → Int32 → am_M → Option (am_M)} (hr3 : ∀ (l0 : Nat) (l1 : Nat) (l2 : Int32) (l3 : Int32) (l4 : Int32) (I : am_M), sm (dp + 0) am_d197 3 [some (.inr l0), some (.inr l1), some (.inl l2), some (.inl l3), some (.inl l4)] [] (I, P, nx, sl) (sm_g2 P nx sl) (r3 l0 l1 l2 l3 l4 I)) (l0 : Nat) (l1 : Nat) (l2 : Int32) (l3 : Int32) (l4 : Int32) (I : am_M) : sm (dp + 0) am_d197 42 [some (.inr l0), some (.inr l1), some (.inl l2), some (.inl l3), some (.inl l4)] [] (I, P, nx, sl) (sm_g2 P nx sl) (fM_copies_J42 P r3 l0 l1 l2 l3 l4 I) := by
  unfold fM_copies_J42
  refine r_ck (fun h8 => ?_)
  refine r_aload rfl rfl (am_nz h8) ?_
  refine r_dup rfl ?_
  refine r_getI rfl h8 ?_
  refine r_const (x := 1) rfl rfl ?_
  refine r_bin (z := (I l0 27) + 1) rfl rfl (by decide) ?_
  refine r_putI rfl h8 (fun hz => absurd hz (by decide)) (fun I9 => ?_)
  refine r_iinc (e := l4 + 1) (ls' := fun x10 => [some (.inr l0), some (.inr l1), some (.inl l2), some (.inl l3), some (.inl x10)]) rfl rfl rfl (fun _ => rfl) (fun x10 => ?_)
  refine r_goto rfl ?_
  exact hr3 l0 l1 l2 l3 x10 I9
noncomputable def fM_copies_B3 (P : am_Q) (e3_58 : am_M → Option (am_M)) (r3 : Nat → Nat → Int32 → Int32 → Int32 → am_M → Option (am_M)) (l0 : Nat) (l1 : Nat) (l2 : Int32) (l3 : Int32) (l4 : Int32) (I : am_M) : Option (am_M) :=
  if l2 ≤ l4 then
    (e3_58 I)
  else
    (if l3 = 0 then
      (sm_ck (am_t l1 = 20) <|
      sm_ck (am_t l0 = 13) <|
      sm_ck (sm_in (P l0 26) (I l0 27)) <|
      sm_ck (sm_iw l1 l4) <|
      sm_bd (am_up I l1 l4.toNatClampNeg (I (P l0 26) (I l0 27).toNatClampNeg)) fun I7 =>
      fM_copies_J42 P r3 l0 l1 l2 l3 l4 I7)
    else
      (sm_ck (am_t l0 = 13) <|
      sm_ck (am_t l1 = 20) <|
      sm_ck (sm_in l1 l4) <|
      sm_ck (sm_iw (P l0 26) (I l0 27)) <|
      sm_bd (am_up I (P l0 26) (I l0 27).toNatClampNeg (I l1 l4.toNatClampNeg)) fun I15 =>
      fM_copies_J42 P r3 l0 l1 l2 l3 l4 I15))
set_option maxRecDepth 100000 in
theorem AfM_copies_B3 {dp : Nat} {P : am_Q} {nx : Nat} {sl : Nat} {e3_58 : am_M → Option (am_M)} {r3 : Nat → Nat → Int32 → Int32 → Int32 → am_M → Option (am_M)} (he3_58 : ∀ (I : am_M) (o0 : Option am_V) (o1 : Option am_V) (o2 : Option am_V) (o3 : Option am_V) (o4 : Option am_V), sm (dp + 0) am_d197 58 [o0, o1, o2, o3, o4] [] (I, P, nx, sl) (sm_g2 P nx sl) (e3_58 I)) (hr3 : ∀ (l0 : Nat) (l1 : Nat) (l2 : Int32) (l3 : Int32) (l4 : Int32) (I : am_M), sm (dp + 0) am_d197 3 [some (.inr l0), some (.inr l1), some (.inl l2), some (.inl l3), some (.inl l4)] [] (I, P, nx, sl) (sm_g2 P nx sl) (r3 l0 l1 l2 l3 l4 I)) (l0 : Nat) (l1 : Nat) (l2 : Int32) (l3 : Int32) (l4 : Int32) (I : am_M) : sm (dp + 0) am_d197 3 [some (.inr l0), some (.inr l1), some (.inl l2), some (.inl l3), some (.inl l4)] [] (I, P, nx, sl) (sm_g2 P nx sl) (fM_copies_B3 P e3_58 r3 l0 l1 l2 l3 l4 I) := by
  unfold fM_copies_B3
  refine r_iload rfl rfl ?_
  refine r_iload rfl rfl ?_
  refine r_icmp rfl rfl (fun c1 => ?_) (fun c1 => ?_)
  · exact he3_58 I (some (.inr l0)) (some (.inr l1)) (some (.inl l2)) (some (.inl l3)) (some (.inl l4))
  · refine r_iload rfl rfl ?_
    refine r_if rfl rfl (fun c2 => ?_) (fun c2 => ?_)
    · refine r_ck (fun h3 => ?_)
      refine r_aload rfl rfl (am_nz h3) ?_
      refine r_iload rfl rfl ?_
      refine r_ck (fun h4 => ?_)
      refine r_aload rfl rfl (am_nz h4) ?_
      refine r_getP rfl h4 ?_
      refine r_aload rfl rfl (am_nz h4) ?_
      refine r_getI rfl h4 ?_
      refine r_ck (fun h5 => ?_)
      refine r_iald rfl h5 ?_
      refine r_ck (fun h6 => ?_)
      refine r_iast rfl h6 (fun I7 => ?_)
      exact AfM_copies_J42 hr3 l0 l1 l2 l3 l4 I7
    · refine r_ck (fun h11 => ?_)
      refine r_aload rfl rfl (am_nz h11) ?_
      refine r_getP rfl h11 ?_
      refine r_aload rfl rfl (am_nz h11) ?_
      refine r_getI rfl h11 ?_
      refine r_ck (fun h12 => ?_)
      refine r_aload rfl rfl (am_nz h12) ?_
      refine r_iload rfl rfl ?_
      refine r_ck (fun h13 => ?_)
      refine r_iald rfl h13 ?_
      refine r_ck (fun h14 => ?_)
      refine r_iast rfl h14 (fun I15 => ?_)
      refine r_goto rfl ?_
      exact AfM_copies_J42 hr3 l0 l1 l2 l3 l4 I15
noncomputable def fM_copies_L3 (P : am_Q) (e3_58 : am_M → Option (am_M)) : Nat → Nat → Nat → Int32 → Int32 → Int32 → am_M → Option (am_M)
  | 0, _, _, _, _, _, _ => none
  | n + 1, l0, l1, l2, l3, l4, I => fM_copies_B3 P e3_58 (fM_copies_L3 P e3_58 n) l0 l1 l2 l3 l4 I
theorem AfM_copies_L3 {dp : Nat} {P : am_Q} {nx : Nat} {sl : Nat} {e3_58 : am_M → Option (am_M)} (he3_58 : ∀ (I : am_M) (o0 : Option am_V) (o1 : Option am_V) (o2 : Option am_V) (o3 : Option am_V) (o4 : Option am_V), sm (dp + 0) am_d197 58 [o0, o1, o2, o3, o4] [] (I, P, nx, sl) (sm_g2 P nx sl) (e3_58 I)) (n : Nat) : ∀ (l0 : Nat) (l1 : Nat) (l2 : Int32) (l3 : Int32) (l4 : Int32) (I : am_M), sm (dp + 0) am_d197 3 [some (.inr l0), some (.inr l1), some (.inl l2), some (.inl l3), some (.inl l4)] [] (I, P, nx, sl) (sm_g2 P nx sl) (fM_copies_L3 P e3_58 n l0 l1 l2 l3 l4 I) := by
  induction n with
  | zero => intro l0 l1 l2 l3 l4 I; exact sm_none
  | succ n ih => intro l0 l1 l2 l3 l4 I; exact AfM_copies_B3 he3_58 ih l0 l1 l2 l3 l4 I
noncomputable def fM_copies (P : am_Q) (l0 : Nat) (l1 : Nat) (l2 : Int32) (l3 : Int32) (I : am_M) : Option (am_M) :=
  fM_copies_L3 P (fun I =>
      some I) sm_fu l0 l1 l2 l3 0 I
set_option maxRecDepth 100000 in
theorem AfM_copies {dp : Nat} {P : am_Q} {nx : Nat} {sl : Nat} {I : am_M} {l0 : Nat} {l1 : Nat} {l2 : Int32} {l3 : Int32} {y : am_M} (hy : fM_copies P l0 l1 l2 l3 I = some y) : sm_T (dp + 1) 197 [.inr l0, .inr l1, .inl l2, .inl l3] (I, P, nx, sl) ((sm_g2 P nx sl) y) := by
  refine r_meth (d := am_d197) (dp := dp + 0) (ls0 := [some (.inr l0), some (.inr l1), some (.inl l2), some (.inl l3), none]) rfl (by decide) rfl rfl ?_ hy
  unfold fM_copies
  refine r_const (x := 0) rfl rfl ?_
  refine r_istore (ls' := [some (.inr l0), some (.inr l1), some (.inl l2), some (.inl l3), some (.inl 0)]) rfl (Nat.le_of_ble_eq_true rfl) rfl ?_
  refine AfM_copies_L3 ?_ sm_fu l0 l1 l2 l3 0 I
  · intro I o0 o1 o2 o3 o4
    exact r_return rfl rfl
noncomputable def fM_copiesAll (P : am_Q) (l0 : Nat) (l1 : Int32) (l2 : Int32) (I : am_M) : Option (am_M) :=
  sm_ck (am_t l0 = 13) <|
  sm_bd (am_up I l0 27 (1500 * l1)) fun I2 =>
  Option.bind (fM_copies P l0 (P l0 1) 9 l2 I2) fun y3 =>
  Option.bind (fM_copies P l0 (P l0 2) 7 l2 y3) fun y4 =>
  Option.bind (fM_copies P l0 (P l0 3) 7 l2 y4) fun y5 =>
  Option.bind (fM_copies P l0 (P l0 4) 7 l2 y5) fun y6 =>
  Option.bind (fM_copies P l0 (P l0 5) 7 l2 y6) fun y7 =>
  Option.bind (fM_copies P l0 (P l0 6) 7 l2 y7) fun y8 =>
  Option.bind (fM_copies P l0 (P l0 7) 7 l2 y8) fun y9 =>
  Option.bind (fM_copies P l0 (P l0 8) 7 l2 y9) fun y10 =>
  Option.bind (fM_copies P l0 (P l0 9) 14 l2 y10) fun y11 =>
  Option.bind (fM_copies P l0 (P l0 10) 14 l2 y11) fun y12 =>
  Option.bind (fM_copies P l0 (P l0 11) 28 l2 y12) fun y13 =>
  Option.bind (fM_copies P l0 (P l0 12) 28 l2 y13) fun y14 =>
  Option.bind (fM_copies P l0 (P l0 13) 560 l2 y14) fun y15 =>
  Option.bind (fM_copies P l0 (P l0 14) 560 l2 y15) fun y16 =>
  Option.bind (fM_copies P l0 (P l0 15) 14 l2 y16) fun y17 =>
  Option.bind (fM_copies P l0 (P l0 16) 14 l2 y17) fun y18 =>
  Option.bind (fM_copies P l0 (P l0 17) 14 l2 y18) fun y19 =>
  Option.bind (fM_copies P l0 (P l0 18) 14 l2 y19) fun y20 =>
  Option.bind (fM_copies P l0 (P l0 19) 14 l2 y20) fun y21 =>
  Option.bind (fM_copies P l0 (P l0 20) 14 l2 y21) fun y22 =>
  Option.bind (fM_copies P l0 (P l0 21) 14 l2 y22) fun y23 =>
  Option.bind (fM_copies P l0 (P l0 22) 14 l2 y23) fun y24 =>
  Option.bind (fM_copies P l0 (P l0 23) 20 l2 y24) fun y25 =>
  Option.bind (fM_copies P l0 (P l0 24) 20 l2 y25) fun y26 =>
  Option.bind (fM_copies P l0 (P l0 25) 20 l2 y26) fun y27 =>
  some y27
set_option maxRecDepth 100000 in
theorem AfM_copiesAll {dp : Nat} {P : am_Q} {nx : Nat} {sl : Nat} {I : am_M} {l0 : Nat} {l1 : Int32} {l2 : Int32} {y : am_M} (hy : fM_copiesAll P l0 l1 l2 I = some y) : sm_T (dp + 2) 196 [.inr l0, .inl l1, .inl l2] (I, P, nx, sl) ((sm_g2 P nx sl) y) := by
  refine r_meth (d := am_d196) (dp := dp + 1) (ls0 := [some (.inr l0), some (.inl l1), some (.inl l2)]) rfl (by decide) rfl rfl ?_ hy
  unfold fM_copiesAll
  refine r_ck (fun h1 => ?_)
  refine r_aload rfl rfl (am_nz h1) ?_
  refine r_const (x := 1500) rfl rfl ?_
  refine r_iload rfl rfl ?_
  refine r_bin (z := 1500 * l1) rfl rfl (by decide) ?_
  refine r_putI rfl h1 (fun hz => absurd hz (by decide)) (fun I2 => ?_)
  refine r_aload rfl rfl (am_nz h1) ?_
  refine r_aload rfl rfl (am_nz h1) ?_
  refine r_getP rfl h1 ?_
  refine r_const (x := 9) rfl rfl ?_
  refine r_iload rfl rfl ?_
  refine r_call2 rfl rfl h1 (fun y hy => AfM_copies (dp := dp + 0) hy) (fun y3 => ?_)
  refine r_aload rfl rfl (am_nz h1) ?_
  refine r_aload rfl rfl (am_nz h1) ?_
  refine r_getP rfl h1 ?_
  refine r_const (x := 7) rfl rfl ?_
  refine r_iload rfl rfl ?_
  refine r_call2 rfl rfl h1 (fun y hy => AfM_copies (dp := dp + 0) hy) (fun y4 => ?_)
  refine r_aload rfl rfl (am_nz h1) ?_
  refine r_aload rfl rfl (am_nz h1) ?_
  refine r_getP rfl h1 ?_
  refine r_const (x := 7) rfl rfl ?_
  refine r_iload rfl rfl ?_
  refine r_call2 rfl rfl h1 (fun y hy => AfM_copies (dp := dp + 0) hy) (fun y5 => ?_)
  refine r_aload rfl rfl (am_nz h1) ?_
  refine r_aload rfl rfl (am_nz h1) ?_
  refine r_getP rfl h1 ?_
  refine r_const (x := 7) rfl rfl ?_
  refine r_iload rfl rfl ?_
  refine r_call2 rfl rfl h1 (fun y hy => AfM_copies (dp := dp + 0) hy) (fun y6 => ?_)
  refine r_aload rfl rfl (am_nz h1) ?_
  refine r_aload rfl rfl (am_nz h1) ?_
  refine r_getP rfl h1 ?_
  refine r_const (x := 7) rfl rfl ?_
  refine r_iload rfl rfl ?_
  refine r_call2 rfl rfl h1 (fun y hy => AfM_copies (dp := dp + 0) hy) (fun y7 => ?_)
  refine r_aload rfl rfl (am_nz h1) ?_
  refine r_aload rfl rfl (am_nz h1) ?_
  refine r_getP rfl h1 ?_
  refine r_const (x := 7) rfl rfl ?_
  refine r_iload rfl rfl ?_
  refine r_call2 rfl rfl h1 (fun y hy => AfM_copies (dp := dp + 0) hy) (fun y8 => ?_)
  refine r_aload rfl rfl (am_nz h1) ?_
  refine r_aload rfl rfl (am_nz h1) ?_
  refine r_getP rfl h1 ?_
  refine r_const (x := 7) rfl rfl ?_
  refine r_iload rfl rfl ?_
  refine r_call2 rfl rfl h1 (fun y hy => AfM_copies (dp := dp + 0) hy) (fun y9 => ?_)
  refine r_aload rfl rfl (am_nz h1) ?_
  refine r_aload rfl rfl (am_nz h1) ?_
  refine r_getP rfl h1 ?_
  refine r_const (x := 7) rfl rfl ?_
  refine r_iload rfl rfl ?_
  refine r_call2 rfl rfl h1 (fun y hy => AfM_copies (dp := dp + 0) hy) (fun y10 => ?_)
  refine r_aload rfl rfl (am_nz h1) ?_
  refine r_aload rfl rfl (am_nz h1) ?_
  refine r_getP rfl h1 ?_
  refine r_const (x := 14) rfl rfl ?_
  refine r_iload rfl rfl ?_
  refine r_call2 rfl rfl h1 (fun y hy => AfM_copies (dp := dp + 0) hy) (fun y11 => ?_)
  refine r_aload rfl rfl (am_nz h1) ?_
  refine r_aload rfl rfl (am_nz h1) ?_
  refine r_getP rfl h1 ?_
  refine r_const (x := 14) rfl rfl ?_
  refine r_iload rfl rfl ?_
  refine r_call2 rfl rfl h1 (fun y hy => AfM_copies (dp := dp + 0) hy) (fun y12 => ?_)
  refine r_aload rfl rfl (am_nz h1) ?_
  refine r_aload rfl rfl (am_nz h1) ?_
  refine r_getP rfl h1 ?_
  refine r_const (x := 28) rfl rfl ?_
  refine r_iload rfl rfl ?_
  refine r_call2 rfl rfl h1 (fun y hy => AfM_copies (dp := dp + 0) hy) (fun y13 => ?_)
  refine r_aload rfl rfl (am_nz h1) ?_
  refine r_aload rfl rfl (am_nz h1) ?_
  refine r_getP rfl h1 ?_
  refine r_const (x := 28) rfl rfl ?_
  refine r_iload rfl rfl ?_
  refine r_call2 rfl rfl h1 (fun y hy => AfM_copies (dp := dp + 0) hy) (fun y14 => ?_)
  refine r_aload rfl rfl (am_nz h1) ?_
  refine r_aload rfl rfl (am_nz h1) ?_
  refine r_getP rfl h1 ?_
  refine r_const (x := 560) rfl rfl ?_
  refine r_iload rfl rfl ?_
  refine r_call2 rfl rfl h1 (fun y hy => AfM_copies (dp := dp + 0) hy) (fun y15 => ?_)
  refine r_aload rfl rfl (am_nz h1) ?_
  refine r_aload rfl rfl (am_nz h1) ?_
  refine r_getP rfl h1 ?_
  refine r_const (x := 560) rfl rfl ?_
  refine r_iload rfl rfl ?_
  refine r_call2 rfl rfl h1 (fun y hy => AfM_copies (dp := dp + 0) hy) (fun y16 => ?_)
  refine r_aload rfl rfl (am_nz h1) ?_
  refine r_aload rfl rfl (am_nz h1) ?_
  refine r_getP rfl h1 ?_
  refine r_const (x := 14) rfl rfl ?_
  refine r_iload rfl rfl ?_
  refine r_call2 rfl rfl h1 (fun y hy => AfM_copies (dp := dp + 0) hy) (fun y17 => ?_)
  refine r_aload rfl rfl (am_nz h1) ?_
  refine r_aload rfl rfl (am_nz h1) ?_
  refine r_getP rfl h1 ?_
  refine r_const (x := 14) rfl rfl ?_
  refine r_iload rfl rfl ?_
  refine r_call2 rfl rfl h1 (fun y hy => AfM_copies (dp := dp + 0) hy) (fun y18 => ?_)
  refine r_aload rfl rfl (am_nz h1) ?_
  refine r_aload rfl rfl (am_nz h1) ?_
  refine r_getP rfl h1 ?_
  refine r_const (x := 14) rfl rfl ?_
  refine r_iload rfl rfl ?_
  refine r_call2 rfl rfl h1 (fun y hy => AfM_copies (dp := dp + 0) hy) (fun y19 => ?_)
  refine r_aload rfl rfl (am_nz h1) ?_
  refine r_aload rfl rfl (am_nz h1) ?_
  refine r_getP rfl h1 ?_
  refine r_const (x := 14) rfl rfl ?_
  refine r_iload rfl rfl ?_
  refine r_call2 rfl rfl h1 (fun y hy => AfM_copies (dp := dp + 0) hy) (fun y20 => ?_)
  refine r_aload rfl rfl (am_nz h1) ?_
  refine r_aload rfl rfl (am_nz h1) ?_
  refine r_getP rfl h1 ?_
  refine r_const (x := 14) rfl rfl ?_
  refine r_iload rfl rfl ?_
  refine r_call2 rfl rfl h1 (fun y hy => AfM_copies (dp := dp + 0) hy) (fun y21 => ?_)
  refine r_aload rfl rfl (am_nz h1) ?_
  refine r_aload rfl rfl (am_nz h1) ?_
  refine r_getP rfl h1 ?_
  refine r_const (x := 14) rfl rfl ?_
  refine r_iload rfl rfl ?_
  refine r_call2 rfl rfl h1 (fun y hy => AfM_copies (dp := dp + 0) hy) (fun y22 => ?_)
  refine r_aload rfl rfl (am_nz h1) ?_
  refine r_aload rfl rfl (am_nz h1) ?_
  refine r_getP rfl h1 ?_
  refine r_const (x := 14) rfl rfl ?_
  refine r_iload rfl rfl ?_
  refine r_call2 rfl rfl h1 (fun y hy => AfM_copies (dp := dp + 0) hy) (fun y23 => ?_)
  refine r_aload rfl rfl (am_nz h1) ?_
  refine r_aload rfl rfl (am_nz h1) ?_
  refine r_getP rfl h1 ?_
  refine r_const (x := 14) rfl rfl ?_
  refine r_iload rfl rfl ?_
  refine r_call2 rfl rfl h1 (fun y hy => AfM_copies (dp := dp + 0) hy) (fun y24 => ?_)
  refine r_aload rfl rfl (am_nz h1) ?_
  refine r_aload rfl rfl (am_nz h1) ?_
  refine r_getP rfl h1 ?_
  refine r_const (x := 20) rfl rfl ?_
  refine r_iload rfl rfl ?_
  refine r_call2 rfl rfl h1 (fun y hy => AfM_copies (dp := dp + 0) hy) (fun y25 => ?_)
  refine r_aload rfl rfl (am_nz h1) ?_
  refine r_aload rfl rfl (am_nz h1) ?_
  refine r_getP rfl h1 ?_
  refine r_const (x := 20) rfl rfl ?_
  refine r_iload rfl rfl ?_
  refine r_call2 rfl rfl h1 (fun y hy => AfM_copies (dp := dp + 0) hy) (fun y26 => ?_)
  refine r_aload rfl rfl (am_nz h1) ?_
  refine r_aload rfl rfl (am_nz h1) ?_
  refine r_getP rfl h1 ?_
  refine r_const (x := 20) rfl rfl ?_
  refine r_iload rfl rfl ?_
  refine r_call2 rfl rfl h1 (fun y hy => AfM_copies (dp := dp + 0) hy) (fun y27 => ?_)
  exact r_return rfl rfl
noncomputable def fM_turns_J151 (r15 : Nat → Int32 → Int32 → Nat → Int32 → am_M → am_Q → Nat → Nat → Option (am_S)) (l0 : Nat) (l1 : Int32) (l2 : Int32) (l3 : Nat) (l4 : Int32) (I : am_M) (P : am_Q) (nx : Nat) (sl : Nat) : Option (am_S) :=
  sm_bd (l4 + 1) fun x15 =>
  r15 l0 l1 l2 l3 x15 I P nx sl
set_option maxRecDepth 100000 in
theorem AfM_turns_J151 {dp : Nat}  {r15 : Nat → Int32 → Int32 → Nat → Int32 → am_M → am_Q → Nat → Nat → Option (am_S)} (hr15 : ∀ (l0 : Nat) (l1 : Int32) (l2 : Int32) (l3 : Nat) (l4 : Int32) (I : am_M) (P : am_Q) (nx : Nat) (sl : Nat) (o5 : Option am_V) (o6 : Option am_V) (o7 : Option am_V), sm (dp + 3) am_d199 15 [some (.inr l0), some (.inl l1), some (.inl l2), some (.inr l3), some (.inl l4), o5, o6, o7] [] (I, P, nx, sl) sm_g4 (r15 l0 l1 l2 l3 l4 I P nx sl)) (l0 : Nat) (l1 : Int32) (l2 : Int32) (l3 : Nat) (l4 : Int32) (I : am_M) (P : am_Q) (nx : Nat) (sl : Nat) (o5 : Option am_V) (o6 : Option am_V) (o7 : Option am_V) : sm (dp + 3) am_d199 151 [some (.inr l0), some (.inl l1), some (.inl l2), some (.inr l3), some (.inl l4), o5, o6, o7] [] (I, P, nx, sl) sm_g4 (fM_turns_J151 r15 l0 l1 l2 l3 l4 I P nx sl) := by
  unfold fM_turns_J151
  refine r_iinc (e := l4 + 1) (ls' := fun x15 => [some (.inr l0), some (.inl l1), some (.inl l2), some (.inr l3), some (.inl x15), o5, o6, o7]) rfl rfl rfl (fun _ => rfl) (fun x15 => ?_)
  refine r_goto rfl ?_
  exact hr15 l0 l1 l2 l3 x15 I P nx sl o5 o6 o7
noncomputable def fM_turns_J138 (r15 : Nat → Int32 → Int32 → Nat → Int32 → am_M → am_Q → Nat → Nat → Option (am_S)) (l0 : Nat) (l1 : Int32) (l2 : Int32) (l3 : Nat) (l4 : Int32) (l7 : Int32) (I : am_M) (P : am_Q) (nx : Nat) (sl : Nat) : Option (am_S) :=
  sm_ck (am_t l0 = 13) <|
  sm_ck (sm_iw (P l0 9) ((2 * l1) + l4)) <|
  sm_bd (am_up I (P l0 9) ((2 * l1) + l4).toNatClampNeg l7) fun I27 =>
  fM_turns_J151 r15 l0 l1 l2 l3 l4 I27 P nx sl
set_option maxRecDepth 100000 in
theorem AfM_turns_J138 {dp : Nat}  {r15 : Nat → Int32 → Int32 → Nat → Int32 → am_M → am_Q → Nat → Nat → Option (am_S)} (hr15 : ∀ (l0 : Nat) (l1 : Int32) (l2 : Int32) (l3 : Nat) (l4 : Int32) (I : am_M) (P : am_Q) (nx : Nat) (sl : Nat) (o5 : Option am_V) (o6 : Option am_V) (o7 : Option am_V), sm (dp + 3) am_d199 15 [some (.inr l0), some (.inl l1), some (.inl l2), some (.inr l3), some (.inl l4), o5, o6, o7] [] (I, P, nx, sl) sm_g4 (r15 l0 l1 l2 l3 l4 I P nx sl)) (l0 : Nat) (l1 : Int32) (l2 : Int32) (l3 : Nat) (l4 : Int32) (l7 : Int32) (I : am_M) (P : am_Q) (nx : Nat) (sl : Nat) (o5 : Option am_V) (o6 : Option am_V) : sm (dp + 3) am_d199 138 [some (.inr l0), some (.inl l1), some (.inl l2), some (.inr l3), some (.inl l4), o5, o6, some (.inl l7)] [] (I, P, nx, sl) sm_g4 (fM_turns_J138 r15 l0 l1 l2 l3 l4 l7 I P nx sl) := by
  unfold fM_turns_J138
  refine r_ck (fun h25 => ?_)
  refine r_aload rfl rfl (am_nz h25) ?_
  refine r_getP rfl h25 ?_
  refine r_const (x := 2) rfl rfl ?_
  refine r_iload rfl rfl ?_
  refine r_bin (z := 2 * l1) rfl rfl (by decide) ?_
  refine r_iload rfl rfl ?_
  refine r_bin (z := (2 * l1) + l4) rfl rfl (by decide) ?_
  refine r_iload rfl rfl ?_
  refine r_ck (fun h26 => ?_)
  refine r_iast rfl h26 (fun I27 => ?_)
  exact AfM_turns_J151 hr15 l0 l1 l2 l3 l4 I27 P nx sl o5 o6 (some (.inl l7))
noncomputable def fM_turns_J82 (r15 : Nat → Int32 → Int32 → Nat → Int32 → am_M → am_Q → Nat → Nat → Option (am_S)) (l0 : Nat) (l1 : Int32) (l2 : Int32) (l3 : Nat) (l4 : Int32) (l5 : Int32) (s0 : Int32) (I : am_M) (P : am_Q) (nx : Nat) (sl : Nat) : Option (am_S) :=
  sm_ck (am_t l0 = 13) <|
  sm_ck (sm_in (P l0 21) l5) <|
  sm_ck (sm_in (P l0 22) l5) <|
  Option.bind (fM_within s0 (I (P l0 21) l5.toNatClampNeg) (I (P l0 22) l5.toNatClampNeg)) fun y23 =>
  if ¬ y23 = 0 then
    (fM_turns_J138 r15 l0 l1 l2 l3 l4 s0 I P nx sl)
  else
    (sm_ck (sm_in (P l0 1) 7) <|
    if 0 ≤ (I (P l0 1) (7 : Int32).toNatClampNeg) then
      (fM_turns_J138 r15 l0 l1 l2 l3 l4 s0 I P nx sl)
    else
      (sm_ck (sm_in (P l0 1) 3) <|
      sm_ck (sm_iw (P l0 1) 7) <|
      sm_bd (am_up I (P l0 1) (7 : Int32).toNatClampNeg (I (P l0 1) (3 : Int32).toNatClampNeg)) fun I32 =>
      sm_ck (sm_iw (P l0 1) 8) <|
      sm_bd (am_up I32 (P l0 1) (8 : Int32).toNatClampNeg l5) fun I34 =>
      fM_turns_J138 r15 l0 l1 l2 l3 l4 s0 I34 P nx sl))
set_option maxRecDepth 100000 in
theorem AfM_turns_J82 {dp : Nat}  {r15 : Nat → Int32 → Int32 → Nat → Int32 → am_M → am_Q → Nat → Nat → Option (am_S)} (hr15 : ∀ (l0 : Nat) (l1 : Int32) (l2 : Int32) (l3 : Nat) (l4 : Int32) (I : am_M) (P : am_Q) (nx : Nat) (sl : Nat) (o5 : Option am_V) (o6 : Option am_V) (o7 : Option am_V), sm (dp + 3) am_d199 15 [some (.inr l0), some (.inl l1), some (.inl l2), some (.inr l3), some (.inl l4), o5, o6, o7] [] (I, P, nx, sl) sm_g4 (r15 l0 l1 l2 l3 l4 I P nx sl)) (l0 : Nat) (l1 : Int32) (l2 : Int32) (l3 : Nat) (l4 : Int32) (l5 : Int32) (s0 : Int32) (I : am_M) (P : am_Q) (nx : Nat) (sl : Nat) (o6 : Option am_V) (o7 : Option am_V) : sm (dp + 3) am_d199 82 [some (.inr l0), some (.inl l1), some (.inl l2), some (.inr l3), some (.inl l4), some (.inl l5), o6, o7] [.inl s0] (I, P, nx, sl) sm_g4 (fM_turns_J82 r15 l0 l1 l2 l3 l4 l5 s0 I P nx sl) := by
  unfold fM_turns_J82
  refine r_istore (ls' := [some (.inr l0), some (.inl l1), some (.inl l2), some (.inr l3), some (.inl l4), some (.inl l5), o6, some (.inl s0)]) rfl (Nat.le_of_ble_eq_true rfl) rfl ?_
  refine r_iload rfl rfl ?_
  refine r_ck (fun h20 => ?_)
  refine r_aload rfl rfl (am_nz h20) ?_
  refine r_getP rfl h20 ?_
  refine r_iload rfl rfl ?_
  refine r_ck (fun h21 => ?_)
  refine r_iald rfl h21 ?_
  refine r_aload rfl rfl (am_nz h20) ?_
  refine r_getP rfl h20 ?_
  refine r_iload rfl rfl ?_
  refine r_ck (fun h22 => ?_)
  refine r_iald rfl h22 ?_
  refine r_call0 rfl rfl trivial (fun y hy => AfM_within (dp := dp + 2) hy) (fun y23 => ?_)
  refine r_if rfl rfl (fun c24 => ?_) (fun c24 => ?_)
  · exact AfM_turns_J138 hr15 l0 l1 l2 l3 l4 s0 I P nx sl (some (.inl l5)) o6
  · refine r_aload rfl rfl (am_nz h20) ?_
    refine r_getP rfl h20 ?_
    refine r_const (x := 7) rfl rfl ?_
    refine r_ck (fun h28 => ?_)
    refine r_iald rfl h28 ?_
    refine r_if rfl rfl (fun c29 => ?_) (fun c29 => ?_)
    · exact AfM_turns_J138 hr15 l0 l1 l2 l3 l4 s0 I P nx sl (some (.inl l5)) o6
    · refine r_aload rfl rfl (am_nz h20) ?_
      refine r_getP rfl h20 ?_
      refine r_const (x := 7) rfl rfl ?_
      refine r_aload rfl rfl (am_nz h20) ?_
      refine r_getP rfl h20 ?_
      refine r_const (x := 3) rfl rfl ?_
      refine r_ck (fun h30 => ?_)
      refine r_iald rfl h30 ?_
      refine r_ck (fun h31 => ?_)
      refine r_iast rfl h31 (fun I32 => ?_)
      refine r_aload rfl rfl (am_nz h20) ?_
      refine r_getP rfl h20 ?_
      refine r_const (x := 8) rfl rfl ?_
      refine r_iload rfl rfl ?_
      refine r_ck (fun h33 => ?_)
      refine r_iast rfl h33 (fun I34 => ?_)
      exact AfM_turns_J138 hr15 l0 l1 l2 l3 l4 s0 I34 P nx sl (some (.inl l5)) o6
noncomputable def fM_turns_B15 (e15_157 : Nat → Int32 → Nat → am_M → am_Q → Nat → Nat → Option (am_S)) (r15 : Nat → Int32 → Int32 → Nat → Int32 → am_M → am_Q → Nat → Nat → Option (am_S)) (l0 : Nat) (l1 : Int32) (l2 : Int32) (l3 : Nat) (l4 : Int32) (I : am_M) (P : am_Q) (nx : Nat) (sl : Nat) : Option (am_S) :=
  if 2 ≤ l4 then
    (e15_157 l0 l1 l3 I P nx sl)
  else
    (sm_ck (am_t l0 = 13) <|
    Option.bind (fM_seamTo I P l0 l1 l4) fun y13 =>
    if y13 < 0 then
      (fM_turns_J151 r15 l0 l1 l2 l3 l4 I P nx sl)
    else
      (sm_ck (sm_in (P l0 15) y13) <|
      sm_bd ((I (P l0 15) y13.toNatClampNeg) / 10) fun x17 =>
      if ¬ ((sm_shr l2 x17) &&& 1) = 1 then
        (Option.bind (fM_guessFor I P l0 y13) fun y19 =>
        fM_turns_J82 r15 l0 l1 l2 l3 l4 y13 y19 I P nx sl)
      else
        (sm_ck (sm_in (P l0 15) y13) <|
        Option.bind (fM_out P l0 x17 (sm_rem (I (P l0 15) y13.toNatClampNeg) 10) I) fun y36 =>
        fM_turns_J82 r15 l0 l1 l2 l3 l4 y13 y36.1 y36.2 P nx sl)))
set_option maxRecDepth 100000 in
theorem AfM_turns_B15 {dp : Nat}  {e15_157 : Nat → Int32 → Nat → am_M → am_Q → Nat → Nat → Option (am_S)} {r15 : Nat → Int32 → Int32 → Nat → Int32 → am_M → am_Q → Nat → Nat → Option (am_S)} (he15_157 : ∀ (l0 : Nat) (l1 : Int32) (l3 : Nat) (I : am_M) (P : am_Q) (nx : Nat) (sl : Nat) (o2 : Option am_V) (o4 : Option am_V) (o5 : Option am_V) (o6 : Option am_V) (o7 : Option am_V), sm (dp + 3) am_d199 157 [some (.inr l0), some (.inl l1), o2, some (.inr l3), o4, o5, o6, o7] [] (I, P, nx, sl) sm_g4 (e15_157 l0 l1 l3 I P nx sl)) (hr15 : ∀ (l0 : Nat) (l1 : Int32) (l2 : Int32) (l3 : Nat) (l4 : Int32) (I : am_M) (P : am_Q) (nx : Nat) (sl : Nat) (o5 : Option am_V) (o6 : Option am_V) (o7 : Option am_V), sm (dp + 3) am_d199 15 [some (.inr l0), some (.inl l1), some (.inl l2), some (.inr l3), some (.inl l4), o5, o6, o7] [] (I, P, nx, sl) sm_g4 (r15 l0 l1 l2 l3 l4 I P nx sl)) (l0 : Nat) (l1 : Int32) (l2 : Int32) (l3 : Nat) (l4 : Int32) (I : am_M) (P : am_Q) (nx : Nat) (sl : Nat) (o5 : Option am_V) (o6 : Option am_V) (o7 : Option am_V) : sm (dp + 3) am_d199 15 [some (.inr l0), some (.inl l1), some (.inl l2), some (.inr l3), some (.inl l4), o5, o6, o7] [] (I, P, nx, sl) sm_g4 (fM_turns_B15 e15_157 r15 l0 l1 l2 l3 l4 I P nx sl) := by
  unfold fM_turns_B15
  refine r_iload rfl rfl ?_
  refine r_const (x := 2) rfl rfl ?_
  refine r_icmp rfl rfl (fun c11 => ?_) (fun c11 => ?_)
  · exact he15_157 l0 l1 l3 I P nx sl (some (.inl l2)) (some (.inl l4)) o5 o6 o7
  · refine r_ck (fun h12 => ?_)
    refine r_aload rfl rfl (am_nz h12) ?_
    refine r_iload rfl rfl ?_
    refine r_iload rfl rfl ?_
    refine r_call0 rfl rfl h12 (fun y hy => AfM_seamTo (dp := dp + 2) hy) (fun y13 => ?_)
    refine r_istore (ls' := [some (.inr l0), some (.inl l1), some (.inl l2), some (.inr l3), some (.inl l4), some (.inl y13), o6, o7]) rfl (Nat.le_of_ble_eq_true rfl) rfl ?_
    refine r_iload rfl rfl ?_
    refine r_if rfl rfl (fun c14 => ?_) (fun c14 => ?_)
    · exact AfM_turns_J151 hr15 l0 l1 l2 l3 l4 I P nx sl (some (.inl y13)) o6 o7
    · refine r_aload rfl rfl (am_nz h12) ?_
      refine r_getP rfl h12 ?_
      refine r_iload rfl rfl ?_
      refine r_ck (fun h16 => ?_)
      refine r_iald rfl h16 ?_
      refine r_const (x := 10) rfl rfl ?_
      refine r_bin (z := (I (P l0 15) y13.toNatClampNeg) / 10) rfl (sm_dv (by decide)) (by decide) ?_
      refine r_bd (fun x17 => ?_)
      refine r_istore (ls' := [some (.inr l0), some (.inl l1), some (.inl l2), some (.inr l3), some (.inl l4), some (.inl y13), some (.inl x17), o7]) rfl (Nat.le_of_ble_eq_true rfl) rfl ?_
      refine r_iload rfl rfl ?_
      refine r_iload rfl rfl ?_
      refine r_bin (z := sm_shr l2 x17) rfl rfl (by decide) ?_
      refine r_const (x := 1) rfl rfl ?_
      refine r_bin (z := (sm_shr l2 x17) &&& 1) rfl rfl (by decide) ?_
      refine r_const (x := 1) rfl rfl ?_
      refine r_icmp rfl rfl (fun c18 => ?_) (fun c18 => ?_)
      · refine r_aload rfl rfl (am_nz h12) ?_
        refine r_iload rfl rfl ?_
        refine r_call0 rfl rfl h12 (fun y hy => AfM_guessFor (dp := dp + 1) hy) (fun y19 => ?_)
        exact AfM_turns_J82 hr15 l0 l1 l2 l3 l4 y13 y19 I P nx sl (some (.inl x17)) o7
      · refine r_aload rfl rfl (am_nz h12) ?_
        refine r_iload rfl rfl ?_
        refine r_aload rfl rfl (am_nz h12) ?_
        refine r_getP rfl h12 ?_
        refine r_iload rfl rfl ?_
        refine r_ck (fun h35 => ?_)
        refine r_iald rfl h35 ?_
        refine r_const (x := 10) rfl rfl ?_
        refine r_bin (z := sm_rem (I (P l0 15) y13.toNatClampNeg) 10) rfl (sm_rv (by decide)) (by decide) ?_
        refine r_call1 rfl rfl h12 (fun y hy => AfM_out (dp := dp + 0) hy) (fun y36 => ?_)
        refine r_goto rfl ?_
        exact AfM_turns_J82 hr15 l0 l1 l2 l3 l4 y13 y36.1 y36.2 P nx sl (some (.inl x17)) o7
noncomputable def fM_turns_L15 (e15_157 : Nat → Int32 → Nat → am_M → am_Q → Nat → Nat → Option (am_S)) : Nat → Nat → Int32 → Int32 → Nat → Int32 → am_M → am_Q → Nat → Nat → Option (am_S)
  | 0, _, _, _, _, _, _, _, _, _ => none
  | n + 1, l0, l1, l2, l3, l4, I, P, nx, sl => fM_turns_B15 e15_157 (fM_turns_L15 e15_157 n) l0 l1 l2 l3 l4 I P nx sl
theorem AfM_turns_L15 {dp : Nat}  {e15_157 : Nat → Int32 → Nat → am_M → am_Q → Nat → Nat → Option (am_S)} (he15_157 : ∀ (l0 : Nat) (l1 : Int32) (l3 : Nat) (I : am_M) (P : am_Q) (nx : Nat) (sl : Nat) (o2 : Option am_V) (o4 : Option am_V) (o5 : Option am_V) (o6 : Option am_V) (o7 : Option am_V), sm (dp + 3) am_d199 157 [some (.inr l0), some (.inl l1), o2, some (.inr l3), o4, o5, o6, o7] [] (I, P, nx, sl) sm_g4 (e15_157 l0 l1 l3 I P nx sl)) (n : Nat) : ∀ (l0 : Nat) (l1 : Int32) (l2 : Int32) (l3 : Nat) (l4 : Int32) (I : am_M) (P : am_Q) (nx : Nat) (sl : Nat) (o5 : Option am_V) (o6 : Option am_V) (o7 : Option am_V), sm (dp + 3) am_d199 15 [some (.inr l0), some (.inl l1), some (.inl l2), some (.inr l3), some (.inl l4), o5, o6, o7] [] (I, P, nx, sl) sm_g4 (fM_turns_L15 e15_157 n l0 l1 l2 l3 l4 I P nx sl) := by
  induction n with
  | zero => intro l0 l1 l2 l3 l4 I P nx sl o5 o6 o7; exact sm_none
  | succ n ih => intro l0 l1 l2 l3 l4 I P nx sl o5 o6 o7; exact AfM_turns_B15 he15_157 ih l0 l1 l2 l3 l4 I P nx sl o5 o6 o7
noncomputable def fM_turns_J208 (r160 : Nat → Int32 → Nat → Int32 → am_M → am_Q → Nat → Nat → Option (am_S)) (l0 : Nat) (l1 : Int32) (l3 : Nat) (l4 : Int32) (s0 : Int32) (s1 : Int32) (s2 : Nat) (I : am_M) (P : am_Q) (nx : Nat) (sl : Nat) : Option (am_S) :=
  sm_ck (sm_01 s0) <|
  sm_ck (sm_iz s2 s1) <|
  sm_bd (am_up I s2 s1.toNatClampNeg s0) fun I44 =>
  sm_ck (am_t l0 = 13) <|
  sm_ck (sm_in (P l0 9) ((2 * l1) + l4)) <|
  sm_ck (sm_iw (P l0 10) ((2 * l1) + l4)) <|
  sm_bd (am_up I44 (P l0 10) ((2 * l1) + l4).toNatClampNeg (I44 (P l0 9) ((2 * l1) + l4).toNatClampNeg)) fun I48 =>
  sm_bd (l4 + 1) fun x49 =>
  r160 l0 l1 l3 x49 I48 P nx sl
set_option maxRecDepth 100000 in
theorem AfM_turns_J208 {dp : Nat}  {r160 : Nat → Int32 → Nat → Int32 → am_M → am_Q → Nat → Nat → Option (am_S)} (hr160 : ∀ (l0 : Nat) (l1 : Int32) (l3 : Nat) (l4 : Int32) (I : am_M) (P : am_Q) (nx : Nat) (sl : Nat) (o2 : Option am_V) (o5 : Option am_V) (o6 : Option am_V) (o7 : Option am_V), sm (dp + 3) am_d199 160 [some (.inr l0), some (.inl l1), o2, some (.inr l3), some (.inl l4), o5, o6, o7] [] (I, P, nx, sl) sm_g4 (r160 l0 l1 l3 l4 I P nx sl)) (l0 : Nat) (l1 : Int32) (l3 : Nat) (l4 : Int32) (s0 : Int32) (s1 : Int32) (s2 : Nat) (I : am_M) (P : am_Q) (nx : Nat) (sl : Nat) (o2 : Option am_V) (o5 : Option am_V) (o6 : Option am_V) (o7 : Option am_V) : sm (dp + 3) am_d199 208 [some (.inr l0), some (.inl l1), o2, some (.inr l3), some (.inl l4), o5, o6, o7] [.inl s0, .inl s1, .inr s2] (I, P, nx, sl) sm_g4 (fM_turns_J208 r160 l0 l1 l3 l4 s0 s1 s2 I P nx sl) := by
  unfold fM_turns_J208
  refine r_ck (fun h42 => ?_)
  refine r_ck (fun h43 => ?_)
  refine r_bast rfl h42 h43 (fun I44 => ?_)
  refine r_ck (fun h45 => ?_)
  refine r_aload rfl rfl (am_nz h45) ?_
  refine r_getP rfl h45 ?_
  refine r_const (x := 2) rfl rfl ?_
  refine r_iload rfl rfl ?_
  refine r_bin (z := 2 * l1) rfl rfl (by decide) ?_
  refine r_iload rfl rfl ?_
  refine r_bin (z := (2 * l1) + l4) rfl rfl (by decide) ?_
  refine r_aload rfl rfl (am_nz h45) ?_
  refine r_getP rfl h45 ?_
  refine r_const (x := 2) rfl rfl ?_
  refine r_iload rfl rfl ?_
  refine r_bin (z := 2 * l1) rfl rfl (by decide) ?_
  refine r_iload rfl rfl ?_
  refine r_bin (z := (2 * l1) + l4) rfl rfl (by decide) ?_
  refine r_ck (fun h46 => ?_)
  refine r_iald rfl h46 ?_
  refine r_ck (fun h47 => ?_)
  refine r_iast rfl h47 (fun I48 => ?_)
  refine r_iinc (e := l4 + 1) (ls' := fun x49 => [some (.inr l0), some (.inl l1), o2, some (.inr l3), some (.inl x49), o5, o6, o7]) rfl rfl rfl (fun _ => rfl) (fun x49 => ?_)
  refine r_goto rfl ?_
  exact hr160 l0 l1 l3 x49 I48 P nx sl o2 o5 o6 o7
noncomputable def fM_turns_J203 (r160 : Nat → Int32 → Nat → Int32 → am_M → am_Q → Nat → Nat → Option (am_S)) (l0 : Nat) (l1 : Int32) (l3 : Nat) (l4 : Int32) (s0 : Int32) (s1 : Nat) (I : am_M) (P : am_Q) (nx : Nat) (sl : Nat) : Option (am_S) :=
  fM_turns_J208 r160 l0 l1 l3 l4 1 s0 s1 I P nx sl
set_option maxRecDepth 100000 in
theorem AfM_turns_J203 {dp : Nat}  {r160 : Nat → Int32 → Nat → Int32 → am_M → am_Q → Nat → Nat → Option (am_S)} (hr160 : ∀ (l0 : Nat) (l1 : Int32) (l3 : Nat) (l4 : Int32) (I : am_M) (P : am_Q) (nx : Nat) (sl : Nat) (o2 : Option am_V) (o5 : Option am_V) (o6 : Option am_V) (o7 : Option am_V), sm (dp + 3) am_d199 160 [some (.inr l0), some (.inl l1), o2, some (.inr l3), some (.inl l4), o5, o6, o7] [] (I, P, nx, sl) sm_g4 (r160 l0 l1 l3 l4 I P nx sl)) (l0 : Nat) (l1 : Int32) (l3 : Nat) (l4 : Int32) (s0 : Int32) (s1 : Nat) (I : am_M) (P : am_Q) (nx : Nat) (sl : Nat) (o2 : Option am_V) (o5 : Option am_V) (o6 : Option am_V) (o7 : Option am_V) : sm (dp + 3) am_d199 203 [some (.inr l0), some (.inl l1), o2, some (.inr l3), some (.inl l4), o5, o6, o7] [.inl s0, .inr s1] (I, P, nx, sl) sm_g4 (fM_turns_J203 r160 l0 l1 l3 l4 s0 s1 I P nx sl) := by
  unfold fM_turns_J203
  refine r_const (x := 1) rfl rfl ?_
  refine r_goto rfl ?_
  exact AfM_turns_J208 hr160 l0 l1 l3 l4 1 s0 s1 I P nx sl o2 o5 o6 o7
noncomputable def fM_turns_B160 (e160_237 : Nat → Int32 → Nat → am_M → am_Q → Nat → Nat → Option (am_S)) (r160 : Nat → Int32 → Nat → Int32 → am_M → am_Q → Nat → Nat → Option (am_S)) (l0 : Nat) (l1 : Int32) (l3 : Nat) (l4 : Int32) (I : am_M) (P : am_Q) (nx : Nat) (sl : Nat) : Option (am_S) :=
  if 2 ≤ l4 then
    (e160_237 l0 l1 l3 I P nx sl)
  else
    (sm_ck (am_t l3 = 21) <|
    sm_ck (am_t l0 = 13) <|
    sm_ck (sm_in (P l0 8) l1) <|
    if (I (P l0 8) l1.toNatClampNeg) = 0 then
      (fM_turns_J203 r160 l0 l1 l3 l4 l4 l3 I P nx sl)
    else
      (sm_ck (sm_in (P l0 9) ((2 * l1) + l4)) <|
      sm_ck (sm_in (P l0 10) ((2 * l1) + l4)) <|
      if (I (P l0 9) ((2 * l1) + l4).toNatClampNeg) = (I (P l0 10) ((2 * l1) + l4).toNatClampNeg) then
        (fM_turns_J208 r160 l0 l1 l3 l4 0 l4 l3 I P nx sl)
      else
        (fM_turns_J203 r160 l0 l1 l3 l4 l4 l3 I P nx sl)))
set_option maxRecDepth 100000 in
theorem AfM_turns_B160 {dp : Nat}  {e160_237 : Nat → Int32 → Nat → am_M → am_Q → Nat → Nat → Option (am_S)} {r160 : Nat → Int32 → Nat → Int32 → am_M → am_Q → Nat → Nat → Option (am_S)} (he160_237 : ∀ (l0 : Nat) (l1 : Int32) (l3 : Nat) (I : am_M) (P : am_Q) (nx : Nat) (sl : Nat) (o2 : Option am_V) (o4 : Option am_V) (o5 : Option am_V) (o6 : Option am_V) (o7 : Option am_V), sm (dp + 3) am_d199 237 [some (.inr l0), some (.inl l1), o2, some (.inr l3), o4, o5, o6, o7] [] (I, P, nx, sl) sm_g4 (e160_237 l0 l1 l3 I P nx sl)) (hr160 : ∀ (l0 : Nat) (l1 : Int32) (l3 : Nat) (l4 : Int32) (I : am_M) (P : am_Q) (nx : Nat) (sl : Nat) (o2 : Option am_V) (o5 : Option am_V) (o6 : Option am_V) (o7 : Option am_V), sm (dp + 3) am_d199 160 [some (.inr l0), some (.inl l1), o2, some (.inr l3), some (.inl l4), o5, o6, o7] [] (I, P, nx, sl) sm_g4 (r160 l0 l1 l3 l4 I P nx sl)) (l0 : Nat) (l1 : Int32) (l3 : Nat) (l4 : Int32) (I : am_M) (P : am_Q) (nx : Nat) (sl : Nat) (o2 : Option am_V) (o5 : Option am_V) (o6 : Option am_V) (o7 : Option am_V) : sm (dp + 3) am_d199 160 [some (.inr l0), some (.inl l1), o2, some (.inr l3), some (.inl l4), o5, o6, o7] [] (I, P, nx, sl) sm_g4 (fM_turns_B160 e160_237 r160 l0 l1 l3 l4 I P nx sl) := by
  unfold fM_turns_B160
  refine r_iload rfl rfl ?_
  refine r_const (x := 2) rfl rfl ?_
  refine r_icmp rfl rfl (fun c37 => ?_) (fun c37 => ?_)
  · exact he160_237 l0 l1 l3 I P nx sl o2 (some (.inl l4)) o5 o6 o7
  · refine r_ck (fun h38 => ?_)
    refine r_aload rfl rfl (am_nz h38) ?_
    refine r_iload rfl rfl ?_
    refine r_ck (fun h39 => ?_)
    refine r_aload rfl rfl (am_nz h39) ?_
    refine r_getP rfl h39 ?_
    refine r_iload rfl rfl ?_
    refine r_ck (fun h40 => ?_)
    refine r_iald rfl h40 ?_
    refine r_if rfl rfl (fun c41 => ?_) (fun c41 => ?_)
    · exact AfM_turns_J203 hr160 l0 l1 l3 l4 l4 l3 I P nx sl o2 o5 o6 o7
    · refine r_aload rfl rfl (am_nz h39) ?_
      refine r_getP rfl h39 ?_
      refine r_const (x := 2) rfl rfl ?_
      refine r_iload rfl rfl ?_
      refine r_bin (z := 2 * l1) rfl rfl (by decide) ?_
      refine r_iload rfl rfl ?_
      refine r_bin (z := (2 * l1) + l4) rfl rfl (by decide) ?_
      refine r_ck (fun h50 => ?_)
      refine r_iald rfl h50 ?_
      refine r_aload rfl rfl (am_nz h39) ?_
      refine r_getP rfl h39 ?_
      refine r_const (x := 2) rfl rfl ?_
      refine r_iload rfl rfl ?_
      refine r_bin (z := 2 * l1) rfl rfl (by decide) ?_
      refine r_iload rfl rfl ?_
      refine r_bin (z := (2 * l1) + l4) rfl rfl (by decide) ?_
      refine r_ck (fun h51 => ?_)
      refine r_iald rfl h51 ?_
      refine r_icmp rfl rfl (fun c52 => ?_) (fun c52 => ?_)
      · refine r_const (x := 0) rfl rfl ?_
        exact AfM_turns_J208 hr160 l0 l1 l3 l4 0 l4 l3 I P nx sl o2 o5 o6 o7
      · exact AfM_turns_J203 hr160 l0 l1 l3 l4 l4 l3 I P nx sl o2 o5 o6 o7
noncomputable def fM_turns_L160 (e160_237 : Nat → Int32 → Nat → am_M → am_Q → Nat → Nat → Option (am_S)) : Nat → Nat → Int32 → Nat → Int32 → am_M → am_Q → Nat → Nat → Option (am_S)
  | 0, _, _, _, _, _, _, _, _ => none
  | n + 1, l0, l1, l3, l4, I, P, nx, sl => fM_turns_B160 e160_237 (fM_turns_L160 e160_237 n) l0 l1 l3 l4 I P nx sl
theorem AfM_turns_L160 {dp : Nat}  {e160_237 : Nat → Int32 → Nat → am_M → am_Q → Nat → Nat → Option (am_S)} (he160_237 : ∀ (l0 : Nat) (l1 : Int32) (l3 : Nat) (I : am_M) (P : am_Q) (nx : Nat) (sl : Nat) (o2 : Option am_V) (o4 : Option am_V) (o5 : Option am_V) (o6 : Option am_V) (o7 : Option am_V), sm (dp + 3) am_d199 237 [some (.inr l0), some (.inl l1), o2, some (.inr l3), o4, o5, o6, o7] [] (I, P, nx, sl) sm_g4 (e160_237 l0 l1 l3 I P nx sl)) (n : Nat) : ∀ (l0 : Nat) (l1 : Int32) (l3 : Nat) (l4 : Int32) (I : am_M) (P : am_Q) (nx : Nat) (sl : Nat) (o2 : Option am_V) (o5 : Option am_V) (o6 : Option am_V) (o7 : Option am_V), sm (dp + 3) am_d199 160 [some (.inr l0), some (.inl l1), o2, some (.inr l3), some (.inl l4), o5, o6, o7] [] (I, P, nx, sl) sm_g4 (fM_turns_L160 e160_237 n l0 l1 l3 l4 I P nx sl) := by
  induction n with
  | zero => intro l0 l1 l3 l4 I P nx sl o2 o5 o6 o7; exact sm_none
  | succ n ih => intro l0 l1 l3 l4 I P nx sl o2 o5 o6 o7; exact AfM_turns_B160 he160_237 ih l0 l1 l3 l4 I P nx sl o2 o5 o6 o7
noncomputable def fM_turns_J412 (l0 : Nat) (l1 : Int32) (I : am_M) (P : am_Q) (nx : Nat) (sl : Nat) : Option (am_S) :=
  sm_ck (am_t l0 = 13) <|
  sm_ck (sm_in (P l0 2) l1) <|
  if ¬ (I (P l0 2) l1.toNatClampNeg) = 2 then
    (some (I, P, nx, sl))
  else
    (sm_ck (sm_in (P l0 3) l1) <|
    if ¬ (I (P l0 3) l1.toNatClampNeg) = 0 then
      (some (I, P, nx, sl))
    else
      (sm_ck (sm_in (P l0 5) l1) <|
      sm_ck (sm_iw (P l0 3) l1) <|
      sm_bd (am_up I (P l0 3) l1.toNatClampNeg (I (P l0 5) l1.toNatClampNeg)) fun I68 =>
      sm_ck (sm_in (P l0 1) 4) <|
      sm_ck (sm_iw (P l0 1) 4) <|
      sm_bd (am_up I68 (P l0 1) (4 : Int32).toNatClampNeg ((I68 (P l0 1) (4 : Int32).toNatClampNeg) + 1)) fun I71 =>
      some (I71, P, nx, sl)))
set_option maxRecDepth 100000 in
theorem AfM_turns_J412 {dp : Nat}  (l0 : Nat) (l1 : Int32) (I : am_M) (P : am_Q) (nx : Nat) (sl : Nat) (o2 : Option am_V) (o3 : Option am_V) (o4 : Option am_V) (o5 : Option am_V) (o6 : Option am_V) (o7 : Option am_V) : sm (dp + 3) am_d199 412 [some (.inr l0), some (.inl l1), o2, o3, o4, o5, o6, o7] [] (I, P, nx, sl) sm_g4 (fM_turns_J412 l0 l1 I P nx sl) := by
  unfold fM_turns_J412
  refine r_ck (fun h61 => ?_)
  refine r_aload rfl rfl (am_nz h61) ?_
  refine r_getP rfl h61 ?_
  refine r_iload rfl rfl ?_
  refine r_ck (fun h62 => ?_)
  refine r_iald rfl h62 ?_
  refine r_const (x := 2) rfl rfl ?_
  refine r_icmp rfl rfl (fun c63 => ?_) (fun c63 => ?_)
  · exact r_return rfl rfl
  · refine r_aload rfl rfl (am_nz h61) ?_
    refine r_getP rfl h61 ?_
    refine r_iload rfl rfl ?_
    refine r_ck (fun h64 => ?_)
    refine r_iald rfl h64 ?_
    refine r_if rfl rfl (fun c65 => ?_) (fun c65 => ?_)
    · exact r_return rfl rfl
    · refine r_aload rfl rfl (am_nz h61) ?_
      refine r_getP rfl h61 ?_
      refine r_iload rfl rfl ?_
      refine r_aload rfl rfl (am_nz h61) ?_
      refine r_getP rfl h61 ?_
      refine r_iload rfl rfl ?_
      refine r_ck (fun h66 => ?_)
      refine r_iald rfl h66 ?_
      refine r_ck (fun h67 => ?_)
      refine r_iast rfl h67 (fun I68 => ?_)
      refine r_aload rfl rfl (am_nz h61) ?_
      refine r_getP rfl h61 ?_
      refine r_const (x := 4) rfl rfl ?_
      refine r_dup2 rfl ?_
      refine r_ck (fun h69 => ?_)
      refine r_iald rfl h69 ?_
      refine r_const (x := 1) rfl rfl ?_
      refine r_bin (z := (I68 (P l0 1) (4 : Int32).toNatClampNeg) + 1) rfl rfl (by decide) ?_
      refine r_ck (fun h70 => ?_)
      refine r_iast rfl h70 (fun I71 => ?_)
      exact r_return rfl rfl
noncomputable def fM_turns_J301 (l0 : Nat) (l1 : Int32) (s0 : Int32) (I : am_M) (P : am_Q) (nx : Nat) (sl : Nat) : Option (am_S) :=
  if s0 = 0 then
    (fM_turns_J412 l0 l1 I P nx sl)
  else
    (sm_ck (am_t l0 = 13) <|
    sm_ck (sm_in (P l0 1) 3) <|
    sm_ck (sm_in (P l0 3) l1) <|
    sm_ck (sm_in (P l0 4) l1) <|
    sm_ck (sm_in (P l0 9) (2 * l1)) <|
    sm_ck (sm_in (P l0 9) ((2 * l1) + 1)) <|
    Option.bind (fM_worth P l0 l1 0 (I (P l0 1) (3 : Int32).toNatClampNeg) (I (P l0 3) l1.toNatClampNeg) (I (P l0 4) l1.toNatClampNeg) (I (P l0 9) (2 * l1).toNatClampNeg) (I (P l0 9) ((2 * l1) + 1).toNatClampNeg) I) fun y78 =>
    sm_ck (sm_in (P l0 1) 3) <|
    sm_ck (sm_in (P l0 3) l1) <|
    sm_ck (sm_in (P l0 4) l1) <|
    sm_ck (sm_in (P l0 9) (2 * l1)) <|
    sm_ck (sm_in (P l0 9) ((2 * l1) + 1)) <|
    Option.bind (fM_worth P l0 l1 1 (y78.2 (P l0 1) (3 : Int32).toNatClampNeg) (y78.2 (P l0 3) l1.toNatClampNeg) (y78.2 (P l0 4) l1.toNatClampNeg) (y78.2 (P l0 9) (2 * l1).toNatClampNeg) (y78.2 (P l0 9) ((2 * l1) + 1).toNatClampNeg) y78.2) fun y84 =>
    sm_ck (sm_iw (P l0 3) l1) <|
    sm_bd (am_up y84.2 (P l0 3) l1.toNatClampNeg y78.1) fun I86 =>
    sm_ck (sm_iw (P l0 4) l1) <|
    sm_bd (am_up I86 (P l0 4) l1.toNatClampNeg y84.1) fun I88 =>
    fM_turns_J412 l0 l1 I88 P nx sl)
set_option maxRecDepth 100000 in
theorem AfM_turns_J301 {dp : Nat}  (l0 : Nat) (l1 : Int32) (s0 : Int32) (I : am_M) (P : am_Q) (nx : Nat) (sl : Nat) (o2 : Option am_V) (o3 : Option am_V) (o4 : Option am_V) (o5 : Option am_V) (o6 : Option am_V) (o7 : Option am_V) : sm (dp + 3) am_d199 301 [some (.inr l0), some (.inl l1), o2, o3, o4, o5, o6, o7] [.inl s0] (I, P, nx, sl) sm_g4 (fM_turns_J301 l0 l1 s0 I P nx sl) := by
  unfold fM_turns_J301
  refine r_istore (ls' := [some (.inr l0), some (.inl l1), o2, o3, some (.inl s0), o5, o6, o7]) rfl (Nat.le_of_ble_eq_true rfl) rfl ?_
  refine r_iload rfl rfl ?_
  refine r_if rfl rfl (fun c60 => ?_) (fun c60 => ?_)
  · exact AfM_turns_J412 l0 l1 I P nx sl o2 o3 (some (.inl s0)) o5 o6 o7
  · refine r_ck (fun h72 => ?_)
    refine r_aload rfl rfl (am_nz h72) ?_
    refine r_iload rfl rfl ?_
    refine r_const (x := 0) rfl rfl ?_
    refine r_aload rfl rfl (am_nz h72) ?_
    refine r_getP rfl h72 ?_
    refine r_const (x := 3) rfl rfl ?_
    refine r_ck (fun h73 => ?_)
    refine r_iald rfl h73 ?_
    refine r_aload rfl rfl (am_nz h72) ?_
    refine r_getP rfl h72 ?_
    refine r_iload rfl rfl ?_
    refine r_ck (fun h74 => ?_)
    refine r_iald rfl h74 ?_
    refine r_aload rfl rfl (am_nz h72) ?_
    refine r_getP rfl h72 ?_
    refine r_iload rfl rfl ?_
    refine r_ck (fun h75 => ?_)
    refine r_iald rfl h75 ?_
    refine r_aload rfl rfl (am_nz h72) ?_
    refine r_getP rfl h72 ?_
    refine r_const (x := 2) rfl rfl ?_
    refine r_iload rfl rfl ?_
    refine r_bin (z := 2 * l1) rfl rfl (by decide) ?_
    refine r_ck (fun h76 => ?_)
    refine r_iald rfl h76 ?_
    refine r_aload rfl rfl (am_nz h72) ?_
    refine r_getP rfl h72 ?_
    refine r_const (x := 2) rfl rfl ?_
    refine r_iload rfl rfl ?_
    refine r_bin (z := 2 * l1) rfl rfl (by decide) ?_
    refine r_const (x := 1) rfl rfl ?_
    refine r_bin (z := (2 * l1) + 1) rfl rfl (by decide) ?_
    refine r_ck (fun h77 => ?_)
    refine r_iald rfl h77 ?_
    refine r_call1 rfl rfl h72 (fun y hy => AfM_worth (dp := dp + 1) hy) (fun y78 => ?_)
    refine r_istore (ls' := [some (.inr l0), some (.inl l1), o2, o3, some (.inl s0), some (.inl y78.1), o6, o7]) rfl (Nat.le_of_ble_eq_true rfl) rfl ?_
    refine r_aload rfl rfl (am_nz h72) ?_
    refine r_iload rfl rfl ?_
    refine r_const (x := 1) rfl rfl ?_
    refine r_aload rfl rfl (am_nz h72) ?_
    refine r_getP rfl h72 ?_
    refine r_const (x := 3) rfl rfl ?_
    refine r_ck (fun h79 => ?_)
    refine r_iald rfl h79 ?_
    refine r_aload rfl rfl (am_nz h72) ?_
    refine r_getP rfl h72 ?_
    refine r_iload rfl rfl ?_
    refine r_ck (fun h80 => ?_)
    refine r_iald rfl h80 ?_
    refine r_aload rfl rfl (am_nz h72) ?_
    refine r_getP rfl h72 ?_
    refine r_iload rfl rfl ?_
    refine r_ck (fun h81 => ?_)
    refine r_iald rfl h81 ?_
    refine r_aload rfl rfl (am_nz h72) ?_
    refine r_getP rfl h72 ?_
    refine r_const (x := 2) rfl rfl ?_
    refine r_iload rfl rfl ?_
    refine r_bin (z := 2 * l1) rfl rfl (by decide) ?_
    refine r_ck (fun h82 => ?_)
    refine r_iald rfl h82 ?_
    refine r_aload rfl rfl (am_nz h72) ?_
    refine r_getP rfl h72 ?_
    refine r_const (x := 2) rfl rfl ?_
    refine r_iload rfl rfl ?_
    refine r_bin (z := 2 * l1) rfl rfl (by decide) ?_
    refine r_const (x := 1) rfl rfl ?_
    refine r_bin (z := (2 * l1) + 1) rfl rfl (by decide) ?_
    refine r_ck (fun h83 => ?_)
    refine r_iald rfl h83 ?_
    refine r_call1 rfl rfl h72 (fun y hy => AfM_worth (dp := dp + 1) hy) (fun y84 => ?_)
    refine r_istore (ls' := [some (.inr l0), some (.inl l1), o2, o3, some (.inl s0), some (.inl y78.1), some (.inl y84.1), o7]) rfl (Nat.le_of_ble_eq_true rfl) rfl ?_
    refine r_aload rfl rfl (am_nz h72) ?_
    refine r_getP rfl h72 ?_
    refine r_iload rfl rfl ?_
    refine r_iload rfl rfl ?_
    refine r_ck (fun h85 => ?_)
    refine r_iast rfl h85 (fun I86 => ?_)
    refine r_aload rfl rfl (am_nz h72) ?_
    refine r_getP rfl h72 ?_
    refine r_iload rfl rfl ?_
    refine r_iload rfl rfl ?_
    refine r_ck (fun h87 => ?_)
    refine r_iast rfl h87 (fun I88 => ?_)
    exact AfM_turns_J412 l0 l1 I88 P nx sl o2 o3 (some (.inl s0)) (some (.inl y78.1)) (some (.inl y84.1)) o7
noncomputable def fM_turns_J296 (l0 : Nat) (l1 : Int32) (I : am_M) (P : am_Q) (nx : Nat) (sl : Nat) : Option (am_S) :=
  fM_turns_J301 l0 l1 1 I P nx sl
set_option maxRecDepth 100000 in
theorem AfM_turns_J296 {dp : Nat}  (l0 : Nat) (l1 : Int32) (I : am_M) (P : am_Q) (nx : Nat) (sl : Nat) (o2 : Option am_V) (o3 : Option am_V) (o4 : Option am_V) (o5 : Option am_V) (o6 : Option am_V) (o7 : Option am_V) : sm (dp + 3) am_d199 296 [some (.inr l0), some (.inl l1), o2, o3, o4, o5, o6, o7] [] (I, P, nx, sl) sm_g4 (fM_turns_J296 l0 l1 I P nx sl) := by
  unfold fM_turns_J296
  refine r_const (x := 1) rfl rfl ?_
  refine r_goto rfl ?_
  exact AfM_turns_J301 l0 l1 1 I P nx sl o2 o3 o4 o5 o6 o7
noncomputable def fM_turns_J300 (l0 : Nat) (l1 : Int32) (I : am_M) (P : am_Q) (nx : Nat) (sl : Nat) : Option (am_S) :=
  fM_turns_J301 l0 l1 0 I P nx sl
set_option maxRecDepth 100000 in
theorem AfM_turns_J300 {dp : Nat}  (l0 : Nat) (l1 : Int32) (I : am_M) (P : am_Q) (nx : Nat) (sl : Nat) (o2 : Option am_V) (o3 : Option am_V) (o4 : Option am_V) (o5 : Option am_V) (o6 : Option am_V) (o7 : Option am_V) : sm (dp + 3) am_d199 300 [some (.inr l0), some (.inl l1), o2, o3, o4, o5, o6, o7] [] (I, P, nx, sl) sm_g4 (fM_turns_J300 l0 l1 I P nx sl) := by
  unfold fM_turns_J300
  refine r_const (x := 0) rfl rfl ?_
  exact AfM_turns_J301 l0 l1 0 I P nx sl o2 o3 o4 o5 o6 o7
noncomputable def fM_turns_J266 (l0 : Nat) (l1 : Int32) (I : am_M) (P : am_Q) (nx : Nat) (sl : Nat) : Option (am_S) :=
  fM_turns_J301 l0 l1 1 I P nx sl
set_option maxRecDepth 100000 in
theorem AfM_turns_J266 {dp : Nat}  (l0 : Nat) (l1 : Int32) (I : am_M) (P : am_Q) (nx : Nat) (sl : Nat) (o2 : Option am_V) (o3 : Option am_V) (o4 : Option am_V) (o5 : Option am_V) (o6 : Option am_V) (o7 : Option am_V) : sm (dp + 3) am_d199 266 [some (.inr l0), some (.inl l1), o2, o3, o4, o5, o6, o7] [] (I, P, nx, sl) sm_g4 (fM_turns_J266 l0 l1 I P nx sl) := by
  unfold fM_turns_J266
  refine r_const (x := 1) rfl rfl ?_
  refine r_goto rfl ?_
  exact AfM_turns_J301 l0 l1 1 I P nx sl o2 o3 o4 o5 o6 o7
noncomputable def fM_turns (l0 : Nat) (l1 : Int32) (l2 : Int32) (I : am_M) (P : am_Q) (nx : Nat) (sl : Nat) : Option (am_S) :=
  sm_na 21 2 I nx sl fun a1 I2 n3 s4 =>
  sm_ck (sm_iz a1 0) <|
  sm_bd (am_up I2 a1 (0 : Int32).toNatClampNeg 0) fun I8 =>
  sm_ck (sm_iz a1 1) <|
  sm_bd (am_up I8 a1 (1 : Int32).toNatClampNeg 0) fun I10 =>
  fM_turns_L15 (fun l0 l1 l3 I P nx sl =>
      fM_turns_L160 (fun l0 l1 l3 I P nx sl =>
          sm_ck (am_t l0 = 13) <|
          sm_ck (sm_iw (P l0 8) l1) <|
          sm_bd (am_up I (P l0 8) l1.toNatClampNeg 1) fun I55 =>
          sm_ck (sm_in (P l0 2) l1) <|
          if ¬ (I55 (P l0 2) l1.toNatClampNeg) = 3 then
            (sm_ck (sm_in (P l0 2) l1) <|
            if ¬ (I55 (P l0 2) l1.toNatClampNeg) = 5 then
              (fM_turns_J296 l0 l1 I55 P nx sl)
            else
              (sm_ck (am_t l3 = 21) <|
              sm_ck (sm_iz l3 0) <|
              if (I55 l3 (0 : Int32).toNatClampNeg) = 0 then
                (fM_turns_J300 l0 l1 I55 P nx sl)
              else
                (sm_ck (sm_iz l3 1) <|
                if (I55 l3 (1 : Int32).toNatClampNeg) = 0 then
                  (fM_turns_J300 l0 l1 I55 P nx sl)
                else
                  (fM_turns_J296 l0 l1 I55 P nx sl))))
          else
            (sm_ck (am_t l3 = 21) <|
            sm_ck (sm_iz l3 0) <|
            if ¬ (I55 l3 (0 : Int32).toNatClampNeg) = 0 then
              (fM_turns_J266 l0 l1 I55 P nx sl)
            else
              (sm_ck (sm_iz l3 1) <|
              if (I55 l3 (1 : Int32).toNatClampNeg) = 0 then
                (fM_turns_J301 l0 l1 0 I55 P nx sl)
              else
                (fM_turns_J266 l0 l1 I55 P nx sl)))) sm_fu l0 l1 l3 0 I P nx sl) sm_fu l0 l1 l2 a1 0 I10 P n3 s4
set_option maxRecDepth 100000 in
theorem AfM_turns {dp : Nat}  {I : am_M} {P : am_Q} {nx : Nat} {sl : Nat} {l0 : Nat} {l1 : Int32} {l2 : Int32} {y : am_S} (hy : fM_turns l0 l1 l2 I P nx sl = some y) : sm_T (dp + 4) 199 [.inr l0, .inl l1, .inl l2] (I, P, nx, sl) (sm_g4 y) := by
  refine r_meth (d := am_d199) (dp := dp + 3) (ls0 := [some (.inr l0), some (.inl l1), some (.inl l2), none, none, none, none, none]) rfl (by decide) rfl rfl ?_ hy
  unfold fM_turns
  refine r_const (x := 2) rfl rfl ?_
  refine r_newa rfl (by decide) (by decide) (by decide) (fun a1 I2 n3 s4 h5 h6 => ?_)
  refine r_dup rfl ?_
  refine r_const (x := 0) rfl rfl ?_
  refine r_const (x := 0) rfl rfl ?_
  refine r_ck (fun h7 => ?_)
  refine r_bast rfl sm_010 h7 (fun I8 => ?_)
  refine r_dup rfl ?_
  refine r_const (x := 1) rfl rfl ?_
  refine r_const (x := 0) rfl rfl ?_
  refine r_ck (fun h9 => ?_)
  refine r_bast rfl sm_010 h9 (fun I10 => ?_)
  refine r_astore (ls' := [some (.inr l0), some (.inl l1), some (.inl l2), some (.inr a1), none, none, none, none]) rfl (Nat.le_of_ble_eq_true rfl) (am_nz h5) rfl ?_
  refine r_const (x := 0) rfl rfl ?_
  refine r_istore (ls' := [some (.inr l0), some (.inl l1), some (.inl l2), some (.inr a1), some (.inl 0), none, none, none]) rfl (Nat.le_of_ble_eq_true rfl) rfl ?_
  refine AfM_turns_L15 ?_ sm_fu l0 l1 l2 a1 0 I10 P n3 s4 none none none
  · intro l0 l1 l3 I P nx sl o2 o4 o5 o6 o7
    refine r_const (x := 0) rfl rfl ?_
    refine r_istore (ls' := [some (.inr l0), some (.inl l1), o2, some (.inr l3), some (.inl 0), o5, o6, o7]) rfl (Nat.le_of_ble_eq_true rfl) rfl ?_
    refine AfM_turns_L160 ?_ sm_fu l0 l1 l3 0 I P nx sl o2 o5 o6 o7
    · intro l0 l1 l3 I P nx sl o2 o4 o5 o6 o7
      refine r_ck (fun h53 => ?_)
      refine r_aload rfl rfl (am_nz h53) ?_
      refine r_getP rfl h53 ?_
      refine r_iload rfl rfl ?_
      refine r_const (x := 1) rfl rfl ?_
      refine r_ck (fun h54 => ?_)
      refine r_iast rfl h54 (fun I55 => ?_)
      refine r_aload rfl rfl (am_nz h53) ?_
      refine r_getP rfl h53 ?_
      refine r_iload rfl rfl ?_
      refine r_ck (fun h56 => ?_)
      refine r_iald rfl h56 ?_
      refine r_const (x := 3) rfl rfl ?_
      refine r_icmp rfl rfl (fun c57 => ?_) (fun c57 => ?_)
      · refine r_aload rfl rfl (am_nz h53) ?_
        refine r_getP rfl h53 ?_
        refine r_iload rfl rfl ?_
        refine r_ck (fun h58 => ?_)
        refine r_iald rfl h58 ?_
        refine r_const (x := 5) rfl rfl ?_
        refine r_icmp rfl rfl (fun c59 => ?_) (fun c59 => ?_)
        · exact AfM_turns_J296 l0 l1 I55 P nx sl o2 (some (.inr l3)) o4 o5 o6 o7
        · refine r_ck (fun h89 => ?_)
          refine r_aload rfl rfl (am_nz h89) ?_
          refine r_const (x := 0) rfl rfl ?_
          refine r_ck (fun h90 => ?_)
          refine r_bald rfl h90 ?_
          refine r_if rfl rfl (fun c91 => ?_) (fun c91 => ?_)
          · exact AfM_turns_J300 l0 l1 I55 P nx sl o2 (some (.inr l3)) o4 o5 o6 o7
          · refine r_aload rfl rfl (am_nz h89) ?_
            refine r_const (x := 1) rfl rfl ?_
            refine r_ck (fun h92 => ?_)
            refine r_bald rfl h92 ?_
            refine r_if rfl rfl (fun c93 => ?_) (fun c93 => ?_)
            · exact AfM_turns_J300 l0 l1 I55 P nx sl o2 (some (.inr l3)) o4 o5 o6 o7
            · exact AfM_turns_J296 l0 l1 I55 P nx sl o2 (some (.inr l3)) o4 o5 o6 o7
      · refine r_ck (fun h94 => ?_)
        refine r_aload rfl rfl (am_nz h94) ?_
        refine r_const (x := 0) rfl rfl ?_
        refine r_ck (fun h95 => ?_)
        refine r_bald rfl h95 ?_
        refine r_if rfl rfl (fun c96 => ?_) (fun c96 => ?_)
        · exact AfM_turns_J266 l0 l1 I55 P nx sl o2 (some (.inr l3)) o4 o5 o6 o7
        · refine r_aload rfl rfl (am_nz h94) ?_
          refine r_const (x := 1) rfl rfl ?_
          refine r_ck (fun h97 => ?_)
          refine r_bald rfl h97 ?_
          refine r_if rfl rfl (fun c98 => ?_) (fun c98 => ?_)
          · refine r_const (x := 0) rfl rfl ?_
            refine r_goto rfl ?_
            exact AfM_turns_J301 l0 l1 0 I55 P nx sl o2 (some (.inr l3)) o4 o5 o6 o7
          · exact AfM_turns_J266 l0 l1 I55 P nx sl o2 (some (.inr l3)) o4 o5 o6 o7
noncomputable def fM_lesser (l0 : Int32) (l1 : Int32) : Option (Int32) :=
  if l1 ≤ l0 then
    (some l1)
  else
    (some l0)
set_option maxRecDepth 100000 in
theorem AfM_lesser {dp : Nat} {S : am_S} {l0 : Int32} {l1 : Int32} {y : Int32} (hy : fM_lesser l0 l1 = some y) : sm_T (dp + 1) 201 [.inl l0, .inl l1] S ((sm_g0 S) y) := by
  refine r_meth (d := am_d201) (dp := dp + 0) (ls0 := [some (.inl l0), some (.inl l1)]) rfl (by decide) rfl rfl ?_ hy
  unfold fM_lesser
  refine r_iload rfl rfl ?_
  refine r_iload rfl rfl ?_
  refine r_icmp rfl rfl (fun c1 => ?_) (fun c1 => ?_)
  · refine r_iload rfl rfl ?_
    exact r_ireturn rfl (Or.inl rfl) rfl
  · refine r_iload rfl rfl ?_
    refine r_goto rfl ?_
    exact r_ireturn rfl (Or.inl rfl) rfl
noncomputable def fM_far (I : am_M) (P : am_Q) (l0 : Nat) (l1 : Int32) (l2 : Int32) : Option (Int32) :=
  sm_ck (am_t l0 = 13) <|
  Option.bind (fM_part I P l0 (l1 - l2)) fun y2 =>
  Option.bind (fM_part I P l0 (l2 - l1)) fun y3 =>
  Option.bind (fM_lesser y2 y3) fun y4 =>
  some y4
set_option maxRecDepth 100000 in
theorem AfM_far {dp : Nat} {I : am_M} {P : am_Q} {nx : Nat} {sl : Nat} {l0 : Nat} {l1 : Int32} {l2 : Int32} {y : Int32} (hy : fM_far I P l0 l1 l2 = some y) : sm_T (dp + 2) 200 [.inr l0, .inl l1, .inl l2] (I, P, nx, sl) ((sm_g0 (I, P, nx, sl)) y) := by
  refine r_meth (d := am_d200) (dp := dp + 1) (ls0 := [some (.inr l0), some (.inl l1), some (.inl l2)]) rfl (by decide) rfl rfl ?_ hy
  unfold fM_far
  refine r_ck (fun h1 => ?_)
  refine r_aload rfl rfl (am_nz h1) ?_
  refine r_iload rfl rfl ?_
  refine r_iload rfl rfl ?_
  refine r_bin (z := l1 - l2) rfl rfl (by decide) ?_
  refine r_call0 rfl rfl h1 (fun y hy => AfM_part (dp := dp + 0) hy) (fun y2 => ?_)
  refine r_aload rfl rfl (am_nz h1) ?_
  refine r_iload rfl rfl ?_
  refine r_iload rfl rfl ?_
  refine r_bin (z := l2 - l1) rfl rfl (by decide) ?_
  refine r_call0 rfl rfl h1 (fun y hy => AfM_part (dp := dp + 0) hy) (fun y3 => ?_)
  refine r_call0 rfl rfl trivial (fun y hy => AfM_lesser (dp := dp + 0) hy) (fun y4 => ?_)
  exact r_ireturn rfl (Or.inl rfl) rfl
