noncomputable def fM_hour_J44 (r2 : Nat → Int32 → am_M → am_Q → Nat → Nat → Option (am_S)) (l0 : Nat) (l1 : Int32) (I : am_M) (P : am_Q) (nx : Nat) (sl : Nat) : Option (am_S) :=
  sm_bd (l1 + 1) fun x7 =>
  r2 l0 x7 I P nx sl
set_option maxRecDepth 100000 in
theorem AfM_hour_J44 {dp : Nat}  {r2 : Nat → Int32 → am_M → am_Q → Nat → Nat → Option (am_S)} (hr2 : ∀ (l0 : Nat) (l1 : Int32) (I : am_M) (P : am_Q) (nx : Nat) (sl : Nat) (o2 : Option am_V) (o3 : Option am_V) (o4 : Option am_V), sm (dp + 4) am_d198 2 [some (.inr l0), some (.inl l1), o2, o3, o4] [] (I, P, nx, sl) sm_g4 (r2 l0 l1 I P nx sl)) (l0 : Nat) (l1 : Int32) (I : am_M) (P : am_Q) (nx : Nat) (sl : Nat) (o2 : Option am_V) (o3 : Option am_V) (o4 : Option am_V) : sm (dp + 4) am_d198 44 [some (.inr l0), some (.inl l1), o2, o3, o4] [] (I, P, nx, sl) sm_g4 (fM_hour_J44 r2 l0 l1 I P nx sl) := by
  unfold fM_hour_J44
  refine r_iinc (e := l1 + 1) (ls' := fun x7 => [some (.inr l0), some (.inl x7), o2, o3, o4]) rfl rfl rfl (fun _ => rfl) (fun x7 => ?_)
  refine r_goto rfl ?_
  exact hr2 l0 x7 I P nx sl o2 o3 o4
noncomputable def fM_hour_B2 (e2_50 : Nat → am_M → am_Q → Nat → Nat → Option (am_S)) (r2 : Nat → Int32 → am_M → am_Q → Nat → Nat → Option (am_S)) (l0 : Nat) (l1 : Int32) (I : am_M) (P : am_Q) (nx : Nat) (sl : Nat) : Option (am_S) :=
  sm_ck (am_t l0 = 13) <|
  sm_ck (sm_in (P l0 1) 2) <|
  if (I (P l0 1) (2 : Int32).toNatClampNeg) ≤ l1 then
    (e2_50 l0 I P nx sl)
  else
    (sm_ck (sm_in (P l0 23) l1) <|
    sm_ck (sm_in (P l0 1) 3) <|
    if ¬ (I (P l0 23) l1.toNatClampNeg) = (I (P l0 1) (3 : Int32).toNatClampNeg) then
      (fM_hour_J44 r2 l0 l1 I P nx sl)
    else
      (sm_ck (sm_in (P l0 24) l1) <|
      sm_ck (sm_in (P l0 25) l1) <|
      sm_ck (sm_iw (P l0 3) (I (P l0 24) l1.toNatClampNeg)) <|
      sm_bd (am_up I (P l0 3) (I (P l0 24) l1.toNatClampNeg).toNatClampNeg (I (P l0 25) l1.toNatClampNeg)) fun I11 =>
      fM_hour_J44 r2 l0 l1 I11 P nx sl))
set_option maxRecDepth 100000 in
theorem AfM_hour_B2 {dp : Nat}  {e2_50 : Nat → am_M → am_Q → Nat → Nat → Option (am_S)} {r2 : Nat → Int32 → am_M → am_Q → Nat → Nat → Option (am_S)} (he2_50 : ∀ (l0 : Nat) (I : am_M) (P : am_Q) (nx : Nat) (sl : Nat) (o1 : Option am_V) (o2 : Option am_V) (o3 : Option am_V) (o4 : Option am_V), sm (dp + 4) am_d198 50 [some (.inr l0), o1, o2, o3, o4] [] (I, P, nx, sl) sm_g4 (e2_50 l0 I P nx sl)) (hr2 : ∀ (l0 : Nat) (l1 : Int32) (I : am_M) (P : am_Q) (nx : Nat) (sl : Nat) (o2 : Option am_V) (o3 : Option am_V) (o4 : Option am_V), sm (dp + 4) am_d198 2 [some (.inr l0), some (.inl l1), o2, o3, o4] [] (I, P, nx, sl) sm_g4 (r2 l0 l1 I P nx sl)) (l0 : Nat) (l1 : Int32) (I : am_M) (P : am_Q) (nx : Nat) (sl : Nat) (o2 : Option am_V) (o3 : Option am_V) (o4 : Option am_V) : sm (dp + 4) am_d198 2 [some (.inr l0), some (.inl l1), o2, o3, o4] [] (I, P, nx, sl) sm_g4 (fM_hour_B2 e2_50 r2 l0 l1 I P nx sl) := by
  unfold fM_hour_B2
  refine r_iload rfl rfl ?_
  refine r_ck (fun h1 => ?_)
  refine r_aload rfl rfl (am_nz h1) ?_
  refine r_getP rfl h1 ?_
  refine r_const (x := 2) rfl rfl ?_
  refine r_ck (fun h2 => ?_)
  refine r_iald rfl h2 ?_
  refine r_icmp rfl rfl (fun c3 => ?_) (fun c3 => ?_)
  · exact he2_50 l0 I P nx sl (some (.inl l1)) o2 o3 o4
  · refine r_aload rfl rfl (am_nz h1) ?_
    refine r_getP rfl h1 ?_
    refine r_iload rfl rfl ?_
    refine r_ck (fun h4 => ?_)
    refine r_iald rfl h4 ?_
    refine r_aload rfl rfl (am_nz h1) ?_
    refine r_getP rfl h1 ?_
    refine r_const (x := 3) rfl rfl ?_
    refine r_ck (fun h5 => ?_)
    refine r_iald rfl h5 ?_
    refine r_icmp rfl rfl (fun c6 => ?_) (fun c6 => ?_)
    · exact AfM_hour_J44 hr2 l0 l1 I P nx sl o2 o3 o4
    · refine r_aload rfl rfl (am_nz h1) ?_
      refine r_getP rfl h1 ?_
      refine r_aload rfl rfl (am_nz h1) ?_
      refine r_getP rfl h1 ?_
      refine r_iload rfl rfl ?_
      refine r_ck (fun h8 => ?_)
      refine r_iald rfl h8 ?_
      refine r_aload rfl rfl (am_nz h1) ?_
      refine r_getP rfl h1 ?_
      refine r_iload rfl rfl ?_
      refine r_ck (fun h9 => ?_)
      refine r_iald rfl h9 ?_
      refine r_ck (fun h10 => ?_)
      refine r_iast rfl h10 (fun I11 => ?_)
      exact AfM_hour_J44 hr2 l0 l1 I11 P nx sl o2 o3 o4
noncomputable def fM_hour_L2 (e2_50 : Nat → am_M → am_Q → Nat → Nat → Option (am_S)) : Nat → Nat → Int32 → am_M → am_Q → Nat → Nat → Option (am_S)
  | 0, _, _, _, _, _, _ => none
  | n + 1, l0, l1, I, P, nx, sl => fM_hour_B2 e2_50 (fM_hour_L2 e2_50 n) l0 l1 I P nx sl
theorem AfM_hour_L2 {dp : Nat}  {e2_50 : Nat → am_M → am_Q → Nat → Nat → Option (am_S)} (he2_50 : ∀ (l0 : Nat) (I : am_M) (P : am_Q) (nx : Nat) (sl : Nat) (o1 : Option am_V) (o2 : Option am_V) (o3 : Option am_V) (o4 : Option am_V), sm (dp + 4) am_d198 50 [some (.inr l0), o1, o2, o3, o4] [] (I, P, nx, sl) sm_g4 (e2_50 l0 I P nx sl)) (n : Nat) : ∀ (l0 : Nat) (l1 : Int32) (I : am_M) (P : am_Q) (nx : Nat) (sl : Nat) (o2 : Option am_V) (o3 : Option am_V) (o4 : Option am_V), sm (dp + 4) am_d198 2 [some (.inr l0), some (.inl l1), o2, o3, o4] [] (I, P, nx, sl) sm_g4 (fM_hour_L2 e2_50 n l0 l1 I P nx sl) := by
  induction n with
  | zero => intro l0 l1 I P nx sl o2 o3 o4; exact sm_none
  | succ n ih => intro l0 l1 I P nx sl o2 o3 o4; exact AfM_hour_B2 he2_50 ih l0 l1 I P nx sl o2 o3 o4
noncomputable def fM_hour_B54 (e54_92 : Nat → am_M → am_Q → Nat → Nat → Option (am_S)) (r54 : Nat → Int32 → Int32 → am_M → am_Q → Nat → Nat → Option (am_S)) (l0 : Nat) (l1 : Int32) (l2 : Int32) (I : am_M) (P : am_Q) (nx : Nat) (sl : Nat) : Option (am_S) :=
  sm_ck (am_t l0 = 13) <|
  sm_ck (sm_in (P l0 1) 0) <|
  if (I (P l0 1) (0 : Int32).toNatClampNeg) ≤ l2 then
    (e54_92 l0 I P nx sl)
  else
    (sm_ck (sm_in (P l0 7) l2) <|
    Option.bind (fM_turns l0 (I (P l0 7) l2.toNatClampNeg) l1 I P nx sl) fun y16 =>
    sm_ck (sm_in (y16.2.1 l0 7) l2) <|
    sm_bd (l1 ||| (sm_shl 1 (y16.1 (y16.2.1 l0 7) l2.toNatClampNeg))) fun x18 =>
    sm_bd (l2 + 1) fun x19 =>
    r54 l0 x18 x19 y16.1 y16.2.1 y16.2.2.1 y16.2.2.2)
set_option maxRecDepth 100000 in
theorem AfM_hour_B54 {dp : Nat}  {e54_92 : Nat → am_M → am_Q → Nat → Nat → Option (am_S)} {r54 : Nat → Int32 → Int32 → am_M → am_Q → Nat → Nat → Option (am_S)} (he54_92 : ∀ (l0 : Nat) (I : am_M) (P : am_Q) (nx : Nat) (sl : Nat) (o1 : Option am_V) (o2 : Option am_V) (o3 : Option am_V) (o4 : Option am_V), sm (dp + 4) am_d198 92 [some (.inr l0), o1, o2, o3, o4] [] (I, P, nx, sl) sm_g4 (e54_92 l0 I P nx sl)) (hr54 : ∀ (l0 : Nat) (l1 : Int32) (l2 : Int32) (I : am_M) (P : am_Q) (nx : Nat) (sl : Nat) (o3 : Option am_V) (o4 : Option am_V), sm (dp + 4) am_d198 54 [some (.inr l0), some (.inl l1), some (.inl l2), o3, o4] [] (I, P, nx, sl) sm_g4 (r54 l0 l1 l2 I P nx sl)) (l0 : Nat) (l1 : Int32) (l2 : Int32) (I : am_M) (P : am_Q) (nx : Nat) (sl : Nat) (o3 : Option am_V) (o4 : Option am_V) : sm (dp + 4) am_d198 54 [some (.inr l0), some (.inl l1), some (.inl l2), o3, o4] [] (I, P, nx, sl) sm_g4 (fM_hour_B54 e54_92 r54 l0 l1 l2 I P nx sl) := by
  unfold fM_hour_B54
  refine r_iload rfl rfl ?_
  refine r_ck (fun h12 => ?_)
  refine r_aload rfl rfl (am_nz h12) ?_
  refine r_getP rfl h12 ?_
  refine r_const (x := 0) rfl rfl ?_
  refine r_ck (fun h13 => ?_)
  refine r_iald rfl h13 ?_
  refine r_icmp rfl rfl (fun c14 => ?_) (fun c14 => ?_)
  · exact he54_92 l0 I P nx sl (some (.inl l1)) (some (.inl l2)) o3 o4
  · refine r_aload rfl rfl (am_nz h12) ?_
    refine r_aload rfl rfl (am_nz h12) ?_
    refine r_getP rfl h12 ?_
    refine r_iload rfl rfl ?_
    refine r_ck (fun h15 => ?_)
    refine r_iald rfl h15 ?_
    refine r_iload rfl rfl ?_
    refine r_call4 rfl rfl h12 (fun y hy => AfM_turns (dp := dp + 0) hy) (fun y16 => ?_)
    refine r_iload rfl rfl ?_
    refine r_const (x := 1) rfl rfl ?_
    refine r_aload rfl rfl (am_nz h12) ?_
    refine r_getP rfl h12 ?_
    refine r_iload rfl rfl ?_
    refine r_ck (fun h17 => ?_)
    refine r_iald rfl h17 ?_
    refine r_bin (z := sm_shl 1 (y16.1 (y16.2.1 l0 7) l2.toNatClampNeg)) rfl rfl (by decide) ?_
    refine r_bin (z := l1 ||| (sm_shl 1 (y16.1 (y16.2.1 l0 7) l2.toNatClampNeg))) rfl rfl (by decide) ?_
    refine r_bd (fun x18 => ?_)
    refine r_istore (ls' := [some (.inr l0), some (.inl x18), some (.inl l2), o3, o4]) rfl (Nat.le_of_ble_eq_true rfl) rfl ?_
    refine r_iinc (e := l2 + 1) (ls' := fun x19 => [some (.inr l0), some (.inl x18), some (.inl x19), o3, o4]) rfl rfl rfl (fun _ => rfl) (fun x19 => ?_)
    refine r_goto rfl ?_
    exact hr54 l0 x18 x19 y16.1 y16.2.1 y16.2.2.1 y16.2.2.2 o3 o4
noncomputable def fM_hour_L54 (e54_92 : Nat → am_M → am_Q → Nat → Nat → Option (am_S)) : Nat → Nat → Int32 → Int32 → am_M → am_Q → Nat → Nat → Option (am_S)
  | 0, _, _, _, _, _, _, _ => none
  | n + 1, l0, l1, l2, I, P, nx, sl => fM_hour_B54 e54_92 (fM_hour_L54 e54_92 n) l0 l1 l2 I P nx sl
theorem AfM_hour_L54 {dp : Nat}  {e54_92 : Nat → am_M → am_Q → Nat → Nat → Option (am_S)} (he54_92 : ∀ (l0 : Nat) (I : am_M) (P : am_Q) (nx : Nat) (sl : Nat) (o1 : Option am_V) (o2 : Option am_V) (o3 : Option am_V) (o4 : Option am_V), sm (dp + 4) am_d198 92 [some (.inr l0), o1, o2, o3, o4] [] (I, P, nx, sl) sm_g4 (e54_92 l0 I P nx sl)) (n : Nat) : ∀ (l0 : Nat) (l1 : Int32) (l2 : Int32) (I : am_M) (P : am_Q) (nx : Nat) (sl : Nat) (o3 : Option am_V) (o4 : Option am_V), sm (dp + 4) am_d198 54 [some (.inr l0), some (.inl l1), some (.inl l2), o3, o4] [] (I, P, nx, sl) sm_g4 (fM_hour_L54 e54_92 n l0 l1 l2 I P nx sl) := by
  induction n with
  | zero => intro l0 l1 l2 I P nx sl o3 o4; exact sm_none
  | succ n ih => intro l0 l1 l2 I P nx sl o3 o4; exact AfM_hour_B54 he54_92 ih l0 l1 l2 I P nx sl o3 o4
noncomputable def fM_hour_B99 (e99_222 : Nat → am_M → am_Q → Nat → Nat → Option (am_S)) (r99 : Nat → Int32 → am_M → am_Q → Nat → Nat → Option (am_S)) (l0 : Nat) (l2 : Int32) (I : am_M) (P : am_Q) (nx : Nat) (sl : Nat) : Option (am_S) :=
  sm_ck (am_t l0 = 13) <|
  sm_ck (sm_in (P l0 1) 1) <|
  if (I (P l0 1) (1 : Int32).toNatClampNeg) ≤ l2 then
    (e99_222 l0 I P nx sl)
  else
    (sm_ck (sm_in (P l0 15) l2) <|
    sm_ck (sm_in (P l0 15) l2) <|
    Option.bind (fM_out P l0 ((I (P l0 15) l2.toNatClampNeg) / 10) (sm_rem (I (P l0 15) l2.toNatClampNeg) 10) I) fun y27 =>
    sm_ck (sm_in (P l0 16) l2) <|
    Option.bind (fM_doorOf (y27.2 (P l0 16) l2.toNatClampNeg)) fun y29 =>
    sm_ck (sm_in (P l0 9) y29) <|
    Option.bind (fM_far y27.2 P l0 (y27.2 (P l0 9) y29.toNatClampNeg) y27.1) fun y31 =>
    sm_bd (am_up y27.2 l0 50 ((y27.2 l0 50) + y31)) fun I32 =>
    sm_ck (sm_in (P l0 20) l2) <|
    Option.bind (fM_lesser 99999 ((I32 (P l0 20) l2.toNatClampNeg) + y31)) fun y34 =>
    sm_ck (sm_iw (P l0 20) l2) <|
    sm_bd (am_up I32 (P l0 20) l2.toNatClampNeg y34) fun I36 =>
    sm_ck (sm_in (P l0 18) l2) <|
    sm_ck (sm_iw (P l0 19) l2) <|
    sm_bd (am_up I36 (P l0 19) l2.toNatClampNeg (I36 (P l0 18) l2.toNatClampNeg)) fun I39 =>
    sm_ck (sm_in (P l0 17) l2) <|
    sm_ck (sm_iw (P l0 18) l2) <|
    sm_bd (am_up I39 (P l0 18) l2.toNatClampNeg (I39 (P l0 17) l2.toNatClampNeg)) fun I42 =>
    sm_ck (sm_iw (P l0 17) l2) <|
    sm_bd (am_up I42 (P l0 17) l2.toNatClampNeg y27.1) fun I44 =>
    sm_bd (l2 + 1) fun x45 =>
    r99 l0 x45 I44 P nx sl)
set_option maxRecDepth 100000 in
theorem AfM_hour_B99 {dp : Nat}  {e99_222 : Nat → am_M → am_Q → Nat → Nat → Option (am_S)} {r99 : Nat → Int32 → am_M → am_Q → Nat → Nat → Option (am_S)} (he99_222 : ∀ (l0 : Nat) (I : am_M) (P : am_Q) (nx : Nat) (sl : Nat) (o1 : Option am_V) (o2 : Option am_V) (o3 : Option am_V) (o4 : Option am_V), sm (dp + 4) am_d198 222 [some (.inr l0), o1, o2, o3, o4] [] (I, P, nx, sl) sm_g4 (e99_222 l0 I P nx sl)) (hr99 : ∀ (l0 : Nat) (l2 : Int32) (I : am_M) (P : am_Q) (nx : Nat) (sl : Nat) (o1 : Option am_V) (o3 : Option am_V) (o4 : Option am_V), sm (dp + 4) am_d198 99 [some (.inr l0), o1, some (.inl l2), o3, o4] [] (I, P, nx, sl) sm_g4 (r99 l0 l2 I P nx sl)) (l0 : Nat) (l2 : Int32) (I : am_M) (P : am_Q) (nx : Nat) (sl : Nat) (o1 : Option am_V) (o3 : Option am_V) (o4 : Option am_V) : sm (dp + 4) am_d198 99 [some (.inr l0), o1, some (.inl l2), o3, o4] [] (I, P, nx, sl) sm_g4 (fM_hour_B99 e99_222 r99 l0 l2 I P nx sl) := by
  unfold fM_hour_B99
  refine r_iload rfl rfl ?_
  refine r_ck (fun h22 => ?_)
  refine r_aload rfl rfl (am_nz h22) ?_
  refine r_getP rfl h22 ?_
  refine r_const (x := 1) rfl rfl ?_
  refine r_ck (fun h23 => ?_)
  refine r_iald rfl h23 ?_
  refine r_icmp rfl rfl (fun c24 => ?_) (fun c24 => ?_)
  · exact he99_222 l0 I P nx sl o1 (some (.inl l2)) o3 o4
  · refine r_aload rfl rfl (am_nz h22) ?_
    refine r_aload rfl rfl (am_nz h22) ?_
    refine r_getP rfl h22 ?_
    refine r_iload rfl rfl ?_
    refine r_ck (fun h25 => ?_)
    refine r_iald rfl h25 ?_
    refine r_const (x := 10) rfl rfl ?_
    refine r_bin (z := (I (P l0 15) l2.toNatClampNeg) / 10) rfl (sm_dv (by decide)) (by decide) ?_
    refine r_aload rfl rfl (am_nz h22) ?_
    refine r_getP rfl h22 ?_
    refine r_iload rfl rfl ?_
    refine r_ck (fun h26 => ?_)
    refine r_iald rfl h26 ?_
    refine r_const (x := 10) rfl rfl ?_
    refine r_bin (z := sm_rem (I (P l0 15) l2.toNatClampNeg) 10) rfl (sm_rv (by decide)) (by decide) ?_
    refine r_call1 rfl rfl h22 (fun y hy => AfM_out (dp := dp + 1) hy) (fun y27 => ?_)
    refine r_istore (ls' := [some (.inr l0), o1, some (.inl l2), some (.inl y27.1), o4]) rfl (Nat.le_of_ble_eq_true rfl) rfl ?_
    refine r_aload rfl rfl (am_nz h22) ?_
    refine r_aload rfl rfl (am_nz h22) ?_
    refine r_getP rfl h22 ?_
    refine r_aload rfl rfl (am_nz h22) ?_
    refine r_getP rfl h22 ?_
    refine r_iload rfl rfl ?_
    refine r_ck (fun h28 => ?_)
    refine r_iald rfl h28 ?_
    refine r_call0 rfl rfl trivial (fun y hy => AfM_doorOf (dp := dp + 3) hy) (fun y29 => ?_)
    refine r_ck (fun h30 => ?_)
    refine r_iald rfl h30 ?_
    refine r_iload rfl rfl ?_
    refine r_call0 rfl rfl h22 (fun y hy => AfM_far (dp := dp + 2) hy) (fun y31 => ?_)
    refine r_istore (ls' := [some (.inr l0), o1, some (.inl l2), some (.inl y27.1), some (.inl y31)]) rfl (Nat.le_of_ble_eq_true rfl) rfl ?_
    refine r_aload rfl rfl (am_nz h22) ?_
    refine r_dup rfl ?_
    refine r_getI rfl h22 ?_
    refine r_iload rfl rfl ?_
    refine r_bin (z := (y27.2 l0 50) + y31) rfl rfl (by decide) ?_
    refine r_putI rfl h22 (fun hz => absurd hz (by decide)) (fun I32 => ?_)
    refine r_aload rfl rfl (am_nz h22) ?_
    refine r_getP rfl h22 ?_
    refine r_iload rfl rfl ?_
    refine r_const (x := 99999) rfl rfl ?_
    refine r_aload rfl rfl (am_nz h22) ?_
    refine r_getP rfl h22 ?_
    refine r_iload rfl rfl ?_
    refine r_ck (fun h33 => ?_)
    refine r_iald rfl h33 ?_
    refine r_iload rfl rfl ?_
    refine r_bin (z := (I32 (P l0 20) l2.toNatClampNeg) + y31) rfl rfl (by decide) ?_
    refine r_call0 rfl rfl trivial (fun y hy => AfM_lesser (dp := dp + 3) hy) (fun y34 => ?_)
    refine r_ck (fun h35 => ?_)
    refine r_iast rfl h35 (fun I36 => ?_)
    refine r_aload rfl rfl (am_nz h22) ?_
    refine r_getP rfl h22 ?_
    refine r_iload rfl rfl ?_
    refine r_aload rfl rfl (am_nz h22) ?_
    refine r_getP rfl h22 ?_
    refine r_iload rfl rfl ?_
    refine r_ck (fun h37 => ?_)
    refine r_iald rfl h37 ?_
    refine r_ck (fun h38 => ?_)
    refine r_iast rfl h38 (fun I39 => ?_)
    refine r_aload rfl rfl (am_nz h22) ?_
    refine r_getP rfl h22 ?_
    refine r_iload rfl rfl ?_
    refine r_aload rfl rfl (am_nz h22) ?_
    refine r_getP rfl h22 ?_
    refine r_iload rfl rfl ?_
    refine r_ck (fun h40 => ?_)
    refine r_iald rfl h40 ?_
    refine r_ck (fun h41 => ?_)
    refine r_iast rfl h41 (fun I42 => ?_)
    refine r_aload rfl rfl (am_nz h22) ?_
    refine r_getP rfl h22 ?_
    refine r_iload rfl rfl ?_
    refine r_iload rfl rfl ?_
    refine r_ck (fun h43 => ?_)
    refine r_iast rfl h43 (fun I44 => ?_)
    refine r_iinc (e := l2 + 1) (ls' := fun x45 => [some (.inr l0), o1, some (.inl x45), some (.inl y27.1), some (.inl y31)]) rfl rfl rfl (fun _ => rfl) (fun x45 => ?_)
    refine r_goto rfl ?_
    exact hr99 l0 x45 I44 P nx sl o1 (some (.inl y27.1)) (some (.inl y31))
noncomputable def fM_hour_L99 (e99_222 : Nat → am_M → am_Q → Nat → Nat → Option (am_S)) : Nat → Nat → Int32 → am_M → am_Q → Nat → Nat → Option (am_S)
  | 0, _, _, _, _, _, _ => none
  | n + 1, l0, l2, I, P, nx, sl => fM_hour_B99 e99_222 (fM_hour_L99 e99_222 n) l0 l2 I P nx sl
theorem AfM_hour_L99 {dp : Nat}  {e99_222 : Nat → am_M → am_Q → Nat → Nat → Option (am_S)} (he99_222 : ∀ (l0 : Nat) (I : am_M) (P : am_Q) (nx : Nat) (sl : Nat) (o1 : Option am_V) (o2 : Option am_V) (o3 : Option am_V) (o4 : Option am_V), sm (dp + 4) am_d198 222 [some (.inr l0), o1, o2, o3, o4] [] (I, P, nx, sl) sm_g4 (e99_222 l0 I P nx sl)) (n : Nat) : ∀ (l0 : Nat) (l2 : Int32) (I : am_M) (P : am_Q) (nx : Nat) (sl : Nat) (o1 : Option am_V) (o3 : Option am_V) (o4 : Option am_V), sm (dp + 4) am_d198 99 [some (.inr l0), o1, some (.inl l2), o3, o4] [] (I, P, nx, sl) sm_g4 (fM_hour_L99 e99_222 n l0 l2 I P nx sl) := by
  induction n with
  | zero => intro l0 l2 I P nx sl o1 o3 o4; exact sm_none
  | succ n ih => intro l0 l2 I P nx sl o1 o3 o4; exact AfM_hour_B99 he99_222 ih l0 l2 I P nx sl o1 o3 o4
noncomputable def fM_hour (l0 : Nat) (I : am_M) (P : am_Q) (nx : Nat) (sl : Nat) : Option (am_S) :=
  fM_hour_L2 (fun l0 I P nx sl =>
      fM_hour_L54 (fun l0 I P nx sl =>
          sm_ck (am_t l0 = 13) <|
          sm_bd (am_up I l0 50 0) fun I21 =>
          fM_hour_L99 (fun l0 I P nx sl =>
              sm_ck (am_t l0 = 13) <|
              sm_ck (sm_in (P l0 1) 3) <|
              sm_ck (sm_iw (P l0 1) 3) <|
              sm_bd (am_up I (P l0 1) (3 : Int32).toNatClampNeg ((I (P l0 1) (3 : Int32).toNatClampNeg) + 1)) fun I49 =>
              some (I49, P, nx, sl)) sm_fu l0 0 I21 P nx sl) sm_fu l0 0 0 I P nx sl) sm_fu l0 0 I P nx sl
set_option maxRecDepth 100000 in
theorem AfM_hour {dp : Nat}  {I : am_M} {P : am_Q} {nx : Nat} {sl : Nat} {l0 : Nat} {y : am_S} (hy : fM_hour l0 I P nx sl = some y) : sm_T (dp + 5) 198 [.inr l0] (I, P, nx, sl) (sm_g4 y) := by
  refine r_meth (d := am_d198) (dp := dp + 4) (ls0 := [some (.inr l0), none, none, none, none]) rfl (by decide) rfl rfl ?_ hy
  unfold fM_hour
  refine r_const (x := 0) rfl rfl ?_
  refine r_istore (ls' := [some (.inr l0), some (.inl 0), none, none, none]) rfl (Nat.le_of_ble_eq_true rfl) rfl ?_
  refine AfM_hour_L2 ?_ sm_fu l0 0 I P nx sl none none none
  · intro l0 I P nx sl o1 o2 o3 o4
    refine r_const (x := 0) rfl rfl ?_
    refine r_istore (ls' := [some (.inr l0), some (.inl 0), o2, o3, o4]) rfl (Nat.le_of_ble_eq_true rfl) rfl ?_
    refine r_const (x := 0) rfl rfl ?_
    refine r_istore (ls' := [some (.inr l0), some (.inl 0), some (.inl 0), o3, o4]) rfl (Nat.le_of_ble_eq_true rfl) rfl ?_
    refine AfM_hour_L54 ?_ sm_fu l0 0 0 I P nx sl o3 o4
    · intro l0 I P nx sl o1 o2 o3 o4
      refine r_ck (fun h20 => ?_)
      refine r_aload rfl rfl (am_nz h20) ?_
      refine r_const (x := 0) rfl rfl ?_
      refine r_putI rfl h20 (fun hz => absurd hz (by decide)) (fun I21 => ?_)
      refine r_const (x := 0) rfl rfl ?_
      refine r_istore (ls' := [some (.inr l0), o1, some (.inl 0), o3, o4]) rfl (Nat.le_of_ble_eq_true rfl) rfl ?_
      refine AfM_hour_L99 ?_ sm_fu l0 0 I21 P nx sl o1 o3 o4
      · intro l0 I P nx sl o1 o2 o3 o4
        refine r_ck (fun h46 => ?_)
        refine r_aload rfl rfl (am_nz h46) ?_
        refine r_getP rfl h46 ?_
        refine r_const (x := 3) rfl rfl ?_
        refine r_dup2 rfl ?_
        refine r_ck (fun h47 => ?_)
        refine r_iald rfl h47 ?_
        refine r_const (x := 1) rfl rfl ?_
        refine r_bin (z := (I (P l0 1) (3 : Int32).toNatClampNeg) + 1) rfl rfl (by decide) ?_
        refine r_ck (fun h48 => ?_)
        refine r_iast rfl h48 (fun I49 => ?_)
        exact r_return rfl rfl
noncomputable def fM_step_J95 (r40 : Nat → Int32 → Int32 → am_M → am_Q → Nat → Nat → Option (Int32 × am_S)) (l0 : Nat) (l1 : Int32) (l2 : Int32) (I : am_M) (P : am_Q) (nx : Nat) (sl : Nat) : Option (Int32 × am_S) :=
  sm_ck (am_t l0 = 13) <|
  Option.bind (fM_copiesAll P l0 (I l0 28) 1 I) fun y10 =>
  sm_bd (am_up y10 l0 28 ((y10 l0 28) + 1)) fun I11 =>
  Option.bind (fM_hour l0 I11 P nx sl) fun y12 =>
  sm_bd (l2 + 1) fun x13 =>
  r40 l0 l1 x13 y12.1 y12.2.1 y12.2.2.1 y12.2.2.2
set_option maxRecDepth 100000 in
theorem AfM_step_J95 {dp : Nat}  {r40 : Nat → Int32 → Int32 → am_M → am_Q → Nat → Nat → Option (Int32 × am_S)} (hr40 : ∀ (l0 : Nat) (l1 : Int32) (l2 : Int32) (I : am_M) (P : am_Q) (nx : Nat) (sl : Nat) (o3 : Option am_V), sm (dp + 5) am_d195 40 [some (.inr l0), some (.inl l1), some (.inl l2), o3] [] (I, P, nx, sl) sm_g3 (r40 l0 l1 l2 I P nx sl)) (l0 : Nat) (l1 : Int32) (l2 : Int32) (I : am_M) (P : am_Q) (nx : Nat) (sl : Nat) (o3 : Option am_V) : sm (dp + 5) am_d195 95 [some (.inr l0), some (.inl l1), some (.inl l2), o3] [] (I, P, nx, sl) sm_g3 (fM_step_J95 r40 l0 l1 l2 I P nx sl) := by
  unfold fM_step_J95
  refine r_ck (fun h9 => ?_)
  refine r_aload rfl rfl (am_nz h9) ?_
  refine r_aload rfl rfl (am_nz h9) ?_
  refine r_getI rfl h9 ?_
  refine r_const (x := 1) rfl rfl ?_
  refine r_call2 rfl rfl h9 (fun y hy => AfM_copiesAll (dp := dp + 3) hy) (fun y10 => ?_)
  refine r_aload rfl rfl (am_nz h9) ?_
  refine r_dup rfl ?_
  refine r_getI rfl h9 ?_
  refine r_const (x := 1) rfl rfl ?_
  refine r_bin (z := (y10 l0 28) + 1) rfl rfl (by decide) ?_
  refine r_putI rfl h9 (fun hz => absurd hz (by decide)) (fun I11 => ?_)
  refine r_aload rfl rfl (am_nz h9) ?_
  refine r_call4 rfl rfl h9 (fun y hy => AfM_hour (dp := dp + 0) hy) (fun y12 => ?_)
  refine r_iinc (e := l2 + 1) (ls' := fun x13 => [some (.inr l0), some (.inl l1), some (.inl x13), o3]) rfl rfl rfl (fun _ => rfl) (fun x13 => ?_)
  refine r_goto rfl ?_
  exact hr40 l0 l1 x13 y12.1 y12.2.1 y12.2.2.1 y12.2.2.2 o3
noncomputable def fM_step_B56 (e56_85 : Nat → Int32 → Int32 → am_M → am_Q → Nat → Nat → Option (Int32 × am_S)) (r56 : Nat → Int32 → Int32 → Int32 → am_M → am_Q → Nat → Nat → Option (Int32 × am_S)) (l0 : Nat) (l1 : Int32) (l2 : Int32) (l3 : Int32) (I : am_M) (P : am_Q) (nx : Nat) (sl : Nat) : Option (Int32 × am_S) :=
  if 7500 ≤ l3 then
    (e56_85 l0 l1 l2 I P nx sl)
  else
    (sm_ck (am_t l0 = 13) <|
    sm_ck (sm_in (P l0 26) (l3 + 1500)) <|
    sm_ck (sm_iw (P l0 26) l3) <|
    sm_bd (am_up I (P l0 26) l3.toNatClampNeg (I (P l0 26) (l3 + 1500).toNatClampNeg)) fun I18 =>
    sm_bd (l3 + 1) fun x19 =>
    r56 l0 l1 l2 x19 I18 P nx sl)
set_option maxRecDepth 100000 in
theorem AfM_step_B56 {dp : Nat}  {e56_85 : Nat → Int32 → Int32 → am_M → am_Q → Nat → Nat → Option (Int32 × am_S)} {r56 : Nat → Int32 → Int32 → Int32 → am_M → am_Q → Nat → Nat → Option (Int32 × am_S)} (he56_85 : ∀ (l0 : Nat) (l1 : Int32) (l2 : Int32) (I : am_M) (P : am_Q) (nx : Nat) (sl : Nat) (o3 : Option am_V), sm (dp + 5) am_d195 85 [some (.inr l0), some (.inl l1), some (.inl l2), o3] [] (I, P, nx, sl) sm_g3 (e56_85 l0 l1 l2 I P nx sl)) (hr56 : ∀ (l0 : Nat) (l1 : Int32) (l2 : Int32) (l3 : Int32) (I : am_M) (P : am_Q) (nx : Nat) (sl : Nat), sm (dp + 5) am_d195 56 [some (.inr l0), some (.inl l1), some (.inl l2), some (.inl l3)] [] (I, P, nx, sl) sm_g3 (r56 l0 l1 l2 l3 I P nx sl)) (l0 : Nat) (l1 : Int32) (l2 : Int32) (l3 : Int32) (I : am_M) (P : am_Q) (nx : Nat) (sl : Nat) : sm (dp + 5) am_d195 56 [some (.inr l0), some (.inl l1), some (.inl l2), some (.inl l3)] [] (I, P, nx, sl) sm_g3 (fM_step_B56 e56_85 r56 l0 l1 l2 l3 I P nx sl) := by
  unfold fM_step_B56
  refine r_iload rfl rfl ?_
  refine r_const (x := 7500) rfl rfl ?_
  refine r_icmp rfl rfl (fun c14 => ?_) (fun c14 => ?_)
  · exact he56_85 l0 l1 l2 I P nx sl (some (.inl l3))
  · refine r_ck (fun h15 => ?_)
    refine r_aload rfl rfl (am_nz h15) ?_
    refine r_getP rfl h15 ?_
    refine r_iload rfl rfl ?_
    refine r_aload rfl rfl (am_nz h15) ?_
    refine r_getP rfl h15 ?_
    refine r_iload rfl rfl ?_
    refine r_const (x := 1500) rfl rfl ?_
    refine r_bin (z := l3 + 1500) rfl rfl (by decide) ?_
    refine r_ck (fun h16 => ?_)
    refine r_iald rfl h16 ?_
    refine r_ck (fun h17 => ?_)
    refine r_iast rfl h17 (fun I18 => ?_)
    refine r_iinc (e := l3 + 1) (ls' := fun x19 => [some (.inr l0), some (.inl l1), some (.inl l2), some (.inl x19)]) rfl rfl rfl (fun _ => rfl) (fun x19 => ?_)
    refine r_goto rfl ?_
    exact hr56 l0 l1 l2 x19 I18 P nx sl
noncomputable def fM_step_L56 (e56_85 : Nat → Int32 → Int32 → am_M → am_Q → Nat → Nat → Option (Int32 × am_S)) : Nat → Nat → Int32 → Int32 → Int32 → am_M → am_Q → Nat → Nat → Option (Int32 × am_S)
  | 0, _, _, _, _, _, _, _, _ => none
  | n + 1, l0, l1, l2, l3, I, P, nx, sl => fM_step_B56 e56_85 (fM_step_L56 e56_85 n) l0 l1 l2 l3 I P nx sl
theorem AfM_step_L56 {dp : Nat}  {e56_85 : Nat → Int32 → Int32 → am_M → am_Q → Nat → Nat → Option (Int32 × am_S)} (he56_85 : ∀ (l0 : Nat) (l1 : Int32) (l2 : Int32) (I : am_M) (P : am_Q) (nx : Nat) (sl : Nat) (o3 : Option am_V), sm (dp + 5) am_d195 85 [some (.inr l0), some (.inl l1), some (.inl l2), o3] [] (I, P, nx, sl) sm_g3 (e56_85 l0 l1 l2 I P nx sl)) (n : Nat) : ∀ (l0 : Nat) (l1 : Int32) (l2 : Int32) (l3 : Int32) (I : am_M) (P : am_Q) (nx : Nat) (sl : Nat), sm (dp + 5) am_d195 56 [some (.inr l0), some (.inl l1), some (.inl l2), some (.inl l3)] [] (I, P, nx, sl) sm_g3 (fM_step_L56 e56_85 n l0 l1 l2 l3 I P nx sl) := by
  induction n with
  | zero => intro l0 l1 l2 l3 I P nx sl; exact sm_none
  | succ n ih => intro l0 l1 l2 l3 I P nx sl; exact AfM_step_B56 he56_85 ih l0 l1 l2 l3 I P nx sl
noncomputable def fM_step_B40 (e40_124 : Nat → am_M → am_Q → Nat → Nat → Option (Int32 × am_S)) (r40 : Nat → Int32 → Int32 → am_M → am_Q → Nat → Nat → Option (Int32 × am_S)) (l0 : Nat) (l1 : Int32) (l2 : Int32) (I : am_M) (P : am_Q) (nx : Nat) (sl : Nat) : Option (Int32 × am_S) :=
  if l1 ≤ l2 then
    (e40_124 l0 I P nx sl)
  else
    (sm_ck (am_t l0 = 13) <|
    if ¬ (I l0 28) = 6 then
      (fM_step_J95 r40 l0 l1 l2 I P nx sl)
    else
      (fM_step_L56 (fun l0 l1 l2 I P nx sl =>
          sm_ck (am_t l0 = 13) <|
          sm_bd (am_up I l0 28 ((I l0 28) - 1)) fun I21 =>
          fM_step_J95 r40 l0 l1 l2 I21 P nx sl) sm_fu l0 l1 l2 0 I P nx sl))
set_option maxRecDepth 100000 in
theorem AfM_step_B40 {dp : Nat}  {e40_124 : Nat → am_M → am_Q → Nat → Nat → Option (Int32 × am_S)} {r40 : Nat → Int32 → Int32 → am_M → am_Q → Nat → Nat → Option (Int32 × am_S)} (he40_124 : ∀ (l0 : Nat) (I : am_M) (P : am_Q) (nx : Nat) (sl : Nat) (o1 : Option am_V) (o2 : Option am_V) (o3 : Option am_V), sm (dp + 5) am_d195 124 [some (.inr l0), o1, o2, o3] [] (I, P, nx, sl) sm_g3 (e40_124 l0 I P nx sl)) (hr40 : ∀ (l0 : Nat) (l1 : Int32) (l2 : Int32) (I : am_M) (P : am_Q) (nx : Nat) (sl : Nat) (o3 : Option am_V), sm (dp + 5) am_d195 40 [some (.inr l0), some (.inl l1), some (.inl l2), o3] [] (I, P, nx, sl) sm_g3 (r40 l0 l1 l2 I P nx sl)) (l0 : Nat) (l1 : Int32) (l2 : Int32) (I : am_M) (P : am_Q) (nx : Nat) (sl : Nat) (o3 : Option am_V) : sm (dp + 5) am_d195 40 [some (.inr l0), some (.inl l1), some (.inl l2), o3] [] (I, P, nx, sl) sm_g3 (fM_step_B40 e40_124 r40 l0 l1 l2 I P nx sl) := by
  unfold fM_step_B40
  refine r_iload rfl rfl ?_
  refine r_iload rfl rfl ?_
  refine r_icmp rfl rfl (fun c6 => ?_) (fun c6 => ?_)
  · exact he40_124 l0 I P nx sl (some (.inl l1)) (some (.inl l2)) o3
  · refine r_ck (fun h7 => ?_)
    refine r_aload rfl rfl (am_nz h7) ?_
    refine r_getI rfl h7 ?_
    refine r_const (x := 6) rfl rfl ?_
    refine r_icmp rfl rfl (fun c8 => ?_) (fun c8 => ?_)
    · exact AfM_step_J95 hr40 l0 l1 l2 I P nx sl o3
    · refine r_const (x := 0) rfl rfl ?_
      refine r_istore (ls' := [some (.inr l0), some (.inl l1), some (.inl l2), some (.inl 0)]) rfl (Nat.le_of_ble_eq_true rfl) rfl ?_
      refine AfM_step_L56 ?_ sm_fu l0 l1 l2 0 I P nx sl
      · intro l0 l1 l2 I P nx sl o3
        refine r_ck (fun h20 => ?_)
        refine r_aload rfl rfl (am_nz h20) ?_
        refine r_dup rfl ?_
        refine r_getI rfl h20 ?_
        refine r_const (x := 1) rfl rfl ?_
        refine r_bin (z := (I l0 28) - 1) rfl rfl (by decide) ?_
        refine r_putI rfl h20 (fun hz => absurd hz (by decide)) (fun I21 => ?_)
        exact AfM_step_J95 hr40 l0 l1 l2 I21 P nx sl o3
noncomputable def fM_step_L40 (e40_124 : Nat → am_M → am_Q → Nat → Nat → Option (Int32 × am_S)) : Nat → Nat → Int32 → Int32 → am_M → am_Q → Nat → Nat → Option (Int32 × am_S)
  | 0, _, _, _, _, _, _, _ => none
  | n + 1, l0, l1, l2, I, P, nx, sl => fM_step_B40 e40_124 (fM_step_L40 e40_124 n) l0 l1 l2 I P nx sl
theorem AfM_step_L40 {dp : Nat}  {e40_124 : Nat → am_M → am_Q → Nat → Nat → Option (Int32 × am_S)} (he40_124 : ∀ (l0 : Nat) (I : am_M) (P : am_Q) (nx : Nat) (sl : Nat) (o1 : Option am_V) (o2 : Option am_V) (o3 : Option am_V), sm (dp + 5) am_d195 124 [some (.inr l0), o1, o2, o3] [] (I, P, nx, sl) sm_g3 (e40_124 l0 I P nx sl)) (n : Nat) : ∀ (l0 : Nat) (l1 : Int32) (l2 : Int32) (I : am_M) (P : am_Q) (nx : Nat) (sl : Nat) (o3 : Option am_V), sm (dp + 5) am_d195 40 [some (.inr l0), some (.inl l1), some (.inl l2), o3] [] (I, P, nx, sl) sm_g3 (fM_step_L40 e40_124 n l0 l1 l2 I P nx sl) := by
  induction n with
  | zero => intro l0 l1 l2 I P nx sl o3; exact sm_none
  | succ n ih => intro l0 l1 l2 I P nx sl o3; exact AfM_step_B40 he40_124 ih l0 l1 l2 I P nx sl o3
noncomputable def fM_step (l0 : Nat) (l1 : Int32) (I : am_M) (P : am_Q) (nx : Nat) (sl : Nat) : Option (Int32 × am_S) :=
  Option.bind (fM_within l1 1 50) fun y1 =>
  if ¬ y1 = 0 then
    (sm_ck (am_t l0 = 13) <|
    sm_ck (sm_in (P l0 1) 3) <|
    if ((I (P l0 1) (3 : Int32).toNatClampNeg) + l1) ≤ 999 then
      (fM_step_L40 (fun l0 I P nx sl =>
          sm_ck (am_t l0 = 13) <|
          sm_ck (sm_in (P l0 1) 3) <|
          some (I (P l0 1) (3 : Int32).toNatClampNeg, I, P, nx, sl)) sm_fu l0 l1 0 I P nx sl)
    else
      (Option.bind (fM_finds P l0 ((-1000002)) I) fun y24 =>
      some (y24.1, y24.2, P, nx, sl)))
  else
    (sm_ck (am_t l0 = 13) <|
    Option.bind (fM_finds P l0 ((-1000001)) I) fun y26 =>
    some (y26.1, y26.2, P, nx, sl))
set_option maxRecDepth 100000 in
theorem AfM_step {dp : Nat}  {I : am_M} {P : am_Q} {nx : Nat} {sl : Nat} {l0 : Nat} {l1 : Int32} {y : Int32 × am_S} (hy : fM_step l0 l1 I P nx sl = some y) : sm_T (dp + 6) 195 [.inr l0, .inl l1] (I, P, nx, sl) (sm_g3 y) := by
  refine r_meth (d := am_d195) (dp := dp + 5) (ls0 := [some (.inr l0), some (.inl l1), none, none]) rfl (by decide) rfl rfl ?_ hy
  unfold fM_step
  refine r_iload rfl rfl ?_
  refine r_const (x := 1) rfl rfl ?_
  refine r_const (x := 50) rfl rfl ?_
  refine r_call0 rfl rfl trivial (fun y hy => AfM_within (dp := dp + 4) hy) (fun y1 => ?_)
  refine r_if rfl rfl (fun c2 => ?_) (fun c2 => ?_)
  · refine r_ck (fun h3 => ?_)
    refine r_aload rfl rfl (am_nz h3) ?_
    refine r_getP rfl h3 ?_
    refine r_const (x := 3) rfl rfl ?_
    refine r_ck (fun h4 => ?_)
    refine r_iald rfl h4 ?_
    refine r_iload rfl rfl ?_
    refine r_bin (z := (I (P l0 1) (3 : Int32).toNatClampNeg) + l1) rfl rfl (by decide) ?_
    refine r_const (x := 999) rfl rfl ?_
    refine r_icmp rfl rfl (fun c5 => ?_) (fun c5 => ?_)
    · refine r_const (x := 0) rfl rfl ?_
      refine r_istore (ls' := [some (.inr l0), some (.inl l1), some (.inl 0), none]) rfl (Nat.le_of_ble_eq_true rfl) rfl ?_
      refine AfM_step_L40 ?_ sm_fu l0 l1 0 I P nx sl none
      · intro l0 I P nx sl o1 o2 o3
        refine r_ck (fun h22 => ?_)
        refine r_aload rfl rfl (am_nz h22) ?_
        refine r_getP rfl h22 ?_
        refine r_const (x := 3) rfl rfl ?_
        refine r_ck (fun h23 => ?_)
        refine r_iald rfl h23 ?_
        exact r_ireturn rfl (Or.inl rfl) rfl
    · refine r_aload rfl rfl (am_nz h3) ?_
      refine r_const (x := (-1000002)) rfl rfl ?_
      refine r_call1 rfl rfl h3 (fun y hy => AfM_finds (dp := dp + 4) hy) (fun y24 => ?_)
      exact r_ireturn rfl (Or.inl rfl) rfl
  · refine r_ck (fun h25 => ?_)
    refine r_aload rfl rfl (am_nz h25) ?_
    refine r_const (x := (-1000001)) rfl rfl ?_
    refine r_call1 rfl rfl h25 (fun y hy => AfM_finds (dp := dp + 4) hy) (fun y26 => ?_)
    exact r_ireturn rfl (Or.inl rfl) rfl
noncomputable def fM_back_B19 (P : am_Q) (e19_39 : Nat → am_M → Option (Int32 × am_M)) (e19_52 : Nat → Int32 → am_M → Option (Int32 × am_M)) (r19 : Nat → Int32 → Int32 → am_M → Option (Int32 × am_M)) (l0 : Nat) (l1 : Int32) (l2 : Int32) (I : am_M) : Option (Int32 × am_M) :=
  sm_ck (am_t l0 = 13) <|
  sm_ck (sm_in (P l0 1) 0) <|
  if (I (P l0 1) (0 : Int32).toNatClampNeg) ≤ l2 then
    (e19_52 l0 l1 I)
  else
    (sm_ck (sm_in (P l0 2) l2) <|
    if ¬ (I (P l0 2) l2.toNatClampNeg) = 4 then
      (sm_bd (l2 + 1) fun x8 =>
      r19 l0 l1 x8 I)
    else
      (e19_39 l0 I))
set_option maxRecDepth 100000 in
theorem AfM_back_B19 {dp : Nat} {P : am_Q} {nx : Nat} {sl : Nat} {e19_39 : Nat → am_M → Option (Int32 × am_M)} {e19_52 : Nat → Int32 → am_M → Option (Int32 × am_M)} {r19 : Nat → Int32 → Int32 → am_M → Option (Int32 × am_M)} (he19_39 : ∀ (l0 : Nat) (I : am_M) (o1 : Option am_V) (o2 : Option am_V), sm (dp + 2) am_d202 39 [some (.inr l0), o1, o2] [] (I, P, nx, sl) (sm_g1 P nx sl) (e19_39 l0 I)) (he19_52 : ∀ (l0 : Nat) (l1 : Int32) (I : am_M) (o2 : Option am_V), sm (dp + 2) am_d202 52 [some (.inr l0), some (.inl l1), o2] [] (I, P, nx, sl) (sm_g1 P nx sl) (e19_52 l0 l1 I)) (hr19 : ∀ (l0 : Nat) (l1 : Int32) (l2 : Int32) (I : am_M), sm (dp + 2) am_d202 19 [some (.inr l0), some (.inl l1), some (.inl l2)] [] (I, P, nx, sl) (sm_g1 P nx sl) (r19 l0 l1 l2 I)) (l0 : Nat) (l1 : Int32) (l2 : Int32) (I : am_M) : sm (dp + 2) am_d202 19 [some (.inr l0), some (.inl l1), some (.inl l2)] [] (I, P, nx, sl) (sm_g1 P nx sl) (fM_back_B19 P e19_39 e19_52 r19 l0 l1 l2 I) := by
  unfold fM_back_B19
  refine r_iload rfl rfl ?_
  refine r_ck (fun h3 => ?_)
  refine r_aload rfl rfl (am_nz h3) ?_
  refine r_getP rfl h3 ?_
  refine r_const (x := 0) rfl rfl ?_
  refine r_ck (fun h4 => ?_)
  refine r_iald rfl h4 ?_
  refine r_icmp rfl rfl (fun c5 => ?_) (fun c5 => ?_)
  · exact he19_52 l0 l1 I (some (.inl l2))
  · refine r_aload rfl rfl (am_nz h3) ?_
    refine r_getP rfl h3 ?_
    refine r_iload rfl rfl ?_
    refine r_ck (fun h6 => ?_)
    refine r_iald rfl h6 ?_
    refine r_const (x := 4) rfl rfl ?_
    refine r_icmp rfl rfl (fun c7 => ?_) (fun c7 => ?_)
    · refine r_iinc (e := l2 + 1) (ls' := fun x8 => [some (.inr l0), some (.inl l1), some (.inl x8)]) rfl rfl rfl (fun _ => rfl) (fun x8 => ?_)
      refine r_goto rfl ?_
      exact hr19 l0 l1 x8 I
    · exact he19_39 l0 I (some (.inl l1)) (some (.inl l2))
noncomputable def fM_back_L19 (P : am_Q) (e19_39 : Nat → am_M → Option (Int32 × am_M)) (e19_52 : Nat → Int32 → am_M → Option (Int32 × am_M)) : Nat → Nat → Int32 → Int32 → am_M → Option (Int32 × am_M)
  | 0, _, _, _, _ => none
  | n + 1, l0, l1, l2, I => fM_back_B19 P e19_39 e19_52 (fM_back_L19 P e19_39 e19_52 n) l0 l1 l2 I
theorem AfM_back_L19 {dp : Nat} {P : am_Q} {nx : Nat} {sl : Nat} {e19_39 : Nat → am_M → Option (Int32 × am_M)} {e19_52 : Nat → Int32 → am_M → Option (Int32 × am_M)} (he19_39 : ∀ (l0 : Nat) (I : am_M) (o1 : Option am_V) (o2 : Option am_V), sm (dp + 2) am_d202 39 [some (.inr l0), o1, o2] [] (I, P, nx, sl) (sm_g1 P nx sl) (e19_39 l0 I)) (he19_52 : ∀ (l0 : Nat) (l1 : Int32) (I : am_M) (o2 : Option am_V), sm (dp + 2) am_d202 52 [some (.inr l0), some (.inl l1), o2] [] (I, P, nx, sl) (sm_g1 P nx sl) (e19_52 l0 l1 I)) (n : Nat) : ∀ (l0 : Nat) (l1 : Int32) (l2 : Int32) (I : am_M), sm (dp + 2) am_d202 19 [some (.inr l0), some (.inl l1), some (.inl l2)] [] (I, P, nx, sl) (sm_g1 P nx sl) (fM_back_L19 P e19_39 e19_52 n l0 l1 l2 I) := by
  induction n with
  | zero => intro l0 l1 l2 I; exact sm_none
  | succ n ih => intro l0 l1 l2 I; exact AfM_back_B19 he19_39 he19_52 ih l0 l1 l2 I
noncomputable def fM_back (P : am_Q) (l0 : Nat) (l1 : Int32) (I : am_M) : Option (Int32 × am_M) :=
  Option.bind (fM_within l1 1 6) fun y1 =>
  if ¬ y1 = 0 then
    (fM_back_L19 P (fun l0 I =>
        sm_ck (am_t l0 = 13) <|
        Option.bind (fM_finds P l0 ((-1000005)) I) fun y10 =>
        some (y10.1, y10.2)) (fun l0 l1 I =>
        sm_ck (am_t l0 = 13) <|
        if l1 ≤ (I l0 28) then
          (sm_bd (am_up I l0 28 ((I l0 28) - l1)) fun I13 =>
          Option.bind (fM_copiesAll P l0 (I13 l0 28) 0 I13) fun y14 =>
          sm_ck (sm_in (P l0 1) 3) <|
          some (y14 (P l0 1) (3 : Int32).toNatClampNeg, y14))
        else
          (Option.bind (fM_finds P l0 ((-1000004)) I) fun y16 =>
          some (y16.1, y16.2))) sm_fu l0 l1 0 I)
  else
    (sm_ck (am_t l0 = 13) <|
    Option.bind (fM_finds P l0 ((-1000001)) I) fun y18 =>
    some (y18.1, y18.2))
set_option maxRecDepth 100000 in
theorem AfM_back {dp : Nat} {P : am_Q} {nx : Nat} {sl : Nat} {I : am_M} {l0 : Nat} {l1 : Int32} {y : Int32 × am_M} (hy : fM_back P l0 l1 I = some y) : sm_T (dp + 3) 202 [.inr l0, .inl l1] (I, P, nx, sl) ((sm_g1 P nx sl) y) := by
  refine r_meth (d := am_d202) (dp := dp + 2) (ls0 := [some (.inr l0), some (.inl l1), none]) rfl (by decide) rfl rfl ?_ hy
  unfold fM_back
  refine r_iload rfl rfl ?_
  refine r_const (x := 1) rfl rfl ?_
  refine r_const (x := 6) rfl rfl ?_
  refine r_call0 rfl rfl trivial (fun y hy => AfM_within (dp := dp + 1) hy) (fun y1 => ?_)
  refine r_if rfl rfl (fun c2 => ?_) (fun c2 => ?_)
  · refine r_const (x := 0) rfl rfl ?_
    refine r_istore (ls' := [some (.inr l0), some (.inl l1), some (.inl 0)]) rfl (Nat.le_of_ble_eq_true rfl) rfl ?_
    refine AfM_back_L19 ?_ ?_ sm_fu l0 l1 0 I
    · intro l0 I o1 o2
      refine r_ck (fun h9 => ?_)
      refine r_aload rfl rfl (am_nz h9) ?_
      refine r_const (x := (-1000005)) rfl rfl ?_
      refine r_call1 rfl rfl h9 (fun y hy => AfM_finds (dp := dp + 1) hy) (fun y10 => ?_)
      exact r_ireturn rfl (Or.inl rfl) rfl
    · intro l0 l1 I o2
      refine r_ck (fun h11 => ?_)
      refine r_aload rfl rfl (am_nz h11) ?_
      refine r_getI rfl h11 ?_
      refine r_iload rfl rfl ?_
      refine r_icmp rfl rfl (fun c12 => ?_) (fun c12 => ?_)
      · refine r_aload rfl rfl (am_nz h11) ?_
        refine r_dup rfl ?_
        refine r_getI rfl h11 ?_
        refine r_iload rfl rfl ?_
        refine r_bin (z := (I l0 28) - l1) rfl rfl (by decide) ?_
        refine r_putI rfl h11 (fun hz => absurd hz (by decide)) (fun I13 => ?_)
        refine r_aload rfl rfl (am_nz h11) ?_
        refine r_aload rfl rfl (am_nz h11) ?_
        refine r_getI rfl h11 ?_
        refine r_const (x := 0) rfl rfl ?_
        refine r_call2 rfl rfl h11 (fun y hy => AfM_copiesAll (dp := dp + 0) hy) (fun y14 => ?_)
        refine r_aload rfl rfl (am_nz h11) ?_
        refine r_getP rfl h11 ?_
        refine r_const (x := 3) rfl rfl ?_
        refine r_ck (fun h15 => ?_)
        refine r_iald rfl h15 ?_
        exact r_ireturn rfl (Or.inl rfl) rfl
      · refine r_aload rfl rfl (am_nz h11) ?_
        refine r_const (x := (-1000004)) rfl rfl ?_
        refine r_call1 rfl rfl h11 (fun y hy => AfM_finds (dp := dp + 1) hy) (fun y16 => ?_)
        exact r_ireturn rfl (Or.inl rfl) rfl
  · refine r_ck (fun h17 => ?_)
    refine r_aload rfl rfl (am_nz h17) ?_
    refine r_const (x := (-1000001)) rfl rfl ?_
    refine r_call1 rfl rfl h17 (fun y hy => AfM_finds (dp := dp + 1) hy) (fun y18 => ?_)
    exact r_ireturn rfl (Or.inl rfl) rfl
noncomputable def fM_event (P : am_Q) (l0 : Nat) (l1 : Int32) (l2 : Int32) (l3 : Int32) (I : am_M) : Option (Int32 × am_M) :=
  sm_ck (am_t l0 = 13) <|
  sm_ck (sm_in (P l0 1) 3) <|
  Option.bind (fM_within l1 (I (P l0 1) (3 : Int32).toNatClampNeg) 999) fun y3 =>
  if y3 = 0 then
    (Option.bind (fM_finds P l0 ((-1000001)) I) fun y5 =>
    some (y5.1, y5.2))
  else
    (Option.bind (fM_isOf I P l0 0 l2) fun y6 =>
    if y6 = 0 then
      (Option.bind (fM_finds P l0 ((-1000001)) I) fun y8 =>
      some (y8.1, y8.2))
    else
      (Option.bind (fM_isPart I P l0 l3) fun y9 =>
      if ¬ y9 = 0 then
        (sm_ck (sm_in (P l0 1) 2) <|
        if ¬ (I (P l0 1) (2 : Int32).toNatClampNeg) = 20 then
          (sm_ck (sm_in (P l0 1) 2) <|
          sm_bd (I (P l0 1) (2 : Int32).toNatClampNeg) fun x14 =>
          sm_ck (sm_iw (P l0 23) x14) <|
          sm_bd (am_up I (P l0 23) x14.toNatClampNeg l1) fun I16 =>
          sm_ck (sm_iw (P l0 24) x14) <|
          sm_bd (am_up I16 (P l0 24) x14.toNatClampNeg l2) fun I18 =>
          sm_ck (sm_iw (P l0 25) x14) <|
          sm_bd (am_up I18 (P l0 25) x14.toNatClampNeg l3) fun I20 =>
          sm_ck (sm_in (P l0 1) 2) <|
          sm_ck (sm_iw (P l0 1) 2) <|
          sm_bd (am_up I20 (P l0 1) (2 : Int32).toNatClampNeg ((I20 (P l0 1) (2 : Int32).toNatClampNeg) + 1)) fun I23 =>
          some (x14, I23))
        else
          (Option.bind (fM_finds P l0 ((-1000002)) I) fun y24 =>
          some (y24.1, y24.2)))
      else
        (Option.bind (fM_finds P l0 ((-1000001)) I) fun y25 =>
        some (y25.1, y25.2))))
set_option maxRecDepth 100000 in
theorem AfM_event {dp : Nat} {P : am_Q} {nx : Nat} {sl : Nat} {I : am_M} {l0 : Nat} {l1 : Int32} {l2 : Int32} {l3 : Int32} {y : Int32 × am_M} (hy : fM_event P l0 l1 l2 l3 I = some y) : sm_T (dp + 3) 203 [.inr l0, .inl l1, .inl l2, .inl l3] (I, P, nx, sl) ((sm_g1 P nx sl) y) := by
  refine r_meth (d := am_d203) (dp := dp + 2) (ls0 := [some (.inr l0), some (.inl l1), some (.inl l2), some (.inl l3), none]) rfl (by decide) rfl rfl ?_ hy
  unfold fM_event
  refine r_iload rfl rfl ?_
  refine r_ck (fun h1 => ?_)
  refine r_aload rfl rfl (am_nz h1) ?_
  refine r_getP rfl h1 ?_
  refine r_const (x := 3) rfl rfl ?_
  refine r_ck (fun h2 => ?_)
  refine r_iald rfl h2 ?_
  refine r_const (x := 999) rfl rfl ?_
  refine r_call0 rfl rfl trivial (fun y hy => AfM_within (dp := dp + 1) hy) (fun y3 => ?_)
  refine r_if rfl rfl (fun c4 => ?_) (fun c4 => ?_)
  · refine r_aload rfl rfl (am_nz h1) ?_
    refine r_const (x := (-1000001)) rfl rfl ?_
    refine r_call1 rfl rfl h1 (fun y hy => AfM_finds (dp := dp + 1) hy) (fun y5 => ?_)
    exact r_ireturn rfl (Or.inl rfl) rfl
  · refine r_aload rfl rfl (am_nz h1) ?_
    refine r_const (x := 0) rfl rfl ?_
    refine r_iload rfl rfl ?_
    refine r_call0 rfl rfl h1 (fun y hy => AfM_isOf (dp := dp + 0) hy) (fun y6 => ?_)
    refine r_if rfl rfl (fun c7 => ?_) (fun c7 => ?_)
    · refine r_aload rfl rfl (am_nz h1) ?_
      refine r_const (x := (-1000001)) rfl rfl ?_
      refine r_call1 rfl rfl h1 (fun y hy => AfM_finds (dp := dp + 1) hy) (fun y8 => ?_)
      exact r_ireturn rfl (Or.inl rfl) rfl
    · refine r_aload rfl rfl (am_nz h1) ?_
      refine r_iload rfl rfl ?_
      refine r_call0 rfl rfl h1 (fun y hy => AfM_isPart (dp := dp + 0) hy) (fun y9 => ?_)
      refine r_if rfl rfl (fun c10 => ?_) (fun c10 => ?_)
      · refine r_aload rfl rfl (am_nz h1) ?_
        refine r_getP rfl h1 ?_
        refine r_const (x := 2) rfl rfl ?_
        refine r_ck (fun h11 => ?_)
        refine r_iald rfl h11 ?_
        refine r_const (x := 20) rfl rfl ?_
        refine r_icmp rfl rfl (fun c12 => ?_) (fun c12 => ?_)
        · refine r_aload rfl rfl (am_nz h1) ?_
          refine r_getP rfl h1 ?_
          refine r_const (x := 2) rfl rfl ?_
          refine r_ck (fun h13 => ?_)
          refine r_iald rfl h13 ?_
          refine r_bd (fun x14 => ?_)
          refine r_istore (ls' := [some (.inr l0), some (.inl l1), some (.inl l2), some (.inl l3), some (.inl x14)]) rfl (Nat.le_of_ble_eq_true rfl) rfl ?_
          refine r_aload rfl rfl (am_nz h1) ?_
          refine r_getP rfl h1 ?_
          refine r_iload rfl rfl ?_
          refine r_iload rfl rfl ?_
          refine r_ck (fun h15 => ?_)
          refine r_iast rfl h15 (fun I16 => ?_)
          refine r_aload rfl rfl (am_nz h1) ?_
          refine r_getP rfl h1 ?_
          refine r_iload rfl rfl ?_
          refine r_iload rfl rfl ?_
          refine r_ck (fun h17 => ?_)
          refine r_iast rfl h17 (fun I18 => ?_)
          refine r_aload rfl rfl (am_nz h1) ?_
          refine r_getP rfl h1 ?_
          refine r_iload rfl rfl ?_
          refine r_iload rfl rfl ?_
          refine r_ck (fun h19 => ?_)
          refine r_iast rfl h19 (fun I20 => ?_)
          refine r_aload rfl rfl (am_nz h1) ?_
          refine r_getP rfl h1 ?_
          refine r_const (x := 2) rfl rfl ?_
          refine r_dup2 rfl ?_
          refine r_ck (fun h21 => ?_)
          refine r_iald rfl h21 ?_
          refine r_const (x := 1) rfl rfl ?_
          refine r_bin (z := (I20 (P l0 1) (2 : Int32).toNatClampNeg) + 1) rfl rfl (by decide) ?_
          refine r_ck (fun h22 => ?_)
          refine r_iast rfl h22 (fun I23 => ?_)
          refine r_iload rfl rfl ?_
          exact r_ireturn rfl (Or.inl rfl) rfl
        · refine r_aload rfl rfl (am_nz h1) ?_
          refine r_const (x := (-1000002)) rfl rfl ?_
          refine r_call1 rfl rfl h1 (fun y hy => AfM_finds (dp := dp + 1) hy) (fun y24 => ?_)
          exact r_ireturn rfl (Or.inl rfl) rfl
      · refine r_aload rfl rfl (am_nz h1) ?_
        refine r_const (x := (-1000001)) rfl rfl ?_
        refine r_call1 rfl rfl h1 (fun y hy => AfM_finds (dp := dp + 1) hy) (fun y25 => ?_)
        exact r_ireturn rfl (Or.inl rfl) rfl
noncomputable def fM_next_J45 (P : am_Q) (r6 : Nat → Int32 → Int32 → am_M → Option (Int32 × am_M)) (l0 : Nat) (l2 : Int32) (s0 : Int32) (I : am_M) : Option (Int32 × am_M) :=
  sm_bd (l2 + 1) fun x7 =>
  r6 l0 s0 x7 I
set_option maxRecDepth 100000 in
theorem AfM_next_J45 {dp : Nat} {P : am_Q} {nx : Nat} {sl : Nat} {r6 : Nat → Int32 → Int32 → am_M → Option (Int32 × am_M)} (hr6 : ∀ (l0 : Nat) (l1 : Int32) (l2 : Int32) (I : am_M), sm (dp + 1) am_d204 6 [some (.inr l0), some (.inl l1), some (.inl l2)] [] (I, P, nx, sl) (sm_g1 P nx sl) (r6 l0 l1 l2 I)) (l0 : Nat) (l2 : Int32) (s0 : Int32) (I : am_M) (o1 : Option am_V) : sm (dp + 1) am_d204 45 [some (.inr l0), o1, some (.inl l2)] [.inl s0] (I, P, nx, sl) (sm_g1 P nx sl) (fM_next_J45 P r6 l0 l2 s0 I) := by
  unfold fM_next_J45
  refine r_istore (ls' := [some (.inr l0), some (.inl s0), some (.inl l2)]) rfl (Nat.le_of_ble_eq_true rfl) rfl ?_
  refine r_iinc (e := l2 + 1) (ls' := fun x7 => [some (.inr l0), some (.inl s0), some (.inl x7)]) rfl rfl rfl (fun _ => rfl) (fun x7 => ?_)
  refine r_goto rfl ?_
  exact hr6 l0 s0 x7 I
noncomputable def fM_next_B6 (P : am_Q) (e6_52 : Nat → Int32 → am_M → Option (Int32 × am_M)) (r6 : Nat → Int32 → Int32 → am_M → Option (Int32 × am_M)) (l0 : Nat) (l1 : Int32) (l2 : Int32) (I : am_M) : Option (Int32 × am_M) :=
  sm_ck (am_t l0 = 13) <|
  sm_ck (sm_in (P l0 1) 2) <|
  if (I (P l0 1) (2 : Int32).toNatClampNeg) ≤ l2 then
    (e6_52 l0 l1 I)
  else
    (sm_ck (sm_in (P l0 23) l2) <|
    sm_ck (sm_in (P l0 1) 3) <|
    if (I (P l0 23) l2.toNatClampNeg) < (I (P l0 1) (3 : Int32).toNatClampNeg) then
      (fM_next_J45 P r6 l0 l2 l1 I)
    else
      (sm_ck (sm_in (P l0 23) l2) <|
      Option.bind (fM_lesser l1 (I (P l0 23) l2.toNatClampNeg)) fun y9 =>
      fM_next_J45 P r6 l0 l2 y9 I))
set_option maxRecDepth 100000 in
theorem AfM_next_B6 {dp : Nat} {P : am_Q} {nx : Nat} {sl : Nat} {e6_52 : Nat → Int32 → am_M → Option (Int32 × am_M)} {r6 : Nat → Int32 → Int32 → am_M → Option (Int32 × am_M)} (he6_52 : ∀ (l0 : Nat) (l1 : Int32) (I : am_M) (o2 : Option am_V), sm (dp + 1) am_d204 52 [some (.inr l0), some (.inl l1), o2] [] (I, P, nx, sl) (sm_g1 P nx sl) (e6_52 l0 l1 I)) (hr6 : ∀ (l0 : Nat) (l1 : Int32) (l2 : Int32) (I : am_M), sm (dp + 1) am_d204 6 [some (.inr l0), some (.inl l1), some (.inl l2)] [] (I, P, nx, sl) (sm_g1 P nx sl) (r6 l0 l1 l2 I)) (l0 : Nat) (l1 : Int32) (l2 : Int32) (I : am_M) : sm (dp + 1) am_d204 6 [some (.inr l0), some (.inl l1), some (.inl l2)] [] (I, P, nx, sl) (sm_g1 P nx sl) (fM_next_B6 P e6_52 r6 l0 l1 l2 I) := by
  unfold fM_next_B6
  refine r_iload rfl rfl ?_
  refine r_ck (fun h1 => ?_)
  refine r_aload rfl rfl (am_nz h1) ?_
  refine r_getP rfl h1 ?_
  refine r_const (x := 2) rfl rfl ?_
  refine r_ck (fun h2 => ?_)
  refine r_iald rfl h2 ?_
  refine r_icmp rfl rfl (fun c3 => ?_) (fun c3 => ?_)
  · exact he6_52 l0 l1 I (some (.inl l2))
  · refine r_aload rfl rfl (am_nz h1) ?_
    refine r_getP rfl h1 ?_
    refine r_iload rfl rfl ?_
    refine r_ck (fun h4 => ?_)
    refine r_iald rfl h4 ?_
    refine r_aload rfl rfl (am_nz h1) ?_
    refine r_getP rfl h1 ?_
    refine r_const (x := 3) rfl rfl ?_
    refine r_ck (fun h5 => ?_)
    refine r_iald rfl h5 ?_
    refine r_icmp rfl rfl (fun c6 => ?_) (fun c6 => ?_)
    · refine r_iload rfl rfl ?_
      exact AfM_next_J45 hr6 l0 l2 l1 I (some (.inl l1))
    · refine r_iload rfl rfl ?_
      refine r_aload rfl rfl (am_nz h1) ?_
      refine r_getP rfl h1 ?_
      refine r_iload rfl rfl ?_
      refine r_ck (fun h8 => ?_)
      refine r_iald rfl h8 ?_
      refine r_call0 rfl rfl trivial (fun y hy => AfM_lesser (dp := dp + 0) hy) (fun y9 => ?_)
      refine r_goto rfl ?_
      exact AfM_next_J45 hr6 l0 l2 y9 I (some (.inl l1))
noncomputable def fM_next_L6 (P : am_Q) (e6_52 : Nat → Int32 → am_M → Option (Int32 × am_M)) : Nat → Nat → Int32 → Int32 → am_M → Option (Int32 × am_M)
  | 0, _, _, _, _ => none
  | n + 1, l0, l1, l2, I => fM_next_B6 P e6_52 (fM_next_L6 P e6_52 n) l0 l1 l2 I
theorem AfM_next_L6 {dp : Nat} {P : am_Q} {nx : Nat} {sl : Nat} {e6_52 : Nat → Int32 → am_M → Option (Int32 × am_M)} (he6_52 : ∀ (l0 : Nat) (l1 : Int32) (I : am_M) (o2 : Option am_V), sm (dp + 1) am_d204 52 [some (.inr l0), some (.inl l1), o2] [] (I, P, nx, sl) (sm_g1 P nx sl) (e6_52 l0 l1 I)) (n : Nat) : ∀ (l0 : Nat) (l1 : Int32) (l2 : Int32) (I : am_M), sm (dp + 1) am_d204 6 [some (.inr l0), some (.inl l1), some (.inl l2)] [] (I, P, nx, sl) (sm_g1 P nx sl) (fM_next_L6 P e6_52 n l0 l1 l2 I) := by
  induction n with
  | zero => intro l0 l1 l2 I; exact sm_none
  | succ n ih => intro l0 l1 l2 I; exact AfM_next_B6 he6_52 ih l0 l1 l2 I
noncomputable def fM_next (P : am_Q) (l0 : Nat) (I : am_M) : Option (Int32 × am_M) :=
  fM_next_L6 P (fun l0 l1 I =>
      if ¬ l1 = 1000 then
        (some (l1, I))
      else
        (sm_ck (am_t l0 = 13) <|
        Option.bind (fM_finds P l0 ((-1000004)) I) fun y12 =>
        some (y12.1, y12.2))) sm_fu l0 1000 0 I
set_option maxRecDepth 100000 in
theorem AfM_next {dp : Nat} {P : am_Q} {nx : Nat} {sl : Nat} {I : am_M} {l0 : Nat} {y : Int32 × am_M} (hy : fM_next P l0 I = some y) : sm_T (dp + 2) 204 [.inr l0] (I, P, nx, sl) ((sm_g1 P nx sl) y) := by
  refine r_meth (d := am_d204) (dp := dp + 1) (ls0 := [some (.inr l0), none, none]) rfl (by decide) rfl rfl ?_ hy
  unfold fM_next
  refine r_const (x := 1000) rfl rfl ?_
  refine r_istore (ls' := [some (.inr l0), some (.inl 1000), none]) rfl (Nat.le_of_ble_eq_true rfl) rfl ?_
  refine r_const (x := 0) rfl rfl ?_
  refine r_istore (ls' := [some (.inr l0), some (.inl 1000), some (.inl 0)]) rfl (Nat.le_of_ble_eq_true rfl) rfl ?_
  refine AfM_next_L6 ?_ sm_fu l0 1000 0 I
  · intro l0 l1 I o2
    refine r_iload rfl rfl ?_
    refine r_const (x := 1000) rfl rfl ?_
    refine r_icmp rfl rfl (fun c10 => ?_) (fun c10 => ?_)
    · refine r_iload rfl rfl ?_
      exact r_ireturn rfl (Or.inl rfl) rfl
    · refine r_ck (fun h11 => ?_)
      refine r_aload rfl rfl (am_nz h11) ?_
      refine r_const (x := (-1000004)) rfl rfl ?_
      refine r_call1 rfl rfl h11 (fun y hy => AfM_finds (dp := dp + 0) hy) (fun y12 => ?_)
      refine r_goto rfl ?_
      exact r_ireturn rfl (Or.inl rfl) rfl
noncomputable def fM_left (P : am_Q) (l0 : Nat) (l1 : Int32) (I : am_M) : Option (Int32 × am_M) :=
  Option.bind (fM_within l1 0 1) fun y1 =>
  if ¬ y1 = 0 then
    (sm_ck (am_t l0 = 13) <|
    sm_ck (sm_in (P l0 1) 7) <|
    if 0 ≤ (I (P l0 1) (7 : Int32).toNatClampNeg) then
      (sm_ck (sm_in (P l0 1) (7 + l1)) <|
      some (I (P l0 1) (7 + l1).toNatClampNeg, I))
    else
      (Option.bind (fM_finds P l0 ((-1000004)) I) fun y7 =>
      some (y7.1, y7.2)))
  else
    (sm_ck (am_t l0 = 13) <|
    Option.bind (fM_finds P l0 ((-1000001)) I) fun y9 =>
    some (y9.1, y9.2))
set_option maxRecDepth 100000 in
theorem AfM_left {dp : Nat} {P : am_Q} {nx : Nat} {sl : Nat} {I : am_M} {l0 : Nat} {l1 : Int32} {y : Int32 × am_M} (hy : fM_left P l0 l1 I = some y) : sm_T (dp + 2) 205 [.inr l0, .inl l1] (I, P, nx, sl) ((sm_g1 P nx sl) y) := by
  refine r_meth (d := am_d205) (dp := dp + 1) (ls0 := [some (.inr l0), some (.inl l1)]) rfl (by decide) rfl rfl ?_ hy
  unfold fM_left
  refine r_iload rfl rfl ?_
  refine r_const (x := 0) rfl rfl ?_
  refine r_const (x := 1) rfl rfl ?_
  refine r_call0 rfl rfl trivial (fun y hy => AfM_within (dp := dp + 0) hy) (fun y1 => ?_)
  refine r_if rfl rfl (fun c2 => ?_) (fun c2 => ?_)
  · refine r_ck (fun h3 => ?_)
    refine r_aload rfl rfl (am_nz h3) ?_
    refine r_getP rfl h3 ?_
    refine r_const (x := 7) rfl rfl ?_
    refine r_ck (fun h4 => ?_)
    refine r_iald rfl h4 ?_
    refine r_if rfl rfl (fun c5 => ?_) (fun c5 => ?_)
    · refine r_aload rfl rfl (am_nz h3) ?_
      refine r_getP rfl h3 ?_
      refine r_const (x := 7) rfl rfl ?_
      refine r_iload rfl rfl ?_
      refine r_bin (z := 7 + l1) rfl rfl (by decide) ?_
      refine r_ck (fun h6 => ?_)
      refine r_iald rfl h6 ?_
      exact r_ireturn rfl (Or.inl rfl) rfl
    · refine r_aload rfl rfl (am_nz h3) ?_
      refine r_const (x := (-1000004)) rfl rfl ?_
      refine r_call1 rfl rfl h3 (fun y hy => AfM_finds (dp := dp + 0) hy) (fun y7 => ?_)
      refine r_goto rfl ?_
      exact r_ireturn rfl (Or.inl rfl) rfl
  · refine r_ck (fun h8 => ?_)
    refine r_aload rfl rfl (am_nz h8) ?_
    refine r_const (x := (-1000001)) rfl rfl ?_
    refine r_call1 rfl rfl h8 (fun y hy => AfM_finds (dp := dp + 0) hy) (fun y9 => ?_)
    exact r_ireturn rfl (Or.inl rfl) rfl
noncomputable def fM_offBy (l0 : Nat) (I : am_M) (P : am_Q) (nx : Nat) (sl : Nat) : Option (Int32 × am_S) :=
  sm_ck (am_t l0 = 13) <|
  Option.bind (fM_copiesAll P l0 8 1 I) fun y2 =>
  Option.bind (fM_hour l0 y2 P nx sl) fun y3 =>
  sm_bd (y3.1 l0 50) fun x4 =>
  Option.bind (fM_copiesAll y3.2.1 l0 8 0 y3.1) fun y5 =>
  some (x4, y5, y3.2.1, y3.2.2.1, y3.2.2.2)
set_option maxRecDepth 100000 in
theorem AfM_offBy {dp : Nat}  {I : am_M} {P : am_Q} {nx : Nat} {sl : Nat} {l0 : Nat} {y : Int32 × am_S} (hy : fM_offBy l0 I P nx sl = some y) : sm_T (dp + 6) 207 [.inr l0] (I, P, nx, sl) (sm_g3 y) := by
  refine r_meth (d := am_d207) (dp := dp + 5) (ls0 := [some (.inr l0), none]) rfl (by decide) rfl rfl ?_ hy
  unfold fM_offBy
  refine r_ck (fun h1 => ?_)
  refine r_aload rfl rfl (am_nz h1) ?_
  refine r_const (x := 8) rfl rfl ?_
  refine r_const (x := 1) rfl rfl ?_
  refine r_call2 rfl rfl h1 (fun y hy => AfM_copiesAll (dp := dp + 3) hy) (fun y2 => ?_)
  refine r_aload rfl rfl (am_nz h1) ?_
  refine r_call4 rfl rfl h1 (fun y hy => AfM_hour (dp := dp + 0) hy) (fun y3 => ?_)
  refine r_aload rfl rfl (am_nz h1) ?_
  refine r_getI rfl h1 ?_
  refine r_bd (fun x4 => ?_)
  refine r_istore (ls' := [some (.inr l0), some (.inl x4)]) rfl (Nat.le_of_ble_eq_true rfl) rfl ?_
  refine r_aload rfl rfl (am_nz h1) ?_
  refine r_const (x := 8) rfl rfl ?_
  refine r_const (x := 0) rfl rfl ?_
  refine r_call2 rfl rfl h1 (fun y hy => AfM_copiesAll (dp := dp + 3) hy) (fun y5 => ?_)
  refine r_iload rfl rfl ?_
  exact r_ireturn rfl (Or.inl rfl) rfl
noncomputable def fM_off (l0 : Nat) (I : am_M) (P : am_Q) (nx : Nat) (sl : Nat) : Option (Int32 × am_S) :=
  sm_ck (am_t l0 = 13) <|
  Option.bind (fM_offBy l0 I P nx sl) fun y2 =>
  some (y2.1, y2.2.1, y2.2.2.1, y2.2.2.2.1, y2.2.2.2.2)
set_option maxRecDepth 100000 in
theorem AfM_off {dp : Nat}  {I : am_M} {P : am_Q} {nx : Nat} {sl : Nat} {l0 : Nat} {y : Int32 × am_S} (hy : fM_off l0 I P nx sl = some y) : sm_T (dp + 7) 206 [.inr l0] (I, P, nx, sl) (sm_g3 y) := by
  refine r_meth (d := am_d206) (dp := dp + 6) (ls0 := [some (.inr l0)]) rfl (by decide) rfl rfl ?_ hy
  unfold fM_off
  refine r_ck (fun h1 => ?_)
  refine r_aload rfl rfl (am_nz h1) ?_
  refine r_call3 rfl rfl h1 (fun y hy => AfM_offBy (dp := dp + 0) hy) (fun y2 => ?_)
  exact r_ireturn rfl (Or.inl rfl) rfl
noncomputable def fM_endOf_B6 (P : am_Q) (e6_24 : Nat → Int32 → Int32 → am_M → Option (Int32 × am_M)) (r6 : Nat → Int32 → Int32 → Int32 → am_M → Option (Int32 × am_M)) (l0 : Nat) (l1 : Int32) (l2 : Int32) (l3 : Int32) (I : am_M) : Option (Int32 × am_M) :=
  if 3 ≤ l3 then
    (e6_24 l0 l1 l2 I)
  else
    (sm_ck (am_t l0 = 13) <|
    sm_ck (sm_iw (P l0 56) l3) <|
    sm_bd (am_up I (P l0 56) l3.toNatClampNeg 0) fun I4 =>
    sm_bd (l3 + 1) fun x5 =>
    r6 l0 l1 l2 x5 I4)
set_option maxRecDepth 100000 in
theorem AfM_endOf_B6 {dp : Nat} {P : am_Q} {nx : Nat} {sl : Nat} {e6_24 : Nat → Int32 → Int32 → am_M → Option (Int32 × am_M)} {r6 : Nat → Int32 → Int32 → Int32 → am_M → Option (Int32 × am_M)} (he6_24 : ∀ (l0 : Nat) (l1 : Int32) (l2 : Int32) (I : am_M) (o3 : Option am_V) (o4 : Option am_V) (o5 : Option am_V) (o6 : Option am_V) (o7 : Option am_V), sm (dp + 0) am_d211 24 [some (.inr l0), some (.inl l1), some (.inl l2), o3, o4, o5, o6, o7] [] (I, P, nx, sl) (sm_g1 P nx sl) (e6_24 l0 l1 l2 I)) (hr6 : ∀ (l0 : Nat) (l1 : Int32) (l2 : Int32) (l3 : Int32) (I : am_M) (o4 : Option am_V) (o5 : Option am_V) (o6 : Option am_V) (o7 : Option am_V), sm (dp + 0) am_d211 6 [some (.inr l0), some (.inl l1), some (.inl l2), some (.inl l3), o4, o5, o6, o7] [] (I, P, nx, sl) (sm_g1 P nx sl) (r6 l0 l1 l2 l3 I)) (l0 : Nat) (l1 : Int32) (l2 : Int32) (l3 : Int32) (I : am_M) (o4 : Option am_V) (o5 : Option am_V) (o6 : Option am_V) (o7 : Option am_V) : sm (dp + 0) am_d211 6 [some (.inr l0), some (.inl l1), some (.inl l2), some (.inl l3), o4, o5, o6, o7] [] (I, P, nx, sl) (sm_g1 P nx sl) (fM_endOf_B6 P e6_24 r6 l0 l1 l2 l3 I) := by
  unfold fM_endOf_B6
  refine r_iload rfl rfl ?_
  refine r_const (x := 3) rfl rfl ?_
  refine r_icmp rfl rfl (fun c1 => ?_) (fun c1 => ?_)
  · exact he6_24 l0 l1 l2 I (some (.inl l3)) o4 o5 o6 o7
  · refine r_ck (fun h2 => ?_)
    refine r_aload rfl rfl (am_nz h2) ?_
    refine r_getP rfl h2 ?_
    refine r_iload rfl rfl ?_
    refine r_const (x := 0) rfl rfl ?_
    refine r_ck (fun h3 => ?_)
    refine r_iast rfl h3 (fun I4 => ?_)
    refine r_iinc (e := l3 + 1) (ls' := fun x5 => [some (.inr l0), some (.inl l1), some (.inl l2), some (.inl x5), o4, o5, o6, o7]) rfl rfl rfl (fun _ => rfl) (fun x5 => ?_)
    refine r_goto rfl ?_
    exact hr6 l0 l1 l2 x5 I4 o4 o5 o6 o7
noncomputable def fM_endOf_L6 (P : am_Q) (e6_24 : Nat → Int32 → Int32 → am_M → Option (Int32 × am_M)) : Nat → Nat → Int32 → Int32 → Int32 → am_M → Option (Int32 × am_M)
  | 0, _, _, _, _, _ => none
  | n + 1, l0, l1, l2, l3, I => fM_endOf_B6 P e6_24 (fM_endOf_L6 P e6_24 n) l0 l1 l2 l3 I
theorem AfM_endOf_L6 {dp : Nat} {P : am_Q} {nx : Nat} {sl : Nat} {e6_24 : Nat → Int32 → Int32 → am_M → Option (Int32 × am_M)} (he6_24 : ∀ (l0 : Nat) (l1 : Int32) (l2 : Int32) (I : am_M) (o3 : Option am_V) (o4 : Option am_V) (o5 : Option am_V) (o6 : Option am_V) (o7 : Option am_V), sm (dp + 0) am_d211 24 [some (.inr l0), some (.inl l1), some (.inl l2), o3, o4, o5, o6, o7] [] (I, P, nx, sl) (sm_g1 P nx sl) (e6_24 l0 l1 l2 I)) (n : Nat) : ∀ (l0 : Nat) (l1 : Int32) (l2 : Int32) (l3 : Int32) (I : am_M) (o4 : Option am_V) (o5 : Option am_V) (o6 : Option am_V) (o7 : Option am_V), sm (dp + 0) am_d211 6 [some (.inr l0), some (.inl l1), some (.inl l2), some (.inl l3), o4, o5, o6, o7] [] (I, P, nx, sl) (sm_g1 P nx sl) (fM_endOf_L6 P e6_24 n l0 l1 l2 l3 I) := by
  induction n with
  | zero => intro l0 l1 l2 l3 I o4 o5 o6 o7; exact sm_none
  | succ n ih => intro l0 l1 l2 l3 I o4 o5 o6 o7; exact AfM_endOf_B6 he6_24 ih l0 l1 l2 l3 I o4 o5 o6 o7
noncomputable def fM_endOf_J130 (P : am_Q) (r61 : Nat → Int32 → Int32 → Int32 → Int32 → Int32 → Int32 → am_M → Option (Int32 × am_M)) (l0 : Nat) (l1 : Int32) (l2 : Int32) (l3 : Int32) (l4 : Int32) (l5 : Int32) (l6 : Int32) (I : am_M) : Option (Int32 × am_M) :=
  sm_bd (l6 + 1) fun x21 =>
  r61 l0 l1 l2 l3 l4 l5 x21 I
set_option maxRecDepth 100000 in
theorem AfM_endOf_J130 {dp : Nat} {P : am_Q} {nx : Nat} {sl : Nat} {r61 : Nat → Int32 → Int32 → Int32 → Int32 → Int32 → Int32 → am_M → Option (Int32 × am_M)} (hr61 : ∀ (l0 : Nat) (l1 : Int32) (l2 : Int32) (l3 : Int32) (l4 : Int32) (l5 : Int32) (l6 : Int32) (I : am_M) (o7 : Option am_V), sm (dp + 0) am_d211 61 [some (.inr l0), some (.inl l1), some (.inl l2), some (.inl l3), some (.inl l4), some (.inl l5), some (.inl l6), o7] [] (I, P, nx, sl) (sm_g1 P nx sl) (r61 l0 l1 l2 l3 l4 l5 l6 I)) (l0 : Nat) (l1 : Int32) (l2 : Int32) (l3 : Int32) (l4 : Int32) (l5 : Int32) (l6 : Int32) (I : am_M) (o7 : Option am_V) : sm (dp + 0) am_d211 130 [some (.inr l0), some (.inl l1), some (.inl l2), some (.inl l3), some (.inl l4), some (.inl l5), some (.inl l6), o7] [] (I, P, nx, sl) (sm_g1 P nx sl) (fM_endOf_J130 P r61 l0 l1 l2 l3 l4 l5 l6 I) := by
  unfold fM_endOf_J130
  refine r_iinc (e := l6 + 1) (ls' := fun x21 => [some (.inr l0), some (.inl l1), some (.inl l2), some (.inl l3), some (.inl l4), some (.inl l5), some (.inl x21), o7]) rfl rfl rfl (fun _ => rfl) (fun x21 => ?_)
  refine r_goto rfl ?_
  exact hr61 l0 l1 l2 l3 l4 l5 x21 I o7
noncomputable def fM_endOf_B61 (P : am_Q) (e61_136 : Nat → Int32 → Int32 → Int32 → Int32 → Int32 → am_M → Option (Int32 × am_M)) (r61 : Nat → Int32 → Int32 → Int32 → Int32 → Int32 → Int32 → am_M → Option (Int32 × am_M)) (l0 : Nat) (l1 : Int32) (l2 : Int32) (l3 : Int32) (l4 : Int32) (l5 : Int32) (l6 : Int32) (I : am_M) : Option (Int32 × am_M) :=
  sm_ck (am_t l0 = 13) <|
  sm_ck (sm_in (P l0 1) 1) <|
  if (I (P l0 1) (1 : Int32).toNatClampNeg) ≤ l6 then
    (e61_136 l0 l1 l2 l3 l4 l5 I)
  else
    (sm_ck (sm_in (P l0 15) l6) <|
    sm_bd ((I (P l0 15) l6.toNatClampNeg) / 10) fun x18 =>
    sm_ck (sm_in (P l0 16) l6) <|
    if ¬ ((I (P l0 16) l6.toNatClampNeg) / 10) = l4 then
      (fM_endOf_J130 P r61 l0 l1 l2 l3 l4 l5 l6 I)
    else
      (if ¬ ((sm_shr l2 x18) &&& 1) = 1 then
        (fM_endOf_J130 P r61 l0 l1 l2 l3 l4 l5 l6 I)
      else
        (sm_ck (sm_in (P l0 57) x18) <|
        if (I (P l0 57) x18.toNatClampNeg) ≤ l5 then
          (fM_endOf_J130 P r61 l0 l1 l2 l3 l4 l5 l6 I)
        else
          (sm_ck (sm_in (P l0 57) x18) <|
          sm_bd (I (P l0 57) x18.toNatClampNeg) fun x26 =>
          fM_endOf_J130 P r61 l0 l1 l2 l3 l4 x26 l6 I))))
set_option maxRecDepth 100000 in
theorem AfM_endOf_B61 {dp : Nat} {P : am_Q} {nx : Nat} {sl : Nat} {e61_136 : Nat → Int32 → Int32 → Int32 → Int32 → Int32 → am_M → Option (Int32 × am_M)} {r61 : Nat → Int32 → Int32 → Int32 → Int32 → Int32 → Int32 → am_M → Option (Int32 × am_M)} (he61_136 : ∀ (l0 : Nat) (l1 : Int32) (l2 : Int32) (l3 : Int32) (l4 : Int32) (l5 : Int32) (I : am_M) (o6 : Option am_V) (o7 : Option am_V), sm (dp + 0) am_d211 136 [some (.inr l0), some (.inl l1), some (.inl l2), some (.inl l3), some (.inl l4), some (.inl l5), o6, o7] [] (I, P, nx, sl) (sm_g1 P nx sl) (e61_136 l0 l1 l2 l3 l4 l5 I)) (hr61 : ∀ (l0 : Nat) (l1 : Int32) (l2 : Int32) (l3 : Int32) (l4 : Int32) (l5 : Int32) (l6 : Int32) (I : am_M) (o7 : Option am_V), sm (dp + 0) am_d211 61 [some (.inr l0), some (.inl l1), some (.inl l2), some (.inl l3), some (.inl l4), some (.inl l5), some (.inl l6), o7] [] (I, P, nx, sl) (sm_g1 P nx sl) (r61 l0 l1 l2 l3 l4 l5 l6 I)) (l0 : Nat) (l1 : Int32) (l2 : Int32) (l3 : Int32) (l4 : Int32) (l5 : Int32) (l6 : Int32) (I : am_M) (o7 : Option am_V) : sm (dp + 0) am_d211 61 [some (.inr l0), some (.inl l1), some (.inl l2), some (.inl l3), some (.inl l4), some (.inl l5), some (.inl l6), o7] [] (I, P, nx, sl) (sm_g1 P nx sl) (fM_endOf_B61 P e61_136 r61 l0 l1 l2 l3 l4 l5 l6 I) := by
  unfold fM_endOf_B61
  refine r_iload rfl rfl ?_
  refine r_ck (fun h14 => ?_)
  refine r_aload rfl rfl (am_nz h14) ?_
  refine r_getP rfl h14 ?_
  refine r_const (x := 1) rfl rfl ?_
  refine r_ck (fun h15 => ?_)
  refine r_iald rfl h15 ?_
  refine r_icmp rfl rfl (fun c16 => ?_) (fun c16 => ?_)
  · exact he61_136 l0 l1 l2 l3 l4 l5 I (some (.inl l6)) o7
  · refine r_aload rfl rfl (am_nz h14) ?_
    refine r_getP rfl h14 ?_
    refine r_iload rfl rfl ?_
    refine r_ck (fun h17 => ?_)
    refine r_iald rfl h17 ?_
    refine r_const (x := 10) rfl rfl ?_
    refine r_bin (z := (I (P l0 15) l6.toNatClampNeg) / 10) rfl (sm_dv (by decide)) (by decide) ?_
    refine r_bd (fun x18 => ?_)
    refine r_istore (ls' := [some (.inr l0), some (.inl l1), some (.inl l2), some (.inl l3), some (.inl l4), some (.inl l5), some (.inl l6), some (.inl x18)]) rfl (Nat.le_of_ble_eq_true rfl) rfl ?_
    refine r_aload rfl rfl (am_nz h14) ?_
    refine r_getP rfl h14 ?_
    refine r_iload rfl rfl ?_
    refine r_ck (fun h19 => ?_)
    refine r_iald rfl h19 ?_
    refine r_const (x := 10) rfl rfl ?_
    refine r_bin (z := (I (P l0 16) l6.toNatClampNeg) / 10) rfl (sm_dv (by decide)) (by decide) ?_
    refine r_iload rfl rfl ?_
    refine r_icmp rfl rfl (fun c20 => ?_) (fun c20 => ?_)
    · exact AfM_endOf_J130 hr61 l0 l1 l2 l3 l4 l5 l6 I (some (.inl x18))
    · refine r_iload rfl rfl ?_
      refine r_iload rfl rfl ?_
      refine r_bin (z := sm_shr l2 x18) rfl rfl (by decide) ?_
      refine r_const (x := 1) rfl rfl ?_
      refine r_bin (z := (sm_shr l2 x18) &&& 1) rfl rfl (by decide) ?_
      refine r_const (x := 1) rfl rfl ?_
      refine r_icmp rfl rfl (fun c22 => ?_) (fun c22 => ?_)
      · exact AfM_endOf_J130 hr61 l0 l1 l2 l3 l4 l5 l6 I (some (.inl x18))
      · refine r_aload rfl rfl (am_nz h14) ?_
        refine r_getP rfl h14 ?_
        refine r_iload rfl rfl ?_
        refine r_ck (fun h23 => ?_)
        refine r_iald rfl h23 ?_
        refine r_iload rfl rfl ?_
        refine r_icmp rfl rfl (fun c24 => ?_) (fun c24 => ?_)
        · exact AfM_endOf_J130 hr61 l0 l1 l2 l3 l4 l5 l6 I (some (.inl x18))
        · refine r_aload rfl rfl (am_nz h14) ?_
          refine r_getP rfl h14 ?_
          refine r_iload rfl rfl ?_
          refine r_ck (fun h25 => ?_)
          refine r_iald rfl h25 ?_
          refine r_bd (fun x26 => ?_)
          refine r_istore (ls' := [some (.inr l0), some (.inl l1), some (.inl l2), some (.inl l3), some (.inl l4), some (.inl x26), some (.inl l6), some (.inl x18)]) rfl (Nat.le_of_ble_eq_true rfl) rfl ?_
          exact AfM_endOf_J130 hr61 l0 l1 l2 l3 l4 x26 l6 I (some (.inl x18))
noncomputable def fM_endOf_L61 (P : am_Q) (e61_136 : Nat → Int32 → Int32 → Int32 → Int32 → Int32 → am_M → Option (Int32 × am_M)) : Nat → Nat → Int32 → Int32 → Int32 → Int32 → Int32 → Int32 → am_M → Option (Int32 × am_M)
  | 0, _, _, _, _, _, _, _, _ => none
  | n + 1, l0, l1, l2, l3, l4, l5, l6, I => fM_endOf_B61 P e61_136 (fM_endOf_L61 P e61_136 n) l0 l1 l2 l3 l4 l5 l6 I
theorem AfM_endOf_L61 {dp : Nat} {P : am_Q} {nx : Nat} {sl : Nat} {e61_136 : Nat → Int32 → Int32 → Int32 → Int32 → Int32 → am_M → Option (Int32 × am_M)} (he61_136 : ∀ (l0 : Nat) (l1 : Int32) (l2 : Int32) (l3 : Int32) (l4 : Int32) (l5 : Int32) (I : am_M) (o6 : Option am_V) (o7 : Option am_V), sm (dp + 0) am_d211 136 [some (.inr l0), some (.inl l1), some (.inl l2), some (.inl l3), some (.inl l4), some (.inl l5), o6, o7] [] (I, P, nx, sl) (sm_g1 P nx sl) (e61_136 l0 l1 l2 l3 l4 l5 I)) (n : Nat) : ∀ (l0 : Nat) (l1 : Int32) (l2 : Int32) (l3 : Int32) (l4 : Int32) (l5 : Int32) (l6 : Int32) (I : am_M) (o7 : Option am_V), sm (dp + 0) am_d211 61 [some (.inr l0), some (.inl l1), some (.inl l2), some (.inl l3), some (.inl l4), some (.inl l5), some (.inl l6), o7] [] (I, P, nx, sl) (sm_g1 P nx sl) (fM_endOf_L61 P e61_136 n l0 l1 l2 l3 l4 l5 l6 I) := by
  induction n with
  | zero => intro l0 l1 l2 l3 l4 l5 l6 I o7; exact sm_none
  | succ n ih => intro l0 l1 l2 l3 l4 l5 l6 I o7; exact AfM_endOf_B61 he61_136 ih l0 l1 l2 l3 l4 l5 l6 I o7
noncomputable def fM_endOf_J194 (P : am_Q) (r26 : Nat → Int32 → Int32 → Int32 → am_M → Option (Int32 × am_M)) (l0 : Nat) (l2 : Int32) (l3 : Int32) (l4 : Int32) (s0 : Int32) (I : am_M) : Option (Int32 × am_M) :=
  sm_bd (l2 ||| (sm_shl 1 l4)) fun x37 =>
  sm_bd (l3 + 1) fun x38 =>
  r26 l0 s0 x37 x38 I
set_option maxRecDepth 100000 in
theorem AfM_endOf_J194 {dp : Nat} {P : am_Q} {nx : Nat} {sl : Nat} {r26 : Nat → Int32 → Int32 → Int32 → am_M → Option (Int32 × am_M)} (hr26 : ∀ (l0 : Nat) (l1 : Int32) (l2 : Int32) (l3 : Int32) (I : am_M) (o4 : Option am_V) (o5 : Option am_V) (o6 : Option am_V) (o7 : Option am_V), sm (dp + 0) am_d211 26 [some (.inr l0), some (.inl l1), some (.inl l2), some (.inl l3), o4, o5, o6, o7] [] (I, P, nx, sl) (sm_g1 P nx sl) (r26 l0 l1 l2 l3 I)) (l0 : Nat) (l2 : Int32) (l3 : Int32) (l4 : Int32) (s0 : Int32) (I : am_M) (o1 : Option am_V) (o5 : Option am_V) (o6 : Option am_V) (o7 : Option am_V) : sm (dp + 0) am_d211 194 [some (.inr l0), o1, some (.inl l2), some (.inl l3), some (.inl l4), o5, o6, o7] [.inl s0] (I, P, nx, sl) (sm_g1 P nx sl) (fM_endOf_J194 P r26 l0 l2 l3 l4 s0 I) := by
  unfold fM_endOf_J194
  refine r_istore (ls' := [some (.inr l0), some (.inl s0), some (.inl l2), some (.inl l3), some (.inl l4), o5, o6, o7]) rfl (Nat.le_of_ble_eq_true rfl) rfl ?_
  refine r_iload rfl rfl ?_
  refine r_const (x := 1) rfl rfl ?_
  refine r_iload rfl rfl ?_
  refine r_bin (z := sm_shl 1 l4) rfl rfl (by decide) ?_
  refine r_bin (z := l2 ||| (sm_shl 1 l4)) rfl rfl (by decide) ?_
  refine r_bd (fun x37 => ?_)
  refine r_istore (ls' := [some (.inr l0), some (.inl s0), some (.inl x37), some (.inl l3), some (.inl l4), o5, o6, o7]) rfl (Nat.le_of_ble_eq_true rfl) rfl ?_
  refine r_iinc (e := l3 + 1) (ls' := fun x38 => [some (.inr l0), some (.inl s0), some (.inl x37), some (.inl x38), some (.inl l4), o5, o6, o7]) rfl rfl rfl (fun _ => rfl) (fun x38 => ?_)
  refine r_goto rfl ?_
  exact hr26 l0 s0 x37 x38 I (some (.inl l4)) o5 o6 o7
noncomputable def fM_endOf_B26 (P : am_Q) (e26_208 : Int32 → am_M → Option (Int32 × am_M)) (r26 : Nat → Int32 → Int32 → Int32 → am_M → Option (Int32 × am_M)) (l0 : Nat) (l1 : Int32) (l2 : Int32) (l3 : Int32) (I : am_M) : Option (Int32 × am_M) :=
  sm_ck (am_t l0 = 13) <|
  sm_ck (sm_in (P l0 1) 0) <|
  if (I (P l0 1) (0 : Int32).toNatClampNeg) ≤ l3 then
    (e26_208 l1 I)
  else
    (sm_ck (sm_in (P l0 7) l3) <|
    sm_bd (I (P l0 7) l3.toNatClampNeg) fun x10 =>
    sm_ck (sm_in (P l0 54) x10) <|
    sm_ck (sm_in (P l0 56) (I (P l0 54) x10.toNatClampNeg)) <|
    sm_bd (I (P l0 56) (I (P l0 54) x10.toNatClampNeg).toNatClampNeg) fun x13 =>
    fM_endOf_L61 P (fun l0 l1 l2 l3 l4 l5 I =>
        sm_ck (am_t l0 = 13) <|
        sm_ck (sm_in (P l0 6) l4) <|
        sm_ck (sm_iw (P l0 57) l4) <|
        sm_bd (am_up I (P l0 57) l4.toNatClampNeg (l5 + (I (P l0 6) l4.toNatClampNeg))) fun I30 =>
        sm_ck (sm_in (P l0 54) l4) <|
        sm_ck (sm_in (P l0 57) l4) <|
        sm_ck (sm_iw (P l0 56) (I30 (P l0 54) l4.toNatClampNeg)) <|
        sm_bd (am_up I30 (P l0 56) (I30 (P l0 54) l4.toNatClampNeg).toNatClampNeg (I30 (P l0 57) l4.toNatClampNeg)) fun I34 =>
        sm_ck (sm_in (P l0 57) l4) <|
        if (I34 (P l0 57) l4.toNatClampNeg) ≤ l1 then
          (fM_endOf_J194 P r26 l0 l2 l3 l4 l1 I34)
        else
          (sm_ck (sm_in (P l0 57) l4) <|
          fM_endOf_J194 P r26 l0 l2 l3 l4 (I34 (P l0 57) l4.toNatClampNeg) I34)) sm_fu l0 l1 l2 l3 x10 x13 0 I)
set_option maxRecDepth 100000 in
theorem AfM_endOf_B26 {dp : Nat} {P : am_Q} {nx : Nat} {sl : Nat} {e26_208 : Int32 → am_M → Option (Int32 × am_M)} {r26 : Nat → Int32 → Int32 → Int32 → am_M → Option (Int32 × am_M)} (he26_208 : ∀ (l1 : Int32) (I : am_M) (o0 : Option am_V) (o2 : Option am_V) (o3 : Option am_V) (o4 : Option am_V) (o5 : Option am_V) (o6 : Option am_V) (o7 : Option am_V), sm (dp + 0) am_d211 208 [o0, some (.inl l1), o2, o3, o4, o5, o6, o7] [] (I, P, nx, sl) (sm_g1 P nx sl) (e26_208 l1 I)) (hr26 : ∀ (l0 : Nat) (l1 : Int32) (l2 : Int32) (l3 : Int32) (I : am_M) (o4 : Option am_V) (o5 : Option am_V) (o6 : Option am_V) (o7 : Option am_V), sm (dp + 0) am_d211 26 [some (.inr l0), some (.inl l1), some (.inl l2), some (.inl l3), o4, o5, o6, o7] [] (I, P, nx, sl) (sm_g1 P nx sl) (r26 l0 l1 l2 l3 I)) (l0 : Nat) (l1 : Int32) (l2 : Int32) (l3 : Int32) (I : am_M) (o4 : Option am_V) (o5 : Option am_V) (o6 : Option am_V) (o7 : Option am_V) : sm (dp + 0) am_d211 26 [some (.inr l0), some (.inl l1), some (.inl l2), some (.inl l3), o4, o5, o6, o7] [] (I, P, nx, sl) (sm_g1 P nx sl) (fM_endOf_B26 P e26_208 r26 l0 l1 l2 l3 I) := by
  unfold fM_endOf_B26
  refine r_iload rfl rfl ?_
  refine r_ck (fun h6 => ?_)
  refine r_aload rfl rfl (am_nz h6) ?_
  refine r_getP rfl h6 ?_
  refine r_const (x := 0) rfl rfl ?_
  refine r_ck (fun h7 => ?_)
  refine r_iald rfl h7 ?_
  refine r_icmp rfl rfl (fun c8 => ?_) (fun c8 => ?_)
  · exact he26_208 l1 I (some (.inr l0)) (some (.inl l2)) (some (.inl l3)) o4 o5 o6 o7
  · refine r_aload rfl rfl (am_nz h6) ?_
    refine r_getP rfl h6 ?_
    refine r_iload rfl rfl ?_
    refine r_ck (fun h9 => ?_)
    refine r_iald rfl h9 ?_
    refine r_bd (fun x10 => ?_)
    refine r_istore (ls' := [some (.inr l0), some (.inl l1), some (.inl l2), some (.inl l3), some (.inl x10), o5, o6, o7]) rfl (Nat.le_of_ble_eq_true rfl) rfl ?_
    refine r_aload rfl rfl (am_nz h6) ?_
    refine r_getP rfl h6 ?_
    refine r_aload rfl rfl (am_nz h6) ?_
    refine r_getP rfl h6 ?_
    refine r_iload rfl rfl ?_
    refine r_ck (fun h11 => ?_)
    refine r_iald rfl h11 ?_
    refine r_ck (fun h12 => ?_)
    refine r_iald rfl h12 ?_
    refine r_bd (fun x13 => ?_)
    refine r_istore (ls' := [some (.inr l0), some (.inl l1), some (.inl l2), some (.inl l3), some (.inl x10), some (.inl x13), o6, o7]) rfl (Nat.le_of_ble_eq_true rfl) rfl ?_
    refine r_const (x := 0) rfl rfl ?_
    refine r_istore (ls' := [some (.inr l0), some (.inl l1), some (.inl l2), some (.inl l3), some (.inl x10), some (.inl x13), some (.inl 0), o7]) rfl (Nat.le_of_ble_eq_true rfl) rfl ?_
    refine AfM_endOf_L61 ?_ sm_fu l0 l1 l2 l3 x10 x13 0 I o7
    · intro l0 l1 l2 l3 l4 l5 I o6 o7
      refine r_ck (fun h27 => ?_)
      refine r_aload rfl rfl (am_nz h27) ?_
      refine r_getP rfl h27 ?_
      refine r_iload rfl rfl ?_
      refine r_iload rfl rfl ?_
      refine r_aload rfl rfl (am_nz h27) ?_
      refine r_getP rfl h27 ?_
      refine r_iload rfl rfl ?_
      refine r_ck (fun h28 => ?_)
      refine r_iald rfl h28 ?_
      refine r_bin (z := l5 + (I (P l0 6) l4.toNatClampNeg)) rfl rfl (by decide) ?_
      refine r_ck (fun h29 => ?_)
      refine r_iast rfl h29 (fun I30 => ?_)
      refine r_aload rfl rfl (am_nz h27) ?_
      refine r_getP rfl h27 ?_
      refine r_aload rfl rfl (am_nz h27) ?_
      refine r_getP rfl h27 ?_
      refine r_iload rfl rfl ?_
      refine r_ck (fun h31 => ?_)
      refine r_iald rfl h31 ?_
      refine r_aload rfl rfl (am_nz h27) ?_
      refine r_getP rfl h27 ?_
      refine r_iload rfl rfl ?_
      refine r_ck (fun h32 => ?_)
      refine r_iald rfl h32 ?_
      refine r_ck (fun h33 => ?_)
      refine r_iast rfl h33 (fun I34 => ?_)
      refine r_aload rfl rfl (am_nz h27) ?_
      refine r_getP rfl h27 ?_
      refine r_iload rfl rfl ?_
      refine r_ck (fun h35 => ?_)
      refine r_iald rfl h35 ?_
      refine r_iload rfl rfl ?_
      refine r_icmp rfl rfl (fun c36 => ?_) (fun c36 => ?_)
      · refine r_iload rfl rfl ?_
        exact AfM_endOf_J194 hr26 l0 l2 l3 l4 l1 I34 (some (.inl l1)) (some (.inl l5)) o6 o7
      · refine r_aload rfl rfl (am_nz h27) ?_
        refine r_getP rfl h27 ?_
        refine r_iload rfl rfl ?_
        refine r_ck (fun h39 => ?_)
        refine r_iald rfl h39 ?_
        refine r_goto rfl ?_
        exact AfM_endOf_J194 hr26 l0 l2 l3 l4 (I34 (P l0 57) l4.toNatClampNeg) I34 (some (.inl l1)) (some (.inl l5)) o6 o7
noncomputable def fM_endOf_L26 (P : am_Q) (e26_208 : Int32 → am_M → Option (Int32 × am_M)) : Nat → Nat → Int32 → Int32 → Int32 → am_M → Option (Int32 × am_M)
  | 0, _, _, _, _, _ => none
  | n + 1, l0, l1, l2, l3, I => fM_endOf_B26 P e26_208 (fM_endOf_L26 P e26_208 n) l0 l1 l2 l3 I
theorem AfM_endOf_L26 {dp : Nat} {P : am_Q} {nx : Nat} {sl : Nat} {e26_208 : Int32 → am_M → Option (Int32 × am_M)} (he26_208 : ∀ (l1 : Int32) (I : am_M) (o0 : Option am_V) (o2 : Option am_V) (o3 : Option am_V) (o4 : Option am_V) (o5 : Option am_V) (o6 : Option am_V) (o7 : Option am_V), sm (dp + 0) am_d211 208 [o0, some (.inl l1), o2, o3, o4, o5, o6, o7] [] (I, P, nx, sl) (sm_g1 P nx sl) (e26_208 l1 I)) (n : Nat) : ∀ (l0 : Nat) (l1 : Int32) (l2 : Int32) (l3 : Int32) (I : am_M) (o4 : Option am_V) (o5 : Option am_V) (o6 : Option am_V) (o7 : Option am_V), sm (dp + 0) am_d211 26 [some (.inr l0), some (.inl l1), some (.inl l2), some (.inl l3), o4, o5, o6, o7] [] (I, P, nx, sl) (sm_g1 P nx sl) (fM_endOf_L26 P e26_208 n l0 l1 l2 l3 I) := by
  induction n with
  | zero => intro l0 l1 l2 l3 I o4 o5 o6 o7; exact sm_none
  | succ n ih => intro l0 l1 l2 l3 I o4 o5 o6 o7; exact AfM_endOf_B26 he26_208 ih l0 l1 l2 l3 I o4 o5 o6 o7
noncomputable def fM_endOf (P : am_Q) (l0 : Nat) (I : am_M) : Option (Int32 × am_M) :=
  fM_endOf_L6 P (fun l0 l1 l2 I =>
      fM_endOf_L26 P (fun l1 I =>
          some (l1, I)) sm_fu l0 l1 l2 0 I) sm_fu l0 0 0 0 I
set_option maxRecDepth 100000 in
theorem AfM_endOf {dp : Nat} {P : am_Q} {nx : Nat} {sl : Nat} {I : am_M} {l0 : Nat} {y : Int32 × am_M} (hy : fM_endOf P l0 I = some y) : sm_T (dp + 1) 211 [.inr l0] (I, P, nx, sl) ((sm_g1 P nx sl) y) := by
  refine r_meth (d := am_d211) (dp := dp + 0) (ls0 := [some (.inr l0), none, none, none, none, none, none, none]) rfl (by decide) rfl rfl ?_ hy
  unfold fM_endOf
  refine r_const (x := 0) rfl rfl ?_
  refine r_istore (ls' := [some (.inr l0), some (.inl 0), none, none, none, none, none, none]) rfl (Nat.le_of_ble_eq_true rfl) rfl ?_
  refine r_const (x := 0) rfl rfl ?_
  refine r_istore (ls' := [some (.inr l0), some (.inl 0), some (.inl 0), none, none, none, none, none]) rfl (Nat.le_of_ble_eq_true rfl) rfl ?_
  refine r_const (x := 0) rfl rfl ?_
  refine r_istore (ls' := [some (.inr l0), some (.inl 0), some (.inl 0), some (.inl 0), none, none, none, none]) rfl (Nat.le_of_ble_eq_true rfl) rfl ?_
  refine AfM_endOf_L6 ?_ sm_fu l0 0 0 0 I none none none none
  · intro l0 l1 l2 I o3 o4 o5 o6 o7
    refine r_const (x := 0) rfl rfl ?_
    refine r_istore (ls' := [some (.inr l0), some (.inl l1), some (.inl l2), some (.inl 0), o4, o5, o6, o7]) rfl (Nat.le_of_ble_eq_true rfl) rfl ?_
    refine AfM_endOf_L26 ?_ sm_fu l0 l1 l2 0 I o4 o5 o6 o7
    · intro l1 I o0 o2 o3 o4 o5 o6 o7
      refine r_iload rfl rfl ?_
      exact r_ireturn rfl (Or.inl rfl) rfl
noncomputable def fM_end_B65 (P : am_Q) (e65_96 : Nat → am_M → Option (Int32 × am_M)) (e65_126 : Nat → am_M → Option (Int32 × am_M)) (r65 : Nat → Int32 → Int32 → Int32 → am_M → Option (Int32 × am_M)) (l0 : Nat) (l1 : Int32) (l2 : Int32) (l3 : Int32) (I : am_M) : Option (Int32 × am_M) :=
  sm_ck (am_t l0 = 13) <|
  sm_ck (sm_in (P l0 48) l2) <|
  if (I (P l0 48) l2.toNatClampNeg) ≤ l3 then
    (e65_126 l0 I)
  else
    (sm_ck (sm_in (P l0 49) ((24 * l2) + l3)) <|
    Option.bind (fM_within (I (P l0 49) ((24 * l2) + l3).toNatClampNeg) 0 (l1 - 1)) fun y17 =>
    if ¬ y17 = 0 then
      (sm_ck (sm_in (P l0 49) ((24 * l2) + l3)) <|
      sm_ck (sm_iw (P l0 54) l3) <|
      sm_bd (am_up I (P l0 54) l3.toNatClampNeg (I (P l0 49) ((24 * l2) + l3).toNatClampNeg)) fun I21 =>
      sm_bd (l3 + 1) fun x22 =>
      r65 l0 l1 l2 x22 I21)
    else
      (e65_96 l0 I))
set_option maxRecDepth 100000 in
theorem AfM_end_B65 {dp : Nat} {P : am_Q} {nx : Nat} {sl : Nat} {e65_96 : Nat → am_M → Option (Int32 × am_M)} {e65_126 : Nat → am_M → Option (Int32 × am_M)} {r65 : Nat → Int32 → Int32 → Int32 → am_M → Option (Int32 × am_M)} (he65_96 : ∀ (l0 : Nat) (I : am_M) (o1 : Option am_V) (o2 : Option am_V) (o3 : Option am_V), sm (dp + 2) am_d210 96 [some (.inr l0), o1, o2, o3] [] (I, P, nx, sl) (sm_g1 P nx sl) (e65_96 l0 I)) (he65_126 : ∀ (l0 : Nat) (I : am_M) (o1 : Option am_V) (o2 : Option am_V) (o3 : Option am_V), sm (dp + 2) am_d210 126 [some (.inr l0), o1, o2, o3] [] (I, P, nx, sl) (sm_g1 P nx sl) (e65_126 l0 I)) (hr65 : ∀ (l0 : Nat) (l1 : Int32) (l2 : Int32) (l3 : Int32) (I : am_M), sm (dp + 2) am_d210 65 [some (.inr l0), some (.inl l1), some (.inl l2), some (.inl l3)] [] (I, P, nx, sl) (sm_g1 P nx sl) (r65 l0 l1 l2 l3 I)) (l0 : Nat) (l1 : Int32) (l2 : Int32) (l3 : Int32) (I : am_M) : sm (dp + 2) am_d210 65 [some (.inr l0), some (.inl l1), some (.inl l2), some (.inl l3)] [] (I, P, nx, sl) (sm_g1 P nx sl) (fM_end_B65 P e65_96 e65_126 r65 l0 l1 l2 l3 I) := by
  unfold fM_end_B65
  refine r_iload rfl rfl ?_
  refine r_ck (fun h13 => ?_)
  refine r_aload rfl rfl (am_nz h13) ?_
  refine r_getP rfl h13 ?_
  refine r_iload rfl rfl ?_
  refine r_ck (fun h14 => ?_)
  refine r_iald rfl h14 ?_
  refine r_icmp rfl rfl (fun c15 => ?_) (fun c15 => ?_)
  · exact he65_126 l0 I (some (.inl l1)) (some (.inl l2)) (some (.inl l3))
  · refine r_aload rfl rfl (am_nz h13) ?_
    refine r_getP rfl h13 ?_
    refine r_const (x := 24) rfl rfl ?_
    refine r_iload rfl rfl ?_
    refine r_bin (z := 24 * l2) rfl rfl (by decide) ?_
    refine r_iload rfl rfl ?_
    refine r_bin (z := (24 * l2) + l3) rfl rfl (by decide) ?_
    refine r_ck (fun h16 => ?_)
    refine r_iald rfl h16 ?_
    refine r_const (x := 0) rfl rfl ?_
    refine r_iload rfl rfl ?_
    refine r_const (x := 1) rfl rfl ?_
    refine r_bin (z := l1 - 1) rfl rfl (by decide) ?_
    refine r_call0 rfl rfl trivial (fun y hy => AfM_within (dp := dp + 1) hy) (fun y17 => ?_)
    refine r_if rfl rfl (fun c18 => ?_) (fun c18 => ?_)
    · refine r_aload rfl rfl (am_nz h13) ?_
      refine r_getP rfl h13 ?_
      refine r_iload rfl rfl ?_
      refine r_aload rfl rfl (am_nz h13) ?_
      refine r_getP rfl h13 ?_
      refine r_const (x := 24) rfl rfl ?_
      refine r_iload rfl rfl ?_
      refine r_bin (z := 24 * l2) rfl rfl (by decide) ?_
      refine r_iload rfl rfl ?_
      refine r_bin (z := (24 * l2) + l3) rfl rfl (by decide) ?_
      refine r_ck (fun h19 => ?_)
      refine r_iald rfl h19 ?_
      refine r_ck (fun h20 => ?_)
      refine r_iast rfl h20 (fun I21 => ?_)
      refine r_iinc (e := l3 + 1) (ls' := fun x22 => [some (.inr l0), some (.inl l1), some (.inl l2), some (.inl x22)]) rfl rfl rfl (fun _ => rfl) (fun x22 => ?_)
      refine r_goto rfl ?_
      exact hr65 l0 l1 l2 x22 I21
    · exact he65_96 l0 I (some (.inl l1)) (some (.inl l2)) (some (.inl l3))
noncomputable def fM_end_L65 (P : am_Q) (e65_96 : Nat → am_M → Option (Int32 × am_M)) (e65_126 : Nat → am_M → Option (Int32 × am_M)) : Nat → Nat → Int32 → Int32 → Int32 → am_M → Option (Int32 × am_M)
  | 0, _, _, _, _, _ => none
  | n + 1, l0, l1, l2, l3, I => fM_end_B65 P e65_96 e65_126 (fM_end_L65 P e65_96 e65_126 n) l0 l1 l2 l3 I
theorem AfM_end_L65 {dp : Nat} {P : am_Q} {nx : Nat} {sl : Nat} {e65_96 : Nat → am_M → Option (Int32 × am_M)} {e65_126 : Nat → am_M → Option (Int32 × am_M)} (he65_96 : ∀ (l0 : Nat) (I : am_M) (o1 : Option am_V) (o2 : Option am_V) (o3 : Option am_V), sm (dp + 2) am_d210 96 [some (.inr l0), o1, o2, o3] [] (I, P, nx, sl) (sm_g1 P nx sl) (e65_96 l0 I)) (he65_126 : ∀ (l0 : Nat) (I : am_M) (o1 : Option am_V) (o2 : Option am_V) (o3 : Option am_V), sm (dp + 2) am_d210 126 [some (.inr l0), o1, o2, o3] [] (I, P, nx, sl) (sm_g1 P nx sl) (e65_126 l0 I)) (n : Nat) : ∀ (l0 : Nat) (l1 : Int32) (l2 : Int32) (l3 : Int32) (I : am_M), sm (dp + 2) am_d210 65 [some (.inr l0), some (.inl l1), some (.inl l2), some (.inl l3)] [] (I, P, nx, sl) (sm_g1 P nx sl) (fM_end_L65 P e65_96 e65_126 n l0 l1 l2 l3 I) := by
  induction n with
  | zero => intro l0 l1 l2 l3 I; exact sm_none
  | succ n ih => intro l0 l1 l2 l3 I; exact AfM_end_B65 he65_96 he65_126 ih l0 l1 l2 l3 I
noncomputable def fM_end (P : am_Q) (l0 : Nat) (l1 : Int32) (l2 : Int32) (I : am_M) : Option (Int32 × am_M) :=
  Option.bind (fM_within l1 1 3) fun y1 =>
  if y1 = 0 then
    (sm_ck (am_t l0 = 13) <|
    Option.bind (fM_finds P l0 ((-1000001)) I) fun y4 =>
    some (y4.1, y4.2))
  else
    (Option.bind (fM_isSheet l2) fun y5 =>
    if ¬ y5 = 0 then
      (sm_ck (am_t l0 = 13) <|
      sm_ck (sm_in (P l0 47) l2) <|
      if ¬ (I (P l0 47) l2.toNatClampNeg) = 0 then
        (sm_ck (sm_in (P l0 48) l2) <|
        sm_ck (sm_in (P l0 1) 0) <|
        if (I (P l0 48) l2.toNatClampNeg) = (I (P l0 1) (0 : Int32).toNatClampNeg) then
          (fM_end_L65 P (fun l0 I =>
              sm_ck (am_t l0 = 13) <|
              Option.bind (fM_finds P l0 ((-1000001)) I) fun y24 =>
              some (y24.1, y24.2)) (fun l0 I =>
              sm_ck (am_t l0 = 13) <|
              Option.bind (fM_endOf P l0 I) fun y26 =>
              some (y26.1, y26.2)) sm_fu l0 l1 l2 0 I)
        else
          (Option.bind (fM_finds P l0 ((-1000007)) I) fun y27 =>
          some (y27.1, y27.2)))
      else
        (Option.bind (fM_finds P l0 ((-1000006)) I) fun y28 =>
        some (y28.1, y28.2)))
    else
      (sm_ck (am_t l0 = 13) <|
      Option.bind (fM_finds P l0 ((-1000001)) I) fun y30 =>
      some (y30.1, y30.2)))
set_option maxRecDepth 100000 in
theorem AfM_end {dp : Nat} {P : am_Q} {nx : Nat} {sl : Nat} {I : am_M} {l0 : Nat} {l1 : Int32} {l2 : Int32} {y : Int32 × am_M} (hy : fM_end P l0 l1 l2 I = some y) : sm_T (dp + 3) 210 [.inr l0, .inl l1, .inl l2] (I, P, nx, sl) ((sm_g1 P nx sl) y) := by
  refine r_meth (d := am_d210) (dp := dp + 2) (ls0 := [some (.inr l0), some (.inl l1), some (.inl l2), none]) rfl (by decide) rfl rfl ?_ hy
  unfold fM_end
  refine r_iload rfl rfl ?_
  refine r_const (x := 1) rfl rfl ?_
  refine r_const (x := 3) rfl rfl ?_
  refine r_call0 rfl rfl trivial (fun y hy => AfM_within (dp := dp + 1) hy) (fun y1 => ?_)
  refine r_if rfl rfl (fun c2 => ?_) (fun c2 => ?_)
  · refine r_ck (fun h3 => ?_)
    refine r_aload rfl rfl (am_nz h3) ?_
    refine r_const (x := (-1000001)) rfl rfl ?_
    refine r_call1 rfl rfl h3 (fun y hy => AfM_finds (dp := dp + 1) hy) (fun y4 => ?_)
    exact r_ireturn rfl (Or.inl rfl) rfl
  · refine r_iload rfl rfl ?_
    refine r_call0 rfl rfl trivial (fun y hy => AfM_isSheet (dp := dp + 0) hy) (fun y5 => ?_)
    refine r_if rfl rfl (fun c6 => ?_) (fun c6 => ?_)
    · refine r_ck (fun h7 => ?_)
      refine r_aload rfl rfl (am_nz h7) ?_
      refine r_getP rfl h7 ?_
      refine r_iload rfl rfl ?_
      refine r_ck (fun h8 => ?_)
      refine r_iald rfl h8 ?_
      refine r_if rfl rfl (fun c9 => ?_) (fun c9 => ?_)
      · refine r_aload rfl rfl (am_nz h7) ?_
        refine r_getP rfl h7 ?_
        refine r_iload rfl rfl ?_
        refine r_ck (fun h10 => ?_)
        refine r_iald rfl h10 ?_
        refine r_aload rfl rfl (am_nz h7) ?_
        refine r_getP rfl h7 ?_
        refine r_const (x := 0) rfl rfl ?_
        refine r_ck (fun h11 => ?_)
        refine r_iald rfl h11 ?_
        refine r_icmp rfl rfl (fun c12 => ?_) (fun c12 => ?_)
        · refine r_const (x := 0) rfl rfl ?_
          refine r_istore (ls' := [some (.inr l0), some (.inl l1), some (.inl l2), some (.inl 0)]) rfl (Nat.le_of_ble_eq_true rfl) rfl ?_
          refine AfM_end_L65 ?_ ?_ sm_fu l0 l1 l2 0 I
          · intro l0 I o1 o2 o3
            refine r_ck (fun h23 => ?_)
            refine r_aload rfl rfl (am_nz h23) ?_
            refine r_const (x := (-1000001)) rfl rfl ?_
            refine r_call1 rfl rfl h23 (fun y hy => AfM_finds (dp := dp + 1) hy) (fun y24 => ?_)
            exact r_ireturn rfl (Or.inl rfl) rfl
          · intro l0 I o1 o2 o3
            refine r_ck (fun h25 => ?_)
            refine r_aload rfl rfl (am_nz h25) ?_
            refine r_call1 rfl rfl h25 (fun y hy => AfM_endOf (dp := dp + 1) hy) (fun y26 => ?_)
            exact r_ireturn rfl (Or.inl rfl) rfl
        · refine r_aload rfl rfl (am_nz h7) ?_
          refine r_const (x := (-1000007)) rfl rfl ?_
          refine r_call1 rfl rfl h7 (fun y hy => AfM_finds (dp := dp + 1) hy) (fun y27 => ?_)
          exact r_ireturn rfl (Or.inl rfl) rfl
      · refine r_aload rfl rfl (am_nz h7) ?_
        refine r_const (x := (-1000006)) rfl rfl ?_
        refine r_call1 rfl rfl h7 (fun y hy => AfM_finds (dp := dp + 1) hy) (fun y28 => ?_)
        exact r_ireturn rfl (Or.inl rfl) rfl
    · refine r_ck (fun h29 => ?_)
      refine r_aload rfl rfl (am_nz h29) ?_
      refine r_const (x := (-1000001)) rfl rfl ?_
      refine r_call1 rfl rfl h29 (fun y hy => AfM_finds (dp := dp + 1) hy) (fun y30 => ?_)
      exact r_ireturn rfl (Or.inl rfl) rfl
