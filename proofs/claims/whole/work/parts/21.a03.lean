noncomputable def fR_hangsOn_J80 (I : am_M) (P : am_Q) (r16 : Nat → Int32 → Nat → Int32 → Int32 → Option (Int32)) (l1 : Nat) (l2 : Int32) (l3 : Nat) (l4 : Int32) (l5 : Int32) : Option (Int32) :=
  sm_bd (l5 + 1) fun x11 =>
  r16 l1 l2 l3 l4 x11
set_option maxRecDepth 100000 in
theorem AfR_hangsOn_J80 {dp : Nat} {I : am_M} {P : am_Q} {nx : Nat} {sl : Nat} {r16 : Nat → Int32 → Nat → Int32 → Int32 → Option (Int32)} (hr16 : ∀ (l1 : Nat) (l2 : Int32) (l3 : Nat) (l4 : Int32) (l5 : Int32) (o0 : Option am_V) (o6 : Option am_V) (o7 : Option am_V), sm (dp + 2) am_d75 16 [o0, some (.inr l1), some (.inl l2), some (.inr l3), some (.inl l4), some (.inl l5), o6, o7] [] (I, P, nx, sl) (sm_g0 (I, P, nx, sl)) (r16 l1 l2 l3 l4 l5)) (l1 : Nat) (l2 : Int32) (l3 : Nat) (l4 : Int32) (l5 : Int32) (o0 : Option am_V) (o6 : Option am_V) (o7 : Option am_V) : sm (dp + 2) am_d75 80 [o0, some (.inr l1), some (.inl l2), some (.inr l3), some (.inl l4), some (.inl l5), o6, o7] [] (I, P, nx, sl) (sm_g0 (I, P, nx, sl)) (fR_hangsOn_J80 I P r16 l1 l2 l3 l4 l5) := by
  unfold fR_hangsOn_J80
  refine r_iinc (e := l5 + 1) (ls' := fun x11 => [o0, some (.inr l1), some (.inl l2), some (.inr l3), some (.inl l4), some (.inl x11), o6, o7]) rfl rfl rfl (fun _ => rfl) (fun x11 => ?_)
  refine r_goto rfl ?_
  exact hr16 l1 l2 l3 l4 x11 o0 o6 o7
noncomputable def fR_hangsOn_J63 (I : am_M) (P : am_Q) (r16 : Nat → Int32 → Nat → Int32 → Int32 → Option (Int32)) (l1 : Nat) (l2 : Int32) (l3 : Nat) (l4 : Int32) (l5 : Int32) (l6 : Int32) : Option (Int32) :=
  sm_ck (am_t l1 = 11) <|
  sm_ck (sm_ia (P l1 10) l6) <|
  sm_ck (am_t (P (P l1 10) l6.toNatClampNeg) = 8) <|
  sm_bd (l4 ||| (sm_shl 1 (I (P (P l1 10) l6.toNatClampNeg) 0))) fun x18 =>
  fR_hangsOn_J80 I P r16 l1 l2 l3 x18 l5
set_option maxRecDepth 100000 in
theorem AfR_hangsOn_J63 {dp : Nat} {I : am_M} {P : am_Q} {nx : Nat} {sl : Nat} {r16 : Nat → Int32 → Nat → Int32 → Int32 → Option (Int32)} (hr16 : ∀ (l1 : Nat) (l2 : Int32) (l3 : Nat) (l4 : Int32) (l5 : Int32) (o0 : Option am_V) (o6 : Option am_V) (o7 : Option am_V), sm (dp + 2) am_d75 16 [o0, some (.inr l1), some (.inl l2), some (.inr l3), some (.inl l4), some (.inl l5), o6, o7] [] (I, P, nx, sl) (sm_g0 (I, P, nx, sl)) (r16 l1 l2 l3 l4 l5)) (l1 : Nat) (l2 : Int32) (l3 : Nat) (l4 : Int32) (l5 : Int32) (l6 : Int32) (o0 : Option am_V) (o7 : Option am_V) : sm (dp + 2) am_d75 63 [o0, some (.inr l1), some (.inl l2), some (.inr l3), some (.inl l4), some (.inl l5), some (.inl l6), o7] [] (I, P, nx, sl) (sm_g0 (I, P, nx, sl)) (fR_hangsOn_J63 I P r16 l1 l2 l3 l4 l5 l6) := by
  unfold fR_hangsOn_J63
  refine r_iload rfl rfl ?_
  refine r_const (x := 1) rfl rfl ?_
  refine r_ck (fun h15 => ?_)
  refine r_aload rfl rfl (am_nz h15) ?_
  refine r_getP rfl h15 ?_
  refine r_iload rfl rfl ?_
  refine r_ck (fun h16 => ?_)
  refine r_aald rfl h16 ?_
  refine r_ck (fun h17 => ?_)
  refine r_getI rfl h17 ?_
  refine r_bin (z := sm_shl 1 (I (P (P l1 10) l6.toNatClampNeg) 0)) rfl rfl (by decide) ?_
  refine r_bin (z := l4 ||| (sm_shl 1 (I (P (P l1 10) l6.toNatClampNeg) 0))) rfl rfl (by decide) ?_
  refine r_bd (fun x18 => ?_)
  refine r_istore (ls' := [o0, some (.inr l1), some (.inl l2), some (.inr l3), some (.inl x18), some (.inl l5), some (.inl l6), o7]) rfl (Nat.le_of_ble_eq_true rfl) rfl ?_
  exact AfR_hangsOn_J80 hr16 l1 l2 l3 x18 l5 o0 (some (.inl l6)) o7
noncomputable def fR_hangsOn_B16 (I : am_M) (P : am_Q) (e16_86 : Int32 → Option (Int32)) (r16 : Nat → Int32 → Nat → Int32 → Int32 → Option (Int32)) (l1 : Nat) (l2 : Int32) (l3 : Nat) (l4 : Int32) (l5 : Int32) : Option (Int32) :=
  if 2 ≤ l5 then
    (e16_86 l4)
  else
    (sm_ck (am_t l1 = 11) <|
    Option.bind (fW_seamInto I P l1 l2 l5) fun y8 =>
    sm_bd (102 + l5) fun x9 =>
    if y8 < 0 then
      (fR_hangsOn_J80 I P r16 l1 l2 l3 l4 l5)
    else
      (sm_ck (am_t l3 = 4) <|
      Option.bind (fL_names I P l3 2 x9) fun y13 =>
      if ¬ y13 = 0 then
        (fR_hangsOn_J63 I P r16 l1 l2 l3 l4 l5 y8)
      else
        (Option.bind (fL_names I P l3 3 x9) fun y19 =>
        if y19 = 0 then
          (fR_hangsOn_J80 I P r16 l1 l2 l3 l4 l5)
        else
          (fR_hangsOn_J63 I P r16 l1 l2 l3 l4 l5 y8))))
set_option maxRecDepth 100000 in
theorem AfR_hangsOn_B16 {dp : Nat} {I : am_M} {P : am_Q} {nx : Nat} {sl : Nat} {e16_86 : Int32 → Option (Int32)} {r16 : Nat → Int32 → Nat → Int32 → Int32 → Option (Int32)} (he16_86 : ∀ (l4 : Int32) (o0 : Option am_V) (o1 : Option am_V) (o2 : Option am_V) (o3 : Option am_V) (o5 : Option am_V) (o6 : Option am_V) (o7 : Option am_V), sm (dp + 2) am_d75 86 [o0, o1, o2, o3, some (.inl l4), o5, o6, o7] [] (I, P, nx, sl) (sm_g0 (I, P, nx, sl)) (e16_86 l4)) (hr16 : ∀ (l1 : Nat) (l2 : Int32) (l3 : Nat) (l4 : Int32) (l5 : Int32) (o0 : Option am_V) (o6 : Option am_V) (o7 : Option am_V), sm (dp + 2) am_d75 16 [o0, some (.inr l1), some (.inl l2), some (.inr l3), some (.inl l4), some (.inl l5), o6, o7] [] (I, P, nx, sl) (sm_g0 (I, P, nx, sl)) (r16 l1 l2 l3 l4 l5)) (l1 : Nat) (l2 : Int32) (l3 : Nat) (l4 : Int32) (l5 : Int32) (o0 : Option am_V) (o6 : Option am_V) (o7 : Option am_V) : sm (dp + 2) am_d75 16 [o0, some (.inr l1), some (.inl l2), some (.inr l3), some (.inl l4), some (.inl l5), o6, o7] [] (I, P, nx, sl) (sm_g0 (I, P, nx, sl)) (fR_hangsOn_B16 I P e16_86 r16 l1 l2 l3 l4 l5) := by
  unfold fR_hangsOn_B16
  refine r_iload rfl rfl ?_
  refine r_const (x := 2) rfl rfl ?_
  refine r_icmp rfl rfl (fun c6 => ?_) (fun c6 => ?_)
  · exact he16_86 l4 o0 (some (.inr l1)) (some (.inl l2)) (some (.inr l3)) (some (.inl l5)) o6 o7
  · refine r_ck (fun h7 => ?_)
    refine r_aload rfl rfl (am_nz h7) ?_
    refine r_iload rfl rfl ?_
    refine r_iload rfl rfl ?_
    refine r_call0 rfl rfl h7 (fun y hy => AfW_seamInto (dp := dp + 0) hy) (fun y8 => ?_)
    refine r_istore (ls' := [o0, some (.inr l1), some (.inl l2), some (.inr l3), some (.inl l4), some (.inl l5), some (.inl y8), o7]) rfl (Nat.le_of_ble_eq_true rfl) rfl ?_
    refine r_const (x := 102) rfl rfl ?_
    refine r_iload rfl rfl ?_
    refine r_bin (z := 102 + l5) rfl rfl (by decide) ?_
    refine r_bd (fun x9 => ?_)
    refine r_istore (ls' := [o0, some (.inr l1), some (.inl l2), some (.inr l3), some (.inl l4), some (.inl l5), some (.inl y8), some (.inl x9)]) rfl (Nat.le_of_ble_eq_true rfl) rfl ?_
    refine r_iload rfl rfl ?_
    refine r_if rfl rfl (fun c10 => ?_) (fun c10 => ?_)
    · exact AfR_hangsOn_J80 hr16 l1 l2 l3 l4 l5 o0 (some (.inl y8)) (some (.inl x9))
    · refine r_ck (fun h12 => ?_)
      refine r_aload rfl rfl (am_nz h12) ?_
      refine r_const (x := 2) rfl rfl ?_
      refine r_iload rfl rfl ?_
      refine r_call0 rfl rfl h12 (fun y hy => AfL_names (dp := dp + 0) hy) (fun y13 => ?_)
      refine r_if rfl rfl (fun c14 => ?_) (fun c14 => ?_)
      · exact AfR_hangsOn_J63 hr16 l1 l2 l3 l4 l5 y8 o0 (some (.inl x9))
      · refine r_aload rfl rfl (am_nz h12) ?_
        refine r_const (x := 3) rfl rfl ?_
        refine r_iload rfl rfl ?_
        refine r_call0 rfl rfl h12 (fun y hy => AfL_names (dp := dp + 0) hy) (fun y19 => ?_)
        refine r_if rfl rfl (fun c20 => ?_) (fun c20 => ?_)
        · exact AfR_hangsOn_J80 hr16 l1 l2 l3 l4 l5 o0 (some (.inl y8)) (some (.inl x9))
        · exact AfR_hangsOn_J63 hr16 l1 l2 l3 l4 l5 y8 o0 (some (.inl x9))
noncomputable def fR_hangsOn_L16 (I : am_M) (P : am_Q) (e16_86 : Int32 → Option (Int32)) : Nat → Nat → Int32 → Nat → Int32 → Int32 → Option (Int32)
  | 0, _, _, _, _, _ => none
  | n + 1, l1, l2, l3, l4, l5 => fR_hangsOn_B16 I P e16_86 (fR_hangsOn_L16 I P e16_86 n) l1 l2 l3 l4 l5
theorem AfR_hangsOn_L16 {dp : Nat} {I : am_M} {P : am_Q} {nx : Nat} {sl : Nat} {e16_86 : Int32 → Option (Int32)} (he16_86 : ∀ (l4 : Int32) (o0 : Option am_V) (o1 : Option am_V) (o2 : Option am_V) (o3 : Option am_V) (o5 : Option am_V) (o6 : Option am_V) (o7 : Option am_V), sm (dp + 2) am_d75 86 [o0, o1, o2, o3, some (.inl l4), o5, o6, o7] [] (I, P, nx, sl) (sm_g0 (I, P, nx, sl)) (e16_86 l4)) (n : Nat) : ∀ (l1 : Nat) (l2 : Int32) (l3 : Nat) (l4 : Int32) (l5 : Int32) (o0 : Option am_V) (o6 : Option am_V) (o7 : Option am_V), sm (dp + 2) am_d75 16 [o0, some (.inr l1), some (.inl l2), some (.inr l3), some (.inl l4), some (.inl l5), o6, o7] [] (I, P, nx, sl) (sm_g0 (I, P, nx, sl)) (fR_hangsOn_L16 I P e16_86 n l1 l2 l3 l4 l5) := by
  induction n with
  | zero => intro l1 l2 l3 l4 l5 o0 o6 o7; exact sm_none
  | succ n ih => intro l1 l2 l3 l4 l5 o0 o6 o7; exact AfR_hangsOn_B16 he16_86 ih l1 l2 l3 l4 l5 o0 o6 o7
noncomputable def fR_hangsOn (I : am_M) (P : am_Q) (l0 : Nat) (l1 : Nat) (l2 : Int32) : Option (Int32) :=
  sm_ck (am_t l1 = 11) <|
  sm_ck (sm_ia (P l1 9) l2) <|
  sm_ck (am_t (P (P l1 9) l2.toNatClampNeg) = 1) <|
  sm_bd (P (P (P l1 9) l2.toNatClampNeg) 10) fun a4 =>
  sm_ck (am_t a4 = 4) <|
  fR_hangsOn_L16 I P (fun l4 =>
      some l4) sm_fu l1 l2 a4 0 0
set_option maxRecDepth 100000 in
theorem AfR_hangsOn {dp : Nat} {I : am_M} {P : am_Q} {nx : Nat} {sl : Nat} {l0 : Nat} {l1 : Nat} {l2 : Int32} {y : Int32} (hy : fR_hangsOn I P l0 l1 l2 = some y) : sm_T (dp + 3) 75 [.inr l0, .inr l1, .inl l2] (I, P, nx, sl) ((sm_g0 (I, P, nx, sl)) y) := by
  refine r_meth (d := am_d75) (dp := dp + 2) (ls0 := [some (.inr l0), some (.inr l1), some (.inl l2), none, none, none, none, none]) rfl (by decide) rfl rfl ?_ hy
  unfold fR_hangsOn
  refine r_ck (fun h1 => ?_)
  refine r_aload rfl rfl (am_nz h1) ?_
  refine r_getP rfl h1 ?_
  refine r_iload rfl rfl ?_
  refine r_ck (fun h2 => ?_)
  refine r_aald rfl h2 ?_
  refine r_ck (fun h3 => ?_)
  refine r_getP rfl h3 ?_
  refine r_bdA (fun a4 => ?_)
  refine r_ck (fun h5 => ?_)
  refine r_astore (ls' := [some (.inr l0), some (.inr l1), some (.inl l2), some (.inr a4), none, none, none, none]) rfl (Nat.le_of_ble_eq_true rfl) (am_nz h5) rfl ?_
  refine r_const (x := 0) rfl rfl ?_
  refine r_istore (ls' := [some (.inr l0), some (.inr l1), some (.inl l2), some (.inr a4), some (.inl 0), none, none, none]) rfl (Nat.le_of_ble_eq_true rfl) rfl ?_
  refine r_const (x := 0) rfl rfl ?_
  refine r_istore (ls' := [some (.inr l0), some (.inr l1), some (.inl l2), some (.inr a4), some (.inl 0), some (.inl 0), none, none]) rfl (Nat.le_of_ble_eq_true rfl) rfl ?_
  refine AfR_hangsOn_L16 ?_ sm_fu l1 l2 a4 0 0 (some (.inr l0)) none none
  · intro l4 o0 o1 o2 o3 o5 o6 o7
    refine r_iload rfl rfl ?_
    exact r_ireturn rfl (Or.inl rfl) rfl
noncomputable def fX_hangs (P : am_Q) (l0 : Nat) (l1 : Int32) (I : am_M) : Option (Int32 × am_M) :=
  sm_ck (am_t l0 = 12) <|
  sm_ck (am_t (P l0 0) = 11) <|
  Option.bind (fW_hasBox I P (P l0 0) l1) fun y3 =>
  if ¬ y3 = 0 then
    (sm_ck (am_t (P l0 11) = 7) <|
    Option.bind (fR_hangsOn I P (P l0 11) (P l0 0) l1) fun y6 =>
    some (y6, I))
  else
    (Option.bind (fX_found P l0 ((-1000001)) I) fun y7 =>
    some (y7.1, y7.2))
set_option maxRecDepth 100000 in
theorem AfX_hangs {dp : Nat} {P : am_Q} {nx : Nat} {sl : Nat} {I : am_M} {l0 : Nat} {l1 : Int32} {y : Int32 × am_M} (hy : fX_hangs P l0 l1 I = some y) : sm_T (dp + 4) 74 [.inr l0, .inl l1] (I, P, nx, sl) ((sm_g1 P nx sl) y) := by
  refine r_meth (d := am_d74) (dp := dp + 3) (ls0 := [some (.inr l0), some (.inl l1)]) rfl (by decide) rfl rfl ?_ hy
  unfold fX_hangs
  refine r_ck (fun h1 => ?_)
  refine r_aload rfl rfl (am_nz h1) ?_
  refine r_getP rfl h1 ?_
  refine r_iload rfl rfl ?_
  refine r_ck (fun h2 => ?_)
  refine r_call0 rfl rfl h2 (fun y hy => AfW_hasBox (dp := dp + 2) hy) (fun y3 => ?_)
  refine r_if rfl rfl (fun c4 => ?_) (fun c4 => ?_)
  · refine r_aload rfl rfl (am_nz h1) ?_
    refine r_getP rfl h1 ?_
    refine r_aload rfl rfl (am_nz h1) ?_
    refine r_getP rfl h1 ?_
    refine r_iload rfl rfl ?_
    refine r_ck (fun h5 => ?_)
    refine r_call0 rfl rfl h5 (fun y hy => AfR_hangsOn (dp := dp + 0) hy) (fun y6 => ?_)
    exact r_ireturn rfl (Or.inl rfl) rfl
  · refine r_aload rfl rfl (am_nz h1) ?_
    refine r_const (x := (-1000001)) rfl rfl ?_
    refine r_call1 rfl rfl h1 (fun y hy => AfX_found (dp := dp + 2) hy) (fun y7 => ?_)
    exact r_ireturn rfl (Or.inl rfl) rfl
noncomputable def fR_reachedFrom_J62 (I : am_M) (P : am_Q) (r32 : Nat → Nat → Int32 → Int32 → Int32 → Int32 → Option (Int32)) (l0 : Nat) (l1 : Nat) (l3 : Int32) (l4 : Int32) (l5 : Int32) (l6 : Int32) : Option (Int32) :=
  sm_bd (l6 + 1) fun x9 =>
  r32 l0 l1 l3 l4 l5 x9
set_option maxRecDepth 100000 in
theorem AfR_reachedFrom_J62 {dp : Nat} {I : am_M} {P : am_Q} {nx : Nat} {sl : Nat} {r32 : Nat → Nat → Int32 → Int32 → Int32 → Int32 → Option (Int32)} (hr32 : ∀ (l0 : Nat) (l1 : Nat) (l3 : Int32) (l4 : Int32) (l5 : Int32) (l6 : Int32) (o2 : Option am_V), sm (dp + 3) am_d79 32 [some (.inr l0), some (.inr l1), o2, some (.inl l3), some (.inl l4), some (.inl l5), some (.inl l6)] [] (I, P, nx, sl) (sm_g0 (I, P, nx, sl)) (r32 l0 l1 l3 l4 l5 l6)) (l0 : Nat) (l1 : Nat) (l3 : Int32) (l4 : Int32) (l5 : Int32) (l6 : Int32) (o2 : Option am_V) : sm (dp + 3) am_d79 62 [some (.inr l0), some (.inr l1), o2, some (.inl l3), some (.inl l4), some (.inl l5), some (.inl l6)] [] (I, P, nx, sl) (sm_g0 (I, P, nx, sl)) (fR_reachedFrom_J62 I P r32 l0 l1 l3 l4 l5 l6) := by
  unfold fR_reachedFrom_J62
  refine r_iinc (e := l6 + 1) (ls' := fun x9 => [some (.inr l0), some (.inr l1), o2, some (.inl l3), some (.inl l4), some (.inl l5), some (.inl x9)]) rfl rfl rfl (fun _ => rfl) (fun x9 => ?_)
  refine r_goto rfl ?_
  exact hr32 l0 l1 l3 l4 l5 x9 o2
noncomputable def fR_reachedFrom_B32 (I : am_M) (P : am_Q) (e32_68 : Nat → Nat → Int32 → Int32 → Int32 → Option (Int32)) (r32 : Nat → Nat → Int32 → Int32 → Int32 → Int32 → Option (Int32)) (l0 : Nat) (l1 : Nat) (l3 : Int32) (l4 : Int32) (l5 : Int32) (l6 : Int32) : Option (Int32) :=
  sm_ck (am_t l1 = 11) <|
  if (I l1 6) ≤ l6 then
    (e32_68 l0 l1 l3 l4 l5)
  else
    (if ¬ ((sm_shr l4 l6) &&& 1) = 1 then
      (fR_reachedFrom_J62 I P r32 l0 l1 l3 l4 l5 l6)
    else
      (sm_ck (am_t l0 = 7) <|
      Option.bind (fR_hangsOn I P l0 l1 l6) fun y11 =>
      sm_bd (l3 ||| y11) fun x12 =>
      fR_reachedFrom_J62 I P r32 l0 l1 x12 l4 l5 l6))
set_option maxRecDepth 100000 in
theorem AfR_reachedFrom_B32 {dp : Nat} {I : am_M} {P : am_Q} {nx : Nat} {sl : Nat} {e32_68 : Nat → Nat → Int32 → Int32 → Int32 → Option (Int32)} {r32 : Nat → Nat → Int32 → Int32 → Int32 → Int32 → Option (Int32)} (he32_68 : ∀ (l0 : Nat) (l1 : Nat) (l3 : Int32) (l4 : Int32) (l5 : Int32) (o2 : Option am_V) (o6 : Option am_V), sm (dp + 3) am_d79 68 [some (.inr l0), some (.inr l1), o2, some (.inl l3), some (.inl l4), some (.inl l5), o6] [] (I, P, nx, sl) (sm_g0 (I, P, nx, sl)) (e32_68 l0 l1 l3 l4 l5)) (hr32 : ∀ (l0 : Nat) (l1 : Nat) (l3 : Int32) (l4 : Int32) (l5 : Int32) (l6 : Int32) (o2 : Option am_V), sm (dp + 3) am_d79 32 [some (.inr l0), some (.inr l1), o2, some (.inl l3), some (.inl l4), some (.inl l5), some (.inl l6)] [] (I, P, nx, sl) (sm_g0 (I, P, nx, sl)) (r32 l0 l1 l3 l4 l5 l6)) (l0 : Nat) (l1 : Nat) (l3 : Int32) (l4 : Int32) (l5 : Int32) (l6 : Int32) (o2 : Option am_V) : sm (dp + 3) am_d79 32 [some (.inr l0), some (.inr l1), o2, some (.inl l3), some (.inl l4), some (.inl l5), some (.inl l6)] [] (I, P, nx, sl) (sm_g0 (I, P, nx, sl)) (fR_reachedFrom_B32 I P e32_68 r32 l0 l1 l3 l4 l5 l6) := by
  unfold fR_reachedFrom_B32
  refine r_iload rfl rfl ?_
  refine r_ck (fun h6 => ?_)
  refine r_aload rfl rfl (am_nz h6) ?_
  refine r_getI rfl h6 ?_
  refine r_icmp rfl rfl (fun c7 => ?_) (fun c7 => ?_)
  · exact he32_68 l0 l1 l3 l4 l5 o2 (some (.inl l6))
  · refine r_iload rfl rfl ?_
    refine r_iload rfl rfl ?_
    refine r_bin (z := sm_shr l4 l6) rfl rfl (by decide) ?_
    refine r_const (x := 1) rfl rfl ?_
    refine r_bin (z := (sm_shr l4 l6) &&& 1) rfl rfl (by decide) ?_
    refine r_const (x := 1) rfl rfl ?_
    refine r_icmp rfl rfl (fun c8 => ?_) (fun c8 => ?_)
    · exact AfR_reachedFrom_J62 hr32 l0 l1 l3 l4 l5 l6 o2
    · refine r_iload rfl rfl ?_
      refine r_ck (fun h10 => ?_)
      refine r_aload rfl rfl (am_nz h10) ?_
      refine r_aload rfl rfl (am_nz h6) ?_
      refine r_iload rfl rfl ?_
      refine r_call0 rfl rfl h10 (fun y hy => AfR_hangsOn (dp := dp + 0) hy) (fun y11 => ?_)
      refine r_bin (z := l3 ||| y11) rfl rfl (by decide) ?_
      refine r_bd (fun x12 => ?_)
      refine r_istore (ls' := [some (.inr l0), some (.inr l1), o2, some (.inl x12), some (.inl l4), some (.inl l5), some (.inl l6)]) rfl (Nat.le_of_ble_eq_true rfl) rfl ?_
      exact AfR_reachedFrom_J62 hr32 l0 l1 x12 l4 l5 l6 o2
noncomputable def fR_reachedFrom_L32 (I : am_M) (P : am_Q) (e32_68 : Nat → Nat → Int32 → Int32 → Int32 → Option (Int32)) : Nat → Nat → Nat → Int32 → Int32 → Int32 → Int32 → Option (Int32)
  | 0, _, _, _, _, _, _ => none
  | n + 1, l0, l1, l3, l4, l5, l6 => fR_reachedFrom_B32 I P e32_68 (fR_reachedFrom_L32 I P e32_68 n) l0 l1 l3 l4 l5 l6
theorem AfR_reachedFrom_L32 {dp : Nat} {I : am_M} {P : am_Q} {nx : Nat} {sl : Nat} {e32_68 : Nat → Nat → Int32 → Int32 → Int32 → Option (Int32)} (he32_68 : ∀ (l0 : Nat) (l1 : Nat) (l3 : Int32) (l4 : Int32) (l5 : Int32) (o2 : Option am_V) (o6 : Option am_V), sm (dp + 3) am_d79 68 [some (.inr l0), some (.inr l1), o2, some (.inl l3), some (.inl l4), some (.inl l5), o6] [] (I, P, nx, sl) (sm_g0 (I, P, nx, sl)) (e32_68 l0 l1 l3 l4 l5)) (n : Nat) : ∀ (l0 : Nat) (l1 : Nat) (l3 : Int32) (l4 : Int32) (l5 : Int32) (l6 : Int32) (o2 : Option am_V), sm (dp + 3) am_d79 32 [some (.inr l0), some (.inr l1), o2, some (.inl l3), some (.inl l4), some (.inl l5), some (.inl l6)] [] (I, P, nx, sl) (sm_g0 (I, P, nx, sl)) (fR_reachedFrom_L32 I P e32_68 n l0 l1 l3 l4 l5 l6) := by
  induction n with
  | zero => intro l0 l1 l3 l4 l5 l6 o2; exact sm_none
  | succ n ih => intro l0 l1 l3 l4 l5 l6 o2; exact AfR_reachedFrom_B32 he32_68 ih l0 l1 l3 l4 l5 l6 o2
noncomputable def fR_reachedFrom_B13 (I : am_M) (P : am_Q) (e13_74 : Int32 → Option (Int32)) (r13 : Nat → Nat → Int32 → Int32 → Int32 → Option (Int32)) (l0 : Nat) (l1 : Nat) (l3 : Int32) (l4 : Int32) (l5 : Int32) : Option (Int32) :=
  if 7 ≤ l5 then
    (e13_74 l3)
  else
    (if l4 = l3 then
      (e13_74 l3)
    else
      (fR_reachedFrom_L32 I P (fun l0 l1 l3 l4 l5 =>
          sm_bd (l5 + 1) fun x13 =>
          r13 l0 l1 l3 l4 x13) sm_fu l0 l1 l3 l3 l5 0))
set_option maxRecDepth 100000 in
theorem AfR_reachedFrom_B13 {dp : Nat} {I : am_M} {P : am_Q} {nx : Nat} {sl : Nat} {e13_74 : Int32 → Option (Int32)} {r13 : Nat → Nat → Int32 → Int32 → Int32 → Option (Int32)} (he13_74 : ∀ (l3 : Int32) (o0 : Option am_V) (o1 : Option am_V) (o2 : Option am_V) (o4 : Option am_V) (o5 : Option am_V) (o6 : Option am_V), sm (dp + 3) am_d79 74 [o0, o1, o2, some (.inl l3), o4, o5, o6] [] (I, P, nx, sl) (sm_g0 (I, P, nx, sl)) (e13_74 l3)) (hr13 : ∀ (l0 : Nat) (l1 : Nat) (l3 : Int32) (l4 : Int32) (l5 : Int32) (o2 : Option am_V) (o6 : Option am_V), sm (dp + 3) am_d79 13 [some (.inr l0), some (.inr l1), o2, some (.inl l3), some (.inl l4), some (.inl l5), o6] [] (I, P, nx, sl) (sm_g0 (I, P, nx, sl)) (r13 l0 l1 l3 l4 l5)) (l0 : Nat) (l1 : Nat) (l3 : Int32) (l4 : Int32) (l5 : Int32) (o2 : Option am_V) (o6 : Option am_V) : sm (dp + 3) am_d79 13 [some (.inr l0), some (.inr l1), o2, some (.inl l3), some (.inl l4), some (.inl l5), o6] [] (I, P, nx, sl) (sm_g0 (I, P, nx, sl)) (fR_reachedFrom_B13 I P e13_74 r13 l0 l1 l3 l4 l5) := by
  unfold fR_reachedFrom_B13
  refine r_iload rfl rfl ?_
  refine r_const (x := 7) rfl rfl ?_
  refine r_icmp rfl rfl (fun c4 => ?_) (fun c4 => ?_)
  · exact he13_74 l3 (some (.inr l0)) (some (.inr l1)) o2 (some (.inl l4)) (some (.inl l5)) o6
  · refine r_iload rfl rfl ?_
    refine r_iload rfl rfl ?_
    refine r_icmp rfl rfl (fun c5 => ?_) (fun c5 => ?_)
    · exact he13_74 l3 (some (.inr l0)) (some (.inr l1)) o2 (some (.inl l4)) (some (.inl l5)) o6
    · refine r_iload rfl rfl ?_
      refine r_istore (ls' := [some (.inr l0), some (.inr l1), o2, some (.inl l3), some (.inl l3), some (.inl l5), o6]) rfl (Nat.le_of_ble_eq_true rfl) rfl ?_
      refine r_const (x := 0) rfl rfl ?_
      refine r_istore (ls' := [some (.inr l0), some (.inr l1), o2, some (.inl l3), some (.inl l3), some (.inl l5), some (.inl 0)]) rfl (Nat.le_of_ble_eq_true rfl) rfl ?_
      refine AfR_reachedFrom_L32 ?_ sm_fu l0 l1 l3 l3 l5 0 o2
      · intro l0 l1 l3 l4 l5 o2 o6
        refine r_iinc (e := l5 + 1) (ls' := fun x13 => [some (.inr l0), some (.inr l1), o2, some (.inl l3), some (.inl l4), some (.inl x13), o6]) rfl rfl rfl (fun _ => rfl) (fun x13 => ?_)
        refine r_goto rfl ?_
        exact hr13 l0 l1 l3 l4 x13 o2 o6
noncomputable def fR_reachedFrom_L13 (I : am_M) (P : am_Q) (e13_74 : Int32 → Option (Int32)) : Nat → Nat → Nat → Int32 → Int32 → Int32 → Option (Int32)
  | 0, _, _, _, _, _ => none
  | n + 1, l0, l1, l3, l4, l5 => fR_reachedFrom_B13 I P e13_74 (fR_reachedFrom_L13 I P e13_74 n) l0 l1 l3 l4 l5
theorem AfR_reachedFrom_L13 {dp : Nat} {I : am_M} {P : am_Q} {nx : Nat} {sl : Nat} {e13_74 : Int32 → Option (Int32)} (he13_74 : ∀ (l3 : Int32) (o0 : Option am_V) (o1 : Option am_V) (o2 : Option am_V) (o4 : Option am_V) (o5 : Option am_V) (o6 : Option am_V), sm (dp + 3) am_d79 74 [o0, o1, o2, some (.inl l3), o4, o5, o6] [] (I, P, nx, sl) (sm_g0 (I, P, nx, sl)) (e13_74 l3)) (n : Nat) : ∀ (l0 : Nat) (l1 : Nat) (l3 : Int32) (l4 : Int32) (l5 : Int32) (o2 : Option am_V) (o6 : Option am_V), sm (dp + 3) am_d79 13 [some (.inr l0), some (.inr l1), o2, some (.inl l3), some (.inl l4), some (.inl l5), o6] [] (I, P, nx, sl) (sm_g0 (I, P, nx, sl)) (fR_reachedFrom_L13 I P e13_74 n l0 l1 l3 l4 l5) := by
  induction n with
  | zero => intro l0 l1 l3 l4 l5 o2 o6; exact sm_none
  | succ n ih => intro l0 l1 l3 l4 l5 o2 o6; exact AfR_reachedFrom_B13 he13_74 ih l0 l1 l3 l4 l5 o2 o6
noncomputable def fR_reachedFrom (I : am_M) (P : am_Q) (l0 : Nat) (l1 : Nat) (l2 : Int32) : Option (Int32) :=
  sm_ck (am_t l0 = 7) <|
  sm_ck (am_t l1 = 11) <|
  Option.bind (fR_hangsOn I P l0 l1 l2) fun y3 =>
  fR_reachedFrom_L13 I P (fun l3 =>
      some l3) sm_fu l0 l1 y3 0 0
set_option maxRecDepth 100000 in
theorem AfR_reachedFrom {dp : Nat} {I : am_M} {P : am_Q} {nx : Nat} {sl : Nat} {l0 : Nat} {l1 : Nat} {l2 : Int32} {y : Int32} (hy : fR_reachedFrom I P l0 l1 l2 = some y) : sm_T (dp + 4) 79 [.inr l0, .inr l1, .inl l2] (I, P, nx, sl) ((sm_g0 (I, P, nx, sl)) y) := by
  refine r_meth (d := am_d79) (dp := dp + 3) (ls0 := [some (.inr l0), some (.inr l1), some (.inl l2), none, none, none, none]) rfl (by decide) rfl rfl ?_ hy
  unfold fR_reachedFrom
  refine r_ck (fun h1 => ?_)
  refine r_aload rfl rfl (am_nz h1) ?_
  refine r_ck (fun h2 => ?_)
  refine r_aload rfl rfl (am_nz h2) ?_
  refine r_iload rfl rfl ?_
  refine r_call0 rfl rfl h1 (fun y hy => AfR_hangsOn (dp := dp + 0) hy) (fun y3 => ?_)
  refine r_istore (ls' := [some (.inr l0), some (.inr l1), some (.inl l2), some (.inl y3), none, none, none]) rfl (Nat.le_of_ble_eq_true rfl) rfl ?_
  refine r_const (x := 0) rfl rfl ?_
  refine r_istore (ls' := [some (.inr l0), some (.inr l1), some (.inl l2), some (.inl y3), some (.inl 0), none, none]) rfl (Nat.le_of_ble_eq_true rfl) rfl ?_
  refine r_const (x := 0) rfl rfl ?_
  refine r_istore (ls' := [some (.inr l0), some (.inr l1), some (.inl l2), some (.inl y3), some (.inl 0), some (.inl 0), none]) rfl (Nat.le_of_ble_eq_true rfl) rfl ?_
  refine AfR_reachedFrom_L13 ?_ sm_fu l0 l1 y3 0 0 (some (.inl l2)) none
  · intro l3 o0 o1 o2 o4 o5 o6
    refine r_iload rfl rfl ?_
    exact r_ireturn rfl (Or.inl rfl) rfl
noncomputable def fR_ringOf_J56 (I : am_M) (P : am_Q) (r13 : Nat → Nat → Int32 → Int32 → Int32 → Int32 → Option (Int32)) (l0 : Nat) (l1 : Nat) (l2 : Int32) (l3 : Int32) (l4 : Int32) (l5 : Int32) : Option (Int32) :=
  sm_bd (l5 + 1) fun x7 =>
  r13 l0 l1 l2 l3 l4 x7
set_option maxRecDepth 100000 in
theorem AfR_ringOf_J56 {dp : Nat} {I : am_M} {P : am_Q} {nx : Nat} {sl : Nat} {r13 : Nat → Nat → Int32 → Int32 → Int32 → Int32 → Option (Int32)} (hr13 : ∀ (l0 : Nat) (l1 : Nat) (l2 : Int32) (l3 : Int32) (l4 : Int32) (l5 : Int32), sm (dp + 4) am_d78 13 [some (.inr l0), some (.inr l1), some (.inl l2), some (.inl l3), some (.inl l4), some (.inl l5)] [] (I, P, nx, sl) (sm_g0 (I, P, nx, sl)) (r13 l0 l1 l2 l3 l4 l5)) (l0 : Nat) (l1 : Nat) (l2 : Int32) (l3 : Int32) (l4 : Int32) (l5 : Int32) : sm (dp + 4) am_d78 56 [some (.inr l0), some (.inr l1), some (.inl l2), some (.inl l3), some (.inl l4), some (.inl l5)] [] (I, P, nx, sl) (sm_g0 (I, P, nx, sl)) (fR_ringOf_J56 I P r13 l0 l1 l2 l3 l4 l5) := by
  unfold fR_ringOf_J56
  refine r_iinc (e := l5 + 1) (ls' := fun x7 => [some (.inr l0), some (.inr l1), some (.inl l2), some (.inl l3), some (.inl l4), some (.inl x7)]) rfl rfl rfl (fun _ => rfl) (fun x7 => ?_)
  refine r_goto rfl ?_
  exact hr13 l0 l1 l2 l3 l4 x7
noncomputable def fR_ringOf_B13 (I : am_M) (P : am_Q) (e13_62 : Int32 → Option (Int32)) (r13 : Nat → Nat → Int32 → Int32 → Int32 → Int32 → Option (Int32)) (l0 : Nat) (l1 : Nat) (l2 : Int32) (l3 : Int32) (l4 : Int32) (l5 : Int32) : Option (Int32) :=
  sm_ck (am_t l1 = 11) <|
  if (I l1 6) ≤ l5 then
    (e13_62 l4)
  else
    (if ¬ ((sm_shr l3 l5) &&& 1) = 1 then
      (fR_ringOf_J56 I P r13 l0 l1 l2 l3 l4 l5)
    else
      (sm_ck (am_t l0 = 7) <|
      Option.bind (fR_reachedFrom I P l0 l1 l5) fun y9 =>
      if ¬ ((sm_shr y9 l2) &&& 1) = 1 then
        (fR_ringOf_J56 I P r13 l0 l1 l2 l3 l4 l5)
      else
        (sm_bd (l4 ||| (sm_shl 1 l5)) fun x11 =>
        fR_ringOf_J56 I P r13 l0 l1 l2 l3 x11 l5)))
set_option maxRecDepth 100000 in
theorem AfR_ringOf_B13 {dp : Nat} {I : am_M} {P : am_Q} {nx : Nat} {sl : Nat} {e13_62 : Int32 → Option (Int32)} {r13 : Nat → Nat → Int32 → Int32 → Int32 → Int32 → Option (Int32)} (he13_62 : ∀ (l4 : Int32) (o0 : Option am_V) (o1 : Option am_V) (o2 : Option am_V) (o3 : Option am_V) (o5 : Option am_V), sm (dp + 4) am_d78 62 [o0, o1, o2, o3, some (.inl l4), o5] [] (I, P, nx, sl) (sm_g0 (I, P, nx, sl)) (e13_62 l4)) (hr13 : ∀ (l0 : Nat) (l1 : Nat) (l2 : Int32) (l3 : Int32) (l4 : Int32) (l5 : Int32), sm (dp + 4) am_d78 13 [some (.inr l0), some (.inr l1), some (.inl l2), some (.inl l3), some (.inl l4), some (.inl l5)] [] (I, P, nx, sl) (sm_g0 (I, P, nx, sl)) (r13 l0 l1 l2 l3 l4 l5)) (l0 : Nat) (l1 : Nat) (l2 : Int32) (l3 : Int32) (l4 : Int32) (l5 : Int32) : sm (dp + 4) am_d78 13 [some (.inr l0), some (.inr l1), some (.inl l2), some (.inl l3), some (.inl l4), some (.inl l5)] [] (I, P, nx, sl) (sm_g0 (I, P, nx, sl)) (fR_ringOf_B13 I P e13_62 r13 l0 l1 l2 l3 l4 l5) := by
  unfold fR_ringOf_B13
  refine r_iload rfl rfl ?_
  refine r_ck (fun h4 => ?_)
  refine r_aload rfl rfl (am_nz h4) ?_
  refine r_getI rfl h4 ?_
  refine r_icmp rfl rfl (fun c5 => ?_) (fun c5 => ?_)
  · exact he13_62 l4 (some (.inr l0)) (some (.inr l1)) (some (.inl l2)) (some (.inl l3)) (some (.inl l5))
  · refine r_iload rfl rfl ?_
    refine r_iload rfl rfl ?_
    refine r_bin (z := sm_shr l3 l5) rfl rfl (by decide) ?_
    refine r_const (x := 1) rfl rfl ?_
    refine r_bin (z := (sm_shr l3 l5) &&& 1) rfl rfl (by decide) ?_
    refine r_const (x := 1) rfl rfl ?_
    refine r_icmp rfl rfl (fun c6 => ?_) (fun c6 => ?_)
    · exact AfR_ringOf_J56 hr13 l0 l1 l2 l3 l4 l5
    · refine r_ck (fun h8 => ?_)
      refine r_aload rfl rfl (am_nz h8) ?_
      refine r_aload rfl rfl (am_nz h4) ?_
      refine r_iload rfl rfl ?_
      refine r_call0 rfl rfl h8 (fun y hy => AfR_reachedFrom (dp := dp + 0) hy) (fun y9 => ?_)
      refine r_iload rfl rfl ?_
      refine r_bin (z := sm_shr y9 l2) rfl rfl (by decide) ?_
      refine r_const (x := 1) rfl rfl ?_
      refine r_bin (z := (sm_shr y9 l2) &&& 1) rfl rfl (by decide) ?_
      refine r_const (x := 1) rfl rfl ?_
      refine r_icmp rfl rfl (fun c10 => ?_) (fun c10 => ?_)
      · exact AfR_ringOf_J56 hr13 l0 l1 l2 l3 l4 l5
      · refine r_iload rfl rfl ?_
        refine r_const (x := 1) rfl rfl ?_
        refine r_iload rfl rfl ?_
        refine r_bin (z := sm_shl 1 l5) rfl rfl (by decide) ?_
        refine r_bin (z := l4 ||| (sm_shl 1 l5)) rfl rfl (by decide) ?_
        refine r_bd (fun x11 => ?_)
        refine r_istore (ls' := [some (.inr l0), some (.inr l1), some (.inl l2), some (.inl l3), some (.inl x11), some (.inl l5)]) rfl (Nat.le_of_ble_eq_true rfl) rfl ?_
        exact AfR_ringOf_J56 hr13 l0 l1 l2 l3 x11 l5
noncomputable def fR_ringOf_L13 (I : am_M) (P : am_Q) (e13_62 : Int32 → Option (Int32)) : Nat → Nat → Nat → Int32 → Int32 → Int32 → Int32 → Option (Int32)
  | 0, _, _, _, _, _, _ => none
  | n + 1, l0, l1, l2, l3, l4, l5 => fR_ringOf_B13 I P e13_62 (fR_ringOf_L13 I P e13_62 n) l0 l1 l2 l3 l4 l5
theorem AfR_ringOf_L13 {dp : Nat} {I : am_M} {P : am_Q} {nx : Nat} {sl : Nat} {e13_62 : Int32 → Option (Int32)} (he13_62 : ∀ (l4 : Int32) (o0 : Option am_V) (o1 : Option am_V) (o2 : Option am_V) (o3 : Option am_V) (o5 : Option am_V), sm (dp + 4) am_d78 62 [o0, o1, o2, o3, some (.inl l4), o5] [] (I, P, nx, sl) (sm_g0 (I, P, nx, sl)) (e13_62 l4)) (n : Nat) : ∀ (l0 : Nat) (l1 : Nat) (l2 : Int32) (l3 : Int32) (l4 : Int32) (l5 : Int32), sm (dp + 4) am_d78 13 [some (.inr l0), some (.inr l1), some (.inl l2), some (.inl l3), some (.inl l4), some (.inl l5)] [] (I, P, nx, sl) (sm_g0 (I, P, nx, sl)) (fR_ringOf_L13 I P e13_62 n l0 l1 l2 l3 l4 l5) := by
  induction n with
  | zero => intro l0 l1 l2 l3 l4 l5; exact sm_none
  | succ n ih => intro l0 l1 l2 l3 l4 l5; exact AfR_ringOf_B13 he13_62 ih l0 l1 l2 l3 l4 l5
noncomputable def fR_ringOf (I : am_M) (P : am_Q) (l0 : Nat) (l1 : Nat) (l2 : Int32) : Option (Int32) :=
  sm_ck (am_t l0 = 7) <|
  sm_ck (am_t l1 = 11) <|
  Option.bind (fR_reachedFrom I P l0 l1 l2) fun y3 =>
  fR_ringOf_L13 I P (fun l4 =>
      some l4) sm_fu l0 l1 l2 y3 0 0
set_option maxRecDepth 100000 in
theorem AfR_ringOf {dp : Nat} {I : am_M} {P : am_Q} {nx : Nat} {sl : Nat} {l0 : Nat} {l1 : Nat} {l2 : Int32} {y : Int32} (hy : fR_ringOf I P l0 l1 l2 = some y) : sm_T (dp + 5) 78 [.inr l0, .inr l1, .inl l2] (I, P, nx, sl) ((sm_g0 (I, P, nx, sl)) y) := by
  refine r_meth (d := am_d78) (dp := dp + 4) (ls0 := [some (.inr l0), some (.inr l1), some (.inl l2), none, none, none]) rfl (by decide) rfl rfl ?_ hy
  unfold fR_ringOf
  refine r_ck (fun h1 => ?_)
  refine r_aload rfl rfl (am_nz h1) ?_
  refine r_ck (fun h2 => ?_)
  refine r_aload rfl rfl (am_nz h2) ?_
  refine r_iload rfl rfl ?_
  refine r_call0 rfl rfl h1 (fun y hy => AfR_reachedFrom (dp := dp + 0) hy) (fun y3 => ?_)
  refine r_istore (ls' := [some (.inr l0), some (.inr l1), some (.inl l2), some (.inl y3), none, none]) rfl (Nat.le_of_ble_eq_true rfl) rfl ?_
  refine r_const (x := 0) rfl rfl ?_
  refine r_istore (ls' := [some (.inr l0), some (.inr l1), some (.inl l2), some (.inl y3), some (.inl 0), none]) rfl (Nat.le_of_ble_eq_true rfl) rfl ?_
  refine r_const (x := 0) rfl rfl ?_
  refine r_istore (ls' := [some (.inr l0), some (.inr l1), some (.inl l2), some (.inl y3), some (.inl 0), some (.inl 0)]) rfl (Nat.le_of_ble_eq_true rfl) rfl ?_
  refine AfR_ringOf_L13 ?_ sm_fu l0 l1 l2 y3 0 0
  · intro l4 o0 o1 o2 o3 o5
    refine r_iload rfl rfl ?_
    exact r_ireturn rfl (Or.inl rfl) rfl
noncomputable def fX_ring (P : am_Q) (l0 : Nat) (l1 : Int32) (I : am_M) : Option (Int32 × am_M) :=
  sm_ck (am_t l0 = 12) <|
  sm_ck (am_t (P l0 0) = 11) <|
  Option.bind (fW_hasBox I P (P l0 0) l1) fun y3 =>
  if ¬ y3 = 0 then
    (sm_ck (am_t (P l0 11) = 7) <|
    Option.bind (fR_ringOf I P (P l0 11) (P l0 0) l1) fun y6 =>
    some (y6, I))
  else
    (Option.bind (fX_found P l0 ((-1000001)) I) fun y7 =>
    some (y7.1, y7.2))
set_option maxRecDepth 100000 in
theorem AfX_ring {dp : Nat} {P : am_Q} {nx : Nat} {sl : Nat} {I : am_M} {l0 : Nat} {l1 : Int32} {y : Int32 × am_M} (hy : fX_ring P l0 l1 I = some y) : sm_T (dp + 6) 77 [.inr l0, .inl l1] (I, P, nx, sl) ((sm_g1 P nx sl) y) := by
  refine r_meth (d := am_d77) (dp := dp + 5) (ls0 := [some (.inr l0), some (.inl l1)]) rfl (by decide) rfl rfl ?_ hy
  unfold fX_ring
  refine r_ck (fun h1 => ?_)
  refine r_aload rfl rfl (am_nz h1) ?_
  refine r_getP rfl h1 ?_
  refine r_iload rfl rfl ?_
  refine r_ck (fun h2 => ?_)
  refine r_call0 rfl rfl h2 (fun y hy => AfW_hasBox (dp := dp + 4) hy) (fun y3 => ?_)
  refine r_if rfl rfl (fun c4 => ?_) (fun c4 => ?_)
  · refine r_aload rfl rfl (am_nz h1) ?_
    refine r_getP rfl h1 ?_
    refine r_aload rfl rfl (am_nz h1) ?_
    refine r_getP rfl h1 ?_
    refine r_iload rfl rfl ?_
    refine r_ck (fun h5 => ?_)
    refine r_call0 rfl rfl h5 (fun y hy => AfR_ringOf (dp := dp + 0) hy) (fun y6 => ?_)
    exact r_ireturn rfl (Or.inl rfl) rfl
  · refine r_aload rfl rfl (am_nz h1) ?_
    refine r_const (x := (-1000001)) rfl rfl ?_
    refine r_call1 rfl rfl h1 (fun y hy => AfX_found (dp := dp + 4) hy) (fun y7 => ?_)
    exact r_ireturn rfl (Or.inl rfl) rfl
noncomputable def fR_gather_J69 (P : am_Q) (r7 : Nat → Nat → Int32 → Int32 → am_M → Option (am_M)) (l0 : Nat) (l1 : Nat) (l2 : Int32) (l3 : Int32) (I : am_M) : Option (am_M) :=
  sm_bd (l3 + 1) fun x9 =>
  r7 l0 l1 l2 x9 I
set_option maxRecDepth 100000 in
theorem AfR_gather_J69 {dp : Nat} {P : am_Q} {nx : Nat} {sl : Nat} {r7 : Nat → Nat → Int32 → Int32 → am_M → Option (am_M)} (hr7 : ∀ (l0 : Nat) (l1 : Nat) (l2 : Int32) (l3 : Int32) (I : am_M) (o4 : Option am_V), sm (dp + 0) am_d82 7 [some (.inr l0), some (.inr l1), some (.inl l2), some (.inl l3), o4] [] (I, P, nx, sl) (sm_g2 P nx sl) (r7 l0 l1 l2 l3 I)) (l0 : Nat) (l1 : Nat) (l2 : Int32) (l3 : Int32) (I : am_M) (o4 : Option am_V) : sm (dp + 0) am_d82 69 [some (.inr l0), some (.inr l1), some (.inl l2), some (.inl l3), o4] [] (I, P, nx, sl) (sm_g2 P nx sl) (fR_gather_J69 P r7 l0 l1 l2 l3 I) := by
  unfold fR_gather_J69
  refine r_iinc (e := l3 + 1) (ls' := fun x9 => [some (.inr l0), some (.inr l1), some (.inl l2), some (.inl x9), o4]) rfl rfl rfl (fun _ => rfl) (fun x9 => ?_)
  refine r_goto rfl ?_
  exact hr7 l0 l1 l2 x9 I o4
noncomputable def fR_gather_B7 (P : am_Q) (e7_75 : am_M → Option (am_M)) (r7 : Nat → Nat → Int32 → Int32 → am_M → Option (am_M)) (l0 : Nat) (l1 : Nat) (l2 : Int32) (l3 : Int32) (I : am_M) : Option (am_M) :=
  sm_ck (am_t l1 = 11) <|
  if (I l1 7) ≤ l3 then
    (e7_75 I)
  else
    (sm_ck (sm_ia (P l1 10) l3) <|
    sm_bd (P (P l1 10) l3.toNatClampNeg) fun a6 =>
    sm_ck (am_t a6 = 8) <|
    if ¬ ((sm_shr l2 (I a6 0)) &&& 1) = 1 then
      (fR_gather_J69 P r7 l0 l1 l2 l3 I)
    else
      (if ¬ ((sm_shr l2 (I a6 2)) &&& 1) = 1 then
        (fR_gather_J69 P r7 l0 l1 l2 l3 I)
      else
        (sm_ck (am_t l0 = 7) <|
        sm_ck (sm_iw (P l0 1) (I l0 2)) <|
        sm_bd (am_up I (P l0 1) (I l0 2).toNatClampNeg l3) fun I13 =>
        sm_bd (am_up I13 l0 2 ((I13 l0 2) + 1)) fun I14 =>
        fR_gather_J69 P r7 l0 l1 l2 l3 I14)))
set_option maxRecDepth 100000 in
theorem AfR_gather_B7 {dp : Nat} {P : am_Q} {nx : Nat} {sl : Nat} {e7_75 : am_M → Option (am_M)} {r7 : Nat → Nat → Int32 → Int32 → am_M → Option (am_M)} (he7_75 : ∀ (I : am_M) (o0 : Option am_V) (o1 : Option am_V) (o2 : Option am_V) (o3 : Option am_V) (o4 : Option am_V), sm (dp + 0) am_d82 75 [o0, o1, o2, o3, o4] [] (I, P, nx, sl) (sm_g2 P nx sl) (e7_75 I)) (hr7 : ∀ (l0 : Nat) (l1 : Nat) (l2 : Int32) (l3 : Int32) (I : am_M) (o4 : Option am_V), sm (dp + 0) am_d82 7 [some (.inr l0), some (.inr l1), some (.inl l2), some (.inl l3), o4] [] (I, P, nx, sl) (sm_g2 P nx sl) (r7 l0 l1 l2 l3 I)) (l0 : Nat) (l1 : Nat) (l2 : Int32) (l3 : Int32) (I : am_M) (o4 : Option am_V) : sm (dp + 0) am_d82 7 [some (.inr l0), some (.inr l1), some (.inl l2), some (.inl l3), o4] [] (I, P, nx, sl) (sm_g2 P nx sl) (fR_gather_B7 P e7_75 r7 l0 l1 l2 l3 I) := by
  unfold fR_gather_B7
  refine r_iload rfl rfl ?_
  refine r_ck (fun h3 => ?_)
  refine r_aload rfl rfl (am_nz h3) ?_
  refine r_getI rfl h3 ?_
  refine r_icmp rfl rfl (fun c4 => ?_) (fun c4 => ?_)
  · exact he7_75 I (some (.inr l0)) (some (.inr l1)) (some (.inl l2)) (some (.inl l3)) o4
  · refine r_aload rfl rfl (am_nz h3) ?_
    refine r_getP rfl h3 ?_
    refine r_iload rfl rfl ?_
    refine r_ck (fun h5 => ?_)
    refine r_aald rfl h5 ?_
    refine r_bdA (fun a6 => ?_)
    refine r_ck (fun h7 => ?_)
    refine r_astore (ls' := [some (.inr l0), some (.inr l1), some (.inl l2), some (.inl l3), some (.inr a6)]) rfl (Nat.le_of_ble_eq_true rfl) (am_nz h7) rfl ?_
    refine r_iload rfl rfl ?_
    refine r_aload rfl rfl (am_nz h7) ?_
    refine r_getI rfl h7 ?_
    refine r_bin (z := sm_shr l2 (I a6 0)) rfl rfl (by decide) ?_
    refine r_const (x := 1) rfl rfl ?_
    refine r_bin (z := (sm_shr l2 (I a6 0)) &&& 1) rfl rfl (by decide) ?_
    refine r_const (x := 1) rfl rfl ?_
    refine r_icmp rfl rfl (fun c8 => ?_) (fun c8 => ?_)
    · exact AfR_gather_J69 hr7 l0 l1 l2 l3 I (some (.inr a6))
    · refine r_iload rfl rfl ?_
      refine r_aload rfl rfl (am_nz h7) ?_
      refine r_getI rfl h7 ?_
      refine r_bin (z := sm_shr l2 (I a6 2)) rfl rfl (by decide) ?_
      refine r_const (x := 1) rfl rfl ?_
      refine r_bin (z := (sm_shr l2 (I a6 2)) &&& 1) rfl rfl (by decide) ?_
      refine r_const (x := 1) rfl rfl ?_
      refine r_icmp rfl rfl (fun c10 => ?_) (fun c10 => ?_)
      · exact AfR_gather_J69 hr7 l0 l1 l2 l3 I (some (.inr a6))
      · refine r_ck (fun h11 => ?_)
        refine r_aload rfl rfl (am_nz h11) ?_
        refine r_getP rfl h11 ?_
        refine r_aload rfl rfl (am_nz h11) ?_
        refine r_getI rfl h11 ?_
        refine r_iload rfl rfl ?_
        refine r_ck (fun h12 => ?_)
        refine r_iast rfl h12 (fun I13 => ?_)
        refine r_aload rfl rfl (am_nz h11) ?_
        refine r_dup rfl ?_
        refine r_getI rfl h11 ?_
        refine r_const (x := 1) rfl rfl ?_
        refine r_bin (z := (I13 l0 2) + 1) rfl rfl (by decide) ?_
        refine r_putI rfl h11 (fun hz => absurd hz (by decide)) (fun I14 => ?_)
        exact AfR_gather_J69 hr7 l0 l1 l2 l3 I14 (some (.inr a6))
noncomputable def fR_gather_L7 (P : am_Q) (e7_75 : am_M → Option (am_M)) : Nat → Nat → Nat → Int32 → Int32 → am_M → Option (am_M)
  | 0, _, _, _, _, _ => none
  | n + 1, l0, l1, l2, l3, I => fR_gather_B7 P e7_75 (fR_gather_L7 P e7_75 n) l0 l1 l2 l3 I
theorem AfR_gather_L7 {dp : Nat} {P : am_Q} {nx : Nat} {sl : Nat} {e7_75 : am_M → Option (am_M)} (he7_75 : ∀ (I : am_M) (o0 : Option am_V) (o1 : Option am_V) (o2 : Option am_V) (o3 : Option am_V) (o4 : Option am_V), sm (dp + 0) am_d82 75 [o0, o1, o2, o3, o4] [] (I, P, nx, sl) (sm_g2 P nx sl) (e7_75 I)) (n : Nat) : ∀ (l0 : Nat) (l1 : Nat) (l2 : Int32) (l3 : Int32) (I : am_M) (o4 : Option am_V), sm (dp + 0) am_d82 7 [some (.inr l0), some (.inr l1), some (.inl l2), some (.inl l3), o4] [] (I, P, nx, sl) (sm_g2 P nx sl) (fR_gather_L7 P e7_75 n l0 l1 l2 l3 I) := by
  induction n with
  | zero => intro l0 l1 l2 l3 I o4; exact sm_none
  | succ n ih => intro l0 l1 l2 l3 I o4; exact AfR_gather_B7 he7_75 ih l0 l1 l2 l3 I o4
noncomputable def fR_gather (P : am_Q) (l0 : Nat) (l1 : Nat) (l2 : Int32) (I : am_M) : Option (am_M) :=
  sm_ck (am_t l0 = 7) <|
  sm_bd (am_up I l0 2 0) fun I2 =>
  fR_gather_L7 P (fun I =>
      some I) sm_fu l0 l1 l2 0 I2
set_option maxRecDepth 100000 in
theorem AfR_gather {dp : Nat} {P : am_Q} {nx : Nat} {sl : Nat} {I : am_M} {l0 : Nat} {l1 : Nat} {l2 : Int32} {y : am_M} (hy : fR_gather P l0 l1 l2 I = some y) : sm_T (dp + 1) 82 [.inr l0, .inr l1, .inl l2] (I, P, nx, sl) ((sm_g2 P nx sl) y) := by
  refine r_meth (d := am_d82) (dp := dp + 0) (ls0 := [some (.inr l0), some (.inr l1), some (.inl l2), none, none]) rfl (by decide) rfl rfl ?_ hy
  unfold fR_gather
  refine r_ck (fun h1 => ?_)
  refine r_aload rfl rfl (am_nz h1) ?_
  refine r_const (x := 0) rfl rfl ?_
  refine r_putI rfl h1 (fun hz => absurd hz (by decide)) (fun I2 => ?_)
  refine r_const (x := 0) rfl rfl ?_
  refine r_istore (ls' := [some (.inr l0), some (.inr l1), some (.inl l2), some (.inl 0), none]) rfl (Nat.le_of_ble_eq_true rfl) rfl ?_
  refine AfR_gather_L7 ?_ sm_fu l0 l1 l2 0 I2 none
  · intro I o0 o1 o2 o3 o4
    exact r_return rfl rfl
noncomputable def fS_copyFrom (P : am_Q) (l0 : Nat) (l1 : Nat) (I : am_M) : Option (am_M) :=
  sm_ck (am_t l0 = 8) <|
  sm_ck (am_t l1 = 8) <|
  sm_bd (am_up I l0 0 (I l1 0)) fun I3 =>
  sm_bd (am_up I3 l0 1 (I3 l1 1)) fun I4 =>
  sm_bd (am_up I4 l0 2 (I4 l1 2)) fun I5 =>
  sm_bd (am_up I5 l0 3 (I5 l1 3)) fun I6 =>
  sm_bd (am_up I6 l0 4 (I6 l1 4)) fun I7 =>
  sm_bd (am_up I7 l0 5 (I7 l1 5)) fun I8 =>
  sm_bd (am_up I8 l0 6 (I8 l1 6)) fun I9 =>
  sm_bd (am_up I9 l0 7 (I9 l1 7)) fun I10 =>
  sm_bd (am_up I10 l0 8 (I10 l1 8)) fun I11 =>
  sm_bd (am_up I11 l0 9 (I11 l1 9)) fun I12 =>
  some I12
set_option maxRecDepth 100000 in
theorem AfS_copyFrom {dp : Nat} {P : am_Q} {nx : Nat} {sl : Nat} {I : am_M} {l0 : Nat} {l1 : Nat} {y : am_M} (hy : fS_copyFrom P l0 l1 I = some y) : sm_T (dp + 1) 84 [.inr l0, .inr l1] (I, P, nx, sl) ((sm_g2 P nx sl) y) := by
  refine r_meth (d := am_d84) (dp := dp + 0) (ls0 := [some (.inr l0), some (.inr l1)]) rfl (by decide) rfl rfl ?_ hy
  unfold fS_copyFrom
  refine r_ck (fun h1 => ?_)
  refine r_aload rfl rfl (am_nz h1) ?_
  refine r_ck (fun h2 => ?_)
  refine r_aload rfl rfl (am_nz h2) ?_
  refine r_getI rfl h2 ?_
  refine r_putI rfl h1 (fun hz => absurd hz (by decide)) (fun I3 => ?_)
  refine r_aload rfl rfl (am_nz h1) ?_
  refine r_aload rfl rfl (am_nz h2) ?_
  refine r_getI rfl h2 ?_
  refine r_putI rfl h1 (fun hz => absurd hz (by decide)) (fun I4 => ?_)
  refine r_aload rfl rfl (am_nz h1) ?_
  refine r_aload rfl rfl (am_nz h2) ?_
  refine r_getI rfl h2 ?_
  refine r_putI rfl h1 (fun hz => absurd hz (by decide)) (fun I5 => ?_)
  refine r_aload rfl rfl (am_nz h1) ?_
  refine r_aload rfl rfl (am_nz h2) ?_
  refine r_getI rfl h2 ?_
  refine r_putI rfl h1 (fun hz => absurd hz (by decide)) (fun I6 => ?_)
  refine r_aload rfl rfl (am_nz h1) ?_
  refine r_aload rfl rfl (am_nz h2) ?_
  refine r_getI rfl h2 ?_
  refine r_putI rfl h1 (fun hz => absurd hz (by decide)) (fun I7 => ?_)
  refine r_aload rfl rfl (am_nz h1) ?_
  refine r_aload rfl rfl (am_nz h2) ?_
  refine r_getI rfl h2 ?_
  refine r_putI rfl h1 (fun hz => absurd hz (by decide)) (fun I8 => ?_)
  refine r_aload rfl rfl (am_nz h1) ?_
  refine r_aload rfl rfl (am_nz h2) ?_
  refine r_getI rfl h2 ?_
  refine r_putI rfl h1 (fun hz => absurd hz (by decide)) (fun I9 => ?_)
  refine r_aload rfl rfl (am_nz h1) ?_
  refine r_aload rfl rfl (am_nz h2) ?_
  refine r_getI rfl h2 ?_
  refine r_putI rfl h1 (fun hz => absurd hz (by decide)) (fun I10 => ?_)
  refine r_aload rfl rfl (am_nz h1) ?_
  refine r_aload rfl rfl (am_nz h2) ?_
  refine r_getI rfl h2 ?_
  refine r_putI rfl h1 (fun hz => absurd hz (by decide)) (fun I11 => ?_)
  refine r_aload rfl rfl (am_nz h1) ?_
  refine r_aload rfl rfl (am_nz h2) ?_
  refine r_getI rfl h2 ?_
  refine r_putI rfl h1 (fun hz => absurd hz (by decide)) (fun I12 => ?_)
  exact r_return rfl rfl
noncomputable def fW_copyFrom_B74 (e74_103 : Nat → Nat → am_M → am_Q → Nat → Nat → Option (am_S)) (r74 : Nat → Nat → Int32 → am_M → am_Q → Nat → Nat → Option (am_S)) (l0 : Nat) (l1 : Nat) (l2 : Int32) (I : am_M) (P : am_Q) (nx : Nat) (sl : Nat) : Option (am_S) :=
  sm_ck (am_t l0 = 11) <|
  if (I l0 6) ≤ l2 then
    (e74_103 l0 l1 I P nx sl)
  else
    (sm_ck (sm_ia (P l0 9) l2) <|
    sm_ck (am_t l1 = 11) <|
    sm_ck (sm_ia (P l1 9) l2) <|
    sm_ck (am_t (P (P l0 9) l2.toNatClampNeg) = 1) <|
    Option.bind (fB_copyFrom (P (P l0 9) l2.toNatClampNeg) (P (P l1 9) l2.toNatClampNeg) I P nx sl) fun y18 =>
    sm_bd (l2 + 1) fun x19 =>
    r74 l0 l1 x19 y18.1 y18.2.1 y18.2.2.1 y18.2.2.2)
set_option maxRecDepth 100000 in
theorem AfW_copyFrom_B74 {dp : Nat}  {e74_103 : Nat → Nat → am_M → am_Q → Nat → Nat → Option (am_S)} {r74 : Nat → Nat → Int32 → am_M → am_Q → Nat → Nat → Option (am_S)} (he74_103 : ∀ (l0 : Nat) (l1 : Nat) (I : am_M) (P : am_Q) (nx : Nat) (sl : Nat) (o2 : Option am_V), sm (dp + 1) am_d83 103 [some (.inr l0), some (.inr l1), o2] [] (I, P, nx, sl) sm_g4 (e74_103 l0 l1 I P nx sl)) (hr74 : ∀ (l0 : Nat) (l1 : Nat) (l2 : Int32) (I : am_M) (P : am_Q) (nx : Nat) (sl : Nat), sm (dp + 1) am_d83 74 [some (.inr l0), some (.inr l1), some (.inl l2)] [] (I, P, nx, sl) sm_g4 (r74 l0 l1 l2 I P nx sl)) (l0 : Nat) (l1 : Nat) (l2 : Int32) (I : am_M) (P : am_Q) (nx : Nat) (sl : Nat) : sm (dp + 1) am_d83 74 [some (.inr l0), some (.inr l1), some (.inl l2)] [] (I, P, nx, sl) sm_g4 (fW_copyFrom_B74 e74_103 r74 l0 l1 l2 I P nx sl) := by
  unfold fW_copyFrom_B74
  refine r_iload rfl rfl ?_
  refine r_ck (fun h12 => ?_)
  refine r_aload rfl rfl (am_nz h12) ?_
  refine r_getI rfl h12 ?_
  refine r_icmp rfl rfl (fun c13 => ?_) (fun c13 => ?_)
  · exact he74_103 l0 l1 I P nx sl (some (.inl l2))
  · refine r_aload rfl rfl (am_nz h12) ?_
    refine r_getP rfl h12 ?_
    refine r_iload rfl rfl ?_
    refine r_ck (fun h14 => ?_)
    refine r_aald rfl h14 ?_
    refine r_ck (fun h15 => ?_)
    refine r_aload rfl rfl (am_nz h15) ?_
    refine r_getP rfl h15 ?_
    refine r_iload rfl rfl ?_
    refine r_ck (fun h16 => ?_)
    refine r_aald rfl h16 ?_
    refine r_ck (fun h17 => ?_)
    refine r_call4 rfl rfl h17 (fun y hy => AfB_copyFrom (dp := dp + 0) hy) (fun y18 => ?_)
    refine r_iinc (e := l2 + 1) (ls' := fun x19 => [some (.inr l0), some (.inr l1), some (.inl x19)]) rfl rfl rfl (fun _ => rfl) (fun x19 => ?_)
    refine r_goto rfl ?_
    exact hr74 l0 l1 x19 y18.1 y18.2.1 y18.2.2.1 y18.2.2.2
noncomputable def fW_copyFrom_L74 (e74_103 : Nat → Nat → am_M → am_Q → Nat → Nat → Option (am_S)) : Nat → Nat → Nat → Int32 → am_M → am_Q → Nat → Nat → Option (am_S)
  | 0, _, _, _, _, _, _, _ => none
  | n + 1, l0, l1, l2, I, P, nx, sl => fW_copyFrom_B74 e74_103 (fW_copyFrom_L74 e74_103 n) l0 l1 l2 I P nx sl
theorem AfW_copyFrom_L74 {dp : Nat}  {e74_103 : Nat → Nat → am_M → am_Q → Nat → Nat → Option (am_S)} (he74_103 : ∀ (l0 : Nat) (l1 : Nat) (I : am_M) (P : am_Q) (nx : Nat) (sl : Nat) (o2 : Option am_V), sm (dp + 1) am_d83 103 [some (.inr l0), some (.inr l1), o2] [] (I, P, nx, sl) sm_g4 (e74_103 l0 l1 I P nx sl)) (n : Nat) : ∀ (l0 : Nat) (l1 : Nat) (l2 : Int32) (I : am_M) (P : am_Q) (nx : Nat) (sl : Nat), sm (dp + 1) am_d83 74 [some (.inr l0), some (.inr l1), some (.inl l2)] [] (I, P, nx, sl) sm_g4 (fW_copyFrom_L74 e74_103 n l0 l1 l2 I P nx sl) := by
  induction n with
  | zero => intro l0 l1 l2 I P nx sl; exact sm_none
  | succ n ih => intro l0 l1 l2 I P nx sl; exact AfW_copyFrom_B74 he74_103 ih l0 l1 l2 I P nx sl
noncomputable def fW_copyFrom_B105 (e105_134 : Nat → Nat → am_M → am_Q → Nat → Nat → Option (am_S)) (r105 : Nat → Nat → Int32 → am_M → am_Q → Nat → Nat → Option (am_S)) (l0 : Nat) (l1 : Nat) (l2 : Int32) (I : am_M) (P : am_Q) (nx : Nat) (sl : Nat) : Option (am_S) :=
  sm_ck (am_t l0 = 11) <|
  if (I l0 7) ≤ l2 then
    (e105_134 l0 l1 I P nx sl)
  else
    (sm_ck (sm_ia (P l0 10) l2) <|
    sm_ck (am_t l1 = 11) <|
    sm_ck (sm_ia (P l1 10) l2) <|
    sm_ck (am_t (P (P l0 10) l2.toNatClampNeg) = 8) <|
    Option.bind (fS_copyFrom P (P (P l0 10) l2.toNatClampNeg) (P (P l1 10) l2.toNatClampNeg) I) fun y26 =>
    sm_bd (l2 + 1) fun x27 =>
    r105 l0 l1 x27 y26 P nx sl)
set_option maxRecDepth 100000 in
theorem AfW_copyFrom_B105 {dp : Nat}  {e105_134 : Nat → Nat → am_M → am_Q → Nat → Nat → Option (am_S)} {r105 : Nat → Nat → Int32 → am_M → am_Q → Nat → Nat → Option (am_S)} (he105_134 : ∀ (l0 : Nat) (l1 : Nat) (I : am_M) (P : am_Q) (nx : Nat) (sl : Nat) (o2 : Option am_V), sm (dp + 1) am_d83 134 [some (.inr l0), some (.inr l1), o2] [] (I, P, nx, sl) sm_g4 (e105_134 l0 l1 I P nx sl)) (hr105 : ∀ (l0 : Nat) (l1 : Nat) (l2 : Int32) (I : am_M) (P : am_Q) (nx : Nat) (sl : Nat), sm (dp + 1) am_d83 105 [some (.inr l0), some (.inr l1), some (.inl l2)] [] (I, P, nx, sl) sm_g4 (r105 l0 l1 l2 I P nx sl)) (l0 : Nat) (l1 : Nat) (l2 : Int32) (I : am_M) (P : am_Q) (nx : Nat) (sl : Nat) : sm (dp + 1) am_d83 105 [some (.inr l0), some (.inr l1), some (.inl l2)] [] (I, P, nx, sl) sm_g4 (fW_copyFrom_B105 e105_134 r105 l0 l1 l2 I P nx sl) := by
  unfold fW_copyFrom_B105
  refine r_iload rfl rfl ?_
  refine r_ck (fun h20 => ?_)
  refine r_aload rfl rfl (am_nz h20) ?_
  refine r_getI rfl h20 ?_
  refine r_icmp rfl rfl (fun c21 => ?_) (fun c21 => ?_)
  · exact he105_134 l0 l1 I P nx sl (some (.inl l2))
  · refine r_aload rfl rfl (am_nz h20) ?_
    refine r_getP rfl h20 ?_
    refine r_iload rfl rfl ?_
    refine r_ck (fun h22 => ?_)
    refine r_aald rfl h22 ?_
    refine r_ck (fun h23 => ?_)
    refine r_aload rfl rfl (am_nz h23) ?_
    refine r_getP rfl h23 ?_
    refine r_iload rfl rfl ?_
    refine r_ck (fun h24 => ?_)
    refine r_aald rfl h24 ?_
    refine r_ck (fun h25 => ?_)
    refine r_call2 rfl rfl h25 (fun y hy => AfS_copyFrom (dp := dp + 0) hy) (fun y26 => ?_)
    refine r_iinc (e := l2 + 1) (ls' := fun x27 => [some (.inr l0), some (.inr l1), some (.inl x27)]) rfl rfl rfl (fun _ => rfl) (fun x27 => ?_)
    refine r_goto rfl ?_
    exact hr105 l0 l1 x27 y26 P nx sl
noncomputable def fW_copyFrom_L105 (e105_134 : Nat → Nat → am_M → am_Q → Nat → Nat → Option (am_S)) : Nat → Nat → Nat → Int32 → am_M → am_Q → Nat → Nat → Option (am_S)
  | 0, _, _, _, _, _, _, _ => none
  | n + 1, l0, l1, l2, I, P, nx, sl => fW_copyFrom_B105 e105_134 (fW_copyFrom_L105 e105_134 n) l0 l1 l2 I P nx sl
theorem AfW_copyFrom_L105 {dp : Nat}  {e105_134 : Nat → Nat → am_M → am_Q → Nat → Nat → Option (am_S)} (he105_134 : ∀ (l0 : Nat) (l1 : Nat) (I : am_M) (P : am_Q) (nx : Nat) (sl : Nat) (o2 : Option am_V), sm (dp + 1) am_d83 134 [some (.inr l0), some (.inr l1), o2] [] (I, P, nx, sl) sm_g4 (e105_134 l0 l1 I P nx sl)) (n : Nat) : ∀ (l0 : Nat) (l1 : Nat) (l2 : Int32) (I : am_M) (P : am_Q) (nx : Nat) (sl : Nat), sm (dp + 1) am_d83 105 [some (.inr l0), some (.inr l1), some (.inl l2)] [] (I, P, nx, sl) sm_g4 (fW_copyFrom_L105 e105_134 n l0 l1 l2 I P nx sl) := by
  induction n with
  | zero => intro l0 l1 l2 I P nx sl; exact sm_none
  | succ n ih => intro l0 l1 l2 I P nx sl; exact AfW_copyFrom_B105 he105_134 ih l0 l1 l2 I P nx sl
noncomputable def fW_copyFrom (l0 : Nat) (l1 : Nat) (I : am_M) (P : am_Q) (nx : Nat) (sl : Nat) : Option (am_S) :=
  sm_ck (am_t l0 = 11) <|
  sm_ck (am_t l1 = 11) <|
  sm_bd (am_up I l0 0 (I l1 0)) fun I3 =>
  sm_bd (am_up I3 l0 1 (I3 l1 1)) fun I4 =>
  sm_bd (am_up I4 l0 2 (I4 l1 2)) fun I5 =>
  sm_bd (am_up I5 l0 3 (I5 l1 3)) fun I6 =>
  sm_bd (am_up I6 l0 4 (I6 l1 4)) fun I7 =>
  sm_bd (am_up I7 l0 5 (I7 l1 5)) fun I8 =>
  sm_bd (am_up I8 l0 6 (I8 l1 6)) fun I9 =>
  sm_bd (am_up I9 l0 7 (I9 l1 7)) fun I10 =>
  sm_bd (am_up I10 l0 8 (I10 l1 8)) fun I11 =>
  fW_copyFrom_L74 (fun l0 l1 I P nx sl =>
      fW_copyFrom_L105 (fun l0 l1 I P nx sl =>
          sm_ck (am_t l1 = 11) <|
          sm_ck (am_t l0 = 11) <|
          sm_ck (sm_cp (P l1 11) 0 (P l0 11) 0 (I l0 6)) <|
          sm_bd (am_set I (P l0 11) (va_cpy (I (P l1 11)) (I (P l0 11)) (0 : Int32).toNatClampNeg (0 : Int32).toNatClampNeg (I l0 6).toNatClampNeg)) fun I31 =>
          sm_ck (sm_cp (P l1 12) 0 (P l0 12) 0 (2 * (I31 l0 6))) <|
          sm_bd (am_set I31 (P l0 12) (va_cpy (I31 (P l1 12)) (I31 (P l0 12)) (0 : Int32).toNatClampNeg (0 : Int32).toNatClampNeg (2 * (I31 l0 6)).toNatClampNeg)) fun I33 =>
          sm_ck (sm_cp (P l1 13) 0 (P l0 13) 0 (I33 l0 8)) <|
          sm_bd (am_set I33 (P l0 13) (va_cpy (I33 (P l1 13)) (I33 (P l0 13)) (0 : Int32).toNatClampNeg (0 : Int32).toNatClampNeg (I33 l0 8).toNatClampNeg)) fun I35 =>
          sm_ck (sm_cp (P l1 14) 0 (P l0 14) 0 (I35 l0 8)) <|
          sm_bd (am_set I35 (P l0 14) (va_cpy (I35 (P l1 14)) (I35 (P l0 14)) (0 : Int32).toNatClampNeg (0 : Int32).toNatClampNeg (I35 l0 8).toNatClampNeg)) fun I37 =>
          sm_ck (sm_cp (P l1 15) 0 (P l0 15) 0 (I37 l0 8)) <|
          sm_bd (am_set I37 (P l0 15) (va_cpy (I37 (P l1 15)) (I37 (P l0 15)) (0 : Int32).toNatClampNeg (0 : Int32).toNatClampNeg (I37 l0 8).toNatClampNeg)) fun I39 =>
          some (I39, P, nx, sl)) sm_fu l0 l1 0 I P nx sl) sm_fu l0 l1 0 I11 P nx sl
set_option maxRecDepth 100000 in
theorem AfW_copyFrom {dp : Nat}  {I : am_M} {P : am_Q} {nx : Nat} {sl : Nat} {l0 : Nat} {l1 : Nat} {y : am_S} (hy : fW_copyFrom l0 l1 I P nx sl = some y) : sm_T (dp + 2) 83 [.inr l0, .inr l1] (I, P, nx, sl) (sm_g4 y) := by
  refine r_meth (d := am_d83) (dp := dp + 1) (ls0 := [some (.inr l0), some (.inr l1), none]) rfl (by decide) rfl rfl ?_ hy
  unfold fW_copyFrom
  refine r_ck (fun h1 => ?_)
  refine r_aload rfl rfl (am_nz h1) ?_
  refine r_ck (fun h2 => ?_)
  refine r_aload rfl rfl (am_nz h2) ?_
  refine r_getI rfl h2 ?_
  refine r_putI rfl h1 (fun hz => absurd hz (by decide)) (fun I3 => ?_)
  refine r_aload rfl rfl (am_nz h1) ?_
  refine r_aload rfl rfl (am_nz h2) ?_
  refine r_getI rfl h2 ?_
  refine r_putI rfl h1 (fun hz => absurd hz (by decide)) (fun I4 => ?_)
  refine r_aload rfl rfl (am_nz h1) ?_
  refine r_aload rfl rfl (am_nz h2) ?_
  refine r_getI rfl h2 ?_
  refine r_putI rfl h1 (fun hz => absurd hz (by decide)) (fun I5 => ?_)
  refine r_aload rfl rfl (am_nz h1) ?_
  refine r_aload rfl rfl (am_nz h2) ?_
  refine r_getI rfl h2 ?_
  refine r_putI rfl h1 (fun hz => absurd hz (by decide)) (fun I6 => ?_)
  refine r_aload rfl rfl (am_nz h1) ?_
  refine r_aload rfl rfl (am_nz h2) ?_
  refine r_getI rfl h2 ?_
  refine r_putI rfl h1 (fun hz => absurd hz (by decide)) (fun I7 => ?_)
  refine r_aload rfl rfl (am_nz h1) ?_
  refine r_aload rfl rfl (am_nz h2) ?_
  refine r_getI rfl h2 ?_
  refine r_putI rfl h1 (fun hz => absurd hz (by decide)) (fun I8 => ?_)
  refine r_aload rfl rfl (am_nz h1) ?_
  refine r_aload rfl rfl (am_nz h2) ?_
  refine r_getI rfl h2 ?_
  refine r_putI rfl h1 (fun hz => absurd hz (by decide)) (fun I9 => ?_)
  refine r_aload rfl rfl (am_nz h1) ?_
  refine r_aload rfl rfl (am_nz h2) ?_
  refine r_getI rfl h2 ?_
  refine r_putI rfl h1 (fun hz => absurd hz (by decide)) (fun I10 => ?_)
  refine r_aload rfl rfl (am_nz h1) ?_
  refine r_aload rfl rfl (am_nz h2) ?_
  refine r_getI rfl h2 ?_
  refine r_putI rfl h1 (fun hz => absurd hz (by decide)) (fun I11 => ?_)
  refine r_const (x := 0) rfl rfl ?_
  refine r_istore (ls' := [some (.inr l0), some (.inr l1), some (.inl 0)]) rfl (Nat.le_of_ble_eq_true rfl) rfl ?_
  refine AfW_copyFrom_L74 ?_ sm_fu l0 l1 0 I11 P nx sl
  · intro l0 l1 I P nx sl o2
    refine r_const (x := 0) rfl rfl ?_
    refine r_istore (ls' := [some (.inr l0), some (.inr l1), some (.inl 0)]) rfl (Nat.le_of_ble_eq_true rfl) rfl ?_
    refine AfW_copyFrom_L105 ?_ sm_fu l0 l1 0 I P nx sl
    · intro l0 l1 I P nx sl o2
      refine r_ck (fun h28 => ?_)
      refine r_aload rfl rfl (am_nz h28) ?_
      refine r_getP rfl h28 ?_
      refine r_const (x := 0) rfl rfl ?_
      refine r_ck (fun h29 => ?_)
      refine r_aload rfl rfl (am_nz h29) ?_
      refine r_getP rfl h29 ?_
      refine r_const (x := 0) rfl rfl ?_
      refine r_aload rfl rfl (am_nz h29) ?_
      refine r_getI rfl h29 ?_
      refine r_ck (fun h30 => ?_)
      refine r_copy rfl h30 (Nat.le_of_ble_eq_true rfl) (fun I31 => ?_)
      refine r_aload rfl rfl (am_nz h28) ?_
      refine r_getP rfl h28 ?_
      refine r_const (x := 0) rfl rfl ?_
      refine r_aload rfl rfl (am_nz h29) ?_
      refine r_getP rfl h29 ?_
      refine r_const (x := 0) rfl rfl ?_
      refine r_const (x := 2) rfl rfl ?_
      refine r_aload rfl rfl (am_nz h29) ?_
      refine r_getI rfl h29 ?_
      refine r_bin (z := 2 * (I31 l0 6)) rfl rfl (by decide) ?_
      refine r_ck (fun h32 => ?_)
      refine r_copy rfl h32 (Nat.le_of_ble_eq_true rfl) (fun I33 => ?_)
      refine r_aload rfl rfl (am_nz h28) ?_
      refine r_getP rfl h28 ?_
      refine r_const (x := 0) rfl rfl ?_
      refine r_aload rfl rfl (am_nz h29) ?_
      refine r_getP rfl h29 ?_
      refine r_const (x := 0) rfl rfl ?_
      refine r_aload rfl rfl (am_nz h29) ?_
      refine r_getI rfl h29 ?_
      refine r_ck (fun h34 => ?_)
      refine r_copy rfl h34 (Nat.le_of_ble_eq_true rfl) (fun I35 => ?_)
      refine r_aload rfl rfl (am_nz h28) ?_
      refine r_getP rfl h28 ?_
      refine r_const (x := 0) rfl rfl ?_
      refine r_aload rfl rfl (am_nz h29) ?_
      refine r_getP rfl h29 ?_
      refine r_const (x := 0) rfl rfl ?_
      refine r_aload rfl rfl (am_nz h29) ?_
      refine r_getI rfl h29 ?_
      refine r_ck (fun h36 => ?_)
      refine r_copy rfl h36 (Nat.le_of_ble_eq_true rfl) (fun I37 => ?_)
      refine r_aload rfl rfl (am_nz h28) ?_
      refine r_getP rfl h28 ?_
      refine r_const (x := 0) rfl rfl ?_
      refine r_aload rfl rfl (am_nz h29) ?_
      refine r_getP rfl h29 ?_
      refine r_const (x := 0) rfl rfl ?_
      refine r_aload rfl rfl (am_nz h29) ?_
      refine r_getI rfl h29 ?_
      refine r_ck (fun h38 => ?_)
      refine r_copy rfl h38 (Nat.le_of_ble_eq_true rfl) (fun I39 => ?_)
      exact r_return rfl rfl
noncomputable def fX_openRing (l0 : Nat) (l1 : Int32) (I : am_M) (P : am_Q) (nx : Nat) (sl : Nat) : Option (Int32 × am_S) :=
  sm_ck (am_t l0 = 12) <|
  sm_ck (am_t (P l0 0) = 11) <|
  Option.bind (fW_hasBox I P (P l0 0) l1) fun y3 =>
  if ¬ y3 = 0 then
    (sm_ck (am_t (P l0 11) = 7) <|
    Option.bind (fR_ringOf I P (P l0 11) (P l0 0) l1) fun y6 =>
    if ¬ y6 = 0 then
      (Option.bind (fR_gather P (P l0 11) (P l0 0) y6 I) fun y8 =>
      if (y8 (P l0 11) 2) ≤ 3 then
        (sm_ck (am_t (P l0 1) = 11) <|
        Option.bind (fW_copyFrom (P l0 1) (P l0 0) y8 P nx sl) fun y11 =>
        some (0, y11.1, y11.2.1, y11.2.2.1, y11.2.2.2))
      else
        (some ((-1000007), y8, P, nx, sl)))
    else
      (some ((-1000004), I, P, nx, sl)))
  else
    (some ((-1000001), I, P, nx, sl))
set_option maxRecDepth 100000 in
theorem AfX_openRing {dp : Nat}  {I : am_M} {P : am_Q} {nx : Nat} {sl : Nat} {l0 : Nat} {l1 : Int32} {y : Int32 × am_S} (hy : fX_openRing l0 l1 I P nx sl = some y) : sm_T (dp + 6) 81 [.inr l0, .inl l1] (I, P, nx, sl) (sm_g3 y) := by
  refine r_meth (d := am_d81) (dp := dp + 5) (ls0 := [some (.inr l0), some (.inl l1), none]) rfl (by decide) rfl rfl ?_ hy
  unfold fX_openRing
  refine r_ck (fun h1 => ?_)
  refine r_aload rfl rfl (am_nz h1) ?_
  refine r_getP rfl h1 ?_
  refine r_iload rfl rfl ?_
  refine r_ck (fun h2 => ?_)
  refine r_call0 rfl rfl h2 (fun y hy => AfW_hasBox (dp := dp + 4) hy) (fun y3 => ?_)
  refine r_if rfl rfl (fun c4 => ?_) (fun c4 => ?_)
  · refine r_aload rfl rfl (am_nz h1) ?_
    refine r_getP rfl h1 ?_
    refine r_aload rfl rfl (am_nz h1) ?_
    refine r_getP rfl h1 ?_
    refine r_iload rfl rfl ?_
    refine r_ck (fun h5 => ?_)
    refine r_call0 rfl rfl h5 (fun y hy => AfR_ringOf (dp := dp + 0) hy) (fun y6 => ?_)
    refine r_istore (ls' := [some (.inr l0), some (.inl l1), some (.inl y6)]) rfl (Nat.le_of_ble_eq_true rfl) rfl ?_
    refine r_iload rfl rfl ?_
    refine r_if rfl rfl (fun c7 => ?_) (fun c7 => ?_)
    · refine r_aload rfl rfl (am_nz h1) ?_
      refine r_getP rfl h1 ?_
      refine r_aload rfl rfl (am_nz h1) ?_
      refine r_getP rfl h1 ?_
      refine r_iload rfl rfl ?_
      refine r_call2 rfl rfl h5 (fun y hy => AfR_gather (dp := dp + 4) hy) (fun y8 => ?_)
      refine r_aload rfl rfl (am_nz h1) ?_
      refine r_getP rfl h1 ?_
      refine r_getI rfl h5 ?_
      refine r_const (x := 3) rfl rfl ?_
      refine r_icmp rfl rfl (fun c9 => ?_) (fun c9 => ?_)
      · refine r_aload rfl rfl (am_nz h1) ?_
        refine r_getP rfl h1 ?_
        refine r_aload rfl rfl (am_nz h1) ?_
        refine r_getP rfl h1 ?_
        refine r_ck (fun h10 => ?_)
        refine r_call4 rfl rfl h10 (fun y hy => AfW_copyFrom (dp := dp + 3) hy) (fun y11 => ?_)
        refine r_const (x := 0) rfl rfl ?_
        exact r_ireturn rfl (Or.inl rfl) rfl
      · refine r_const (x := (-1000007)) rfl rfl ?_
        exact r_ireturn rfl (Or.inl rfl) rfl
    · refine r_const (x := (-1000004)) rfl rfl ?_
      exact r_ireturn rfl (Or.inl rfl) rfl
  · refine r_const (x := (-1000001)) rfl rfl ?_
    exact r_ireturn rfl (Or.inl rfl) rfl
noncomputable def fR_isAnswer_B2 (P : am_Q) (e2_50 : Nat → Nat → Int32 → am_M → Option (Int32 × am_M)) (r2 : Nat → Nat → Int32 → Int32 → am_M → Option (Int32 × am_M)) (l0 : Nat) (l1 : Nat) (l2 : Int32) (l3 : Int32) (I : am_M) : Option (Int32 × am_M) :=
  if l2 ≤ l3 then
    (e2_50 l0 l1 l2 I)
  else
    (sm_ck (am_t l1 = 11) <|
    sm_ck (am_t l0 = 7) <|
    sm_ck (sm_in (P l0 1) l3) <|
    sm_ck (sm_ia (P l1 10) (I (P l0 1) l3.toNatClampNeg)) <|
    sm_bd (P (P l1 10) (I (P l0 1) l3.toNatClampNeg).toNatClampNeg) fun a6 =>
    sm_ck (am_t a6 = 8) <|
    sm_ck (sm_ia (P l1 9) (I a6 2)) <|
    sm_ck (sm_in (P l0 3) l3) <|
    sm_ck (am_t (P (P l1 9) (I a6 2).toNatClampNeg) = 1) <|
    Option.bind (fB_tellIn P (P (P l1 9) (I a6 2).toNatClampNeg) (I a6 3) (I (P l0 3) l3.toNatClampNeg) I) fun y11 =>
    sm_bd (l3 + 1) fun x12 =>
    r2 l0 l1 l2 x12 y11)
set_option maxRecDepth 100000 in
theorem AfR_isAnswer_B2 {dp : Nat} {P : am_Q} {nx : Nat} {sl : Nat} {e2_50 : Nat → Nat → Int32 → am_M → Option (Int32 × am_M)} {r2 : Nat → Nat → Int32 → Int32 → am_M → Option (Int32 × am_M)} (he2_50 : ∀ (l0 : Nat) (l1 : Nat) (l2 : Int32) (I : am_M) (o3 : Option am_V) (o4 : Option am_V), sm (dp + 2) am_d86 50 [some (.inr l0), some (.inr l1), some (.inl l2), o3, o4] [] (I, P, nx, sl) (sm_g1 P nx sl) (e2_50 l0 l1 l2 I)) (hr2 : ∀ (l0 : Nat) (l1 : Nat) (l2 : Int32) (l3 : Int32) (I : am_M) (o4 : Option am_V), sm (dp + 2) am_d86 2 [some (.inr l0), some (.inr l1), some (.inl l2), some (.inl l3), o4] [] (I, P, nx, sl) (sm_g1 P nx sl) (r2 l0 l1 l2 l3 I)) (l0 : Nat) (l1 : Nat) (l2 : Int32) (l3 : Int32) (I : am_M) (o4 : Option am_V) : sm (dp + 2) am_d86 2 [some (.inr l0), some (.inr l1), some (.inl l2), some (.inl l3), o4] [] (I, P, nx, sl) (sm_g1 P nx sl) (fR_isAnswer_B2 P e2_50 r2 l0 l1 l2 l3 I) := by
  unfold fR_isAnswer_B2
  refine r_iload rfl rfl ?_
  refine r_iload rfl rfl ?_
  refine r_icmp rfl rfl (fun c1 => ?_) (fun c1 => ?_)
  · exact he2_50 l0 l1 l2 I (some (.inl l3)) o4
  · refine r_ck (fun h2 => ?_)
    refine r_aload rfl rfl (am_nz h2) ?_
    refine r_getP rfl h2 ?_
    refine r_ck (fun h3 => ?_)
    refine r_aload rfl rfl (am_nz h3) ?_
    refine r_getP rfl h3 ?_
    refine r_iload rfl rfl ?_
    refine r_ck (fun h4 => ?_)
    refine r_iald rfl h4 ?_
    refine r_ck (fun h5 => ?_)
    refine r_aald rfl h5 ?_
    refine r_bdA (fun a6 => ?_)
    refine r_ck (fun h7 => ?_)
    refine r_astore (ls' := [some (.inr l0), some (.inr l1), some (.inl l2), some (.inl l3), some (.inr a6)]) rfl (Nat.le_of_ble_eq_true rfl) (am_nz h7) rfl ?_
    refine r_aload rfl rfl (am_nz h2) ?_
    refine r_getP rfl h2 ?_
    refine r_aload rfl rfl (am_nz h7) ?_
    refine r_getI rfl h7 ?_
    refine r_ck (fun h8 => ?_)
    refine r_aald rfl h8 ?_
    refine r_aload rfl rfl (am_nz h7) ?_
    refine r_getI rfl h7 ?_
    refine r_aload rfl rfl (am_nz h3) ?_
    refine r_getP rfl h3 ?_
    refine r_iload rfl rfl ?_
    refine r_ck (fun h9 => ?_)
    refine r_iald rfl h9 ?_
    refine r_ck (fun h10 => ?_)
    refine r_call2 rfl rfl h10 (fun y hy => AfB_tellIn (dp := dp + 1) hy) (fun y11 => ?_)
    refine r_iinc (e := l3 + 1) (ls' := fun x12 => [some (.inr l0), some (.inr l1), some (.inl l2), some (.inl x12), some (.inr a6)]) rfl rfl rfl (fun _ => rfl) (fun x12 => ?_)
    refine r_goto rfl ?_
    exact hr2 l0 l1 l2 x12 y11 (some (.inr a6))
noncomputable def fR_isAnswer_L2 (P : am_Q) (e2_50 : Nat → Nat → Int32 → am_M → Option (Int32 × am_M)) : Nat → Nat → Nat → Int32 → Int32 → am_M → Option (Int32 × am_M)
  | 0, _, _, _, _, _ => none
  | n + 1, l0, l1, l2, l3, I => fR_isAnswer_B2 P e2_50 (fR_isAnswer_L2 P e2_50 n) l0 l1 l2 l3 I
theorem AfR_isAnswer_L2 {dp : Nat} {P : am_Q} {nx : Nat} {sl : Nat} {e2_50 : Nat → Nat → Int32 → am_M → Option (Int32 × am_M)} (he2_50 : ∀ (l0 : Nat) (l1 : Nat) (l2 : Int32) (I : am_M) (o3 : Option am_V) (o4 : Option am_V), sm (dp + 2) am_d86 50 [some (.inr l0), some (.inr l1), some (.inl l2), o3, o4] [] (I, P, nx, sl) (sm_g1 P nx sl) (e2_50 l0 l1 l2 I)) (n : Nat) : ∀ (l0 : Nat) (l1 : Nat) (l2 : Int32) (l3 : Int32) (I : am_M) (o4 : Option am_V), sm (dp + 2) am_d86 2 [some (.inr l0), some (.inr l1), some (.inl l2), some (.inl l3), o4] [] (I, P, nx, sl) (sm_g1 P nx sl) (fR_isAnswer_L2 P e2_50 n l0 l1 l2 l3 I) := by
  induction n with
  | zero => intro l0 l1 l2 l3 I o4; exact sm_none
  | succ n ih => intro l0 l1 l2 l3 I o4; exact AfR_isAnswer_B2 he2_50 ih l0 l1 l2 l3 I o4
noncomputable def fR_isAnswer_B52 (P : am_Q) (e52_111 : am_M → Option (Int32 × am_M)) (e52_119 : am_M → Option (Int32 × am_M)) (r52 : Nat → Nat → Int32 → Int32 → am_M → Option (Int32 × am_M)) (l0 : Nat) (l1 : Nat) (l2 : Int32) (l3 : Int32) (I : am_M) : Option (Int32 × am_M) :=
  if l2 ≤ l3 then
    (e52_119 I)
  else
    (sm_ck (am_t l1 = 11) <|
    sm_ck (am_t l0 = 7) <|
    sm_ck (sm_in (P l0 1) l3) <|
    sm_ck (sm_ia (P l1 10) (I (P l0 1) l3.toNatClampNeg)) <|
    sm_bd (P (P l1 10) (I (P l0 1) l3.toNatClampNeg).toNatClampNeg) fun a18 =>
    sm_ck (am_t a18 = 8) <|
    sm_ck (sm_ia (P l1 9) (I a18 0)) <|
    sm_ck (am_t (P l0 0) = 6) <|
    Option.bind (fK_work P (P l0 0) (P (P l1 9) (I a18 0).toNatClampNeg) (2 + (I a18 1)) (I l1 1) (I l1 0) I) fun y22 =>
    sm_ck (sm_in (P l0 3) l3) <|
    if y22.1 = (y22.2 (P l0 3) l3.toNatClampNeg) then
      (sm_bd (l3 + 1) fun x25 =>
      r52 l0 l1 l2 x25 y22.2)
    else
      (e52_111 y22.2))
set_option maxRecDepth 100000 in
theorem AfR_isAnswer_B52 {dp : Nat} {P : am_Q} {nx : Nat} {sl : Nat} {e52_111 : am_M → Option (Int32 × am_M)} {e52_119 : am_M → Option (Int32 × am_M)} {r52 : Nat → Nat → Int32 → Int32 → am_M → Option (Int32 × am_M)} (he52_111 : ∀ (I : am_M) (o0 : Option am_V) (o1 : Option am_V) (o2 : Option am_V) (o3 : Option am_V) (o4 : Option am_V), sm (dp + 2) am_d86 111 [o0, o1, o2, o3, o4] [] (I, P, nx, sl) (sm_g1 P nx sl) (e52_111 I)) (he52_119 : ∀ (I : am_M) (o0 : Option am_V) (o1 : Option am_V) (o2 : Option am_V) (o3 : Option am_V) (o4 : Option am_V), sm (dp + 2) am_d86 119 [o0, o1, o2, o3, o4] [] (I, P, nx, sl) (sm_g1 P nx sl) (e52_119 I)) (hr52 : ∀ (l0 : Nat) (l1 : Nat) (l2 : Int32) (l3 : Int32) (I : am_M) (o4 : Option am_V), sm (dp + 2) am_d86 52 [some (.inr l0), some (.inr l1), some (.inl l2), some (.inl l3), o4] [] (I, P, nx, sl) (sm_g1 P nx sl) (r52 l0 l1 l2 l3 I)) (l0 : Nat) (l1 : Nat) (l2 : Int32) (l3 : Int32) (I : am_M) (o4 : Option am_V) : sm (dp + 2) am_d86 52 [some (.inr l0), some (.inr l1), some (.inl l2), some (.inl l3), o4] [] (I, P, nx, sl) (sm_g1 P nx sl) (fR_isAnswer_B52 P e52_111 e52_119 r52 l0 l1 l2 l3 I) := by
  unfold fR_isAnswer_B52
  refine r_iload rfl rfl ?_
  refine r_iload rfl rfl ?_
  refine r_icmp rfl rfl (fun c13 => ?_) (fun c13 => ?_)
  · exact he52_119 I (some (.inr l0)) (some (.inr l1)) (some (.inl l2)) (some (.inl l3)) o4
  · refine r_ck (fun h14 => ?_)
    refine r_aload rfl rfl (am_nz h14) ?_
    refine r_getP rfl h14 ?_
    refine r_ck (fun h15 => ?_)
    refine r_aload rfl rfl (am_nz h15) ?_
    refine r_getP rfl h15 ?_
    refine r_iload rfl rfl ?_
    refine r_ck (fun h16 => ?_)
    refine r_iald rfl h16 ?_
    refine r_ck (fun h17 => ?_)
    refine r_aald rfl h17 ?_
    refine r_bdA (fun a18 => ?_)
    refine r_ck (fun h19 => ?_)
    refine r_astore (ls' := [some (.inr l0), some (.inr l1), some (.inl l2), some (.inl l3), some (.inr a18)]) rfl (Nat.le_of_ble_eq_true rfl) (am_nz h19) rfl ?_
    refine r_aload rfl rfl (am_nz h15) ?_
    refine r_getP rfl h15 ?_
    refine r_aload rfl rfl (am_nz h14) ?_
    refine r_getP rfl h14 ?_
    refine r_aload rfl rfl (am_nz h19) ?_
    refine r_getI rfl h19 ?_
    refine r_ck (fun h20 => ?_)
    refine r_aald rfl h20 ?_
    refine r_const (x := 2) rfl rfl ?_
    refine r_aload rfl rfl (am_nz h19) ?_
    refine r_getI rfl h19 ?_
    refine r_bin (z := 2 + (I a18 1)) rfl rfl (by decide) ?_
    refine r_aload rfl rfl (am_nz h14) ?_
    refine r_getI rfl h14 ?_
    refine r_aload rfl rfl (am_nz h14) ?_
    refine r_getI rfl h14 ?_
    refine r_ck (fun h21 => ?_)
    refine r_call1 rfl rfl h21 (fun y hy => AfK_work (dp := dp + 0) hy) (fun y22 => ?_)
    refine r_aload rfl rfl (am_nz h15) ?_
    refine r_getP rfl h15 ?_
    refine r_iload rfl rfl ?_
    refine r_ck (fun h23 => ?_)
    refine r_iald rfl h23 ?_
    refine r_icmp rfl rfl (fun c24 => ?_) (fun c24 => ?_)
    · refine r_iinc (e := l3 + 1) (ls' := fun x25 => [some (.inr l0), some (.inr l1), some (.inl l2), some (.inl x25), some (.inr a18)]) rfl rfl rfl (fun _ => rfl) (fun x25 => ?_)
      refine r_goto rfl ?_
      exact hr52 l0 l1 l2 x25 y22.2 (some (.inr a18))
    · exact he52_111 y22.2 (some (.inr l0)) (some (.inr l1)) (some (.inl l2)) (some (.inl l3)) (some (.inr a18))
noncomputable def fR_isAnswer_L52 (P : am_Q) (e52_111 : am_M → Option (Int32 × am_M)) (e52_119 : am_M → Option (Int32 × am_M)) : Nat → Nat → Nat → Int32 → Int32 → am_M → Option (Int32 × am_M)
  | 0, _, _, _, _, _ => none
  | n + 1, l0, l1, l2, l3, I => fR_isAnswer_B52 P e52_111 e52_119 (fR_isAnswer_L52 P e52_111 e52_119 n) l0 l1 l2 l3 I
theorem AfR_isAnswer_L52 {dp : Nat} {P : am_Q} {nx : Nat} {sl : Nat} {e52_111 : am_M → Option (Int32 × am_M)} {e52_119 : am_M → Option (Int32 × am_M)} (he52_111 : ∀ (I : am_M) (o0 : Option am_V) (o1 : Option am_V) (o2 : Option am_V) (o3 : Option am_V) (o4 : Option am_V), sm (dp + 2) am_d86 111 [o0, o1, o2, o3, o4] [] (I, P, nx, sl) (sm_g1 P nx sl) (e52_111 I)) (he52_119 : ∀ (I : am_M) (o0 : Option am_V) (o1 : Option am_V) (o2 : Option am_V) (o3 : Option am_V) (o4 : Option am_V), sm (dp + 2) am_d86 119 [o0, o1, o2, o3, o4] [] (I, P, nx, sl) (sm_g1 P nx sl) (e52_119 I)) (n : Nat) : ∀ (l0 : Nat) (l1 : Nat) (l2 : Int32) (l3 : Int32) (I : am_M) (o4 : Option am_V), sm (dp + 2) am_d86 52 [some (.inr l0), some (.inr l1), some (.inl l2), some (.inl l3), o4] [] (I, P, nx, sl) (sm_g1 P nx sl) (fR_isAnswer_L52 P e52_111 e52_119 n l0 l1 l2 l3 I) := by
  induction n with
  | zero => intro l0 l1 l2 l3 I o4; exact sm_none
  | succ n ih => intro l0 l1 l2 l3 I o4; exact AfR_isAnswer_B52 he52_111 he52_119 ih l0 l1 l2 l3 I o4
noncomputable def fR_isAnswer (P : am_Q) (l0 : Nat) (l1 : Nat) (l2 : Int32) (I : am_M) : Option (Int32 × am_M) :=
  fR_isAnswer_L2 P (fun l0 l1 l2 I =>
      fR_isAnswer_L52 P (fun I =>
          some (0, I)) (fun I =>
          some (1, I)) sm_fu l0 l1 l2 0 I) sm_fu l0 l1 l2 0 I
set_option maxRecDepth 100000 in
theorem AfR_isAnswer {dp : Nat} {P : am_Q} {nx : Nat} {sl : Nat} {I : am_M} {l0 : Nat} {l1 : Nat} {l2 : Int32} {y : Int32 × am_M} (hy : fR_isAnswer P l0 l1 l2 I = some y) : sm_T (dp + 3) 86 [.inr l0, .inr l1, .inl l2] (I, P, nx, sl) ((sm_g1 P nx sl) y) := by
  refine r_meth (d := am_d86) (dp := dp + 2) (ls0 := [some (.inr l0), some (.inr l1), some (.inl l2), none, none]) rfl (by decide) rfl rfl ?_ hy
  unfold fR_isAnswer
  refine r_const (x := 0) rfl rfl ?_
  refine r_istore (ls' := [some (.inr l0), some (.inr l1), some (.inl l2), some (.inl 0), none]) rfl (Nat.le_of_ble_eq_true rfl) rfl ?_
  refine AfR_isAnswer_L2 ?_ sm_fu l0 l1 l2 0 I none
  · intro l0 l1 l2 I o3 o4
    refine r_const (x := 0) rfl rfl ?_
    refine r_istore (ls' := [some (.inr l0), some (.inr l1), some (.inl l2), some (.inl 0), o4]) rfl (Nat.le_of_ble_eq_true rfl) rfl ?_
    refine AfR_isAnswer_L52 ?_ ?_ sm_fu l0 l1 l2 0 I o4
    · intro I o0 o1 o2 o3 o4
      refine r_const (x := 0) rfl rfl ?_
      exact r_ireturn rfl (Or.inr ⟨rfl, sm_010⟩) rfl
    · intro I o0 o1 o2 o3 o4
      refine r_const (x := 1) rfl rfl ?_
      exact r_ireturn rfl (Or.inr ⟨rfl, sm_011⟩) rfl
noncomputable def fX_advance_B4 (P : am_Q) (e4_22 : am_M → Option (am_M)) (e4_33 : am_M → Option (am_M)) (r4 : Nat → Int32 → Int32 → am_M → Option (am_M)) (l0 : Nat) (l2 : Int32) (l3 : Int32) (I : am_M) : Option (am_M) :=
  if l3 < 0 then
    (e4_33 I)
  else
    (sm_ck (am_t l0 = 20) <|
    sm_ck (sm_in l0 l3) <|
    sm_ck (sm_iw l0 l3) <|
    sm_bd (am_up I l0 l3.toNatClampNeg ((I l0 l3.toNatClampNeg) + 1)) fun I6 =>
    sm_ck (sm_in l0 l3) <|
    if l2 ≤ (I6 l0 l3.toNatClampNeg) then
      (sm_ck (sm_iw l0 l3) <|
      sm_bd (am_up I6 l0 l3.toNatClampNeg 0) fun I10 =>
      sm_bd (l3 + (-1)) fun x11 =>
      r4 l0 l2 x11 I10)
    else
      (e4_22 I6))
set_option maxRecDepth 100000 in
theorem AfX_advance_B4 {dp : Nat} {P : am_Q} {nx : Nat} {sl : Nat} {e4_22 : am_M → Option (am_M)} {e4_33 : am_M → Option (am_M)} {r4 : Nat → Int32 → Int32 → am_M → Option (am_M)} (he4_22 : ∀ (I : am_M) (o0 : Option am_V) (o1 : Option am_V) (o2 : Option am_V) (o3 : Option am_V), sm (dp + 0) am_d87 22 [o0, o1, o2, o3] [] (I, P, nx, sl) (sm_g2 P nx sl) (e4_22 I)) (he4_33 : ∀ (I : am_M) (o0 : Option am_V) (o1 : Option am_V) (o2 : Option am_V) (o3 : Option am_V), sm (dp + 0) am_d87 33 [o0, o1, o2, o3] [] (I, P, nx, sl) (sm_g2 P nx sl) (e4_33 I)) (hr4 : ∀ (l0 : Nat) (l2 : Int32) (l3 : Int32) (I : am_M) (o1 : Option am_V), sm (dp + 0) am_d87 4 [some (.inr l0), o1, some (.inl l2), some (.inl l3)] [] (I, P, nx, sl) (sm_g2 P nx sl) (r4 l0 l2 l3 I)) (l0 : Nat) (l2 : Int32) (l3 : Int32) (I : am_M) (o1 : Option am_V) : sm (dp + 0) am_d87 4 [some (.inr l0), o1, some (.inl l2), some (.inl l3)] [] (I, P, nx, sl) (sm_g2 P nx sl) (fX_advance_B4 P e4_22 e4_33 r4 l0 l2 l3 I) := by
  unfold fX_advance_B4
  refine r_iload rfl rfl ?_
  refine r_if rfl rfl (fun c2 => ?_) (fun c2 => ?_)
  · exact he4_33 I (some (.inr l0)) o1 (some (.inl l2)) (some (.inl l3))
  · refine r_ck (fun h3 => ?_)
    refine r_aload rfl rfl (am_nz h3) ?_
    refine r_iload rfl rfl ?_
    refine r_dup2 rfl ?_
    refine r_ck (fun h4 => ?_)
    refine r_iald rfl h4 ?_
    refine r_const (x := 1) rfl rfl ?_
    refine r_bin (z := (I l0 l3.toNatClampNeg) + 1) rfl rfl (by decide) ?_
    refine r_ck (fun h5 => ?_)
    refine r_iast rfl h5 (fun I6 => ?_)
    refine r_aload rfl rfl (am_nz h3) ?_
    refine r_iload rfl rfl ?_
    refine r_ck (fun h7 => ?_)
    refine r_iald rfl h7 ?_
    refine r_iload rfl rfl ?_
    refine r_icmp rfl rfl (fun c8 => ?_) (fun c8 => ?_)
    · refine r_aload rfl rfl (am_nz h3) ?_
      refine r_iload rfl rfl ?_
      refine r_const (x := 0) rfl rfl ?_
      refine r_ck (fun h9 => ?_)
      refine r_iast rfl h9 (fun I10 => ?_)
      refine r_iinc (e := l3 + (-1)) (ls' := fun x11 => [some (.inr l0), o1, some (.inl l2), some (.inl x11)]) rfl rfl rfl (fun _ => rfl) (fun x11 => ?_)
      refine r_goto rfl ?_
      exact hr4 l0 l2 x11 I10 o1
    · exact he4_22 I6 (some (.inr l0)) o1 (some (.inl l2)) (some (.inl l3))
noncomputable def fX_advance_L4 (P : am_Q) (e4_22 : am_M → Option (am_M)) (e4_33 : am_M → Option (am_M)) : Nat → Nat → Int32 → Int32 → am_M → Option (am_M)
  | 0, _, _, _, _ => none
  | n + 1, l0, l2, l3, I => fX_advance_B4 P e4_22 e4_33 (fX_advance_L4 P e4_22 e4_33 n) l0 l2 l3 I
theorem AfX_advance_L4 {dp : Nat} {P : am_Q} {nx : Nat} {sl : Nat} {e4_22 : am_M → Option (am_M)} {e4_33 : am_M → Option (am_M)} (he4_22 : ∀ (I : am_M) (o0 : Option am_V) (o1 : Option am_V) (o2 : Option am_V) (o3 : Option am_V), sm (dp + 0) am_d87 22 [o0, o1, o2, o3] [] (I, P, nx, sl) (sm_g2 P nx sl) (e4_22 I)) (he4_33 : ∀ (I : am_M) (o0 : Option am_V) (o1 : Option am_V) (o2 : Option am_V) (o3 : Option am_V), sm (dp + 0) am_d87 33 [o0, o1, o2, o3] [] (I, P, nx, sl) (sm_g2 P nx sl) (e4_33 I)) (n : Nat) : ∀ (l0 : Nat) (l2 : Int32) (l3 : Int32) (I : am_M) (o1 : Option am_V), sm (dp + 0) am_d87 4 [some (.inr l0), o1, some (.inl l2), some (.inl l3)] [] (I, P, nx, sl) (sm_g2 P nx sl) (fX_advance_L4 P e4_22 e4_33 n l0 l2 l3 I) := by
  induction n with
  | zero => intro l0 l2 l3 I o1; exact sm_none
  | succ n ih => intro l0 l2 l3 I o1; exact AfX_advance_B4 he4_22 he4_33 ih l0 l2 l3 I o1
noncomputable def fX_advance (P : am_Q) (l0 : Nat) (l1 : Int32) (l2 : Int32) (I : am_M) : Option (am_M) :=
  sm_bd (l1 - 1) fun x1 =>
  fX_advance_L4 P (fun I =>
      some I) (fun I =>
      some I) sm_fu l0 l2 x1 I
set_option maxRecDepth 100000 in
theorem AfX_advance {dp : Nat} {P : am_Q} {nx : Nat} {sl : Nat} {I : am_M} {l0 : Nat} {l1 : Int32} {l2 : Int32} {y : am_M} (hy : fX_advance P l0 l1 l2 I = some y) : sm_T (dp + 1) 87 [.inr l0, .inl l1, .inl l2] (I, P, nx, sl) ((sm_g2 P nx sl) y) := by
  refine r_meth (d := am_d87) (dp := dp + 0) (ls0 := [some (.inr l0), some (.inl l1), some (.inl l2), none]) rfl (by decide) rfl rfl ?_ hy
  unfold fX_advance
  refine r_iload rfl rfl ?_
  refine r_const (x := 1) rfl rfl ?_
  refine r_bin (z := l1 - 1) rfl rfl (by decide) ?_
  refine r_bd (fun x1 => ?_)
  refine r_istore (ls' := [some (.inr l0), some (.inl l1), some (.inl l2), some (.inl x1)]) rfl (Nat.le_of_ble_eq_true rfl) rfl ?_
  refine AfX_advance_L4 ?_ ?_ sm_fu l0 l2 x1 I (some (.inl l1))
  · intro I o0 o1 o2 o3
    exact r_return rfl rfl
  · intro I o0 o1 o2 o3
    exact r_return rfl rfl
noncomputable def fR_search_B23 (P : am_Q) (e23_44 : Nat → Nat → Int32 → Int32 → Int32 → am_M → Option (Int32 × am_M)) (r23 : Nat → Nat → Int32 → Int32 → Int32 → Int32 → am_M → Option (Int32 × am_M)) (l0 : Nat) (l1 : Nat) (l2 : Int32) (l3 : Int32) (l4 : Int32) (l5 : Int32) (I : am_M) : Option (Int32 × am_M) :=
  if l3 ≤ l5 then
    (e23_44 l0 l1 l2 l3 l4 I)
  else
    (sm_ck (am_t l1 = 11) <|
    sm_bd (l4 * (I l1 0)) fun x6 =>
    sm_bd (l5 + 1) fun x7 =>
    r23 l0 l1 l2 l3 x6 x7 I)
set_option maxRecDepth 100000 in
theorem AfR_search_B23 {dp : Nat} {P : am_Q} {nx : Nat} {sl : Nat} {e23_44 : Nat → Nat → Int32 → Int32 → Int32 → am_M → Option (Int32 × am_M)} {r23 : Nat → Nat → Int32 → Int32 → Int32 → Int32 → am_M → Option (Int32 × am_M)} (he23_44 : ∀ (l0 : Nat) (l1 : Nat) (l2 : Int32) (l3 : Int32) (l4 : Int32) (I : am_M) (o5 : Option am_V) (o6 : Option am_V), sm (dp + 3) am_d85 44 [some (.inr l0), some (.inr l1), some (.inl l2), some (.inl l3), some (.inl l4), o5, o6] [] (I, P, nx, sl) (sm_g1 P nx sl) (e23_44 l0 l1 l2 l3 l4 I)) (hr23 : ∀ (l0 : Nat) (l1 : Nat) (l2 : Int32) (l3 : Int32) (l4 : Int32) (l5 : Int32) (I : am_M) (o6 : Option am_V), sm (dp + 3) am_d85 23 [some (.inr l0), some (.inr l1), some (.inl l2), some (.inl l3), some (.inl l4), some (.inl l5), o6] [] (I, P, nx, sl) (sm_g1 P nx sl) (r23 l0 l1 l2 l3 l4 l5 I)) (l0 : Nat) (l1 : Nat) (l2 : Int32) (l3 : Int32) (l4 : Int32) (l5 : Int32) (I : am_M) (o6 : Option am_V) : sm (dp + 3) am_d85 23 [some (.inr l0), some (.inr l1), some (.inl l2), some (.inl l3), some (.inl l4), some (.inl l5), o6] [] (I, P, nx, sl) (sm_g1 P nx sl) (fR_search_B23 P e23_44 r23 l0 l1 l2 l3 l4 l5 I) := by
  unfold fR_search_B23
  refine r_iload rfl rfl ?_
  refine r_iload rfl rfl ?_
  refine r_icmp rfl rfl (fun c4 => ?_) (fun c4 => ?_)
  · exact he23_44 l0 l1 l2 l3 l4 I (some (.inl l5)) o6
  · refine r_iload rfl rfl ?_
    refine r_ck (fun h5 => ?_)
    refine r_aload rfl rfl (am_nz h5) ?_
    refine r_getI rfl h5 ?_
    refine r_bin (z := l4 * (I l1 0)) rfl rfl (by decide) ?_
    refine r_bd (fun x6 => ?_)
    refine r_istore (ls' := [some (.inr l0), some (.inr l1), some (.inl l2), some (.inl l3), some (.inl x6), some (.inl l5), o6]) rfl (Nat.le_of_ble_eq_true rfl) rfl ?_
    refine r_iinc (e := l5 + 1) (ls' := fun x7 => [some (.inr l0), some (.inr l1), some (.inl l2), some (.inl l3), some (.inl x6), some (.inl x7), o6]) rfl rfl rfl (fun _ => rfl) (fun x7 => ?_)
    refine r_goto rfl ?_
    exact hr23 l0 l1 l2 l3 x6 x7 I o6
noncomputable def fR_search_L23 (P : am_Q) (e23_44 : Nat → Nat → Int32 → Int32 → Int32 → am_M → Option (Int32 × am_M)) : Nat → Nat → Nat → Int32 → Int32 → Int32 → Int32 → am_M → Option (Int32 × am_M)
  | 0, _, _, _, _, _, _, _ => none
  | n + 1, l0, l1, l2, l3, l4, l5, I => fR_search_B23 P e23_44 (fR_search_L23 P e23_44 n) l0 l1 l2 l3 l4 l5 I
theorem AfR_search_L23 {dp : Nat} {P : am_Q} {nx : Nat} {sl : Nat} {e23_44 : Nat → Nat → Int32 → Int32 → Int32 → am_M → Option (Int32 × am_M)} (he23_44 : ∀ (l0 : Nat) (l1 : Nat) (l2 : Int32) (l3 : Int32) (l4 : Int32) (I : am_M) (o5 : Option am_V) (o6 : Option am_V), sm (dp + 3) am_d85 44 [some (.inr l0), some (.inr l1), some (.inl l2), some (.inl l3), some (.inl l4), o5, o6] [] (I, P, nx, sl) (sm_g1 P nx sl) (e23_44 l0 l1 l2 l3 l4 I)) (n : Nat) : ∀ (l0 : Nat) (l1 : Nat) (l2 : Int32) (l3 : Int32) (l4 : Int32) (l5 : Int32) (I : am_M) (o6 : Option am_V), sm (dp + 3) am_d85 23 [some (.inr l0), some (.inr l1), some (.inl l2), some (.inl l3), some (.inl l4), some (.inl l5), o6] [] (I, P, nx, sl) (sm_g1 P nx sl) (fR_search_L23 P e23_44 n l0 l1 l2 l3 l4 l5 I) := by
  induction n with
  | zero => intro l0 l1 l2 l3 l4 l5 I o6; exact sm_none
  | succ n ih => intro l0 l1 l2 l3 l4 l5 I o6; exact AfR_search_B23 he23_44 ih l0 l1 l2 l3 l4 l5 I o6
noncomputable def fR_search_J78 (P : am_Q) (r50 : Nat → Nat → Int32 → Int32 → Int32 → Int32 → Int32 → am_M → Option (Int32 × am_M)) (l0 : Nat) (l1 : Nat) (l2 : Int32) (l3 : Int32) (l4 : Int32) (l5 : Int32) (l6 : Int32) (I : am_M) : Option (Int32 × am_M) :=
  sm_ck (am_t l0 = 7) <|
  sm_ck (am_t l1 = 11) <|
  Option.bind (fX_advance P (P l0 3) l3 (I l1 0) I) fun y15 =>
  sm_bd (l6 + 1) fun x16 =>
  r50 l0 l1 l2 l3 l4 l5 x16 y15
set_option maxRecDepth 100000 in
theorem AfR_search_J78 {dp : Nat} {P : am_Q} {nx : Nat} {sl : Nat} {r50 : Nat → Nat → Int32 → Int32 → Int32 → Int32 → Int32 → am_M → Option (Int32 × am_M)} (hr50 : ∀ (l0 : Nat) (l1 : Nat) (l2 : Int32) (l3 : Int32) (l4 : Int32) (l5 : Int32) (l6 : Int32) (I : am_M), sm (dp + 3) am_d85 50 [some (.inr l0), some (.inr l1), some (.inl l2), some (.inl l3), some (.inl l4), some (.inl l5), some (.inl l6)] [] (I, P, nx, sl) (sm_g1 P nx sl) (r50 l0 l1 l2 l3 l4 l5 l6 I)) (l0 : Nat) (l1 : Nat) (l2 : Int32) (l3 : Int32) (l4 : Int32) (l5 : Int32) (l6 : Int32) (I : am_M) : sm (dp + 3) am_d85 78 [some (.inr l0), some (.inr l1), some (.inl l2), some (.inl l3), some (.inl l4), some (.inl l5), some (.inl l6)] [] (I, P, nx, sl) (sm_g1 P nx sl) (fR_search_J78 P r50 l0 l1 l2 l3 l4 l5 l6 I) := by
  unfold fR_search_J78
  refine r_ck (fun h13 => ?_)
  refine r_aload rfl rfl (am_nz h13) ?_
  refine r_getP rfl h13 ?_
  refine r_iload rfl rfl ?_
  refine r_ck (fun h14 => ?_)
  refine r_aload rfl rfl (am_nz h14) ?_
  refine r_getI rfl h14 ?_
  refine r_call2 rfl rfl trivial (fun y hy => AfX_advance (dp := dp + 2) hy) (fun y15 => ?_)
  refine r_iinc (e := l6 + 1) (ls' := fun x16 => [some (.inr l0), some (.inr l1), some (.inl l2), some (.inl l3), some (.inl l4), some (.inl l5), some (.inl x16)]) rfl rfl rfl (fun _ => rfl) (fun x16 => ?_)
  refine r_goto rfl ?_
  exact hr50 l0 l1 l2 l3 l4 l5 x16 y15
noncomputable def fR_search_B50 (P : am_Q) (e50_75 : Int32 → am_M → Option (Int32 × am_M)) (e50_96 : Int32 → am_M → Option (Int32 × am_M)) (r50 : Nat → Nat → Int32 → Int32 → Int32 → Int32 → Int32 → am_M → Option (Int32 × am_M)) (l0 : Nat) (l1 : Nat) (l2 : Int32) (l3 : Int32) (l4 : Int32) (l5 : Int32) (l6 : Int32) (I : am_M) : Option (Int32 × am_M) :=
  if l4 ≤ l6 then
    (e50_96 l5 I)
  else
    (sm_ck (am_t l0 = 7) <|
    sm_ck (am_t l1 = 11) <|
    Option.bind (fR_isAnswer P l0 l1 l3 I) fun y11 =>
    if y11.1 = 0 then
      (fR_search_J78 P r50 l0 l1 l2 l3 l4 l5 l6 y11.2)
    else
      (sm_bd (l5 + 1) fun x17 =>
      if x17 < l2 then
        (fR_search_J78 P r50 l0 l1 l2 l3 l4 x17 l6 y11.2)
      else
        (e50_75 x17 y11.2)))
set_option maxRecDepth 100000 in
theorem AfR_search_B50 {dp : Nat} {P : am_Q} {nx : Nat} {sl : Nat} {e50_75 : Int32 → am_M → Option (Int32 × am_M)} {e50_96 : Int32 → am_M → Option (Int32 × am_M)} {r50 : Nat → Nat → Int32 → Int32 → Int32 → Int32 → Int32 → am_M → Option (Int32 × am_M)} (he50_75 : ∀ (l5 : Int32) (I : am_M) (o0 : Option am_V) (o1 : Option am_V) (o2 : Option am_V) (o3 : Option am_V) (o4 : Option am_V) (o6 : Option am_V), sm (dp + 3) am_d85 75 [o0, o1, o2, o3, o4, some (.inl l5), o6] [] (I, P, nx, sl) (sm_g1 P nx sl) (e50_75 l5 I)) (he50_96 : ∀ (l5 : Int32) (I : am_M) (o0 : Option am_V) (o1 : Option am_V) (o2 : Option am_V) (o3 : Option am_V) (o4 : Option am_V) (o6 : Option am_V), sm (dp + 3) am_d85 96 [o0, o1, o2, o3, o4, some (.inl l5), o6] [] (I, P, nx, sl) (sm_g1 P nx sl) (e50_96 l5 I)) (hr50 : ∀ (l0 : Nat) (l1 : Nat) (l2 : Int32) (l3 : Int32) (l4 : Int32) (l5 : Int32) (l6 : Int32) (I : am_M), sm (dp + 3) am_d85 50 [some (.inr l0), some (.inr l1), some (.inl l2), some (.inl l3), some (.inl l4), some (.inl l5), some (.inl l6)] [] (I, P, nx, sl) (sm_g1 P nx sl) (r50 l0 l1 l2 l3 l4 l5 l6 I)) (l0 : Nat) (l1 : Nat) (l2 : Int32) (l3 : Int32) (l4 : Int32) (l5 : Int32) (l6 : Int32) (I : am_M) : sm (dp + 3) am_d85 50 [some (.inr l0), some (.inr l1), some (.inl l2), some (.inl l3), some (.inl l4), some (.inl l5), some (.inl l6)] [] (I, P, nx, sl) (sm_g1 P nx sl) (fR_search_B50 P e50_75 e50_96 r50 l0 l1 l2 l3 l4 l5 l6 I) := by
  unfold fR_search_B50
  refine r_iload rfl rfl ?_
  refine r_iload rfl rfl ?_
  refine r_icmp rfl rfl (fun c8 => ?_) (fun c8 => ?_)
  · exact he50_96 l5 I (some (.inr l0)) (some (.inr l1)) (some (.inl l2)) (some (.inl l3)) (some (.inl l4)) (some (.inl l6))
  · refine r_ck (fun h9 => ?_)
    refine r_aload rfl rfl (am_nz h9) ?_
    refine r_ck (fun h10 => ?_)
    refine r_aload rfl rfl (am_nz h10) ?_
    refine r_iload rfl rfl ?_
    refine r_call1 rfl rfl h9 (fun y hy => AfR_isAnswer (dp := dp + 0) hy) (fun y11 => ?_)
    refine r_if rfl rfl (fun c12 => ?_) (fun c12 => ?_)
    · exact AfR_search_J78 hr50 l0 l1 l2 l3 l4 l5 l6 y11.2
    · refine r_iinc (e := l5 + 1) (ls' := fun x17 => [some (.inr l0), some (.inr l1), some (.inl l2), some (.inl l3), some (.inl l4), some (.inl x17), some (.inl l6)]) rfl rfl rfl (fun _ => rfl) (fun x17 => ?_)
      refine r_iload rfl rfl ?_
      refine r_iload rfl rfl ?_
      refine r_icmp rfl rfl (fun c18 => ?_) (fun c18 => ?_)
      · exact AfR_search_J78 hr50 l0 l1 l2 l3 l4 x17 l6 y11.2
      · exact he50_75 x17 y11.2 (some (.inr l0)) (some (.inr l1)) (some (.inl l2)) (some (.inl l3)) (some (.inl l4)) (some (.inl l6))
noncomputable def fR_search_L50 (P : am_Q) (e50_75 : Int32 → am_M → Option (Int32 × am_M)) (e50_96 : Int32 → am_M → Option (Int32 × am_M)) : Nat → Nat → Nat → Int32 → Int32 → Int32 → Int32 → Int32 → am_M → Option (Int32 × am_M)
  | 0, _, _, _, _, _, _, _, _ => none
  | n + 1, l0, l1, l2, l3, l4, l5, l6, I => fR_search_B50 P e50_75 e50_96 (fR_search_L50 P e50_75 e50_96 n) l0 l1 l2 l3 l4 l5 l6 I
theorem AfR_search_L50 {dp : Nat} {P : am_Q} {nx : Nat} {sl : Nat} {e50_75 : Int32 → am_M → Option (Int32 × am_M)} {e50_96 : Int32 → am_M → Option (Int32 × am_M)} (he50_75 : ∀ (l5 : Int32) (I : am_M) (o0 : Option am_V) (o1 : Option am_V) (o2 : Option am_V) (o3 : Option am_V) (o4 : Option am_V) (o6 : Option am_V), sm (dp + 3) am_d85 75 [o0, o1, o2, o3, o4, some (.inl l5), o6] [] (I, P, nx, sl) (sm_g1 P nx sl) (e50_75 l5 I)) (he50_96 : ∀ (l5 : Int32) (I : am_M) (o0 : Option am_V) (o1 : Option am_V) (o2 : Option am_V) (o3 : Option am_V) (o4 : Option am_V) (o6 : Option am_V), sm (dp + 3) am_d85 96 [o0, o1, o2, o3, o4, some (.inl l5), o6] [] (I, P, nx, sl) (sm_g1 P nx sl) (e50_96 l5 I)) (n : Nat) : ∀ (l0 : Nat) (l1 : Nat) (l2 : Int32) (l3 : Int32) (l4 : Int32) (l5 : Int32) (l6 : Int32) (I : am_M), sm (dp + 3) am_d85 50 [some (.inr l0), some (.inr l1), some (.inl l2), some (.inl l3), some (.inl l4), some (.inl l5), some (.inl l6)] [] (I, P, nx, sl) (sm_g1 P nx sl) (fR_search_L50 P e50_75 e50_96 n l0 l1 l2 l3 l4 l5 l6 I) := by
  induction n with
  | zero => intro l0 l1 l2 l3 l4 l5 l6 I; exact sm_none
  | succ n ih => intro l0 l1 l2 l3 l4 l5 l6 I; exact AfR_search_B50 he50_75 he50_96 ih l0 l1 l2 l3 l4 l5 l6 I
noncomputable def fR_search (P : am_Q) (l0 : Nat) (l1 : Nat) (l2 : Int32) (I : am_M) : Option (Int32 × am_M) :=
  sm_ck (am_t l0 = 7) <|
  sm_bd (sm_min (I l0 2) 3) fun x2 =>
  Option.bind (fA_fill P (P l0 3) 0 I) fun y3 =>
  fR_search_L23 P (fun l0 l1 l2 l3 l4 I =>
      fR_search_L50 P (fun l5 I =>
          some (l5, I)) (fun l5 I =>
          some (l5, I)) sm_fu l0 l1 l2 l3 l4 0 0 I) sm_fu l0 l1 l2 x2 1 0 y3
set_option maxRecDepth 100000 in
theorem AfR_search {dp : Nat} {P : am_Q} {nx : Nat} {sl : Nat} {I : am_M} {l0 : Nat} {l1 : Nat} {l2 : Int32} {y : Int32 × am_M} (hy : fR_search P l0 l1 l2 I = some y) : sm_T (dp + 4) 85 [.inr l0, .inr l1, .inl l2] (I, P, nx, sl) ((sm_g1 P nx sl) y) := by
  refine r_meth (d := am_d85) (dp := dp + 3) (ls0 := [some (.inr l0), some (.inr l1), some (.inl l2), none, none, none, none]) rfl (by decide) rfl rfl ?_ hy
  unfold fR_search
  refine r_ck (fun h1 => ?_)
  refine r_aload rfl rfl (am_nz h1) ?_
  refine r_getI rfl h1 ?_
  refine r_const (x := 3) rfl rfl ?_
  refine r_mm (z := sm_min (I l0 2) 3) rfl rfl (Nat.le_of_ble_eq_true rfl) ?_
  refine r_bd (fun x2 => ?_)
  refine r_istore (ls' := [some (.inr l0), some (.inr l1), some (.inl l2), some (.inl x2), none, none, none]) rfl (Nat.le_of_ble_eq_true rfl) rfl ?_
  refine r_aload rfl rfl (am_nz h1) ?_
  refine r_getP rfl h1 ?_
  refine r_const (x := 0) rfl rfl ?_
  refine r_call2 rfl rfl trivial (fun y hy => AfA_fill (dp := dp + 2) hy) (fun y3 => ?_)
  refine r_const (x := 1) rfl rfl ?_
  refine r_istore (ls' := [some (.inr l0), some (.inr l1), some (.inl l2), some (.inl x2), some (.inl 1), none, none]) rfl (Nat.le_of_ble_eq_true rfl) rfl ?_
  refine r_const (x := 0) rfl rfl ?_
  refine r_istore (ls' := [some (.inr l0), some (.inr l1), some (.inl l2), some (.inl x2), some (.inl 1), some (.inl 0), none]) rfl (Nat.le_of_ble_eq_true rfl) rfl ?_
  refine AfR_search_L23 ?_ sm_fu l0 l1 l2 x2 1 0 y3 none
  · intro l0 l1 l2 l3 l4 I o5 o6
    refine r_const (x := 0) rfl rfl ?_
    refine r_istore (ls' := [some (.inr l0), some (.inr l1), some (.inl l2), some (.inl l3), some (.inl l4), some (.inl 0), o6]) rfl (Nat.le_of_ble_eq_true rfl) rfl ?_
    refine r_const (x := 0) rfl rfl ?_
    refine r_istore (ls' := [some (.inr l0), some (.inr l1), some (.inl l2), some (.inl l3), some (.inl l4), some (.inl 0), some (.inl 0)]) rfl (Nat.le_of_ble_eq_true rfl) rfl ?_
    refine AfR_search_L50 ?_ ?_ sm_fu l0 l1 l2 l3 l4 0 0 I
    · intro l5 I o0 o1 o2 o3 o4 o6
      refine r_iload rfl rfl ?_
      exact r_ireturn rfl (Or.inl rfl) rfl
    · intro l5 I o0 o1 o2 o3 o4 o6
      refine r_iload rfl rfl ?_
      exact r_ireturn rfl (Or.inl rfl) rfl
noncomputable def fX_answers (l0 : Nat) (l1 : Int32) (I : am_M) (P : am_Q) (nx : Nat) (sl : Nat) : Option (Int32 × am_S) :=
  sm_ck (am_t l0 = 12) <|
  Option.bind (fX_openRing l0 l1 I P nx sl) fun y2 =>
  if y2.1 = 0 then
    (sm_ck (am_t (y2.2.2.1 l0 11) = 7) <|
    Option.bind (fR_search y2.2.2.1 (y2.2.2.1 l0 11) (y2.2.2.1 l0 1) 1000000 y2.2.1) fun y5 =>
    some (y5.1, y5.2, y2.2.2.1, y2.2.2.2.1, y2.2.2.2.2))
  else
    (Option.bind (fX_found y2.2.2.1 l0 y2.1 y2.2.1) fun y6 =>
    some (y6.1, y6.2, y2.2.2.1, y2.2.2.2.1, y2.2.2.2.2))
set_option maxRecDepth 100000 in
theorem AfX_answers {dp : Nat}  {I : am_M} {P : am_Q} {nx : Nat} {sl : Nat} {l0 : Nat} {l1 : Int32} {y : Int32 × am_S} (hy : fX_answers l0 l1 I P nx sl = some y) : sm_T (dp + 7) 80 [.inr l0, .inl l1] (I, P, nx, sl) (sm_g3 y) := by
  refine r_meth (d := am_d80) (dp := dp + 6) (ls0 := [some (.inr l0), some (.inl l1), none]) rfl (by decide) rfl rfl ?_ hy
  unfold fX_answers
  refine r_ck (fun h1 => ?_)
  refine r_aload rfl rfl (am_nz h1) ?_
  refine r_iload rfl rfl ?_
  refine r_call3 rfl rfl h1 (fun y hy => AfX_openRing (dp := dp + 0) hy) (fun y2 => ?_)
  refine r_istore (ls' := [some (.inr l0), some (.inl l1), some (.inl y2.1)]) rfl (Nat.le_of_ble_eq_true rfl) rfl ?_
  refine r_iload rfl rfl ?_
  refine r_if rfl rfl (fun c3 => ?_) (fun c3 => ?_)
  · refine r_aload rfl rfl (am_nz h1) ?_
    refine r_getP rfl h1 ?_
    refine r_aload rfl rfl (am_nz h1) ?_
    refine r_getP rfl h1 ?_
    refine r_const (x := 1000000) rfl rfl ?_
    refine r_ck (fun h4 => ?_)
    refine r_call1 rfl rfl h4 (fun y hy => AfR_search (dp := dp + 2) hy) (fun y5 => ?_)
    exact r_ireturn rfl (Or.inl rfl) rfl
  · refine r_aload rfl rfl (am_nz h1) ?_
    refine r_iload rfl rfl ?_
    refine r_call1 rfl rfl h1 (fun y hy => AfX_found (dp := dp + 5) hy) (fun y6 => ?_)
    exact r_ireturn rfl (Or.inl rfl) rfl
noncomputable def fX_solve (l0 : Nat) (l1 : Int32) (l2 : Int32) (I : am_M) (P : am_Q) (nx : Nat) (sl : Nat) : Option (Int32 × am_S) :=
  if 0 ≤ l2 then
    (sm_ck (am_t l0 = 12) <|
    Option.bind (fX_openRing l0 l1 I P nx sl) fun y3 =>
    if y3.1 = 0 then
      (sm_ck (am_t (y3.2.2.1 l0 11) = 7) <|
      if (y3.2.1 (y3.2.2.1 l0 11) 2) ≤ l2 then
        (Option.bind (fX_found y3.2.2.1 l0 ((-1000004)) y3.2.1) fun y7 =>
        some (y7.1, y7.2, y3.2.2.1, y3.2.2.2.1, y3.2.2.2.2))
      else
        (Option.bind (fR_search y3.2.2.1 (y3.2.2.1 l0 11) (y3.2.2.1 l0 1) 1 y3.2.1) fun y8 =>
        if ¬ y8.1 = 0 then
          (sm_ck (sm_in (y3.2.2.1 (y3.2.2.1 l0 11) 3) l2) <|
          some (y8.2 (y3.2.2.1 (y3.2.2.1 l0 11) 3) l2.toNatClampNeg, y8.2, y3.2.2.1, y3.2.2.2.1, y3.2.2.2.2))
        else
          (Option.bind (fX_found y3.2.2.1 l0 ((-1000004)) y8.2) fun y11 =>
          some (y11.1, y11.2, y3.2.2.1, y3.2.2.2.1, y3.2.2.2.2))))
    else
      (Option.bind (fX_found y3.2.2.1 l0 y3.1 y3.2.1) fun y12 =>
      some (y12.1, y12.2, y3.2.2.1, y3.2.2.2.1, y3.2.2.2.2)))
  else
    (sm_ck (am_t l0 = 12) <|
    Option.bind (fX_found P l0 ((-1000001)) I) fun y14 =>
    some (y14.1, y14.2, P, nx, sl))
set_option maxRecDepth 100000 in
theorem AfX_solve {dp : Nat}  {I : am_M} {P : am_Q} {nx : Nat} {sl : Nat} {l0 : Nat} {l1 : Int32} {l2 : Int32} {y : Int32 × am_S} (hy : fX_solve l0 l1 l2 I P nx sl = some y) : sm_T (dp + 7) 88 [.inr l0, .inl l1, .inl l2] (I, P, nx, sl) (sm_g3 y) := by
  refine r_meth (d := am_d88) (dp := dp + 6) (ls0 := [some (.inr l0), some (.inl l1), some (.inl l2), none]) rfl (by decide) rfl rfl ?_ hy
  unfold fX_solve
  refine r_iload rfl rfl ?_
  refine r_if rfl rfl (fun c1 => ?_) (fun c1 => ?_)
  · refine r_ck (fun h2 => ?_)
    refine r_aload rfl rfl (am_nz h2) ?_
    refine r_iload rfl rfl ?_
    refine r_call3 rfl rfl h2 (fun y hy => AfX_openRing (dp := dp + 0) hy) (fun y3 => ?_)
    refine r_istore (ls' := [some (.inr l0), some (.inl l1), some (.inl l2), some (.inl y3.1)]) rfl (Nat.le_of_ble_eq_true rfl) rfl ?_
    refine r_iload rfl rfl ?_
    refine r_if rfl rfl (fun c4 => ?_) (fun c4 => ?_)
    · refine r_iload rfl rfl ?_
      refine r_aload rfl rfl (am_nz h2) ?_
      refine r_getP rfl h2 ?_
      refine r_ck (fun h5 => ?_)
      refine r_getI rfl h5 ?_
      refine r_icmp rfl rfl (fun c6 => ?_) (fun c6 => ?_)
      · refine r_aload rfl rfl (am_nz h2) ?_
        refine r_const (x := (-1000004)) rfl rfl ?_
        refine r_call1 rfl rfl h2 (fun y hy => AfX_found (dp := dp + 5) hy) (fun y7 => ?_)
        exact r_ireturn rfl (Or.inl rfl) rfl
      · refine r_aload rfl rfl (am_nz h2) ?_
        refine r_getP rfl h2 ?_
        refine r_aload rfl rfl (am_nz h2) ?_
        refine r_getP rfl h2 ?_
        refine r_const (x := 1) rfl rfl ?_
        refine r_call1 rfl rfl h5 (fun y hy => AfR_search (dp := dp + 2) hy) (fun y8 => ?_)
        refine r_if rfl rfl (fun c9 => ?_) (fun c9 => ?_)
        · refine r_aload rfl rfl (am_nz h2) ?_
          refine r_getP rfl h2 ?_
          refine r_getP rfl h5 ?_
          refine r_iload rfl rfl ?_
          refine r_ck (fun h10 => ?_)
          refine r_iald rfl h10 ?_
          exact r_ireturn rfl (Or.inl rfl) rfl
        · refine r_aload rfl rfl (am_nz h2) ?_
          refine r_const (x := (-1000004)) rfl rfl ?_
          refine r_call1 rfl rfl h2 (fun y hy => AfX_found (dp := dp + 5) hy) (fun y11 => ?_)
          exact r_ireturn rfl (Or.inl rfl) rfl
    · refine r_aload rfl rfl (am_nz h2) ?_
      refine r_iload rfl rfl ?_
      refine r_call1 rfl rfl h2 (fun y hy => AfX_found (dp := dp + 5) hy) (fun y12 => ?_)
      exact r_ireturn rfl (Or.inl rfl) rfl
  · refine r_ck (fun h13 => ?_)
    refine r_aload rfl rfl (am_nz h13) ?_
    refine r_const (x := (-1000001)) rfl rfl ?_
    refine r_call1 rfl rfl h13 (fun y hy => AfX_found (dp := dp + 5) hy) (fun y14 => ?_)
    exact r_ireturn rfl (Or.inl rfl) rfl
noncomputable def fX_isSheet (l0 : Int32) : Option (Int32) :=
  if l0 < 0 then
    (some 0)
  else
    (if 4 ≤ l0 then
      (some 0)
    else
      (some 1))
set_option maxRecDepth 100000 in
theorem AfX_isSheet {dp : Nat} {S : am_S} {l0 : Int32} {y : Int32} (hy : fX_isSheet l0 = some y) : sm_T (dp + 1) 90 [.inl l0] S ((sm_g0 S) y) := by
  refine r_meth (d := am_d90) (dp := dp + 0) (ls0 := [some (.inl l0)]) rfl (by decide) rfl rfl ?_ hy
  unfold fX_isSheet
  refine r_iload rfl rfl ?_
  refine r_if rfl rfl (fun c1 => ?_) (fun c1 => ?_)
  · refine r_const (x := 0) rfl rfl ?_
    exact r_ireturn rfl (Or.inr ⟨rfl, sm_010⟩) rfl
  · refine r_iload rfl rfl ?_
    refine r_const (x := 4) rfl rfl ?_
    refine r_icmp rfl rfl (fun c2 => ?_) (fun c2 => ?_)
    · refine r_const (x := 0) rfl rfl ?_
      exact r_ireturn rfl (Or.inr ⟨rfl, sm_010⟩) rfl
    · refine r_const (x := 1) rfl rfl ?_
      refine r_goto rfl ?_
      exact r_ireturn rfl (Or.inr ⟨rfl, sm_011⟩) rfl
noncomputable def fE_isMissing (I : am_M) (P : am_Q) (l0 : Nat) : Option (Int32) :=
  sm_ck (am_t l0 = 9) <|
  if ¬ (I l0 2) = 0 then
    (some 0)
  else
    (some 1)
set_option maxRecDepth 100000 in
theorem AfE_isMissing {dp : Nat} {I : am_M} {P : am_Q} {nx : Nat} {sl : Nat} {l0 : Nat} {y : Int32} (hy : fE_isMissing I P l0 = some y) : sm_T (dp + 1) 91 [.inr l0] (I, P, nx, sl) ((sm_g0 (I, P, nx, sl)) y) := by
  refine r_meth (d := am_d91) (dp := dp + 0) (ls0 := [some (.inr l0)]) rfl (by decide) rfl rfl ?_ hy
  unfold fE_isMissing
  refine r_ck (fun h1 => ?_)
  refine r_aload rfl rfl (am_nz h1) ?_
  refine r_getI rfl h1 ?_
  refine r_if rfl rfl (fun c2 => ?_) (fun c2 => ?_)
  · refine r_const (x := 0) rfl rfl ?_
    exact r_ireturn rfl (Or.inr ⟨rfl, sm_010⟩) rfl
  · refine r_const (x := 1) rfl rfl ?_
    refine r_goto rfl ?_
    exact r_ireturn rfl (Or.inr ⟨rfl, sm_011⟩) rfl
noncomputable def fW_isRowOfBoxes_B4 (I : am_M) (P : am_Q) (e4_28 : Option (Int32)) (e4_44 : Nat → Int32 → Option (Int32)) (r4 : Nat → Nat → Int32 → Int32 → Option (Int32)) (l0 : Nat) (l1 : Nat) (l2 : Int32) (l3 : Int32) : Option (Int32) :=
  sm_ck (am_t l0 = 11) <|
  if (I l0 6) ≤ l3 then
    (e4_44 l0 l2)
  else
    (sm_ck (am_t l1 = 20) <|
    sm_ck (20 ≤ am_t l1 ∧ am_t l1 < 26) <|
    if (Int32.ofNat (am_n l1)) ≤ l3 then
      (e4_28)
    else
      (sm_ck (sm_in l1 l3) <|
      Option.bind (fW_hasBox I P l0 (I l1 l3.toNatClampNeg)) fun y7 =>
      if ¬ y7 = 0 then
        (sm_ck (sm_in l1 l3) <|
        sm_bd (l2 ||| (sm_shl 1 (I l1 l3.toNatClampNeg))) fun x10 =>
        sm_bd (l3 + 1) fun x11 =>
        r4 l0 l1 x10 x11)
      else
        (e4_28)))
set_option maxRecDepth 100000 in
theorem AfW_isRowOfBoxes_B4 {dp : Nat} {I : am_M} {P : am_Q} {nx : Nat} {sl : Nat} {e4_28 : Option (Int32)} {e4_44 : Nat → Int32 → Option (Int32)} {r4 : Nat → Nat → Int32 → Int32 → Option (Int32)} (he4_28 : ∀ (o0 : Option am_V) (o1 : Option am_V) (o2 : Option am_V) (o3 : Option am_V), sm (dp + 1) am_d92 28 [o0, o1, o2, o3] [] (I, P, nx, sl) (sm_g0 (I, P, nx, sl)) (e4_28)) (he4_44 : ∀ (l0 : Nat) (l2 : Int32) (o1 : Option am_V) (o3 : Option am_V), sm (dp + 1) am_d92 44 [some (.inr l0), o1, some (.inl l2), o3] [] (I, P, nx, sl) (sm_g0 (I, P, nx, sl)) (e4_44 l0 l2)) (hr4 : ∀ (l0 : Nat) (l1 : Nat) (l2 : Int32) (l3 : Int32), sm (dp + 1) am_d92 4 [some (.inr l0), some (.inr l1), some (.inl l2), some (.inl l3)] [] (I, P, nx, sl) (sm_g0 (I, P, nx, sl)) (r4 l0 l1 l2 l3)) (l0 : Nat) (l1 : Nat) (l2 : Int32) (l3 : Int32) : sm (dp + 1) am_d92 4 [some (.inr l0), some (.inr l1), some (.inl l2), some (.inl l3)] [] (I, P, nx, sl) (sm_g0 (I, P, nx, sl)) (fW_isRowOfBoxes_B4 I P e4_28 e4_44 r4 l0 l1 l2 l3) := by
  unfold fW_isRowOfBoxes_B4
  refine r_iload rfl rfl ?_
  refine r_ck (fun h1 => ?_)
  refine r_aload rfl rfl (am_nz h1) ?_
  refine r_getI rfl h1 ?_
  refine r_icmp rfl rfl (fun c2 => ?_) (fun c2 => ?_)
  · exact he4_44 l0 l2 (some (.inr l1)) (some (.inl l3))
  · refine r_iload rfl rfl ?_
    refine r_ck (fun h3 => ?_)
    refine r_aload rfl rfl (am_nz h3) ?_
    refine r_ck (fun h4 => ?_)
    refine r_alen rfl h4 ?_
    refine r_icmp rfl rfl (fun c5 => ?_) (fun c5 => ?_)
    · exact he4_28 (some (.inr l0)) (some (.inr l1)) (some (.inl l2)) (some (.inl l3))
    · refine r_aload rfl rfl (am_nz h1) ?_
      refine r_aload rfl rfl (am_nz h3) ?_
      refine r_iload rfl rfl ?_
      refine r_ck (fun h6 => ?_)
      refine r_iald rfl h6 ?_
      refine r_call0 rfl rfl h1 (fun y hy => AfW_hasBox (dp := dp + 0) hy) (fun y7 => ?_)
      refine r_if rfl rfl (fun c8 => ?_) (fun c8 => ?_)
      · refine r_iload rfl rfl ?_
        refine r_const (x := 1) rfl rfl ?_
        refine r_aload rfl rfl (am_nz h3) ?_
        refine r_iload rfl rfl ?_
        refine r_ck (fun h9 => ?_)
        refine r_iald rfl h9 ?_
        refine r_bin (z := sm_shl 1 (I l1 l3.toNatClampNeg)) rfl rfl (by decide) ?_
        refine r_bin (z := l2 ||| (sm_shl 1 (I l1 l3.toNatClampNeg))) rfl rfl (by decide) ?_
        refine r_bd (fun x10 => ?_)
        refine r_istore (ls' := [some (.inr l0), some (.inr l1), some (.inl x10), some (.inl l3)]) rfl (Nat.le_of_ble_eq_true rfl) rfl ?_
        refine r_iinc (e := l3 + 1) (ls' := fun x11 => [some (.inr l0), some (.inr l1), some (.inl x10), some (.inl x11)]) rfl rfl rfl (fun _ => rfl) (fun x11 => ?_)
        refine r_goto rfl ?_
        exact hr4 l0 l1 x10 x11
      · exact he4_28 (some (.inr l0)) (some (.inr l1)) (some (.inl l2)) (some (.inl l3))
noncomputable def fW_isRowOfBoxes_L4 (I : am_M) (P : am_Q) (e4_28 : Option (Int32)) (e4_44 : Nat → Int32 → Option (Int32)) : Nat → Nat → Nat → Int32 → Int32 → Option (Int32)
  | 0, _, _, _, _ => none
  | n + 1, l0, l1, l2, l3 => fW_isRowOfBoxes_B4 I P e4_28 e4_44 (fW_isRowOfBoxes_L4 I P e4_28 e4_44 n) l0 l1 l2 l3
theorem AfW_isRowOfBoxes_L4 {dp : Nat} {I : am_M} {P : am_Q} {nx : Nat} {sl : Nat} {e4_28 : Option (Int32)} {e4_44 : Nat → Int32 → Option (Int32)} (he4_28 : ∀ (o0 : Option am_V) (o1 : Option am_V) (o2 : Option am_V) (o3 : Option am_V), sm (dp + 1) am_d92 28 [o0, o1, o2, o3] [] (I, P, nx, sl) (sm_g0 (I, P, nx, sl)) (e4_28)) (he4_44 : ∀ (l0 : Nat) (l2 : Int32) (o1 : Option am_V) (o3 : Option am_V), sm (dp + 1) am_d92 44 [some (.inr l0), o1, some (.inl l2), o3] [] (I, P, nx, sl) (sm_g0 (I, P, nx, sl)) (e4_44 l0 l2)) (n : Nat) : ∀ (l0 : Nat) (l1 : Nat) (l2 : Int32) (l3 : Int32), sm (dp + 1) am_d92 4 [some (.inr l0), some (.inr l1), some (.inl l2), some (.inl l3)] [] (I, P, nx, sl) (sm_g0 (I, P, nx, sl)) (fW_isRowOfBoxes_L4 I P e4_28 e4_44 n l0 l1 l2 l3) := by
  induction n with
  | zero => intro l0 l1 l2 l3; exact sm_none
  | succ n ih => intro l0 l1 l2 l3; exact AfW_isRowOfBoxes_B4 he4_28 he4_44 ih l0 l1 l2 l3
noncomputable def fW_isRowOfBoxes (I : am_M) (P : am_Q) (l0 : Nat) (l1 : Nat) : Option (Int32) :=
  fW_isRowOfBoxes_L4 I P (some 0) (fun l0 l2 =>
      sm_ck (am_t l0 = 11) <|
      if ¬ l2 = ((sm_shl 1 (I l0 6)) - 1) then
        (some 0)
      else
        (some 1)) sm_fu l0 l1 0 0
set_option maxRecDepth 100000 in
theorem AfW_isRowOfBoxes {dp : Nat} {I : am_M} {P : am_Q} {nx : Nat} {sl : Nat} {l0 : Nat} {l1 : Nat} {y : Int32} (hy : fW_isRowOfBoxes I P l0 l1 = some y) : sm_T (dp + 2) 92 [.inr l0, .inr l1] (I, P, nx, sl) ((sm_g0 (I, P, nx, sl)) y) := by
  refine r_meth (d := am_d92) (dp := dp + 1) (ls0 := [some (.inr l0), some (.inr l1), none, none]) rfl (by decide) rfl rfl ?_ hy
  unfold fW_isRowOfBoxes
  refine r_const (x := 0) rfl rfl ?_
  refine r_istore (ls' := [some (.inr l0), some (.inr l1), some (.inl 0), none]) rfl (Nat.le_of_ble_eq_true rfl) rfl ?_
  refine r_const (x := 0) rfl rfl ?_
  refine r_istore (ls' := [some (.inr l0), some (.inr l1), some (.inl 0), some (.inl 0)]) rfl (Nat.le_of_ble_eq_true rfl) rfl ?_
  refine AfW_isRowOfBoxes_L4 ?_ ?_ sm_fu l0 l1 0 0
  · intro o0 o1 o2 o3
    refine r_const (x := 0) rfl rfl ?_
    exact r_ireturn rfl (Or.inr ⟨rfl, sm_010⟩) rfl
  · intro l0 l2 o1 o3
    refine r_iload rfl rfl ?_
    refine r_const (x := 1) rfl rfl ?_
    refine r_ck (fun h12 => ?_)
    refine r_aload rfl rfl (am_nz h12) ?_
    refine r_getI rfl h12 ?_
    refine r_bin (z := sm_shl 1 (I l0 6)) rfl rfl (by decide) ?_
    refine r_const (x := 1) rfl rfl ?_
    refine r_bin (z := (sm_shl 1 (I l0 6)) - 1) rfl rfl (by decide) ?_
    refine r_icmp rfl rfl (fun c13 => ?_) (fun c13 => ?_)
    · refine r_const (x := 0) rfl rfl ?_
      exact r_ireturn rfl (Or.inr ⟨rfl, sm_010⟩) rfl
    · refine r_const (x := 1) rfl rfl ?_
      refine r_goto rfl ?_
      exact r_ireturn rfl (Or.inr ⟨rfl, sm_011⟩) rfl
