noncomputable def fX_drift (l0 : Nat) (l1 : Int32) (l2 : Int32) (I : am_M) (P : am_Q) (nx : Nat) (sl : Nat) : Option (Int32 × am_S) :=
  sm_ck (am_t l0 = 12) <|
  sm_ck (am_t (P l0 0) = 11) <|
  Option.bind (fW_hasBox I P (P l0 0) l1) fun y3 =>
  if y3 = 0 then
    (Option.bind (fX_found P l0 ((-1000001)) I) fun y5 =>
    some (y5.1, y5.2, P, nx, sl))
  else
    (if l2 < 1 then
      (Option.bind (fX_found P l0 ((-1000001)) I) fun y7 =>
      some (y7.1, y7.2, P, nx, sl))
    else
      (if l2 ≤ 30 then
        (sm_ck (am_t (P l0 7) = 10) <|
        Option.bind (fT_readAll P (P l0 7) I) fun y10 =>
        if y10.1 < 0 then
          (Option.bind (fT_linesRead (P l0 7) y10.2 P nx sl) fun y12 =>
          Option.bind (fX_firstChanged l0 l1 y12.1 l2 y12.2.1 y12.2.2.1 y12.2.2.2.1 y12.2.2.2.2) fun y13 =>
          if 0 ≤ y13.1 then
            (some (y13.1, y13.2.1, y13.2.2.1, y13.2.2.2.1, y13.2.2.2.2))
          else
            (Option.bind (fX_found y13.2.2.1 l0 ((-1000004)) y13.2.1) fun y15 =>
            some (y15.1, y15.2, y13.2.2.1, y13.2.2.2.1, y13.2.2.2.2)))
        else
          (Option.bind (fX_found P l0 ((-1000003)) y10.2) fun y16 =>
          some (y16.1, y16.2, P, nx, sl)))
      else
        (Option.bind (fX_found P l0 ((-1000001)) I) fun y17 =>
        some (y17.1, y17.2, P, nx, sl))))
set_option maxRecDepth 100000 in
theorem AfX_drift {dp : Nat}  {I : am_M} {P : am_Q} {nx : Nat} {sl : Nat} {l0 : Nat} {l1 : Int32} {l2 : Int32} {y : Int32 × am_S} (hy : fX_drift l0 l1 l2 I P nx sl = some y) : sm_T (dp + 7) 126 [.inr l0, .inl l1, .inl l2] (I, P, nx, sl) (sm_g3 y) := by
  refine r_meth (d := am_d126) (dp := dp + 6) (ls0 := [some (.inr l0), some (.inl l1), some (.inl l2), none]) rfl (by decide) rfl rfl ?_ hy
  unfold fX_drift
  refine r_ck (fun h1 => ?_)
  refine r_aload rfl rfl (am_nz h1) ?_
  refine r_getP rfl h1 ?_
  refine r_iload rfl rfl ?_
  refine r_ck (fun h2 => ?_)
  refine r_call0 rfl rfl h2 (fun y hy => AfW_hasBox (dp := dp + 5) hy) (fun y3 => ?_)
  refine r_if rfl rfl (fun c4 => ?_) (fun c4 => ?_)
  · refine r_aload rfl rfl (am_nz h1) ?_
    refine r_const (x := (-1000001)) rfl rfl ?_
    refine r_call1 rfl rfl h1 (fun y hy => AfX_found (dp := dp + 5) hy) (fun y5 => ?_)
    exact r_ireturn rfl (Or.inl rfl) rfl
  · refine r_iload rfl rfl ?_
    refine r_const (x := 1) rfl rfl ?_
    refine r_icmp rfl rfl (fun c6 => ?_) (fun c6 => ?_)
    · refine r_aload rfl rfl (am_nz h1) ?_
      refine r_const (x := (-1000001)) rfl rfl ?_
      refine r_call1 rfl rfl h1 (fun y hy => AfX_found (dp := dp + 5) hy) (fun y7 => ?_)
      exact r_ireturn rfl (Or.inl rfl) rfl
    · refine r_iload rfl rfl ?_
      refine r_const (x := 30) rfl rfl ?_
      refine r_icmp rfl rfl (fun c8 => ?_) (fun c8 => ?_)
      · refine r_aload rfl rfl (am_nz h1) ?_
        refine r_getP rfl h1 ?_
        refine r_ck (fun h9 => ?_)
        refine r_call1 rfl rfl h9 (fun y hy => AfT_readAll (dp := dp + 0) hy) (fun y10 => ?_)
        refine r_if rfl rfl (fun c11 => ?_) (fun c11 => ?_)
        · refine r_aload rfl rfl (am_nz h1) ?_
          refine r_iload rfl rfl ?_
          refine r_aload rfl rfl (am_nz h1) ?_
          refine r_getP rfl h1 ?_
          refine r_call5 rfl rfl h9 (fun y hy => AfT_linesRead (dp := dp + 4) hy) (fun y12 => ?_)
          refine r_iload rfl rfl ?_
          refine r_call3 rfl rfl h1 (fun y hy => AfX_firstChanged (dp := dp + 0) hy) (fun y13 => ?_)
          refine r_istore (ls' := [some (.inr l0), some (.inl l1), some (.inl l2), some (.inl y13.1)]) rfl (Nat.le_of_ble_eq_true rfl) rfl ?_
          refine r_iload rfl rfl ?_
          refine r_if rfl rfl (fun c14 => ?_) (fun c14 => ?_)
          · refine r_iload rfl rfl ?_
            exact r_ireturn rfl (Or.inl rfl) rfl
          · refine r_aload rfl rfl (am_nz h1) ?_
            refine r_const (x := (-1000004)) rfl rfl ?_
            refine r_call1 rfl rfl h1 (fun y hy => AfX_found (dp := dp + 5) hy) (fun y15 => ?_)
            refine r_goto rfl ?_
            exact r_ireturn rfl (Or.inl rfl) rfl
        · refine r_aload rfl rfl (am_nz h1) ?_
          refine r_const (x := (-1000003)) rfl rfl ?_
          refine r_call1 rfl rfl h1 (fun y hy => AfX_found (dp := dp + 5) hy) (fun y16 => ?_)
          exact r_ireturn rfl (Or.inl rfl) rfl
      · refine r_aload rfl rfl (am_nz h1) ?_
        refine r_const (x := (-1000001)) rfl rfl ?_
        refine r_call1 rfl rfl h1 (fun y hy => AfX_found (dp := dp + 5) hy) (fun y17 => ?_)
        exact r_ireturn rfl (Or.inl rfl) rfl
noncomputable def fX_judge_B61 (e61_104 : Int32 → am_M → am_Q → Nat → Nat → Option (Int32 × am_S)) (e61_113 : Nat → am_M → am_Q → Nat → Nat → Option (Int32 × am_S)) (r61 : Nat → Int32 → Nat → Int32 → am_M → am_Q → Nat → Nat → Option (Int32 × am_S)) (l0 : Nat) (l1 : Int32) (l3 : Nat) (l4 : Int32) (I : am_M) (P : am_Q) (nx : Nat) (sl : Nat) : Option (Int32 × am_S) :=
  sm_ck (am_t l3 = 9) <|
  if (I l3 1) ≤ l4 then
    (e61_113 l3 I P nx sl)
  else
    (sm_ck (am_t l0 = 12) <|
    sm_ck (am_t (P l0 10) = 3) <|
    Option.bind (fH_pass P (P l0 10) (P l0 1) I) fun y19 =>
    sm_ck (am_t (P l0 1) = 11) <|
    sm_ck (sm_ia (P (P l0 1) 10) l1) <|
    sm_ck (am_t (P (P (P l0 1) 10) l1.toNatClampNeg) = 8) <|
    sm_ck (sm_in (P l3 0) l4) <|
    if (y19.2 (P (P (P l0 1) 10) l1.toNatClampNeg) 4) = (y19.2 (P l3 0) l4.toNatClampNeg) then
      (sm_bd (l4 + 1) fun x25 =>
      r61 l0 l1 l3 x25 y19.2 P nx sl)
    else
      (e61_104 l4 y19.2 P nx sl))
set_option maxRecDepth 100000 in
theorem AfX_judge_B61 {dp : Nat}  {e61_104 : Int32 → am_M → am_Q → Nat → Nat → Option (Int32 × am_S)} {e61_113 : Nat → am_M → am_Q → Nat → Nat → Option (Int32 × am_S)} {r61 : Nat → Int32 → Nat → Int32 → am_M → am_Q → Nat → Nat → Option (Int32 × am_S)} (he61_104 : ∀ (l4 : Int32) (I : am_M) (P : am_Q) (nx : Nat) (sl : Nat) (o0 : Option am_V) (o1 : Option am_V) (o2 : Option am_V) (o3 : Option am_V), sm (dp + 5) am_d127 104 [o0, o1, o2, o3, some (.inl l4)] [] (I, P, nx, sl) sm_g3 (e61_104 l4 I P nx sl)) (he61_113 : ∀ (l3 : Nat) (I : am_M) (P : am_Q) (nx : Nat) (sl : Nat) (o0 : Option am_V) (o1 : Option am_V) (o2 : Option am_V) (o4 : Option am_V), sm (dp + 5) am_d127 113 [o0, o1, o2, some (.inr l3), o4] [] (I, P, nx, sl) sm_g3 (e61_113 l3 I P nx sl)) (hr61 : ∀ (l0 : Nat) (l1 : Int32) (l3 : Nat) (l4 : Int32) (I : am_M) (P : am_Q) (nx : Nat) (sl : Nat) (o2 : Option am_V), sm (dp + 5) am_d127 61 [some (.inr l0), some (.inl l1), o2, some (.inr l3), some (.inl l4)] [] (I, P, nx, sl) sm_g3 (r61 l0 l1 l3 l4 I P nx sl)) (l0 : Nat) (l1 : Int32) (l3 : Nat) (l4 : Int32) (I : am_M) (P : am_Q) (nx : Nat) (sl : Nat) (o2 : Option am_V) : sm (dp + 5) am_d127 61 [some (.inr l0), some (.inl l1), o2, some (.inr l3), some (.inl l4)] [] (I, P, nx, sl) sm_g3 (fX_judge_B61 e61_104 e61_113 r61 l0 l1 l3 l4 I P nx sl) := by
  unfold fX_judge_B61
  refine r_iload rfl rfl ?_
  refine r_ck (fun h15 => ?_)
  refine r_aload rfl rfl (am_nz h15) ?_
  refine r_getI rfl h15 ?_
  refine r_icmp rfl rfl (fun c16 => ?_) (fun c16 => ?_)
  · exact he61_113 l3 I P nx sl (some (.inr l0)) (some (.inl l1)) o2 (some (.inl l4))
  · refine r_ck (fun h17 => ?_)
    refine r_aload rfl rfl (am_nz h17) ?_
    refine r_getP rfl h17 ?_
    refine r_aload rfl rfl (am_nz h17) ?_
    refine r_getP rfl h17 ?_
    refine r_ck (fun h18 => ?_)
    refine r_call1 rfl rfl h18 (fun y hy => AfH_pass (dp := dp + 0) hy) (fun y19 => ?_)
    refine r_pop rfl ?_
    refine r_aload rfl rfl (am_nz h17) ?_
    refine r_getP rfl h17 ?_
    refine r_ck (fun h20 => ?_)
    refine r_getP rfl h20 ?_
    refine r_iload rfl rfl ?_
    refine r_ck (fun h21 => ?_)
    refine r_aald rfl h21 ?_
    refine r_ck (fun h22 => ?_)
    refine r_getI rfl h22 ?_
    refine r_aload rfl rfl (am_nz h15) ?_
    refine r_getP rfl h15 ?_
    refine r_iload rfl rfl ?_
    refine r_ck (fun h23 => ?_)
    refine r_iald rfl h23 ?_
    refine r_icmp rfl rfl (fun c24 => ?_) (fun c24 => ?_)
    · refine r_iinc (e := l4 + 1) (ls' := fun x25 => [some (.inr l0), some (.inl l1), o2, some (.inr l3), some (.inl x25)]) rfl rfl rfl (fun _ => rfl) (fun x25 => ?_)
      refine r_goto rfl ?_
      exact hr61 l0 l1 l3 x25 y19.2 P nx sl o2
    · exact he61_104 l4 y19.2 P nx sl (some (.inr l0)) (some (.inl l1)) o2 (some (.inr l3))
noncomputable def fX_judge_L61 (e61_104 : Int32 → am_M → am_Q → Nat → Nat → Option (Int32 × am_S)) (e61_113 : Nat → am_M → am_Q → Nat → Nat → Option (Int32 × am_S)) : Nat → Nat → Int32 → Nat → Int32 → am_M → am_Q → Nat → Nat → Option (Int32 × am_S)
  | 0, _, _, _, _, _, _, _, _ => none
  | n + 1, l0, l1, l3, l4, I, P, nx, sl => fX_judge_B61 e61_104 e61_113 (fX_judge_L61 e61_104 e61_113 n) l0 l1 l3 l4 I P nx sl
theorem AfX_judge_L61 {dp : Nat}  {e61_104 : Int32 → am_M → am_Q → Nat → Nat → Option (Int32 × am_S)} {e61_113 : Nat → am_M → am_Q → Nat → Nat → Option (Int32 × am_S)} (he61_104 : ∀ (l4 : Int32) (I : am_M) (P : am_Q) (nx : Nat) (sl : Nat) (o0 : Option am_V) (o1 : Option am_V) (o2 : Option am_V) (o3 : Option am_V), sm (dp + 5) am_d127 104 [o0, o1, o2, o3, some (.inl l4)] [] (I, P, nx, sl) sm_g3 (e61_104 l4 I P nx sl)) (he61_113 : ∀ (l3 : Nat) (I : am_M) (P : am_Q) (nx : Nat) (sl : Nat) (o0 : Option am_V) (o1 : Option am_V) (o2 : Option am_V) (o4 : Option am_V), sm (dp + 5) am_d127 113 [o0, o1, o2, some (.inr l3), o4] [] (I, P, nx, sl) sm_g3 (e61_113 l3 I P nx sl)) (n : Nat) : ∀ (l0 : Nat) (l1 : Int32) (l3 : Nat) (l4 : Int32) (I : am_M) (P : am_Q) (nx : Nat) (sl : Nat) (o2 : Option am_V), sm (dp + 5) am_d127 61 [some (.inr l0), some (.inl l1), o2, some (.inr l3), some (.inl l4)] [] (I, P, nx, sl) sm_g3 (fX_judge_L61 e61_104 e61_113 n l0 l1 l3 l4 I P nx sl) := by
  induction n with
  | zero => intro l0 l1 l3 l4 I P nx sl o2; exact sm_none
  | succ n ih => intro l0 l1 l3 l4 I P nx sl o2; exact AfX_judge_B61 he61_104 he61_113 ih l0 l1 l3 l4 I P nx sl o2
noncomputable def fX_judge (l0 : Nat) (l1 : Int32) (l2 : Int32) (I : am_M) (P : am_Q) (nx : Nat) (sl : Nat) : Option (Int32 × am_S) :=
  sm_ck (am_t l0 = 12) <|
  sm_ck (am_t (P l0 0) = 11) <|
  Option.bind (fW_hasSeam I P (P l0 0) l1) fun y3 =>
  if y3 = 0 then
    (Option.bind (fX_found P l0 ((-1000001)) I) fun y5 =>
    some (y5.1, y5.2, P, nx, sl))
  else
    (Option.bind (fX_isSheet l2) fun y6 =>
    if ¬ y6 = 0 then
      (sm_ck (sm_ia (P l0 13) l2) <|
      sm_bd (P (P l0 13) l2.toNatClampNeg) fun a9 =>
      sm_ck (am_t a9 = 9) <|
      Option.bind (fE_isMissing I P a9) fun y11 =>
      if y11 = 0 then
        (sm_ck (am_t (P l0 1) = 11) <|
        Option.bind (fW_copyFrom (P l0 1) (P l0 0) I P nx sl) fun y14 =>
        fX_judge_L61 (fun l4 I P nx sl =>
            some (l4, I, P, nx, sl)) (fun l3 I P nx sl =>
            sm_ck (am_t l3 = 9) <|
            some (I l3 1, I, P, nx, sl)) sm_fu l0 l1 a9 0 y14.1 y14.2.1 y14.2.2.1 y14.2.2.2)
      else
        (Option.bind (fX_found P l0 ((-1000006)) I) fun y27 =>
        some (y27.1, y27.2, P, nx, sl)))
    else
      (Option.bind (fX_found P l0 ((-1000001)) I) fun y28 =>
      some (y28.1, y28.2, P, nx, sl)))
set_option maxRecDepth 100000 in
theorem AfX_judge {dp : Nat}  {I : am_M} {P : am_Q} {nx : Nat} {sl : Nat} {l0 : Nat} {l1 : Int32} {l2 : Int32} {y : Int32 × am_S} (hy : fX_judge l0 l1 l2 I P nx sl = some y) : sm_T (dp + 6) 127 [.inr l0, .inl l1, .inl l2] (I, P, nx, sl) (sm_g3 y) := by
  refine r_meth (d := am_d127) (dp := dp + 5) (ls0 := [some (.inr l0), some (.inl l1), some (.inl l2), none, none]) rfl (by decide) rfl rfl ?_ hy
  unfold fX_judge
  refine r_ck (fun h1 => ?_)
  refine r_aload rfl rfl (am_nz h1) ?_
  refine r_getP rfl h1 ?_
  refine r_iload rfl rfl ?_
  refine r_ck (fun h2 => ?_)
  refine r_call0 rfl rfl h2 (fun y hy => AfW_hasSeam (dp := dp + 4) hy) (fun y3 => ?_)
  refine r_if rfl rfl (fun c4 => ?_) (fun c4 => ?_)
  · refine r_aload rfl rfl (am_nz h1) ?_
    refine r_const (x := (-1000001)) rfl rfl ?_
    refine r_call1 rfl rfl h1 (fun y hy => AfX_found (dp := dp + 4) hy) (fun y5 => ?_)
    exact r_ireturn rfl (Or.inl rfl) rfl
  · refine r_iload rfl rfl ?_
    refine r_call0 rfl rfl trivial (fun y hy => AfX_isSheet (dp := dp + 4) hy) (fun y6 => ?_)
    refine r_if rfl rfl (fun c7 => ?_) (fun c7 => ?_)
    · refine r_aload rfl rfl (am_nz h1) ?_
      refine r_getP rfl h1 ?_
      refine r_iload rfl rfl ?_
      refine r_ck (fun h8 => ?_)
      refine r_aald rfl h8 ?_
      refine r_bdA (fun a9 => ?_)
      refine r_ck (fun h10 => ?_)
      refine r_astore (ls' := [some (.inr l0), some (.inl l1), some (.inl l2), some (.inr a9), none]) rfl (Nat.le_of_ble_eq_true rfl) (am_nz h10) rfl ?_
      refine r_aload rfl rfl (am_nz h10) ?_
      refine r_call0 rfl rfl h10 (fun y hy => AfE_isMissing (dp := dp + 4) hy) (fun y11 => ?_)
      refine r_if rfl rfl (fun c12 => ?_) (fun c12 => ?_)
      · refine r_aload rfl rfl (am_nz h1) ?_
        refine r_getP rfl h1 ?_
        refine r_aload rfl rfl (am_nz h1) ?_
        refine r_getP rfl h1 ?_
        refine r_ck (fun h13 => ?_)
        refine r_call4 rfl rfl h13 (fun y hy => AfW_copyFrom (dp := dp + 3) hy) (fun y14 => ?_)
        refine r_const (x := 0) rfl rfl ?_
        refine r_istore (ls' := [some (.inr l0), some (.inl l1), some (.inl l2), some (.inr a9), some (.inl 0)]) rfl (Nat.le_of_ble_eq_true rfl) rfl ?_
        refine AfX_judge_L61 ?_ ?_ sm_fu l0 l1 a9 0 y14.1 y14.2.1 y14.2.2.1 y14.2.2.2 (some (.inl l2))
        · intro l4 I P nx sl o0 o1 o2 o3
          refine r_iload rfl rfl ?_
          exact r_ireturn rfl (Or.inl rfl) rfl
        · intro l3 I P nx sl o0 o1 o2 o4
          refine r_ck (fun h26 => ?_)
          refine r_aload rfl rfl (am_nz h26) ?_
          refine r_getI rfl h26 ?_
          exact r_ireturn rfl (Or.inl rfl) rfl
      · refine r_aload rfl rfl (am_nz h1) ?_
        refine r_const (x := (-1000006)) rfl rfl ?_
        refine r_call1 rfl rfl h1 (fun y hy => AfX_found (dp := dp + 4) hy) (fun y27 => ?_)
        exact r_ireturn rfl (Or.inl rfl) rfl
    · refine r_aload rfl rfl (am_nz h1) ?_
      refine r_const (x := (-1000001)) rfl rfl ?_
      refine r_call1 rfl rfl h1 (fun y hy => AfX_found (dp := dp + 4) hy) (fun y28 => ?_)
      exact r_ireturn rfl (Or.inl rfl) rfl
noncomputable def fW_owesOfAll_B4 (I : am_M) (P : am_Q) (e4_30 : Int32 → Option (Int32)) (r4 : Nat → Int32 → Int32 → Option (Int32)) (l0 : Nat) (l1 : Int32) (l2 : Int32) : Option (Int32) :=
  sm_ck (am_t l0 = 11) <|
  if (I l0 7) ≤ l2 then
    (e4_30 l1)
  else
    (sm_ck (sm_ia (P l0 10) l2) <|
    sm_ck (am_t (P (P l0 10) l2.toNatClampNeg) = 8) <|
    sm_bd (l1 + (I (P (P l0 10) l2.toNatClampNeg) 7)) fun x5 =>
    sm_bd (l2 + 1) fun x6 =>
    r4 l0 x5 x6)
set_option maxRecDepth 100000 in
theorem AfW_owesOfAll_B4 {dp : Nat} {I : am_M} {P : am_Q} {nx : Nat} {sl : Nat} {e4_30 : Int32 → Option (Int32)} {r4 : Nat → Int32 → Int32 → Option (Int32)} (he4_30 : ∀ (l1 : Int32) (o0 : Option am_V) (o2 : Option am_V), sm (dp + 0) am_d129 30 [o0, some (.inl l1), o2] [] (I, P, nx, sl) (sm_g0 (I, P, nx, sl)) (e4_30 l1)) (hr4 : ∀ (l0 : Nat) (l1 : Int32) (l2 : Int32), sm (dp + 0) am_d129 4 [some (.inr l0), some (.inl l1), some (.inl l2)] [] (I, P, nx, sl) (sm_g0 (I, P, nx, sl)) (r4 l0 l1 l2)) (l0 : Nat) (l1 : Int32) (l2 : Int32) : sm (dp + 0) am_d129 4 [some (.inr l0), some (.inl l1), some (.inl l2)] [] (I, P, nx, sl) (sm_g0 (I, P, nx, sl)) (fW_owesOfAll_B4 I P e4_30 r4 l0 l1 l2) := by
  unfold fW_owesOfAll_B4
  refine r_iload rfl rfl ?_
  refine r_ck (fun h1 => ?_)
  refine r_aload rfl rfl (am_nz h1) ?_
  refine r_getI rfl h1 ?_
  refine r_icmp rfl rfl (fun c2 => ?_) (fun c2 => ?_)
  · exact he4_30 l1 (some (.inr l0)) (some (.inl l2))
  · refine r_iload rfl rfl ?_
    refine r_aload rfl rfl (am_nz h1) ?_
    refine r_getP rfl h1 ?_
    refine r_iload rfl rfl ?_
    refine r_ck (fun h3 => ?_)
    refine r_aald rfl h3 ?_
    refine r_ck (fun h4 => ?_)
    refine r_getI rfl h4 ?_
    refine r_bin (z := l1 + (I (P (P l0 10) l2.toNatClampNeg) 7)) rfl rfl (by decide) ?_
    refine r_bd (fun x5 => ?_)
    refine r_istore (ls' := [some (.inr l0), some (.inl x5), some (.inl l2)]) rfl (Nat.le_of_ble_eq_true rfl) rfl ?_
    refine r_iinc (e := l2 + 1) (ls' := fun x6 => [some (.inr l0), some (.inl x5), some (.inl x6)]) rfl rfl rfl (fun _ => rfl) (fun x6 => ?_)
    refine r_goto rfl ?_
    exact hr4 l0 x5 x6
noncomputable def fW_owesOfAll_L4 (I : am_M) (P : am_Q) (e4_30 : Int32 → Option (Int32)) : Nat → Nat → Int32 → Int32 → Option (Int32)
  | 0, _, _, _ => none
  | n + 1, l0, l1, l2 => fW_owesOfAll_B4 I P e4_30 (fW_owesOfAll_L4 I P e4_30 n) l0 l1 l2
theorem AfW_owesOfAll_L4 {dp : Nat} {I : am_M} {P : am_Q} {nx : Nat} {sl : Nat} {e4_30 : Int32 → Option (Int32)} (he4_30 : ∀ (l1 : Int32) (o0 : Option am_V) (o2 : Option am_V), sm (dp + 0) am_d129 30 [o0, some (.inl l1), o2] [] (I, P, nx, sl) (sm_g0 (I, P, nx, sl)) (e4_30 l1)) (n : Nat) : ∀ (l0 : Nat) (l1 : Int32) (l2 : Int32), sm (dp + 0) am_d129 4 [some (.inr l0), some (.inl l1), some (.inl l2)] [] (I, P, nx, sl) (sm_g0 (I, P, nx, sl)) (fW_owesOfAll_L4 I P e4_30 n l0 l1 l2) := by
  induction n with
  | zero => intro l0 l1 l2; exact sm_none
  | succ n ih => intro l0 l1 l2; exact AfW_owesOfAll_B4 he4_30 ih l0 l1 l2
noncomputable def fW_owesOfAll (I : am_M) (P : am_Q) (l0 : Nat) : Option (Int32) :=
  fW_owesOfAll_L4 I P (fun l1 =>
      some l1) sm_fu l0 0 0
set_option maxRecDepth 100000 in
theorem AfW_owesOfAll {dp : Nat} {I : am_M} {P : am_Q} {nx : Nat} {sl : Nat} {l0 : Nat} {y : Int32} (hy : fW_owesOfAll I P l0 = some y) : sm_T (dp + 1) 129 [.inr l0] (I, P, nx, sl) ((sm_g0 (I, P, nx, sl)) y) := by
  refine r_meth (d := am_d129) (dp := dp + 0) (ls0 := [some (.inr l0), none, none]) rfl (by decide) rfl rfl ?_ hy
  unfold fW_owesOfAll
  refine r_const (x := 0) rfl rfl ?_
  refine r_istore (ls' := [some (.inr l0), some (.inl 0), none]) rfl (Nat.le_of_ble_eq_true rfl) rfl ?_
  refine r_const (x := 0) rfl rfl ?_
  refine r_istore (ls' := [some (.inr l0), some (.inl 0), some (.inl 0)]) rfl (Nat.le_of_ble_eq_true rfl) rfl ?_
  refine AfW_owesOfAll_L4 ?_ sm_fu l0 0 0
  · intro l1 o0 o2
    refine r_iload rfl rfl ?_
    exact r_ireturn rfl (Or.inl rfl) rfl
noncomputable def fX_beside_B45 (e45_68 : Nat → am_M → am_Q → Nat → Nat → Option (Int32 × am_S)) (r45 : Nat → Int32 → Int32 → am_M → am_Q → Nat → Nat → Option (Int32 × am_S)) (l0 : Nat) (l2 : Int32) (l3 : Int32) (I : am_M) (P : am_Q) (nx : Nat) (sl : Nat) : Option (Int32 × am_S) :=
  if l2 ≤ l3 then
    (e45_68 l0 I P nx sl)
  else
    (sm_ck (am_t l0 = 12) <|
    sm_ck (am_t (P l0 10) = 3) <|
    Option.bind (fH_pass P (P l0 10) (P l0 1) I) fun y17 =>
    sm_bd (l3 + 1) fun x18 =>
    r45 l0 l2 x18 y17.2 P nx sl)
set_option maxRecDepth 100000 in
theorem AfX_beside_B45 {dp : Nat}  {e45_68 : Nat → am_M → am_Q → Nat → Nat → Option (Int32 × am_S)} {r45 : Nat → Int32 → Int32 → am_M → am_Q → Nat → Nat → Option (Int32 × am_S)} (he45_68 : ∀ (l0 : Nat) (I : am_M) (P : am_Q) (nx : Nat) (sl : Nat) (o1 : Option am_V) (o2 : Option am_V) (o3 : Option am_V), sm (dp + 5) am_d128 68 [some (.inr l0), o1, o2, o3] [] (I, P, nx, sl) sm_g3 (e45_68 l0 I P nx sl)) (hr45 : ∀ (l0 : Nat) (l2 : Int32) (l3 : Int32) (I : am_M) (P : am_Q) (nx : Nat) (sl : Nat) (o1 : Option am_V), sm (dp + 5) am_d128 45 [some (.inr l0), o1, some (.inl l2), some (.inl l3)] [] (I, P, nx, sl) sm_g3 (r45 l0 l2 l3 I P nx sl)) (l0 : Nat) (l2 : Int32) (l3 : Int32) (I : am_M) (P : am_Q) (nx : Nat) (sl : Nat) (o1 : Option am_V) : sm (dp + 5) am_d128 45 [some (.inr l0), o1, some (.inl l2), some (.inl l3)] [] (I, P, nx, sl) sm_g3 (fX_beside_B45 e45_68 r45 l0 l2 l3 I P nx sl) := by
  unfold fX_beside_B45
  refine r_iload rfl rfl ?_
  refine r_iload rfl rfl ?_
  refine r_icmp rfl rfl (fun c14 => ?_) (fun c14 => ?_)
  · exact he45_68 l0 I P nx sl o1 (some (.inl l2)) (some (.inl l3))
  · refine r_ck (fun h15 => ?_)
    refine r_aload rfl rfl (am_nz h15) ?_
    refine r_getP rfl h15 ?_
    refine r_aload rfl rfl (am_nz h15) ?_
    refine r_getP rfl h15 ?_
    refine r_ck (fun h16 => ?_)
    refine r_call1 rfl rfl h16 (fun y hy => AfH_pass (dp := dp + 0) hy) (fun y17 => ?_)
    refine r_pop rfl ?_
    refine r_iinc (e := l3 + 1) (ls' := fun x18 => [some (.inr l0), o1, some (.inl l2), some (.inl x18)]) rfl rfl rfl (fun _ => rfl) (fun x18 => ?_)
    refine r_goto rfl ?_
    exact hr45 l0 l2 x18 y17.2 P nx sl o1
noncomputable def fX_beside_L45 (e45_68 : Nat → am_M → am_Q → Nat → Nat → Option (Int32 × am_S)) : Nat → Nat → Int32 → Int32 → am_M → am_Q → Nat → Nat → Option (Int32 × am_S)
  | 0, _, _, _, _, _, _, _ => none
  | n + 1, l0, l2, l3, I, P, nx, sl => fX_beside_B45 e45_68 (fX_beside_L45 e45_68 n) l0 l2 l3 I P nx sl
theorem AfX_beside_L45 {dp : Nat}  {e45_68 : Nat → am_M → am_Q → Nat → Nat → Option (Int32 × am_S)} (he45_68 : ∀ (l0 : Nat) (I : am_M) (P : am_Q) (nx : Nat) (sl : Nat) (o1 : Option am_V) (o2 : Option am_V) (o3 : Option am_V), sm (dp + 5) am_d128 68 [some (.inr l0), o1, o2, o3] [] (I, P, nx, sl) sm_g3 (e45_68 l0 I P nx sl)) (n : Nat) : ∀ (l0 : Nat) (l2 : Int32) (l3 : Int32) (I : am_M) (P : am_Q) (nx : Nat) (sl : Nat) (o1 : Option am_V), sm (dp + 5) am_d128 45 [some (.inr l0), o1, some (.inl l2), some (.inl l3)] [] (I, P, nx, sl) sm_g3 (fX_beside_L45 e45_68 n l0 l2 l3 I P nx sl) := by
  induction n with
  | zero => intro l0 l2 l3 I P nx sl o1; exact sm_none
  | succ n ih => intro l0 l2 l3 I P nx sl o1; exact AfX_beside_B45 he45_68 ih l0 l2 l3 I P nx sl o1
noncomputable def fX_beside (l0 : Nat) (l1 : Int32) (l2 : Int32) (I : am_M) (P : am_Q) (nx : Nat) (sl : Nat) : Option (Int32 × am_S) :=
  Option.bind (fX_isRule l1) fun y1 =>
  if y1 = 0 then
    (sm_ck (am_t l0 = 12) <|
    Option.bind (fX_found P l0 ((-1000001)) I) fun y4 =>
    some (y4.1, y4.2, P, nx, sl))
  else
    (if l2 < 0 then
      (sm_ck (am_t l0 = 12) <|
      Option.bind (fX_found P l0 ((-1000001)) I) fun y7 =>
      some (y7.1, y7.2, P, nx, sl))
    else
      (if l2 ≤ 30 then
        (sm_ck (am_t l0 = 12) <|
        sm_ck (am_t (P l0 1) = 11) <|
        Option.bind (fW_copyFrom (P l0 1) (P l0 0) I P nx sl) fun y11 =>
        sm_ck (am_t (y11.2.1 l0 1) = 11) <|
        sm_bd (am_up y11.1 (y11.2.1 l0 1) 2 l1) fun I13 =>
        fX_beside_L45 (fun l0 I P nx sl =>
            sm_ck (am_t l0 = 12) <|
            sm_ck (am_t (P l0 1) = 11) <|
            Option.bind (fW_owesOfAll I P (P l0 1)) fun y21 =>
            some (y21, I, P, nx, sl)) sm_fu l0 l2 0 I13 y11.2.1 y11.2.2.1 y11.2.2.2)
      else
        (sm_ck (am_t l0 = 12) <|
        Option.bind (fX_found P l0 ((-1000001)) I) fun y23 =>
        some (y23.1, y23.2, P, nx, sl))))
set_option maxRecDepth 100000 in
theorem AfX_beside {dp : Nat}  {I : am_M} {P : am_Q} {nx : Nat} {sl : Nat} {l0 : Nat} {l1 : Int32} {l2 : Int32} {y : Int32 × am_S} (hy : fX_beside l0 l1 l2 I P nx sl = some y) : sm_T (dp + 6) 128 [.inr l0, .inl l1, .inl l2] (I, P, nx, sl) (sm_g3 y) := by
  refine r_meth (d := am_d128) (dp := dp + 5) (ls0 := [some (.inr l0), some (.inl l1), some (.inl l2), none]) rfl (by decide) rfl rfl ?_ hy
  unfold fX_beside
  refine r_iload rfl rfl ?_
  refine r_call0 rfl rfl trivial (fun y hy => AfX_isRule (dp := dp + 4) hy) (fun y1 => ?_)
  refine r_if rfl rfl (fun c2 => ?_) (fun c2 => ?_)
  · refine r_ck (fun h3 => ?_)
    refine r_aload rfl rfl (am_nz h3) ?_
    refine r_const (x := (-1000001)) rfl rfl ?_
    refine r_call1 rfl rfl h3 (fun y hy => AfX_found (dp := dp + 4) hy) (fun y4 => ?_)
    exact r_ireturn rfl (Or.inl rfl) rfl
  · refine r_iload rfl rfl ?_
    refine r_if rfl rfl (fun c5 => ?_) (fun c5 => ?_)
    · refine r_ck (fun h6 => ?_)
      refine r_aload rfl rfl (am_nz h6) ?_
      refine r_const (x := (-1000001)) rfl rfl ?_
      refine r_call1 rfl rfl h6 (fun y hy => AfX_found (dp := dp + 4) hy) (fun y7 => ?_)
      exact r_ireturn rfl (Or.inl rfl) rfl
    · refine r_iload rfl rfl ?_
      refine r_const (x := 30) rfl rfl ?_
      refine r_icmp rfl rfl (fun c8 => ?_) (fun c8 => ?_)
      · refine r_ck (fun h9 => ?_)
        refine r_aload rfl rfl (am_nz h9) ?_
        refine r_getP rfl h9 ?_
        refine r_aload rfl rfl (am_nz h9) ?_
        refine r_getP rfl h9 ?_
        refine r_ck (fun h10 => ?_)
        refine r_call4 rfl rfl h10 (fun y hy => AfW_copyFrom (dp := dp + 3) hy) (fun y11 => ?_)
        refine r_aload rfl rfl (am_nz h9) ?_
        refine r_getP rfl h9 ?_
        refine r_iload rfl rfl ?_
        refine r_ck (fun h12 => ?_)
        refine r_putI rfl h12 (fun hz => absurd hz (by decide)) (fun I13 => ?_)
        refine r_const (x := 0) rfl rfl ?_
        refine r_istore (ls' := [some (.inr l0), some (.inl l1), some (.inl l2), some (.inl 0)]) rfl (Nat.le_of_ble_eq_true rfl) rfl ?_
        refine AfX_beside_L45 ?_ sm_fu l0 l2 0 I13 y11.2.1 y11.2.2.1 y11.2.2.2 (some (.inl l1))
        · intro l0 I P nx sl o1 o2 o3
          refine r_ck (fun h19 => ?_)
          refine r_aload rfl rfl (am_nz h19) ?_
          refine r_getP rfl h19 ?_
          refine r_ck (fun h20 => ?_)
          refine r_call0 rfl rfl h20 (fun y hy => AfW_owesOfAll (dp := dp + 4) hy) (fun y21 => ?_)
          exact r_ireturn rfl (Or.inl rfl) rfl
      · refine r_ck (fun h22 => ?_)
        refine r_aload rfl rfl (am_nz h22) ?_
        refine r_const (x := (-1000001)) rfl rfl ?_
        refine r_call1 rfl rfl h22 (fun y hy => AfX_found (dp := dp + 4) hy) (fun y23 => ?_)
        exact r_ireturn rfl (Or.inl rfl) rfl
noncomputable def fE_begin (P : am_Q) (l0 : Nat) (l1 : Int32) (l2 : Int32) (I : am_M) : Option (am_M) :=
  sm_ck (am_t l0 = 9) <|
  sm_bd (am_up I l0 2 l1) fun I2 =>
  sm_bd (am_up I2 l0 1 l2) fun I3 =>
  Option.bind (fA_fill P (P l0 0) 0 I3) fun y4 =>
  some y4
set_option maxRecDepth 100000 in
theorem AfE_begin {dp : Nat} {P : am_Q} {nx : Nat} {sl : Nat} {I : am_M} {l0 : Nat} {l1 : Int32} {l2 : Int32} {y : am_M} (hy : fE_begin P l0 l1 l2 I = some y) : sm_T (dp + 2) 131 [.inr l0, .inl l1, .inl l2] (I, P, nx, sl) ((sm_g2 P nx sl) y) := by
  refine r_meth (d := am_d131) (dp := dp + 1) (ls0 := [some (.inr l0), some (.inl l1), some (.inl l2)]) rfl (by decide) rfl rfl ?_ hy
  unfold fE_begin
  refine r_ck (fun h1 => ?_)
  refine r_aload rfl rfl (am_nz h1) ?_
  refine r_iload rfl rfl ?_
  refine r_putI rfl h1 (fun hz => absurd hz (by decide)) (fun I2 => ?_)
  refine r_aload rfl rfl (am_nz h1) ?_
  refine r_iload rfl rfl ?_
  refine r_putI rfl h1 (fun hz => absurd hz (by decide)) (fun I3 => ?_)
  refine r_aload rfl rfl (am_nz h1) ?_
  refine r_getP rfl h1 ?_
  refine r_const (x := 0) rfl rfl ?_
  refine r_call2 rfl rfl trivial (fun y hy => AfA_fill (dp := dp + 0) hy) (fun y4 => ?_)
  exact r_return rfl rfl
noncomputable def fX_sheet_J36 (P : am_Q) (l0 : Nat) (l1 : Int32) (l2 : Int32) (l3 : Int32) (I : am_M) : Option (Int32 × am_M) :=
  if 0 ≤ l3 then
    (if l3 ≤ 24 then
      (sm_ck (am_t l0 = 12) <|
      sm_ck (sm_ia (P l0 13) l1) <|
      if ¬ l2 = 0 then
        (sm_ck (am_t (P (P l0 13) l1.toNatClampNeg) = 9) <|
        Option.bind (fE_begin P (P (P l0 13) l1.toNatClampNeg) l2 l3 I) fun y12 =>
        sm_ck (sm_ia (P l0 13) l1) <|
        some (y12 (P (P l0 13) l1.toNatClampNeg) 1, y12))
      else
        (sm_ck (am_t (P (P l0 13) l1.toNatClampNeg) = 9) <|
        Option.bind (fE_begin P (P (P l0 13) l1.toNatClampNeg) l2 0 I) fun y15 =>
        sm_ck (sm_ia (P l0 13) l1) <|
        some (y15 (P (P l0 13) l1.toNatClampNeg) 1, y15)))
    else
      (sm_ck (am_t l0 = 12) <|
      Option.bind (fX_found P l0 ((-1000001)) I) fun y18 =>
      some (y18.1, y18.2)))
  else
    (sm_ck (am_t l0 = 12) <|
    Option.bind (fX_found P l0 ((-1000007)) I) fun y20 =>
    some (y20.1, y20.2))
set_option maxRecDepth 100000 in
theorem AfX_sheet_J36 {dp : Nat} {P : am_Q} {nx : Nat} {sl : Nat} (l0 : Nat) (l1 : Int32) (l2 : Int32) (l3 : Int32) (I : am_M) : sm (dp + 2) am_d130 36 [some (.inr l0), some (.inl l1), some (.inl l2), some (.inl l3)] [] (I, P, nx, sl) (sm_g1 P nx sl) (fX_sheet_J36 P l0 l1 l2 l3 I) := by
  unfold fX_sheet_J36
  refine r_iload rfl rfl ?_
  refine r_if rfl rfl (fun c6 => ?_) (fun c6 => ?_)
  · refine r_iload rfl rfl ?_
    refine r_const (x := 24) rfl rfl ?_
    refine r_icmp rfl rfl (fun c7 => ?_) (fun c7 => ?_)
    · refine r_ck (fun h8 => ?_)
      refine r_aload rfl rfl (am_nz h8) ?_
      refine r_getP rfl h8 ?_
      refine r_iload rfl rfl ?_
      refine r_ck (fun h9 => ?_)
      refine r_aald rfl h9 ?_
      refine r_iload rfl rfl ?_
      refine r_iload rfl rfl ?_
      refine r_if rfl rfl (fun c10 => ?_) (fun c10 => ?_)
      · refine r_iload rfl rfl ?_
        refine r_ck (fun h11 => ?_)
        refine r_call2 rfl rfl h11 (fun y hy => AfE_begin (dp := dp + 0) hy) (fun y12 => ?_)
        refine r_aload rfl rfl (am_nz h8) ?_
        refine r_getP rfl h8 ?_
        refine r_iload rfl rfl ?_
        refine r_ck (fun h13 => ?_)
        refine r_aald rfl h13 ?_
        refine r_getI rfl h11 ?_
        exact r_ireturn rfl (Or.inl rfl) rfl
      · refine r_const (x := 0) rfl rfl ?_
        refine r_goto rfl ?_
        refine r_ck (fun h14 => ?_)
        refine r_call2 rfl rfl h14 (fun y hy => AfE_begin (dp := dp + 0) hy) (fun y15 => ?_)
        refine r_aload rfl rfl (am_nz h8) ?_
        refine r_getP rfl h8 ?_
        refine r_iload rfl rfl ?_
        refine r_ck (fun h16 => ?_)
        refine r_aald rfl h16 ?_
        refine r_getI rfl h14 ?_
        exact r_ireturn rfl (Or.inl rfl) rfl
    · refine r_ck (fun h17 => ?_)
      refine r_aload rfl rfl (am_nz h17) ?_
      refine r_const (x := (-1000001)) rfl rfl ?_
      refine r_call1 rfl rfl h17 (fun y hy => AfX_found (dp := dp + 1) hy) (fun y18 => ?_)
      exact r_ireturn rfl (Or.inl rfl) rfl
  · refine r_ck (fun h19 => ?_)
    refine r_aload rfl rfl (am_nz h19) ?_
    refine r_const (x := (-1000007)) rfl rfl ?_
    refine r_call1 rfl rfl h19 (fun y hy => AfX_found (dp := dp + 1) hy) (fun y20 => ?_)
    exact r_ireturn rfl (Or.inl rfl) rfl
noncomputable def fX_sheet (P : am_Q) (l0 : Nat) (l1 : Int32) (l2 : Int32) (l3 : Int32) (I : am_M) : Option (Int32 × am_M) :=
  Option.bind (fX_isSheet l1) fun y1 =>
  if y1 = 0 then
    (sm_ck (am_t l0 = 12) <|
    Option.bind (fX_found P l0 ((-1000001)) I) fun y4 =>
    some (y4.1, y4.2))
  else
    (if l2 = 0 then
      (fX_sheet_J36 P l0 l1 l2 l3 I)
    else
      (if l2 = 8 then
        (fX_sheet_J36 P l0 l1 l2 l3 I)
      else
        (if l2 = 16 then
          (fX_sheet_J36 P l0 l1 l2 l3 I)
        else
          (if l2 = 32 then
            (fX_sheet_J36 P l0 l1 l2 l3 I)
          else
            (sm_ck (am_t l0 = 12) <|
            Option.bind (fX_found P l0 ((-1000001)) I) fun y25 =>
            some (y25.1, y25.2))))))
set_option maxRecDepth 100000 in
theorem AfX_sheet {dp : Nat} {P : am_Q} {nx : Nat} {sl : Nat} {I : am_M} {l0 : Nat} {l1 : Int32} {l2 : Int32} {l3 : Int32} {y : Int32 × am_M} (hy : fX_sheet P l0 l1 l2 l3 I = some y) : sm_T (dp + 3) 130 [.inr l0, .inl l1, .inl l2, .inl l3] (I, P, nx, sl) ((sm_g1 P nx sl) y) := by
  refine r_meth (d := am_d130) (dp := dp + 2) (ls0 := [some (.inr l0), some (.inl l1), some (.inl l2), some (.inl l3)]) rfl (by decide) rfl rfl ?_ hy
  unfold fX_sheet
  refine r_iload rfl rfl ?_
  refine r_call0 rfl rfl trivial (fun y hy => AfX_isSheet (dp := dp + 1) hy) (fun y1 => ?_)
  refine r_if rfl rfl (fun c2 => ?_) (fun c2 => ?_)
  · refine r_ck (fun h3 => ?_)
    refine r_aload rfl rfl (am_nz h3) ?_
    refine r_const (x := (-1000001)) rfl rfl ?_
    refine r_call1 rfl rfl h3 (fun y hy => AfX_found (dp := dp + 1) hy) (fun y4 => ?_)
    exact r_ireturn rfl (Or.inl rfl) rfl
  · refine r_iload rfl rfl ?_
    refine r_if rfl rfl (fun c5 => ?_) (fun c5 => ?_)
    · exact AfX_sheet_J36 l0 l1 l2 l3 I
    · refine r_iload rfl rfl ?_
      refine r_const (x := 8) rfl rfl ?_
      refine r_icmp rfl rfl (fun c21 => ?_) (fun c21 => ?_)
      · exact AfX_sheet_J36 l0 l1 l2 l3 I
      · refine r_iload rfl rfl ?_
        refine r_const (x := 16) rfl rfl ?_
        refine r_icmp rfl rfl (fun c22 => ?_) (fun c22 => ?_)
        · exact AfX_sheet_J36 l0 l1 l2 l3 I
        · refine r_iload rfl rfl ?_
          refine r_const (x := 32) rfl rfl ?_
          refine r_icmp rfl rfl (fun c23 => ?_) (fun c23 => ?_)
          · exact AfX_sheet_J36 l0 l1 l2 l3 I
          · refine r_ck (fun h24 => ?_)
            refine r_aload rfl rfl (am_nz h24) ?_
            refine r_const (x := (-1000001)) rfl rfl ?_
            refine r_call1 rfl rfl h24 (fun y hy => AfX_found (dp := dp + 1) hy) (fun y25 => ?_)
            exact r_ireturn rfl (Or.inl rfl) rfl
noncomputable def fE_put (P : am_Q) (l0 : Nat) (l1 : Int32) (l2 : Int32) (I : am_M) : Option (am_M) :=
  sm_ck (am_t l0 = 9) <|
  if (I l0 2) < 32 then
    (sm_ck (sm_iw (P l0 0) l1) <|
    sm_bd (am_up I (P l0 0) l1.toNatClampNeg (l2 &&& ((sm_shl 1 (I l0 2)) - 1))) fun I4 =>
    some I4)
  else
    (sm_ck (sm_iw (P l0 0) l1) <|
    sm_bd (am_up I (P l0 0) l1.toNatClampNeg l2) fun I6 =>
    some I6)
set_option maxRecDepth 100000 in
theorem AfE_put {dp : Nat} {P : am_Q} {nx : Nat} {sl : Nat} {I : am_M} {l0 : Nat} {l1 : Int32} {l2 : Int32} {y : am_M} (hy : fE_put P l0 l1 l2 I = some y) : sm_T (dp + 1) 133 [.inr l0, .inl l1, .inl l2] (I, P, nx, sl) ((sm_g2 P nx sl) y) := by
  refine r_meth (d := am_d133) (dp := dp + 0) (ls0 := [some (.inr l0), some (.inl l1), some (.inl l2)]) rfl (by decide) rfl rfl ?_ hy
  unfold fE_put
  refine r_ck (fun h1 => ?_)
  refine r_aload rfl rfl (am_nz h1) ?_
  refine r_getP rfl h1 ?_
  refine r_iload rfl rfl ?_
  refine r_aload rfl rfl (am_nz h1) ?_
  refine r_getI rfl h1 ?_
  refine r_const (x := 32) rfl rfl ?_
  refine r_icmp rfl rfl (fun c2 => ?_) (fun c2 => ?_)
  · refine r_iload rfl rfl ?_
    refine r_const (x := 1) rfl rfl ?_
    refine r_aload rfl rfl (am_nz h1) ?_
    refine r_getI rfl h1 ?_
    refine r_bin (z := sm_shl 1 (I l0 2)) rfl rfl (by decide) ?_
    refine r_const (x := 1) rfl rfl ?_
    refine r_bin (z := (sm_shl 1 (I l0 2)) - 1) rfl rfl (by decide) ?_
    refine r_bin (z := l2 &&& ((sm_shl 1 (I l0 2)) - 1)) rfl rfl (by decide) ?_
    refine r_ck (fun h3 => ?_)
    refine r_iast rfl h3 (fun I4 => ?_)
    exact r_return rfl rfl
  · refine r_iload rfl rfl ?_
    refine r_goto rfl ?_
    refine r_ck (fun h5 => ?_)
    refine r_iast rfl h5 (fun I6 => ?_)
    exact r_return rfl rfl
noncomputable def fX_write (P : am_Q) (l0 : Nat) (l1 : Int32) (l2 : Int32) (l3 : Int32) (I : am_M) : Option (Int32 × am_M) :=
  Option.bind (fX_isSheet l1) fun y1 =>
  if ¬ y1 = 0 then
    (sm_ck (am_t l0 = 12) <|
    sm_ck (sm_ia (P l0 13) l1) <|
    sm_ck (am_t (P (P l0 13) l1.toNatClampNeg) = 9) <|
    Option.bind (fE_isMissing I P (P (P l0 13) l1.toNatClampNeg)) fun y6 =>
    if y6 = 0 then
      (if l2 < 0 then
        (Option.bind (fX_found P l0 ((-1000001)) I) fun y9 =>
        some (y9.1, y9.2))
      else
        (sm_ck (sm_ia (P l0 13) l1) <|
        if l2 < (I (P (P l0 13) l1.toNatClampNeg) 1) then
          (sm_ck (sm_ia (P l0 13) l1) <|
          Option.bind (fE_put P (P (P l0 13) l1.toNatClampNeg) l2 l3 I) fun y13 =>
          some (1, y13))
        else
          (Option.bind (fX_found P l0 ((-1000001)) I) fun y14 =>
          some (y14.1, y14.2))))
    else
      (Option.bind (fX_found P l0 ((-1000006)) I) fun y15 =>
      some (y15.1, y15.2)))
  else
    (sm_ck (am_t l0 = 12) <|
    Option.bind (fX_found P l0 ((-1000001)) I) fun y17 =>
    some (y17.1, y17.2))
set_option maxRecDepth 100000 in
theorem AfX_write {dp : Nat} {P : am_Q} {nx : Nat} {sl : Nat} {I : am_M} {l0 : Nat} {l1 : Int32} {l2 : Int32} {l3 : Int32} {y : Int32 × am_M} (hy : fX_write P l0 l1 l2 l3 I = some y) : sm_T (dp + 2) 132 [.inr l0, .inl l1, .inl l2, .inl l3] (I, P, nx, sl) ((sm_g1 P nx sl) y) := by
  refine r_meth (d := am_d132) (dp := dp + 1) (ls0 := [some (.inr l0), some (.inl l1), some (.inl l2), some (.inl l3)]) rfl (by decide) rfl rfl ?_ hy
  unfold fX_write
  refine r_iload rfl rfl ?_
  refine r_call0 rfl rfl trivial (fun y hy => AfX_isSheet (dp := dp + 0) hy) (fun y1 => ?_)
  refine r_if rfl rfl (fun c2 => ?_) (fun c2 => ?_)
  · refine r_ck (fun h3 => ?_)
    refine r_aload rfl rfl (am_nz h3) ?_
    refine r_getP rfl h3 ?_
    refine r_iload rfl rfl ?_
    refine r_ck (fun h4 => ?_)
    refine r_aald rfl h4 ?_
    refine r_ck (fun h5 => ?_)
    refine r_call0 rfl rfl h5 (fun y hy => AfE_isMissing (dp := dp + 0) hy) (fun y6 => ?_)
    refine r_if rfl rfl (fun c7 => ?_) (fun c7 => ?_)
    · refine r_iload rfl rfl ?_
      refine r_if rfl rfl (fun c8 => ?_) (fun c8 => ?_)
      · refine r_aload rfl rfl (am_nz h3) ?_
        refine r_const (x := (-1000001)) rfl rfl ?_
        refine r_call1 rfl rfl h3 (fun y hy => AfX_found (dp := dp + 0) hy) (fun y9 => ?_)
        exact r_ireturn rfl (Or.inl rfl) rfl
      · refine r_iload rfl rfl ?_
        refine r_aload rfl rfl (am_nz h3) ?_
        refine r_getP rfl h3 ?_
        refine r_iload rfl rfl ?_
        refine r_ck (fun h10 => ?_)
        refine r_aald rfl h10 ?_
        refine r_getI rfl h5 ?_
        refine r_icmp rfl rfl (fun c11 => ?_) (fun c11 => ?_)
        · refine r_aload rfl rfl (am_nz h3) ?_
          refine r_getP rfl h3 ?_
          refine r_iload rfl rfl ?_
          refine r_ck (fun h12 => ?_)
          refine r_aald rfl h12 ?_
          refine r_iload rfl rfl ?_
          refine r_iload rfl rfl ?_
          refine r_call2 rfl rfl h5 (fun y hy => AfE_put (dp := dp + 0) hy) (fun y13 => ?_)
          refine r_const (x := 1) rfl rfl ?_
          exact r_ireturn rfl (Or.inl rfl) rfl
        · refine r_aload rfl rfl (am_nz h3) ?_
          refine r_const (x := (-1000001)) rfl rfl ?_
          refine r_call1 rfl rfl h3 (fun y hy => AfX_found (dp := dp + 0) hy) (fun y14 => ?_)
          exact r_ireturn rfl (Or.inl rfl) rfl
    · refine r_aload rfl rfl (am_nz h3) ?_
      refine r_const (x := (-1000006)) rfl rfl ?_
      refine r_call1 rfl rfl h3 (fun y hy => AfX_found (dp := dp + 0) hy) (fun y15 => ?_)
      exact r_ireturn rfl (Or.inl rfl) rfl
  · refine r_ck (fun h16 => ?_)
    refine r_aload rfl rfl (am_nz h16) ?_
    refine r_const (x := (-1000001)) rfl rfl ?_
    refine r_call1 rfl rfl h16 (fun y hy => AfX_found (dp := dp + 0) hy) (fun y17 => ?_)
    exact r_ireturn rfl (Or.inl rfl) rfl
noncomputable def fE_hasRange (I : am_M) (P : am_Q) (l0 : Nat) (l1 : Int32) (l2 : Int32) : Option (Int32) :=
  if l1 < 0 then
    (some 0)
  else
    (if l2 < 0 then
      (some 0)
    else
      (sm_ck (am_t l0 = 9) <|
      if (I l0 1) < l2 then
        (some 0)
      else
        (if ((I l0 1) - l2) < l1 then
          (some 0)
        else
          (some 1))))
set_option maxRecDepth 100000 in
theorem AfE_hasRange {dp : Nat} {I : am_M} {P : am_Q} {nx : Nat} {sl : Nat} {l0 : Nat} {l1 : Int32} {l2 : Int32} {y : Int32} (hy : fE_hasRange I P l0 l1 l2 = some y) : sm_T (dp + 1) 135 [.inr l0, .inl l1, .inl l2] (I, P, nx, sl) ((sm_g0 (I, P, nx, sl)) y) := by
  refine r_meth (d := am_d135) (dp := dp + 0) (ls0 := [some (.inr l0), some (.inl l1), some (.inl l2)]) rfl (by decide) rfl rfl ?_ hy
  unfold fE_hasRange
  refine r_iload rfl rfl ?_
  refine r_if rfl rfl (fun c1 => ?_) (fun c1 => ?_)
  · refine r_const (x := 0) rfl rfl ?_
    exact r_ireturn rfl (Or.inr ⟨rfl, sm_010⟩) rfl
  · refine r_iload rfl rfl ?_
    refine r_if rfl rfl (fun c2 => ?_) (fun c2 => ?_)
    · refine r_const (x := 0) rfl rfl ?_
      exact r_ireturn rfl (Or.inr ⟨rfl, sm_010⟩) rfl
    · refine r_iload rfl rfl ?_
      refine r_ck (fun h3 => ?_)
      refine r_aload rfl rfl (am_nz h3) ?_
      refine r_getI rfl h3 ?_
      refine r_icmp rfl rfl (fun c4 => ?_) (fun c4 => ?_)
      · refine r_const (x := 0) rfl rfl ?_
        exact r_ireturn rfl (Or.inr ⟨rfl, sm_010⟩) rfl
      · refine r_iload rfl rfl ?_
        refine r_aload rfl rfl (am_nz h3) ?_
        refine r_getI rfl h3 ?_
        refine r_iload rfl rfl ?_
        refine r_bin (z := (I l0 1) - l2) rfl rfl (by decide) ?_
        refine r_icmp rfl rfl (fun c5 => ?_) (fun c5 => ?_)
        · refine r_const (x := 0) rfl rfl ?_
          exact r_ireturn rfl (Or.inr ⟨rfl, sm_010⟩) rfl
        · refine r_const (x := 1) rfl rfl ?_
          refine r_goto rfl ?_
          exact r_ireturn rfl (Or.inr ⟨rfl, sm_011⟩) rfl
noncomputable def fX_copy (P : am_Q) (l0 : Nat) (l1 : Int32) (l2 : Int32) (l3 : Int32) (l4 : Int32) (l5 : Int32) (I : am_M) : Option (Int32 × am_M) :=
  Option.bind (fX_isSheet l1) fun y1 =>
  if y1 = 0 then
    (sm_ck (am_t l0 = 12) <|
    Option.bind (fX_found P l0 ((-1000001)) I) fun y4 =>
    some (y4.1, y4.2))
  else
    (Option.bind (fX_isSheet l3) fun y5 =>
    if ¬ y5 = 0 then
      (sm_ck (am_t l0 = 12) <|
      sm_ck (sm_ia (P l0 13) l1) <|
      sm_ck (am_t (P (P l0 13) l1.toNatClampNeg) = 9) <|
      Option.bind (fE_isMissing I P (P (P l0 13) l1.toNatClampNeg)) fun y10 =>
      if ¬ y10 = 0 then
        (Option.bind (fX_found P l0 ((-1000006)) I) fun y12 =>
        some (y12.1, y12.2))
      else
        (sm_ck (sm_ia (P l0 13) l3) <|
        sm_ck (am_t (P (P l0 13) l3.toNatClampNeg) = 9) <|
        Option.bind (fE_isMissing I P (P (P l0 13) l3.toNatClampNeg)) fun y15 =>
        if y15 = 0 then
          (sm_ck (sm_ia (P l0 13) l1) <|
          sm_ck (sm_ia (P l0 13) l3) <|
          if (I (P (P l0 13) l1.toNatClampNeg) 2) = (I (P (P l0 13) l3.toNatClampNeg) 2) then
            (sm_ck (sm_ia (P l0 13) l1) <|
            Option.bind (fE_hasRange I P (P (P l0 13) l1.toNatClampNeg) l2 l5) fun y21 =>
            if y21 = 0 then
              (Option.bind (fX_found P l0 ((-1000001)) I) fun y23 =>
              some (y23.1, y23.2))
            else
              (sm_ck (sm_ia (P l0 13) l3) <|
              Option.bind (fE_hasRange I P (P (P l0 13) l3.toNatClampNeg) l4 l5) fun y25 =>
              if ¬ y25 = 0 then
                (sm_ck (sm_ia (P l0 13) l1) <|
                sm_ck (sm_ia (P l0 13) l3) <|
                sm_ck (sm_cp (P (P (P l0 13) l1.toNatClampNeg) 0) l2 (P (P (P l0 13) l3.toNatClampNeg) 0) l4 l5) <|
                sm_bd (am_set I (P (P (P l0 13) l3.toNatClampNeg) 0) (va_cpy (I (P (P (P l0 13) l1.toNatClampNeg) 0)) (I (P (P (P l0 13) l3.toNatClampNeg) 0)) l2.toNatClampNeg l4.toNatClampNeg l5.toNatClampNeg)) fun I30 =>
                some (l5, I30))
              else
                (Option.bind (fX_found P l0 ((-1000001)) I) fun y31 =>
                some (y31.1, y31.2))))
          else
            (Option.bind (fX_found P l0 ((-1000003)) I) fun y32 =>
            some (y32.1, y32.2)))
        else
          (Option.bind (fX_found P l0 ((-1000006)) I) fun y33 =>
          some (y33.1, y33.2))))
    else
      (sm_ck (am_t l0 = 12) <|
      Option.bind (fX_found P l0 ((-1000001)) I) fun y35 =>
      some (y35.1, y35.2)))
set_option maxRecDepth 100000 in
theorem AfX_copy {dp : Nat} {P : am_Q} {nx : Nat} {sl : Nat} {I : am_M} {l0 : Nat} {l1 : Int32} {l2 : Int32} {l3 : Int32} {l4 : Int32} {l5 : Int32} {y : Int32 × am_M} (hy : fX_copy P l0 l1 l2 l3 l4 l5 I = some y) : sm_T (dp + 2) 134 [.inr l0, .inl l1, .inl l2, .inl l3, .inl l4, .inl l5] (I, P, nx, sl) ((sm_g1 P nx sl) y) := by
  refine r_meth (d := am_d134) (dp := dp + 1) (ls0 := [some (.inr l0), some (.inl l1), some (.inl l2), some (.inl l3), some (.inl l4), some (.inl l5)]) rfl (by decide) rfl rfl ?_ hy
  unfold fX_copy
  refine r_iload rfl rfl ?_
  refine r_call0 rfl rfl trivial (fun y hy => AfX_isSheet (dp := dp + 0) hy) (fun y1 => ?_)
  refine r_if rfl rfl (fun c2 => ?_) (fun c2 => ?_)
  · refine r_ck (fun h3 => ?_)
    refine r_aload rfl rfl (am_nz h3) ?_
    refine r_const (x := (-1000001)) rfl rfl ?_
    refine r_call1 rfl rfl h3 (fun y hy => AfX_found (dp := dp + 0) hy) (fun y4 => ?_)
    exact r_ireturn rfl (Or.inl rfl) rfl
  · refine r_iload rfl rfl ?_
    refine r_call0 rfl rfl trivial (fun y hy => AfX_isSheet (dp := dp + 0) hy) (fun y5 => ?_)
    refine r_if rfl rfl (fun c6 => ?_) (fun c6 => ?_)
    · refine r_ck (fun h7 => ?_)
      refine r_aload rfl rfl (am_nz h7) ?_
      refine r_getP rfl h7 ?_
      refine r_iload rfl rfl ?_
      refine r_ck (fun h8 => ?_)
      refine r_aald rfl h8 ?_
      refine r_ck (fun h9 => ?_)
      refine r_call0 rfl rfl h9 (fun y hy => AfE_isMissing (dp := dp + 0) hy) (fun y10 => ?_)
      refine r_if rfl rfl (fun c11 => ?_) (fun c11 => ?_)
      · refine r_aload rfl rfl (am_nz h7) ?_
        refine r_const (x := (-1000006)) rfl rfl ?_
        refine r_call1 rfl rfl h7 (fun y hy => AfX_found (dp := dp + 0) hy) (fun y12 => ?_)
        exact r_ireturn rfl (Or.inl rfl) rfl
      · refine r_aload rfl rfl (am_nz h7) ?_
        refine r_getP rfl h7 ?_
        refine r_iload rfl rfl ?_
        refine r_ck (fun h13 => ?_)
        refine r_aald rfl h13 ?_
        refine r_ck (fun h14 => ?_)
        refine r_call0 rfl rfl h14 (fun y hy => AfE_isMissing (dp := dp + 0) hy) (fun y15 => ?_)
        refine r_if rfl rfl (fun c16 => ?_) (fun c16 => ?_)
        · refine r_aload rfl rfl (am_nz h7) ?_
          refine r_getP rfl h7 ?_
          refine r_iload rfl rfl ?_
          refine r_ck (fun h17 => ?_)
          refine r_aald rfl h17 ?_
          refine r_getI rfl h9 ?_
          refine r_aload rfl rfl (am_nz h7) ?_
          refine r_getP rfl h7 ?_
          refine r_iload rfl rfl ?_
          refine r_ck (fun h18 => ?_)
          refine r_aald rfl h18 ?_
          refine r_getI rfl h14 ?_
          refine r_icmp rfl rfl (fun c19 => ?_) (fun c19 => ?_)
          · refine r_aload rfl rfl (am_nz h7) ?_
            refine r_getP rfl h7 ?_
            refine r_iload rfl rfl ?_
            refine r_ck (fun h20 => ?_)
            refine r_aald rfl h20 ?_
            refine r_iload rfl rfl ?_
            refine r_iload rfl rfl ?_
            refine r_call0 rfl rfl h9 (fun y hy => AfE_hasRange (dp := dp + 0) hy) (fun y21 => ?_)
            refine r_if rfl rfl (fun c22 => ?_) (fun c22 => ?_)
            · refine r_aload rfl rfl (am_nz h7) ?_
              refine r_const (x := (-1000001)) rfl rfl ?_
              refine r_call1 rfl rfl h7 (fun y hy => AfX_found (dp := dp + 0) hy) (fun y23 => ?_)
              exact r_ireturn rfl (Or.inl rfl) rfl
            · refine r_aload rfl rfl (am_nz h7) ?_
              refine r_getP rfl h7 ?_
              refine r_iload rfl rfl ?_
              refine r_ck (fun h24 => ?_)
              refine r_aald rfl h24 ?_
              refine r_iload rfl rfl ?_
              refine r_iload rfl rfl ?_
              refine r_call0 rfl rfl h14 (fun y hy => AfE_hasRange (dp := dp + 0) hy) (fun y25 => ?_)
              refine r_if rfl rfl (fun c26 => ?_) (fun c26 => ?_)
              · refine r_aload rfl rfl (am_nz h7) ?_
                refine r_getP rfl h7 ?_
                refine r_iload rfl rfl ?_
                refine r_ck (fun h27 => ?_)
                refine r_aald rfl h27 ?_
                refine r_getP rfl h9 ?_
                refine r_iload rfl rfl ?_
                refine r_aload rfl rfl (am_nz h7) ?_
                refine r_getP rfl h7 ?_
                refine r_iload rfl rfl ?_
                refine r_ck (fun h28 => ?_)
                refine r_aald rfl h28 ?_
                refine r_getP rfl h14 ?_
                refine r_iload rfl rfl ?_
                refine r_iload rfl rfl ?_
                refine r_ck (fun h29 => ?_)
                refine r_copy rfl h29 (Nat.le_of_ble_eq_true rfl) (fun I30 => ?_)
                refine r_iload rfl rfl ?_
                exact r_ireturn rfl (Or.inl rfl) rfl
              · refine r_aload rfl rfl (am_nz h7) ?_
                refine r_const (x := (-1000001)) rfl rfl ?_
                refine r_call1 rfl rfl h7 (fun y hy => AfX_found (dp := dp + 0) hy) (fun y31 => ?_)
                exact r_ireturn rfl (Or.inl rfl) rfl
          · refine r_aload rfl rfl (am_nz h7) ?_
            refine r_const (x := (-1000003)) rfl rfl ?_
            refine r_call1 rfl rfl h7 (fun y hy => AfX_found (dp := dp + 0) hy) (fun y32 => ?_)
            exact r_ireturn rfl (Or.inl rfl) rfl
        · refine r_aload rfl rfl (am_nz h7) ?_
          refine r_const (x := (-1000006)) rfl rfl ?_
          refine r_call1 rfl rfl h7 (fun y hy => AfX_found (dp := dp + 0) hy) (fun y33 => ?_)
          exact r_ireturn rfl (Or.inl rfl) rfl
    · refine r_ck (fun h34 => ?_)
      refine r_aload rfl rfl (am_nz h34) ?_
      refine r_const (x := (-1000001)) rfl rfl ?_
      refine r_call1 rfl rfl h34 (fun y hy => AfX_found (dp := dp + 0) hy) (fun y35 => ?_)
      exact r_ireturn rfl (Or.inl rfl) rfl
noncomputable def fX_image (l0 : Nat) (I : am_M) (P : am_Q) (nx : Nat) (sl : Nat) : Option (Int32 × am_S) :=
  sm_ck (am_t l0 = 12) <|
  sm_ck (am_t (P l0 3) = 11) <|
  Option.bind (fW_copyFrom (P l0 3) (P l0 0) I P nx sl) fun y3 =>
  sm_bd (am_up y3.1 l0 4 1) fun I4 =>
  some (1, I4, y3.2.1, y3.2.2.1, y3.2.2.2)
set_option maxRecDepth 100000 in
theorem AfX_image {dp : Nat}  {I : am_M} {P : am_Q} {nx : Nat} {sl : Nat} {l0 : Nat} {y : Int32 × am_S} (hy : fX_image l0 I P nx sl = some y) : sm_T (dp + 3) 136 [.inr l0] (I, P, nx, sl) (sm_g3 y) := by
  refine r_meth (d := am_d136) (dp := dp + 2) (ls0 := [some (.inr l0)]) rfl (by decide) rfl rfl ?_ hy
  unfold fX_image
  refine r_ck (fun h1 => ?_)
  refine r_aload rfl rfl (am_nz h1) ?_
  refine r_getP rfl h1 ?_
  refine r_aload rfl rfl (am_nz h1) ?_
  refine r_getP rfl h1 ?_
  refine r_ck (fun h2 => ?_)
  refine r_call4 rfl rfl h2 (fun y hy => AfW_copyFrom (dp := dp + 0) hy) (fun y3 => ?_)
  refine r_aload rfl rfl (am_nz h1) ?_
  refine r_const (x := 1) rfl rfl ?_
  refine r_putI rfl h1 (fun _ => sm_011) (fun I4 => ?_)
  refine r_const (x := 1) rfl rfl ?_
  exact r_ireturn rfl (Or.inl rfl) rfl
noncomputable def fX_undo (l0 : Nat) (I : am_M) (P : am_Q) (nx : Nat) (sl : Nat) : Option (Int32 × am_S) :=
  sm_ck (am_t l0 = 12) <|
  if ¬ (I l0 4) = 0 then
    (sm_ck (am_t (P l0 0) = 11) <|
    Option.bind (fW_copyFrom (P l0 0) (P l0 3) I P nx sl) fun y4 =>
    sm_ck (am_t (y4.2.1 l0 5) = 2) <|
    sm_bd (am_up y4.1 (y4.2.1 l0 5) 2 0) fun I6 =>
    sm_ck (am_t (y4.2.1 l0 0) = 11) <|
    some (I6 (y4.2.1 l0 0) 1, I6, y4.2.1, y4.2.2.1, y4.2.2.2))
  else
    (Option.bind (fX_found P l0 ((-1000004)) I) fun y8 =>
    some (y8.1, y8.2, P, nx, sl))
set_option maxRecDepth 100000 in
theorem AfX_undo {dp : Nat}  {I : am_M} {P : am_Q} {nx : Nat} {sl : Nat} {l0 : Nat} {y : Int32 × am_S} (hy : fX_undo l0 I P nx sl = some y) : sm_T (dp + 3) 137 [.inr l0] (I, P, nx, sl) (sm_g3 y) := by
  refine r_meth (d := am_d137) (dp := dp + 2) (ls0 := [some (.inr l0)]) rfl (by decide) rfl rfl ?_ hy
  unfold fX_undo
  refine r_ck (fun h1 => ?_)
  refine r_aload rfl rfl (am_nz h1) ?_
  refine r_getI rfl h1 ?_
  refine r_if rfl rfl (fun c2 => ?_) (fun c2 => ?_)
  · refine r_aload rfl rfl (am_nz h1) ?_
    refine r_getP rfl h1 ?_
    refine r_aload rfl rfl (am_nz h1) ?_
    refine r_getP rfl h1 ?_
    refine r_ck (fun h3 => ?_)
    refine r_call4 rfl rfl h3 (fun y hy => AfW_copyFrom (dp := dp + 0) hy) (fun y4 => ?_)
    refine r_aload rfl rfl (am_nz h1) ?_
    refine r_getP rfl h1 ?_
    refine r_const (x := 0) rfl rfl ?_
    refine r_ck (fun h5 => ?_)
    refine r_putI rfl h5 (fun hz => absurd hz (by decide)) (fun I6 => ?_)
    refine r_aload rfl rfl (am_nz h1) ?_
    refine r_getP rfl h1 ?_
    refine r_ck (fun h7 => ?_)
    refine r_getI rfl h7 ?_
    exact r_ireturn rfl (Or.inl rfl) rfl
  · refine r_aload rfl rfl (am_nz h1) ?_
    refine r_const (x := (-1000004)) rfl rfl ?_
    refine r_call1 rfl rfl h1 (fun y hy => AfX_found (dp := dp + 1) hy) (fun y8 => ?_)
    exact r_ireturn rfl (Or.inl rfl) rfl
noncomputable def fX_tear (P : am_Q) (l0 : Nat) (I : am_M) : Option (Int32 × am_M) :=
  sm_ck (am_t l0 = 12) <|
  if (I l0 4) = 0 then
    (sm_bd (am_up I l0 4 0) fun I3 =>
    some (0, I3))
  else
    (sm_bd (am_up I l0 4 0) fun I4 =>
    some (1, I4))
set_option maxRecDepth 100000 in
theorem AfX_tear {dp : Nat} {P : am_Q} {nx : Nat} {sl : Nat} {I : am_M} {l0 : Nat} {y : Int32 × am_M} (hy : fX_tear P l0 I = some y) : sm_T (dp + 1) 138 [.inr l0] (I, P, nx, sl) ((sm_g1 P nx sl) y) := by
  refine r_meth (d := am_d138) (dp := dp + 0) (ls0 := [some (.inr l0), none]) rfl (by decide) rfl rfl ?_ hy
  unfold fX_tear
  refine r_ck (fun h1 => ?_)
  refine r_aload rfl rfl (am_nz h1) ?_
  refine r_getI rfl h1 ?_
  refine r_if rfl rfl (fun c2 => ?_) (fun c2 => ?_)
  · refine r_const (x := 0) rfl rfl ?_
    refine r_istore (ls' := [some (.inr l0), some (.inl 0)]) rfl (Nat.le_of_ble_eq_true rfl) rfl ?_
    refine r_aload rfl rfl (am_nz h1) ?_
    refine r_const (x := 0) rfl rfl ?_
    refine r_putI rfl h1 (fun _ => sm_010) (fun I3 => ?_)
    refine r_iload rfl rfl ?_
    exact r_ireturn rfl (Or.inl rfl) rfl
  · refine r_const (x := 1) rfl rfl ?_
    refine r_goto rfl ?_
    refine r_istore (ls' := [some (.inr l0), some (.inl 1)]) rfl (Nat.le_of_ble_eq_true rfl) rfl ?_
    refine r_aload rfl rfl (am_nz h1) ?_
    refine r_const (x := 0) rfl rfl ?_
    refine r_putI rfl h1 (fun _ => sm_010) (fun I4 => ?_)
    refine r_iload rfl rfl ?_
    exact r_ireturn rfl (Or.inl rfl) rfl
noncomputable def fX_count (P : am_Q) (l0 : Nat) (l1 : Int32) (I : am_M) : Option (Int32 × am_M) :=
  if l1 = 0 then
    (sm_ck (am_t l0 = 12) <|
    sm_ck (am_t (P l0 0) = 11) <|
    some (I (P l0 0) 6, I))
  else if l1 = 1 then
    (sm_ck (am_t l0 = 12) <|
    sm_ck (am_t (P l0 0) = 11) <|
    some (I (P l0 0) 7, I))
  else if l1 = 2 then
    (sm_ck (am_t l0 = 12) <|
    sm_ck (am_t (P l0 0) = 11) <|
    some (I (P l0 0) 8, I))
  else if l1 = 3 then
    (sm_ck (am_t l0 = 12) <|
    sm_ck (am_t (P l0 0) = 11) <|
    some (I (P l0 0) 1, I))
  else if l1 = 4 then
    (sm_ck (am_t l0 = 12) <|
    sm_ck (am_t (P l0 0) = 11) <|
    some (I (P l0 0) 3, I))
  else if l1 = 5 then
    (sm_ck (am_t l0 = 12) <|
    sm_ck (am_t (P l0 0) = 11) <|
    Option.bind (fW_owesOfAll I P (P l0 0)) fun y19 =>
    some (y19, I))
  else if l1 = 6 then
    (sm_ck (am_t l0 = 12) <|
    sm_ck (am_t (P l0 7) = 10) <|
    some (I (P l0 7) 1, I))
  else if l1 = 7 then
    (sm_ck (am_t l0 = 12) <|
    sm_ck (am_t (P l0 5) = 2) <|
    some (I (P l0 5) 2, I))
  else if l1 = 8 then
    (sm_ck (am_t l0 = 12) <|
    sm_ck (am_t (P l0 0) = 11) <|
    some (I (P l0 0) 0, I))
  else (
    sm_ck (am_t l0 = 12) <|
    Option.bind (fX_found P l0 ((-1000001)) I) fun y30 =>
    some (y30.1, y30.2))
set_option maxRecDepth 100000 in
theorem AfX_count {dp : Nat} {P : am_Q} {nx : Nat} {sl : Nat} {I : am_M} {l0 : Nat} {l1 : Int32} {y : Int32 × am_M} (hy : fX_count P l0 l1 I = some y) : sm_T (dp + 2) 139 [.inr l0, .inl l1] (I, P, nx, sl) ((sm_g1 P nx sl) y) := by
  refine r_meth (d := am_d139) (dp := dp + 1) (ls0 := [some (.inr l0), some (.inl l1)]) rfl (by decide) rfl rfl ?_ hy
  unfold fX_count
  refine r_iload rfl rfl ?_
  refine r_ite (fun c1 => ?_) (fun c1 => ?_)
  · refine r_tabE (t := 52) rfl c1 (by decide) ?_
    refine r_ck (fun h2 => ?_)
    refine r_aload rfl rfl (am_nz h2) ?_
    refine r_getP rfl h2 ?_
    refine r_ck (fun h3 => ?_)
    refine r_getI rfl h3 ?_
    exact r_ireturn rfl (Or.inl rfl) rfl
  refine r_ite (fun c4 => ?_) (fun c4 => ?_)
  · refine r_tabE (t := 60) rfl c4 (by decide) ?_
    refine r_ck (fun h5 => ?_)
    refine r_aload rfl rfl (am_nz h5) ?_
    refine r_getP rfl h5 ?_
    refine r_ck (fun h6 => ?_)
    refine r_getI rfl h6 ?_
    exact r_ireturn rfl (Or.inl rfl) rfl
  refine r_ite (fun c7 => ?_) (fun c7 => ?_)
  · refine r_tabE (t := 68) rfl c7 (by decide) ?_
    refine r_ck (fun h8 => ?_)
    refine r_aload rfl rfl (am_nz h8) ?_
    refine r_getP rfl h8 ?_
    refine r_ck (fun h9 => ?_)
    refine r_getI rfl h9 ?_
    exact r_ireturn rfl (Or.inl rfl) rfl
  refine r_ite (fun c10 => ?_) (fun c10 => ?_)
  · refine r_tabE (t := 76) rfl c10 (by decide) ?_
    refine r_ck (fun h11 => ?_)
    refine r_aload rfl rfl (am_nz h11) ?_
    refine r_getP rfl h11 ?_
    refine r_ck (fun h12 => ?_)
    refine r_getI rfl h12 ?_
    exact r_ireturn rfl (Or.inl rfl) rfl
  refine r_ite (fun c13 => ?_) (fun c13 => ?_)
  · refine r_tabE (t := 84) rfl c13 (by decide) ?_
    refine r_ck (fun h14 => ?_)
    refine r_aload rfl rfl (am_nz h14) ?_
    refine r_getP rfl h14 ?_
    refine r_ck (fun h15 => ?_)
    refine r_getI rfl h15 ?_
    exact r_ireturn rfl (Or.inl rfl) rfl
  refine r_ite (fun c16 => ?_) (fun c16 => ?_)
  · refine r_tabE (t := 92) rfl c16 (by decide) ?_
    refine r_ck (fun h17 => ?_)
    refine r_aload rfl rfl (am_nz h17) ?_
    refine r_getP rfl h17 ?_
    refine r_ck (fun h18 => ?_)
    refine r_call0 rfl rfl h18 (fun y hy => AfW_owesOfAll (dp := dp + 0) hy) (fun y19 => ?_)
    exact r_ireturn rfl (Or.inl rfl) rfl
  refine r_ite (fun c20 => ?_) (fun c20 => ?_)
  · refine r_tabE (t := 100) rfl c20 (by decide) ?_
    refine r_ck (fun h21 => ?_)
    refine r_aload rfl rfl (am_nz h21) ?_
    refine r_getP rfl h21 ?_
    refine r_ck (fun h22 => ?_)
    refine r_getI rfl h22 ?_
    exact r_ireturn rfl (Or.inl rfl) rfl
  refine r_ite (fun c23 => ?_) (fun c23 => ?_)
  · refine r_tabE (t := 108) rfl c23 (by decide) ?_
    refine r_ck (fun h24 => ?_)
    refine r_aload rfl rfl (am_nz h24) ?_
    refine r_getP rfl h24 ?_
    refine r_ck (fun h25 => ?_)
    refine r_getI rfl h25 ?_
    exact r_ireturn rfl (Or.inl rfl) rfl
  refine r_ite (fun c26 => ?_) (fun c26 => ?_)
  · refine r_tabE (t := 116) rfl c26 (by decide) ?_
    refine r_ck (fun h27 => ?_)
    refine r_aload rfl rfl (am_nz h27) ?_
    refine r_getP rfl h27 ?_
    refine r_ck (fun h28 => ?_)
    refine r_getI rfl h28 ?_
    exact r_ireturn rfl (Or.inl rfl) rfl
  refine r_tabD rfl ⟨c1, c4, c7, c10, c13, c16, c20, c23, c26, trivial⟩ ?_
  refine r_ck (fun h29 => ?_)
  refine r_aload rfl rfl (am_nz h29) ?_
  refine r_const (x := (-1000001)) rfl rfl ?_
  refine r_call1 rfl rfl h29 (fun y hy => AfX_found (dp := dp + 0) hy) (fun y30 => ?_)
  exact r_ireturn rfl (Or.inl rfl) rfl
noncomputable def fX_status_B33 (P : am_Q) (e33_54 : Int32 → am_M → Option (Int32 × am_M)) (r33 : Nat → Int32 → Int32 → am_M → Option (Int32 × am_M)) (l0 : Nat) (l2 : Int32) (l3 : Int32) (I : am_M) : Option (Int32 × am_M) :=
  if 7 ≤ l3 then
    (e33_54 l2 I)
  else
    (sm_ck (am_t l0 = 12) <|
    sm_ck (sm_in (P l0 14) l3) <|
    sm_bd (l2 + (I (P l0 14) l3.toNatClampNeg)) fun x9 =>
    sm_bd (l3 + 1) fun x10 =>
    r33 l0 x9 x10 I)
set_option maxRecDepth 100000 in
theorem AfX_status_B33 {dp : Nat} {P : am_Q} {nx : Nat} {sl : Nat} {e33_54 : Int32 → am_M → Option (Int32 × am_M)} {r33 : Nat → Int32 → Int32 → am_M → Option (Int32 × am_M)} (he33_54 : ∀ (l2 : Int32) (I : am_M) (o0 : Option am_V) (o1 : Option am_V) (o3 : Option am_V), sm (dp + 1) am_d140 54 [o0, o1, some (.inl l2), o3] [] (I, P, nx, sl) (sm_g1 P nx sl) (e33_54 l2 I)) (hr33 : ∀ (l0 : Nat) (l2 : Int32) (l3 : Int32) (I : am_M) (o1 : Option am_V), sm (dp + 1) am_d140 33 [some (.inr l0), o1, some (.inl l2), some (.inl l3)] [] (I, P, nx, sl) (sm_g1 P nx sl) (r33 l0 l2 l3 I)) (l0 : Nat) (l2 : Int32) (l3 : Int32) (I : am_M) (o1 : Option am_V) : sm (dp + 1) am_d140 33 [some (.inr l0), o1, some (.inl l2), some (.inl l3)] [] (I, P, nx, sl) (sm_g1 P nx sl) (fX_status_B33 P e33_54 r33 l0 l2 l3 I) := by
  unfold fX_status_B33
  refine r_iload rfl rfl ?_
  refine r_const (x := 7) rfl rfl ?_
  refine r_icmp rfl rfl (fun c6 => ?_) (fun c6 => ?_)
  · exact he33_54 l2 I (some (.inr l0)) o1 (some (.inl l3))
  · refine r_iload rfl rfl ?_
    refine r_ck (fun h7 => ?_)
    refine r_aload rfl rfl (am_nz h7) ?_
    refine r_getP rfl h7 ?_
    refine r_iload rfl rfl ?_
    refine r_ck (fun h8 => ?_)
    refine r_iald rfl h8 ?_
    refine r_bin (z := l2 + (I (P l0 14) l3.toNatClampNeg)) rfl rfl (by decide) ?_
    refine r_bd (fun x9 => ?_)
    refine r_istore (ls' := [some (.inr l0), o1, some (.inl x9), some (.inl l3)]) rfl (Nat.le_of_ble_eq_true rfl) rfl ?_
    refine r_iinc (e := l3 + 1) (ls' := fun x10 => [some (.inr l0), o1, some (.inl x9), some (.inl x10)]) rfl rfl rfl (fun _ => rfl) (fun x10 => ?_)
    refine r_goto rfl ?_
    exact hr33 l0 x9 x10 I o1
noncomputable def fX_status_L33 (P : am_Q) (e33_54 : Int32 → am_M → Option (Int32 × am_M)) : Nat → Nat → Int32 → Int32 → am_M → Option (Int32 × am_M)
  | 0, _, _, _, _ => none
  | n + 1, l0, l2, l3, I => fX_status_B33 P e33_54 (fX_status_L33 P e33_54 n) l0 l2 l3 I
theorem AfX_status_L33 {dp : Nat} {P : am_Q} {nx : Nat} {sl : Nat} {e33_54 : Int32 → am_M → Option (Int32 × am_M)} (he33_54 : ∀ (l2 : Int32) (I : am_M) (o0 : Option am_V) (o1 : Option am_V) (o3 : Option am_V), sm (dp + 1) am_d140 54 [o0, o1, some (.inl l2), o3] [] (I, P, nx, sl) (sm_g1 P nx sl) (e33_54 l2 I)) (n : Nat) : ∀ (l0 : Nat) (l2 : Int32) (l3 : Int32) (I : am_M) (o1 : Option am_V), sm (dp + 1) am_d140 33 [some (.inr l0), o1, some (.inl l2), some (.inl l3)] [] (I, P, nx, sl) (sm_g1 P nx sl) (fX_status_L33 P e33_54 n l0 l2 l3 I) := by
  induction n with
  | zero => intro l0 l2 l3 I o1; exact sm_none
  | succ n ih => intro l0 l2 l3 I o1; exact AfX_status_B33 he33_54 ih l0 l2 l3 I o1
noncomputable def fX_status (P : am_Q) (l0 : Nat) (l1 : Int32) (I : am_M) : Option (Int32 × am_M) :=
  if l1 < ((-1)) then
    (sm_ck (am_t l0 = 12) <|
    Option.bind (fX_found P l0 ((-1000001)) I) fun y3 =>
    some (y3.1, y3.2))
  else
    (if l1 < 7 then
      (if l1 < 0 then
        (fX_status_L33 P (fun l2 I =>
            some (l2, I)) sm_fu l0 0 0 I)
      else
        (sm_ck (am_t l0 = 12) <|
        sm_ck (sm_in (P l0 14) l1) <|
        some (I (P l0 14) l1.toNatClampNeg, I)))
    else
      (sm_ck (am_t l0 = 12) <|
      Option.bind (fX_found P l0 ((-1000001)) I) fun y14 =>
      some (y14.1, y14.2)))
set_option maxRecDepth 100000 in
theorem AfX_status {dp : Nat} {P : am_Q} {nx : Nat} {sl : Nat} {I : am_M} {l0 : Nat} {l1 : Int32} {y : Int32 × am_M} (hy : fX_status P l0 l1 I = some y) : sm_T (dp + 2) 140 [.inr l0, .inl l1] (I, P, nx, sl) ((sm_g1 P nx sl) y) := by
  refine r_meth (d := am_d140) (dp := dp + 1) (ls0 := [some (.inr l0), some (.inl l1), none, none]) rfl (by decide) rfl rfl ?_ hy
  unfold fX_status
  refine r_iload rfl rfl ?_
  refine r_const (x := (-1)) rfl rfl ?_
  refine r_icmp rfl rfl (fun c1 => ?_) (fun c1 => ?_)
  · refine r_ck (fun h2 => ?_)
    refine r_aload rfl rfl (am_nz h2) ?_
    refine r_const (x := (-1000001)) rfl rfl ?_
    refine r_call1 rfl rfl h2 (fun y hy => AfX_found (dp := dp + 0) hy) (fun y3 => ?_)
    exact r_ireturn rfl (Or.inl rfl) rfl
  · refine r_iload rfl rfl ?_
    refine r_const (x := 7) rfl rfl ?_
    refine r_icmp rfl rfl (fun c4 => ?_) (fun c4 => ?_)
    · refine r_iload rfl rfl ?_
      refine r_if rfl rfl (fun c5 => ?_) (fun c5 => ?_)
      · refine r_const (x := 0) rfl rfl ?_
        refine r_istore (ls' := [some (.inr l0), some (.inl l1), some (.inl 0), none]) rfl (Nat.le_of_ble_eq_true rfl) rfl ?_
        refine r_const (x := 0) rfl rfl ?_
        refine r_istore (ls' := [some (.inr l0), some (.inl l1), some (.inl 0), some (.inl 0)]) rfl (Nat.le_of_ble_eq_true rfl) rfl ?_
        refine AfX_status_L33 ?_ sm_fu l0 0 0 I (some (.inl l1))
        · intro l2 I o0 o1 o3
          refine r_iload rfl rfl ?_
          exact r_ireturn rfl (Or.inl rfl) rfl
      · refine r_ck (fun h11 => ?_)
        refine r_aload rfl rfl (am_nz h11) ?_
        refine r_getP rfl h11 ?_
        refine r_iload rfl rfl ?_
        refine r_ck (fun h12 => ?_)
        refine r_iald rfl h12 ?_
        exact r_ireturn rfl (Or.inl rfl) rfl
    · refine r_ck (fun h13 => ?_)
      refine r_aload rfl rfl (am_nz h13) ?_
      refine r_const (x := (-1000001)) rfl rfl ?_
      refine r_call1 rfl rfl h13 (fun y hy => AfX_found (dp := dp + 0) hy) (fun y14 => ?_)
      exact r_ireturn rfl (Or.inl rfl) rfl
