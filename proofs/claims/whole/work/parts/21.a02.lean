noncomputable def fT_takesJoint (P : am_Q) (l0 : Nat) (l1 : Int32) (I : am_M) : Option (Int32 × am_M) :=
  if l1 = 37 then
    (sm_ck (am_t l0 = 10) <|
    Option.bind (fT_takesOperator P l0 113 I) fun y3 =>
    sm_ck (sm_01 y3.1) <|
    some (y3.1, y3.2))
  else if l1 = 41 then
    (sm_ck (am_t l0 = 10) <|
    Option.bind (fT_takesClosing P l0 I) fun y7 =>
    sm_ck (sm_01 y7.1) <|
    some (y7.1, y7.2))
  else if l1 = 42 then
    (sm_ck (am_t l0 = 10) <|
    Option.bind (fT_takesOperator P l0 112 I) fun y11 =>
    sm_ck (sm_01 y11.1) <|
    some (y11.1, y11.2))
  else if l1 = 43 then
    (sm_ck (am_t l0 = 10) <|
    Option.bind (fT_takesOperator P l0 110 I) fun y15 =>
    sm_ck (sm_01 y15.1) <|
    some (y15.1, y15.2))
  else if l1 = 45 then
    (sm_ck (am_t l0 = 10) <|
    Option.bind (fT_takesOperator P l0 111 I) fun y19 =>
    sm_ck (sm_01 y19.1) <|
    some (y19.1, y19.2))
  else if l1 = 59 then
    (sm_ck (am_t l0 = 10) <|
    Option.bind (fT_takesLineEnd P l0 I) fun y23 =>
    sm_ck (sm_01 y23.1) <|
    some (y23.1, y23.2))
  else (
    some (0, I))
set_option maxRecDepth 100000 in
theorem AfT_takesJoint {dp : Nat} {P : am_Q} {nx : Nat} {sl : Nat} {I : am_M} {l0 : Nat} {l1 : Int32} {y : Int32 × am_M} (hy : fT_takesJoint P l0 l1 I = some y) : sm_T (dp + 4) 51 [.inr l0, .inl l1] (I, P, nx, sl) ((sm_g1 P nx sl) y) := by
  refine r_meth (d := am_d51) (dp := dp + 3) (ls0 := [some (.inr l0), some (.inl l1)]) rfl (by decide) rfl rfl ?_ hy
  unfold fT_takesJoint
  refine r_iload rfl rfl ?_
  refine r_ite (fun c1 => ?_) (fun c1 => ?_)
  · refine r_lokE (t := 81) rfl c1 (by decide) ?_
    refine r_ck (fun h2 => ?_)
    refine r_aload rfl rfl (am_nz h2) ?_
    refine r_const (x := 113) rfl rfl ?_
    refine r_call1 rfl rfl h2 (fun y hy => AfT_takesOperator (dp := dp + 0) hy) (fun y3 => ?_)
    refine r_ck (fun h4 => ?_)
    exact r_ireturn rfl (Or.inr ⟨rfl, h4⟩) rfl
  refine r_ite (fun c5 => ?_) (fun c5 => ?_)
  · refine r_lokE (t := 88) rfl c5 (by decide) ?_
    refine r_ck (fun h6 => ?_)
    refine r_aload rfl rfl (am_nz h6) ?_
    refine r_call1 rfl rfl h6 (fun y hy => AfT_takesClosing (dp := dp + 0) hy) (fun y7 => ?_)
    refine r_ck (fun h8 => ?_)
    exact r_ireturn rfl (Or.inr ⟨rfl, h8⟩) rfl
  refine r_ite (fun c9 => ?_) (fun c9 => ?_)
  · refine r_lokE (t := 74) rfl c9 (by decide) ?_
    refine r_ck (fun h10 => ?_)
    refine r_aload rfl rfl (am_nz h10) ?_
    refine r_const (x := 112) rfl rfl ?_
    refine r_call1 rfl rfl h10 (fun y hy => AfT_takesOperator (dp := dp + 0) hy) (fun y11 => ?_)
    refine r_ck (fun h12 => ?_)
    exact r_ireturn rfl (Or.inr ⟨rfl, h12⟩) rfl
  refine r_ite (fun c13 => ?_) (fun c13 => ?_)
  · refine r_lokE (t := 60) rfl c13 (by decide) ?_
    refine r_ck (fun h14 => ?_)
    refine r_aload rfl rfl (am_nz h14) ?_
    refine r_const (x := 110) rfl rfl ?_
    refine r_call1 rfl rfl h14 (fun y hy => AfT_takesOperator (dp := dp + 0) hy) (fun y15 => ?_)
    refine r_ck (fun h16 => ?_)
    exact r_ireturn rfl (Or.inr ⟨rfl, h16⟩) rfl
  refine r_ite (fun c17 => ?_) (fun c17 => ?_)
  · refine r_lokE (t := 67) rfl c17 (by decide) ?_
    refine r_ck (fun h18 => ?_)
    refine r_aload rfl rfl (am_nz h18) ?_
    refine r_const (x := 111) rfl rfl ?_
    refine r_call1 rfl rfl h18 (fun y hy => AfT_takesOperator (dp := dp + 0) hy) (fun y19 => ?_)
    refine r_ck (fun h20 => ?_)
    exact r_ireturn rfl (Or.inr ⟨rfl, h20⟩) rfl
  refine r_ite (fun c21 => ?_) (fun c21 => ?_)
  · refine r_lokE (t := 93) rfl c21 (by decide) ?_
    refine r_ck (fun h22 => ?_)
    refine r_aload rfl rfl (am_nz h22) ?_
    refine r_call1 rfl rfl h22 (fun y hy => AfT_takesLineEnd (dp := dp + 0) hy) (fun y23 => ?_)
    refine r_ck (fun h24 => ?_)
    exact r_ireturn rfl (Or.inr ⟨rfl, h24⟩) rfl
  refine r_lokD rfl ⟨c1, c5, c9, c13, c17, c21, trivial⟩ ?_
  refine r_const (x := 0) rfl rfl ?_
  exact r_ireturn rfl (Or.inr ⟨rfl, sm_010⟩) rfl
noncomputable def fT_takes (P : am_Q) (l0 : Nat) (l1 : Int32) (I : am_M) : Option (Int32 × am_M) :=
  if ¬ l1 = 32 then
    (sm_ck (am_t l0 = 10) <|
    sm_bd (I l0 8) fun x3 =>
    if x3 = 0 then
      (Option.bind (fT_takesLetter P l0 l1 I) fun y5 =>
      sm_ck (sm_01 y5.1) <|
      some (y5.1, y5.2))
    else if x3 = 1 then
      (Option.bind (fT_takesEquals P l0 l1 I) fun y8 =>
      sm_ck (sm_01 y8.1) <|
      some (y8.1, y8.2))
    else if x3 = 2 then
      (Option.bind (fT_takesValue P l0 l1 I) fun y11 =>
      sm_ck (sm_01 y11.1) <|
      some (y11.1, y11.2))
    else if x3 = 3 then
      (Option.bind (fT_isDigit l1) fun y14 =>
      if y14 = 0 then
        (Option.bind (fT_takesJoint P l0 l1 I) fun y16 =>
        sm_ck (sm_01 y16.1) <|
        some (y16.1, y16.2))
      else
        (Option.bind (fT_takesSecondDigit P l0 l1 I) fun y18 =>
        sm_ck (sm_01 y18.1) <|
        some (y18.1, y18.2)))
    else (
      Option.bind (fT_takesJoint P l0 l1 I) fun y20 =>
      sm_ck (sm_01 y20.1) <|
      some (y20.1, y20.2)))
  else
    (sm_ck (am_t l0 = 10) <|
    if ¬ (I l0 8) = 3 then
      (some (1, I))
    else
      (sm_bd (am_up I l0 8 4) fun I24 =>
      some (1, I24)))
set_option maxRecDepth 100000 in
theorem AfT_takes {dp : Nat} {P : am_Q} {nx : Nat} {sl : Nat} {I : am_M} {l0 : Nat} {l1 : Int32} {y : Int32 × am_M} (hy : fT_takes P l0 l1 I = some y) : sm_T (dp + 5) 43 [.inr l0, .inl l1] (I, P, nx, sl) ((sm_g1 P nx sl) y) := by
  refine r_meth (d := am_d43) (dp := dp + 4) (ls0 := [some (.inr l0), some (.inl l1)]) rfl (by decide) rfl rfl ?_ hy
  unfold fT_takes
  refine r_iload rfl rfl ?_
  refine r_const (x := 32) rfl rfl ?_
  refine r_icmp rfl rfl (fun c1 => ?_) (fun c1 => ?_)
  · refine r_ck (fun h2 => ?_)
    refine r_aload rfl rfl (am_nz h2) ?_
    refine r_getI rfl h2 ?_
    refine r_bd (fun x3 => ?_)
    refine r_ite (fun c4 => ?_) (fun c4 => ?_)
    · refine r_tabE (t := 56) rfl c4 (by decide) ?_
      refine r_aload rfl rfl (am_nz h2) ?_
      refine r_iload rfl rfl ?_
      refine r_call1 rfl rfl h2 (fun y hy => AfT_takesLetter (dp := dp + 3) hy) (fun y5 => ?_)
      refine r_ck (fun h6 => ?_)
      exact r_ireturn rfl (Or.inr ⟨rfl, h6⟩) rfl
    refine r_ite (fun c7 => ?_) (fun c7 => ?_)
    · refine r_tabE (t := 62) rfl c7 (by decide) ?_
      refine r_aload rfl rfl (am_nz h2) ?_
      refine r_iload rfl rfl ?_
      refine r_call1 rfl rfl h2 (fun y hy => AfT_takesEquals (dp := dp + 3) hy) (fun y8 => ?_)
      refine r_ck (fun h9 => ?_)
      exact r_ireturn rfl (Or.inr ⟨rfl, h9⟩) rfl
    refine r_ite (fun c10 => ?_) (fun c10 => ?_)
    · refine r_tabE (t := 68) rfl c10 (by decide) ?_
      refine r_aload rfl rfl (am_nz h2) ?_
      refine r_iload rfl rfl ?_
      refine r_call1 rfl rfl h2 (fun y hy => AfT_takesValue (dp := dp + 2) hy) (fun y11 => ?_)
      refine r_ck (fun h12 => ?_)
      exact r_ireturn rfl (Or.inr ⟨rfl, h12⟩) rfl
    refine r_ite (fun c13 => ?_) (fun c13 => ?_)
    · refine r_tabE (t := 74) rfl c13 (by decide) ?_
      refine r_iload rfl rfl ?_
      refine r_call0 rfl rfl trivial (fun y hy => AfT_isDigit (dp := dp + 3) hy) (fun y14 => ?_)
      refine r_if rfl rfl (fun c15 => ?_) (fun c15 => ?_)
      · refine r_aload rfl rfl (am_nz h2) ?_
        refine r_iload rfl rfl ?_
        refine r_call1 rfl rfl h2 (fun y hy => AfT_takesJoint (dp := dp + 0) hy) (fun y16 => ?_)
        refine r_ck (fun h17 => ?_)
        exact r_ireturn rfl (Or.inr ⟨rfl, h17⟩) rfl
      · refine r_aload rfl rfl (am_nz h2) ?_
        refine r_iload rfl rfl ?_
        refine r_call1 rfl rfl h2 (fun y hy => AfT_takesSecondDigit (dp := dp + 3) hy) (fun y18 => ?_)
        refine r_goto rfl ?_
        refine r_ck (fun h19 => ?_)
        exact r_ireturn rfl (Or.inr ⟨rfl, h19⟩) rfl
    refine r_tabD rfl ⟨c4, c7, c10, c13, trivial⟩ ?_
    refine r_aload rfl rfl (am_nz h2) ?_
    refine r_iload rfl rfl ?_
    refine r_call1 rfl rfl h2 (fun y hy => AfT_takesJoint (dp := dp + 0) hy) (fun y20 => ?_)
    refine r_ck (fun h21 => ?_)
    exact r_ireturn rfl (Or.inr ⟨rfl, h21⟩) rfl
  · refine r_ck (fun h22 => ?_)
    refine r_aload rfl rfl (am_nz h22) ?_
    refine r_getI rfl h22 ?_
    refine r_const (x := 3) rfl rfl ?_
    refine r_icmp rfl rfl (fun c23 => ?_) (fun c23 => ?_)
    · refine r_const (x := 1) rfl rfl ?_
      exact r_ireturn rfl (Or.inr ⟨rfl, sm_011⟩) rfl
    · refine r_aload rfl rfl (am_nz h22) ?_
      refine r_const (x := 4) rfl rfl ?_
      refine r_putI rfl h22 (fun hz => absurd hz (by decide)) (fun I24 => ?_)
      refine r_const (x := 1) rfl rfl ?_
      exact r_ireturn rfl (Or.inr ⟨rfl, sm_011⟩) rfl
noncomputable def fT_readAll_B58 (P : am_Q) (e58_76 : Int32 → am_M → Option (Int32 × am_M)) (e58_84 : Nat → Int32 → am_M → Option (Int32 × am_M)) (r58 : Nat → Int32 → Int32 → am_M → Option (Int32 × am_M)) (l0 : Nat) (l1 : Int32) (l2 : Int32) (I : am_M) : Option (Int32 × am_M) :=
  if l1 ≤ l2 then
    (e58_84 l0 l1 I)
  else
    (sm_ck (am_t l0 = 10) <|
    sm_ck (sm_in (P l0 0) l2) <|
    Option.bind (fT_takes P l0 (I (P l0 0) l2.toNatClampNeg) I) fun y15 =>
    if ¬ y15.1 = 0 then
      (sm_bd (l2 + 1) fun x17 =>
      r58 l0 l1 x17 y15.2)
    else
      (e58_76 l2 y15.2))
set_option maxRecDepth 100000 in
theorem AfT_readAll_B58 {dp : Nat} {P : am_Q} {nx : Nat} {sl : Nat} {e58_76 : Int32 → am_M → Option (Int32 × am_M)} {e58_84 : Nat → Int32 → am_M → Option (Int32 × am_M)} {r58 : Nat → Int32 → Int32 → am_M → Option (Int32 × am_M)} (he58_76 : ∀ (l2 : Int32) (I : am_M) (o0 : Option am_V) (o1 : Option am_V), sm (dp + 5) am_d42 76 [o0, o1, some (.inl l2)] [] (I, P, nx, sl) (sm_g1 P nx sl) (e58_76 l2 I)) (he58_84 : ∀ (l0 : Nat) (l1 : Int32) (I : am_M) (o2 : Option am_V), sm (dp + 5) am_d42 84 [some (.inr l0), some (.inl l1), o2] [] (I, P, nx, sl) (sm_g1 P nx sl) (e58_84 l0 l1 I)) (hr58 : ∀ (l0 : Nat) (l1 : Int32) (l2 : Int32) (I : am_M), sm (dp + 5) am_d42 58 [some (.inr l0), some (.inl l1), some (.inl l2)] [] (I, P, nx, sl) (sm_g1 P nx sl) (r58 l0 l1 l2 I)) (l0 : Nat) (l1 : Int32) (l2 : Int32) (I : am_M) : sm (dp + 5) am_d42 58 [some (.inr l0), some (.inl l1), some (.inl l2)] [] (I, P, nx, sl) (sm_g1 P nx sl) (fT_readAll_B58 P e58_76 e58_84 r58 l0 l1 l2 I) := by
  unfold fT_readAll_B58
  refine r_iload rfl rfl ?_
  refine r_iload rfl rfl ?_
  refine r_icmp rfl rfl (fun c12 => ?_) (fun c12 => ?_)
  · exact he58_84 l0 l1 I (some (.inl l2))
  · refine r_ck (fun h13 => ?_)
    refine r_aload rfl rfl (am_nz h13) ?_
    refine r_aload rfl rfl (am_nz h13) ?_
    refine r_getP rfl h13 ?_
    refine r_iload rfl rfl ?_
    refine r_ck (fun h14 => ?_)
    refine r_iald rfl h14 ?_
    refine r_call1 rfl rfl h13 (fun y hy => AfT_takes (dp := dp + 0) hy) (fun y15 => ?_)
    refine r_if rfl rfl (fun c16 => ?_) (fun c16 => ?_)
    · refine r_iinc (e := l2 + 1) (ls' := fun x17 => [some (.inr l0), some (.inl l1), some (.inl x17)]) rfl rfl rfl (fun _ => rfl) (fun x17 => ?_)
      refine r_goto rfl ?_
      exact hr58 l0 l1 x17 y15.2
    · exact he58_76 l2 y15.2 (some (.inr l0)) (some (.inl l1))
noncomputable def fT_readAll_L58 (P : am_Q) (e58_76 : Int32 → am_M → Option (Int32 × am_M)) (e58_84 : Nat → Int32 → am_M → Option (Int32 × am_M)) : Nat → Nat → Int32 → Int32 → am_M → Option (Int32 × am_M)
  | 0, _, _, _, _ => none
  | n + 1, l0, l1, l2, I => fT_readAll_B58 P e58_76 e58_84 (fT_readAll_L58 P e58_76 e58_84 n) l0 l1 l2 I
theorem AfT_readAll_L58 {dp : Nat} {P : am_Q} {nx : Nat} {sl : Nat} {e58_76 : Int32 → am_M → Option (Int32 × am_M)} {e58_84 : Nat → Int32 → am_M → Option (Int32 × am_M)} (he58_76 : ∀ (l2 : Int32) (I : am_M) (o0 : Option am_V) (o1 : Option am_V), sm (dp + 5) am_d42 76 [o0, o1, some (.inl l2)] [] (I, P, nx, sl) (sm_g1 P nx sl) (e58_76 l2 I)) (he58_84 : ∀ (l0 : Nat) (l1 : Int32) (I : am_M) (o2 : Option am_V), sm (dp + 5) am_d42 84 [some (.inr l0), some (.inl l1), o2] [] (I, P, nx, sl) (sm_g1 P nx sl) (e58_84 l0 l1 I)) (n : Nat) : ∀ (l0 : Nat) (l1 : Int32) (l2 : Int32) (I : am_M), sm (dp + 5) am_d42 58 [some (.inr l0), some (.inl l1), some (.inl l2)] [] (I, P, nx, sl) (sm_g1 P nx sl) (fT_readAll_L58 P e58_76 e58_84 n l0 l1 l2 I) := by
  induction n with
  | zero => intro l0 l1 l2 I; exact sm_none
  | succ n ih => intro l0 l1 l2 I; exact AfT_readAll_B58 he58_76 he58_84 ih l0 l1 l2 I
noncomputable def fT_readAll_J121 (P : am_Q) (l0 : Nat) (l1 : Int32) (s0 : Int32) (I : am_M) : Option (Int32 × am_M) :=
  if ¬ s0 = 0 then
    (sm_ck (am_t l0 = 10) <|
    Option.bind (fT_putWaiting P l0 110 I) fun y22 =>
    Option.bind (fT_closeLine P l0 y22) fun y23 =>
    some ((-1), y23))
  else
    (some (l1, I))
set_option maxRecDepth 100000 in
theorem AfT_readAll_J121 {dp : Nat} {P : am_Q} {nx : Nat} {sl : Nat} (l0 : Nat) (l1 : Int32) (s0 : Int32) (I : am_M) (o2 : Option am_V) : sm (dp + 5) am_d42 121 [some (.inr l0), some (.inl l1), o2] [.inl s0] (I, P, nx, sl) (sm_g1 P nx sl) (fT_readAll_J121 P l0 l1 s0 I) := by
  unfold fT_readAll_J121
  refine r_istore (ls' := [some (.inr l0), some (.inl l1), some (.inl s0)]) rfl (Nat.le_of_ble_eq_true rfl) rfl ?_
  refine r_iload rfl rfl ?_
  refine r_if rfl rfl (fun c20 => ?_) (fun c20 => ?_)
  · refine r_ck (fun h21 => ?_)
    refine r_aload rfl rfl (am_nz h21) ?_
    refine r_const (x := 110) rfl rfl ?_
    refine r_call2 rfl rfl h21 (fun y hy => AfT_putWaiting (dp := dp + 3) hy) (fun y22 => ?_)
    refine r_aload rfl rfl (am_nz h21) ?_
    refine r_call2 rfl rfl h21 (fun y hy => AfT_closeLine (dp := dp + 4) hy) (fun y23 => ?_)
    refine r_const (x := (-1)) rfl rfl ?_
    exact r_ireturn rfl (Or.inl rfl) rfl
  · refine r_iload rfl rfl ?_
    exact r_ireturn rfl (Or.inl rfl) rfl
noncomputable def fT_readAll_J120 (P : am_Q) (l0 : Nat) (l1 : Int32) (I : am_M) : Option (Int32 × am_M) :=
  fT_readAll_J121 P l0 l1 0 I
set_option maxRecDepth 100000 in
theorem AfT_readAll_J120 {dp : Nat} {P : am_Q} {nx : Nat} {sl : Nat} (l0 : Nat) (l1 : Int32) (I : am_M) (o2 : Option am_V) : sm (dp + 5) am_d42 120 [some (.inr l0), some (.inl l1), o2] [] (I, P, nx, sl) (sm_g1 P nx sl) (fT_readAll_J120 P l0 l1 I) := by
  unfold fT_readAll_J120
  refine r_const (x := 0) rfl rfl ?_
  exact AfT_readAll_J121 l0 l1 0 I o2
noncomputable def fT_readAll (P : am_Q) (l0 : Nat) (I : am_M) : Option (Int32 × am_M) :=
  sm_ck (am_t l0 = 10) <|
  sm_bd (I l0 1) fun x2 =>
  sm_bd (am_up I l0 1 0) fun I3 =>
  sm_bd (am_up I3 l0 3 0) fun I4 =>
  sm_bd (am_up I4 l0 5 0) fun I5 =>
  sm_bd (am_up I5 l0 9 0) fun I6 =>
  sm_bd (am_up I6 l0 10 0) fun I7 =>
  sm_bd (am_up I7 l0 12 0) fun I8 =>
  sm_bd (am_up I8 l0 8 0) fun I9 =>
  Option.bind (fA_fill P (P l0 6) ((-1)) I9) fun y10 =>
  Option.bind (fA_fill P (P l0 7) 0 y10) fun y11 =>
  fT_readAll_L58 P (fun l2 I =>
      some (l2, I)) (fun l0 l1 I =>
      sm_ck (am_t l0 = 10) <|
      if (I l0 8) < 3 then
        (fT_readAll_J120 P l0 l1 I)
      else
        (if ¬ (I l0 9) = 0 then
          (fT_readAll_J120 P l0 l1 I)
        else
          (if l1 ≤ 0 then
            (fT_readAll_J120 P l0 l1 I)
          else
            (sm_ck (sm_in (P l0 0) (l1 - 1)) <|
            if (I (P l0 0) (l1 - 1).toNatClampNeg) = 32 then
              (fT_readAll_J120 P l0 l1 I)
            else
              (fT_readAll_J121 P l0 l1 1 I))))) sm_fu l0 x2 0 y11
set_option maxRecDepth 100000 in
theorem AfT_readAll {dp : Nat} {P : am_Q} {nx : Nat} {sl : Nat} {I : am_M} {l0 : Nat} {y : Int32 × am_M} (hy : fT_readAll P l0 I = some y) : sm_T (dp + 6) 42 [.inr l0] (I, P, nx, sl) ((sm_g1 P nx sl) y) := by
  refine r_meth (d := am_d42) (dp := dp + 5) (ls0 := [some (.inr l0), none, none]) rfl (by decide) rfl rfl ?_ hy
  unfold fT_readAll
  refine r_ck (fun h1 => ?_)
  refine r_aload rfl rfl (am_nz h1) ?_
  refine r_getI rfl h1 ?_
  refine r_bd (fun x2 => ?_)
  refine r_istore (ls' := [some (.inr l0), some (.inl x2), none]) rfl (Nat.le_of_ble_eq_true rfl) rfl ?_
  refine r_aload rfl rfl (am_nz h1) ?_
  refine r_const (x := 0) rfl rfl ?_
  refine r_putI rfl h1 (fun hz => absurd hz (by decide)) (fun I3 => ?_)
  refine r_aload rfl rfl (am_nz h1) ?_
  refine r_const (x := 0) rfl rfl ?_
  refine r_putI rfl h1 (fun hz => absurd hz (by decide)) (fun I4 => ?_)
  refine r_aload rfl rfl (am_nz h1) ?_
  refine r_const (x := 0) rfl rfl ?_
  refine r_putI rfl h1 (fun hz => absurd hz (by decide)) (fun I5 => ?_)
  refine r_aload rfl rfl (am_nz h1) ?_
  refine r_const (x := 0) rfl rfl ?_
  refine r_putI rfl h1 (fun hz => absurd hz (by decide)) (fun I6 => ?_)
  refine r_aload rfl rfl (am_nz h1) ?_
  refine r_const (x := 0) rfl rfl ?_
  refine r_putI rfl h1 (fun hz => absurd hz (by decide)) (fun I7 => ?_)
  refine r_aload rfl rfl (am_nz h1) ?_
  refine r_const (x := 0) rfl rfl ?_
  refine r_putI rfl h1 (fun hz => absurd hz (by decide)) (fun I8 => ?_)
  refine r_aload rfl rfl (am_nz h1) ?_
  refine r_const (x := 0) rfl rfl ?_
  refine r_putI rfl h1 (fun hz => absurd hz (by decide)) (fun I9 => ?_)
  refine r_aload rfl rfl (am_nz h1) ?_
  refine r_getP rfl h1 ?_
  refine r_const (x := (-1)) rfl rfl ?_
  refine r_call2 rfl rfl trivial (fun y hy => AfA_fill (dp := dp + 4) hy) (fun y10 => ?_)
  refine r_aload rfl rfl (am_nz h1) ?_
  refine r_getP rfl h1 ?_
  refine r_const (x := 0) rfl rfl ?_
  refine r_call2 rfl rfl trivial (fun y hy => AfA_fill (dp := dp + 4) hy) (fun y11 => ?_)
  refine r_const (x := 0) rfl rfl ?_
  refine r_istore (ls' := [some (.inr l0), some (.inl x2), some (.inl 0)]) rfl (Nat.le_of_ble_eq_true rfl) rfl ?_
  refine AfT_readAll_L58 ?_ ?_ sm_fu l0 x2 0 y11
  · intro l2 I o0 o1
    refine r_iload rfl rfl ?_
    exact r_ireturn rfl (Or.inl rfl) rfl
  · intro l0 l1 I o2
    refine r_ck (fun h18 => ?_)
    refine r_aload rfl rfl (am_nz h18) ?_
    refine r_getI rfl h18 ?_
    refine r_const (x := 3) rfl rfl ?_
    refine r_icmp rfl rfl (fun c19 => ?_) (fun c19 => ?_)
    · exact AfT_readAll_J120 l0 l1 I o2
    · refine r_aload rfl rfl (am_nz h18) ?_
      refine r_getI rfl h18 ?_
      refine r_if rfl rfl (fun c24 => ?_) (fun c24 => ?_)
      · exact AfT_readAll_J120 l0 l1 I o2
      · refine r_iload rfl rfl ?_
        refine r_if rfl rfl (fun c25 => ?_) (fun c25 => ?_)
        · exact AfT_readAll_J120 l0 l1 I o2
        · refine r_aload rfl rfl (am_nz h18) ?_
          refine r_getP rfl h18 ?_
          refine r_iload rfl rfl ?_
          refine r_const (x := 1) rfl rfl ?_
          refine r_bin (z := l1 - 1) rfl rfl (by decide) ?_
          refine r_ck (fun h26 => ?_)
          refine r_iald rfl h26 ?_
          refine r_const (x := 32) rfl rfl ?_
          refine r_icmp rfl rfl (fun c27 => ?_) (fun c27 => ?_)
          · exact AfT_readAll_J120 l0 l1 I o2
          · refine r_const (x := 1) rfl rfl ?_
            refine r_goto rfl ?_
            exact AfT_readAll_J121 l0 l1 1 I o2
noncomputable def fA_copyOf (l0 : Nat) (l1 : Int32) (I : am_M) (P : am_Q) (nx : Nat) (sl : Nat) : Option (Nat × am_S) :=
  sm_ck (am_t l0 = 20) <|
  sm_ck (20 ≤ am_t l0 ∧ am_t l0 < 26) <|
  if ¬ l1 = (Int32.ofNat (am_n l0)) then
    (sm_ck (¬ (l1 < 0 ∨ 16384 ≤ l1.toNatClampNeg)) <|
    sm_na 20 l1 I nx sl fun a5 I6 n7 s8 =>
    sm_ck (20 ≤ am_t l0 ∧ am_t l0 < 26) <|
    sm_ck (sm_cp l0 0 a5 0 (sm_min (Int32.ofNat (am_n l0)) l1)) <|
    sm_bd (am_set I6 a5 (va_cpy (I6 l0) (I6 a5) (0 : Int32).toNatClampNeg (0 : Int32).toNatClampNeg (sm_min (Int32.ofNat (am_n l0)) l1).toNatClampNeg)) fun I13 =>
    some (a5, I13, P, n7, s8))
  else
    (sm_ck (am_t l0 = 20 ∧ 2 ≤ am_i l0) <|
    sm_cl l0 I nx sl fun a15 I16 n17 s18 =>
    sm_ck (am_t a15 = 20 ∧ 2 ≤ am_i a15) <|
    some (a15, I16, P, n17, s18))
set_option maxRecDepth 100000 in
theorem AfA_copyOf {dp : Nat}  {I : am_M} {P : am_Q} {nx : Nat} {sl : Nat} {l0 : Nat} {l1 : Int32} {y : Nat × am_S} (hy : fA_copyOf l0 l1 I P nx sl = some y) : sm_T (dp + 1) 58 [.inr l0, .inl l1] (I, P, nx, sl) (sm_g5 y) := by
  refine r_meth (d := am_d58) (dp := dp + 0) (ls0 := [some (.inr l0), some (.inl l1), none]) rfl (by decide) rfl rfl ?_ hy
  unfold fA_copyOf
  refine r_iload rfl rfl ?_
  refine r_ck (fun h1 => ?_)
  refine r_aload rfl rfl (am_nz h1) ?_
  refine r_ck (fun h2 => ?_)
  refine r_alen rfl h2 ?_
  refine r_icmp rfl rfl (fun c3 => ?_) (fun c3 => ?_)
  · refine r_iload rfl rfl ?_
    refine r_ck (fun h4 => ?_)
    refine r_newa rfl (by decide) (by decide) h4 (fun a5 I6 n7 s8 h9 h10 => ?_)
    refine r_astore (ls' := [some (.inr l0), some (.inl l1), some (.inr a5)]) rfl (Nat.le_of_ble_eq_true rfl) (am_nz h9) rfl ?_
    refine r_aload rfl rfl (am_nz h1) ?_
    refine r_const (x := 0) rfl rfl ?_
    refine r_aload rfl rfl (am_nz h9) ?_
    refine r_const (x := 0) rfl rfl ?_
    refine r_aload rfl rfl (am_nz h1) ?_
    refine r_ck (fun h11 => ?_)
    refine r_alen rfl h11 ?_
    refine r_iload rfl rfl ?_
    refine r_mm (z := sm_min (Int32.ofNat (am_n l0)) l1) rfl rfl (Nat.le_of_ble_eq_true rfl) ?_
    refine r_ck (fun h12 => ?_)
    refine r_copy rfl h12 (Nat.le_of_ble_eq_true rfl) (fun I13 => ?_)
    refine r_aload rfl rfl (am_nz h9) ?_
    exact r_areturn rfl (am_nz h9) rfl
  · refine r_aload rfl rfl (am_nz h1) ?_
    refine r_ck (fun h14 => ?_)
    refine r_clone rfl h14 (Nat.le_of_ble_eq_true rfl) (fun a15 I16 n17 s18 h19 h20 => ?_)
    refine r_ck (fun h21 => ?_)
    refine r_cast rfl h21 ?_
    exact r_areturn rfl (am_nz h19) rfl
noncomputable def fL_init3 (l0 : Nat) (l1 : Nat) (l2 : Nat) (l3 : Nat) (I : am_M) (P : am_Q) (nx : Nat) (sl : Nat) : Option (am_S) :=
  sm_ck (am_t l0 = 4) <|
  sm_ck (am_t l1 = 20) <|
  sm_bd (am_up P l0 0 l1) fun P3 =>
  sm_ck (am_t l2 = 20) <|
  sm_bd (am_up P3 l0 1 l2) fun P5 =>
  sm_ck (am_t l3 = 20) <|
  sm_bd (am_up P5 l0 2 l3) fun P7 =>
  some (I, P7, nx, sl)
set_option maxRecDepth 100000 in
theorem AfL_init3 {dp : Nat}  {I : am_M} {P : am_Q} {nx : Nat} {sl : Nat} {l0 : Nat} {l1 : Nat} {l2 : Nat} {l3 : Nat} {y : am_S} (hy : fL_init3 l0 l1 l2 l3 I P nx sl = some y) : sm_T (dp + 1) 59 [.inr l0, .inr l1, .inr l2, .inr l3] (I, P, nx, sl) (sm_g4 y) := by
  refine r_meth (d := am_d59) (dp := dp + 0) (ls0 := [some (.inr l0), some (.inr l1), some (.inr l2), some (.inr l3)]) rfl (by decide) rfl rfl ?_ hy
  unfold fL_init3
  refine r_ck (fun h1 => ?_)
  refine r_aload rfl rfl (am_nz h1) ?_
  refine r_oinit rfl (am_nz h1) (Nat.le_of_ble_eq_true rfl) ?_
  refine r_aload rfl rfl (am_nz h1) ?_
  refine r_ck (fun h2 => ?_)
  refine r_aload rfl rfl (am_nz h2) ?_
  refine r_putP rfl h1 (fun P3 => ?_)
  refine r_aload rfl rfl (am_nz h1) ?_
  refine r_ck (fun h4 => ?_)
  refine r_aload rfl rfl (am_nz h4) ?_
  refine r_putP rfl h1 (fun P5 => ?_)
  refine r_aload rfl rfl (am_nz h1) ?_
  refine r_ck (fun h6 => ?_)
  refine r_aload rfl rfl (am_nz h6) ?_
  refine r_putP rfl h1 (fun P7 => ?_)
  exact r_return rfl rfl
noncomputable def fT_linesRead (l0 : Nat) (I : am_M) (P : am_Q) (nx : Nat) (sl : Nat) : Option (Nat × am_S) :=
  sm_nw 4 I P nx sl fun a1 I2 P3 n4 s5 =>
  sm_ck (am_t l0 = 10) <|
  Option.bind (fA_copyOf (P3 l0 2) (I2 l0 3) I2 P3 n4 s5) fun y9 =>
  sm_ck (am_t (y9.2.2.1 l0 6) = 20 ∧ 2 ≤ am_i (y9.2.2.1 l0 6)) <|
  sm_cl (y9.2.2.1 l0 6) y9.2.1 y9.2.2.2.1 y9.2.2.2.2 fun a11 I12 n13 s14 =>
  sm_ck (am_t a11 = 20 ∧ 2 ≤ am_i a11) <|
  sm_ck (am_t (y9.2.2.1 l0 7) = 20 ∧ 2 ≤ am_i (y9.2.2.1 l0 7)) <|
  sm_cl (y9.2.2.1 l0 7) I12 n13 s14 fun a19 I20 n21 s22 =>
  sm_ck (am_t a19 = 20 ∧ 2 ≤ am_i a19) <|
  Option.bind (fL_init3 a1 y9.1 a11 a19 I20 y9.2.2.1 n21 s22) fun y26 =>
  some (a1, y26.1, y26.2.1, y26.2.2.1, y26.2.2.2)
set_option maxRecDepth 100000 in
theorem AfT_linesRead {dp : Nat}  {I : am_M} {P : am_Q} {nx : Nat} {sl : Nat} {l0 : Nat} {y : Nat × am_S} (hy : fT_linesRead l0 I P nx sl = some y) : sm_T (dp + 2) 57 [.inr l0] (I, P, nx, sl) (sm_g5 y) := by
  refine r_meth (d := am_d57) (dp := dp + 1) (ls0 := [some (.inr l0)]) rfl (by decide) rfl rfl ?_ hy
  unfold fT_linesRead
  refine r_new rfl (by decide) (by decide) (fun a1 I2 P3 n4 s5 h6 h7 => ?_)
  refine r_dup rfl ?_
  refine r_ck (fun h8 => ?_)
  refine r_aload rfl rfl (am_nz h8) ?_
  refine r_getP rfl h8 ?_
  refine r_aload rfl rfl (am_nz h8) ?_
  refine r_getI rfl h8 ?_
  refine r_call5 rfl rfl trivial (fun y hy => AfA_copyOf (dp := dp + 0) hy) (fun y9 => ?_)
  refine r_aload rfl rfl (am_nz h8) ?_
  refine r_getP rfl h8 ?_
  refine r_ck (fun h10 => ?_)
  refine r_clone rfl h10 (Nat.le_of_ble_eq_true rfl) (fun a11 I12 n13 s14 h15 h16 => ?_)
  refine r_ck (fun h17 => ?_)
  refine r_cast rfl h17 ?_
  refine r_aload rfl rfl (am_nz h8) ?_
  refine r_getP rfl h8 ?_
  refine r_ck (fun h18 => ?_)
  refine r_clone rfl h18 (Nat.le_of_ble_eq_true rfl) (fun a19 I20 n21 s22 h23 h24 => ?_)
  refine r_ck (fun h25 => ?_)
  refine r_cast rfl h25 ?_
  refine r_call4 rfl rfl (am_nz h6) (fun y hy => AfL_init3 (dp := dp + 0) hy) (fun y26 => ?_)
  exact r_areturn rfl (am_nz h6) rfl
noncomputable def fX_text (l0 : Nat) (l1 : Int32) (I : am_M) (P : am_Q) (nx : Nat) (sl : Nat) : Option (Int32 × am_S) :=
  sm_ck (am_t l0 = 12) <|
  sm_ck (am_t (P l0 0) = 11) <|
  Option.bind (fW_hasBox I P (P l0 0) l1) fun y3 =>
  if ¬ y3 = 0 then
    (sm_ck (am_t (P l0 7) = 10) <|
    Option.bind (fT_readAll P (P l0 7) I) fun y6 =>
    if 0 ≤ y6.1 then
      (some (y6.1, y6.2, P, nx, sl))
    else
      (sm_ck (sm_ia (P (P l0 0) 9) l1) <|
      Option.bind (fT_linesRead (P l0 7) y6.2 P nx sl) fun y9 =>
      sm_ck (am_t (P (P (P l0 0) 9) l1.toNatClampNeg) = 1) <|
      sm_bd (am_up y9.2.2.1 (P (P (P l0 0) 9) l1.toNatClampNeg) 10 y9.1) fun P11 =>
      some (y6.1, y9.2.1, P11, y9.2.2.2.1, y9.2.2.2.2)))
  else
    (Option.bind (fX_found P l0 ((-1000001)) I) fun y12 =>
    some (y12.1, y12.2, P, nx, sl))
set_option maxRecDepth 100000 in
theorem AfX_text {dp : Nat}  {I : am_M} {P : am_Q} {nx : Nat} {sl : Nat} {l0 : Nat} {l1 : Int32} {y : Int32 × am_S} (hy : fX_text l0 l1 I P nx sl = some y) : sm_T (dp + 7) 41 [.inr l0, .inl l1] (I, P, nx, sl) (sm_g3 y) := by
  refine r_meth (d := am_d41) (dp := dp + 6) (ls0 := [some (.inr l0), some (.inl l1), none]) rfl (by decide) rfl rfl ?_ hy
  unfold fX_text
  refine r_ck (fun h1 => ?_)
  refine r_aload rfl rfl (am_nz h1) ?_
  refine r_getP rfl h1 ?_
  refine r_iload rfl rfl ?_
  refine r_ck (fun h2 => ?_)
  refine r_call0 rfl rfl h2 (fun y hy => AfW_hasBox (dp := dp + 5) hy) (fun y3 => ?_)
  refine r_if rfl rfl (fun c4 => ?_) (fun c4 => ?_)
  · refine r_aload rfl rfl (am_nz h1) ?_
    refine r_getP rfl h1 ?_
    refine r_ck (fun h5 => ?_)
    refine r_call1 rfl rfl h5 (fun y hy => AfT_readAll (dp := dp + 0) hy) (fun y6 => ?_)
    refine r_istore (ls' := [some (.inr l0), some (.inl l1), some (.inl y6.1)]) rfl (Nat.le_of_ble_eq_true rfl) rfl ?_
    refine r_iload rfl rfl ?_
    refine r_if rfl rfl (fun c7 => ?_) (fun c7 => ?_)
    · refine r_iload rfl rfl ?_
      exact r_ireturn rfl (Or.inl rfl) rfl
    · refine r_aload rfl rfl (am_nz h1) ?_
      refine r_getP rfl h1 ?_
      refine r_getP rfl h2 ?_
      refine r_iload rfl rfl ?_
      refine r_ck (fun h8 => ?_)
      refine r_aald rfl h8 ?_
      refine r_aload rfl rfl (am_nz h1) ?_
      refine r_getP rfl h1 ?_
      refine r_call5 rfl rfl h5 (fun y hy => AfT_linesRead (dp := dp + 4) hy) (fun y9 => ?_)
      refine r_ck (fun h10 => ?_)
      refine r_putP rfl h10 (fun P11 => ?_)
      refine r_iload rfl rfl ?_
      exact r_ireturn rfl (Or.inl rfl) rfl
  · refine r_aload rfl rfl (am_nz h1) ?_
    refine r_const (x := (-1000001)) rfl rfl ?_
    refine r_call1 rfl rfl h1 (fun y hy => AfX_found (dp := dp + 5) hy) (fun y12 => ?_)
    exact r_ireturn rfl (Or.inl rfl) rfl
noncomputable def fX_wipe (P : am_Q) (l0 : Nat) (I : am_M) : Option (Int32 × am_M) :=
  sm_ck (am_t l0 = 12) <|
  sm_ck (am_t (P l0 7) = 10) <|
  sm_bd (I (P l0 7) 1) fun x3 =>
  sm_bd (am_up I (P l0 7) 1 0) fun I4 =>
  some (x3, I4)
set_option maxRecDepth 100000 in
theorem AfX_wipe {dp : Nat} {P : am_Q} {nx : Nat} {sl : Nat} {I : am_M} {l0 : Nat} {y : Int32 × am_M} (hy : fX_wipe P l0 I = some y) : sm_T (dp + 1) 60 [.inr l0] (I, P, nx, sl) ((sm_g1 P nx sl) y) := by
  refine r_meth (d := am_d60) (dp := dp + 0) (ls0 := [some (.inr l0), none]) rfl (by decide) rfl rfl ?_ hy
  unfold fX_wipe
  refine r_ck (fun h1 => ?_)
  refine r_aload rfl rfl (am_nz h1) ?_
  refine r_getP rfl h1 ?_
  refine r_ck (fun h2 => ?_)
  refine r_getI rfl h2 ?_
  refine r_bd (fun x3 => ?_)
  refine r_istore (ls' := [some (.inr l0), some (.inl x3)]) rfl (Nat.le_of_ble_eq_true rfl) rfl ?_
  refine r_aload rfl rfl (am_nz h1) ?_
  refine r_getP rfl h1 ?_
  refine r_const (x := 0) rfl rfl ?_
  refine r_putI rfl h2 (fun hz => absurd hz (by decide)) (fun I4 => ?_)
  refine r_iload rfl rfl ?_
  exact r_ireturn rfl (Or.inl rfl) rfl
noncomputable def fB_copyFrom (l0 : Nat) (l1 : Nat) (I : am_M) (P : am_Q) (nx : Nat) (sl : Nat) : Option (am_S) :=
  sm_ck (am_t l0 = 1) <|
  sm_ck (am_t l1 = 1) <|
  sm_bd (am_up I l0 0 (I l1 0)) fun I3 =>
  sm_bd (am_up I3 l0 1 (I3 l1 1)) fun I4 =>
  sm_bd (am_up I4 l0 2 (I4 l1 2)) fun I5 =>
  sm_bd (am_up I5 l0 3 (I5 l1 3)) fun I6 =>
  sm_bd (am_up I6 l0 4 (I6 l1 4)) fun I7 =>
  sm_bd (am_up I7 l0 5 (I7 l1 5)) fun I8 =>
  sm_bd (am_up I8 l0 6 (I8 l1 6)) fun I9 =>
  sm_ck (sm_01 (I9 l1 7)) <|
  sm_bd (am_up I9 l0 7 (I9 l1 7)) fun I11 =>
  sm_bd (am_up I11 l0 8 (I11 l1 8)) fun I12 =>
  sm_bd (am_up I12 l0 9 (I12 l1 9)) fun I13 =>
  sm_bd (am_up P l0 10 (P l1 10)) fun P14 =>
  some (I13, P14, nx, sl)
set_option maxRecDepth 100000 in
theorem AfB_copyFrom {dp : Nat}  {I : am_M} {P : am_Q} {nx : Nat} {sl : Nat} {l0 : Nat} {l1 : Nat} {y : am_S} (hy : fB_copyFrom l0 l1 I P nx sl = some y) : sm_T (dp + 1) 62 [.inr l0, .inr l1] (I, P, nx, sl) (sm_g4 y) := by
  refine r_meth (d := am_d62) (dp := dp + 0) (ls0 := [some (.inr l0), some (.inr l1)]) rfl (by decide) rfl rfl ?_ hy
  unfold fB_copyFrom
  refine r_ck (fun h1 => ?_)
  refine r_aload rfl rfl (am_nz h1) ?_
  refine r_ck (fun h2 => ?_)
  refine r_aload rfl rfl (am_nz h2) ?_
  refine r_getI rfl h2 ?_
  refine r_putI rfl h1 (fun hz => absurd hz (by decide)) (fun I3 => ?_)
  refine r_aload rfl rfl (am_nz h1) ?_
  refine r_aload rfl rfl (am_nz h2) ?_
  refine r_getI rfl h2 ?_
  refine r_putI rfl h1 (fun hz => absurd hz (by decide)) (fun I4 => ?_)
  refine r_aload rfl rfl (am_nz h1) ?_
  refine r_aload rfl rfl (am_nz h2) ?_
  refine r_getI rfl h2 ?_
  refine r_putI rfl h1 (fun hz => absurd hz (by decide)) (fun I5 => ?_)
  refine r_aload rfl rfl (am_nz h1) ?_
  refine r_aload rfl rfl (am_nz h2) ?_
  refine r_getI rfl h2 ?_
  refine r_putI rfl h1 (fun hz => absurd hz (by decide)) (fun I6 => ?_)
  refine r_aload rfl rfl (am_nz h1) ?_
  refine r_aload rfl rfl (am_nz h2) ?_
  refine r_getI rfl h2 ?_
  refine r_putI rfl h1 (fun hz => absurd hz (by decide)) (fun I7 => ?_)
  refine r_aload rfl rfl (am_nz h1) ?_
  refine r_aload rfl rfl (am_nz h2) ?_
  refine r_getI rfl h2 ?_
  refine r_putI rfl h1 (fun hz => absurd hz (by decide)) (fun I8 => ?_)
  refine r_aload rfl rfl (am_nz h1) ?_
  refine r_aload rfl rfl (am_nz h2) ?_
  refine r_getI rfl h2 ?_
  refine r_putI rfl h1 (fun hz => absurd hz (by decide)) (fun I9 => ?_)
  refine r_aload rfl rfl (am_nz h1) ?_
  refine r_aload rfl rfl (am_nz h2) ?_
  refine r_getI rfl h2 ?_
  refine r_ck (fun h10 => ?_)
  refine r_putI rfl h1 (fun _ => h10) (fun I11 => ?_)
  refine r_aload rfl rfl (am_nz h1) ?_
  refine r_aload rfl rfl (am_nz h2) ?_
  refine r_getI rfl h2 ?_
  refine r_putI rfl h1 (fun hz => absurd hz (by decide)) (fun I12 => ?_)
  refine r_aload rfl rfl (am_nz h1) ?_
  refine r_aload rfl rfl (am_nz h2) ?_
  refine r_getI rfl h2 ?_
  refine r_putI rfl h1 (fun hz => absurd hz (by decide)) (fun I13 => ?_)
  refine r_aload rfl rfl (am_nz h1) ?_
  refine r_aload rfl rfl (am_nz h2) ?_
  refine r_getP rfl h2 ?_
  refine r_putP rfl h1 (fun P14 => ?_)
  exact r_return rfl rfl
noncomputable def fX_would_J61 (l0 : Nat) (l1 : Int32) (l2 : Int32) (l3 : Int32) (l4 : Int32) (l5 : Int32) (s0 : Int32) (I : am_M) (P : am_Q) (nx : Nat) (sl : Nat) : Option (Int32 × am_S) :=
  if ¬ s0 = 0 then
    (sm_ck (am_t l0 = 12) <|
    sm_ck (am_t (P l0 0) = 11) <|
    sm_ck (sm_ia (P (P l0 0) 9) l1) <|
    sm_ck (am_t (P l0 8) = 1) <|
    Option.bind (fB_copyFrom (P l0 8) (P (P (P l0 0) 9) l1.toNatClampNeg) I P nx sl) fun y10 =>
    sm_ck (am_t (y10.2.1 l0 8) = 1) <|
    Option.bind (fB_tellStates y10.2.1 (y10.2.1 l0 8) l3 y10.1) fun y12 =>
    Option.bind (fB_tellIn y10.2.1 (y10.2.1 l0 8) 0 (l4 / 100) y12) fun y13 =>
    Option.bind (fB_tellIn y10.2.1 (y10.2.1 l0 8) 1 (sm_rem l4 100) y13) fun y14 =>
    sm_ck (am_t (y10.2.1 l0 0) = 11) <|
    sm_ck (am_t (y10.2.1 l0 9) = 6) <|
    Option.bind (fK_work y10.2.1 (y10.2.1 l0 9) (y10.2.1 l0 8) l2 l5 (y14 (y10.2.1 l0 0) 0) y14) fun y17 =>
    some (y17.1, y17.2, y10.2.1, y10.2.2.1, y10.2.2.2))
  else
    (sm_ck (am_t l0 = 12) <|
    Option.bind (fX_found P l0 ((-1000001)) I) fun y19 =>
    some (y19.1, y19.2, P, nx, sl))
set_option maxRecDepth 100000 in
theorem AfX_would_J61 {dp : Nat}  (l0 : Nat) (l1 : Int32) (l2 : Int32) (l3 : Int32) (l4 : Int32) (l5 : Int32) (s0 : Int32) (I : am_M) (P : am_Q) (nx : Nat) (sl : Nat) (o6 : Option am_V) : sm (dp + 2) am_d61 61 [some (.inr l0), some (.inl l1), some (.inl l2), some (.inl l3), some (.inl l4), some (.inl l5), o6] [.inl s0] (I, P, nx, sl) sm_g3 (fX_would_J61 l0 l1 l2 l3 l4 l5 s0 I P nx sl) := by
  unfold fX_would_J61
  refine r_istore (ls' := [some (.inr l0), some (.inl l1), some (.inl l2), some (.inl l3), some (.inl l4), some (.inl l5), some (.inl s0)]) rfl (Nat.le_of_ble_eq_true rfl) rfl ?_
  refine r_iload rfl rfl ?_
  refine r_if rfl rfl (fun c5 => ?_) (fun c5 => ?_)
  · refine r_ck (fun h6 => ?_)
    refine r_aload rfl rfl (am_nz h6) ?_
    refine r_getP rfl h6 ?_
    refine r_aload rfl rfl (am_nz h6) ?_
    refine r_getP rfl h6 ?_
    refine r_ck (fun h7 => ?_)
    refine r_getP rfl h7 ?_
    refine r_iload rfl rfl ?_
    refine r_ck (fun h8 => ?_)
    refine r_aald rfl h8 ?_
    refine r_ck (fun h9 => ?_)
    refine r_call4 rfl rfl h9 (fun y hy => AfB_copyFrom (dp := dp + 1) hy) (fun y10 => ?_)
    refine r_aload rfl rfl (am_nz h6) ?_
    refine r_getP rfl h6 ?_
    refine r_iload rfl rfl ?_
    refine r_ck (fun h11 => ?_)
    refine r_call2 rfl rfl h11 (fun y hy => AfB_tellStates (dp := dp + 1) hy) (fun y12 => ?_)
    refine r_aload rfl rfl (am_nz h6) ?_
    refine r_getP rfl h6 ?_
    refine r_const (x := 0) rfl rfl ?_
    refine r_iload rfl rfl ?_
    refine r_const (x := 100) rfl rfl ?_
    refine r_bin (z := l4 / 100) rfl (sm_dv (by decide)) (by decide) ?_
    refine r_call2 rfl rfl h11 (fun y hy => AfB_tellIn (dp := dp + 1) hy) (fun y13 => ?_)
    refine r_aload rfl rfl (am_nz h6) ?_
    refine r_getP rfl h6 ?_
    refine r_const (x := 1) rfl rfl ?_
    refine r_iload rfl rfl ?_
    refine r_const (x := 100) rfl rfl ?_
    refine r_bin (z := sm_rem l4 100) rfl (sm_rv (by decide)) (by decide) ?_
    refine r_call2 rfl rfl h11 (fun y hy => AfB_tellIn (dp := dp + 1) hy) (fun y14 => ?_)
    refine r_aload rfl rfl (am_nz h6) ?_
    refine r_getP rfl h6 ?_
    refine r_aload rfl rfl (am_nz h6) ?_
    refine r_getP rfl h6 ?_
    refine r_iload rfl rfl ?_
    refine r_iload rfl rfl ?_
    refine r_aload rfl rfl (am_nz h6) ?_
    refine r_getP rfl h6 ?_
    refine r_ck (fun h15 => ?_)
    refine r_getI rfl h15 ?_
    refine r_ck (fun h16 => ?_)
    refine r_call1 rfl rfl h16 (fun y hy => AfK_work (dp := dp + 0) hy) (fun y17 => ?_)
    exact r_ireturn rfl (Or.inl rfl) rfl
  · refine r_ck (fun h18 => ?_)
    refine r_aload rfl rfl (am_nz h18) ?_
    refine r_const (x := (-1000001)) rfl rfl ?_
    refine r_call1 rfl rfl h18 (fun y hy => AfX_found (dp := dp + 1) hy) (fun y19 => ?_)
    exact r_ireturn rfl (Or.inl rfl) rfl
noncomputable def fX_would_J60 (l0 : Nat) (l1 : Int32) (l2 : Int32) (l3 : Int32) (l4 : Int32) (l5 : Int32) (I : am_M) (P : am_Q) (nx : Nat) (sl : Nat) : Option (Int32 × am_S) :=
  fX_would_J61 l0 l1 l2 l3 l4 l5 0 I P nx sl
set_option maxRecDepth 100000 in
theorem AfX_would_J60 {dp : Nat}  (l0 : Nat) (l1 : Int32) (l2 : Int32) (l3 : Int32) (l4 : Int32) (l5 : Int32) (I : am_M) (P : am_Q) (nx : Nat) (sl : Nat) (o6 : Option am_V) : sm (dp + 2) am_d61 60 [some (.inr l0), some (.inl l1), some (.inl l2), some (.inl l3), some (.inl l4), some (.inl l5), o6] [] (I, P, nx, sl) sm_g3 (fX_would_J60 l0 l1 l2 l3 l4 l5 I P nx sl) := by
  unfold fX_would_J60
  refine r_const (x := 0) rfl rfl ?_
  exact AfX_would_J61 l0 l1 l2 l3 l4 l5 0 I P nx sl o6
noncomputable def fX_would (l0 : Nat) (l1 : Int32) (l2 : Int32) (l3 : Int32) (l4 : Int32) (l5 : Int32) (I : am_M) (P : am_Q) (nx : Nat) (sl : Nat) : Option (Int32 × am_S) :=
  sm_ck (am_t l0 = 12) <|
  sm_ck (am_t (P l0 0) = 11) <|
  Option.bind (fW_hasBox I P (P l0 0) l1) fun y3 =>
  if y3 = 0 then
    (fX_would_J60 l0 l1 l2 l3 l4 l5 I P nx sl)
  else
    (if l2 < 0 then
      (fX_would_J60 l0 l1 l2 l3 l4 l5 I P nx sl)
    else
      (if 4 ≤ l2 then
        (fX_would_J60 l0 l1 l2 l3 l4 l5 I P nx sl)
      else
        (Option.bind (fW_isPair I P (P l0 0) l3) fun y22 =>
        if y22 = 0 then
          (fX_would_J60 l0 l1 l2 l3 l4 l5 I P nx sl)
        else
          (Option.bind (fW_isPair I P (P l0 0) l4) fun y24 =>
          if y24 = 0 then
            (fX_would_J60 l0 l1 l2 l3 l4 l5 I P nx sl)
          else
            (if l5 < 0 then
              (fX_would_J60 l0 l1 l2 l3 l4 l5 I P nx sl)
            else
              (if 999 < l5 then
                (fX_would_J60 l0 l1 l2 l3 l4 l5 I P nx sl)
              else
                (fX_would_J61 l0 l1 l2 l3 l4 l5 1 I P nx sl)))))))
set_option maxRecDepth 100000 in
theorem AfX_would {dp : Nat}  {I : am_M} {P : am_Q} {nx : Nat} {sl : Nat} {l0 : Nat} {l1 : Int32} {l2 : Int32} {l3 : Int32} {l4 : Int32} {l5 : Int32} {y : Int32 × am_S} (hy : fX_would l0 l1 l2 l3 l4 l5 I P nx sl = some y) : sm_T (dp + 3) 61 [.inr l0, .inl l1, .inl l2, .inl l3, .inl l4, .inl l5] (I, P, nx, sl) (sm_g3 y) := by
  refine r_meth (d := am_d61) (dp := dp + 2) (ls0 := [some (.inr l0), some (.inl l1), some (.inl l2), some (.inl l3), some (.inl l4), some (.inl l5), none]) rfl (by decide) rfl rfl ?_ hy
  unfold fX_would
  refine r_ck (fun h1 => ?_)
  refine r_aload rfl rfl (am_nz h1) ?_
  refine r_getP rfl h1 ?_
  refine r_iload rfl rfl ?_
  refine r_ck (fun h2 => ?_)
  refine r_call0 rfl rfl h2 (fun y hy => AfW_hasBox (dp := dp + 1) hy) (fun y3 => ?_)
  refine r_if rfl rfl (fun c4 => ?_) (fun c4 => ?_)
  · exact AfX_would_J60 l0 l1 l2 l3 l4 l5 I P nx sl none
  · refine r_iload rfl rfl ?_
    refine r_if rfl rfl (fun c20 => ?_) (fun c20 => ?_)
    · exact AfX_would_J60 l0 l1 l2 l3 l4 l5 I P nx sl none
    · refine r_iload rfl rfl ?_
      refine r_const (x := 4) rfl rfl ?_
      refine r_icmp rfl rfl (fun c21 => ?_) (fun c21 => ?_)
      · exact AfX_would_J60 l0 l1 l2 l3 l4 l5 I P nx sl none
      · refine r_aload rfl rfl (am_nz h1) ?_
        refine r_getP rfl h1 ?_
        refine r_iload rfl rfl ?_
        refine r_call0 rfl rfl h2 (fun y hy => AfW_isPair (dp := dp + 0) hy) (fun y22 => ?_)
        refine r_if rfl rfl (fun c23 => ?_) (fun c23 => ?_)
        · exact AfX_would_J60 l0 l1 l2 l3 l4 l5 I P nx sl none
        · refine r_aload rfl rfl (am_nz h1) ?_
          refine r_getP rfl h1 ?_
          refine r_iload rfl rfl ?_
          refine r_call0 rfl rfl h2 (fun y hy => AfW_isPair (dp := dp + 0) hy) (fun y24 => ?_)
          refine r_if rfl rfl (fun c25 => ?_) (fun c25 => ?_)
          · exact AfX_would_J60 l0 l1 l2 l3 l4 l5 I P nx sl none
          · refine r_iload rfl rfl ?_
            refine r_if rfl rfl (fun c26 => ?_) (fun c26 => ?_)
            · exact AfX_would_J60 l0 l1 l2 l3 l4 l5 I P nx sl none
            · refine r_iload rfl rfl ?_
              refine r_const (x := 999) rfl rfl ?_
              refine r_icmp rfl rfl (fun c27 => ?_) (fun c27 => ?_)
              · exact AfX_would_J60 l0 l1 l2 l3 l4 l5 I P nx sl none
              · refine r_const (x := 1) rfl rfl ?_
                refine r_goto rfl ?_
                exact AfX_would_J61 l0 l1 l2 l3 l4 l5 1 I P nx sl none
noncomputable def fW_isEnd (I : am_M) (P : am_Q) (l0 : Nat) (l1 : Int32) : Option (Int32) :=
  if l1 < 0 then
    (some 0)
  else
    (sm_ck (am_t l0 = 11) <|
    Option.bind (fW_hasBox I P l0 (l1 / 10)) fun y3 =>
    if y3 = 0 then
      (some 0)
    else
      (Option.bind (fX_isDoor (sm_rem l1 10)) fun y5 =>
      if y5 = 0 then
        (some 0)
      else
        (some 1)))
set_option maxRecDepth 100000 in
theorem AfW_isEnd {dp : Nat} {I : am_M} {P : am_Q} {nx : Nat} {sl : Nat} {l0 : Nat} {l1 : Int32} {y : Int32} (hy : fW_isEnd I P l0 l1 = some y) : sm_T (dp + 2) 64 [.inr l0, .inl l1] (I, P, nx, sl) ((sm_g0 (I, P, nx, sl)) y) := by
  refine r_meth (d := am_d64) (dp := dp + 1) (ls0 := [some (.inr l0), some (.inl l1)]) rfl (by decide) rfl rfl ?_ hy
  unfold fW_isEnd
  refine r_iload rfl rfl ?_
  refine r_if rfl rfl (fun c1 => ?_) (fun c1 => ?_)
  · refine r_const (x := 0) rfl rfl ?_
    exact r_ireturn rfl (Or.inr ⟨rfl, sm_010⟩) rfl
  · refine r_ck (fun h2 => ?_)
    refine r_aload rfl rfl (am_nz h2) ?_
    refine r_iload rfl rfl ?_
    refine r_const (x := 10) rfl rfl ?_
    refine r_bin (z := l1 / 10) rfl (sm_dv (by decide)) (by decide) ?_
    refine r_call0 rfl rfl h2 (fun y hy => AfW_hasBox (dp := dp + 0) hy) (fun y3 => ?_)
    refine r_if rfl rfl (fun c4 => ?_) (fun c4 => ?_)
    · refine r_const (x := 0) rfl rfl ?_
      exact r_ireturn rfl (Or.inr ⟨rfl, sm_010⟩) rfl
    · refine r_iload rfl rfl ?_
      refine r_const (x := 10) rfl rfl ?_
      refine r_bin (z := sm_rem l1 10) rfl (sm_rv (by decide)) (by decide) ?_
      refine r_call0 rfl rfl trivial (fun y hy => AfX_isDoor (dp := dp + 0) hy) (fun y5 => ?_)
      refine r_if rfl rfl (fun c6 => ?_) (fun c6 => ?_)
      · refine r_const (x := 0) rfl rfl ?_
        exact r_ireturn rfl (Or.inr ⟨rfl, sm_010⟩) rfl
      · refine r_const (x := 1) rfl rfl ?_
        refine r_goto rfl ?_
        exact r_ireturn rfl (Or.inr ⟨rfl, sm_011⟩) rfl
noncomputable def fS_begin (P : am_Q) (l0 : Nat) (l1 : Int32) (l2 : Int32) (l3 : Int32) (I : am_M) : Option (am_M) :=
  sm_ck (am_t l0 = 8) <|
  sm_bd (am_up I l0 0 (l1 / 10)) fun I2 =>
  sm_bd (am_up I2 l0 1 (sm_rem l1 10)) fun I3 =>
  sm_bd (am_up I3 l0 2 (l2 / 10)) fun I4 =>
  sm_bd (am_up I4 l0 3 (sm_rem l2 10)) fun I5 =>
  sm_bd (am_up I5 l0 4 0) fun I6 =>
  sm_bd (am_up I6 l0 5 0) fun I7 =>
  sm_bd (am_up I7 l0 6 0) fun I8 =>
  sm_bd (am_up I8 l0 7 0) fun I9 =>
  sm_bd (am_up I9 l0 8 0) fun I10 =>
  sm_bd (am_up I10 l0 9 l3) fun I11 =>
  some I11
set_option maxRecDepth 100000 in
theorem AfS_begin {dp : Nat} {P : am_Q} {nx : Nat} {sl : Nat} {I : am_M} {l0 : Nat} {l1 : Int32} {l2 : Int32} {l3 : Int32} {y : am_M} (hy : fS_begin P l0 l1 l2 l3 I = some y) : sm_T (dp + 1) 66 [.inr l0, .inl l1, .inl l2, .inl l3] (I, P, nx, sl) ((sm_g2 P nx sl) y) := by
  refine r_meth (d := am_d66) (dp := dp + 0) (ls0 := [some (.inr l0), some (.inl l1), some (.inl l2), some (.inl l3)]) rfl (by decide) rfl rfl ?_ hy
  unfold fS_begin
  refine r_ck (fun h1 => ?_)
  refine r_aload rfl rfl (am_nz h1) ?_
  refine r_iload rfl rfl ?_
  refine r_const (x := 10) rfl rfl ?_
  refine r_bin (z := l1 / 10) rfl (sm_dv (by decide)) (by decide) ?_
  refine r_putI rfl h1 (fun hz => absurd hz (by decide)) (fun I2 => ?_)
  refine r_aload rfl rfl (am_nz h1) ?_
  refine r_iload rfl rfl ?_
  refine r_const (x := 10) rfl rfl ?_
  refine r_bin (z := sm_rem l1 10) rfl (sm_rv (by decide)) (by decide) ?_
  refine r_putI rfl h1 (fun hz => absurd hz (by decide)) (fun I3 => ?_)
  refine r_aload rfl rfl (am_nz h1) ?_
  refine r_iload rfl rfl ?_
  refine r_const (x := 10) rfl rfl ?_
  refine r_bin (z := l2 / 10) rfl (sm_dv (by decide)) (by decide) ?_
  refine r_putI rfl h1 (fun hz => absurd hz (by decide)) (fun I4 => ?_)
  refine r_aload rfl rfl (am_nz h1) ?_
  refine r_iload rfl rfl ?_
  refine r_const (x := 10) rfl rfl ?_
  refine r_bin (z := sm_rem l2 10) rfl (sm_rv (by decide)) (by decide) ?_
  refine r_putI rfl h1 (fun hz => absurd hz (by decide)) (fun I5 => ?_)
  refine r_aload rfl rfl (am_nz h1) ?_
  refine r_const (x := 0) rfl rfl ?_
  refine r_putI rfl h1 (fun hz => absurd hz (by decide)) (fun I6 => ?_)
  refine r_aload rfl rfl (am_nz h1) ?_
  refine r_const (x := 0) rfl rfl ?_
  refine r_putI rfl h1 (fun hz => absurd hz (by decide)) (fun I7 => ?_)
  refine r_aload rfl rfl (am_nz h1) ?_
  refine r_const (x := 0) rfl rfl ?_
  refine r_putI rfl h1 (fun hz => absurd hz (by decide)) (fun I8 => ?_)
  refine r_aload rfl rfl (am_nz h1) ?_
  refine r_const (x := 0) rfl rfl ?_
  refine r_putI rfl h1 (fun hz => absurd hz (by decide)) (fun I9 => ?_)
  refine r_aload rfl rfl (am_nz h1) ?_
  refine r_const (x := 0) rfl rfl ?_
  refine r_putI rfl h1 (fun hz => absurd hz (by decide)) (fun I10 => ?_)
  refine r_aload rfl rfl (am_nz h1) ?_
  refine r_iload rfl rfl ?_
  refine r_putI rfl h1 (fun hz => absurd hz (by decide)) (fun I11 => ?_)
  exact r_return rfl rfl
noncomputable def fW_addSeam (P : am_Q) (l0 : Nat) (l1 : Int32) (l2 : Int32) (I : am_M) : Option (Int32 × am_M) :=
  sm_ck (am_t l0 = 11) <|
  sm_bd (I l0 7) fun x2 =>
  sm_ck (sm_ia (P l0 10) x2) <|
  sm_ck (am_t (P (P l0 10) x2.toNatClampNeg) = 8) <|
  Option.bind (fS_begin P (P (P l0 10) x2.toNatClampNeg) l1 l2 ((I l0 0) - 1) I) fun y5 =>
  sm_ck (sm_iw (P l0 12) ((2 * (l2 / 10)) + (sm_rem l2 10))) <|
  sm_bd (am_up y5 (P l0 12) ((2 * (l2 / 10)) + (sm_rem l2 10)).toNatClampNeg x2) fun I7 =>
  sm_bd (am_up I7 l0 7 ((I7 l0 7) + 1)) fun I8 =>
  some (x2, I8)
set_option maxRecDepth 100000 in
theorem AfW_addSeam {dp : Nat} {P : am_Q} {nx : Nat} {sl : Nat} {I : am_M} {l0 : Nat} {l1 : Int32} {l2 : Int32} {y : Int32 × am_M} (hy : fW_addSeam P l0 l1 l2 I = some y) : sm_T (dp + 2) 65 [.inr l0, .inl l1, .inl l2] (I, P, nx, sl) ((sm_g1 P nx sl) y) := by
  refine r_meth (d := am_d65) (dp := dp + 1) (ls0 := [some (.inr l0), some (.inl l1), some (.inl l2), none]) rfl (by decide) rfl rfl ?_ hy
  unfold fW_addSeam
  refine r_ck (fun h1 => ?_)
  refine r_aload rfl rfl (am_nz h1) ?_
  refine r_getI rfl h1 ?_
  refine r_bd (fun x2 => ?_)
  refine r_istore (ls' := [some (.inr l0), some (.inl l1), some (.inl l2), some (.inl x2)]) rfl (Nat.le_of_ble_eq_true rfl) rfl ?_
  refine r_aload rfl rfl (am_nz h1) ?_
  refine r_getP rfl h1 ?_
  refine r_iload rfl rfl ?_
  refine r_ck (fun h3 => ?_)
  refine r_aald rfl h3 ?_
  refine r_iload rfl rfl ?_
  refine r_iload rfl rfl ?_
  refine r_aload rfl rfl (am_nz h1) ?_
  refine r_getI rfl h1 ?_
  refine r_const (x := 1) rfl rfl ?_
  refine r_bin (z := (I l0 0) - 1) rfl rfl (by decide) ?_
  refine r_ck (fun h4 => ?_)
  refine r_call2 rfl rfl h4 (fun y hy => AfS_begin (dp := dp + 0) hy) (fun y5 => ?_)
  refine r_aload rfl rfl (am_nz h1) ?_
  refine r_getP rfl h1 ?_
  refine r_const (x := 2) rfl rfl ?_
  refine r_iload rfl rfl ?_
  refine r_const (x := 10) rfl rfl ?_
  refine r_bin (z := l2 / 10) rfl (sm_dv (by decide)) (by decide) ?_
  refine r_bin (z := 2 * (l2 / 10)) rfl rfl (by decide) ?_
  refine r_iload rfl rfl ?_
  refine r_const (x := 10) rfl rfl ?_
  refine r_bin (z := sm_rem l2 10) rfl (sm_rv (by decide)) (by decide) ?_
  refine r_bin (z := (2 * (l2 / 10)) + (sm_rem l2 10)) rfl rfl (by decide) ?_
  refine r_iload rfl rfl ?_
  refine r_ck (fun h6 => ?_)
  refine r_iast rfl h6 (fun I7 => ?_)
  refine r_aload rfl rfl (am_nz h1) ?_
  refine r_dup rfl ?_
  refine r_getI rfl h1 ?_
  refine r_const (x := 1) rfl rfl ?_
  refine r_bin (z := (I7 l0 7) + 1) rfl rfl (by decide) ?_
  refine r_putI rfl h1 (fun hz => absurd hz (by decide)) (fun I8 => ?_)
  refine r_iload rfl rfl ?_
  exact r_ireturn rfl (Or.inl rfl) rfl
noncomputable def fX_seam (P : am_Q) (l0 : Nat) (l1 : Int32) (l2 : Int32) (I : am_M) : Option (Int32 × am_M) :=
  sm_ck (am_t l0 = 12) <|
  sm_ck (am_t (P l0 0) = 11) <|
  Option.bind (fW_isEnd I P (P l0 0) l1) fun y3 =>
  if y3 = 0 then
    (Option.bind (fX_found P l0 ((-1000001)) I) fun y5 =>
    some (y5.1, y5.2))
  else
    (Option.bind (fW_isEnd I P (P l0 0) l2) fun y6 =>
    if ¬ y6 = 0 then
      (Option.bind (fW_seamInto I P (P l0 0) (l2 / 10) (sm_rem l2 10)) fun y8 =>
      if y8 < 0 then
        (if (I (P l0 0) 7) < 14 then
          (Option.bind (fW_addSeam P (P l0 0) l1 l2 I) fun y11 =>
          some (y11.1, y11.2))
        else
          (Option.bind (fX_found P l0 ((-1000002)) I) fun y12 =>
          some (y12.1, y12.2)))
      else
        (Option.bind (fX_found P l0 ((-1000005)) I) fun y13 =>
        some (y13.1, y13.2)))
    else
      (Option.bind (fX_found P l0 ((-1000001)) I) fun y14 =>
      some (y14.1, y14.2)))
set_option maxRecDepth 100000 in
theorem AfX_seam {dp : Nat} {P : am_Q} {nx : Nat} {sl : Nat} {I : am_M} {l0 : Nat} {l1 : Int32} {l2 : Int32} {y : Int32 × am_M} (hy : fX_seam P l0 l1 l2 I = some y) : sm_T (dp + 3) 63 [.inr l0, .inl l1, .inl l2] (I, P, nx, sl) ((sm_g1 P nx sl) y) := by
  refine r_meth (d := am_d63) (dp := dp + 2) (ls0 := [some (.inr l0), some (.inl l1), some (.inl l2)]) rfl (by decide) rfl rfl ?_ hy
  unfold fX_seam
  refine r_ck (fun h1 => ?_)
  refine r_aload rfl rfl (am_nz h1) ?_
  refine r_getP rfl h1 ?_
  refine r_iload rfl rfl ?_
  refine r_ck (fun h2 => ?_)
  refine r_call0 rfl rfl h2 (fun y hy => AfW_isEnd (dp := dp + 0) hy) (fun y3 => ?_)
  refine r_if rfl rfl (fun c4 => ?_) (fun c4 => ?_)
  · refine r_aload rfl rfl (am_nz h1) ?_
    refine r_const (x := (-1000001)) rfl rfl ?_
    refine r_call1 rfl rfl h1 (fun y hy => AfX_found (dp := dp + 1) hy) (fun y5 => ?_)
    exact r_ireturn rfl (Or.inl rfl) rfl
  · refine r_aload rfl rfl (am_nz h1) ?_
    refine r_getP rfl h1 ?_
    refine r_iload rfl rfl ?_
    refine r_call0 rfl rfl h2 (fun y hy => AfW_isEnd (dp := dp + 0) hy) (fun y6 => ?_)
    refine r_if rfl rfl (fun c7 => ?_) (fun c7 => ?_)
    · refine r_aload rfl rfl (am_nz h1) ?_
      refine r_getP rfl h1 ?_
      refine r_iload rfl rfl ?_
      refine r_const (x := 10) rfl rfl ?_
      refine r_bin (z := l2 / 10) rfl (sm_dv (by decide)) (by decide) ?_
      refine r_iload rfl rfl ?_
      refine r_const (x := 10) rfl rfl ?_
      refine r_bin (z := sm_rem l2 10) rfl (sm_rv (by decide)) (by decide) ?_
      refine r_call0 rfl rfl h2 (fun y hy => AfW_seamInto (dp := dp + 0) hy) (fun y8 => ?_)
      refine r_if rfl rfl (fun c9 => ?_) (fun c9 => ?_)
      · refine r_aload rfl rfl (am_nz h1) ?_
        refine r_getP rfl h1 ?_
        refine r_getI rfl h2 ?_
        refine r_const (x := 14) rfl rfl ?_
        refine r_icmp rfl rfl (fun c10 => ?_) (fun c10 => ?_)
        · refine r_aload rfl rfl (am_nz h1) ?_
          refine r_getP rfl h1 ?_
          refine r_iload rfl rfl ?_
          refine r_iload rfl rfl ?_
          refine r_call1 rfl rfl h2 (fun y hy => AfW_addSeam (dp := dp + 0) hy) (fun y11 => ?_)
          exact r_ireturn rfl (Or.inl rfl) rfl
        · refine r_aload rfl rfl (am_nz h1) ?_
          refine r_const (x := (-1000002)) rfl rfl ?_
          refine r_call1 rfl rfl h1 (fun y hy => AfX_found (dp := dp + 1) hy) (fun y12 => ?_)
          exact r_ireturn rfl (Or.inl rfl) rfl
      · refine r_aload rfl rfl (am_nz h1) ?_
        refine r_const (x := (-1000005)) rfl rfl ?_
        refine r_call1 rfl rfl h1 (fun y hy => AfX_found (dp := dp + 1) hy) (fun y13 => ?_)
        exact r_ireturn rfl (Or.inl rfl) rfl
    · refine r_aload rfl rfl (am_nz h1) ?_
      refine r_const (x := (-1000001)) rfl rfl ?_
      refine r_call1 rfl rfl h1 (fun y hy => AfX_found (dp := dp + 1) hy) (fun y14 => ?_)
      exact r_ireturn rfl (Or.inl rfl) rfl
noncomputable def fW_hasSeam (I : am_M) (P : am_Q) (l0 : Nat) (l1 : Int32) : Option (Int32) :=
  if l1 < 0 then
    (some 0)
  else
    (sm_ck (am_t l0 = 11) <|
    if (I l0 7) ≤ l1 then
      (some 0)
    else
      (some 1))
set_option maxRecDepth 100000 in
theorem AfW_hasSeam {dp : Nat} {I : am_M} {P : am_Q} {nx : Nat} {sl : Nat} {l0 : Nat} {l1 : Int32} {y : Int32} (hy : fW_hasSeam I P l0 l1 = some y) : sm_T (dp + 1) 68 [.inr l0, .inl l1] (I, P, nx, sl) ((sm_g0 (I, P, nx, sl)) y) := by
  refine r_meth (d := am_d68) (dp := dp + 0) (ls0 := [some (.inr l0), some (.inl l1)]) rfl (by decide) rfl rfl ?_ hy
  unfold fW_hasSeam
  refine r_iload rfl rfl ?_
  refine r_if rfl rfl (fun c1 => ?_) (fun c1 => ?_)
  · refine r_const (x := 0) rfl rfl ?_
    exact r_ireturn rfl (Or.inr ⟨rfl, sm_010⟩) rfl
  · refine r_iload rfl rfl ?_
    refine r_ck (fun h2 => ?_)
    refine r_aload rfl rfl (am_nz h2) ?_
    refine r_getI rfl h2 ?_
    refine r_icmp rfl rfl (fun c3 => ?_) (fun c3 => ?_)
    · refine r_const (x := 0) rfl rfl ?_
      exact r_ireturn rfl (Or.inr ⟨rfl, sm_010⟩) rfl
    · refine r_const (x := 1) rfl rfl ?_
      refine r_goto rfl ?_
      exact r_ireturn rfl (Or.inr ⟨rfl, sm_011⟩) rfl
noncomputable def fX_seamIs (P : am_Q) (l0 : Nat) (l1 : Int32) (l2 : Int32) (I : am_M) : Option (Int32 × am_M) :=
  sm_ck (am_t l0 = 12) <|
  sm_ck (am_t (P l0 0) = 11) <|
  Option.bind (fW_hasSeam I P (P l0 0) l1) fun y3 =>
  if ¬ y3 = 0 then
    (sm_ck (sm_ia (P (P l0 0) 10) l1) <|
    sm_bd (P (P (P l0 0) 10) l1.toNatClampNeg) fun a6 =>
    sm_ck (am_t a6 = 8) <|
    if l2 = 0 then
      (some ((10 * (I a6 0)) + (I a6 1), I))
    else if l2 = 1 then
      (some ((10 * (I a6 2)) + (I a6 3), I))
    else if l2 = 2 then
      (some (I a6 4, I))
    else if l2 = 3 then
      (some (I a6 5, I))
    else if l2 = 4 then
      (some (I a6 6, I))
    else if l2 = 5 then
      (some (I a6 7, I))
    else if l2 = 6 then
      (some (I a6 8, I))
    else if l2 = 7 then
      (some (I a6 9, I))
    else (
      Option.bind (fX_found P l0 ((-1000001)) I) fun y16 =>
      some (y16.1, y16.2)))
  else
    (Option.bind (fX_found P l0 ((-1000001)) I) fun y17 =>
    some (y17.1, y17.2))
set_option maxRecDepth 100000 in
theorem AfX_seamIs {dp : Nat} {P : am_Q} {nx : Nat} {sl : Nat} {I : am_M} {l0 : Nat} {l1 : Int32} {l2 : Int32} {y : Int32 × am_M} (hy : fX_seamIs P l0 l1 l2 I = some y) : sm_T (dp + 2) 67 [.inr l0, .inl l1, .inl l2] (I, P, nx, sl) ((sm_g1 P nx sl) y) := by
  refine r_meth (d := am_d67) (dp := dp + 1) (ls0 := [some (.inr l0), some (.inl l1), some (.inl l2), none]) rfl (by decide) rfl rfl ?_ hy
  unfold fX_seamIs
  refine r_ck (fun h1 => ?_)
  refine r_aload rfl rfl (am_nz h1) ?_
  refine r_getP rfl h1 ?_
  refine r_iload rfl rfl ?_
  refine r_ck (fun h2 => ?_)
  refine r_call0 rfl rfl h2 (fun y hy => AfW_hasSeam (dp := dp + 0) hy) (fun y3 => ?_)
  refine r_if rfl rfl (fun c4 => ?_) (fun c4 => ?_)
  · refine r_aload rfl rfl (am_nz h1) ?_
    refine r_getP rfl h1 ?_
    refine r_getP rfl h2 ?_
    refine r_iload rfl rfl ?_
    refine r_ck (fun h5 => ?_)
    refine r_aald rfl h5 ?_
    refine r_bdA (fun a6 => ?_)
    refine r_ck (fun h7 => ?_)
    refine r_astore (ls' := [some (.inr l0), some (.inl l1), some (.inl l2), some (.inr a6)]) rfl (Nat.le_of_ble_eq_true rfl) (am_nz h7) rfl ?_
    refine r_iload rfl rfl ?_
    refine r_ite (fun c8 => ?_) (fun c8 => ?_)
    · refine r_tabE (t := 76) rfl c8 (by decide) ?_
      refine r_const (x := 10) rfl rfl ?_
      refine r_aload rfl rfl (am_nz h7) ?_
      refine r_getI rfl h7 ?_
      refine r_bin (z := 10 * (I a6 0)) rfl rfl (by decide) ?_
      refine r_aload rfl rfl (am_nz h7) ?_
      refine r_getI rfl h7 ?_
      refine r_bin (z := (10 * (I a6 0)) + (I a6 1)) rfl rfl (by decide) ?_
      exact r_ireturn rfl (Or.inl rfl) rfl
    refine r_ite (fun c9 => ?_) (fun c9 => ?_)
    · refine r_tabE (t := 89) rfl c9 (by decide) ?_
      refine r_const (x := 10) rfl rfl ?_
      refine r_aload rfl rfl (am_nz h7) ?_
      refine r_getI rfl h7 ?_
      refine r_bin (z := 10 * (I a6 2)) rfl rfl (by decide) ?_
      refine r_aload rfl rfl (am_nz h7) ?_
      refine r_getI rfl h7 ?_
      refine r_bin (z := (10 * (I a6 2)) + (I a6 3)) rfl rfl (by decide) ?_
      exact r_ireturn rfl (Or.inl rfl) rfl
    refine r_ite (fun c10 => ?_) (fun c10 => ?_)
    · refine r_tabE (t := 102) rfl c10 (by decide) ?_
      refine r_aload rfl rfl (am_nz h7) ?_
      refine r_getI rfl h7 ?_
      exact r_ireturn rfl (Or.inl rfl) rfl
    refine r_ite (fun c11 => ?_) (fun c11 => ?_)
    · refine r_tabE (t := 107) rfl c11 (by decide) ?_
      refine r_aload rfl rfl (am_nz h7) ?_
      refine r_getI rfl h7 ?_
      exact r_ireturn rfl (Or.inl rfl) rfl
    refine r_ite (fun c12 => ?_) (fun c12 => ?_)
    · refine r_tabE (t := 112) rfl c12 (by decide) ?_
      refine r_aload rfl rfl (am_nz h7) ?_
      refine r_getI rfl h7 ?_
      exact r_ireturn rfl (Or.inl rfl) rfl
    refine r_ite (fun c13 => ?_) (fun c13 => ?_)
    · refine r_tabE (t := 117) rfl c13 (by decide) ?_
      refine r_aload rfl rfl (am_nz h7) ?_
      refine r_getI rfl h7 ?_
      exact r_ireturn rfl (Or.inl rfl) rfl
    refine r_ite (fun c14 => ?_) (fun c14 => ?_)
    · refine r_tabE (t := 122) rfl c14 (by decide) ?_
      refine r_aload rfl rfl (am_nz h7) ?_
      refine r_getI rfl h7 ?_
      exact r_ireturn rfl (Or.inl rfl) rfl
    refine r_ite (fun c15 => ?_) (fun c15 => ?_)
    · refine r_tabE (t := 127) rfl c15 (by decide) ?_
      refine r_aload rfl rfl (am_nz h7) ?_
      refine r_getI rfl h7 ?_
      exact r_ireturn rfl (Or.inl rfl) rfl
    refine r_tabD rfl ⟨c8, c9, c10, c11, c12, c13, c14, c15, trivial⟩ ?_
    refine r_aload rfl rfl (am_nz h1) ?_
    refine r_const (x := (-1000001)) rfl rfl ?_
    refine r_call1 rfl rfl h1 (fun y hy => AfX_found (dp := dp + 0) hy) (fun y16 => ?_)
    exact r_ireturn rfl (Or.inl rfl) rfl
  · refine r_aload rfl rfl (am_nz h1) ?_
    refine r_const (x := (-1000001)) rfl rfl ?_
    refine r_call1 rfl rfl h1 (fun y hy => AfX_found (dp := dp + 0) hy) (fun y17 => ?_)
    exact r_ireturn rfl (Or.inl rfl) rfl
noncomputable def fX_say (P : am_Q) (l0 : Nat) (l1 : Int32) (l2 : Int32) (l3 : Int32) (I : am_M) : Option (Int32 × am_M) :=
  sm_ck (am_t l0 = 12) <|
  sm_ck (am_t (P l0 0) = 11) <|
  Option.bind (fW_hasSeam I P (P l0 0) l1) fun y3 =>
  if y3 = 0 then
    (Option.bind (fX_found P l0 ((-1000001)) I) fun y5 =>
    some (y5.1, y5.2))
  else
    (Option.bind (fW_isNumber I P (P l0 0) l2) fun y6 =>
    if y6 = 0 then
      (Option.bind (fX_found P l0 ((-1000001)) I) fun y8 =>
      some (y8.1, y8.2))
    else
      (Option.bind (fW_isNumber I P (P l0 0) l3) fun y9 =>
      if y9 = 0 then
        (Option.bind (fX_found P l0 ((-1000001)) I) fun y11 =>
        some (y11.1, y11.2))
      else
        (if l2 ≤ l3 then
          (sm_ck (sm_ia (P (P l0 0) 10) l1) <|
          sm_ck (am_t (P (P (P l0 0) 10) l1.toNatClampNeg) = 8) <|
          sm_bd (am_up I (P (P (P l0 0) 10) l1.toNatClampNeg) 8 l2) fun I15 =>
          sm_ck (sm_ia (P (P l0 0) 10) l1) <|
          sm_bd (am_up I15 (P (P (P l0 0) 10) l1.toNatClampNeg) 9 l3) fun I17 =>
          some (1, I17))
        else
          (Option.bind (fX_found P l0 ((-1000001)) I) fun y18 =>
          some (y18.1, y18.2)))))
set_option maxRecDepth 100000 in
theorem AfX_say {dp : Nat} {P : am_Q} {nx : Nat} {sl : Nat} {I : am_M} {l0 : Nat} {l1 : Int32} {l2 : Int32} {l3 : Int32} {y : Int32 × am_M} (hy : fX_say P l0 l1 l2 l3 I = some y) : sm_T (dp + 2) 69 [.inr l0, .inl l1, .inl l2, .inl l3] (I, P, nx, sl) ((sm_g1 P nx sl) y) := by
  refine r_meth (d := am_d69) (dp := dp + 1) (ls0 := [some (.inr l0), some (.inl l1), some (.inl l2), some (.inl l3)]) rfl (by decide) rfl rfl ?_ hy
  unfold fX_say
  refine r_ck (fun h1 => ?_)
  refine r_aload rfl rfl (am_nz h1) ?_
  refine r_getP rfl h1 ?_
  refine r_iload rfl rfl ?_
  refine r_ck (fun h2 => ?_)
  refine r_call0 rfl rfl h2 (fun y hy => AfW_hasSeam (dp := dp + 0) hy) (fun y3 => ?_)
  refine r_if rfl rfl (fun c4 => ?_) (fun c4 => ?_)
  · refine r_aload rfl rfl (am_nz h1) ?_
    refine r_const (x := (-1000001)) rfl rfl ?_
    refine r_call1 rfl rfl h1 (fun y hy => AfX_found (dp := dp + 0) hy) (fun y5 => ?_)
    exact r_ireturn rfl (Or.inl rfl) rfl
  · refine r_aload rfl rfl (am_nz h1) ?_
    refine r_getP rfl h1 ?_
    refine r_iload rfl rfl ?_
    refine r_call0 rfl rfl h2 (fun y hy => AfW_isNumber (dp := dp + 0) hy) (fun y6 => ?_)
    refine r_if rfl rfl (fun c7 => ?_) (fun c7 => ?_)
    · refine r_aload rfl rfl (am_nz h1) ?_
      refine r_const (x := (-1000001)) rfl rfl ?_
      refine r_call1 rfl rfl h1 (fun y hy => AfX_found (dp := dp + 0) hy) (fun y8 => ?_)
      exact r_ireturn rfl (Or.inl rfl) rfl
    · refine r_aload rfl rfl (am_nz h1) ?_
      refine r_getP rfl h1 ?_
      refine r_iload rfl rfl ?_
      refine r_call0 rfl rfl h2 (fun y hy => AfW_isNumber (dp := dp + 0) hy) (fun y9 => ?_)
      refine r_if rfl rfl (fun c10 => ?_) (fun c10 => ?_)
      · refine r_aload rfl rfl (am_nz h1) ?_
        refine r_const (x := (-1000001)) rfl rfl ?_
        refine r_call1 rfl rfl h1 (fun y hy => AfX_found (dp := dp + 0) hy) (fun y11 => ?_)
        exact r_ireturn rfl (Or.inl rfl) rfl
      · refine r_iload rfl rfl ?_
        refine r_iload rfl rfl ?_
        refine r_icmp rfl rfl (fun c12 => ?_) (fun c12 => ?_)
        · refine r_aload rfl rfl (am_nz h1) ?_
          refine r_getP rfl h1 ?_
          refine r_getP rfl h2 ?_
          refine r_iload rfl rfl ?_
          refine r_ck (fun h13 => ?_)
          refine r_aald rfl h13 ?_
          refine r_iload rfl rfl ?_
          refine r_ck (fun h14 => ?_)
          refine r_putI rfl h14 (fun hz => absurd hz (by decide)) (fun I15 => ?_)
          refine r_aload rfl rfl (am_nz h1) ?_
          refine r_getP rfl h1 ?_
          refine r_getP rfl h2 ?_
          refine r_iload rfl rfl ?_
          refine r_ck (fun h16 => ?_)
          refine r_aald rfl h16 ?_
          refine r_iload rfl rfl ?_
          refine r_putI rfl h14 (fun hz => absurd hz (by decide)) (fun I17 => ?_)
          refine r_const (x := 1) rfl rfl ?_
          exact r_ireturn rfl (Or.inl rfl) rfl
        · refine r_aload rfl rfl (am_nz h1) ?_
          refine r_const (x := (-1000001)) rfl rfl ?_
          refine r_call1 rfl rfl h1 (fun y hy => AfX_found (dp := dp + 0) hy) (fun y18 => ?_)
          exact r_ireturn rfl (Or.inl rfl) rfl
noncomputable def fX_isRule (l0 : Int32) : Option (Int32) :=
  if l0 < 0 then
    (some 0)
  else
    (if 3 ≤ l0 then
      (some 0)
    else
      (some 1))
set_option maxRecDepth 100000 in
theorem AfX_isRule {dp : Nat} {S : am_S} {l0 : Int32} {y : Int32} (hy : fX_isRule l0 = some y) : sm_T (dp + 1) 71 [.inl l0] S ((sm_g0 S) y) := by
  refine r_meth (d := am_d71) (dp := dp + 0) (ls0 := [some (.inl l0)]) rfl (by decide) rfl rfl ?_ hy
  unfold fX_isRule
  refine r_iload rfl rfl ?_
  refine r_if rfl rfl (fun c1 => ?_) (fun c1 => ?_)
  · refine r_const (x := 0) rfl rfl ?_
    exact r_ireturn rfl (Or.inr ⟨rfl, sm_010⟩) rfl
  · refine r_iload rfl rfl ?_
    refine r_const (x := 3) rfl rfl ?_
    refine r_icmp rfl rfl (fun c2 => ?_) (fun c2 => ?_)
    · refine r_const (x := 0) rfl rfl ?_
      exact r_ireturn rfl (Or.inr ⟨rfl, sm_010⟩) rfl
    · refine r_const (x := 1) rfl rfl ?_
      refine r_goto rfl ?_
      exact r_ireturn rfl (Or.inr ⟨rfl, sm_011⟩) rfl
noncomputable def fX_guess (P : am_Q) (l0 : Nat) (l1 : Int32) (I : am_M) : Option (Int32 × am_M) :=
  Option.bind (fX_isRule l1) fun y1 =>
  if ¬ y1 = 0 then
    (sm_ck (am_t l0 = 12) <|
    sm_ck (am_t (P l0 0) = 11) <|
    sm_bd (I (P l0 0) 2) fun x5 =>
    sm_bd (am_up I (P l0 0) 2 l1) fun I6 =>
    some (x5, I6))
  else
    (sm_ck (am_t l0 = 12) <|
    Option.bind (fX_found P l0 ((-1000001)) I) fun y8 =>
    some (y8.1, y8.2))
set_option maxRecDepth 100000 in
theorem AfX_guess {dp : Nat} {P : am_Q} {nx : Nat} {sl : Nat} {I : am_M} {l0 : Nat} {l1 : Int32} {y : Int32 × am_M} (hy : fX_guess P l0 l1 I = some y) : sm_T (dp + 2) 70 [.inr l0, .inl l1] (I, P, nx, sl) ((sm_g1 P nx sl) y) := by
  refine r_meth (d := am_d70) (dp := dp + 1) (ls0 := [some (.inr l0), some (.inl l1), none]) rfl (by decide) rfl rfl ?_ hy
  unfold fX_guess
  refine r_iload rfl rfl ?_
  refine r_call0 rfl rfl trivial (fun y hy => AfX_isRule (dp := dp + 0) hy) (fun y1 => ?_)
  refine r_if rfl rfl (fun c2 => ?_) (fun c2 => ?_)
  · refine r_ck (fun h3 => ?_)
    refine r_aload rfl rfl (am_nz h3) ?_
    refine r_getP rfl h3 ?_
    refine r_ck (fun h4 => ?_)
    refine r_getI rfl h4 ?_
    refine r_bd (fun x5 => ?_)
    refine r_istore (ls' := [some (.inr l0), some (.inl l1), some (.inl x5)]) rfl (Nat.le_of_ble_eq_true rfl) rfl ?_
    refine r_aload rfl rfl (am_nz h3) ?_
    refine r_getP rfl h3 ?_
    refine r_iload rfl rfl ?_
    refine r_putI rfl h4 (fun hz => absurd hz (by decide)) (fun I6 => ?_)
    refine r_iload rfl rfl ?_
    exact r_ireturn rfl (Or.inl rfl) rfl
  · refine r_ck (fun h7 => ?_)
    refine r_aload rfl rfl (am_nz h7) ?_
    refine r_const (x := (-1000001)) rfl rfl ?_
    refine r_call1 rfl rfl h7 (fun y hy => AfX_found (dp := dp + 0) hy) (fun y8 => ?_)
    exact r_ireturn rfl (Or.inl rfl) rfl
noncomputable def fS_guessBy (I : am_M) (P : am_Q) (l0 : Nat) (l1 : Int32) (l2 : Int32) : Option (Int32) :=
  if l1 = 1 then
    (sm_ck (am_t l0 = 8) <|
    Option.bind (fX_restBy ((2 * (I l0 4)) - (I l0 5)) l2) fun y3 =>
    some y3)
  else if l1 = 2 then
    (sm_ck (am_t l0 = 8) <|
    Option.bind (fX_restBy (((3 * (I l0 4)) - (3 * (I l0 5))) + (I l0 6)) l2) fun y6 =>
    some y6)
  else (
    sm_ck (am_t l0 = 8) <|
    some (I l0 4))
set_option maxRecDepth 100000 in
theorem AfS_guessBy {dp : Nat} {I : am_M} {P : am_Q} {nx : Nat} {sl : Nat} {l0 : Nat} {l1 : Int32} {l2 : Int32} {y : Int32} (hy : fS_guessBy I P l0 l1 l2 = some y) : sm_T (dp + 2) 73 [.inr l0, .inl l1, .inl l2] (I, P, nx, sl) ((sm_g0 (I, P, nx, sl)) y) := by
  refine r_meth (d := am_d73) (dp := dp + 1) (ls0 := [some (.inr l0), some (.inl l1), some (.inl l2)]) rfl (by decide) rfl rfl ?_ hy
  unfold fS_guessBy
  refine r_iload rfl rfl ?_
  refine r_ite (fun c1 => ?_) (fun c1 => ?_)
  · refine r_lokE (t := 28) rfl c1 (by decide) ?_
    refine r_const (x := 2) rfl rfl ?_
    refine r_ck (fun h2 => ?_)
    refine r_aload rfl rfl (am_nz h2) ?_
    refine r_getI rfl h2 ?_
    refine r_bin (z := 2 * (I l0 4)) rfl rfl (by decide) ?_
    refine r_aload rfl rfl (am_nz h2) ?_
    refine r_getI rfl h2 ?_
    refine r_bin (z := (2 * (I l0 4)) - (I l0 5)) rfl rfl (by decide) ?_
    refine r_iload rfl rfl ?_
    refine r_call0 rfl rfl trivial (fun y hy => AfX_restBy (dp := dp + 0) hy) (fun y3 => ?_)
    exact r_ireturn rfl (Or.inl rfl) rfl
  refine r_ite (fun c4 => ?_) (fun c4 => ?_)
  · refine r_lokE (t := 44) rfl c4 (by decide) ?_
    refine r_const (x := 3) rfl rfl ?_
    refine r_ck (fun h5 => ?_)
    refine r_aload rfl rfl (am_nz h5) ?_
    refine r_getI rfl h5 ?_
    refine r_bin (z := 3 * (I l0 4)) rfl rfl (by decide) ?_
    refine r_const (x := 3) rfl rfl ?_
    refine r_aload rfl rfl (am_nz h5) ?_
    refine r_getI rfl h5 ?_
    refine r_bin (z := 3 * (I l0 5)) rfl rfl (by decide) ?_
    refine r_bin (z := (3 * (I l0 4)) - (3 * (I l0 5))) rfl rfl (by decide) ?_
    refine r_aload rfl rfl (am_nz h5) ?_
    refine r_getI rfl h5 ?_
    refine r_bin (z := ((3 * (I l0 4)) - (3 * (I l0 5))) + (I l0 6)) rfl rfl (by decide) ?_
    refine r_iload rfl rfl ?_
    refine r_call0 rfl rfl trivial (fun y hy => AfX_restBy (dp := dp + 0) hy) (fun y6 => ?_)
    exact r_ireturn rfl (Or.inl rfl) rfl
  refine r_lokD rfl ⟨c1, c4, trivial⟩ ?_
  refine r_ck (fun h7 => ?_)
  refine r_aload rfl rfl (am_nz h7) ?_
  refine r_getI rfl h7 ?_
  exact r_ireturn rfl (Or.inl rfl) rfl
noncomputable def fX_guessed (P : am_Q) (l0 : Nat) (l1 : Int32) (I : am_M) : Option (Int32 × am_M) :=
  sm_ck (am_t l0 = 12) <|
  sm_ck (am_t (P l0 0) = 11) <|
  Option.bind (fW_hasSeam I P (P l0 0) l1) fun y3 =>
  if ¬ y3 = 0 then
    (sm_ck (sm_ia (P (P l0 0) 10) l1) <|
    sm_ck (am_t (P (P (P l0 0) 10) l1.toNatClampNeg) = 8) <|
    Option.bind (fS_guessBy I P (P (P (P l0 0) 10) l1.toNatClampNeg) (I (P l0 0) 2) (I (P l0 0) 0)) fun y7 =>
    some (y7, I))
  else
    (Option.bind (fX_found P l0 ((-1000001)) I) fun y8 =>
    some (y8.1, y8.2))
set_option maxRecDepth 100000 in
theorem AfX_guessed {dp : Nat} {P : am_Q} {nx : Nat} {sl : Nat} {I : am_M} {l0 : Nat} {l1 : Int32} {y : Int32 × am_M} (hy : fX_guessed P l0 l1 I = some y) : sm_T (dp + 3) 72 [.inr l0, .inl l1] (I, P, nx, sl) ((sm_g1 P nx sl) y) := by
  refine r_meth (d := am_d72) (dp := dp + 2) (ls0 := [some (.inr l0), some (.inl l1)]) rfl (by decide) rfl rfl ?_ hy
  unfold fX_guessed
  refine r_ck (fun h1 => ?_)
  refine r_aload rfl rfl (am_nz h1) ?_
  refine r_getP rfl h1 ?_
  refine r_iload rfl rfl ?_
  refine r_ck (fun h2 => ?_)
  refine r_call0 rfl rfl h2 (fun y hy => AfW_hasSeam (dp := dp + 1) hy) (fun y3 => ?_)
  refine r_if rfl rfl (fun c4 => ?_) (fun c4 => ?_)
  · refine r_aload rfl rfl (am_nz h1) ?_
    refine r_getP rfl h1 ?_
    refine r_getP rfl h2 ?_
    refine r_iload rfl rfl ?_
    refine r_ck (fun h5 => ?_)
    refine r_aald rfl h5 ?_
    refine r_aload rfl rfl (am_nz h1) ?_
    refine r_getP rfl h1 ?_
    refine r_getI rfl h2 ?_
    refine r_aload rfl rfl (am_nz h1) ?_
    refine r_getP rfl h1 ?_
    refine r_getI rfl h2 ?_
    refine r_ck (fun h6 => ?_)
    refine r_call0 rfl rfl h6 (fun y hy => AfS_guessBy (dp := dp + 0) hy) (fun y7 => ?_)
    exact r_ireturn rfl (Or.inl rfl) rfl
  · refine r_aload rfl rfl (am_nz h1) ?_
    refine r_const (x := (-1000001)) rfl rfl ?_
    refine r_call1 rfl rfl h1 (fun y hy => AfX_found (dp := dp + 1) hy) (fun y8 => ?_)
    exact r_ireturn rfl (Or.inl rfl) rfl
noncomputable def fL_names_B17 (I : am_M) (P : am_Q) (e17_37 : Option (Int32)) (e17_45 : Option (Int32)) (r17 : Nat → Int32 → Int32 → Int32 → Option (Int32)) (l0 : Nat) (l1 : Int32) (l2 : Int32) (l3 : Int32) : Option (Int32) :=
  sm_ck (am_t l0 = 4) <|
  sm_ck (sm_in (P l0 2) l1) <|
  if (I (P l0 2) l1.toNatClampNeg) ≤ l3 then
    (e17_45)
  else
    (sm_ck (sm_in (P l0 0) l3) <|
    if ¬ (I (P l0 0) l3.toNatClampNeg) = l2 then
      (sm_bd (l3 + 1) fun x11 =>
      r17 l0 l1 l2 x11)
    else
      (e17_37))
set_option maxRecDepth 100000 in
theorem AfL_names_B17 {dp : Nat} {I : am_M} {P : am_Q} {nx : Nat} {sl : Nat} {e17_37 : Option (Int32)} {e17_45 : Option (Int32)} {r17 : Nat → Int32 → Int32 → Int32 → Option (Int32)} (he17_37 : ∀ (o0 : Option am_V) (o1 : Option am_V) (o2 : Option am_V) (o3 : Option am_V), sm (dp + 1) am_d76 37 [o0, o1, o2, o3] [] (I, P, nx, sl) (sm_g0 (I, P, nx, sl)) (e17_37)) (he17_45 : ∀ (o0 : Option am_V) (o1 : Option am_V) (o2 : Option am_V) (o3 : Option am_V), sm (dp + 1) am_d76 45 [o0, o1, o2, o3] [] (I, P, nx, sl) (sm_g0 (I, P, nx, sl)) (e17_45)) (hr17 : ∀ (l0 : Nat) (l1 : Int32) (l2 : Int32) (l3 : Int32), sm (dp + 1) am_d76 17 [some (.inr l0), some (.inl l1), some (.inl l2), some (.inl l3)] [] (I, P, nx, sl) (sm_g0 (I, P, nx, sl)) (r17 l0 l1 l2 l3)) (l0 : Nat) (l1 : Int32) (l2 : Int32) (l3 : Int32) : sm (dp + 1) am_d76 17 [some (.inr l0), some (.inl l1), some (.inl l2), some (.inl l3)] [] (I, P, nx, sl) (sm_g0 (I, P, nx, sl)) (fL_names_B17 I P e17_37 e17_45 r17 l0 l1 l2 l3) := by
  unfold fL_names_B17
  refine r_iload rfl rfl ?_
  refine r_ck (fun h6 => ?_)
  refine r_aload rfl rfl (am_nz h6) ?_
  refine r_getP rfl h6 ?_
  refine r_iload rfl rfl ?_
  refine r_ck (fun h7 => ?_)
  refine r_iald rfl h7 ?_
  refine r_icmp rfl rfl (fun c8 => ?_) (fun c8 => ?_)
  · exact he17_45 (some (.inr l0)) (some (.inl l1)) (some (.inl l2)) (some (.inl l3))
  · refine r_aload rfl rfl (am_nz h6) ?_
    refine r_getP rfl h6 ?_
    refine r_iload rfl rfl ?_
    refine r_ck (fun h9 => ?_)
    refine r_iald rfl h9 ?_
    refine r_iload rfl rfl ?_
    refine r_icmp rfl rfl (fun c10 => ?_) (fun c10 => ?_)
    · refine r_iinc (e := l3 + 1) (ls' := fun x11 => [some (.inr l0), some (.inl l1), some (.inl l2), some (.inl x11)]) rfl rfl rfl (fun _ => rfl) (fun x11 => ?_)
      refine r_goto rfl ?_
      exact hr17 l0 l1 l2 x11
    · exact he17_37 (some (.inr l0)) (some (.inl l1)) (some (.inl l2)) (some (.inl l3))
noncomputable def fL_names_L17 (I : am_M) (P : am_Q) (e17_37 : Option (Int32)) (e17_45 : Option (Int32)) : Nat → Nat → Int32 → Int32 → Int32 → Option (Int32)
  | 0, _, _, _, _ => none
  | n + 1, l0, l1, l2, l3 => fL_names_B17 I P e17_37 e17_45 (fL_names_L17 I P e17_37 e17_45 n) l0 l1 l2 l3
theorem AfL_names_L17 {dp : Nat} {I : am_M} {P : am_Q} {nx : Nat} {sl : Nat} {e17_37 : Option (Int32)} {e17_45 : Option (Int32)} (he17_37 : ∀ (o0 : Option am_V) (o1 : Option am_V) (o2 : Option am_V) (o3 : Option am_V), sm (dp + 1) am_d76 37 [o0, o1, o2, o3] [] (I, P, nx, sl) (sm_g0 (I, P, nx, sl)) (e17_37)) (he17_45 : ∀ (o0 : Option am_V) (o1 : Option am_V) (o2 : Option am_V) (o3 : Option am_V), sm (dp + 1) am_d76 45 [o0, o1, o2, o3] [] (I, P, nx, sl) (sm_g0 (I, P, nx, sl)) (e17_45)) (n : Nat) : ∀ (l0 : Nat) (l1 : Int32) (l2 : Int32) (l3 : Int32), sm (dp + 1) am_d76 17 [some (.inr l0), some (.inl l1), some (.inl l2), some (.inl l3)] [] (I, P, nx, sl) (sm_g0 (I, P, nx, sl)) (fL_names_L17 I P e17_37 e17_45 n l0 l1 l2 l3) := by
  induction n with
  | zero => intro l0 l1 l2 l3; exact sm_none
  | succ n ih => intro l0 l1 l2 l3; exact AfL_names_B17 he17_37 he17_45 ih l0 l1 l2 l3
noncomputable def fL_names (I : am_M) (P : am_Q) (l0 : Nat) (l1 : Int32) (l2 : Int32) : Option (Int32) :=
  sm_ck (am_t l0 = 4) <|
  Option.bind (fL_has I P l0 l1) fun y2 =>
  if ¬ y2 = 0 then
    (sm_ck (sm_in (P l0 1) l1) <|
    sm_bd (I (P l0 1) l1.toNatClampNeg) fun x5 =>
    fL_names_L17 I P (some 1) (some 0) sm_fu l0 l1 l2 x5)
  else
    (some 0)
set_option maxRecDepth 100000 in
theorem AfL_names {dp : Nat} {I : am_M} {P : am_Q} {nx : Nat} {sl : Nat} {l0 : Nat} {l1 : Int32} {l2 : Int32} {y : Int32} (hy : fL_names I P l0 l1 l2 = some y) : sm_T (dp + 2) 76 [.inr l0, .inl l1, .inl l2] (I, P, nx, sl) ((sm_g0 (I, P, nx, sl)) y) := by
  refine r_meth (d := am_d76) (dp := dp + 1) (ls0 := [some (.inr l0), some (.inl l1), some (.inl l2), none]) rfl (by decide) rfl rfl ?_ hy
  unfold fL_names
  refine r_ck (fun h1 => ?_)
  refine r_aload rfl rfl (am_nz h1) ?_
  refine r_iload rfl rfl ?_
  refine r_call0 rfl rfl h1 (fun y hy => AfL_has (dp := dp + 0) hy) (fun y2 => ?_)
  refine r_if rfl rfl (fun c3 => ?_) (fun c3 => ?_)
  · refine r_aload rfl rfl (am_nz h1) ?_
    refine r_getP rfl h1 ?_
    refine r_iload rfl rfl ?_
    refine r_ck (fun h4 => ?_)
    refine r_iald rfl h4 ?_
    refine r_bd (fun x5 => ?_)
    refine r_istore (ls' := [some (.inr l0), some (.inl l1), some (.inl l2), some (.inl x5)]) rfl (Nat.le_of_ble_eq_true rfl) rfl ?_
    refine AfL_names_L17 ?_ ?_ sm_fu l0 l1 l2 x5
    · intro o0 o1 o2 o3
      refine r_const (x := 1) rfl rfl ?_
      exact r_ireturn rfl (Or.inr ⟨rfl, sm_011⟩) rfl
    · intro o0 o1 o2 o3
      refine r_const (x := 0) rfl rfl ?_
      exact r_ireturn rfl (Or.inr ⟨rfl, sm_010⟩) rfl
  · refine r_const (x := 0) rfl rfl ?_
    exact r_ireturn rfl (Or.inr ⟨rfl, sm_010⟩) rfl
