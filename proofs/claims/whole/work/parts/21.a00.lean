noncomputable def fA_fill_B5 (P : am_Q) (e5_20 : am_M → Option (am_M)) (r5 : Nat → Int32 → Int32 → Int32 → am_M → Option (am_M)) (l0 : Nat) (l1 : Int32) (l2 : Int32) (l3 : Int32) (I : am_M) : Option (am_M) :=
  if l3 ≤ l2 then
    (e5_20 I)
  else
    (sm_ck (am_t l0 = 20) <|
    sm_ck (sm_iw l0 l2) <|
    sm_bd (am_up I l0 l2.toNatClampNeg l1) fun I7 =>
    sm_bd (l2 + 1) fun x8 =>
    r5 l0 l1 x8 l3 I7)
set_option maxRecDepth 100000 in
theorem AfA_fill_B5 {dp : Nat} {P : am_Q} {nx : Nat} {sl : Nat} {e5_20 : am_M → Option (am_M)} {r5 : Nat → Int32 → Int32 → Int32 → am_M → Option (am_M)} (he5_20 : ∀ (I : am_M) (o0 : Option am_V) (o1 : Option am_V) (o2 : Option am_V) (o3 : Option am_V), sm (dp + 0) am_d3 20 [o0, o1, o2, o3] [] (I, P, nx, sl) (sm_g2 P nx sl) (e5_20 I)) (hr5 : ∀ (l0 : Nat) (l1 : Int32) (l2 : Int32) (l3 : Int32) (I : am_M), sm (dp + 0) am_d3 5 [some (.inr l0), some (.inl l1), some (.inl l2), some (.inl l3)] [] (I, P, nx, sl) (sm_g2 P nx sl) (r5 l0 l1 l2 l3 I)) (l0 : Nat) (l1 : Int32) (l2 : Int32) (l3 : Int32) (I : am_M) : sm (dp + 0) am_d3 5 [some (.inr l0), some (.inl l1), some (.inl l2), some (.inl l3)] [] (I, P, nx, sl) (sm_g2 P nx sl) (fA_fill_B5 P e5_20 r5 l0 l1 l2 l3 I) := by
  unfold fA_fill_B5
  refine r_iload rfl rfl ?_
  refine r_iload rfl rfl ?_
  refine r_icmp rfl rfl (fun c4 => ?_) (fun c4 => ?_)
  · exact he5_20 I (some (.inr l0)) (some (.inl l1)) (some (.inl l2)) (some (.inl l3))
  · refine r_ck (fun h5 => ?_)
    refine r_aload rfl rfl (am_nz h5) ?_
    refine r_iload rfl rfl ?_
    refine r_iload rfl rfl ?_
    refine r_ck (fun h6 => ?_)
    refine r_iast rfl h6 (fun I7 => ?_)
    refine r_iinc (e := l2 + 1) (ls' := fun x8 => [some (.inr l0), some (.inl l1), some (.inl x8), some (.inl l3)]) rfl rfl rfl (fun _ => rfl) (fun x8 => ?_)
    refine r_goto rfl ?_
    exact hr5 l0 l1 x8 l3 I7
noncomputable def fA_fill_L5 (P : am_Q) (e5_20 : am_M → Option (am_M)) : Nat → Nat → Int32 → Int32 → Int32 → am_M → Option (am_M)
  | 0, _, _, _, _, _ => none
  | n + 1, l0, l1, l2, l3, I => fA_fill_B5 P e5_20 (fA_fill_L5 P e5_20 n) l0 l1 l2 l3 I
theorem AfA_fill_L5 {dp : Nat} {P : am_Q} {nx : Nat} {sl : Nat} {e5_20 : am_M → Option (am_M)} (he5_20 : ∀ (I : am_M) (o0 : Option am_V) (o1 : Option am_V) (o2 : Option am_V) (o3 : Option am_V), sm (dp + 0) am_d3 20 [o0, o1, o2, o3] [] (I, P, nx, sl) (sm_g2 P nx sl) (e5_20 I)) (n : Nat) : ∀ (l0 : Nat) (l1 : Int32) (l2 : Int32) (l3 : Int32) (I : am_M), sm (dp + 0) am_d3 5 [some (.inr l0), some (.inl l1), some (.inl l2), some (.inl l3)] [] (I, P, nx, sl) (sm_g2 P nx sl) (fA_fill_L5 P e5_20 n l0 l1 l2 l3 I) := by
  induction n with
  | zero => intro l0 l1 l2 l3 I; exact sm_none
  | succ n ih => intro l0 l1 l2 l3 I; exact AfA_fill_B5 he5_20 ih l0 l1 l2 l3 I
noncomputable def fA_fill (P : am_Q) (l0 : Nat) (l1 : Int32) (I : am_M) : Option (am_M) :=
  sm_ck (am_t l0 = 20) <|
  sm_ck (20 ≤ am_t l0 ∧ am_t l0 < 26) <|
  sm_bd (Int32.ofNat (am_n l0)) fun x3 =>
  fA_fill_L5 P (fun I =>
      some I) sm_fu l0 l1 0 x3 I
set_option maxRecDepth 100000 in
theorem AfA_fill {dp : Nat} {P : am_Q} {nx : Nat} {sl : Nat} {I : am_M} {l0 : Nat} {l1 : Int32} {y : am_M} (hy : fA_fill P l0 l1 I = some y) : sm_T (dp + 1) 3 [.inr l0, .inl l1] (I, P, nx, sl) ((sm_g2 P nx sl) y) := by
  refine r_meth (d := am_d3) (dp := dp + 0) (ls0 := [some (.inr l0), some (.inl l1), none, none]) rfl (by decide) rfl rfl ?_ hy
  unfold fA_fill
  refine r_const (x := 0) rfl rfl ?_
  refine r_istore (ls' := [some (.inr l0), some (.inl l1), some (.inl 0), none]) rfl (Nat.le_of_ble_eq_true rfl) rfl ?_
  refine r_ck (fun h1 => ?_)
  refine r_aload rfl rfl (am_nz h1) ?_
  refine r_ck (fun h2 => ?_)
  refine r_alen rfl h2 ?_
  refine r_bd (fun x3 => ?_)
  refine r_istore (ls' := [some (.inr l0), some (.inl l1), some (.inl 0), some (.inl x3)]) rfl (Nat.le_of_ble_eq_true rfl) rfl ?_
  refine AfA_fill_L5 ?_ sm_fu l0 l1 0 x3 I
  · intro I o0 o1 o2 o3
    exact r_return rfl rfl
noncomputable def fL_init (l0 : Nat) (I : am_M) (P : am_Q) (nx : Nat) (sl : Nat) : Option (am_S) :=
  sm_ck (am_t l0 = 4) <|
  sm_na 20 0 I nx sl fun a2 I3 n4 s5 =>
  sm_bd (am_up P l0 0 a2) fun P8 =>
  sm_na 20 4 I3 n4 s5 fun a9 I10 n11 s12 =>
  sm_bd (am_up P8 l0 1 a9) fun P15 =>
  sm_na 20 4 I10 n11 s12 fun a16 I17 n18 s19 =>
  sm_bd (am_up P15 l0 2 a16) fun P22 =>
  Option.bind (fA_fill P22 (P22 l0 1) ((-1)) I17) fun y23 =>
  some (y23, P22, n18, s19)
set_option maxRecDepth 100000 in
theorem AfL_init {dp : Nat}  {I : am_M} {P : am_Q} {nx : Nat} {sl : Nat} {l0 : Nat} {y : am_S} (hy : fL_init l0 I P nx sl = some y) : sm_T (dp + 2) 2 [.inr l0] (I, P, nx, sl) (sm_g4 y) := by
  refine r_meth (d := am_d2) (dp := dp + 1) (ls0 := [some (.inr l0)]) rfl (by decide) rfl rfl ?_ hy
  unfold fL_init
  refine r_ck (fun h1 => ?_)
  refine r_aload rfl rfl (am_nz h1) ?_
  refine r_oinit rfl (am_nz h1) (Nat.le_of_ble_eq_true rfl) ?_
  refine r_aload rfl rfl (am_nz h1) ?_
  refine r_const (x := 0) rfl rfl ?_
  refine r_newa rfl (by decide) (by decide) (by decide) (fun a2 I3 n4 s5 h6 h7 => ?_)
  refine r_putP rfl h1 (fun P8 => ?_)
  refine r_aload rfl rfl (am_nz h1) ?_
  refine r_const (x := 4) rfl rfl ?_
  refine r_newa rfl (by decide) (by decide) (by decide) (fun a9 I10 n11 s12 h13 h14 => ?_)
  refine r_putP rfl h1 (fun P15 => ?_)
  refine r_aload rfl rfl (am_nz h1) ?_
  refine r_const (x := 4) rfl rfl ?_
  refine r_newa rfl (by decide) (by decide) (by decide) (fun a16 I17 n18 s19 h20 h21 => ?_)
  refine r_putP rfl h1 (fun P22 => ?_)
  refine r_aload rfl rfl (am_nz h1) ?_
  refine r_getP rfl h1 ?_
  refine r_const (x := (-1)) rfl rfl ?_
  refine r_call2 rfl rfl trivial (fun y hy => AfA_fill (dp := dp + 0) hy) (fun y23 => ?_)
  exact r_return rfl rfl
noncomputable def fB_init (l0 : Nat) (l1 : Nat) (I : am_M) (P : am_Q) (nx : Nat) (sl : Nat) : Option (am_S) :=
  sm_ck (am_t l0 = 1) <|
  sm_ck (am_t l1 = 4) <|
  sm_bd (am_up P l0 10 l1) fun P3 =>
  some (I, P3, nx, sl)
set_option maxRecDepth 100000 in
theorem AfB_init {dp : Nat}  {I : am_M} {P : am_Q} {nx : Nat} {sl : Nat} {l0 : Nat} {l1 : Nat} {y : am_S} (hy : fB_init l0 l1 I P nx sl = some y) : sm_T (dp + 1) 5 [.inr l0, .inr l1] (I, P, nx, sl) (sm_g4 y) := by
  refine r_meth (d := am_d5) (dp := dp + 0) (ls0 := [some (.inr l0), some (.inr l1)]) rfl (by decide) rfl rfl ?_ hy
  unfold fB_init
  refine r_ck (fun h1 => ?_)
  refine r_aload rfl rfl (am_nz h1) ?_
  refine r_oinit rfl (am_nz h1) (Nat.le_of_ble_eq_true rfl) ?_
  refine r_aload rfl rfl (am_nz h1) ?_
  refine r_ck (fun h2 => ?_)
  refine r_aload rfl rfl (am_nz h2) ?_
  refine r_putP rfl h1 (fun P3 => ?_)
  exact r_return rfl rfl
noncomputable def fS_init (l0 : Nat) : Option (Unit) :=
  sm_ck (am_t l0 = 8) <|
  some ()
set_option maxRecDepth 100000 in
theorem AfS_init {dp : Nat} {S : am_S} {l0 : Nat} {y : Unit} (hy : fS_init l0 = some y) : sm_T (dp + 1) 6 [.inr l0] S ((sm_gU S) y) := by
  refine r_meth (d := am_d6) (dp := dp + 0) (ls0 := [some (.inr l0)]) rfl (by decide) rfl rfl ?_ hy
  unfold fS_init
  refine r_ck (fun h1 => ?_)
  refine r_aload rfl rfl (am_nz h1) ?_
  refine r_oinit rfl (am_nz h1) (Nat.le_of_ble_eq_true rfl) ?_
  exact r_return rfl rfl
noncomputable def fW_init_B80 (e80_106 : Nat → am_M → am_Q → Nat → Nat → Option (am_S)) (r80 : Nat → Nat → Int32 → am_M → am_Q → Nat → Nat → Option (am_S)) (l0 : Nat) (l1 : Nat) (l2 : Int32) (I : am_M) (P : am_Q) (nx : Nat) (sl : Nat) : Option (am_S) :=
  if 7 ≤ l2 then
    (e80_106 l0 I P nx sl)
  else
    (sm_ck (am_t l0 = 11) <|
    sm_nw 1 I P nx sl fun a56 I57 P58 n59 s60 =>
    sm_ck (am_t l1 = 4) <|
    Option.bind (fB_init a56 l1 I57 P58 n59 s60) fun y64 =>
    sm_ck (sm_ia (P l0 9) l2) <|
    sm_ck (am_t a56 = am_el (am_t (P l0 9))) <|
    sm_bd (am_up y64.2.1 (P l0 9) l2.toNatClampNeg a56) fun P67 =>
    sm_bd (l2 + 1) fun x68 =>
    r80 l0 l1 x68 y64.1 P67 y64.2.2.1 y64.2.2.2)
set_option maxRecDepth 100000 in
theorem AfW_init_B80 {dp : Nat}  {e80_106 : Nat → am_M → am_Q → Nat → Nat → Option (am_S)} {r80 : Nat → Nat → Int32 → am_M → am_Q → Nat → Nat → Option (am_S)} (he80_106 : ∀ (l0 : Nat) (I : am_M) (P : am_Q) (nx : Nat) (sl : Nat) (o1 : Option am_V) (o2 : Option am_V), sm (dp + 1) am_d4 106 [some (.inr l0), o1, o2] [] (I, P, nx, sl) sm_g4 (e80_106 l0 I P nx sl)) (hr80 : ∀ (l0 : Nat) (l1 : Nat) (l2 : Int32) (I : am_M) (P : am_Q) (nx : Nat) (sl : Nat), sm (dp + 1) am_d4 80 [some (.inr l0), some (.inr l1), some (.inl l2)] [] (I, P, nx, sl) sm_g4 (r80 l0 l1 l2 I P nx sl)) (l0 : Nat) (l1 : Nat) (l2 : Int32) (I : am_M) (P : am_Q) (nx : Nat) (sl : Nat) : sm (dp + 1) am_d4 80 [some (.inr l0), some (.inr l1), some (.inl l2)] [] (I, P, nx, sl) sm_g4 (fW_init_B80 e80_106 r80 l0 l1 l2 I P nx sl) := by
  unfold fW_init_B80
  refine r_iload rfl rfl ?_
  refine r_const (x := 7) rfl rfl ?_
  refine r_icmp rfl rfl (fun c54 => ?_) (fun c54 => ?_)
  · exact he80_106 l0 I P nx sl (some (.inr l1)) (some (.inl l2))
  · refine r_ck (fun h55 => ?_)
    refine r_aload rfl rfl (am_nz h55) ?_
    refine r_getP rfl h55 ?_
    refine r_iload rfl rfl ?_
    refine r_new rfl (by decide) (by decide) (fun a56 I57 P58 n59 s60 h61 h62 => ?_)
    refine r_dup rfl ?_
    refine r_ck (fun h63 => ?_)
    refine r_aload rfl rfl (am_nz h63) ?_
    refine r_call4 rfl rfl (am_nz h61) (fun y hy => AfB_init (dp := dp + 0) hy) (fun y64 => ?_)
    refine r_ck (fun h65 => ?_)
    refine r_ck (fun h66 => ?_)
    refine r_aast rfl h65 h66 (fun P67 => ?_)
    refine r_iinc (e := l2 + 1) (ls' := fun x68 => [some (.inr l0), some (.inr l1), some (.inl x68)]) rfl rfl rfl (fun _ => rfl) (fun x68 => ?_)
    refine r_goto rfl ?_
    exact hr80 l0 l1 x68 y64.1 P67 y64.2.2.1 y64.2.2.2
noncomputable def fW_init_L80 (e80_106 : Nat → am_M → am_Q → Nat → Nat → Option (am_S)) : Nat → Nat → Nat → Int32 → am_M → am_Q → Nat → Nat → Option (am_S)
  | 0, _, _, _, _, _, _, _ => none
  | n + 1, l0, l1, l2, I, P, nx, sl => fW_init_B80 e80_106 (fW_init_L80 e80_106 n) l0 l1 l2 I P nx sl
theorem AfW_init_L80 {dp : Nat}  {e80_106 : Nat → am_M → am_Q → Nat → Nat → Option (am_S)} (he80_106 : ∀ (l0 : Nat) (I : am_M) (P : am_Q) (nx : Nat) (sl : Nat) (o1 : Option am_V) (o2 : Option am_V), sm (dp + 1) am_d4 106 [some (.inr l0), o1, o2] [] (I, P, nx, sl) sm_g4 (e80_106 l0 I P nx sl)) (n : Nat) : ∀ (l0 : Nat) (l1 : Nat) (l2 : Int32) (I : am_M) (P : am_Q) (nx : Nat) (sl : Nat), sm (dp + 1) am_d4 80 [some (.inr l0), some (.inr l1), some (.inl l2)] [] (I, P, nx, sl) sm_g4 (fW_init_L80 e80_106 n l0 l1 l2 I P nx sl) := by
  induction n with
  | zero => intro l0 l1 l2 I P nx sl; exact sm_none
  | succ n ih => intro l0 l1 l2 I P nx sl; exact AfW_init_B80 he80_106 ih l0 l1 l2 I P nx sl
noncomputable def fW_init_B108 (e108_133 : am_M → am_Q → Nat → Nat → Option (am_S)) (r108 : Nat → Int32 → am_M → am_Q → Nat → Nat → Option (am_S)) (l0 : Nat) (l2 : Int32) (I : am_M) (P : am_Q) (nx : Nat) (sl : Nat) : Option (am_S) :=
  if 14 ≤ l2 then
    (e108_133 I P nx sl)
  else
    (sm_ck (am_t l0 = 11) <|
    sm_nw 8 I P nx sl fun a71 I72 P73 n74 s75 =>
    Option.bind (fS_init a71) fun y78 =>
    sm_ck (sm_ia (P l0 10) l2) <|
    sm_ck (am_t a71 = am_el (am_t (P l0 10))) <|
    sm_bd (am_up P73 (P l0 10) l2.toNatClampNeg a71) fun P81 =>
    sm_bd (l2 + 1) fun x82 =>
    r108 l0 x82 I72 P81 n74 s75)
set_option maxRecDepth 100000 in
theorem AfW_init_B108 {dp : Nat}  {e108_133 : am_M → am_Q → Nat → Nat → Option (am_S)} {r108 : Nat → Int32 → am_M → am_Q → Nat → Nat → Option (am_S)} (he108_133 : ∀ (I : am_M) (P : am_Q) (nx : Nat) (sl : Nat) (o0 : Option am_V) (o1 : Option am_V) (o2 : Option am_V), sm (dp + 1) am_d4 133 [o0, o1, o2] [] (I, P, nx, sl) sm_g4 (e108_133 I P nx sl)) (hr108 : ∀ (l0 : Nat) (l2 : Int32) (I : am_M) (P : am_Q) (nx : Nat) (sl : Nat) (o1 : Option am_V), sm (dp + 1) am_d4 108 [some (.inr l0), o1, some (.inl l2)] [] (I, P, nx, sl) sm_g4 (r108 l0 l2 I P nx sl)) (l0 : Nat) (l2 : Int32) (I : am_M) (P : am_Q) (nx : Nat) (sl : Nat) (o1 : Option am_V) : sm (dp + 1) am_d4 108 [some (.inr l0), o1, some (.inl l2)] [] (I, P, nx, sl) sm_g4 (fW_init_B108 e108_133 r108 l0 l2 I P nx sl) := by
  unfold fW_init_B108
  refine r_iload rfl rfl ?_
  refine r_const (x := 14) rfl rfl ?_
  refine r_icmp rfl rfl (fun c69 => ?_) (fun c69 => ?_)
  · exact he108_133 I P nx sl (some (.inr l0)) o1 (some (.inl l2))
  · refine r_ck (fun h70 => ?_)
    refine r_aload rfl rfl (am_nz h70) ?_
    refine r_getP rfl h70 ?_
    refine r_iload rfl rfl ?_
    refine r_new rfl (by decide) (by decide) (fun a71 I72 P73 n74 s75 h76 h77 => ?_)
    refine r_dup rfl ?_
    refine r_callU rfl rfl (am_nz h76) (fun y hy => AfS_init (dp := dp + 0) hy) (fun y78 => ?_)
    refine r_ck (fun h79 => ?_)
    refine r_ck (fun h80 => ?_)
    refine r_aast rfl h79 h80 (fun P81 => ?_)
    refine r_iinc (e := l2 + 1) (ls' := fun x82 => [some (.inr l0), o1, some (.inl x82)]) rfl rfl rfl (fun _ => rfl) (fun x82 => ?_)
    refine r_goto rfl ?_
    exact hr108 l0 x82 I72 P81 n74 s75 o1
noncomputable def fW_init_L108 (e108_133 : am_M → am_Q → Nat → Nat → Option (am_S)) : Nat → Nat → Int32 → am_M → am_Q → Nat → Nat → Option (am_S)
  | 0, _, _, _, _, _, _ => none
  | n + 1, l0, l2, I, P, nx, sl => fW_init_B108 e108_133 (fW_init_L108 e108_133 n) l0 l2 I P nx sl
theorem AfW_init_L108 {dp : Nat}  {e108_133 : am_M → am_Q → Nat → Nat → Option (am_S)} (he108_133 : ∀ (I : am_M) (P : am_Q) (nx : Nat) (sl : Nat) (o0 : Option am_V) (o1 : Option am_V) (o2 : Option am_V), sm (dp + 1) am_d4 133 [o0, o1, o2] [] (I, P, nx, sl) sm_g4 (e108_133 I P nx sl)) (n : Nat) : ∀ (l0 : Nat) (l2 : Int32) (I : am_M) (P : am_Q) (nx : Nat) (sl : Nat) (o1 : Option am_V), sm (dp + 1) am_d4 108 [some (.inr l0), o1, some (.inl l2)] [] (I, P, nx, sl) sm_g4 (fW_init_L108 e108_133 n l0 l2 I P nx sl) := by
  induction n with
  | zero => intro l0 l2 I P nx sl o1; exact sm_none
  | succ n ih => intro l0 l2 I P nx sl o1; exact AfW_init_B108 he108_133 ih l0 l2 I P nx sl o1
noncomputable def fW_init (l0 : Nat) (l1 : Nat) (I : am_M) (P : am_Q) (nx : Nat) (sl : Nat) : Option (am_S) :=
  sm_ck (am_t l0 = 11) <|
  sm_bd (am_up I l0 0 10) fun I2 =>
  sm_bd (am_up I2 l0 4 ((-1))) fun I3 =>
  sm_bd (am_up I3 l0 5 ((-1))) fun I4 =>
  sm_nq 22 7 P nx sl fun a5 P6 n7 s8 =>
  sm_bd (am_up P6 l0 9 a5) fun P11 =>
  sm_nq 23 14 P11 n7 s8 fun a12 P13 n14 s15 =>
  sm_bd (am_up P13 l0 10 a12) fun P18 =>
  sm_na 20 7 I4 n14 s15 fun a19 I20 n21 s22 =>
  sm_bd (am_up P18 l0 11 a19) fun P25 =>
  sm_na 20 14 I20 n21 s22 fun a26 I27 n28 s29 =>
  sm_bd (am_up P25 l0 12 a26) fun P32 =>
  sm_na 20 20 I27 n28 s29 fun a33 I34 n35 s36 =>
  sm_bd (am_up P32 l0 13 a33) fun P39 =>
  sm_na 20 20 I34 n35 s36 fun a40 I41 n42 s43 =>
  sm_bd (am_up P39 l0 14 a40) fun P46 =>
  sm_na 20 20 I41 n42 s43 fun a47 I48 n49 s50 =>
  sm_bd (am_up P46 l0 15 a47) fun P53 =>
  fW_init_L80 (fun l0 I P nx sl =>
      fW_init_L108 (fun I P nx sl =>
          some (I, P, nx, sl)) sm_fu l0 0 I P nx sl) sm_fu l0 l1 0 I48 P53 n49 s50
set_option maxRecDepth 100000 in
theorem AfW_init {dp : Nat}  {I : am_M} {P : am_Q} {nx : Nat} {sl : Nat} {l0 : Nat} {l1 : Nat} {y : am_S} (hy : fW_init l0 l1 I P nx sl = some y) : sm_T (dp + 2) 4 [.inr l0, .inr l1] (I, P, nx, sl) (sm_g4 y) := by
  refine r_meth (d := am_d4) (dp := dp + 1) (ls0 := [some (.inr l0), some (.inr l1), none]) rfl (by decide) rfl rfl ?_ hy
  unfold fW_init
  refine r_ck (fun h1 => ?_)
  refine r_aload rfl rfl (am_nz h1) ?_
  refine r_oinit rfl (am_nz h1) (Nat.le_of_ble_eq_true rfl) ?_
  refine r_aload rfl rfl (am_nz h1) ?_
  refine r_const (x := 10) rfl rfl ?_
  refine r_putI rfl h1 (fun hz => absurd hz (by decide)) (fun I2 => ?_)
  refine r_aload rfl rfl (am_nz h1) ?_
  refine r_const (x := (-1)) rfl rfl ?_
  refine r_putI rfl h1 (fun hz => absurd hz (by decide)) (fun I3 => ?_)
  refine r_aload rfl rfl (am_nz h1) ?_
  refine r_const (x := (-1)) rfl rfl ?_
  refine r_putI rfl h1 (fun hz => absurd hz (by decide)) (fun I4 => ?_)
  refine r_aload rfl rfl (am_nz h1) ?_
  refine r_const (x := 7) rfl rfl ?_
  refine r_newq rfl (by decide) (by decide) (by decide) (fun a5 P6 n7 s8 h9 h10 => ?_)
  refine r_putP rfl h1 (fun P11 => ?_)
  refine r_aload rfl rfl (am_nz h1) ?_
  refine r_const (x := 14) rfl rfl ?_
  refine r_newq rfl (by decide) (by decide) (by decide) (fun a12 P13 n14 s15 h16 h17 => ?_)
  refine r_putP rfl h1 (fun P18 => ?_)
  refine r_aload rfl rfl (am_nz h1) ?_
  refine r_const (x := 7) rfl rfl ?_
  refine r_newa rfl (by decide) (by decide) (by decide) (fun a19 I20 n21 s22 h23 h24 => ?_)
  refine r_putP rfl h1 (fun P25 => ?_)
  refine r_aload rfl rfl (am_nz h1) ?_
  refine r_const (x := 14) rfl rfl ?_
  refine r_newa rfl (by decide) (by decide) (by decide) (fun a26 I27 n28 s29 h30 h31 => ?_)
  refine r_putP rfl h1 (fun P32 => ?_)
  refine r_aload rfl rfl (am_nz h1) ?_
  refine r_const (x := 20) rfl rfl ?_
  refine r_newa rfl (by decide) (by decide) (by decide) (fun a33 I34 n35 s36 h37 h38 => ?_)
  refine r_putP rfl h1 (fun P39 => ?_)
  refine r_aload rfl rfl (am_nz h1) ?_
  refine r_const (x := 20) rfl rfl ?_
  refine r_newa rfl (by decide) (by decide) (by decide) (fun a40 I41 n42 s43 h44 h45 => ?_)
  refine r_putP rfl h1 (fun P46 => ?_)
  refine r_aload rfl rfl (am_nz h1) ?_
  refine r_const (x := 20) rfl rfl ?_
  refine r_newa rfl (by decide) (by decide) (by decide) (fun a47 I48 n49 s50 h51 h52 => ?_)
  refine r_putP rfl h1 (fun P53 => ?_)
  refine r_const (x := 0) rfl rfl ?_
  refine r_istore (ls' := [some (.inr l0), some (.inr l1), some (.inl 0)]) rfl (Nat.le_of_ble_eq_true rfl) rfl ?_
  refine AfW_init_L80 ?_ sm_fu l0 l1 0 I48 P53 n49 s50
  · intro l0 I P nx sl o1 o2
    refine r_const (x := 0) rfl rfl ?_
    refine r_istore (ls' := [some (.inr l0), o1, some (.inl 0)]) rfl (Nat.le_of_ble_eq_true rfl) rfl ?_
    refine AfW_init_L108 ?_ sm_fu l0 0 I P nx sl o1
    · intro I P nx sl o0 o1 o2
      exact r_return rfl rfl
noncomputable def fY_init_B15 (e15_41 : am_M → am_Q → Nat → Nat → Option (am_S)) (r15 : Nat → Nat → Int32 → am_M → am_Q → Nat → Nat → Option (am_S)) (l0 : Nat) (l1 : Nat) (l2 : Int32) (I : am_M) (P : am_Q) (nx : Nat) (sl : Nat) : Option (am_S) :=
  if 6 ≤ l2 then
    (e15_41 I P nx sl)
  else
    (sm_ck (am_t l0 = 2) <|
    sm_nw 11 I P nx sl fun a11 I12 P13 n14 s15 =>
    sm_ck (am_t l1 = 4) <|
    Option.bind (fW_init a11 l1 I12 P13 n14 s15) fun y19 =>
    sm_ck (sm_ia (P l0 0) l2) <|
    sm_ck (am_t a11 = am_el (am_t (P l0 0))) <|
    sm_bd (am_up y19.2.1 (P l0 0) l2.toNatClampNeg a11) fun P22 =>
    sm_bd (l2 + 1) fun x23 =>
    r15 l0 l1 x23 y19.1 P22 y19.2.2.1 y19.2.2.2)
set_option maxRecDepth 100000 in
theorem AfY_init_B15 {dp : Nat}  {e15_41 : am_M → am_Q → Nat → Nat → Option (am_S)} {r15 : Nat → Nat → Int32 → am_M → am_Q → Nat → Nat → Option (am_S)} (he15_41 : ∀ (I : am_M) (P : am_Q) (nx : Nat) (sl : Nat) (o0 : Option am_V) (o1 : Option am_V) (o2 : Option am_V), sm (dp + 2) am_d7 41 [o0, o1, o2] [] (I, P, nx, sl) sm_g4 (e15_41 I P nx sl)) (hr15 : ∀ (l0 : Nat) (l1 : Nat) (l2 : Int32) (I : am_M) (P : am_Q) (nx : Nat) (sl : Nat), sm (dp + 2) am_d7 15 [some (.inr l0), some (.inr l1), some (.inl l2)] [] (I, P, nx, sl) sm_g4 (r15 l0 l1 l2 I P nx sl)) (l0 : Nat) (l1 : Nat) (l2 : Int32) (I : am_M) (P : am_Q) (nx : Nat) (sl : Nat) : sm (dp + 2) am_d7 15 [some (.inr l0), some (.inr l1), some (.inl l2)] [] (I, P, nx, sl) sm_g4 (fY_init_B15 e15_41 r15 l0 l1 l2 I P nx sl) := by
  unfold fY_init_B15
  refine r_iload rfl rfl ?_
  refine r_const (x := 6) rfl rfl ?_
  refine r_icmp rfl rfl (fun c9 => ?_) (fun c9 => ?_)
  · exact he15_41 I P nx sl (some (.inr l0)) (some (.inr l1)) (some (.inl l2))
  · refine r_ck (fun h10 => ?_)
    refine r_aload rfl rfl (am_nz h10) ?_
    refine r_getP rfl h10 ?_
    refine r_iload rfl rfl ?_
    refine r_new rfl (by decide) (by decide) (fun a11 I12 P13 n14 s15 h16 h17 => ?_)
    refine r_dup rfl ?_
    refine r_ck (fun h18 => ?_)
    refine r_aload rfl rfl (am_nz h18) ?_
    refine r_call4 rfl rfl (am_nz h16) (fun y hy => AfW_init (dp := dp + 0) hy) (fun y19 => ?_)
    refine r_ck (fun h20 => ?_)
    refine r_ck (fun h21 => ?_)
    refine r_aast rfl h20 h21 (fun P22 => ?_)
    refine r_iinc (e := l2 + 1) (ls' := fun x23 => [some (.inr l0), some (.inr l1), some (.inl x23)]) rfl rfl rfl (fun _ => rfl) (fun x23 => ?_)
    refine r_goto rfl ?_
    exact hr15 l0 l1 x23 y19.1 P22 y19.2.2.1 y19.2.2.2
noncomputable def fY_init_L15 (e15_41 : am_M → am_Q → Nat → Nat → Option (am_S)) : Nat → Nat → Nat → Int32 → am_M → am_Q → Nat → Nat → Option (am_S)
  | 0, _, _, _, _, _, _, _ => none
  | n + 1, l0, l1, l2, I, P, nx, sl => fY_init_B15 e15_41 (fY_init_L15 e15_41 n) l0 l1 l2 I P nx sl
theorem AfY_init_L15 {dp : Nat}  {e15_41 : am_M → am_Q → Nat → Nat → Option (am_S)} (he15_41 : ∀ (I : am_M) (P : am_Q) (nx : Nat) (sl : Nat) (o0 : Option am_V) (o1 : Option am_V) (o2 : Option am_V), sm (dp + 2) am_d7 41 [o0, o1, o2] [] (I, P, nx, sl) sm_g4 (e15_41 I P nx sl)) (n : Nat) : ∀ (l0 : Nat) (l1 : Nat) (l2 : Int32) (I : am_M) (P : am_Q) (nx : Nat) (sl : Nat), sm (dp + 2) am_d7 15 [some (.inr l0), some (.inr l1), some (.inl l2)] [] (I, P, nx, sl) sm_g4 (fY_init_L15 e15_41 n l0 l1 l2 I P nx sl) := by
  induction n with
  | zero => intro l0 l1 l2 I P nx sl; exact sm_none
  | succ n ih => intro l0 l1 l2 I P nx sl; exact AfY_init_B15 he15_41 ih l0 l1 l2 I P nx sl
noncomputable def fY_init (l0 : Nat) (l1 : Nat) (I : am_M) (P : am_Q) (nx : Nat) (sl : Nat) : Option (am_S) :=
  sm_ck (am_t l0 = 2) <|
  sm_nq 24 6 P nx sl fun a2 P3 n4 s5 =>
  sm_bd (am_up P3 l0 0 a2) fun P8 =>
  fY_init_L15 (fun I P nx sl =>
      some (I, P, nx, sl)) sm_fu l0 l1 0 I P8 n4 s5
set_option maxRecDepth 100000 in
theorem AfY_init {dp : Nat}  {I : am_M} {P : am_Q} {nx : Nat} {sl : Nat} {l0 : Nat} {l1 : Nat} {y : am_S} (hy : fY_init l0 l1 I P nx sl = some y) : sm_T (dp + 3) 7 [.inr l0, .inr l1] (I, P, nx, sl) (sm_g4 y) := by
  refine r_meth (d := am_d7) (dp := dp + 2) (ls0 := [some (.inr l0), some (.inr l1), none]) rfl (by decide) rfl rfl ?_ hy
  unfold fY_init
  refine r_ck (fun h1 => ?_)
  refine r_aload rfl rfl (am_nz h1) ?_
  refine r_oinit rfl (am_nz h1) (Nat.le_of_ble_eq_true rfl) ?_
  refine r_aload rfl rfl (am_nz h1) ?_
  refine r_const (x := 6) rfl rfl ?_
  refine r_newq rfl (by decide) (by decide) (by decide) (fun a2 P3 n4 s5 h6 h7 => ?_)
  refine r_putP rfl h1 (fun P8 => ?_)
  refine r_const (x := 0) rfl rfl ?_
  refine r_istore (ls' := [some (.inr l0), some (.inr l1), some (.inl 0)]) rfl (Nat.le_of_ble_eq_true rfl) rfl ?_
  refine AfY_init_L15 ?_ sm_fu l0 l1 0 I P8 n4 s5
  · intro I P nx sl o0 o1 o2
    exact r_return rfl rfl
noncomputable def fT_init (l0 : Nat) (I : am_M) (P : am_Q) (nx : Nat) (sl : Nat) : Option (am_S) :=
  sm_ck (am_t l0 = 10) <|
  sm_na 20 80 I nx sl fun a2 I3 n4 s5 =>
  sm_bd (am_up P l0 0 a2) fun P8 =>
  sm_na 20 80 I3 n4 s5 fun a9 I10 n11 s12 =>
  sm_bd (am_up P8 l0 2 a9) fun P15 =>
  sm_na 20 80 I10 n11 s12 fun a16 I17 n18 s19 =>
  sm_bd (am_up P15 l0 4 a16) fun P22 =>
  sm_na 20 4 I17 n18 s19 fun a23 I24 n25 s26 =>
  sm_bd (am_up P22 l0 6 a23) fun P29 =>
  sm_na 20 4 I24 n25 s26 fun a30 I31 n32 s33 =>
  sm_bd (am_up P29 l0 7 a30) fun P36 =>
  some (I31, P36, n32, s33)
set_option maxRecDepth 100000 in
theorem AfT_init {dp : Nat}  {I : am_M} {P : am_Q} {nx : Nat} {sl : Nat} {l0 : Nat} {y : am_S} (hy : fT_init l0 I P nx sl = some y) : sm_T (dp + 1) 8 [.inr l0] (I, P, nx, sl) (sm_g4 y) := by
  refine r_meth (d := am_d8) (dp := dp + 0) (ls0 := [some (.inr l0)]) rfl (by decide) rfl rfl ?_ hy
  unfold fT_init
  refine r_ck (fun h1 => ?_)
  refine r_aload rfl rfl (am_nz h1) ?_
  refine r_oinit rfl (am_nz h1) (Nat.le_of_ble_eq_true rfl) ?_
  refine r_aload rfl rfl (am_nz h1) ?_
  refine r_const (x := 80) rfl rfl ?_
  refine r_newa rfl (by decide) (by decide) (by decide) (fun a2 I3 n4 s5 h6 h7 => ?_)
  refine r_putP rfl h1 (fun P8 => ?_)
  refine r_aload rfl rfl (am_nz h1) ?_
  refine r_const (x := 80) rfl rfl ?_
  refine r_newa rfl (by decide) (by decide) (by decide) (fun a9 I10 n11 s12 h13 h14 => ?_)
  refine r_putP rfl h1 (fun P15 => ?_)
  refine r_aload rfl rfl (am_nz h1) ?_
  refine r_const (x := 80) rfl rfl ?_
  refine r_newa rfl (by decide) (by decide) (by decide) (fun a16 I17 n18 s19 h20 h21 => ?_)
  refine r_putP rfl h1 (fun P22 => ?_)
  refine r_aload rfl rfl (am_nz h1) ?_
  refine r_const (x := 4) rfl rfl ?_
  refine r_newa rfl (by decide) (by decide) (by decide) (fun a23 I24 n25 s26 h27 h28 => ?_)
  refine r_putP rfl h1 (fun P29 => ?_)
  refine r_aload rfl rfl (am_nz h1) ?_
  refine r_const (x := 4) rfl rfl ?_
  refine r_newa rfl (by decide) (by decide) (by decide) (fun a30 I31 n32 s33 h34 h35 => ?_)
  refine r_putP rfl h1 (fun P36 => ?_)
  exact r_return rfl rfl
noncomputable def fK_init (l0 : Nat) (I : am_M) (P : am_Q) (nx : Nat) (sl : Nat) : Option (am_S) :=
  sm_ck (am_t l0 = 6) <|
  sm_na 20 16 I nx sl fun a2 I3 n4 s5 =>
  sm_bd (am_up P l0 0 a2) fun P8 =>
  some (I3, P8, n4, s5)
set_option maxRecDepth 100000 in
theorem AfK_init {dp : Nat}  {I : am_M} {P : am_Q} {nx : Nat} {sl : Nat} {l0 : Nat} {y : am_S} (hy : fK_init l0 I P nx sl = some y) : sm_T (dp + 1) 9 [.inr l0] (I, P, nx, sl) (sm_g4 y) := by
  refine r_meth (d := am_d9) (dp := dp + 0) (ls0 := [some (.inr l0)]) rfl (by decide) rfl rfl ?_ hy
  unfold fK_init
  refine r_ck (fun h1 => ?_)
  refine r_aload rfl rfl (am_nz h1) ?_
  refine r_oinit rfl (am_nz h1) (Nat.le_of_ble_eq_true rfl) ?_
  refine r_aload rfl rfl (am_nz h1) ?_
  refine r_const (x := 16) rfl rfl ?_
  refine r_newa rfl (by decide) (by decide) (by decide) (fun a2 I3 n4 s5 h6 h7 => ?_)
  refine r_putP rfl h1 (fun P8 => ?_)
  exact r_return rfl rfl
noncomputable def fH_init (l0 : Nat) (l1 : Nat) (I : am_M) (P : am_Q) (nx : Nat) (sl : Nat) : Option (am_S) :=
  sm_ck (am_t l0 = 3) <|
  sm_na 20 5 I nx sl fun a2 I3 n4 s5 =>
  sm_bd (am_up P l0 1 a2) fun P8 =>
  sm_na 20 5 I3 n4 s5 fun a9 I10 n11 s12 =>
  sm_bd (am_up P8 l0 2 a9) fun P15 =>
  sm_ck (am_t l1 = 6) <|
  sm_bd (am_up P15 l0 0 l1) fun P17 =>
  some (I10, P17, n11, s12)
set_option maxRecDepth 100000 in
theorem AfH_init {dp : Nat}  {I : am_M} {P : am_Q} {nx : Nat} {sl : Nat} {l0 : Nat} {l1 : Nat} {y : am_S} (hy : fH_init l0 l1 I P nx sl = some y) : sm_T (dp + 1) 10 [.inr l0, .inr l1] (I, P, nx, sl) (sm_g4 y) := by
  refine r_meth (d := am_d10) (dp := dp + 0) (ls0 := [some (.inr l0), some (.inr l1)]) rfl (by decide) rfl rfl ?_ hy
  unfold fH_init
  refine r_ck (fun h1 => ?_)
  refine r_aload rfl rfl (am_nz h1) ?_
  refine r_oinit rfl (am_nz h1) (Nat.le_of_ble_eq_true rfl) ?_
  refine r_aload rfl rfl (am_nz h1) ?_
  refine r_const (x := 5) rfl rfl ?_
  refine r_newa rfl (by decide) (by decide) (by decide) (fun a2 I3 n4 s5 h6 h7 => ?_)
  refine r_putP rfl h1 (fun P8 => ?_)
  refine r_aload rfl rfl (am_nz h1) ?_
  refine r_const (x := 5) rfl rfl ?_
  refine r_newa rfl (by decide) (by decide) (by decide) (fun a9 I10 n11 s12 h13 h14 => ?_)
  refine r_putP rfl h1 (fun P15 => ?_)
  refine r_aload rfl rfl (am_nz h1) ?_
  refine r_ck (fun h16 => ?_)
  refine r_aload rfl rfl (am_nz h16) ?_
  refine r_putP rfl h1 (fun P17 => ?_)
  exact r_return rfl rfl
noncomputable def fR_init (l0 : Nat) (l1 : Nat) (I : am_M) (P : am_Q) (nx : Nat) (sl : Nat) : Option (am_S) :=
  sm_ck (am_t l0 = 7) <|
  sm_na 20 14 I nx sl fun a2 I3 n4 s5 =>
  sm_bd (am_up P l0 1 a2) fun P8 =>
  sm_na 20 3 I3 n4 s5 fun a9 I10 n11 s12 =>
  sm_bd (am_up P8 l0 3 a9) fun P15 =>
  sm_ck (am_t l1 = 6) <|
  sm_bd (am_up P15 l0 0 l1) fun P17 =>
  some (I10, P17, n11, s12)
set_option maxRecDepth 100000 in
theorem AfR_init {dp : Nat}  {I : am_M} {P : am_Q} {nx : Nat} {sl : Nat} {l0 : Nat} {l1 : Nat} {y : am_S} (hy : fR_init l0 l1 I P nx sl = some y) : sm_T (dp + 1) 11 [.inr l0, .inr l1] (I, P, nx, sl) (sm_g4 y) := by
  refine r_meth (d := am_d11) (dp := dp + 0) (ls0 := [some (.inr l0), some (.inr l1)]) rfl (by decide) rfl rfl ?_ hy
  unfold fR_init
  refine r_ck (fun h1 => ?_)
  refine r_aload rfl rfl (am_nz h1) ?_
  refine r_oinit rfl (am_nz h1) (Nat.le_of_ble_eq_true rfl) ?_
  refine r_aload rfl rfl (am_nz h1) ?_
  refine r_const (x := 14) rfl rfl ?_
  refine r_newa rfl (by decide) (by decide) (by decide) (fun a2 I3 n4 s5 h6 h7 => ?_)
  refine r_putP rfl h1 (fun P8 => ?_)
  refine r_aload rfl rfl (am_nz h1) ?_
  refine r_const (x := 3) rfl rfl ?_
  refine r_newa rfl (by decide) (by decide) (by decide) (fun a9 I10 n11 s12 h13 h14 => ?_)
  refine r_putP rfl h1 (fun P15 => ?_)
  refine r_aload rfl rfl (am_nz h1) ?_
  refine r_ck (fun h16 => ?_)
  refine r_aload rfl rfl (am_nz h16) ?_
  refine r_putP rfl h1 (fun P17 => ?_)
  exact r_return rfl rfl
noncomputable def fC_init (l0 : Nat) (I : am_M) (P : am_Q) (nx : Nat) (sl : Nat) : Option (am_S) :=
  sm_ck (am_t l0 = 5) <|
  sm_na 20 7 I nx sl fun a2 I3 n4 s5 =>
  sm_bd (am_up P l0 0 a2) fun P8 =>
  sm_na 20 7 I3 n4 s5 fun a9 I10 n11 s12 =>
  sm_bd (am_up P8 l0 1 a9) fun P15 =>
  sm_na 20 3 I10 n11 s12 fun a16 I17 n18 s19 =>
  sm_bd (am_up P15 l0 2 a16) fun P22 =>
  sm_na 20 7 I17 n18 s19 fun a23 I24 n25 s26 =>
  sm_bd (am_up P22 l0 3 a23) fun P29 =>
  sm_na 20 7 I24 n25 s26 fun a30 I31 n32 s33 =>
  sm_bd (am_up P29 l0 4 a30) fun P36 =>
  some (I31, P36, n32, s33)
set_option maxRecDepth 100000 in
theorem AfC_init {dp : Nat}  {I : am_M} {P : am_Q} {nx : Nat} {sl : Nat} {l0 : Nat} {y : am_S} (hy : fC_init l0 I P nx sl = some y) : sm_T (dp + 1) 12 [.inr l0] (I, P, nx, sl) (sm_g4 y) := by
  refine r_meth (d := am_d12) (dp := dp + 0) (ls0 := [some (.inr l0)]) rfl (by decide) rfl rfl ?_ hy
  unfold fC_init
  refine r_ck (fun h1 => ?_)
  refine r_aload rfl rfl (am_nz h1) ?_
  refine r_oinit rfl (am_nz h1) (Nat.le_of_ble_eq_true rfl) ?_
  refine r_aload rfl rfl (am_nz h1) ?_
  refine r_const (x := 7) rfl rfl ?_
  refine r_newa rfl (by decide) (by decide) (by decide) (fun a2 I3 n4 s5 h6 h7 => ?_)
  refine r_putP rfl h1 (fun P8 => ?_)
  refine r_aload rfl rfl (am_nz h1) ?_
  refine r_const (x := 7) rfl rfl ?_
  refine r_newa rfl (by decide) (by decide) (by decide) (fun a9 I10 n11 s12 h13 h14 => ?_)
  refine r_putP rfl h1 (fun P15 => ?_)
  refine r_aload rfl rfl (am_nz h1) ?_
  refine r_const (x := 3) rfl rfl ?_
  refine r_newa rfl (by decide) (by decide) (by decide) (fun a16 I17 n18 s19 h20 h21 => ?_)
  refine r_putP rfl h1 (fun P22 => ?_)
  refine r_aload rfl rfl (am_nz h1) ?_
  refine r_const (x := 7) rfl rfl ?_
  refine r_newa rfl (by decide) (by decide) (by decide) (fun a23 I24 n25 s26 h27 h28 => ?_)
  refine r_putP rfl h1 (fun P29 => ?_)
  refine r_aload rfl rfl (am_nz h1) ?_
  refine r_const (x := 7) rfl rfl ?_
  refine r_newa rfl (by decide) (by decide) (by decide) (fun a30 I31 n32 s33 h34 h35 => ?_)
  refine r_putP rfl h1 (fun P36 => ?_)
  exact r_return rfl rfl
noncomputable def fE_init (l0 : Nat) (I : am_M) (P : am_Q) (nx : Nat) (sl : Nat) : Option (am_S) :=
  sm_ck (am_t l0 = 9) <|
  sm_na 20 24 I nx sl fun a2 I3 n4 s5 =>
  sm_bd (am_up P l0 0 a2) fun P8 =>
  some (I3, P8, n4, s5)
set_option maxRecDepth 100000 in
theorem AfE_init {dp : Nat}  {I : am_M} {P : am_Q} {nx : Nat} {sl : Nat} {l0 : Nat} {y : am_S} (hy : fE_init l0 I P nx sl = some y) : sm_T (dp + 1) 13 [.inr l0] (I, P, nx, sl) (sm_g4 y) := by
  refine r_meth (d := am_d13) (dp := dp + 0) (ls0 := [some (.inr l0)]) rfl (by decide) rfl rfl ?_ hy
  unfold fE_init
  refine r_ck (fun h1 => ?_)
  refine r_aload rfl rfl (am_nz h1) ?_
  refine r_oinit rfl (am_nz h1) (Nat.le_of_ble_eq_true rfl) ?_
  refine r_aload rfl rfl (am_nz h1) ?_
  refine r_const (x := 24) rfl rfl ?_
  refine r_newa rfl (by decide) (by decide) (by decide) (fun a2 I3 n4 s5 h6 h7 => ?_)
  refine r_putP rfl h1 (fun P8 => ?_)
  exact r_return rfl rfl
noncomputable def fX_init_B178 (e178_202 : Nat → am_M → am_Q → Nat → Nat → Option (am_S)) (r178 : Nat → Int32 → am_M → am_Q → Nat → Nat → Option (am_S)) (l0 : Nat) (l1 : Int32) (I : am_M) (P : am_Q) (nx : Nat) (sl : Nat) : Option (am_S) :=
  if 4 ≤ l1 then
    (e178_202 l0 I P nx sl)
  else
    (sm_ck (am_t l0 = 12) <|
    sm_nw 9 I P nx sl fun a119 I120 P121 n122 s123 =>
    Option.bind (fE_init a119 I120 P121 n122 s123) fun y126 =>
    sm_ck (sm_ia (P l0 13) l1) <|
    sm_ck (am_t a119 = am_el (am_t (P l0 13))) <|
    sm_bd (am_up y126.2.1 (P l0 13) l1.toNatClampNeg a119) fun P129 =>
    sm_bd (l1 + 1) fun x130 =>
    r178 l0 x130 y126.1 P129 y126.2.2.1 y126.2.2.2)
set_option maxRecDepth 100000 in
theorem AfX_init_B178 {dp : Nat}  {e178_202 : Nat → am_M → am_Q → Nat → Nat → Option (am_S)} {r178 : Nat → Int32 → am_M → am_Q → Nat → Nat → Option (am_S)} (he178_202 : ∀ (l0 : Nat) (I : am_M) (P : am_Q) (nx : Nat) (sl : Nat) (o1 : Option am_V), sm (dp + 3) am_d1 202 [some (.inr l0), o1] [] (I, P, nx, sl) sm_g4 (e178_202 l0 I P nx sl)) (hr178 : ∀ (l0 : Nat) (l1 : Int32) (I : am_M) (P : am_Q) (nx : Nat) (sl : Nat), sm (dp + 3) am_d1 178 [some (.inr l0), some (.inl l1)] [] (I, P, nx, sl) sm_g4 (r178 l0 l1 I P nx sl)) (l0 : Nat) (l1 : Int32) (I : am_M) (P : am_Q) (nx : Nat) (sl : Nat) : sm (dp + 3) am_d1 178 [some (.inr l0), some (.inl l1)] [] (I, P, nx, sl) sm_g4 (fX_init_B178 e178_202 r178 l0 l1 I P nx sl) := by
  unfold fX_init_B178
  refine r_iload rfl rfl ?_
  refine r_const (x := 4) rfl rfl ?_
  refine r_icmp rfl rfl (fun c117 => ?_) (fun c117 => ?_)
  · exact he178_202 l0 I P nx sl (some (.inl l1))
  · refine r_ck (fun h118 => ?_)
    refine r_aload rfl rfl (am_nz h118) ?_
    refine r_getP rfl h118 ?_
    refine r_iload rfl rfl ?_
    refine r_new rfl (by decide) (by decide) (fun a119 I120 P121 n122 s123 h124 h125 => ?_)
    refine r_dup rfl ?_
    refine r_call4 rfl rfl (am_nz h124) (fun y hy => AfE_init (dp := dp + 2) hy) (fun y126 => ?_)
    refine r_ck (fun h127 => ?_)
    refine r_ck (fun h128 => ?_)
    refine r_aast rfl h127 h128 (fun P129 => ?_)
    refine r_iinc (e := l1 + 1) (ls' := fun x130 => [some (.inr l0), some (.inl x130)]) rfl rfl rfl (fun _ => rfl) (fun x130 => ?_)
    refine r_goto rfl ?_
    exact hr178 l0 x130 y126.1 P129 y126.2.2.1 y126.2.2.2
noncomputable def fX_init_L178 (e178_202 : Nat → am_M → am_Q → Nat → Nat → Option (am_S)) : Nat → Nat → Int32 → am_M → am_Q → Nat → Nat → Option (am_S)
  | 0, _, _, _, _, _, _ => none
  | n + 1, l0, l1, I, P, nx, sl => fX_init_B178 e178_202 (fX_init_L178 e178_202 n) l0 l1 I P nx sl
theorem AfX_init_L178 {dp : Nat}  {e178_202 : Nat → am_M → am_Q → Nat → Nat → Option (am_S)} (he178_202 : ∀ (l0 : Nat) (I : am_M) (P : am_Q) (nx : Nat) (sl : Nat) (o1 : Option am_V), sm (dp + 3) am_d1 202 [some (.inr l0), o1] [] (I, P, nx, sl) sm_g4 (e178_202 l0 I P nx sl)) (n : Nat) : ∀ (l0 : Nat) (l1 : Int32) (I : am_M) (P : am_Q) (nx : Nat) (sl : Nat), sm (dp + 3) am_d1 178 [some (.inr l0), some (.inl l1)] [] (I, P, nx, sl) sm_g4 (fX_init_L178 e178_202 n l0 l1 I P nx sl) := by
  induction n with
  | zero => intro l0 l1 I P nx sl; exact sm_none
  | succ n ih => intro l0 l1 I P nx sl; exact AfX_init_B178 he178_202 ih l0 l1 I P nx sl
noncomputable def fX_init (l0 : Nat) (I : am_M) (P : am_Q) (nx : Nat) (sl : Nat) : Option (am_S) :=
  sm_ck (am_t l0 = 12) <|
  sm_nw 4 I P nx sl fun a2 I3 P4 n5 s6 =>
  Option.bind (fL_init a2 I3 P4 n5 s6) fun y9 =>
  sm_bd (am_up y9.2.1 l0 6 a2) fun P10 =>
  sm_nw 11 y9.1 P10 y9.2.2.1 y9.2.2.2 fun a11 I12 P13 n14 s15 =>
  Option.bind (fW_init a11 (P13 l0 6) I12 P13 n14 s15) fun y18 =>
  sm_bd (am_up y18.2.1 l0 0 a11) fun P19 =>
  sm_nw 11 y18.1 P19 y18.2.2.1 y18.2.2.2 fun a20 I21 P22 n23 s24 =>
  Option.bind (fW_init a20 (P22 l0 6) I21 P22 n23 s24) fun y27 =>
  sm_bd (am_up y27.2.1 l0 1 a20) fun P28 =>
  sm_nw 11 y27.1 P28 y27.2.2.1 y27.2.2.2 fun a29 I30 P31 n32 s33 =>
  Option.bind (fW_init a29 (P31 l0 6) I30 P31 n32 s33) fun y36 =>
  sm_bd (am_up y36.2.1 l0 2 a29) fun P37 =>
  sm_nw 11 y36.1 P37 y36.2.2.1 y36.2.2.2 fun a38 I39 P40 n41 s42 =>
  Option.bind (fW_init a38 (P40 l0 6) I39 P40 n41 s42) fun y45 =>
  sm_bd (am_up y45.2.1 l0 3 a38) fun P46 =>
  sm_nw 2 y45.1 P46 y45.2.2.1 y45.2.2.2 fun a47 I48 P49 n50 s51 =>
  Option.bind (fY_init a47 (P49 l0 6) I48 P49 n50 s51) fun y54 =>
  sm_bd (am_up y54.2.1 l0 5 a47) fun P55 =>
  sm_nw 10 y54.1 P55 y54.2.2.1 y54.2.2.2 fun a56 I57 P58 n59 s60 =>
  Option.bind (fT_init a56 I57 P58 n59 s60) fun y63 =>
  sm_bd (am_up y63.2.1 l0 7 a56) fun P64 =>
  sm_nw 1 y63.1 P64 y63.2.2.1 y63.2.2.2 fun a65 I66 P67 n68 s69 =>
  Option.bind (fB_init a65 (P67 l0 6) I66 P67 n68 s69) fun y72 =>
  sm_bd (am_up y72.2.1 l0 8 a65) fun P73 =>
  sm_nw 6 y72.1 P73 y72.2.2.1 y72.2.2.2 fun a74 I75 P76 n77 s78 =>
  Option.bind (fK_init a74 I75 P76 n77 s78) fun y81 =>
  sm_bd (am_up y81.2.1 l0 9 a74) fun P82 =>
  sm_nw 3 y81.1 P82 y81.2.2.1 y81.2.2.2 fun a83 I84 P85 n86 s87 =>
  Option.bind (fH_init a83 (P85 l0 9) I84 P85 n86 s87) fun y90 =>
  sm_bd (am_up y90.2.1 l0 10 a83) fun P91 =>
  sm_nw 7 y90.1 P91 y90.2.2.1 y90.2.2.2 fun a92 I93 P94 n95 s96 =>
  Option.bind (fR_init a92 (P94 l0 9) I93 P94 n95 s96) fun y99 =>
  sm_bd (am_up y99.2.1 l0 11 a92) fun P100 =>
  sm_nw 5 y99.1 P100 y99.2.2.1 y99.2.2.2 fun a101 I102 P103 n104 s105 =>
  Option.bind (fC_init a101 I102 P103 n104 s105) fun y108 =>
  sm_bd (am_up y108.2.1 l0 12 a101) fun P109 =>
  sm_nq 25 4 P109 y108.2.2.1 y108.2.2.2 fun a110 P111 n112 s113 =>
  sm_bd (am_up P111 l0 13 a110) fun P116 =>
  fX_init_L178 (fun l0 I P nx sl =>
      sm_ck (am_t l0 = 12) <|
      sm_na 20 7 I nx sl fun a132 I133 n134 s135 =>
      sm_bd (am_up P l0 14 a132) fun P138 =>
      some (I133, P138, n134, s135)) sm_fu l0 0 y108.1 P116 n112 s113
set_option maxRecDepth 100000 in
theorem AfX_init {dp : Nat}  {I : am_M} {P : am_Q} {nx : Nat} {sl : Nat} {l0 : Nat} {y : am_S} (hy : fX_init l0 I P nx sl = some y) : sm_T (dp + 4) 1 [.inr l0] (I, P, nx, sl) (sm_g4 y) := by
  refine r_meth (d := am_d1) (dp := dp + 3) (ls0 := [some (.inr l0), none]) rfl (by decide) rfl rfl ?_ hy
  unfold fX_init
  refine r_ck (fun h1 => ?_)
  refine r_aload rfl rfl (am_nz h1) ?_
  refine r_oinit rfl (am_nz h1) (Nat.le_of_ble_eq_true rfl) ?_
  refine r_aload rfl rfl (am_nz h1) ?_
  refine r_new rfl (by decide) (by decide) (fun a2 I3 P4 n5 s6 h7 h8 => ?_)
  refine r_dup rfl ?_
  refine r_call4 rfl rfl (am_nz h7) (fun y hy => AfL_init (dp := dp + 1) hy) (fun y9 => ?_)
  refine r_putP rfl h1 (fun P10 => ?_)
  refine r_aload rfl rfl (am_nz h1) ?_
  refine r_new rfl (by decide) (by decide) (fun a11 I12 P13 n14 s15 h16 h17 => ?_)
  refine r_dup rfl ?_
  refine r_aload rfl rfl (am_nz h1) ?_
  refine r_getP rfl h1 ?_
  refine r_call4 rfl rfl (am_nz h16) (fun y hy => AfW_init (dp := dp + 1) hy) (fun y18 => ?_)
  refine r_putP rfl h1 (fun P19 => ?_)
  refine r_aload rfl rfl (am_nz h1) ?_
  refine r_new rfl (by decide) (by decide) (fun a20 I21 P22 n23 s24 h25 h26 => ?_)
  refine r_dup rfl ?_
  refine r_aload rfl rfl (am_nz h1) ?_
  refine r_getP rfl h1 ?_
  refine r_call4 rfl rfl (am_nz h25) (fun y hy => AfW_init (dp := dp + 1) hy) (fun y27 => ?_)
  refine r_putP rfl h1 (fun P28 => ?_)
  refine r_aload rfl rfl (am_nz h1) ?_
  refine r_new rfl (by decide) (by decide) (fun a29 I30 P31 n32 s33 h34 h35 => ?_)
  refine r_dup rfl ?_
  refine r_aload rfl rfl (am_nz h1) ?_
  refine r_getP rfl h1 ?_
  refine r_call4 rfl rfl (am_nz h34) (fun y hy => AfW_init (dp := dp + 1) hy) (fun y36 => ?_)
  refine r_putP rfl h1 (fun P37 => ?_)
  refine r_aload rfl rfl (am_nz h1) ?_
  refine r_new rfl (by decide) (by decide) (fun a38 I39 P40 n41 s42 h43 h44 => ?_)
  refine r_dup rfl ?_
  refine r_aload rfl rfl (am_nz h1) ?_
  refine r_getP rfl h1 ?_
  refine r_call4 rfl rfl (am_nz h43) (fun y hy => AfW_init (dp := dp + 1) hy) (fun y45 => ?_)
  refine r_putP rfl h1 (fun P46 => ?_)
  refine r_aload rfl rfl (am_nz h1) ?_
  refine r_new rfl (by decide) (by decide) (fun a47 I48 P49 n50 s51 h52 h53 => ?_)
  refine r_dup rfl ?_
  refine r_aload rfl rfl (am_nz h1) ?_
  refine r_getP rfl h1 ?_
  refine r_call4 rfl rfl (am_nz h52) (fun y hy => AfY_init (dp := dp + 0) hy) (fun y54 => ?_)
  refine r_putP rfl h1 (fun P55 => ?_)
  refine r_aload rfl rfl (am_nz h1) ?_
  refine r_new rfl (by decide) (by decide) (fun a56 I57 P58 n59 s60 h61 h62 => ?_)
  refine r_dup rfl ?_
  refine r_call4 rfl rfl (am_nz h61) (fun y hy => AfT_init (dp := dp + 2) hy) (fun y63 => ?_)
  refine r_putP rfl h1 (fun P64 => ?_)
  refine r_aload rfl rfl (am_nz h1) ?_
  refine r_new rfl (by decide) (by decide) (fun a65 I66 P67 n68 s69 h70 h71 => ?_)
  refine r_dup rfl ?_
  refine r_aload rfl rfl (am_nz h1) ?_
  refine r_getP rfl h1 ?_
  refine r_call4 rfl rfl (am_nz h70) (fun y hy => AfB_init (dp := dp + 2) hy) (fun y72 => ?_)
  refine r_putP rfl h1 (fun P73 => ?_)
  refine r_aload rfl rfl (am_nz h1) ?_
  refine r_new rfl (by decide) (by decide) (fun a74 I75 P76 n77 s78 h79 h80 => ?_)
  refine r_dup rfl ?_
  refine r_call4 rfl rfl (am_nz h79) (fun y hy => AfK_init (dp := dp + 2) hy) (fun y81 => ?_)
  refine r_putP rfl h1 (fun P82 => ?_)
  refine r_aload rfl rfl (am_nz h1) ?_
  refine r_new rfl (by decide) (by decide) (fun a83 I84 P85 n86 s87 h88 h89 => ?_)
  refine r_dup rfl ?_
  refine r_aload rfl rfl (am_nz h1) ?_
  refine r_getP rfl h1 ?_
  refine r_call4 rfl rfl (am_nz h88) (fun y hy => AfH_init (dp := dp + 2) hy) (fun y90 => ?_)
  refine r_putP rfl h1 (fun P91 => ?_)
  refine r_aload rfl rfl (am_nz h1) ?_
  refine r_new rfl (by decide) (by decide) (fun a92 I93 P94 n95 s96 h97 h98 => ?_)
  refine r_dup rfl ?_
  refine r_aload rfl rfl (am_nz h1) ?_
  refine r_getP rfl h1 ?_
  refine r_call4 rfl rfl (am_nz h97) (fun y hy => AfR_init (dp := dp + 2) hy) (fun y99 => ?_)
  refine r_putP rfl h1 (fun P100 => ?_)
  refine r_aload rfl rfl (am_nz h1) ?_
  refine r_new rfl (by decide) (by decide) (fun a101 I102 P103 n104 s105 h106 h107 => ?_)
  refine r_dup rfl ?_
  refine r_call4 rfl rfl (am_nz h106) (fun y hy => AfC_init (dp := dp + 2) hy) (fun y108 => ?_)
  refine r_putP rfl h1 (fun P109 => ?_)
  refine r_aload rfl rfl (am_nz h1) ?_
  refine r_const (x := 4) rfl rfl ?_
  refine r_newq rfl (by decide) (by decide) (by decide) (fun a110 P111 n112 s113 h114 h115 => ?_)
  refine r_putP rfl h1 (fun P116 => ?_)
  refine r_const (x := 0) rfl rfl ?_
  refine r_istore (ls' := [some (.inr l0), some (.inl 0)]) rfl (Nat.le_of_ble_eq_true rfl) rfl ?_
  refine AfX_init_L178 ?_ sm_fu l0 0 y108.1 P116 n112 s113
  · intro l0 I P nx sl o1
    refine r_ck (fun h131 => ?_)
    refine r_aload rfl rfl (am_nz h131) ?_
    refine r_const (x := 7) rfl rfl ?_
    refine r_newa rfl (by decide) (by decide) (by decide) (fun a132 I133 n134 s135 h136 h137 => ?_)
    refine r_putP rfl h131 (fun P138 => ?_)
    exact r_return rfl rfl
noncomputable def fX_found (P : am_Q) (l0 : Nat) (l1 : Int32) (I : am_M) : Option (Int32 × am_M) :=
  sm_bd (((-1000001)) - l1) fun x1 =>
  if x1 < 0 then
    (some (l1, I))
  else
    (if 7 ≤ x1 then
      (some (l1, I))
    else
      (sm_ck (am_t l0 = 12) <|
      sm_ck (sm_in (P l0 14) x1) <|
      sm_ck (sm_iw (P l0 14) x1) <|
      sm_bd (am_up I (P l0 14) x1.toNatClampNeg ((I (P l0 14) x1.toNatClampNeg) + 1)) fun I7 =>
      some (l1, I7)))
set_option maxRecDepth 100000 in
theorem AfX_found {dp : Nat} {P : am_Q} {nx : Nat} {sl : Nat} {I : am_M} {l0 : Nat} {l1 : Int32} {y : Int32 × am_M} (hy : fX_found P l0 l1 I = some y) : sm_T (dp + 1) 15 [.inr l0, .inl l1] (I, P, nx, sl) ((sm_g1 P nx sl) y) := by
  refine r_meth (d := am_d15) (dp := dp + 0) (ls0 := [some (.inr l0), some (.inl l1), none]) rfl (by decide) rfl rfl ?_ hy
  unfold fX_found
  refine r_const (x := (-1000001)) rfl rfl ?_
  refine r_iload rfl rfl ?_
  refine r_bin (z := ((-1000001)) - l1) rfl rfl (by decide) ?_
  refine r_bd (fun x1 => ?_)
  refine r_istore (ls' := [some (.inr l0), some (.inl l1), some (.inl x1)]) rfl (Nat.le_of_ble_eq_true rfl) rfl ?_
  refine r_iload rfl rfl ?_
  refine r_if rfl rfl (fun c2 => ?_) (fun c2 => ?_)
  · refine r_iload rfl rfl ?_
    exact r_ireturn rfl (Or.inl rfl) rfl
  · refine r_iload rfl rfl ?_
    refine r_const (x := 7) rfl rfl ?_
    refine r_icmp rfl rfl (fun c3 => ?_) (fun c3 => ?_)
    · refine r_iload rfl rfl ?_
      exact r_ireturn rfl (Or.inl rfl) rfl
    · refine r_ck (fun h4 => ?_)
      refine r_aload rfl rfl (am_nz h4) ?_
      refine r_getP rfl h4 ?_
      refine r_iload rfl rfl ?_
      refine r_dup2 rfl ?_
      refine r_ck (fun h5 => ?_)
      refine r_iald rfl h5 ?_
      refine r_const (x := 1) rfl rfl ?_
      refine r_bin (z := (I (P l0 14) x1.toNatClampNeg) + 1) rfl rfl (by decide) ?_
      refine r_ck (fun h6 => ?_)
      refine r_iast rfl h6 (fun I7 => ?_)
      refine r_iload rfl rfl ?_
      exact r_ireturn rfl (Or.inl rfl) rfl
noncomputable def fX_whole (P : am_Q) (l0 : Nat) (l1 : Int32) (I : am_M) : Option (Int32 × am_M) :=
  if l1 < 2 then
    (sm_ck (am_t l0 = 12) <|
    Option.bind (fX_found P l0 ((-1000001)) I) fun y3 =>
    some (y3.1, y3.2))
  else
    (if l1 ≤ 16 then
      (sm_ck (am_t l0 = 12) <|
      sm_ck (am_t (P l0 0) = 11) <|
      if (I (P l0 0) 6) ≤ 0 then
        (sm_bd (I (P l0 0) 0) fun x8 =>
        sm_bd (am_up I (P l0 0) 0 l1) fun I9 =>
        some (x8, I9))
      else
        (Option.bind (fX_found P l0 ((-1000005)) I) fun y10 =>
        some (y10.1, y10.2)))
    else
      (sm_ck (am_t l0 = 12) <|
      Option.bind (fX_found P l0 ((-1000001)) I) fun y12 =>
      some (y12.1, y12.2)))
set_option maxRecDepth 100000 in
theorem AfX_whole {dp : Nat} {P : am_Q} {nx : Nat} {sl : Nat} {I : am_M} {l0 : Nat} {l1 : Int32} {y : Int32 × am_M} (hy : fX_whole P l0 l1 I = some y) : sm_T (dp + 2) 14 [.inr l0, .inl l1] (I, P, nx, sl) ((sm_g1 P nx sl) y) := by
  refine r_meth (d := am_d14) (dp := dp + 1) (ls0 := [some (.inr l0), some (.inl l1), none]) rfl (by decide) rfl rfl ?_ hy
  unfold fX_whole
  refine r_iload rfl rfl ?_
  refine r_const (x := 2) rfl rfl ?_
  refine r_icmp rfl rfl (fun c1 => ?_) (fun c1 => ?_)
  · refine r_ck (fun h2 => ?_)
    refine r_aload rfl rfl (am_nz h2) ?_
    refine r_const (x := (-1000001)) rfl rfl ?_
    refine r_call1 rfl rfl h2 (fun y hy => AfX_found (dp := dp + 0) hy) (fun y3 => ?_)
    exact r_ireturn rfl (Or.inl rfl) rfl
  · refine r_iload rfl rfl ?_
    refine r_const (x := 16) rfl rfl ?_
    refine r_icmp rfl rfl (fun c4 => ?_) (fun c4 => ?_)
    · refine r_ck (fun h5 => ?_)
      refine r_aload rfl rfl (am_nz h5) ?_
      refine r_getP rfl h5 ?_
      refine r_ck (fun h6 => ?_)
      refine r_getI rfl h6 ?_
      refine r_if rfl rfl (fun c7 => ?_) (fun c7 => ?_)
      · refine r_aload rfl rfl (am_nz h5) ?_
        refine r_getP rfl h5 ?_
        refine r_getI rfl h6 ?_
        refine r_bd (fun x8 => ?_)
        refine r_istore (ls' := [some (.inr l0), some (.inl l1), some (.inl x8)]) rfl (Nat.le_of_ble_eq_true rfl) rfl ?_
        refine r_aload rfl rfl (am_nz h5) ?_
        refine r_getP rfl h5 ?_
        refine r_iload rfl rfl ?_
        refine r_putI rfl h6 (fun hz => absurd hz (by decide)) (fun I9 => ?_)
        refine r_iload rfl rfl ?_
        exact r_ireturn rfl (Or.inl rfl) rfl
      · refine r_aload rfl rfl (am_nz h5) ?_
        refine r_const (x := (-1000005)) rfl rfl ?_
        refine r_call1 rfl rfl h5 (fun y hy => AfX_found (dp := dp + 0) hy) (fun y10 => ?_)
        exact r_ireturn rfl (Or.inl rfl) rfl
    · refine r_ck (fun h11 => ?_)
      refine r_aload rfl rfl (am_nz h11) ?_
      refine r_const (x := (-1000001)) rfl rfl ?_
      refine r_call1 rfl rfl h11 (fun y hy => AfX_found (dp := dp + 0) hy) (fun y12 => ?_)
      exact r_ireturn rfl (Or.inl rfl) rfl
noncomputable def fX_isKind (l0 : Int32) : Option (Int32) :=
  if l0 < 0 then
    (some 0)
  else
    (if 6 ≤ l0 then
      (some 0)
    else
      (some 1))
set_option maxRecDepth 100000 in
theorem AfX_isKind {dp : Nat} {S : am_S} {l0 : Int32} {y : Int32} (hy : fX_isKind l0 = some y) : sm_T (dp + 1) 17 [.inl l0] S ((sm_g0 S) y) := by
  refine r_meth (d := am_d17) (dp := dp + 0) (ls0 := [some (.inl l0)]) rfl (by decide) rfl rfl ?_ hy
  unfold fX_isKind
  refine r_iload rfl rfl ?_
  refine r_if rfl rfl (fun c1 => ?_) (fun c1 => ?_)
  · refine r_const (x := 0) rfl rfl ?_
    exact r_ireturn rfl (Or.inr ⟨rfl, sm_010⟩) rfl
  · refine r_iload rfl rfl ?_
    refine r_const (x := 6) rfl rfl ?_
    refine r_icmp rfl rfl (fun c2 => ?_) (fun c2 => ?_)
    · refine r_const (x := 0) rfl rfl ?_
      exact r_ireturn rfl (Or.inr ⟨rfl, sm_010⟩) rfl
    · refine r_const (x := 1) rfl rfl ?_
      refine r_goto rfl ?_
      exact r_ireturn rfl (Or.inr ⟨rfl, sm_011⟩) rfl
noncomputable def fW_isNumber (I : am_M) (P : am_Q) (l0 : Nat) (l1 : Int32) : Option (Int32) :=
  if l1 < 0 then
    (some 0)
  else
    (sm_ck (am_t l0 = 11) <|
    if (I l0 0) ≤ l1 then
      (some 0)
    else
      (some 1))
set_option maxRecDepth 100000 in
theorem AfW_isNumber {dp : Nat} {I : am_M} {P : am_Q} {nx : Nat} {sl : Nat} {l0 : Nat} {l1 : Int32} {y : Int32} (hy : fW_isNumber I P l0 l1 = some y) : sm_T (dp + 1) 19 [.inr l0, .inl l1] (I, P, nx, sl) ((sm_g0 (I, P, nx, sl)) y) := by
  refine r_meth (d := am_d19) (dp := dp + 0) (ls0 := [some (.inr l0), some (.inl l1)]) rfl (by decide) rfl rfl ?_ hy
  unfold fW_isNumber
  refine r_iload rfl rfl ?_
  refine r_if rfl rfl (fun c1 => ?_) (fun c1 => ?_)
  · refine r_const (x := 0) rfl rfl ?_
    exact r_ireturn rfl (Or.inr ⟨rfl, sm_010⟩) rfl
  · refine r_iload rfl rfl ?_
    refine r_ck (fun h2 => ?_)
    refine r_aload rfl rfl (am_nz h2) ?_
    refine r_getI rfl h2 ?_
    refine r_icmp rfl rfl (fun c3 => ?_) (fun c3 => ?_)
    · refine r_const (x := 0) rfl rfl ?_
      exact r_ireturn rfl (Or.inr ⟨rfl, sm_010⟩) rfl
    · refine r_const (x := 1) rfl rfl ?_
      refine r_goto rfl ?_
      exact r_ireturn rfl (Or.inr ⟨rfl, sm_011⟩) rfl
noncomputable def fW_isPair (I : am_M) (P : am_Q) (l0 : Nat) (l1 : Int32) : Option (Int32) :=
  if l1 < 0 then
    (some 0)
  else
    (sm_ck (am_t l0 = 11) <|
    Option.bind (fW_isNumber I P l0 (l1 / 100)) fun y3 =>
    if y3 = 0 then
      (some 0)
    else
      (Option.bind (fW_isNumber I P l0 (sm_rem l1 100)) fun y5 =>
      if y5 = 0 then
        (some 0)
      else
        (some 1)))
set_option maxRecDepth 100000 in
theorem AfW_isPair {dp : Nat} {I : am_M} {P : am_Q} {nx : Nat} {sl : Nat} {l0 : Nat} {l1 : Int32} {y : Int32} (hy : fW_isPair I P l0 l1 = some y) : sm_T (dp + 2) 18 [.inr l0, .inl l1] (I, P, nx, sl) ((sm_g0 (I, P, nx, sl)) y) := by
  refine r_meth (d := am_d18) (dp := dp + 1) (ls0 := [some (.inr l0), some (.inl l1)]) rfl (by decide) rfl rfl ?_ hy
  unfold fW_isPair
  refine r_iload rfl rfl ?_
  refine r_if rfl rfl (fun c1 => ?_) (fun c1 => ?_)
  · refine r_const (x := 0) rfl rfl ?_
    exact r_ireturn rfl (Or.inr ⟨rfl, sm_010⟩) rfl
  · refine r_ck (fun h2 => ?_)
    refine r_aload rfl rfl (am_nz h2) ?_
    refine r_iload rfl rfl ?_
    refine r_const (x := 100) rfl rfl ?_
    refine r_bin (z := l1 / 100) rfl (sm_dv (by decide)) (by decide) ?_
    refine r_call0 rfl rfl h2 (fun y hy => AfW_isNumber (dp := dp + 0) hy) (fun y3 => ?_)
    refine r_if rfl rfl (fun c4 => ?_) (fun c4 => ?_)
    · refine r_const (x := 0) rfl rfl ?_
      exact r_ireturn rfl (Or.inr ⟨rfl, sm_010⟩) rfl
    · refine r_aload rfl rfl (am_nz h2) ?_
      refine r_iload rfl rfl ?_
      refine r_const (x := 100) rfl rfl ?_
      refine r_bin (z := sm_rem l1 100) rfl (sm_rv (by decide)) (by decide) ?_
      refine r_call0 rfl rfl h2 (fun y hy => AfW_isNumber (dp := dp + 0) hy) (fun y5 => ?_)
      refine r_if rfl rfl (fun c6 => ?_) (fun c6 => ?_)
      · refine r_const (x := 0) rfl rfl ?_
        exact r_ireturn rfl (Or.inr ⟨rfl, sm_010⟩) rfl
      · refine r_const (x := 1) rfl rfl ?_
        refine r_goto rfl ?_
        exact r_ireturn rfl (Or.inr ⟨rfl, sm_011⟩) rfl
noncomputable def fB_tellStates (P : am_Q) (l0 : Nat) (l1 : Int32) (I : am_M) : Option (am_M) :=
  sm_ck (am_t l0 = 1) <|
  sm_bd (am_up I l0 1 (l1 / 100)) fun I2 =>
  sm_bd (am_up I2 l0 2 (sm_rem l1 100)) fun I3 =>
  some I3
set_option maxRecDepth 100000 in
theorem AfB_tellStates {dp : Nat} {P : am_Q} {nx : Nat} {sl : Nat} {I : am_M} {l0 : Nat} {l1 : Int32} {y : am_M} (hy : fB_tellStates P l0 l1 I = some y) : sm_T (dp + 1) 22 [.inr l0, .inl l1] (I, P, nx, sl) ((sm_g2 P nx sl) y) := by
  refine r_meth (d := am_d22) (dp := dp + 0) (ls0 := [some (.inr l0), some (.inl l1)]) rfl (by decide) rfl rfl ?_ hy
  unfold fB_tellStates
  refine r_ck (fun h1 => ?_)
  refine r_aload rfl rfl (am_nz h1) ?_
  refine r_iload rfl rfl ?_
  refine r_const (x := 100) rfl rfl ?_
  refine r_bin (z := l1 / 100) rfl (sm_dv (by decide)) (by decide) ?_
  refine r_putI rfl h1 (fun hz => absurd hz (by decide)) (fun I2 => ?_)
  refine r_aload rfl rfl (am_nz h1) ?_
  refine r_iload rfl rfl ?_
  refine r_const (x := 100) rfl rfl ?_
  refine r_bin (z := sm_rem l1 100) rfl (sm_rv (by decide)) (by decide) ?_
  refine r_putI rfl h1 (fun hz => absurd hz (by decide)) (fun I3 => ?_)
  exact r_return rfl rfl
noncomputable def fB_begin (l0 : Nat) (l1 : Int32) (l2 : Int32) (l3 : Int32) (l4 : Nat) (I : am_M) (P : am_Q) (nx : Nat) (sl : Nat) : Option (am_S) :=
  sm_ck (am_t l0 = 1) <|
  sm_bd (am_up I l0 0 l1) fun I2 =>
  sm_bd (am_up I2 l0 5 l3) fun I3 =>
  Option.bind (fB_tellStates P l0 l2 I3) fun y4 =>
  sm_bd (am_up y4 l0 3 0) fun I5 =>
  sm_bd (am_up I5 l0 4 0) fun I6 =>
  sm_bd (am_up I6 l0 6 1) fun I7 =>
  sm_bd (am_up I7 l0 7 0) fun I8 =>
  sm_bd (am_up I8 l0 8 0) fun I9 =>
  sm_bd (am_up I9 l0 9 0) fun I10 =>
  sm_ck (am_t l4 = 4) <|
  sm_bd (am_up P l0 10 l4) fun P12 =>
  some (I10, P12, nx, sl)
set_option maxRecDepth 100000 in
theorem AfB_begin {dp : Nat}  {I : am_M} {P : am_Q} {nx : Nat} {sl : Nat} {l0 : Nat} {l1 : Int32} {l2 : Int32} {l3 : Int32} {l4 : Nat} {y : am_S} (hy : fB_begin l0 l1 l2 l3 l4 I P nx sl = some y) : sm_T (dp + 2) 21 [.inr l0, .inl l1, .inl l2, .inl l3, .inr l4] (I, P, nx, sl) (sm_g4 y) := by
  refine r_meth (d := am_d21) (dp := dp + 1) (ls0 := [some (.inr l0), some (.inl l1), some (.inl l2), some (.inl l3), some (.inr l4)]) rfl (by decide) rfl rfl ?_ hy
  unfold fB_begin
  refine r_ck (fun h1 => ?_)
  refine r_aload rfl rfl (am_nz h1) ?_
  refine r_iload rfl rfl ?_
  refine r_putI rfl h1 (fun hz => absurd hz (by decide)) (fun I2 => ?_)
  refine r_aload rfl rfl (am_nz h1) ?_
  refine r_iload rfl rfl ?_
  refine r_putI rfl h1 (fun hz => absurd hz (by decide)) (fun I3 => ?_)
  refine r_aload rfl rfl (am_nz h1) ?_
  refine r_iload rfl rfl ?_
  refine r_call2 rfl rfl h1 (fun y hy => AfB_tellStates (dp := dp + 0) hy) (fun y4 => ?_)
  refine r_aload rfl rfl (am_nz h1) ?_
  refine r_const (x := 0) rfl rfl ?_
  refine r_putI rfl h1 (fun hz => absurd hz (by decide)) (fun I5 => ?_)
  refine r_aload rfl rfl (am_nz h1) ?_
  refine r_const (x := 0) rfl rfl ?_
  refine r_putI rfl h1 (fun hz => absurd hz (by decide)) (fun I6 => ?_)
  refine r_aload rfl rfl (am_nz h1) ?_
  refine r_const (x := 1) rfl rfl ?_
  refine r_putI rfl h1 (fun hz => absurd hz (by decide)) (fun I7 => ?_)
  refine r_aload rfl rfl (am_nz h1) ?_
  refine r_const (x := 0) rfl rfl ?_
  refine r_putI rfl h1 (fun _ => sm_010) (fun I8 => ?_)
  refine r_aload rfl rfl (am_nz h1) ?_
  refine r_const (x := 0) rfl rfl ?_
  refine r_putI rfl h1 (fun hz => absurd hz (by decide)) (fun I9 => ?_)
  refine r_aload rfl rfl (am_nz h1) ?_
  refine r_const (x := 0) rfl rfl ?_
  refine r_putI rfl h1 (fun hz => absurd hz (by decide)) (fun I10 => ?_)
  refine r_aload rfl rfl (am_nz h1) ?_
  refine r_ck (fun h11 => ?_)
  refine r_aload rfl rfl (am_nz h11) ?_
  refine r_putP rfl h1 (fun P12 => ?_)
  exact r_return rfl rfl
noncomputable def fW_addBox (l0 : Nat) (l1 : Int32) (l2 : Int32) (l3 : Int32) (l4 : Nat) (I : am_M) (P : am_Q) (nx : Nat) (sl : Nat) : Option (Int32 × am_S) :=
  sm_ck (am_t l0 = 11) <|
  sm_bd (I l0 6) fun x2 =>
  sm_ck (sm_ia (P l0 9) x2) <|
  sm_ck (am_t l4 = 4) <|
  sm_ck (am_t (P (P l0 9) x2.toNatClampNeg) = 1) <|
  Option.bind (fB_begin (P (P l0 9) x2.toNatClampNeg) l1 l2 l3 l4 I P nx sl) fun y6 =>
  sm_ck (sm_iw (y6.2.1 l0 11) x2) <|
  sm_bd (am_up y6.1 (y6.2.1 l0 11) x2.toNatClampNeg x2) fun I8 =>
  sm_ck (sm_iw (y6.2.1 l0 12) (2 * x2)) <|
  sm_bd (am_up I8 (y6.2.1 l0 12) (2 * x2).toNatClampNeg ((-1))) fun I10 =>
  sm_ck (sm_iw (y6.2.1 l0 12) ((2 * x2) + 1)) <|
  sm_bd (am_up I10 (y6.2.1 l0 12) ((2 * x2) + 1).toNatClampNeg ((-1))) fun I12 =>
  sm_bd (am_up I12 l0 6 ((I12 l0 6) + 1)) fun I13 =>
  some (x2, I13, y6.2.1, y6.2.2.1, y6.2.2.2)
set_option maxRecDepth 100000 in
theorem AfW_addBox {dp : Nat}  {I : am_M} {P : am_Q} {nx : Nat} {sl : Nat} {l0 : Nat} {l1 : Int32} {l2 : Int32} {l3 : Int32} {l4 : Nat} {y : Int32 × am_S} (hy : fW_addBox l0 l1 l2 l3 l4 I P nx sl = some y) : sm_T (dp + 3) 20 [.inr l0, .inl l1, .inl l2, .inl l3, .inr l4] (I, P, nx, sl) (sm_g3 y) := by
  refine r_meth (d := am_d20) (dp := dp + 2) (ls0 := [some (.inr l0), some (.inl l1), some (.inl l2), some (.inl l3), some (.inr l4), none]) rfl (by decide) rfl rfl ?_ hy
  unfold fW_addBox
  refine r_ck (fun h1 => ?_)
  refine r_aload rfl rfl (am_nz h1) ?_
  refine r_getI rfl h1 ?_
  refine r_bd (fun x2 => ?_)
  refine r_istore (ls' := [some (.inr l0), some (.inl l1), some (.inl l2), some (.inl l3), some (.inr l4), some (.inl x2)]) rfl (Nat.le_of_ble_eq_true rfl) rfl ?_
  refine r_aload rfl rfl (am_nz h1) ?_
  refine r_getP rfl h1 ?_
  refine r_iload rfl rfl ?_
  refine r_ck (fun h3 => ?_)
  refine r_aald rfl h3 ?_
  refine r_iload rfl rfl ?_
  refine r_iload rfl rfl ?_
  refine r_iload rfl rfl ?_
  refine r_ck (fun h4 => ?_)
  refine r_aload rfl rfl (am_nz h4) ?_
  refine r_ck (fun h5 => ?_)
  refine r_call4 rfl rfl h5 (fun y hy => AfB_begin (dp := dp + 0) hy) (fun y6 => ?_)
  refine r_aload rfl rfl (am_nz h1) ?_
  refine r_getP rfl h1 ?_
  refine r_iload rfl rfl ?_
  refine r_iload rfl rfl ?_
  refine r_ck (fun h7 => ?_)
  refine r_iast rfl h7 (fun I8 => ?_)
  refine r_aload rfl rfl (am_nz h1) ?_
  refine r_getP rfl h1 ?_
  refine r_const (x := 2) rfl rfl ?_
  refine r_iload rfl rfl ?_
  refine r_bin (z := 2 * x2) rfl rfl (by decide) ?_
  refine r_const (x := (-1)) rfl rfl ?_
  refine r_ck (fun h9 => ?_)
  refine r_iast rfl h9 (fun I10 => ?_)
  refine r_aload rfl rfl (am_nz h1) ?_
  refine r_getP rfl h1 ?_
  refine r_const (x := 2) rfl rfl ?_
  refine r_iload rfl rfl ?_
  refine r_bin (z := 2 * x2) rfl rfl (by decide) ?_
  refine r_const (x := 1) rfl rfl ?_
  refine r_bin (z := (2 * x2) + 1) rfl rfl (by decide) ?_
  refine r_const (x := (-1)) rfl rfl ?_
  refine r_ck (fun h11 => ?_)
  refine r_iast rfl h11 (fun I12 => ?_)
  refine r_aload rfl rfl (am_nz h1) ?_
  refine r_dup rfl ?_
  refine r_getI rfl h1 ?_
  refine r_const (x := 1) rfl rfl ?_
  refine r_bin (z := (I12 l0 6) + 1) rfl rfl (by decide) ?_
  refine r_putI rfl h1 (fun hz => absurd hz (by decide)) (fun I13 => ?_)
  refine r_iload rfl rfl ?_
  exact r_ireturn rfl (Or.inl rfl) rfl
noncomputable def fX_box (l0 : Nat) (l1 : Int32) (l2 : Int32) (l3 : Int32) (I : am_M) (P : am_Q) (nx : Nat) (sl : Nat) : Option (Int32 × am_S) :=
  Option.bind (fX_isKind l1) fun y1 =>
  if y1 = 0 then
    (sm_ck (am_t l0 = 12) <|
    Option.bind (fX_found P l0 ((-1000001)) I) fun y4 =>
    some (y4.1, y4.2, P, nx, sl))
  else
    (sm_ck (am_t l0 = 12) <|
    sm_ck (am_t (P l0 0) = 11) <|
    Option.bind (fW_isPair I P (P l0 0) l2) fun y7 =>
    if y7 = 0 then
      (Option.bind (fX_found P l0 ((-1000001)) I) fun y9 =>
      some (y9.1, y9.2, P, nx, sl))
    else
      (Option.bind (fW_isNumber I P (P l0 0) l3) fun y10 =>
      if ¬ y10 = 0 then
        (if (I (P l0 0) 6) < 7 then
          (Option.bind (fW_addBox (P l0 0) l1 l2 l3 (P l0 6) I P nx sl) fun y13 =>
          some (y13.1, y13.2.1, y13.2.2.1, y13.2.2.2.1, y13.2.2.2.2))
        else
          (Option.bind (fX_found P l0 ((-1000002)) I) fun y14 =>
          some (y14.1, y14.2, P, nx, sl)))
      else
        (Option.bind (fX_found P l0 ((-1000001)) I) fun y15 =>
        some (y15.1, y15.2, P, nx, sl))))
set_option maxRecDepth 100000 in
theorem AfX_box {dp : Nat}  {I : am_M} {P : am_Q} {nx : Nat} {sl : Nat} {l0 : Nat} {l1 : Int32} {l2 : Int32} {l3 : Int32} {y : Int32 × am_S} (hy : fX_box l0 l1 l2 l3 I P nx sl = some y) : sm_T (dp + 4) 16 [.inr l0, .inl l1, .inl l2, .inl l3] (I, P, nx, sl) (sm_g3 y) := by
  refine r_meth (d := am_d16) (dp := dp + 3) (ls0 := [some (.inr l0), some (.inl l1), some (.inl l2), some (.inl l3)]) rfl (by decide) rfl rfl ?_ hy
  unfold fX_box
  refine r_iload rfl rfl ?_
  refine r_call0 rfl rfl trivial (fun y hy => AfX_isKind (dp := dp + 2) hy) (fun y1 => ?_)
  refine r_if rfl rfl (fun c2 => ?_) (fun c2 => ?_)
  · refine r_ck (fun h3 => ?_)
    refine r_aload rfl rfl (am_nz h3) ?_
    refine r_const (x := (-1000001)) rfl rfl ?_
    refine r_call1 rfl rfl h3 (fun y hy => AfX_found (dp := dp + 2) hy) (fun y4 => ?_)
    exact r_ireturn rfl (Or.inl rfl) rfl
  · refine r_ck (fun h5 => ?_)
    refine r_aload rfl rfl (am_nz h5) ?_
    refine r_getP rfl h5 ?_
    refine r_iload rfl rfl ?_
    refine r_ck (fun h6 => ?_)
    refine r_call0 rfl rfl h6 (fun y hy => AfW_isPair (dp := dp + 1) hy) (fun y7 => ?_)
    refine r_if rfl rfl (fun c8 => ?_) (fun c8 => ?_)
    · refine r_aload rfl rfl (am_nz h5) ?_
      refine r_const (x := (-1000001)) rfl rfl ?_
      refine r_call1 rfl rfl h5 (fun y hy => AfX_found (dp := dp + 2) hy) (fun y9 => ?_)
      exact r_ireturn rfl (Or.inl rfl) rfl
    · refine r_aload rfl rfl (am_nz h5) ?_
      refine r_getP rfl h5 ?_
      refine r_iload rfl rfl ?_
      refine r_call0 rfl rfl h6 (fun y hy => AfW_isNumber (dp := dp + 2) hy) (fun y10 => ?_)
      refine r_if rfl rfl (fun c11 => ?_) (fun c11 => ?_)
      · refine r_aload rfl rfl (am_nz h5) ?_
        refine r_getP rfl h5 ?_
        refine r_getI rfl h6 ?_
        refine r_const (x := 7) rfl rfl ?_
        refine r_icmp rfl rfl (fun c12 => ?_) (fun c12 => ?_)
        · refine r_aload rfl rfl (am_nz h5) ?_
          refine r_getP rfl h5 ?_
          refine r_iload rfl rfl ?_
          refine r_iload rfl rfl ?_
          refine r_iload rfl rfl ?_
          refine r_aload rfl rfl (am_nz h5) ?_
          refine r_getP rfl h5 ?_
          refine r_call3 rfl rfl h6 (fun y hy => AfW_addBox (dp := dp + 0) hy) (fun y13 => ?_)
          exact r_ireturn rfl (Or.inl rfl) rfl
        · refine r_aload rfl rfl (am_nz h5) ?_
          refine r_const (x := (-1000002)) rfl rfl ?_
          refine r_call1 rfl rfl h5 (fun y hy => AfX_found (dp := dp + 2) hy) (fun y14 => ?_)
          exact r_ireturn rfl (Or.inl rfl) rfl
      · refine r_aload rfl rfl (am_nz h5) ?_
        refine r_const (x := (-1000001)) rfl rfl ?_
        refine r_call1 rfl rfl h5 (fun y hy => AfX_found (dp := dp + 2) hy) (fun y15 => ?_)
        exact r_ireturn rfl (Or.inl rfl) rfl
noncomputable def fW_hasBox (I : am_M) (P : am_Q) (l0 : Nat) (l1 : Int32) : Option (Int32) :=
  if l1 < 0 then
    (some 0)
  else
    (sm_ck (am_t l0 = 11) <|
    if (I l0 6) ≤ l1 then
      (some 0)
    else
      (some 1))
set_option maxRecDepth 100000 in
theorem AfW_hasBox {dp : Nat} {I : am_M} {P : am_Q} {nx : Nat} {sl : Nat} {l0 : Nat} {l1 : Int32} {y : Int32} (hy : fW_hasBox I P l0 l1 = some y) : sm_T (dp + 1) 24 [.inr l0, .inl l1] (I, P, nx, sl) ((sm_g0 (I, P, nx, sl)) y) := by
  refine r_meth (d := am_d24) (dp := dp + 0) (ls0 := [some (.inr l0), some (.inl l1)]) rfl (by decide) rfl rfl ?_ hy
  unfold fW_hasBox
  refine r_iload rfl rfl ?_
  refine r_if rfl rfl (fun c1 => ?_) (fun c1 => ?_)
  · refine r_const (x := 0) rfl rfl ?_
    exact r_ireturn rfl (Or.inr ⟨rfl, sm_010⟩) rfl
  · refine r_iload rfl rfl ?_
    refine r_ck (fun h2 => ?_)
    refine r_aload rfl rfl (am_nz h2) ?_
    refine r_getI rfl h2 ?_
    refine r_icmp rfl rfl (fun c3 => ?_) (fun c3 => ?_)
    · refine r_const (x := 0) rfl rfl ?_
      exact r_ireturn rfl (Or.inr ⟨rfl, sm_010⟩) rfl
    · refine r_const (x := 1) rfl rfl ?_
      refine r_goto rfl ?_
      exact r_ireturn rfl (Or.inr ⟨rfl, sm_011⟩) rfl
noncomputable def fX_isUnder_B4 (I : am_M) (P : am_Q) (e4_22 : Option (Int32)) (e4_36 : Option (Int32)) (r4 : Int32 → Int32 → Int32 → Option (Int32)) (l1 : Int32) (l2 : Int32) (l3 : Int32) : Option (Int32) :=
  if 6 ≤ l3 then
    (e4_36)
  else
    (Option.bind (fX_isKind l2) fun y2 =>
    if y2 = 0 then
      (e4_36)
    else
      (if ¬ l2 = l1 then
        (sm_ck (sm_in am_ap l2) <|
        sm_bd (I am_ap l2.toNatClampNeg) fun x6 =>
        sm_bd (l3 + 1) fun x7 =>
        r4 l1 x6 x7)
      else
        (e4_22)))
set_option maxRecDepth 100000 in
theorem AfX_isUnder_B4 {dp : Nat} {I : am_M} {P : am_Q} {nx : Nat} {sl : Nat} {e4_22 : Option (Int32)} {e4_36 : Option (Int32)} {r4 : Int32 → Int32 → Int32 → Option (Int32)} (he4_22 : ∀ (o0 : Option am_V) (o1 : Option am_V) (o2 : Option am_V) (o3 : Option am_V), sm (dp + 1) am_d25 22 [o0, o1, o2, o3] [] (I, P, nx, sl) (sm_g0 (I, P, nx, sl)) (e4_22)) (he4_36 : ∀ (o0 : Option am_V) (o1 : Option am_V) (o2 : Option am_V) (o3 : Option am_V), sm (dp + 1) am_d25 36 [o0, o1, o2, o3] [] (I, P, nx, sl) (sm_g0 (I, P, nx, sl)) (e4_36)) (hr4 : ∀ (l1 : Int32) (l2 : Int32) (l3 : Int32) (o0 : Option am_V), sm (dp + 1) am_d25 4 [o0, some (.inl l1), some (.inl l2), some (.inl l3)] [] (I, P, nx, sl) (sm_g0 (I, P, nx, sl)) (r4 l1 l2 l3)) (l1 : Int32) (l2 : Int32) (l3 : Int32) (o0 : Option am_V) : sm (dp + 1) am_d25 4 [o0, some (.inl l1), some (.inl l2), some (.inl l3)] [] (I, P, nx, sl) (sm_g0 (I, P, nx, sl)) (fX_isUnder_B4 I P e4_22 e4_36 r4 l1 l2 l3) := by
  unfold fX_isUnder_B4
  refine r_iload rfl rfl ?_
  refine r_const (x := 6) rfl rfl ?_
  refine r_icmp rfl rfl (fun c1 => ?_) (fun c1 => ?_)
  · exact he4_36 o0 (some (.inl l1)) (some (.inl l2)) (some (.inl l3))
  · refine r_iload rfl rfl ?_
    refine r_call0 rfl rfl trivial (fun y hy => AfX_isKind (dp := dp + 0) hy) (fun y2 => ?_)
    refine r_if rfl rfl (fun c3 => ?_) (fun c3 => ?_)
    · exact he4_36 o0 (some (.inl l1)) (some (.inl l2)) (some (.inl l3))
    · refine r_iload rfl rfl ?_
      refine r_iload rfl rfl ?_
      refine r_icmp rfl rfl (fun c4 => ?_) (fun c4 => ?_)
      · refine r_above rfl ?_
        refine r_iload rfl rfl ?_
        refine r_ck (fun h5 => ?_)
        refine r_iald rfl h5 ?_
        refine r_bd (fun x6 => ?_)
        refine r_istore (ls' := [o0, some (.inl l1), some (.inl x6), some (.inl l3)]) rfl (Nat.le_of_ble_eq_true rfl) rfl ?_
        refine r_iinc (e := l3 + 1) (ls' := fun x7 => [o0, some (.inl l1), some (.inl x6), some (.inl x7)]) rfl rfl rfl (fun _ => rfl) (fun x7 => ?_)
        refine r_goto rfl ?_
        exact hr4 l1 x6 x7 o0
      · exact he4_22 o0 (some (.inl l1)) (some (.inl l2)) (some (.inl l3))
noncomputable def fX_isUnder_L4 (I : am_M) (P : am_Q) (e4_22 : Option (Int32)) (e4_36 : Option (Int32)) : Nat → Int32 → Int32 → Int32 → Option (Int32)
  | 0, _, _, _ => none
  | n + 1, l1, l2, l3 => fX_isUnder_B4 I P e4_22 e4_36 (fX_isUnder_L4 I P e4_22 e4_36 n) l1 l2 l3
theorem AfX_isUnder_L4 {dp : Nat} {I : am_M} {P : am_Q} {nx : Nat} {sl : Nat} {e4_22 : Option (Int32)} {e4_36 : Option (Int32)} (he4_22 : ∀ (o0 : Option am_V) (o1 : Option am_V) (o2 : Option am_V) (o3 : Option am_V), sm (dp + 1) am_d25 22 [o0, o1, o2, o3] [] (I, P, nx, sl) (sm_g0 (I, P, nx, sl)) (e4_22)) (he4_36 : ∀ (o0 : Option am_V) (o1 : Option am_V) (o2 : Option am_V) (o3 : Option am_V), sm (dp + 1) am_d25 36 [o0, o1, o2, o3] [] (I, P, nx, sl) (sm_g0 (I, P, nx, sl)) (e4_36)) (n : Nat) : ∀ (l1 : Int32) (l2 : Int32) (l3 : Int32) (o0 : Option am_V), sm (dp + 1) am_d25 4 [o0, some (.inl l1), some (.inl l2), some (.inl l3)] [] (I, P, nx, sl) (sm_g0 (I, P, nx, sl)) (fX_isUnder_L4 I P e4_22 e4_36 n l1 l2 l3) := by
  induction n with
  | zero => intro l1 l2 l3 o0; exact sm_none
  | succ n ih => intro l1 l2 l3 o0; exact AfX_isUnder_B4 he4_22 he4_36 ih l1 l2 l3 o0
noncomputable def fX_isUnder (I : am_M) (P : am_Q) (l0 : Int32) (l1 : Int32) : Option (Int32) :=
  fX_isUnder_L4 I P (some 1) (some 0) sm_fu l1 l0 0
set_option maxRecDepth 100000 in
theorem AfX_isUnder {dp : Nat} {I : am_M} {P : am_Q} {nx : Nat} {sl : Nat} {l0 : Int32} {l1 : Int32} {y : Int32} (hy : fX_isUnder I P l0 l1 = some y) : sm_T (dp + 2) 25 [.inl l0, .inl l1] (I, P, nx, sl) ((sm_g0 (I, P, nx, sl)) y) := by
  refine r_meth (d := am_d25) (dp := dp + 1) (ls0 := [some (.inl l0), some (.inl l1), none, none]) rfl (by decide) rfl rfl ?_ hy
  unfold fX_isUnder
  refine r_iload rfl rfl ?_
  refine r_istore (ls' := [some (.inl l0), some (.inl l1), some (.inl l0), none]) rfl (Nat.le_of_ble_eq_true rfl) rfl ?_
  refine r_const (x := 0) rfl rfl ?_
  refine r_istore (ls' := [some (.inl l0), some (.inl l1), some (.inl l0), some (.inl 0)]) rfl (Nat.le_of_ble_eq_true rfl) rfl ?_
  refine AfX_isUnder_L4 ?_ ?_ sm_fu l1 l0 0 (some (.inl l0))
  · intro o0 o1 o2 o3
    refine r_const (x := 1) rfl rfl ?_
    exact r_ireturn rfl (Or.inr ⟨rfl, sm_011⟩) rfl
  · intro o0 o1 o2 o3
    refine r_const (x := 0) rfl rfl ?_
    exact r_ireturn rfl (Or.inr ⟨rfl, sm_010⟩) rfl
noncomputable def fX_as (P : am_Q) (l0 : Nat) (l1 : Int32) (l2 : Int32) (I : am_M) : Option (Int32 × am_M) :=
  sm_ck (am_t l0 = 12) <|
  sm_ck (am_t (P l0 0) = 11) <|
  Option.bind (fW_hasBox I P (P l0 0) l1) fun y3 =>
  if y3 = 0 then
    (Option.bind (fX_found P l0 ((-1000001)) I) fun y5 =>
    some (y5.1, y5.2))
  else
    (Option.bind (fX_isKind l2) fun y6 =>
    if ¬ y6 = 0 then
      (sm_ck (sm_ia (P (P l0 0) 9) l1) <|
      sm_ck (am_t (P (P (P l0 0) 9) l1.toNatClampNeg) = 1) <|
      Option.bind (fX_isUnder I P (I (P (P (P l0 0) 9) l1.toNatClampNeg) 0) l2) fun y10 =>
      if y10 = 0 then
        (Option.bind (fX_found P l0 ((-1000003)) I) fun y12 =>
        some (y12.1, y12.2))
      else
        (some (l1, I)))
    else
      (Option.bind (fX_found P l0 ((-1000001)) I) fun y13 =>
      some (y13.1, y13.2)))
set_option maxRecDepth 100000 in
theorem AfX_as {dp : Nat} {P : am_Q} {nx : Nat} {sl : Nat} {I : am_M} {l0 : Nat} {l1 : Int32} {l2 : Int32} {y : Int32 × am_M} (hy : fX_as P l0 l1 l2 I = some y) : sm_T (dp + 3) 23 [.inr l0, .inl l1, .inl l2] (I, P, nx, sl) ((sm_g1 P nx sl) y) := by
  refine r_meth (d := am_d23) (dp := dp + 2) (ls0 := [some (.inr l0), some (.inl l1), some (.inl l2)]) rfl (by decide) rfl rfl ?_ hy
  unfold fX_as
  refine r_ck (fun h1 => ?_)
  refine r_aload rfl rfl (am_nz h1) ?_
  refine r_getP rfl h1 ?_
  refine r_iload rfl rfl ?_
  refine r_ck (fun h2 => ?_)
  refine r_call0 rfl rfl h2 (fun y hy => AfW_hasBox (dp := dp + 1) hy) (fun y3 => ?_)
  refine r_if rfl rfl (fun c4 => ?_) (fun c4 => ?_)
  · refine r_aload rfl rfl (am_nz h1) ?_
    refine r_const (x := (-1000001)) rfl rfl ?_
    refine r_call1 rfl rfl h1 (fun y hy => AfX_found (dp := dp + 1) hy) (fun y5 => ?_)
    exact r_ireturn rfl (Or.inl rfl) rfl
  · refine r_iload rfl rfl ?_
    refine r_call0 rfl rfl trivial (fun y hy => AfX_isKind (dp := dp + 1) hy) (fun y6 => ?_)
    refine r_if rfl rfl (fun c7 => ?_) (fun c7 => ?_)
    · refine r_aload rfl rfl (am_nz h1) ?_
      refine r_getP rfl h1 ?_
      refine r_getP rfl h2 ?_
      refine r_iload rfl rfl ?_
      refine r_ck (fun h8 => ?_)
      refine r_aald rfl h8 ?_
      refine r_ck (fun h9 => ?_)
      refine r_getI rfl h9 ?_
      refine r_iload rfl rfl ?_
      refine r_call0 rfl rfl trivial (fun y hy => AfX_isUnder (dp := dp + 0) hy) (fun y10 => ?_)
      refine r_if rfl rfl (fun c11 => ?_) (fun c11 => ?_)
      · refine r_aload rfl rfl (am_nz h1) ?_
        refine r_const (x := (-1000003)) rfl rfl ?_
        refine r_call1 rfl rfl h1 (fun y hy => AfX_found (dp := dp + 1) hy) (fun y12 => ?_)
        exact r_ireturn rfl (Or.inl rfl) rfl
      · refine r_iload rfl rfl ?_
        refine r_goto rfl ?_
        exact r_ireturn rfl (Or.inl rfl) rfl
    · refine r_aload rfl rfl (am_nz h1) ?_
      refine r_const (x := (-1000001)) rfl rfl ?_
      refine r_call1 rfl rfl h1 (fun y hy => AfX_found (dp := dp + 1) hy) (fun y13 => ?_)
      exact r_ireturn rfl (Or.inl rfl) rfl
noncomputable def fL_has (I : am_M) (P : am_Q) (l0 : Nat) (l1 : Int32) : Option (Int32) :=
  sm_ck (am_t l0 = 4) <|
  sm_ck (sm_in (P l0 1) l1) <|
  if (I (P l0 1) l1.toNatClampNeg) < 0 then
    (some 0)
  else
    (some 1)
set_option maxRecDepth 100000 in
theorem AfL_has {dp : Nat} {I : am_M} {P : am_Q} {nx : Nat} {sl : Nat} {l0 : Nat} {l1 : Int32} {y : Int32} (hy : fL_has I P l0 l1 = some y) : sm_T (dp + 1) 28 [.inr l0, .inl l1] (I, P, nx, sl) ((sm_g0 (I, P, nx, sl)) y) := by
  refine r_meth (d := am_d28) (dp := dp + 0) (ls0 := [some (.inr l0), some (.inl l1)]) rfl (by decide) rfl rfl ?_ hy
  unfold fL_has
  refine r_ck (fun h1 => ?_)
  refine r_aload rfl rfl (am_nz h1) ?_
  refine r_getP rfl h1 ?_
  refine r_iload rfl rfl ?_
  refine r_ck (fun h2 => ?_)
  refine r_iald rfl h2 ?_
  refine r_if rfl rfl (fun c3 => ?_) (fun c3 => ?_)
  · refine r_const (x := 0) rfl rfl ?_
    exact r_ireturn rfl (Or.inr ⟨rfl, sm_010⟩) rfl
  · refine r_const (x := 1) rfl rfl ?_
    refine r_goto rfl ?_
    exact r_ireturn rfl (Or.inr ⟨rfl, sm_011⟩) rfl
noncomputable def fK_valueOf (I : am_M) (P : am_Q) (l0 : Int32) (l1 : Nat) (l2 : Int32) : Option (Int32) :=
  if l0 = 100 then
    (sm_ck (am_t l1 = 1) <|
    some (I l1 1))
  else if l0 = 101 then
    (sm_ck (am_t l1 = 1) <|
    some (I l1 2))
  else if l0 = 102 then
    (sm_ck (am_t l1 = 1) <|
    some (I l1 3))
  else if l0 = 103 then
    (sm_ck (am_t l1 = 1) <|
    some (I l1 4))
  else if l0 = 104 then
    (some l2)
  else (
    some l0)
set_option maxRecDepth 100000 in
theorem AfK_valueOf {dp : Nat} {I : am_M} {P : am_Q} {nx : Nat} {sl : Nat} {l0 : Int32} {l1 : Nat} {l2 : Int32} {y : Int32} (hy : fK_valueOf I P l0 l1 l2 = some y) : sm_T (dp + 1) 29 [.inl l0, .inr l1, .inl l2] (I, P, nx, sl) ((sm_g0 (I, P, nx, sl)) y) := by
  refine r_meth (d := am_d29) (dp := dp + 0) (ls0 := [some (.inl l0), some (.inr l1), some (.inl l2)]) rfl (by decide) rfl rfl ?_ hy
  unfold fK_valueOf
  refine r_iload rfl rfl ?_
  refine r_ite (fun c1 => ?_) (fun c1 => ?_)
  · refine r_tabE (t := 36) rfl c1 (by decide) ?_
    refine r_ck (fun h2 => ?_)
    refine r_aload rfl rfl (am_nz h2) ?_
    refine r_getI rfl h2 ?_
    exact r_ireturn rfl (Or.inl rfl) rfl
  refine r_ite (fun c3 => ?_) (fun c3 => ?_)
  · refine r_tabE (t := 41) rfl c3 (by decide) ?_
    refine r_ck (fun h4 => ?_)
    refine r_aload rfl rfl (am_nz h4) ?_
    refine r_getI rfl h4 ?_
    exact r_ireturn rfl (Or.inl rfl) rfl
  refine r_ite (fun c5 => ?_) (fun c5 => ?_)
  · refine r_tabE (t := 46) rfl c5 (by decide) ?_
    refine r_ck (fun h6 => ?_)
    refine r_aload rfl rfl (am_nz h6) ?_
    refine r_getI rfl h6 ?_
    exact r_ireturn rfl (Or.inl rfl) rfl
  refine r_ite (fun c7 => ?_) (fun c7 => ?_)
  · refine r_tabE (t := 51) rfl c7 (by decide) ?_
    refine r_ck (fun h8 => ?_)
    refine r_aload rfl rfl (am_nz h8) ?_
    refine r_getI rfl h8 ?_
    exact r_ireturn rfl (Or.inl rfl) rfl
  refine r_ite (fun c9 => ?_) (fun c9 => ?_)
  · refine r_tabE (t := 56) rfl c9 (by decide) ?_
    refine r_iload rfl rfl ?_
    exact r_ireturn rfl (Or.inl rfl) rfl
  refine r_tabD rfl ⟨c1, c3, c5, c7, c9, trivial⟩ ?_
  refine r_iload rfl rfl ?_
  exact r_ireturn rfl (Or.inl rfl) rfl
noncomputable def fX_restBy (l0 : Int32) (l1 : Int32) : Option (Int32) :=
  if 1 ≤ l1 then
    (sm_ck (¬ l1 = 0) <|
    sm_bd (sm_rem l0 l1) fun x3 =>
    if 0 ≤ x3 then
      (some x3)
    else
      (some (x3 + l1)))
  else
    (some 0)
set_option maxRecDepth 100000 in
theorem AfX_restBy {dp : Nat} {S : am_S} {l0 : Int32} {l1 : Int32} {y : Int32} (hy : fX_restBy l0 l1 = some y) : sm_T (dp + 1) 30 [.inl l0, .inl l1] S ((sm_g0 S) y) := by
  refine r_meth (d := am_d30) (dp := dp + 0) (ls0 := [some (.inl l0), some (.inl l1), none]) rfl (by decide) rfl rfl ?_ hy
  unfold fX_restBy
  refine r_iload rfl rfl ?_
  refine r_const (x := 1) rfl rfl ?_
  refine r_icmp rfl rfl (fun c1 => ?_) (fun c1 => ?_)
  · refine r_iload rfl rfl ?_
    refine r_iload rfl rfl ?_
    refine r_ck (fun h2 => ?_)
    refine r_bin (z := sm_rem l0 l1) rfl (sm_rv h2) (by decide) ?_
    refine r_bd (fun x3 => ?_)
    refine r_istore (ls' := [some (.inl l0), some (.inl l1), some (.inl x3)]) rfl (Nat.le_of_ble_eq_true rfl) rfl ?_
    refine r_iload rfl rfl ?_
    refine r_if rfl rfl (fun c4 => ?_) (fun c4 => ?_)
    · refine r_iload rfl rfl ?_
      exact r_ireturn rfl (Or.inl rfl) rfl
    · refine r_iload rfl rfl ?_
      refine r_iload rfl rfl ?_
      refine r_bin (z := x3 + l1) rfl rfl (by decide) ?_
      refine r_goto rfl ?_
      exact r_ireturn rfl (Or.inl rfl) rfl
  · refine r_const (x := 0) rfl rfl ?_
    exact r_ireturn rfl (Or.inl rfl) rfl
noncomputable def fK_joined (l0 : Int32) (l1 : Int32) (l2 : Int32) : Option (Int32) :=
  if l0 = 110 then
    (some (l1 + l2))
  else if l0 = 111 then
    (some (l1 - l2))
  else if l0 = 112 then
    (some (l1 * l2))
  else (
    if ¬ l2 = 0 then
      (sm_ck (¬ l2 = 0) <|
      some (sm_rem l1 l2))
    else
      (some 0))
set_option maxRecDepth 100000 in
theorem AfK_joined {dp : Nat} {S : am_S} {l0 : Int32} {l1 : Int32} {l2 : Int32} {y : Int32} (hy : fK_joined l0 l1 l2 = some y) : sm_T (dp + 1) 31 [.inl l0, .inl l1, .inl l2] S ((sm_g0 S) y) := by
  refine r_meth (d := am_d31) (dp := dp + 0) (ls0 := [some (.inl l0), some (.inl l1), some (.inl l2)]) rfl (by decide) rfl rfl ?_ hy
  unfold fK_joined
  refine r_iload rfl rfl ?_
  refine r_ite (fun c1 => ?_) (fun c1 => ?_)
  · refine r_tabE (t := 28) rfl c1 (by decide) ?_
    refine r_iload rfl rfl ?_
    refine r_iload rfl rfl ?_
    refine r_bin (z := l1 + l2) rfl rfl (by decide) ?_
    exact r_ireturn rfl (Or.inl rfl) rfl
  refine r_ite (fun c2 => ?_) (fun c2 => ?_)
  · refine r_tabE (t := 32) rfl c2 (by decide) ?_
    refine r_iload rfl rfl ?_
    refine r_iload rfl rfl ?_
    refine r_bin (z := l1 - l2) rfl rfl (by decide) ?_
    exact r_ireturn rfl (Or.inl rfl) rfl
  refine r_ite (fun c3 => ?_) (fun c3 => ?_)
  · refine r_tabE (t := 36) rfl c3 (by decide) ?_
    refine r_iload rfl rfl ?_
    refine r_iload rfl rfl ?_
    refine r_bin (z := l1 * l2) rfl rfl (by decide) ?_
    exact r_ireturn rfl (Or.inl rfl) rfl
  refine r_tabD rfl ⟨c1, c2, c3, trivial⟩ ?_
  refine r_iload rfl rfl ?_
  refine r_if rfl rfl (fun c4 => ?_) (fun c4 => ?_)
  · refine r_iload rfl rfl ?_
    refine r_iload rfl rfl ?_
    refine r_ck (fun h5 => ?_)
    refine r_bin (z := sm_rem l1 l2) rfl (sm_rv h5) (by decide) ?_
    exact r_ireturn rfl (Or.inl rfl) rfl
  · refine r_const (x := 0) rfl rfl ?_
    refine r_goto rfl ?_
    exact r_ireturn rfl (Or.inl rfl) rfl
