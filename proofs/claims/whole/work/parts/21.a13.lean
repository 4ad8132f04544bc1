noncomputable def fM_readValue_O_J178 (rc167 : am_Q → Nat → am_M → Option (am_M)) (P : am_Q) (l0 : Nat) (s0 : Int32) (s1 : Nat) (I : am_M) : Option (am_M) :=
  sm_ck (am_t s1 = 13) <|
  sm_ck (sm_01 s0) <|
  sm_bd (am_up I s1 40 s0) fun I19 =>
  sm_ck (am_t l0 = 13) <|
  sm_bd (am_up I19 l0 39 ((I19 l0 39) - 1)) fun I21 =>
  some I21
set_option maxRecDepth 100000 in
theorem AfM_readValue_O_J178 {D : Nat} {P : am_Q} {nx : Nat} {sl : Nat} {rc167 : am_Q → Nat → am_M → Option (am_M)} (hrc167 : ∀ (l0 : Nat) (I : am_M) (P : am_Q) (nx : Nat) (sl : Nat) (y : am_M), rc167 P l0 I = some y → sm_T D 167 [.inr l0] (I, P, nx, sl) ((sm_g2 P nx sl) y)) (hD : 3 ≤ D) (l0 : Nat) (s0 : Int32) (s1 : Nat) (I : am_M) (o1 : Option am_V) (o2 : Option am_V) (o3 : Option am_V) : sm D am_d169 178 [some (.inr l0), o1, o2, o3] [.inl s0, .inr s1] (I, P, nx, sl) (sm_g2 P nx sl) (fM_readValue_O_J178 rc167 P l0 s0 s1 I) := by
  unfold fM_readValue_O_J178
  refine r_ck (fun h17 => ?_)
  refine r_ck (fun h18 => ?_)
  refine r_putI rfl h17 (fun _ => h18) (fun I19 => ?_)
  refine r_ck (fun h20 => ?_)
  refine r_aload rfl rfl (am_nz h20) ?_
  refine r_dup rfl ?_
  refine r_getI rfl h20 ?_
  refine r_const (x := 1) rfl rfl ?_
  refine r_bin (z := (I19 l0 39) - 1) rfl rfl (by decide) ?_
  refine r_putI rfl h20 (fun hz => absurd hz (by decide)) (fun I21 => ?_)
  refine r_goto rfl ?_
  exact r_return rfl rfl
noncomputable def fM_readValue_O_J173 (rc167 : am_Q → Nat → am_M → Option (am_M)) (P : am_Q) (l0 : Nat) (s0 : Nat) (I : am_M) : Option (am_M) :=
  fM_readValue_O_J178 rc167 P l0 1 s0 I
set_option maxRecDepth 100000 in
theorem AfM_readValue_O_J173 {D : Nat} {P : am_Q} {nx : Nat} {sl : Nat} {rc167 : am_Q → Nat → am_M → Option (am_M)} (hrc167 : ∀ (l0 : Nat) (I : am_M) (P : am_Q) (nx : Nat) (sl : Nat) (y : am_M), rc167 P l0 I = some y → sm_T D 167 [.inr l0] (I, P, nx, sl) ((sm_g2 P nx sl) y)) (hD : 3 ≤ D) (l0 : Nat) (s0 : Nat) (I : am_M) (o1 : Option am_V) (o2 : Option am_V) (o3 : Option am_V) : sm D am_d169 173 [some (.inr l0), o1, o2, o3] [.inr s0] (I, P, nx, sl) (sm_g2 P nx sl) (fM_readValue_O_J173 rc167 P l0 s0 I) := by
  unfold fM_readValue_O_J173
  refine r_const (x := 1) rfl rfl ?_
  refine r_goto rfl ?_
  exact AfM_readValue_O_J178 hrc167 hD l0 1 s0 I o1 o2 o3
noncomputable def fM_readValue_O_B32 (rc167 : am_Q → Nat → am_M → Option (am_M)) (P : am_Q) (e32_80 : Nat → Int32 → am_M → Option (am_M)) (r32 : Nat → Int32 → Int32 → am_M → Option (am_M)) (l0 : Nat) (l2 : Int32) (l3 : Int32) (I : am_M) : Option (am_M) :=
  if 2 ≤ l3 then
    (e32_80 l0 l2 I)
  else
    (sm_ck (am_t l0 = 13) <|
    Option.bind (fM_byteHere I P l0) fun y29 =>
    Option.bind (fM_within y29 48 57) fun y30 =>
    if y30 = 0 then
      (e32_80 l0 l2 I)
    else
      (Option.bind (fM_byteHere I P l0) fun y32 =>
      sm_bd (((10 * l2) + y32) - 48) fun x33 =>
      sm_bd (am_up I l0 38 ((I l0 38) + 1)) fun I34 =>
      sm_bd (l3 + 1) fun x35 =>
      r32 l0 x33 x35 I34))
set_option maxRecDepth 100000 in
theorem AfM_readValue_O_B32 {D : Nat} {P : am_Q} {nx : Nat} {sl : Nat} {rc167 : am_Q → Nat → am_M → Option (am_M)} {e32_80 : Nat → Int32 → am_M → Option (am_M)} {r32 : Nat → Int32 → Int32 → am_M → Option (am_M)} (hrc167 : ∀ (l0 : Nat) (I : am_M) (P : am_Q) (nx : Nat) (sl : Nat) (y : am_M), rc167 P l0 I = some y → sm_T D 167 [.inr l0] (I, P, nx, sl) ((sm_g2 P nx sl) y)) (hD : 3 ≤ D) (he32_80 : ∀ (l0 : Nat) (l2 : Int32) (I : am_M) (o1 : Option am_V) (o3 : Option am_V), sm D am_d169 80 [some (.inr l0), o1, some (.inl l2), o3] [] (I, P, nx, sl) (sm_g2 P nx sl) (e32_80 l0 l2 I)) (hr32 : ∀ (l0 : Nat) (l2 : Int32) (l3 : Int32) (I : am_M) (o1 : Option am_V), sm D am_d169 32 [some (.inr l0), o1, some (.inl l2), some (.inl l3)] [] (I, P, nx, sl) (sm_g2 P nx sl) (r32 l0 l2 l3 I)) (l0 : Nat) (l2 : Int32) (l3 : Int32) (I : am_M) (o1 : Option am_V) : sm D am_d169 32 [some (.inr l0), o1, some (.inl l2), some (.inl l3)] [] (I, P, nx, sl) (sm_g2 P nx sl) (fM_readValue_O_B32 rc167 P e32_80 r32 l0 l2 l3 I) := by
  unfold fM_readValue_O_B32
  refine r_iload rfl rfl ?_
  refine r_const (x := 2) rfl rfl ?_
  refine r_icmp rfl rfl (fun c27 => ?_) (fun c27 => ?_)
  · exact he32_80 l0 l2 I o1 (some (.inl l3))
  · refine r_ck (fun h28 => ?_)
    refine r_aload rfl rfl (am_nz h28) ?_
    refine r_call0 rfl rfl h28 (fun y hy => sm_T_mono (show 0 + 1 ≤ D by omega) (AfM_byteHere (dp := 0) hy)) (fun y29 => ?_)
    refine r_const (x := 48) rfl rfl ?_
    refine r_const (x := 57) rfl rfl ?_
    refine r_call0 rfl rfl trivial (fun y hy => sm_T_mono (show 0 + 1 ≤ D by omega) (AfM_within (dp := 0) hy)) (fun y30 => ?_)
    refine r_if rfl rfl (fun c31 => ?_) (fun c31 => ?_)
    · exact he32_80 l0 l2 I o1 (some (.inl l3))
    · refine r_const (x := 10) rfl rfl ?_
      refine r_iload rfl rfl ?_
      refine r_bin (z := 10 * l2) rfl rfl (by decide) ?_
      refine r_aload rfl rfl (am_nz h28) ?_
      refine r_call0 rfl rfl h28 (fun y hy => sm_T_mono (show 0 + 1 ≤ D by omega) (AfM_byteHere (dp := 0) hy)) (fun y32 => ?_)
      refine r_bin (z := (10 * l2) + y32) rfl rfl (by decide) ?_
      refine r_const (x := 48) rfl rfl ?_
      refine r_bin (z := ((10 * l2) + y32) - 48) rfl rfl (by decide) ?_
      refine r_bd (fun x33 => ?_)
      refine r_istore (ls' := [some (.inr l0), o1, some (.inl x33), some (.inl l3)]) rfl (Nat.le_of_ble_eq_true rfl) rfl ?_
      refine r_aload rfl rfl (am_nz h28) ?_
      refine r_dup rfl ?_
      refine r_getI rfl h28 ?_
      refine r_const (x := 1) rfl rfl ?_
      refine r_bin (z := (I l0 38) + 1) rfl rfl (by decide) ?_
      refine r_putI rfl h28 (fun hz => absurd hz (by decide)) (fun I34 => ?_)
      refine r_iinc (e := l3 + 1) (ls' := fun x35 => [some (.inr l0), o1, some (.inl x33), some (.inl x35)]) rfl rfl rfl (fun _ => rfl) (fun x35 => ?_)
      refine r_goto rfl ?_
      exact hr32 l0 x33 x35 I34 o1
noncomputable def fM_readValue_O_L32 (rc167 : am_Q → Nat → am_M → Option (am_M)) (P : am_Q) (e32_80 : Nat → Int32 → am_M → Option (am_M)) : Nat → Nat → Int32 → Int32 → am_M → Option (am_M)
  | 0, _, _, _, _ => none
  | n + 1, l0, l2, l3, I => fM_readValue_O_B32 rc167 P e32_80 (fM_readValue_O_L32 rc167 P e32_80 n) l0 l2 l3 I
theorem AfM_readValue_O_L32 {D : Nat} {P : am_Q} {nx : Nat} {sl : Nat} {rc167 : am_Q → Nat → am_M → Option (am_M)} {e32_80 : Nat → Int32 → am_M → Option (am_M)} (hrc167 : ∀ (l0 : Nat) (I : am_M) (P : am_Q) (nx : Nat) (sl : Nat) (y : am_M), rc167 P l0 I = some y → sm_T D 167 [.inr l0] (I, P, nx, sl) ((sm_g2 P nx sl) y)) (hD : 3 ≤ D) (he32_80 : ∀ (l0 : Nat) (l2 : Int32) (I : am_M) (o1 : Option am_V) (o3 : Option am_V), sm D am_d169 80 [some (.inr l0), o1, some (.inl l2), o3] [] (I, P, nx, sl) (sm_g2 P nx sl) (e32_80 l0 l2 I)) (n : Nat) : ∀ (l0 : Nat) (l2 : Int32) (l3 : Int32) (I : am_M) (o1 : Option am_V), sm D am_d169 32 [some (.inr l0), o1, some (.inl l2), some (.inl l3)] [] (I, P, nx, sl) (sm_g2 P nx sl) (fM_readValue_O_L32 rc167 P e32_80 n l0 l2 l3 I) := by
  induction n with
  | zero => intro l0 l2 l3 I o1; exact sm_none
  | succ n ih => intro l0 l2 l3 I o1; exact AfM_readValue_O_B32 hrc167 hD he32_80 ih l0 l2 l3 I o1
noncomputable def fM_readValue_O (rc167 : am_Q → Nat → am_M → Option (am_M)) (P : am_Q) (l0 : Nat) (I : am_M) : Option (am_M) :=
  sm_ck (am_t l0 = 13) <|
  if (I l0 40) = 0 then
    (Option.bind (fM_skips P l0 I) fun y3 =>
    Option.bind (fM_byteHere y3 P l0) fun y4 =>
    Option.bind (fM_within y4 48 57) fun y5 =>
    if y5 = 0 then
      (Option.bind (fM_nameOf y4) fun y7 =>
      if y7 < 0 then
        (if ¬ y4 = 40 then
          (sm_bd (am_up y3 l0 40 1) fun I10 =>
          some I10)
        else
          (if 4 ≤ (y3 l0 39) then
            (sm_bd (am_up y3 l0 40 1) fun I12 =>
            some I12)
          else
            (sm_bd (am_up y3 l0 38 ((y3 l0 38) + 1)) fun I13 =>
            sm_bd (am_up I13 l0 39 ((I13 l0 39) + 1)) fun I14 =>
            Option.bind (rc167 P l0 I14) fun y15 =>
            if ¬ (y15 l0 40) = 0 then
              (fM_readValue_O_J173 rc167 P l0 l0 y15)
            else
              (Option.bind (fM_may P l0 41 y15) fun y22 =>
              if ¬ y22.1 = 0 then
                (fM_readValue_O_J178 rc167 P l0 0 l0 y22.2)
              else
                (fM_readValue_O_J173 rc167 P l0 l0 y22.2)))))
      else
        (sm_bd (am_up y3 l0 38 ((y3 l0 38) + 1)) fun I24 =>
        Option.bind (fM_nameOf y4) fun y25 =>
        Option.bind (fM_does P l0 1 y25 I24) fun y26 =>
        some y26))
    else
      (fM_readValue_O_L32 rc167 P (fun l0 l2 I =>
          sm_ck (am_t l0 = 13) <|
          Option.bind (fM_does P l0 0 l2 I) fun y37 =>
          some y37) sm_fu l0 0 0 y3))
  else
    (some I)
set_option maxRecDepth 100000 in
theorem AfM_readValue_O {D : Nat} {P : am_Q} {nx : Nat} {sl : Nat} {rc167 : am_Q → Nat → am_M → Option (am_M)} {I : am_M} {l0 : Nat} (hrc167 : ∀ (l0 : Nat) (I : am_M) (P : am_Q) (nx : Nat) (sl : Nat) (y : am_M), rc167 P l0 I = some y → sm_T D 167 [.inr l0] (I, P, nx, sl) ((sm_g2 P nx sl) y)) (hD : 3 ≤ D) {y : am_M} (hy : fM_readValue_O rc167 P l0 I = some y) : sm_T (D + 1) 169 [.inr l0] (I, P, nx, sl) ((sm_g2 P nx sl) y) := by
  refine r_meth (d := am_d169) (dp := D) (ls0 := [some (.inr l0), none, none, none]) rfl (by decide) rfl rfl ?_ hy
  unfold fM_readValue_O
  refine r_ck (fun h1 => ?_)
  refine r_aload rfl rfl (am_nz h1) ?_
  refine r_getI rfl h1 ?_
  refine r_if rfl rfl (fun c2 => ?_) (fun c2 => ?_)
  · refine r_aload rfl rfl (am_nz h1) ?_
    refine r_call2 rfl rfl h1 (fun y hy => sm_T_mono (show 0 + 2 ≤ D by omega) (AfM_skips (dp := 0) hy)) (fun y3 => ?_)
    refine r_aload rfl rfl (am_nz h1) ?_
    refine r_call0 rfl rfl h1 (fun y hy => sm_T_mono (show 0 + 1 ≤ D by omega) (AfM_byteHere (dp := 0) hy)) (fun y4 => ?_)
    refine r_istore (ls' := [some (.inr l0), some (.inl y4), none, none]) rfl (Nat.le_of_ble_eq_true rfl) rfl ?_
    refine r_iload rfl rfl ?_
    refine r_const (x := 48) rfl rfl ?_
    refine r_const (x := 57) rfl rfl ?_
    refine r_call0 rfl rfl trivial (fun y hy => sm_T_mono (show 0 + 1 ≤ D by omega) (AfM_within (dp := 0) hy)) (fun y5 => ?_)
    refine r_if rfl rfl (fun c6 => ?_) (fun c6 => ?_)
    · refine r_iload rfl rfl ?_
      refine r_call0 rfl rfl trivial (fun y hy => sm_T_mono (show 0 + 1 ≤ D by omega) (AfM_nameOf (dp := 0) hy)) (fun y7 => ?_)
      refine r_if rfl rfl (fun c8 => ?_) (fun c8 => ?_)
      · refine r_iload rfl rfl ?_
        refine r_const (x := 40) rfl rfl ?_
        refine r_icmp rfl rfl (fun c9 => ?_) (fun c9 => ?_)
        · refine r_aload rfl rfl (am_nz h1) ?_
          refine r_const (x := 1) rfl rfl ?_
          refine r_putI rfl h1 (fun _ => sm_011) (fun I10 => ?_)
          exact r_return rfl rfl
        · refine r_aload rfl rfl (am_nz h1) ?_
          refine r_getI rfl h1 ?_
          refine r_const (x := 4) rfl rfl ?_
          refine r_icmp rfl rfl (fun c11 => ?_) (fun c11 => ?_)
          · refine r_aload rfl rfl (am_nz h1) ?_
            refine r_const (x := 1) rfl rfl ?_
            refine r_putI rfl h1 (fun _ => sm_011) (fun I12 => ?_)
            exact r_return rfl rfl
          · refine r_aload rfl rfl (am_nz h1) ?_
            refine r_dup rfl ?_
            refine r_getI rfl h1 ?_
            refine r_const (x := 1) rfl rfl ?_
            refine r_bin (z := (y3 l0 38) + 1) rfl rfl (by decide) ?_
            refine r_putI rfl h1 (fun hz => absurd hz (by decide)) (fun I13 => ?_)
            refine r_aload rfl rfl (am_nz h1) ?_
            refine r_dup rfl ?_
            refine r_getI rfl h1 ?_
            refine r_const (x := 1) rfl rfl ?_
            refine r_bin (z := (I13 l0 39) + 1) rfl rfl (by decide) ?_
            refine r_putI rfl h1 (fun hz => absurd hz (by decide)) (fun I14 => ?_)
            refine r_aload rfl rfl (am_nz h1) ?_
            refine r_call2 rfl rfl h1 (fun y hy => hrc167 _ _ _ _ _ _ hy) (fun y15 => ?_)
            refine r_aload rfl rfl (am_nz h1) ?_
            refine r_aload rfl rfl (am_nz h1) ?_
            refine r_getI rfl h1 ?_
            refine r_if rfl rfl (fun c16 => ?_) (fun c16 => ?_)
            · exact AfM_readValue_O_J173 hrc167 hD l0 l0 y15 (some (.inl y4)) none none
            · refine r_aload rfl rfl (am_nz h1) ?_
              refine r_const (x := 41) rfl rfl ?_
              refine r_call1 rfl rfl h1 (fun y hy => sm_T_mono (show 0 + 3 ≤ D by omega) (AfM_may (dp := 0) hy)) (fun y22 => ?_)
              refine r_if rfl rfl (fun c23 => ?_) (fun c23 => ?_)
              · refine r_const (x := 0) rfl rfl ?_
                exact AfM_readValue_O_J178 hrc167 hD l0 0 l0 y22.2 (some (.inl y4)) none none
              · exact AfM_readValue_O_J173 hrc167 hD l0 l0 y22.2 (some (.inl y4)) none none
      · refine r_aload rfl rfl (am_nz h1) ?_
        refine r_dup rfl ?_
        refine r_getI rfl h1 ?_
        refine r_const (x := 1) rfl rfl ?_
        refine r_bin (z := (y3 l0 38) + 1) rfl rfl (by decide) ?_
        refine r_putI rfl h1 (fun hz => absurd hz (by decide)) (fun I24 => ?_)
        refine r_aload rfl rfl (am_nz h1) ?_
        refine r_const (x := 1) rfl rfl ?_
        refine r_iload rfl rfl ?_
        refine r_call0 rfl rfl trivial (fun y hy => sm_T_mono (show 0 + 1 ≤ D by omega) (AfM_nameOf (dp := 0) hy)) (fun y25 => ?_)
        refine r_call2 rfl rfl h1 (fun y hy => sm_T_mono (show 0 + 1 ≤ D by omega) (AfM_does (dp := 0) hy)) (fun y26 => ?_)
        refine r_goto rfl ?_
        exact r_return rfl rfl
    · refine r_const (x := 0) rfl rfl ?_
      refine r_istore (ls' := [some (.inr l0), some (.inl y4), some (.inl 0), none]) rfl (Nat.le_of_ble_eq_true rfl) rfl ?_
      refine r_const (x := 0) rfl rfl ?_
      refine r_istore (ls' := [some (.inr l0), some (.inl y4), some (.inl 0), some (.inl 0)]) rfl (Nat.le_of_ble_eq_true rfl) rfl ?_
      refine AfM_readValue_O_L32 hrc167 hD ?_ sm_fu l0 0 0 y3 (some (.inl y4))
      · intro l0 l2 I o1 o3
        refine r_ck (fun h36 => ?_)
        refine r_aload rfl rfl (am_nz h36) ?_
        refine r_const (x := 0) rfl rfl ?_
        refine r_iload rfl rfl ?_
        refine r_call2 rfl rfl h36 (fun y hy => sm_T_mono (show 0 + 1 ≤ D by omega) (AfM_does (dp := 0) hy)) (fun y37 => ?_)
        refine r_goto rfl ?_
        exact r_return rfl rfl
  · exact r_return rfl rfl
noncomputable def fM_readOne_O_J77 (rc169 : am_Q → Nat → am_M → Option (am_M)) (P : am_Q) (r34 : Nat → Int32 → am_M → Option (am_M)) (l0 : Nat) (s0 : Int32) (I : am_M) : Option (am_M) :=
  r34 l0 s0 I
set_option maxRecDepth 100000 in
theorem AfM_readOne_O_J77 {D : Nat} {P : am_Q} {nx : Nat} {sl : Nat} {rc169 : am_Q → Nat → am_M → Option (am_M)} {r34 : Nat → Int32 → am_M → Option (am_M)} (hrc169 : ∀ (l0 : Nat) (I : am_M) (P : am_Q) (nx : Nat) (sl : Nat) (y : am_M), rc169 P l0 I = some y → sm_T D 169 [.inr l0] (I, P, nx, sl) ((sm_g2 P nx sl) y)) (hD : 3 ≤ D) (hr34 : ∀ (l0 : Nat) (l1 : Int32) (I : am_M), sm D am_d168 34 [some (.inr l0), some (.inl l1)] [] (I, P, nx, sl) (sm_g2 P nx sl) (r34 l0 l1 I)) (l0 : Nat) (s0 : Int32) (I : am_M) (o1 : Option am_V) : sm D am_d168 77 [some (.inr l0), o1] [.inl s0] (I, P, nx, sl) (sm_g2 P nx sl) (fM_readOne_O_J77 rc169 P r34 l0 s0 I) := by
  unfold fM_readOne_O_J77
  refine r_istore (ls' := [some (.inr l0), some (.inl s0)]) rfl (Nat.le_of_ble_eq_true rfl) rfl ?_
  refine r_goto rfl ?_
  exact hr34 l0 s0 I
noncomputable def fM_readOne_O_B34 (rc169 : am_Q → Nat → am_M → Option (am_M)) (P : am_Q) (e34_81 : am_M → Option (am_M)) (r34 : Nat → Int32 → am_M → Option (am_M)) (l0 : Nat) (l1 : Int32) (I : am_M) : Option (am_M) :=
  if l1 = 0 then
    (e34_81 I)
  else
    (sm_ck (am_t l0 = 13) <|
    Option.bind (rc169 P l0 I) fun y9 =>
    Option.bind (fM_does P l0 2 l1 y9) fun y10 =>
    Option.bind (fM_may P l0 42 y10) fun y11 =>
    if y11.1 = 0 then
      (Option.bind (fM_may P l0 37 y11.2) fun y13 =>
      if y13.1 = 0 then
        (fM_readOne_O_J77 rc169 P r34 l0 0 y13.2)
      else
        (fM_readOne_O_J77 rc169 P r34 l0 37 y13.2))
    else
      (fM_readOne_O_J77 rc169 P r34 l0 42 y11.2))
set_option maxRecDepth 100000 in
theorem AfM_readOne_O_B34 {D : Nat} {P : am_Q} {nx : Nat} {sl : Nat} {rc169 : am_Q → Nat → am_M → Option (am_M)} {e34_81 : am_M → Option (am_M)} {r34 : Nat → Int32 → am_M → Option (am_M)} (hrc169 : ∀ (l0 : Nat) (I : am_M) (P : am_Q) (nx : Nat) (sl : Nat) (y : am_M), rc169 P l0 I = some y → sm_T D 169 [.inr l0] (I, P, nx, sl) ((sm_g2 P nx sl) y)) (hD : 3 ≤ D) (he34_81 : ∀ (I : am_M) (o0 : Option am_V) (o1 : Option am_V), sm D am_d168 81 [o0, o1] [] (I, P, nx, sl) (sm_g2 P nx sl) (e34_81 I)) (hr34 : ∀ (l0 : Nat) (l1 : Int32) (I : am_M), sm D am_d168 34 [some (.inr l0), some (.inl l1)] [] (I, P, nx, sl) (sm_g2 P nx sl) (r34 l0 l1 I)) (l0 : Nat) (l1 : Int32) (I : am_M) : sm D am_d168 34 [some (.inr l0), some (.inl l1)] [] (I, P, nx, sl) (sm_g2 P nx sl) (fM_readOne_O_B34 rc169 P e34_81 r34 l0 l1 I) := by
  unfold fM_readOne_O_B34
  refine r_iload rfl rfl ?_
  refine r_if rfl rfl (fun c7 => ?_) (fun c7 => ?_)
  · exact he34_81 I (some (.inr l0)) (some (.inl l1))
  · refine r_ck (fun h8 => ?_)
    refine r_aload rfl rfl (am_nz h8) ?_
    refine r_call2 rfl rfl h8 (fun y hy => hrc169 _ _ _ _ _ _ hy) (fun y9 => ?_)
    refine r_aload rfl rfl (am_nz h8) ?_
    refine r_const (x := 2) rfl rfl ?_
    refine r_iload rfl rfl ?_
    refine r_call2 rfl rfl h8 (fun y hy => sm_T_mono (show 0 + 1 ≤ D by omega) (AfM_does (dp := 0) hy)) (fun y10 => ?_)
    refine r_aload rfl rfl (am_nz h8) ?_
    refine r_const (x := 42) rfl rfl ?_
    refine r_call1 rfl rfl h8 (fun y hy => sm_T_mono (show 0 + 3 ≤ D by omega) (AfM_may (dp := 0) hy)) (fun y11 => ?_)
    refine r_if rfl rfl (fun c12 => ?_) (fun c12 => ?_)
    · refine r_aload rfl rfl (am_nz h8) ?_
      refine r_const (x := 37) rfl rfl ?_
      refine r_call1 rfl rfl h8 (fun y hy => sm_T_mono (show 0 + 3 ≤ D by omega) (AfM_may (dp := 0) hy)) (fun y13 => ?_)
      refine r_if rfl rfl (fun c14 => ?_) (fun c14 => ?_)
      · refine r_const (x := 0) rfl rfl ?_
        exact AfM_readOne_O_J77 hrc169 hD hr34 l0 0 y13.2 (some (.inl l1))
      · refine r_const (x := 37) rfl rfl ?_
        refine r_goto rfl ?_
        exact AfM_readOne_O_J77 hrc169 hD hr34 l0 37 y13.2 (some (.inl l1))
    · refine r_const (x := 42) rfl rfl ?_
      refine r_goto rfl ?_
      exact AfM_readOne_O_J77 hrc169 hD hr34 l0 42 y11.2 (some (.inl l1))
noncomputable def fM_readOne_O_L34 (rc169 : am_Q → Nat → am_M → Option (am_M)) (P : am_Q) (e34_81 : am_M → Option (am_M)) : Nat → Nat → Int32 → am_M → Option (am_M)
  | 0, _, _, _ => none
  | n + 1, l0, l1, I => fM_readOne_O_B34 rc169 P e34_81 (fM_readOne_O_L34 rc169 P e34_81 n) l0 l1 I
theorem AfM_readOne_O_L34 {D : Nat} {P : am_Q} {nx : Nat} {sl : Nat} {rc169 : am_Q → Nat → am_M → Option (am_M)} {e34_81 : am_M → Option (am_M)} (hrc169 : ∀ (l0 : Nat) (I : am_M) (P : am_Q) (nx : Nat) (sl : Nat) (y : am_M), rc169 P l0 I = some y → sm_T D 169 [.inr l0] (I, P, nx, sl) ((sm_g2 P nx sl) y)) (hD : 3 ≤ D) (he34_81 : ∀ (I : am_M) (o0 : Option am_V) (o1 : Option am_V), sm D am_d168 81 [o0, o1] [] (I, P, nx, sl) (sm_g2 P nx sl) (e34_81 I)) (n : Nat) : ∀ (l0 : Nat) (l1 : Int32) (I : am_M), sm D am_d168 34 [some (.inr l0), some (.inl l1)] [] (I, P, nx, sl) (sm_g2 P nx sl) (fM_readOne_O_L34 rc169 P e34_81 n l0 l1 I) := by
  induction n with
  | zero => intro l0 l1 I; exact sm_none
  | succ n ih => intro l0 l1 I; exact AfM_readOne_O_B34 hrc169 hD he34_81 ih l0 l1 I
noncomputable def fM_readOne_O_J33 (rc169 : am_Q → Nat → am_M → Option (am_M)) (P : am_Q) (l0 : Nat) (s0 : Int32) (I : am_M) : Option (am_M) :=
  fM_readOne_O_L34 rc169 P (fun I =>
      some I) sm_fu l0 s0 I
set_option maxRecDepth 100000 in
theorem AfM_readOne_O_J33 {D : Nat} {P : am_Q} {nx : Nat} {sl : Nat} {rc169 : am_Q → Nat → am_M → Option (am_M)} (hrc169 : ∀ (l0 : Nat) (I : am_M) (P : am_Q) (nx : Nat) (sl : Nat) (y : am_M), rc169 P l0 I = some y → sm_T D 169 [.inr l0] (I, P, nx, sl) ((sm_g2 P nx sl) y)) (hD : 3 ≤ D) (l0 : Nat) (s0 : Int32) (I : am_M) (o1 : Option am_V) : sm D am_d168 33 [some (.inr l0), o1] [.inl s0] (I, P, nx, sl) (sm_g2 P nx sl) (fM_readOne_O_J33 rc169 P l0 s0 I) := by
  unfold fM_readOne_O_J33
  refine r_istore (ls' := [some (.inr l0), some (.inl s0)]) rfl (Nat.le_of_ble_eq_true rfl) rfl ?_
  refine AfM_readOne_O_L34 hrc169 hD ?_ sm_fu l0 s0 I
  · intro I o0 o1
    exact r_return rfl rfl
noncomputable def fM_readOne_O (rc169 : am_Q → Nat → am_M → Option (am_M)) (P : am_Q) (l0 : Nat) (I : am_M) : Option (am_M) :=
  sm_ck (am_t l0 = 13) <|
  Option.bind (rc169 P l0 I) fun y2 =>
  Option.bind (fM_may P l0 42 y2) fun y3 =>
  if y3.1 = 0 then
    (Option.bind (fM_may P l0 37 y3.2) fun y5 =>
    if y5.1 = 0 then
      (fM_readOne_O_J33 rc169 P l0 0 y5.2)
    else
      (fM_readOne_O_J33 rc169 P l0 37 y5.2))
  else
    (fM_readOne_O_J33 rc169 P l0 42 y3.2)
set_option maxRecDepth 100000 in
theorem AfM_readOne_O {D : Nat} {P : am_Q} {nx : Nat} {sl : Nat} {rc169 : am_Q → Nat → am_M → Option (am_M)} {I : am_M} {l0 : Nat} (hrc169 : ∀ (l0 : Nat) (I : am_M) (P : am_Q) (nx : Nat) (sl : Nat) (y : am_M), rc169 P l0 I = some y → sm_T D 169 [.inr l0] (I, P, nx, sl) ((sm_g2 P nx sl) y)) (hD : 3 ≤ D) {y : am_M} (hy : fM_readOne_O rc169 P l0 I = some y) : sm_T (D + 1) 168 [.inr l0] (I, P, nx, sl) ((sm_g2 P nx sl) y) := by
  refine r_meth (d := am_d168) (dp := D) (ls0 := [some (.inr l0), none]) rfl (by decide) rfl rfl ?_ hy
  unfold fM_readOne_O
  refine r_ck (fun h1 => ?_)
  refine r_aload rfl rfl (am_nz h1) ?_
  refine r_call2 rfl rfl h1 (fun y hy => hrc169 _ _ _ _ _ _ hy) (fun y2 => ?_)
  refine r_aload rfl rfl (am_nz h1) ?_
  refine r_const (x := 42) rfl rfl ?_
  refine r_call1 rfl rfl h1 (fun y hy => sm_T_mono (show 0 + 3 ≤ D by omega) (AfM_may (dp := 0) hy)) (fun y3 => ?_)
  refine r_if rfl rfl (fun c4 => ?_) (fun c4 => ?_)
  · refine r_aload rfl rfl (am_nz h1) ?_
    refine r_const (x := 37) rfl rfl ?_
    refine r_call1 rfl rfl h1 (fun y hy => sm_T_mono (show 0 + 3 ≤ D by omega) (AfM_may (dp := 0) hy)) (fun y5 => ?_)
    refine r_if rfl rfl (fun c6 => ?_) (fun c6 => ?_)
    · refine r_const (x := 0) rfl rfl ?_
      exact AfM_readOne_O_J33 hrc169 hD l0 0 y5.2 none
    · refine r_const (x := 37) rfl rfl ?_
      refine r_goto rfl ?_
      exact AfM_readOne_O_J33 hrc169 hD l0 37 y5.2 none
  · refine r_const (x := 42) rfl rfl ?_
    refine r_goto rfl ?_
    exact AfM_readOne_O_J33 hrc169 hD l0 42 y3.2 none
noncomputable def fM_readSum_O_J77 (rc168 : am_Q → Nat → am_M → Option (am_M)) (P : am_Q) (r34 : Nat → Int32 → am_M → Option (am_M)) (l0 : Nat) (s0 : Int32) (I : am_M) : Option (am_M) :=
  r34 l0 s0 I
set_option maxRecDepth 100000 in
theorem AfM_readSum_O_J77 {D : Nat} {P : am_Q} {nx : Nat} {sl : Nat} {rc168 : am_Q → Nat → am_M → Option (am_M)} {r34 : Nat → Int32 → am_M → Option (am_M)} (hrc168 : ∀ (l0 : Nat) (I : am_M) (P : am_Q) (nx : Nat) (sl : Nat) (y : am_M), rc168 P l0 I = some y → sm_T D 168 [.inr l0] (I, P, nx, sl) ((sm_g2 P nx sl) y)) (hD : 3 ≤ D) (hr34 : ∀ (l0 : Nat) (l1 : Int32) (I : am_M), sm D am_d167 34 [some (.inr l0), some (.inl l1)] [] (I, P, nx, sl) (sm_g2 P nx sl) (r34 l0 l1 I)) (l0 : Nat) (s0 : Int32) (I : am_M) (o1 : Option am_V) : sm D am_d167 77 [some (.inr l0), o1] [.inl s0] (I, P, nx, sl) (sm_g2 P nx sl) (fM_readSum_O_J77 rc168 P r34 l0 s0 I) := by
  unfold fM_readSum_O_J77
  refine r_istore (ls' := [some (.inr l0), some (.inl s0)]) rfl (Nat.le_of_ble_eq_true rfl) rfl ?_
  refine r_goto rfl ?_
  exact hr34 l0 s0 I
noncomputable def fM_readSum_O_B34 (rc168 : am_Q → Nat → am_M → Option (am_M)) (P : am_Q) (e34_81 : am_M → Option (am_M)) (r34 : Nat → Int32 → am_M → Option (am_M)) (l0 : Nat) (l1 : Int32) (I : am_M) : Option (am_M) :=
  if l1 = 0 then
    (e34_81 I)
  else
    (sm_ck (am_t l0 = 13) <|
    Option.bind (rc168 P l0 I) fun y9 =>
    Option.bind (fM_does P l0 2 l1 y9) fun y10 =>
    Option.bind (fM_may P l0 43 y10) fun y11 =>
    if y11.1 = 0 then
      (Option.bind (fM_may P l0 45 y11.2) fun y13 =>
      if y13.1 = 0 then
        (fM_readSum_O_J77 rc168 P r34 l0 0 y13.2)
      else
        (fM_readSum_O_J77 rc168 P r34 l0 45 y13.2))
    else
      (fM_readSum_O_J77 rc168 P r34 l0 43 y11.2))
set_option maxRecDepth 100000 in
theorem AfM_readSum_O_B34 {D : Nat} {P : am_Q} {nx : Nat} {sl : Nat} {rc168 : am_Q → Nat → am_M → Option (am_M)} {e34_81 : am_M → Option (am_M)} {r34 : Nat → Int32 → am_M → Option (am_M)} (hrc168 : ∀ (l0 : Nat) (I : am_M) (P : am_Q) (nx : Nat) (sl : Nat) (y : am_M), rc168 P l0 I = some y → sm_T D 168 [.inr l0] (I, P, nx, sl) ((sm_g2 P nx sl) y)) (hD : 3 ≤ D) (he34_81 : ∀ (I : am_M) (o0 : Option am_V) (o1 : Option am_V), sm D am_d167 81 [o0, o1] [] (I, P, nx, sl) (sm_g2 P nx sl) (e34_81 I)) (hr34 : ∀ (l0 : Nat) (l1 : Int32) (I : am_M), sm D am_d167 34 [some (.inr l0), some (.inl l1)] [] (I, P, nx, sl) (sm_g2 P nx sl) (r34 l0 l1 I)) (l0 : Nat) (l1 : Int32) (I : am_M) : sm D am_d167 34 [some (.inr l0), some (.inl l1)] [] (I, P, nx, sl) (sm_g2 P nx sl) (fM_readSum_O_B34 rc168 P e34_81 r34 l0 l1 I) := by
  unfold fM_readSum_O_B34
  refine r_iload rfl rfl ?_
  refine r_if rfl rfl (fun c7 => ?_) (fun c7 => ?_)
  · exact he34_81 I (some (.inr l0)) (some (.inl l1))
  · refine r_ck (fun h8 => ?_)
    refine r_aload rfl rfl (am_nz h8) ?_
    refine r_call2 rfl rfl h8 (fun y hy => hrc168 _ _ _ _ _ _ hy) (fun y9 => ?_)
    refine r_aload rfl rfl (am_nz h8) ?_
    refine r_const (x := 2) rfl rfl ?_
    refine r_iload rfl rfl ?_
    refine r_call2 rfl rfl h8 (fun y hy => sm_T_mono (show 0 + 1 ≤ D by omega) (AfM_does (dp := 0) hy)) (fun y10 => ?_)
    refine r_aload rfl rfl (am_nz h8) ?_
    refine r_const (x := 43) rfl rfl ?_
    refine r_call1 rfl rfl h8 (fun y hy => sm_T_mono (show 0 + 3 ≤ D by omega) (AfM_may (dp := 0) hy)) (fun y11 => ?_)
    refine r_if rfl rfl (fun c12 => ?_) (fun c12 => ?_)
    · refine r_aload rfl rfl (am_nz h8) ?_
      refine r_const (x := 45) rfl rfl ?_
      refine r_call1 rfl rfl h8 (fun y hy => sm_T_mono (show 0 + 3 ≤ D by omega) (AfM_may (dp := 0) hy)) (fun y13 => ?_)
      refine r_if rfl rfl (fun c14 => ?_) (fun c14 => ?_)
      · refine r_const (x := 0) rfl rfl ?_
        exact AfM_readSum_O_J77 hrc168 hD hr34 l0 0 y13.2 (some (.inl l1))
      · refine r_const (x := 45) rfl rfl ?_
        refine r_goto rfl ?_
        exact AfM_readSum_O_J77 hrc168 hD hr34 l0 45 y13.2 (some (.inl l1))
    · refine r_const (x := 43) rfl rfl ?_
      refine r_goto rfl ?_
      exact AfM_readSum_O_J77 hrc168 hD hr34 l0 43 y11.2 (some (.inl l1))
noncomputable def fM_readSum_O_L34 (rc168 : am_Q → Nat → am_M → Option (am_M)) (P : am_Q) (e34_81 : am_M → Option (am_M)) : Nat → Nat → Int32 → am_M → Option (am_M)
  | 0, _, _, _ => none
  | n + 1, l0, l1, I => fM_readSum_O_B34 rc168 P e34_81 (fM_readSum_O_L34 rc168 P e34_81 n) l0 l1 I
theorem AfM_readSum_O_L34 {D : Nat} {P : am_Q} {nx : Nat} {sl : Nat} {rc168 : am_Q → Nat → am_M → Option (am_M)} {e34_81 : am_M → Option (am_M)} (hrc168 : ∀ (l0 : Nat) (I : am_M) (P : am_Q) (nx : Nat) (sl : Nat) (y : am_M), rc168 P l0 I = some y → sm_T D 168 [.inr l0] (I, P, nx, sl) ((sm_g2 P nx sl) y)) (hD : 3 ≤ D) (he34_81 : ∀ (I : am_M) (o0 : Option am_V) (o1 : Option am_V), sm D am_d167 81 [o0, o1] [] (I, P, nx, sl) (sm_g2 P nx sl) (e34_81 I)) (n : Nat) : ∀ (l0 : Nat) (l1 : Int32) (I : am_M), sm D am_d167 34 [some (.inr l0), some (.inl l1)] [] (I, P, nx, sl) (sm_g2 P nx sl) (fM_readSum_O_L34 rc168 P e34_81 n l0 l1 I) := by
  induction n with
  | zero => intro l0 l1 I; exact sm_none
  | succ n ih => intro l0 l1 I; exact AfM_readSum_O_B34 hrc168 hD he34_81 ih l0 l1 I
noncomputable def fM_readSum_O_J33 (rc168 : am_Q → Nat → am_M → Option (am_M)) (P : am_Q) (l0 : Nat) (s0 : Int32) (I : am_M) : Option (am_M) :=
  fM_readSum_O_L34 rc168 P (fun I =>
      some I) sm_fu l0 s0 I
set_option maxRecDepth 100000 in
theorem AfM_readSum_O_J33 {D : Nat} {P : am_Q} {nx : Nat} {sl : Nat} {rc168 : am_Q → Nat → am_M → Option (am_M)} (hrc168 : ∀ (l0 : Nat) (I : am_M) (P : am_Q) (nx : Nat) (sl : Nat) (y : am_M), rc168 P l0 I = some y → sm_T D 168 [.inr l0] (I, P, nx, sl) ((sm_g2 P nx sl) y)) (hD : 3 ≤ D) (l0 : Nat) (s0 : Int32) (I : am_M) (o1 : Option am_V) : sm D am_d167 33 [some (.inr l0), o1] [.inl s0] (I, P, nx, sl) (sm_g2 P nx sl) (fM_readSum_O_J33 rc168 P l0 s0 I) := by
  unfold fM_readSum_O_J33
  refine r_istore (ls' := [some (.inr l0), some (.inl s0)]) rfl (Nat.le_of_ble_eq_true rfl) rfl ?_
  refine AfM_readSum_O_L34 hrc168 hD ?_ sm_fu l0 s0 I
  · intro I o0 o1
    exact r_return rfl rfl
noncomputable def fM_readSum_O (rc168 : am_Q → Nat → am_M → Option (am_M)) (P : am_Q) (l0 : Nat) (I : am_M) : Option (am_M) :=
  sm_ck (am_t l0 = 13) <|
  Option.bind (rc168 P l0 I) fun y2 =>
  Option.bind (fM_may P l0 43 y2) fun y3 =>
  if y3.1 = 0 then
    (Option.bind (fM_may P l0 45 y3.2) fun y5 =>
    if y5.1 = 0 then
      (fM_readSum_O_J33 rc168 P l0 0 y5.2)
    else
      (fM_readSum_O_J33 rc168 P l0 45 y5.2))
  else
    (fM_readSum_O_J33 rc168 P l0 43 y3.2)
set_option maxRecDepth 100000 in
theorem AfM_readSum_O {D : Nat} {P : am_Q} {nx : Nat} {sl : Nat} {rc168 : am_Q → Nat → am_M → Option (am_M)} {I : am_M} {l0 : Nat} (hrc168 : ∀ (l0 : Nat) (I : am_M) (P : am_Q) (nx : Nat) (sl : Nat) (y : am_M), rc168 P l0 I = some y → sm_T D 168 [.inr l0] (I, P, nx, sl) ((sm_g2 P nx sl) y)) (hD : 3 ≤ D) {y : am_M} (hy : fM_readSum_O rc168 P l0 I = some y) : sm_T (D + 1) 167 [.inr l0] (I, P, nx, sl) ((sm_g2 P nx sl) y) := by
  refine r_meth (d := am_d167) (dp := D) (ls0 := [some (.inr l0), none]) rfl (by decide) rfl rfl ?_ hy
  unfold fM_readSum_O
  refine r_ck (fun h1 => ?_)
  refine r_aload rfl rfl (am_nz h1) ?_
  refine r_call2 rfl rfl h1 (fun y hy => hrc168 _ _ _ _ _ _ hy) (fun y2 => ?_)
  refine r_aload rfl rfl (am_nz h1) ?_
  refine r_const (x := 43) rfl rfl ?_
  refine r_call1 rfl rfl h1 (fun y hy => sm_T_mono (show 0 + 3 ≤ D by omega) (AfM_may (dp := 0) hy)) (fun y3 => ?_)
  refine r_if rfl rfl (fun c4 => ?_) (fun c4 => ?_)
  · refine r_aload rfl rfl (am_nz h1) ?_
    refine r_const (x := 45) rfl rfl ?_
    refine r_call1 rfl rfl h1 (fun y hy => sm_T_mono (show 0 + 3 ≤ D by omega) (AfM_may (dp := 0) hy)) (fun y5 => ?_)
    refine r_if rfl rfl (fun c6 => ?_) (fun c6 => ?_)
    · refine r_const (x := 0) rfl rfl ?_
      exact AfM_readSum_O_J33 hrc168 hD l0 0 y5.2 none
    · refine r_const (x := 45) rfl rfl ?_
      refine r_goto rfl ?_
      exact AfM_readSum_O_J33 hrc168 hD l0 45 y5.2 none
  · refine r_const (x := 43) rfl rfl ?_
    refine r_goto rfl ?_
    exact AfM_readSum_O_J33 hrc168 hD l0 43 y3.2 none
noncomputable def fM_orders : Nat → (Nat → Int32 → Int32 → am_M → am_Q → Nat → Nat → Option (am_S))
  | 0 => fun _ _ _ _ _ _ _ => none
  | n + 1 => fM_orders_O (fM_orders n)
theorem AfM_orders (n : Nat) : ∀ {D : Nat} (_ : 6 + n ≤ D) {l0 : Nat} {l1 l2 : Int32} {I : am_M} {P : am_Q} {nx sl : Nat} {y : am_S}, fM_orders n l0 l1 l2 I P nx sl = some y → sm_T D 209 [.inr l0, .inl l1, .inl l2] (I, P, nx, sl) (sm_g4 y) := by
  induction n with
  | zero => intro D hD l0 l1 l2 I P nx sl y hy; cases hy
  | succ n ih =>
    intro D hD l0 l1 l2 I P nx sl y hy
    obtain ⟨D, rfl⟩ : ∃ D', D = D' + 1 := ⟨D - 1, by omega⟩
    exact AfM_orders_O (rc209 := fM_orders n) (fun _ _ _ _ _ _ _ _ h => ih (by omega) h) (by omega) hy
noncomputable def fM_readSum : Nat → (am_Q → Nat → am_M → Option (am_M))
  | 0 => fun _ _ _ => none
  | n + 1 => fM_readSum_O (fM_readOne_O (fM_readValue_O (fM_readSum n)))
theorem AfM_readSum (n : Nat) : ∀ {D : Nat} (_ : 3 + 3 * n ≤ D) {l0 : Nat} {I : am_M} {P : am_Q} {nx sl : Nat} {y : am_M}, fM_readSum n P l0 I = some y → sm_T D 167 [.inr l0] (I, P, nx, sl) (sm_g2 P nx sl y) := by
  induction n with
  | zero => intro D hD l0 I P nx sl y hy; cases hy
  | succ n ih =>
    intro D hD l0 I P nx sl y hy
    obtain ⟨D, rfl⟩ : ∃ D', D = D' + 3 := ⟨D - 3, by omega⟩
    exact AfM_readSum_O (fun _ _ _ _ _ _ h => AfM_readOne_O (fun _ _ _ _ _ _ h => AfM_readValue_O (fun _ _ _ _ _ _ h => ih (by omega) h) (by omega) h) (by omega) h) (by omega) hy
noncomputable def fM_readLine_J50 (P : am_Q) (l0 : Nat) (s0 : Int32) (I : am_M) : Option (am_M) :=
  if 0 ≤ s0 then
    (sm_ck (am_t l0 = 13) <|
    sm_bd (am_up I l0 38 ((I l0 38) + 1)) fun I10 =>
    Option.bind (fM_may P l0 61 I10) fun y11 =>
    if ¬ y11.1 = 0 then
      (sm_bd (y11.2 l0 37) fun x13 =>
      Option.bind (fM_readSum 6 P l0 y11.2) fun y14 =>
      sm_ck (sm_iw (P l0 35) s0) <|
      sm_bd (am_up y14 (P l0 35) s0.toNatClampNeg x13) fun I16 =>
      sm_ck (sm_iw (P l0 36) s0) <|
      sm_bd (am_up I16 (P l0 36) s0.toNatClampNeg (I16 l0 37)) fun I18 =>
      some I18)
    else
      (sm_bd (am_up y11.2 l0 40 1) fun I19 =>
      some I19))
  else
    (sm_ck (am_t l0 = 13) <|
    sm_bd (am_up I l0 40 1) fun I21 =>
    some I21)
set_option maxRecDepth 100000 in
theorem AfM_readLine_J50 {dp : Nat} {P : am_Q} {nx : Nat} {sl : Nat} (l0 : Nat) (s0 : Int32) (I : am_M) (o1 : Option am_V) (o2 : Option am_V) (o3 : Option am_V) : sm (dp + 21) am_d163 50 [some (.inr l0), o1, o2, o3] [.inl s0] (I, P, nx, sl) (sm_g2 P nx sl) (fM_readLine_J50 P l0 s0 I) := by
  unfold fM_readLine_J50
  refine r_istore (ls' := [some (.inr l0), o1, some (.inl s0), o3]) rfl (Nat.le_of_ble_eq_true rfl) rfl ?_
  refine r_iload rfl rfl ?_
  refine r_if rfl rfl (fun c8 => ?_) (fun c8 => ?_)
  · refine r_ck (fun h9 => ?_)
    refine r_aload rfl rfl (am_nz h9) ?_
    refine r_dup rfl ?_
    refine r_getI rfl h9 ?_
    refine r_const (x := 1) rfl rfl ?_
    refine r_bin (z := (I l0 38) + 1) rfl rfl (by decide) ?_
    refine r_putI rfl h9 (fun hz => absurd hz (by decide)) (fun I10 => ?_)
    refine r_aload rfl rfl (am_nz h9) ?_
    refine r_const (x := 61) rfl rfl ?_
    refine r_call1 rfl rfl h9 (fun y hy => AfM_may (dp := dp + 18) hy) (fun y11 => ?_)
    refine r_if rfl rfl (fun c12 => ?_) (fun c12 => ?_)
    · refine r_aload rfl rfl (am_nz h9) ?_
      refine r_getI rfl h9 ?_
      refine r_bd (fun x13 => ?_)
      refine r_istore (ls' := [some (.inr l0), o1, some (.inl s0), some (.inl x13)]) rfl (Nat.le_of_ble_eq_true rfl) rfl ?_
      refine r_aload rfl rfl (am_nz h9) ?_
      refine r_call2 rfl rfl h9 (fun y hy => AfM_readSum 6 (D := dp + 21) (by omega) hy) (fun y14 => ?_)
      refine r_aload rfl rfl (am_nz h9) ?_
      refine r_getP rfl h9 ?_
      refine r_iload rfl rfl ?_
      refine r_iload rfl rfl ?_
      refine r_ck (fun h15 => ?_)
      refine r_iast rfl h15 (fun I16 => ?_)
      refine r_aload rfl rfl (am_nz h9) ?_
      refine r_getP rfl h9 ?_
      refine r_iload rfl rfl ?_
      refine r_aload rfl rfl (am_nz h9) ?_
      refine r_getI rfl h9 ?_
      refine r_ck (fun h17 => ?_)
      refine r_iast rfl h17 (fun I18 => ?_)
      exact r_return rfl rfl
    · refine r_aload rfl rfl (am_nz h9) ?_
      refine r_const (x := 1) rfl rfl ?_
      refine r_putI rfl h9 (fun _ => sm_011) (fun I19 => ?_)
      exact r_return rfl rfl
  · refine r_ck (fun h20 => ?_)
    refine r_aload rfl rfl (am_nz h20) ?_
    refine r_const (x := 1) rfl rfl ?_
    refine r_putI rfl h20 (fun _ => sm_011) (fun I21 => ?_)
    exact r_return rfl rfl
noncomputable def fM_readLine (P : am_Q) (l0 : Nat) (I : am_M) : Option (am_M) :=
  sm_ck (am_t l0 = 13) <|
  Option.bind (fM_skips P l0 I) fun y2 =>
  Option.bind (fM_byteHere y2 P l0) fun y3 =>
  if ¬ y3 = 112 then
    (if ¬ y3 = 113 then
      (if ¬ y3 = 117 then
        (if ¬ y3 = 118 then
          (fM_readLine_J50 P l0 ((-1)) y2)
        else
          (fM_readLine_J50 P l0 3 y2))
      else
        (fM_readLine_J50 P l0 2 y2))
    else
      (fM_readLine_J50 P l0 1 y2))
  else
    (fM_readLine_J50 P l0 0 y2)
set_option maxRecDepth 100000 in
theorem AfM_readLine {dp : Nat} {P : am_Q} {nx : Nat} {sl : Nat} {I : am_M} {l0 : Nat} {y : am_M} (hy : fM_readLine P l0 I = some y) : sm_T (dp + 22) 163 [.inr l0] (I, P, nx, sl) ((sm_g2 P nx sl) y) := by
  refine r_meth (d := am_d163) (dp := dp + 21) (ls0 := [some (.inr l0), none, none, none]) rfl (by decide) rfl rfl ?_ hy
  unfold fM_readLine
  refine r_ck (fun h1 => ?_)
  refine r_aload rfl rfl (am_nz h1) ?_
  refine r_call2 rfl rfl h1 (fun y hy => AfM_skips (dp := dp + 19) hy) (fun y2 => ?_)
  refine r_aload rfl rfl (am_nz h1) ?_
  refine r_call0 rfl rfl h1 (fun y hy => AfM_byteHere (dp := dp + 20) hy) (fun y3 => ?_)
  refine r_istore (ls' := [some (.inr l0), some (.inl y3), none, none]) rfl (Nat.le_of_ble_eq_true rfl) rfl ?_
  refine r_iload rfl rfl ?_
  refine r_const (x := 112) rfl rfl ?_
  refine r_icmp rfl rfl (fun c4 => ?_) (fun c4 => ?_)
  · refine r_iload rfl rfl ?_
    refine r_const (x := 113) rfl rfl ?_
    refine r_icmp rfl rfl (fun c5 => ?_) (fun c5 => ?_)
    · refine r_iload rfl rfl ?_
      refine r_const (x := 117) rfl rfl ?_
      refine r_icmp rfl rfl (fun c6 => ?_) (fun c6 => ?_)
      · refine r_iload rfl rfl ?_
        refine r_const (x := 118) rfl rfl ?_
        refine r_icmp rfl rfl (fun c7 => ?_) (fun c7 => ?_)
        · refine r_const (x := (-1)) rfl rfl ?_
          exact AfM_readLine_J50 l0 ((-1)) y2 (some (.inl y3)) none none
        · refine r_const (x := 3) rfl rfl ?_
          refine r_goto rfl ?_
          exact AfM_readLine_J50 l0 3 y2 (some (.inl y3)) none none
      · refine r_const (x := 2) rfl rfl ?_
        refine r_goto rfl ?_
        exact AfM_readLine_J50 l0 2 y2 (some (.inl y3)) none none
    · refine r_const (x := 1) rfl rfl ?_
      refine r_goto rfl ?_
      exact AfM_readLine_J50 l0 1 y2 (some (.inl y3)) none none
  · refine r_const (x := 0) rfl rfl ?_
    refine r_goto rfl ?_
    exact AfM_readLine_J50 l0 0 y2 (some (.inl y3)) none none
noncomputable def fM_isText_B22 (P : am_Q) (e22_47 : Nat → am_M → Option (Int32 × am_M)) (r22 : Nat → Int32 → am_M → Option (Int32 × am_M)) (l0 : Nat) (l1 : Int32) (I : am_M) : Option (Int32 × am_M) :=
  if 4 ≤ l1 then
    (e22_47 l0 I)
  else
    (sm_ck (am_t l0 = 13) <|
    sm_ck (sm_iw (P l0 35) l1) <|
    sm_bd (am_up I (P l0 35) l1.toNatClampNeg 0) fun I9 =>
    sm_ck (sm_iw (P l0 36) l1) <|
    sm_bd (am_up I9 (P l0 36) l1.toNatClampNeg 0) fun I11 =>
    sm_bd (l1 + 1) fun x12 =>
    r22 l0 x12 I11)
set_option maxRecDepth 100000 in
theorem AfM_isText_B22 {dp : Nat} {P : am_Q} {nx : Nat} {sl : Nat} {e22_47 : Nat → am_M → Option (Int32 × am_M)} {r22 : Nat → Int32 → am_M → Option (Int32 × am_M)} (he22_47 : ∀ (l0 : Nat) (I : am_M) (o1 : Option am_V), sm (dp + 22) am_d162 47 [some (.inr l0), o1] [] (I, P, nx, sl) (sm_g1 P nx sl) (e22_47 l0 I)) (hr22 : ∀ (l0 : Nat) (l1 : Int32) (I : am_M), sm (dp + 22) am_d162 22 [some (.inr l0), some (.inl l1)] [] (I, P, nx, sl) (sm_g1 P nx sl) (r22 l0 l1 I)) (l0 : Nat) (l1 : Int32) (I : am_M) : sm (dp + 22) am_d162 22 [some (.inr l0), some (.inl l1)] [] (I, P, nx, sl) (sm_g1 P nx sl) (fM_isText_B22 P e22_47 r22 l0 l1 I) := by
  unfold fM_isText_B22
  refine r_iload rfl rfl ?_
  refine r_const (x := 4) rfl rfl ?_
  refine r_icmp rfl rfl (fun c6 => ?_) (fun c6 => ?_)
  · exact he22_47 l0 I (some (.inl l1))
  · refine r_ck (fun h7 => ?_)
    refine r_aload rfl rfl (am_nz h7) ?_
    refine r_getP rfl h7 ?_
    refine r_iload rfl rfl ?_
    refine r_const (x := 0) rfl rfl ?_
    refine r_ck (fun h8 => ?_)
    refine r_iast rfl h8 (fun I9 => ?_)
    refine r_aload rfl rfl (am_nz h7) ?_
    refine r_getP rfl h7 ?_
    refine r_iload rfl rfl ?_
    refine r_const (x := 0) rfl rfl ?_
    refine r_ck (fun h10 => ?_)
    refine r_iast rfl h10 (fun I11 => ?_)
    refine r_iinc (e := l1 + 1) (ls' := fun x12 => [some (.inr l0), some (.inl x12)]) rfl rfl rfl (fun _ => rfl) (fun x12 => ?_)
    refine r_goto rfl ?_
    exact hr22 l0 x12 I11
noncomputable def fM_isText_L22 (P : am_Q) (e22_47 : Nat → am_M → Option (Int32 × am_M)) : Nat → Nat → Int32 → am_M → Option (Int32 × am_M)
  | 0, _, _, _ => none
  | n + 1, l0, l1, I => fM_isText_B22 P e22_47 (fM_isText_L22 P e22_47 n) l0 l1 I
theorem AfM_isText_L22 {dp : Nat} {P : am_Q} {nx : Nat} {sl : Nat} {e22_47 : Nat → am_M → Option (Int32 × am_M)} (he22_47 : ∀ (l0 : Nat) (I : am_M) (o1 : Option am_V), sm (dp + 22) am_d162 47 [some (.inr l0), o1] [] (I, P, nx, sl) (sm_g1 P nx sl) (e22_47 l0 I)) (n : Nat) : ∀ (l0 : Nat) (l1 : Int32) (I : am_M), sm (dp + 22) am_d162 22 [some (.inr l0), some (.inl l1)] [] (I, P, nx, sl) (sm_g1 P nx sl) (fM_isText_L22 P e22_47 n l0 l1 I) := by
  induction n with
  | zero => intro l0 l1 I; exact sm_none
  | succ n ih => intro l0 l1 I; exact AfM_isText_B22 he22_47 ih l0 l1 I
noncomputable def fM_isText_B53 (P : am_Q) (e53_78 : Nat → am_M → Option (Int32 × am_M)) (r53 : Nat → Int32 → am_M → Option (Int32 × am_M)) (l0 : Nat) (l1 : Int32) (I : am_M) : Option (Int32 × am_M) :=
  if 6 ≤ l1 then
    (e53_78 l0 I)
  else
    (sm_ck (am_t l0 = 13) <|
    Option.bind (fM_may P l0 59 I) fun y17 =>
    if y17.1 = 0 then
      (e53_78 l0 y17.2)
    else
      (Option.bind (fM_readLine P l0 y17.2) fun y19 =>
      sm_bd (l1 + 1) fun x20 =>
      r53 l0 x20 y19))
set_option maxRecDepth 100000 in
theorem AfM_isText_B53 {dp : Nat} {P : am_Q} {nx : Nat} {sl : Nat} {e53_78 : Nat → am_M → Option (Int32 × am_M)} {r53 : Nat → Int32 → am_M → Option (Int32 × am_M)} (he53_78 : ∀ (l0 : Nat) (I : am_M) (o1 : Option am_V), sm (dp + 22) am_d162 78 [some (.inr l0), o1] [] (I, P, nx, sl) (sm_g1 P nx sl) (e53_78 l0 I)) (hr53 : ∀ (l0 : Nat) (l1 : Int32) (I : am_M), sm (dp + 22) am_d162 53 [some (.inr l0), some (.inl l1)] [] (I, P, nx, sl) (sm_g1 P nx sl) (r53 l0 l1 I)) (l0 : Nat) (l1 : Int32) (I : am_M) : sm (dp + 22) am_d162 53 [some (.inr l0), some (.inl l1)] [] (I, P, nx, sl) (sm_g1 P nx sl) (fM_isText_B53 P e53_78 r53 l0 l1 I) := by
  unfold fM_isText_B53
  refine r_iload rfl rfl ?_
  refine r_const (x := 6) rfl rfl ?_
  refine r_icmp rfl rfl (fun c15 => ?_) (fun c15 => ?_)
  · exact he53_78 l0 I (some (.inl l1))
  · refine r_ck (fun h16 => ?_)
    refine r_aload rfl rfl (am_nz h16) ?_
    refine r_const (x := 59) rfl rfl ?_
    refine r_call1 rfl rfl h16 (fun y hy => AfM_may (dp := dp + 19) hy) (fun y17 => ?_)
    refine r_if rfl rfl (fun c18 => ?_) (fun c18 => ?_)
    · exact he53_78 l0 y17.2 (some (.inl l1))
    · refine r_aload rfl rfl (am_nz h16) ?_
      refine r_call2 rfl rfl h16 (fun y hy => AfM_readLine (dp := dp + 0) hy) (fun y19 => ?_)
      refine r_iinc (e := l1 + 1) (ls' := fun x20 => [some (.inr l0), some (.inl x20)]) rfl rfl rfl (fun _ => rfl) (fun x20 => ?_)
      refine r_goto rfl ?_
      exact hr53 l0 x20 y19
noncomputable def fM_isText_L53 (P : am_Q) (e53_78 : Nat → am_M → Option (Int32 × am_M)) : Nat → Nat → Int32 → am_M → Option (Int32 × am_M)
  | 0, _, _, _ => none
  | n + 1, l0, l1, I => fM_isText_B53 P e53_78 (fM_isText_L53 P e53_78 n) l0 l1 I
theorem AfM_isText_L53 {dp : Nat} {P : am_Q} {nx : Nat} {sl : Nat} {e53_78 : Nat → am_M → Option (Int32 × am_M)} (he53_78 : ∀ (l0 : Nat) (I : am_M) (o1 : Option am_V), sm (dp + 22) am_d162 78 [some (.inr l0), o1] [] (I, P, nx, sl) (sm_g1 P nx sl) (e53_78 l0 I)) (n : Nat) : ∀ (l0 : Nat) (l1 : Int32) (I : am_M), sm (dp + 22) am_d162 53 [some (.inr l0), some (.inl l1)] [] (I, P, nx, sl) (sm_g1 P nx sl) (fM_isText_L53 P e53_78 n l0 l1 I) := by
  induction n with
  | zero => intro l0 l1 I; exact sm_none
  | succ n ih => intro l0 l1 I; exact AfM_isText_B53 he53_78 ih l0 l1 I
noncomputable def fM_isText_J78 (P : am_Q) (l0 : Nat) (I : am_M) : Option (Int32 × am_M) :=
  sm_ck (am_t l0 = 13) <|
  if ¬ (I l0 40) = 0 then
    (sm_bd (am_up I l0 32 0) fun I23 =>
    some (0, I23))
  else
    (if ¬ (I l0 38) = (I l0 32) then
      (sm_bd (am_up I l0 32 0) fun I25 =>
      some (0, I25))
    else
      (sm_ck (sm_in (P l0 31) ((I l0 32) - 1)) <|
      if (I (P l0 31) ((I l0 32) - 1).toNatClampNeg) = 32 then
        (sm_bd (am_up I l0 32 0) fun I28 =>
        some (0, I28))
      else
        (sm_bd (am_up I l0 32 0) fun I29 =>
        some (1, I29))))
set_option maxRecDepth 100000 in
theorem AfM_isText_J78 {dp : Nat} {P : am_Q} {nx : Nat} {sl : Nat} (l0 : Nat) (I : am_M) (o1 : Option am_V) : sm (dp + 22) am_d162 78 [some (.inr l0), o1] [] (I, P, nx, sl) (sm_g1 P nx sl) (fM_isText_J78 P l0 I) := by
  unfold fM_isText_J78
  refine r_ck (fun h21 => ?_)
  refine r_aload rfl rfl (am_nz h21) ?_
  refine r_getI rfl h21 ?_
  refine r_if rfl rfl (fun c22 => ?_) (fun c22 => ?_)
  · refine r_const (x := 0) rfl rfl ?_
    refine r_istore (ls' := [some (.inr l0), some (.inl 0)]) rfl (Nat.le_of_ble_eq_true rfl) rfl ?_
    refine r_aload rfl rfl (am_nz h21) ?_
    refine r_const (x := 0) rfl rfl ?_
    refine r_putI rfl h21 (fun hz => absurd hz (by decide)) (fun I23 => ?_)
    refine r_iload rfl rfl ?_
    exact r_ireturn rfl (Or.inr ⟨rfl, sm_010⟩) rfl
  · refine r_aload rfl rfl (am_nz h21) ?_
    refine r_getI rfl h21 ?_
    refine r_aload rfl rfl (am_nz h21) ?_
    refine r_getI rfl h21 ?_
    refine r_icmp rfl rfl (fun c24 => ?_) (fun c24 => ?_)
    · refine r_const (x := 0) rfl rfl ?_
      refine r_istore (ls' := [some (.inr l0), some (.inl 0)]) rfl (Nat.le_of_ble_eq_true rfl) rfl ?_
      refine r_aload rfl rfl (am_nz h21) ?_
      refine r_const (x := 0) rfl rfl ?_
      refine r_putI rfl h21 (fun hz => absurd hz (by decide)) (fun I25 => ?_)
      refine r_iload rfl rfl ?_
      exact r_ireturn rfl (Or.inr ⟨rfl, sm_010⟩) rfl
    · refine r_aload rfl rfl (am_nz h21) ?_
      refine r_getP rfl h21 ?_
      refine r_aload rfl rfl (am_nz h21) ?_
      refine r_getI rfl h21 ?_
      refine r_const (x := 1) rfl rfl ?_
      refine r_bin (z := (I l0 32) - 1) rfl rfl (by decide) ?_
      refine r_ck (fun h26 => ?_)
      refine r_iald rfl h26 ?_
      refine r_const (x := 32) rfl rfl ?_
      refine r_icmp rfl rfl (fun c27 => ?_) (fun c27 => ?_)
      · refine r_const (x := 0) rfl rfl ?_
        refine r_istore (ls' := [some (.inr l0), some (.inl 0)]) rfl (Nat.le_of_ble_eq_true rfl) rfl ?_
        refine r_aload rfl rfl (am_nz h21) ?_
        refine r_const (x := 0) rfl rfl ?_
        refine r_putI rfl h21 (fun hz => absurd hz (by decide)) (fun I28 => ?_)
        refine r_iload rfl rfl ?_
        exact r_ireturn rfl (Or.inr ⟨rfl, sm_010⟩) rfl
      · refine r_const (x := 1) rfl rfl ?_
        refine r_goto rfl ?_
        refine r_istore (ls' := [some (.inr l0), some (.inl 1)]) rfl (Nat.le_of_ble_eq_true rfl) rfl ?_
        refine r_aload rfl rfl (am_nz h21) ?_
        refine r_const (x := 0) rfl rfl ?_
        refine r_putI rfl h21 (fun hz => absurd hz (by decide)) (fun I29 => ?_)
        refine r_iload rfl rfl ?_
        exact r_ireturn rfl (Or.inr ⟨rfl, sm_011⟩) rfl
noncomputable def fM_isText (P : am_Q) (l0 : Nat) (I : am_M) : Option (Int32 × am_M) :=
  sm_ck (am_t l0 = 13) <|
  sm_bd (am_up I l0 37 0) fun I2 =>
  sm_bd (am_up I2 l0 38 0) fun I3 =>
  sm_bd (am_up I3 l0 39 0) fun I4 =>
  sm_bd (am_up I4 l0 40 0) fun I5 =>
  fM_isText_L22 P (fun l0 I =>
      sm_ck (am_t l0 = 13) <|
      Option.bind (fM_readLine P l0 I) fun y14 =>
      fM_isText_L53 P (fun l0 I =>
          fM_isText_J78 P l0 I) sm_fu l0 1 y14) sm_fu l0 0 I5
set_option maxRecDepth 100000 in
theorem AfM_isText {dp : Nat} {P : am_Q} {nx : Nat} {sl : Nat} {I : am_M} {l0 : Nat} {y : Int32 × am_M} (hy : fM_isText P l0 I = some y) : sm_T (dp + 23) 162 [.inr l0] (I, P, nx, sl) ((sm_g1 P nx sl) y) := by
  refine r_meth (d := am_d162) (dp := dp + 22) (ls0 := [some (.inr l0), none]) rfl (by decide) rfl rfl ?_ hy
  unfold fM_isText
  refine r_ck (fun h1 => ?_)
  refine r_aload rfl rfl (am_nz h1) ?_
  refine r_const (x := 0) rfl rfl ?_
  refine r_putI rfl h1 (fun hz => absurd hz (by decide)) (fun I2 => ?_)
  refine r_aload rfl rfl (am_nz h1) ?_
  refine r_const (x := 0) rfl rfl ?_
  refine r_putI rfl h1 (fun hz => absurd hz (by decide)) (fun I3 => ?_)
  refine r_aload rfl rfl (am_nz h1) ?_
  refine r_const (x := 0) rfl rfl ?_
  refine r_putI rfl h1 (fun hz => absurd hz (by decide)) (fun I4 => ?_)
  refine r_aload rfl rfl (am_nz h1) ?_
  refine r_const (x := 0) rfl rfl ?_
  refine r_putI rfl h1 (fun _ => sm_010) (fun I5 => ?_)
  refine r_const (x := 0) rfl rfl ?_
  refine r_istore (ls' := [some (.inr l0), some (.inl 0)]) rfl (Nat.le_of_ble_eq_true rfl) rfl ?_
  refine AfM_isText_L22 ?_ sm_fu l0 0 I5
  · intro l0 I o1
    refine r_ck (fun h13 => ?_)
    refine r_aload rfl rfl (am_nz h13) ?_
    refine r_call2 rfl rfl h13 (fun y hy => AfM_readLine (dp := dp + 0) hy) (fun y14 => ?_)
    refine r_const (x := 1) rfl rfl ?_
    refine r_istore (ls' := [some (.inr l0), some (.inl 1)]) rfl (Nat.le_of_ble_eq_true rfl) rfl ?_
    refine AfM_isText_L53 ?_ sm_fu l0 1 y14
    · intro l0 I o1
      exact AfM_isText_J78 l0 I o1
noncomputable def fM_text (P : am_Q) (l0 : Nat) (l1 : Int32) (I : am_M) : Option (Int32 × am_M) :=
  sm_ck (am_t l0 = 13) <|
  Option.bind (fM_isOf I P l0 0 l1) fun y2 =>
  if ¬ y2 = 0 then
    (Option.bind (fM_isText P l0 I) fun y4 =>
    if ¬ y4.1 = 0 then
      (Option.bind (fM_takesText P l0 l1 y4.2) fun y6 =>
      some ((-1), y6))
    else
      (some (y4.2 l0 38, y4.2)))
  else
    (Option.bind (fM_finds P l0 ((-1000001)) I) fun y7 =>
    some (y7.1, y7.2))
set_option maxRecDepth 100000 in
theorem AfM_text {dp : Nat} {P : am_Q} {nx : Nat} {sl : Nat} {I : am_M} {l0 : Nat} {l1 : Int32} {y : Int32 × am_M} (hy : fM_text P l0 l1 I = some y) : sm_T (dp + 24) 161 [.inr l0, .inl l1] (I, P, nx, sl) ((sm_g1 P nx sl) y) := by
  refine r_meth (d := am_d161) (dp := dp + 23) (ls0 := [some (.inr l0), some (.inl l1)]) rfl (by decide) rfl rfl ?_ hy
  unfold fM_text
  refine r_ck (fun h1 => ?_)
  refine r_aload rfl rfl (am_nz h1) ?_
  refine r_const (x := 0) rfl rfl ?_
  refine r_iload rfl rfl ?_
  refine r_call0 rfl rfl h1 (fun y hy => AfM_isOf (dp := dp + 21) hy) (fun y2 => ?_)
  refine r_if rfl rfl (fun c3 => ?_) (fun c3 => ?_)
  · refine r_aload rfl rfl (am_nz h1) ?_
    refine r_call1 rfl rfl h1 (fun y hy => AfM_isText (dp := dp + 0) hy) (fun y4 => ?_)
    refine r_if rfl rfl (fun c5 => ?_) (fun c5 => ?_)
    · refine r_aload rfl rfl (am_nz h1) ?_
      refine r_iload rfl rfl ?_
      refine r_call2 rfl rfl h1 (fun y hy => AfM_takesText (dp := dp + 22) hy) (fun y6 => ?_)
      refine r_const (x := (-1)) rfl rfl ?_
      exact r_ireturn rfl (Or.inl rfl) rfl
    · refine r_aload rfl rfl (am_nz h1) ?_
      refine r_getI rfl h1 ?_
      exact r_ireturn rfl (Or.inl rfl) rfl
  · refine r_aload rfl rfl (am_nz h1) ?_
    refine r_const (x := (-1000001)) rfl rfl ?_
    refine r_call1 rfl rfl h1 (fun y hy => AfM_finds (dp := dp + 22) hy) (fun y7 => ?_)
    exact r_ireturn rfl (Or.inl rfl) rfl
noncomputable def fM_best_J21 (l0 : Nat) (l1 : Int32) (I : am_M) (P : am_Q) (nx : Nat) (sl : Nat) : Option (Int32 × am_S) :=
  sm_ck (am_t l0 = 13) <|
  sm_ck (sm_in (P l0 1) 0) <|
  if (I (P l0 1) (0 : Int32).toNatClampNeg) ≤ 5 then
    (sm_ck (sm_in (P l0 1) 0) <|
    if ¬ (I (P l0 1) (0 : Int32).toNatClampNeg) = 0 then
      (Option.bind (fM_copiesAll P l0 7 1 I) fun y7 =>
      sm_bd (am_up y7 l0 53 ((-1))) fun I8 =>
      Option.bind (fM_orders 8 l0 0 0 I8 P nx sl) fun y9 =>
      Option.bind (fM_copiesAll y9.2.1 l0 7 0 y9.1) fun y10 =>
      if ¬ l1 = ((-1)) then
        (sm_ck (sm_in (y9.2.1 l0 52) l1) <|
        some (y10 (y9.2.1 l0 52) l1.toNatClampNeg, y10, y9.2.1, y9.2.2.1, y9.2.2.2))
      else
        (some (y10 l0 53, y10, y9.2.1, y9.2.2.1, y9.2.2.2)))
    else
      (Option.bind (fM_finds P l0 ((-1000004)) I) fun y13 =>
      some (y13.1, y13.2, P, nx, sl)))
  else
    (Option.bind (fM_finds P l0 ((-1000007)) I) fun y14 =>
    some (y14.1, y14.2, P, nx, sl))
set_option maxRecDepth 100000 in
theorem AfM_best_J21 {dp : Nat}  (l0 : Nat) (l1 : Int32) (I : am_M) (P : am_Q) (nx : Nat) (sl : Nat) : sm (dp + 14) am_d208 21 [some (.inr l0), some (.inl l1)] [] (I, P, nx, sl) sm_g3 (fM_best_J21 l0 l1 I P nx sl) := by
  unfold fM_best_J21
  refine r_ck (fun h2 => ?_)
  refine r_aload rfl rfl (am_nz h2) ?_
  refine r_getP rfl h2 ?_
  refine r_const (x := 0) rfl rfl ?_
  refine r_ck (fun h3 => ?_)
  refine r_iald rfl h3 ?_
  refine r_const (x := 5) rfl rfl ?_
  refine r_icmp rfl rfl (fun c4 => ?_) (fun c4 => ?_)
  · refine r_aload rfl rfl (am_nz h2) ?_
    refine r_getP rfl h2 ?_
    refine r_const (x := 0) rfl rfl ?_
    refine r_ck (fun h5 => ?_)
    refine r_iald rfl h5 ?_
    refine r_if rfl rfl (fun c6 => ?_) (fun c6 => ?_)
    · refine r_aload rfl rfl (am_nz h2) ?_
      refine r_const (x := 7) rfl rfl ?_
      refine r_const (x := 1) rfl rfl ?_
      refine r_call2 rfl rfl h2 (fun y hy => AfM_copiesAll (dp := dp + 12) hy) (fun y7 => ?_)
      refine r_aload rfl rfl (am_nz h2) ?_
      refine r_const (x := (-1)) rfl rfl ?_
      refine r_putI rfl h2 (fun hz => absurd hz (by decide)) (fun I8 => ?_)
      refine r_aload rfl rfl (am_nz h2) ?_
      refine r_const (x := 0) rfl rfl ?_
      refine r_const (x := 0) rfl rfl ?_
      refine r_call4 rfl rfl h2 (fun y hy => AfM_orders 8 (D := dp + 14) (by omega) hy) (fun y9 => ?_)
      refine r_aload rfl rfl (am_nz h2) ?_
      refine r_const (x := 7) rfl rfl ?_
      refine r_const (x := 0) rfl rfl ?_
      refine r_call2 rfl rfl h2 (fun y hy => AfM_copiesAll (dp := dp + 12) hy) (fun y10 => ?_)
      refine r_iload rfl rfl ?_
      refine r_const (x := (-1)) rfl rfl ?_
      refine r_icmp rfl rfl (fun c11 => ?_) (fun c11 => ?_)
      · refine r_aload rfl rfl (am_nz h2) ?_
        refine r_getP rfl h2 ?_
        refine r_iload rfl rfl ?_
        refine r_ck (fun h12 => ?_)
        refine r_iald rfl h12 ?_
        exact r_ireturn rfl (Or.inl rfl) rfl
      · refine r_aload rfl rfl (am_nz h2) ?_
        refine r_getI rfl h2 ?_
        refine r_goto rfl ?_
        exact r_ireturn rfl (Or.inl rfl) rfl
    · refine r_aload rfl rfl (am_nz h2) ?_
      refine r_const (x := (-1000004)) rfl rfl ?_
      refine r_call1 rfl rfl h2 (fun y hy => AfM_finds (dp := dp + 13) hy) (fun y13 => ?_)
      exact r_ireturn rfl (Or.inl rfl) rfl
  · refine r_aload rfl rfl (am_nz h2) ?_
    refine r_const (x := (-1000007)) rfl rfl ?_
    refine r_call1 rfl rfl h2 (fun y hy => AfM_finds (dp := dp + 13) hy) (fun y14 => ?_)
    exact r_ireturn rfl (Or.inl rfl) rfl
noncomputable def fM_best (l0 : Nat) (l1 : Int32) (I : am_M) (P : am_Q) (nx : Nat) (sl : Nat) : Option (Int32 × am_S) :=
  if l1 = ((-1)) then
    (fM_best_J21 l0 l1 I P nx sl)
  else
    (sm_ck (am_t l0 = 13) <|
    Option.bind (fM_isOf I P l0 0 l1) fun y16 =>
    if ¬ y16 = 0 then
      (fM_best_J21 l0 l1 I P nx sl)
    else
      (Option.bind (fM_finds P l0 ((-1000001)) I) fun y18 =>
      some (y18.1, y18.2, P, nx, sl)))
set_option maxRecDepth 100000 in
theorem AfM_best {dp : Nat}  {I : am_M} {P : am_Q} {nx : Nat} {sl : Nat} {l0 : Nat} {l1 : Int32} {y : Int32 × am_S} (hy : fM_best l0 l1 I P nx sl = some y) : sm_T (dp + 15) 208 [.inr l0, .inl l1] (I, P, nx, sl) (sm_g3 y) := by
  refine r_meth (d := am_d208) (dp := dp + 14) (ls0 := [some (.inr l0), some (.inl l1)]) rfl (by decide) rfl rfl ?_ hy
  unfold fM_best
  refine r_iload rfl rfl ?_
  refine r_const (x := (-1)) rfl rfl ?_
  refine r_icmp rfl rfl (fun c1 => ?_) (fun c1 => ?_)
  · exact AfM_best_J21 l0 l1 I P nx sl
  · refine r_ck (fun h15 => ?_)
    refine r_aload rfl rfl (am_nz h15) ?_
    refine r_const (x := 0) rfl rfl ?_
    refine r_iload rfl rfl ?_
    refine r_call0 rfl rfl h15 (fun y hy => AfM_isOf (dp := dp + 12) hy) (fun y16 => ?_)
    refine r_if rfl rfl (fun c17 => ?_) (fun c17 => ?_)
    · exact AfM_best_J21 l0 l1 I P nx sl
    · refine r_aload rfl rfl (am_nz h15) ?_
      refine r_const (x := (-1000001)) rfl rfl ?_
      refine r_call1 rfl rfl h15 (fun y hy => AfM_finds (dp := dp + 13) hy) (fun y18 => ?_)
      exact r_ireturn rfl (Or.inl rfl) rfl
noncomputable def fM_changes_B53 (e53_89 : Nat → Int32 → Int32 → Int32 → am_M → am_Q → Nat → Nat → Option (Int32 × am_S)) (r53 : Nat → Int32 → Int32 → Int32 → Int32 → am_M → am_Q → Nat → Nat → Option (Int32 × am_S)) (l0 : Nat) (l1 : Int32) (l2 : Int32) (l3 : Int32) (l4 : Int32) (I : am_M) (P : am_Q) (nx : Nat) (sl : Nat) : Option (Int32 × am_S) :=
  sm_ck (am_t l0 = 13) <|
  sm_ck (sm_in (P l0 1) 1) <|
  if (I (P l0 1) (1 : Int32).toNatClampNeg) ≤ l4 then
    (e53_89 l0 l1 l2 l3 I P nx sl)
  else
    (sm_ck (sm_in (P l0 17) l4) <|
    sm_ck (sm_iw (P l0 58) ((14 * l3) + l4)) <|
    sm_bd (am_up I (P l0 58) ((14 * l3) + l4).toNatClampNeg (I (P l0 17) l4.toNatClampNeg)) fun I17 =>
    sm_bd (l4 + 1) fun x18 =>
    r53 l0 l1 l2 l3 x18 I17 P nx sl)
set_option maxRecDepth 100000 in
theorem AfM_changes_B53 {dp : Nat}  {e53_89 : Nat → Int32 → Int32 → Int32 → am_M → am_Q → Nat → Nat → Option (Int32 × am_S)} {r53 : Nat → Int32 → Int32 → Int32 → Int32 → am_M → am_Q → Nat → Nat → Option (Int32 × am_S)} (he53_89 : ∀ (l0 : Nat) (l1 : Int32) (l2 : Int32) (l3 : Int32) (I : am_M) (P : am_Q) (nx : Nat) (sl : Nat) (o4 : Option am_V) (o5 : Option am_V), sm (dp + 23) am_d214 89 [some (.inr l0), some (.inl l1), some (.inl l2), some (.inl l3), o4, o5] [] (I, P, nx, sl) sm_g3 (e53_89 l0 l1 l2 l3 I P nx sl)) (hr53 : ∀ (l0 : Nat) (l1 : Int32) (l2 : Int32) (l3 : Int32) (l4 : Int32) (I : am_M) (P : am_Q) (nx : Nat) (sl : Nat) (o5 : Option am_V), sm (dp + 23) am_d214 53 [some (.inr l0), some (.inl l1), some (.inl l2), some (.inl l3), some (.inl l4), o5] [] (I, P, nx, sl) sm_g3 (r53 l0 l1 l2 l3 l4 I P nx sl)) (l0 : Nat) (l1 : Int32) (l2 : Int32) (l3 : Int32) (l4 : Int32) (I : am_M) (P : am_Q) (nx : Nat) (sl : Nat) (o5 : Option am_V) : sm (dp + 23) am_d214 53 [some (.inr l0), some (.inl l1), some (.inl l2), some (.inl l3), some (.inl l4), o5] [] (I, P, nx, sl) sm_g3 (fM_changes_B53 e53_89 r53 l0 l1 l2 l3 l4 I P nx sl) := by
  unfold fM_changes_B53
  refine r_iload rfl rfl ?_
  refine r_ck (fun h12 => ?_)
  refine r_aload rfl rfl (am_nz h12) ?_
  refine r_getP rfl h12 ?_
  refine r_const (x := 1) rfl rfl ?_
  refine r_ck (fun h13 => ?_)
  refine r_iald rfl h13 ?_
  refine r_icmp rfl rfl (fun c14 => ?_) (fun c14 => ?_)
  · exact he53_89 l0 l1 l2 l3 I P nx sl (some (.inl l4)) o5
  · refine r_aload rfl rfl (am_nz h12) ?_
    refine r_getP rfl h12 ?_
    refine r_const (x := 14) rfl rfl ?_
    refine r_iload rfl rfl ?_
    refine r_bin (z := 14 * l3) rfl rfl (by decide) ?_
    refine r_iload rfl rfl ?_
    refine r_bin (z := (14 * l3) + l4) rfl rfl (by decide) ?_
    refine r_aload rfl rfl (am_nz h12) ?_
    refine r_getP rfl h12 ?_
    refine r_iload rfl rfl ?_
    refine r_ck (fun h15 => ?_)
    refine r_iald rfl h15 ?_
    refine r_ck (fun h16 => ?_)
    refine r_iast rfl h16 (fun I17 => ?_)
    refine r_iinc (e := l4 + 1) (ls' := fun x18 => [some (.inr l0), some (.inl l1), some (.inl l2), some (.inl l3), some (.inl x18), o5]) rfl rfl rfl (fun _ => rfl) (fun x18 => ?_)
    refine r_goto rfl ?_
    exact hr53 l0 l1 l2 l3 x18 I17 P nx sl o5
noncomputable def fM_changes_L53 (e53_89 : Nat → Int32 → Int32 → Int32 → am_M → am_Q → Nat → Nat → Option (Int32 × am_S)) : Nat → Nat → Int32 → Int32 → Int32 → Int32 → am_M → am_Q → Nat → Nat → Option (Int32 × am_S)
  | 0, _, _, _, _, _, _, _, _, _ => none
  | n + 1, l0, l1, l2, l3, l4, I, P, nx, sl => fM_changes_B53 e53_89 (fM_changes_L53 e53_89 n) l0 l1 l2 l3 l4 I P nx sl
theorem AfM_changes_L53 {dp : Nat}  {e53_89 : Nat → Int32 → Int32 → Int32 → am_M → am_Q → Nat → Nat → Option (Int32 × am_S)} (he53_89 : ∀ (l0 : Nat) (l1 : Int32) (l2 : Int32) (l3 : Int32) (I : am_M) (P : am_Q) (nx : Nat) (sl : Nat) (o4 : Option am_V) (o5 : Option am_V), sm (dp + 23) am_d214 89 [some (.inr l0), some (.inl l1), some (.inl l2), some (.inl l3), o4, o5] [] (I, P, nx, sl) sm_g3 (e53_89 l0 l1 l2 l3 I P nx sl)) (n : Nat) : ∀ (l0 : Nat) (l1 : Int32) (l2 : Int32) (l3 : Int32) (l4 : Int32) (I : am_M) (P : am_Q) (nx : Nat) (sl : Nat) (o5 : Option am_V), sm (dp + 23) am_d214 53 [some (.inr l0), some (.inl l1), some (.inl l2), some (.inl l3), some (.inl l4), o5] [] (I, P, nx, sl) sm_g3 (fM_changes_L53 e53_89 n l0 l1 l2 l3 l4 I P nx sl) := by
  induction n with
  | zero => intro l0 l1 l2 l3 l4 I P nx sl o5; exact sm_none
  | succ n ih => intro l0 l1 l2 l3 l4 I P nx sl o5; exact AfM_changes_B53 he53_89 ih l0 l1 l2 l3 l4 I P nx sl o5
noncomputable def fM_changes_B41 (e41_95 : Nat → Int32 → Int32 → am_M → am_Q → Nat → Nat → Option (Int32 × am_S)) (r41 : Nat → Int32 → Int32 → Int32 → am_M → am_Q → Nat → Nat → Option (Int32 × am_S)) (l0 : Nat) (l1 : Int32) (l2 : Int32) (l3 : Int32) (I : am_M) (P : am_Q) (nx : Nat) (sl : Nat) : Option (Int32 × am_S) :=
  if l2 ≤ l3 then
    (e41_95 l0 l1 l2 I P nx sl)
  else
    (sm_ck (am_t l0 = 13) <|
    Option.bind (fM_hour l0 I P nx sl) fun y11 =>
    fM_changes_L53 (fun l0 l1 l2 l3 I P nx sl =>
        sm_bd (l3 + 1) fun x19 =>
        r41 l0 l1 l2 x19 I P nx sl) sm_fu l0 l1 l2 l3 0 y11.1 y11.2.1 y11.2.2.1 y11.2.2.2)
set_option maxRecDepth 100000 in
theorem AfM_changes_B41 {dp : Nat}  {e41_95 : Nat → Int32 → Int32 → am_M → am_Q → Nat → Nat → Option (Int32 × am_S)} {r41 : Nat → Int32 → Int32 → Int32 → am_M → am_Q → Nat → Nat → Option (Int32 × am_S)} (he41_95 : ∀ (l0 : Nat) (l1 : Int32) (l2 : Int32) (I : am_M) (P : am_Q) (nx : Nat) (sl : Nat) (o3 : Option am_V) (o4 : Option am_V) (o5 : Option am_V), sm (dp + 23) am_d214 95 [some (.inr l0), some (.inl l1), some (.inl l2), o3, o4, o5] [] (I, P, nx, sl) sm_g3 (e41_95 l0 l1 l2 I P nx sl)) (hr41 : ∀ (l0 : Nat) (l1 : Int32) (l2 : Int32) (l3 : Int32) (I : am_M) (P : am_Q) (nx : Nat) (sl : Nat) (o4 : Option am_V) (o5 : Option am_V), sm (dp + 23) am_d214 41 [some (.inr l0), some (.inl l1), some (.inl l2), some (.inl l3), o4, o5] [] (I, P, nx, sl) sm_g3 (r41 l0 l1 l2 l3 I P nx sl)) (l0 : Nat) (l1 : Int32) (l2 : Int32) (l3 : Int32) (I : am_M) (P : am_Q) (nx : Nat) (sl : Nat) (o4 : Option am_V) (o5 : Option am_V) : sm (dp + 23) am_d214 41 [some (.inr l0), some (.inl l1), some (.inl l2), some (.inl l3), o4, o5] [] (I, P, nx, sl) sm_g3 (fM_changes_B41 e41_95 r41 l0 l1 l2 l3 I P nx sl) := by
  unfold fM_changes_B41
  refine r_iload rfl rfl ?_
  refine r_iload rfl rfl ?_
  refine r_icmp rfl rfl (fun c9 => ?_) (fun c9 => ?_)
  · exact he41_95 l0 l1 l2 I P nx sl (some (.inl l3)) o4 o5
  · refine r_ck (fun h10 => ?_)
    refine r_aload rfl rfl (am_nz h10) ?_
    refine r_call4 rfl rfl h10 (fun y hy => AfM_hour (dp := dp + 18) hy) (fun y11 => ?_)
    refine r_const (x := 0) rfl rfl ?_
    refine r_istore (ls' := [some (.inr l0), some (.inl l1), some (.inl l2), some (.inl l3), some (.inl 0), o5]) rfl (Nat.le_of_ble_eq_true rfl) rfl ?_
    refine AfM_changes_L53 ?_ sm_fu l0 l1 l2 l3 0 y11.1 y11.2.1 y11.2.2.1 y11.2.2.2 o5
    · intro l0 l1 l2 l3 I P nx sl o4 o5
      refine r_iinc (e := l3 + 1) (ls' := fun x19 => [some (.inr l0), some (.inl l1), some (.inl l2), some (.inl x19), o4, o5]) rfl rfl rfl (fun _ => rfl) (fun x19 => ?_)
      refine r_goto rfl ?_
      exact hr41 l0 l1 l2 x19 I P nx sl o4 o5
noncomputable def fM_changes_L41 (e41_95 : Nat → Int32 → Int32 → am_M → am_Q → Nat → Nat → Option (Int32 × am_S)) : Nat → Nat → Int32 → Int32 → Int32 → am_M → am_Q → Nat → Nat → Option (Int32 × am_S)
  | 0, _, _, _, _, _, _, _, _ => none
  | n + 1, l0, l1, l2, l3, I, P, nx, sl => fM_changes_B41 e41_95 (fM_changes_L41 e41_95 n) l0 l1 l2 l3 I P nx sl
theorem AfM_changes_L41 {dp : Nat}  {e41_95 : Nat → Int32 → Int32 → am_M → am_Q → Nat → Nat → Option (Int32 × am_S)} (he41_95 : ∀ (l0 : Nat) (l1 : Int32) (l2 : Int32) (I : am_M) (P : am_Q) (nx : Nat) (sl : Nat) (o3 : Option am_V) (o4 : Option am_V) (o5 : Option am_V), sm (dp + 23) am_d214 95 [some (.inr l0), some (.inl l1), some (.inl l2), o3, o4, o5] [] (I, P, nx, sl) sm_g3 (e41_95 l0 l1 l2 I P nx sl)) (n : Nat) : ∀ (l0 : Nat) (l1 : Int32) (l2 : Int32) (l3 : Int32) (I : am_M) (P : am_Q) (nx : Nat) (sl : Nat) (o4 : Option am_V) (o5 : Option am_V), sm (dp + 23) am_d214 41 [some (.inr l0), some (.inl l1), some (.inl l2), some (.inl l3), o4, o5] [] (I, P, nx, sl) sm_g3 (fM_changes_L41 e41_95 n l0 l1 l2 l3 I P nx sl) := by
  induction n with
  | zero => intro l0 l1 l2 l3 I P nx sl o4 o5; exact sm_none
  | succ n ih => intro l0 l1 l2 l3 I P nx sl o4 o5; exact AfM_changes_B41 he41_95 ih l0 l1 l2 l3 I P nx sl o4 o5
noncomputable def fM_changes_J187 (r148 : Nat → Int32 → Int32 → Int32 → Int32 → am_M → am_Q → Nat → Nat → Option (Int32 × am_S)) (l0 : Nat) (l2 : Int32) (l3 : Int32) (l4 : Int32) (l5 : Int32) (I : am_M) (P : am_Q) (nx : Nat) (sl : Nat) : Option (Int32 × am_S) :=
  sm_bd (l5 + (-1)) fun x37 =>
  r148 l0 l2 l3 l4 x37 I P nx sl
set_option maxRecDepth 100000 in
theorem AfM_changes_J187 {dp : Nat}  {r148 : Nat → Int32 → Int32 → Int32 → Int32 → am_M → am_Q → Nat → Nat → Option (Int32 × am_S)} (hr148 : ∀ (l0 : Nat) (l2 : Int32) (l3 : Int32) (l4 : Int32) (l5 : Int32) (I : am_M) (P : am_Q) (nx : Nat) (sl : Nat) (o1 : Option am_V), sm (dp + 23) am_d214 148 [some (.inr l0), o1, some (.inl l2), some (.inl l3), some (.inl l4), some (.inl l5)] [] (I, P, nx, sl) sm_g3 (r148 l0 l2 l3 l4 l5 I P nx sl)) (l0 : Nat) (l2 : Int32) (l3 : Int32) (l4 : Int32) (l5 : Int32) (I : am_M) (P : am_Q) (nx : Nat) (sl : Nat) (o1 : Option am_V) : sm (dp + 23) am_d214 187 [some (.inr l0), o1, some (.inl l2), some (.inl l3), some (.inl l4), some (.inl l5)] [] (I, P, nx, sl) sm_g3 (fM_changes_J187 r148 l0 l2 l3 l4 l5 I P nx sl) := by
  unfold fM_changes_J187
  refine r_iinc (e := l5 + (-1)) (ls' := fun x37 => [some (.inr l0), o1, some (.inl l2), some (.inl l3), some (.inl l4), some (.inl x37)]) rfl rfl rfl (fun _ => rfl) (fun x37 => ?_)
  refine r_goto rfl ?_
  exact hr148 l0 l2 l3 l4 x37 I P nx sl o1
noncomputable def fM_changes_B148 (e148_193 : Nat → Int32 → Int32 → am_M → am_Q → Nat → Nat → Option (Int32 × am_S)) (r148 : Nat → Int32 → Int32 → Int32 → Int32 → am_M → am_Q → Nat → Nat → Option (Int32 × am_S)) (l0 : Nat) (l2 : Int32) (l3 : Int32) (l4 : Int32) (l5 : Int32) (I : am_M) (P : am_Q) (nx : Nat) (sl : Nat) : Option (Int32 × am_S) :=
  if l5 < 0 then
    (e148_193 l0 l2 l3 I P nx sl)
  else
    (sm_ck (am_t l0 = 13) <|
    sm_ck (sm_in (P l0 17) l5) <|
    sm_ck (sm_in (P l0 58) ((14 * l3) + l5)) <|
    if (I (P l0 17) l5.toNatClampNeg) = (I (P l0 58) ((14 * l3) + l5).toNatClampNeg) then
      (fM_changes_J187 r148 l0 l2 l3 l4 l5 I P nx sl)
    else
      (sm_bd (am_up I l0 59 l4) fun I38 =>
      sm_bd (am_up I38 l0 60 l5) fun I39 =>
      fM_changes_J187 r148 l0 l2 l3 l4 l5 I39 P nx sl))
set_option maxRecDepth 100000 in
theorem AfM_changes_B148 {dp : Nat}  {e148_193 : Nat → Int32 → Int32 → am_M → am_Q → Nat → Nat → Option (Int32 × am_S)} {r148 : Nat → Int32 → Int32 → Int32 → Int32 → am_M → am_Q → Nat → Nat → Option (Int32 × am_S)} (he148_193 : ∀ (l0 : Nat) (l2 : Int32) (l3 : Int32) (I : am_M) (P : am_Q) (nx : Nat) (sl : Nat) (o1 : Option am_V) (o4 : Option am_V) (o5 : Option am_V), sm (dp + 23) am_d214 193 [some (.inr l0), o1, some (.inl l2), some (.inl l3), o4, o5] [] (I, P, nx, sl) sm_g3 (e148_193 l0 l2 l3 I P nx sl)) (hr148 : ∀ (l0 : Nat) (l2 : Int32) (l3 : Int32) (l4 : Int32) (l5 : Int32) (I : am_M) (P : am_Q) (nx : Nat) (sl : Nat) (o1 : Option am_V), sm (dp + 23) am_d214 148 [some (.inr l0), o1, some (.inl l2), some (.inl l3), some (.inl l4), some (.inl l5)] [] (I, P, nx, sl) sm_g3 (r148 l0 l2 l3 l4 l5 I P nx sl)) (l0 : Nat) (l2 : Int32) (l3 : Int32) (l4 : Int32) (l5 : Int32) (I : am_M) (P : am_Q) (nx : Nat) (sl : Nat) (o1 : Option am_V) : sm (dp + 23) am_d214 148 [some (.inr l0), o1, some (.inl l2), some (.inl l3), some (.inl l4), some (.inl l5)] [] (I, P, nx, sl) sm_g3 (fM_changes_B148 e148_193 r148 l0 l2 l3 l4 l5 I P nx sl) := by
  unfold fM_changes_B148
  refine r_iload rfl rfl ?_
  refine r_if rfl rfl (fun c32 => ?_) (fun c32 => ?_)
  · exact he148_193 l0 l2 l3 I P nx sl o1 (some (.inl l4)) (some (.inl l5))
  · refine r_ck (fun h33 => ?_)
    refine r_aload rfl rfl (am_nz h33) ?_
    refine r_getP rfl h33 ?_
    refine r_iload rfl rfl ?_
    refine r_ck (fun h34 => ?_)
    refine r_iald rfl h34 ?_
    refine r_aload rfl rfl (am_nz h33) ?_
    refine r_getP rfl h33 ?_
    refine r_const (x := 14) rfl rfl ?_
    refine r_iload rfl rfl ?_
    refine r_bin (z := 14 * l3) rfl rfl (by decide) ?_
    refine r_iload rfl rfl ?_
    refine r_bin (z := (14 * l3) + l5) rfl rfl (by decide) ?_
    refine r_ck (fun h35 => ?_)
    refine r_iald rfl h35 ?_
    refine r_icmp rfl rfl (fun c36 => ?_) (fun c36 => ?_)
    · exact AfM_changes_J187 hr148 l0 l2 l3 l4 l5 I P nx sl o1
    · refine r_aload rfl rfl (am_nz h33) ?_
      refine r_iload rfl rfl ?_
      refine r_putI rfl h33 (fun hz => absurd hz (by decide)) (fun I38 => ?_)
      refine r_aload rfl rfl (am_nz h33) ?_
      refine r_iload rfl rfl ?_
      refine r_putI rfl h33 (fun hz => absurd hz (by decide)) (fun I39 => ?_)
      exact AfM_changes_J187 hr148 l0 l2 l3 l4 l5 I39 P nx sl o1
noncomputable def fM_changes_L148 (e148_193 : Nat → Int32 → Int32 → am_M → am_Q → Nat → Nat → Option (Int32 × am_S)) : Nat → Nat → Int32 → Int32 → Int32 → Int32 → am_M → am_Q → Nat → Nat → Option (Int32 × am_S)
  | 0, _, _, _, _, _, _, _, _, _ => none
  | n + 1, l0, l2, l3, l4, l5, I, P, nx, sl => fM_changes_B148 e148_193 (fM_changes_L148 e148_193 n) l0 l2 l3 l4 l5 I P nx sl
theorem AfM_changes_L148 {dp : Nat}  {e148_193 : Nat → Int32 → Int32 → am_M → am_Q → Nat → Nat → Option (Int32 × am_S)} (he148_193 : ∀ (l0 : Nat) (l2 : Int32) (l3 : Int32) (I : am_M) (P : am_Q) (nx : Nat) (sl : Nat) (o1 : Option am_V) (o4 : Option am_V) (o5 : Option am_V), sm (dp + 23) am_d214 193 [some (.inr l0), o1, some (.inl l2), some (.inl l3), o4, o5] [] (I, P, nx, sl) sm_g3 (e148_193 l0 l2 l3 I P nx sl)) (n : Nat) : ∀ (l0 : Nat) (l2 : Int32) (l3 : Int32) (l4 : Int32) (l5 : Int32) (I : am_M) (P : am_Q) (nx : Nat) (sl : Nat) (o1 : Option am_V), sm (dp + 23) am_d214 148 [some (.inr l0), o1, some (.inl l2), some (.inl l3), some (.inl l4), some (.inl l5)] [] (I, P, nx, sl) sm_g3 (fM_changes_L148 e148_193 n l0 l2 l3 l4 l5 I P nx sl) := by
  induction n with
  | zero => intro l0 l2 l3 l4 l5 I P nx sl o1; exact sm_none
  | succ n ih => intro l0 l2 l3 l4 l5 I P nx sl o1; exact AfM_changes_B148 he148_193 ih l0 l2 l3 l4 l5 I P nx sl o1
noncomputable def fM_changes_B114 (e114_199 : Nat → am_M → am_Q → Nat → Nat → Option (Int32 × am_S)) (r114 : Nat → Int32 → Int32 → am_M → am_Q → Nat → Nat → Option (Int32 × am_S)) (l0 : Nat) (l2 : Int32) (l3 : Int32) (I : am_M) (P : am_Q) (nx : Nat) (sl : Nat) : Option (Int32 × am_S) :=
  if l2 ≤ l3 then
    (e114_199 l0 I P nx sl)
  else
    (sm_ck (am_t l0 = 13) <|
    if 0 ≤ (I l0 59) then
      (e114_199 l0 I P nx sl)
    else
      (sm_ck (sm_in (P l0 1) 3) <|
      sm_bd (I (P l0 1) (3 : Int32).toNatClampNeg) fun x28 =>
      Option.bind (fM_hour l0 I P nx sl) fun y29 =>
      sm_ck (sm_in (y29.2.1 l0 1) 1) <|
      sm_bd ((y29.1 (y29.2.1 l0 1) (1 : Int32).toNatClampNeg) - 1) fun x31 =>
      fM_changes_L148 (fun l0 l2 l3 I P nx sl =>
          sm_bd (l3 + 1) fun x40 =>
          r114 l0 l2 x40 I P nx sl) sm_fu l0 l2 l3 x28 x31 y29.1 y29.2.1 y29.2.2.1 y29.2.2.2))
set_option maxRecDepth 100000 in
theorem AfM_changes_B114 {dp : Nat}  {e114_199 : Nat → am_M → am_Q → Nat → Nat → Option (Int32 × am_S)} {r114 : Nat → Int32 → Int32 → am_M → am_Q → Nat → Nat → Option (Int32 × am_S)} (he114_199 : ∀ (l0 : Nat) (I : am_M) (P : am_Q) (nx : Nat) (sl : Nat) (o1 : Option am_V) (o2 : Option am_V) (o3 : Option am_V) (o4 : Option am_V) (o5 : Option am_V), sm (dp + 23) am_d214 199 [some (.inr l0), o1, o2, o3, o4, o5] [] (I, P, nx, sl) sm_g3 (e114_199 l0 I P nx sl)) (hr114 : ∀ (l0 : Nat) (l2 : Int32) (l3 : Int32) (I : am_M) (P : am_Q) (nx : Nat) (sl : Nat) (o1 : Option am_V) (o4 : Option am_V) (o5 : Option am_V), sm (dp + 23) am_d214 114 [some (.inr l0), o1, some (.inl l2), some (.inl l3), o4, o5] [] (I, P, nx, sl) sm_g3 (r114 l0 l2 l3 I P nx sl)) (l0 : Nat) (l2 : Int32) (l3 : Int32) (I : am_M) (P : am_Q) (nx : Nat) (sl : Nat) (o1 : Option am_V) (o4 : Option am_V) (o5 : Option am_V) : sm (dp + 23) am_d214 114 [some (.inr l0), o1, some (.inl l2), some (.inl l3), o4, o5] [] (I, P, nx, sl) sm_g3 (fM_changes_B114 e114_199 r114 l0 l2 l3 I P nx sl) := by
  unfold fM_changes_B114
  refine r_iload rfl rfl ?_
  refine r_iload rfl rfl ?_
  refine r_icmp rfl rfl (fun c24 => ?_) (fun c24 => ?_)
  · exact he114_199 l0 I P nx sl o1 (some (.inl l2)) (some (.inl l3)) o4 o5
  · refine r_ck (fun h25 => ?_)
    refine r_aload rfl rfl (am_nz h25) ?_
    refine r_getI rfl h25 ?_
    refine r_if rfl rfl (fun c26 => ?_) (fun c26 => ?_)
    · exact he114_199 l0 I P nx sl o1 (some (.inl l2)) (some (.inl l3)) o4 o5
    · refine r_aload rfl rfl (am_nz h25) ?_
      refine r_getP rfl h25 ?_
      refine r_const (x := 3) rfl rfl ?_
      refine r_ck (fun h27 => ?_)
      refine r_iald rfl h27 ?_
      refine r_bd (fun x28 => ?_)
      refine r_istore (ls' := [some (.inr l0), o1, some (.inl l2), some (.inl l3), some (.inl x28), o5]) rfl (Nat.le_of_ble_eq_true rfl) rfl ?_
      refine r_aload rfl rfl (am_nz h25) ?_
      refine r_call4 rfl rfl h25 (fun y hy => AfM_hour (dp := dp + 18) hy) (fun y29 => ?_)
      refine r_aload rfl rfl (am_nz h25) ?_
      refine r_getP rfl h25 ?_
      refine r_const (x := 1) rfl rfl ?_
      refine r_ck (fun h30 => ?_)
      refine r_iald rfl h30 ?_
      refine r_const (x := 1) rfl rfl ?_
      refine r_bin (z := (y29.1 (y29.2.1 l0 1) (1 : Int32).toNatClampNeg) - 1) rfl rfl (by decide) ?_
      refine r_bd (fun x31 => ?_)
      refine r_istore (ls' := [some (.inr l0), o1, some (.inl l2), some (.inl l3), some (.inl x28), some (.inl x31)]) rfl (Nat.le_of_ble_eq_true rfl) rfl ?_
      refine AfM_changes_L148 ?_ sm_fu l0 l2 l3 x28 x31 y29.1 y29.2.1 y29.2.2.1 y29.2.2.2 o1
      · intro l0 l2 l3 I P nx sl o1 o4 o5
        refine r_iinc (e := l3 + 1) (ls' := fun x40 => [some (.inr l0), o1, some (.inl l2), some (.inl x40), o4, o5]) rfl rfl rfl (fun _ => rfl) (fun x40 => ?_)
        refine r_goto rfl ?_
        exact hr114 l0 l2 x40 I P nx sl o1 o4 o5
noncomputable def fM_changes_L114 (e114_199 : Nat → am_M → am_Q → Nat → Nat → Option (Int32 × am_S)) : Nat → Nat → Int32 → Int32 → am_M → am_Q → Nat → Nat → Option (Int32 × am_S)
  | 0, _, _, _, _, _, _, _ => none
  | n + 1, l0, l2, l3, I, P, nx, sl => fM_changes_B114 e114_199 (fM_changes_L114 e114_199 n) l0 l2 l3 I P nx sl
theorem AfM_changes_L114 {dp : Nat}  {e114_199 : Nat → am_M → am_Q → Nat → Nat → Option (Int32 × am_S)} (he114_199 : ∀ (l0 : Nat) (I : am_M) (P : am_Q) (nx : Nat) (sl : Nat) (o1 : Option am_V) (o2 : Option am_V) (o3 : Option am_V) (o4 : Option am_V) (o5 : Option am_V), sm (dp + 23) am_d214 199 [some (.inr l0), o1, o2, o3, o4, o5] [] (I, P, nx, sl) sm_g3 (e114_199 l0 I P nx sl)) (n : Nat) : ∀ (l0 : Nat) (l2 : Int32) (l3 : Int32) (I : am_M) (P : am_Q) (nx : Nat) (sl : Nat) (o1 : Option am_V) (o4 : Option am_V) (o5 : Option am_V), sm (dp + 23) am_d214 114 [some (.inr l0), o1, some (.inl l2), some (.inl l3), o4, o5] [] (I, P, nx, sl) sm_g3 (fM_changes_L114 e114_199 n l0 l2 l3 I P nx sl) := by
  induction n with
  | zero => intro l0 l2 l3 I P nx sl o1 o4 o5; exact sm_none
  | succ n ih => intro l0 l2 l3 I P nx sl o1 o4 o5; exact AfM_changes_B114 he114_199 ih l0 l2 l3 I P nx sl o1 o4 o5
noncomputable def fM_changes_J199 (l0 : Nat) (I : am_M) (P : am_Q) (nx : Nat) (sl : Nat) : Option (Int32 × am_S) :=
  sm_ck (am_t l0 = 13) <|
  Option.bind (fM_copiesAll P l0 7 0 I) fun y42 =>
  if 0 ≤ (y42 l0 59) then
    (some ((-1), y42, P, nx, sl))
  else
    (some ((-1000004), y42, P, nx, sl))
set_option maxRecDepth 100000 in
theorem AfM_changes_J199 {dp : Nat}  (l0 : Nat) (I : am_M) (P : am_Q) (nx : Nat) (sl : Nat) (o1 : Option am_V) (o2 : Option am_V) (o3 : Option am_V) (o4 : Option am_V) (o5 : Option am_V) : sm (dp + 23) am_d214 199 [some (.inr l0), o1, o2, o3, o4, o5] [] (I, P, nx, sl) sm_g3 (fM_changes_J199 l0 I P nx sl) := by
  unfold fM_changes_J199
  refine r_ck (fun h41 => ?_)
  refine r_aload rfl rfl (am_nz h41) ?_
  refine r_const (x := 7) rfl rfl ?_
  refine r_const (x := 0) rfl rfl ?_
  refine r_call2 rfl rfl h41 (fun y hy => AfM_copiesAll (dp := dp + 21) hy) (fun y42 => ?_)
  refine r_aload rfl rfl (am_nz h41) ?_
  refine r_getI rfl h41 ?_
  refine r_if rfl rfl (fun c43 => ?_) (fun c43 => ?_)
  · refine r_const (x := (-1)) rfl rfl ?_
    exact r_ireturn rfl (Or.inl rfl) rfl
  · refine r_const (x := (-1000004)) rfl rfl ?_
    refine r_goto rfl ?_
    exact r_ireturn rfl (Or.inl rfl) rfl
noncomputable def fM_changes (l0 : Nat) (l1 : Int32) (l2 : Int32) (I : am_M) (P : am_Q) (nx : Nat) (sl : Nat) : Option (Int32 × am_S) :=
  sm_ck (am_t l0 = 13) <|
  Option.bind (fM_isOf I P l0 0 l1) fun y2 =>
  if y2 = 0 then
    (some ((-1000001), I, P, nx, sl))
  else
    (Option.bind (fM_within l2 1 30) fun y4 =>
    if ¬ y4 = 0 then
      (Option.bind (fM_isText P l0 I) fun y6 =>
      if ¬ y6.1 = 0 then
        (Option.bind (fM_copiesAll P l0 7 1 y6.2) fun y8 =>
        fM_changes_L41 (fun l0 l1 l2 I P nx sl =>
            sm_ck (am_t l0 = 13) <|
            Option.bind (fM_copiesAll P l0 7 0 I) fun y21 =>
            Option.bind (fM_takesText P l0 l1 y21) fun y22 =>
            sm_bd (am_up y22 l0 59 ((-1))) fun I23 =>
            fM_changes_L114 (fun l0 I P nx sl =>
                fM_changes_J199 l0 I P nx sl) sm_fu l0 l2 0 I23 P nx sl) sm_fu l0 l1 l2 0 y8 P nx sl)
      else
        (some ((-1000003), y6.2, P, nx, sl)))
    else
      (some ((-1000001), I, P, nx, sl)))
set_option maxRecDepth 100000 in
theorem AfM_changes {dp : Nat}  {I : am_M} {P : am_Q} {nx : Nat} {sl : Nat} {l0 : Nat} {l1 : Int32} {l2 : Int32} {y : Int32 × am_S} (hy : fM_changes l0 l1 l2 I P nx sl = some y) : sm_T (dp + 24) 214 [.inr l0, .inl l1, .inl l2] (I, P, nx, sl) (sm_g3 y) := by
  refine r_meth (d := am_d214) (dp := dp + 23) (ls0 := [some (.inr l0), some (.inl l1), some (.inl l2), none, none, none]) rfl (by decide) rfl rfl ?_ hy
  unfold fM_changes
  refine r_ck (fun h1 => ?_)
  refine r_aload rfl rfl (am_nz h1) ?_
  refine r_const (x := 0) rfl rfl ?_
  refine r_iload rfl rfl ?_
  refine r_call0 rfl rfl h1 (fun y hy => AfM_isOf (dp := dp + 21) hy) (fun y2 => ?_)
  refine r_if rfl rfl (fun c3 => ?_) (fun c3 => ?_)
  · refine r_const (x := (-1000001)) rfl rfl ?_
    exact r_ireturn rfl (Or.inl rfl) rfl
  · refine r_iload rfl rfl ?_
    refine r_const (x := 1) rfl rfl ?_
    refine r_const (x := 30) rfl rfl ?_
    refine r_call0 rfl rfl trivial (fun y hy => AfM_within (dp := dp + 22) hy) (fun y4 => ?_)
    refine r_if rfl rfl (fun c5 => ?_) (fun c5 => ?_)
    · refine r_aload rfl rfl (am_nz h1) ?_
      refine r_call1 rfl rfl h1 (fun y hy => AfM_isText (dp := dp + 0) hy) (fun y6 => ?_)
      refine r_if rfl rfl (fun c7 => ?_) (fun c7 => ?_)
      · refine r_aload rfl rfl (am_nz h1) ?_
        refine r_const (x := 7) rfl rfl ?_
        refine r_const (x := 1) rfl rfl ?_
        refine r_call2 rfl rfl h1 (fun y hy => AfM_copiesAll (dp := dp + 21) hy) (fun y8 => ?_)
        refine r_const (x := 0) rfl rfl ?_
        refine r_istore (ls' := [some (.inr l0), some (.inl l1), some (.inl l2), some (.inl 0), none, none]) rfl (Nat.le_of_ble_eq_true rfl) rfl ?_
        refine AfM_changes_L41 ?_ sm_fu l0 l1 l2 0 y8 P nx sl none none
        · intro l0 l1 l2 I P nx sl o3 o4 o5
          refine r_ck (fun h20 => ?_)
          refine r_aload rfl rfl (am_nz h20) ?_
          refine r_const (x := 7) rfl rfl ?_
          refine r_const (x := 0) rfl rfl ?_
          refine r_call2 rfl rfl h20 (fun y hy => AfM_copiesAll (dp := dp + 21) hy) (fun y21 => ?_)
          refine r_aload rfl rfl (am_nz h20) ?_
          refine r_iload rfl rfl ?_
          refine r_call2 rfl rfl h20 (fun y hy => AfM_takesText (dp := dp + 22) hy) (fun y22 => ?_)
          refine r_aload rfl rfl (am_nz h20) ?_
          refine r_const (x := (-1)) rfl rfl ?_
          refine r_putI rfl h20 (fun hz => absurd hz (by decide)) (fun I23 => ?_)
          refine r_const (x := 0) rfl rfl ?_
          refine r_istore (ls' := [some (.inr l0), some (.inl l1), some (.inl l2), some (.inl 0), o4, o5]) rfl (Nat.le_of_ble_eq_true rfl) rfl ?_
          refine AfM_changes_L114 ?_ sm_fu l0 l2 0 I23 P nx sl (some (.inl l1)) o4 o5
          · intro l0 I P nx sl o1 o2 o3 o4 o5
            exact AfM_changes_J199 l0 I P nx sl o1 o2 o3 o4 o5
      · refine r_const (x := (-1000003)) rfl rfl ?_
        exact r_ireturn rfl (Or.inl rfl) rfl
    · refine r_const (x := (-1000001)) rfl rfl ?_
      exact r_ireturn rfl (Or.inl rfl) rfl
noncomputable def fM_change (l0 : Nat) (l1 : Int32) (l2 : Int32) (I : am_M) (P : am_Q) (nx : Nat) (sl : Nat) : Option (Int32 × am_S) :=
  sm_ck (am_t l0 = 13) <|
  Option.bind (fM_changes l0 l1 l2 I P nx sl) fun y2 =>
  if ¬ y2.1 = ((-1)) then
    (Option.bind (fM_finds y2.2.2.1 l0 y2.1 y2.2.1) fun y4 =>
    some (y4.1, y4.2, y2.2.2.1, y2.2.2.2.1, y2.2.2.2.2))
  else
    (some (y2.2.1 l0 59, y2.2.1, y2.2.2.1, y2.2.2.2.1, y2.2.2.2.2))
set_option maxRecDepth 100000 in
theorem AfM_change {dp : Nat}  {I : am_M} {P : am_Q} {nx : Nat} {sl : Nat} {l0 : Nat} {l1 : Int32} {l2 : Int32} {y : Int32 × am_S} (hy : fM_change l0 l1 l2 I P nx sl = some y) : sm_T (dp + 25) 213 [.inr l0, .inl l1, .inl l2] (I, P, nx, sl) (sm_g3 y) := by
  refine r_meth (d := am_d213) (dp := dp + 24) (ls0 := [some (.inr l0), some (.inl l1), some (.inl l2), none]) rfl (by decide) rfl rfl ?_ hy
  unfold fM_change
  refine r_ck (fun h1 => ?_)
  refine r_aload rfl rfl (am_nz h1) ?_
  refine r_iload rfl rfl ?_
  refine r_iload rfl rfl ?_
  refine r_call3 rfl rfl h1 (fun y hy => AfM_changes (dp := dp + 0) hy) (fun y2 => ?_)
  refine r_istore (ls' := [some (.inr l0), some (.inl l1), some (.inl l2), some (.inl y2.1)]) rfl (Nat.le_of_ble_eq_true rfl) rfl ?_
  refine r_iload rfl rfl ?_
  refine r_const (x := (-1)) rfl rfl ?_
  refine r_icmp rfl rfl (fun c3 => ?_) (fun c3 => ?_)
  · refine r_aload rfl rfl (am_nz h1) ?_
    refine r_iload rfl rfl ?_
    refine r_call1 rfl rfl h1 (fun y hy => AfM_finds (dp := dp + 23) hy) (fun y4 => ?_)
    exact r_ireturn rfl (Or.inl rfl) rfl
  · refine r_aload rfl rfl (am_nz h1) ?_
    refine r_getI rfl h1 ?_
    refine r_goto rfl ?_
    exact r_ireturn rfl (Or.inl rfl) rfl
noncomputable def fM_drift (l0 : Nat) (l1 : Int32) (l2 : Int32) (I : am_M) (P : am_Q) (nx : Nat) (sl : Nat) : Option (Int32 × am_S) :=
  sm_ck (am_t l0 = 13) <|
  Option.bind (fM_changes l0 l1 l2 I P nx sl) fun y2 =>
  if ¬ y2.1 = ((-1)) then
    (Option.bind (fM_finds y2.2.2.1 l0 y2.1 y2.2.1) fun y4 =>
    some (y4.1, y4.2, y2.2.2.1, y2.2.2.2.1, y2.2.2.2.2))
  else
    (some (y2.2.1 l0 60, y2.2.1, y2.2.2.1, y2.2.2.2.1, y2.2.2.2.2))
set_option maxRecDepth 100000 in
theorem AfM_drift {dp : Nat}  {I : am_M} {P : am_Q} {nx : Nat} {sl : Nat} {l0 : Nat} {l1 : Int32} {l2 : Int32} {y : Int32 × am_S} (hy : fM_drift l0 l1 l2 I P nx sl = some y) : sm_T (dp + 25) 215 [.inr l0, .inl l1, .inl l2] (I, P, nx, sl) (sm_g3 y) := by
  refine r_meth (d := am_d215) (dp := dp + 24) (ls0 := [some (.inr l0), some (.inl l1), some (.inl l2), none]) rfl (by decide) rfl rfl ?_ hy
  unfold fM_drift
  refine r_ck (fun h1 => ?_)
  refine r_aload rfl rfl (am_nz h1) ?_
  refine r_iload rfl rfl ?_
  refine r_iload rfl rfl ?_
  refine r_call3 rfl rfl h1 (fun y hy => AfM_changes (dp := dp + 0) hy) (fun y2 => ?_)
  refine r_istore (ls' := [some (.inr l0), some (.inl l1), some (.inl l2), some (.inl y2.1)]) rfl (Nat.le_of_ble_eq_true rfl) rfl ?_
  refine r_iload rfl rfl ?_
  refine r_const (x := (-1)) rfl rfl ?_
  refine r_icmp rfl rfl (fun c3 => ?_) (fun c3 => ?_)
  · refine r_aload rfl rfl (am_nz h1) ?_
    refine r_iload rfl rfl ?_
    refine r_call1 rfl rfl h1 (fun y hy => AfM_finds (dp := dp + 23) hy) (fun y4 => ?_)
    exact r_ireturn rfl (Or.inl rfl) rfl
  · refine r_aload rfl rfl (am_nz h1) ?_
    refine r_getI rfl h1 ?_
    refine r_goto rfl ?_
    exact r_ireturn rfl (Or.inl rfl) rfl
