noncomputable def fLaw_law_J1489 (r18 : Nat → Nat → Nat → Int32 → am_M → am_Q → Nat → Nat → Option (Int32 × am_S)) (l0 : Nat) (l1 : Nat) (l2 : Nat) (l3 : Int32) (I : am_M) (P : am_Q) (nx : Nat) (sl : Nat) : Option (Int32 × am_S) :=
  sm_bd (l3 + 6) fun x30 =>
  r18 l0 l1 l2 x30 I P nx sl
set_option maxRecDepth 100000 in
theorem AfLaw_law_J1489 {dp : Nat}  {r18 : Nat → Nat → Nat → Int32 → am_M → am_Q → Nat → Nat → Option (Int32 × am_S)} (hr18 : ∀ (l0 : Nat) (l1 : Nat) (l2 : Nat) (l3 : Int32) (I : am_M) (P : am_Q) (nx : Nat) (sl : Nat), sm (dp + 25) am_d0 18 [some (.inr l0), some (.inr l1), some (.inr l2), some (.inl l3)] [] (I, P, nx, sl) sm_g3 (r18 l0 l1 l2 l3 I P nx sl)) (l0 : Nat) (l1 : Nat) (l2 : Nat) (l3 : Int32) (I : am_M) (P : am_Q) (nx : Nat) (sl : Nat) : sm (dp + 25) am_d0 1489 [some (.inr l0), some (.inr l1), some (.inr l2), some (.inl l3)] [] (I, P, nx, sl) sm_g3 (fLaw_law_J1489 r18 l0 l1 l2 l3 I P nx sl) := by
  unfold fLaw_law_J1489
  refine r_iinc (e := l3 + 6) (ls' := fun x30 => [some (.inr l0), some (.inr l1), some (.inr l2), some (.inl x30)]) rfl rfl rfl (fun _ => rfl) (fun x30 => ?_)
  refine r_goto rfl ?_
  exact hr18 l0 l1 l2 x30 I P nx sl
noncomputable def fLaw_law_B18 (e18_241 : am_M → am_Q → Nat → Nat → Option (Int32 × am_S)) (e18_284 : am_M → am_Q → Nat → Nat → Option (Int32 × am_S)) (e18_317 : am_M → am_Q → Nat → Nat → Option (Int32 × am_S)) (e18_350 : am_M → am_Q → Nat → Nat → Option (Int32 × am_S)) (e18_383 : am_M → am_Q → Nat → Nat → Option (Int32 × am_S)) (e18_426 : am_M → am_Q → Nat → Nat → Option (Int32 × am_S)) (e18_459 : am_M → am_Q → Nat → Nat → Option (Int32 × am_S)) (e18_492 : am_M → am_Q → Nat → Nat → Option (Int32 × am_S)) (e18_515 : am_M → am_Q → Nat → Nat → Option (Int32 × am_S)) (e18_528 : am_M → am_Q → Nat → Nat → Option (Int32 × am_S)) (e18_591 : am_M → am_Q → Nat → Nat → Option (Int32 × am_S)) (e18_624 : am_M → am_Q → Nat → Nat → Option (Int32 × am_S)) (e18_657 : am_M → am_Q → Nat → Nat → Option (Int32 × am_S)) (e18_700 : am_M → am_Q → Nat → Nat → Option (Int32 × am_S)) (e18_723 : am_M → am_Q → Nat → Nat → Option (Int32 × am_S)) (e18_746 : am_M → am_Q → Nat → Nat → Option (Int32 × am_S)) (e18_769 : am_M → am_Q → Nat → Nat → Option (Int32 × am_S)) (e18_792 : am_M → am_Q → Nat → Nat → Option (Int32 × am_S)) (e18_815 : am_M → am_Q → Nat → Nat → Option (Int32 × am_S)) (e18_848 : am_M → am_Q → Nat → Nat → Option (Int32 × am_S)) (e18_871 : am_M → am_Q → Nat → Nat → Option (Int32 × am_S)) (e18_894 : am_M → am_Q → Nat → Nat → Option (Int32 × am_S)) (e18_917 : am_M → am_Q → Nat → Nat → Option (Int32 × am_S)) (e18_940 : am_M → am_Q → Nat → Nat → Option (Int32 × am_S)) (e18_983 : am_M → am_Q → Nat → Nat → Option (Int32 × am_S)) (e18_996 : am_M → am_Q → Nat → Nat → Option (Int32 × am_S)) (e18_1019 : am_M → am_Q → Nat → Nat → Option (Int32 × am_S)) (e18_1032 : am_M → am_Q → Nat → Nat → Option (Int32 × am_S)) (e18_1055 : am_M → am_Q → Nat → Nat → Option (Int32 × am_S)) (e18_1088 : am_M → am_Q → Nat → Nat → Option (Int32 × am_S)) (e18_1121 : am_M → am_Q → Nat → Nat → Option (Int32 × am_S)) (e18_1154 : am_M → am_Q → Nat → Nat → Option (Int32 × am_S)) (e18_1187 : am_M → am_Q → Nat → Nat → Option (Int32 × am_S)) (e18_1220 : am_M → am_Q → Nat → Nat → Option (Int32 × am_S)) (e18_1253 : am_M → am_Q → Nat → Nat → Option (Int32 × am_S)) (e18_1296 : am_M → am_Q → Nat → Nat → Option (Int32 × am_S)) (e18_1339 : am_M → am_Q → Nat → Nat → Option (Int32 × am_S)) (e18_1402 : am_M → am_Q → Nat → Nat → Option (Int32 × am_S)) (e18_1415 : am_M → am_Q → Nat → Nat → Option (Int32 × am_S)) (e18_1428 : am_M → am_Q → Nat → Nat → Option (Int32 × am_S)) (e18_1441 : am_M → am_Q → Nat → Nat → Option (Int32 × am_S)) (e18_1464 : am_M → am_Q → Nat → Nat → Option (Int32 × am_S)) (e18_1487 : am_M → am_Q → Nat → Nat → Option (Int32 × am_S)) (e18_1495 : am_M → am_Q → Nat → Nat → Option (Int32 × am_S)) (r18 : Nat → Nat → Nat → Int32 → am_M → am_Q → Nat → Nat → Option (Int32 × am_S)) (l0 : Nat) (l1 : Nat) (l2 : Nat) (l3 : Int32) (I : am_M) (P : am_Q) (nx : Nat) (sl : Nat) : Option (Int32 × am_S) :=
  sm_ck (am_t l0 = 20) <|
  sm_ck (20 ≤ am_t l0 ∧ am_t l0 < 26) <|
  if ((Int32.ofNat (am_n l0)) - 6) < l3 then
    (e18_1495 I P nx sl)
  else
    (sm_ck (sm_in l0 l3) <|
    sm_bd ((I l0 l3.toNatClampNeg) &&& 63) fun x21 =>
    if x21 = 0 then
      (sm_ck (am_t l1 = 12) <|
      sm_ck (sm_in l0 (l3 + 1)) <|
      Option.bind (fX_whole P l1 (I l0 (l3 + 1).toNatClampNeg) I) fun y25 =>
      sm_ck (am_t l2 = 13) <|
      sm_ck (sm_in l0 (l3 + 1)) <|
      Option.bind (fM_whole P l2 (y25.2 l0 (l3 + 1).toNatClampNeg) y25.2) fun y28 =>
      if y25.1 = y28.1 then
        (fLaw_law_J1489 r18 l0 l1 l2 l3 y28.2 P nx sl)
      else
        (e18_241 y28.2 P nx sl))
    else if x21 = 1 then
      (sm_ck (am_t l1 = 12) <|
      sm_ck (sm_in l0 (l3 + 1)) <|
      sm_ck (sm_in l0 (l3 + 2)) <|
      sm_ck (sm_in l0 (l3 + 3)) <|
      Option.bind (fX_box l1 (I l0 (l3 + 1).toNatClampNeg) (I l0 (l3 + 2).toNatClampNeg) (I l0 (l3 + 3).toNatClampNeg) I P nx sl) fun y36 =>
      sm_ck (am_t l2 = 13) <|
      sm_ck (sm_in l0 (l3 + 1)) <|
      sm_ck (sm_in l0 (l3 + 2)) <|
      sm_ck (sm_in l0 (l3 + 3)) <|
      Option.bind (fM_box y36.2.2.1 l2 (y36.2.1 l0 (l3 + 1).toNatClampNeg) (y36.2.1 l0 (l3 + 2).toNatClampNeg) (y36.2.1 l0 (l3 + 3).toNatClampNeg) y36.2.1) fun y41 =>
      if y36.1 = y41.1 then
        (fLaw_law_J1489 r18 l0 l1 l2 l3 y41.2 y36.2.2.1 y36.2.2.2.1 y36.2.2.2.2)
      else
        (e18_284 y41.2 y36.2.2.1 y36.2.2.2.1 y36.2.2.2.2))
    else if x21 = 2 then
      (sm_ck (am_t l1 = 12) <|
      sm_ck (sm_in l0 (l3 + 1)) <|
      sm_ck (sm_in l0 (l3 + 2)) <|
      Option.bind (fX_as P l1 (I l0 (l3 + 1).toNatClampNeg) (I l0 (l3 + 2).toNatClampNeg) I) fun y47 =>
      sm_ck (am_t l2 = 13) <|
      sm_ck (sm_in l0 (l3 + 1)) <|
      sm_ck (sm_in l0 (l3 + 2)) <|
      Option.bind (fM_as P l2 (y47.2 l0 (l3 + 1).toNatClampNeg) (y47.2 l0 (l3 + 2).toNatClampNeg) y47.2) fun y51 =>
      if y47.1 = y51.1 then
        (fLaw_law_J1489 r18 l0 l1 l2 l3 y51.2 P nx sl)
      else
        (e18_317 y51.2 P nx sl))
    else if x21 = 3 then
      (sm_ck (am_t l1 = 12) <|
      sm_ck (sm_in l0 (l3 + 1)) <|
      sm_ck (sm_in l0 (l3 + 2)) <|
      Option.bind (fX_of P l1 (I l0 (l3 + 1).toNatClampNeg) (I l0 (l3 + 2).toNatClampNeg) I) fun y57 =>
      sm_ck (am_t l2 = 13) <|
      sm_ck (sm_in l0 (l3 + 1)) <|
      sm_ck (sm_in l0 (l3 + 2)) <|
      Option.bind (fM_of P l2 (y57.2 l0 (l3 + 1).toNatClampNeg) (y57.2 l0 (l3 + 2).toNatClampNeg) y57.2) fun y61 =>
      if y57.1 = y61.1 then
        (fLaw_law_J1489 r18 l0 l1 l2 l3 y61.2 P nx sl)
      else
        (e18_350 y61.2 P nx sl))
    else if x21 = 4 then
      (sm_ck (am_t l1 = 12) <|
      sm_ck (sm_in l0 (l3 + 1)) <|
      sm_ck (sm_in l0 (l3 + 2)) <|
      Option.bind (fX_set P l1 (I l0 (l3 + 1).toNatClampNeg) (I l0 (l3 + 2).toNatClampNeg) I) fun y67 =>
      sm_ck (am_t l2 = 13) <|
      sm_ck (sm_in l0 (l3 + 1)) <|
      sm_ck (sm_in l0 (l3 + 2)) <|
      Option.bind (fM_set P l2 (y67.2 l0 (l3 + 1).toNatClampNeg) (y67.2 l0 (l3 + 2).toNatClampNeg) y67.2) fun y71 =>
      if y67.1 = y71.1 then
        (fLaw_law_J1489 r18 l0 l1 l2 l3 y71.2 P nx sl)
      else
        (e18_383 y71.2 P nx sl))
    else if x21 = 5 then
      (sm_ck (am_t l1 = 12) <|
      sm_ck (sm_in l0 (l3 + 1)) <|
      sm_ck (sm_in l0 (l3 + 2)) <|
      sm_ck (sm_in l0 (l3 + 3)) <|
      Option.bind (fX_in P l1 (I l0 (l3 + 1).toNatClampNeg) (I l0 (l3 + 2).toNatClampNeg) (I l0 (l3 + 3).toNatClampNeg) I) fun y78 =>
      sm_ck (am_t l2 = 13) <|
      sm_ck (sm_in l0 (l3 + 1)) <|
      sm_ck (sm_in l0 (l3 + 2)) <|
      sm_ck (sm_in l0 (l3 + 3)) <|
      Option.bind (fM_in P l2 (y78.2 l0 (l3 + 1).toNatClampNeg) (y78.2 l0 (l3 + 2).toNatClampNeg) (y78.2 l0 (l3 + 3).toNatClampNeg) y78.2) fun y83 =>
      if y78.1 = y83.1 then
        (fLaw_law_J1489 r18 l0 l1 l2 l3 y83.2 P nx sl)
      else
        (e18_426 y83.2 P nx sl))
    else if x21 = 6 then
      (sm_ck (am_t l1 = 12) <|
      sm_ck (sm_in l0 (l3 + 1)) <|
      sm_ck (sm_in l0 (l3 + 2)) <|
      Option.bind (fX_time P l1 (I l0 (l3 + 1).toNatClampNeg) (I l0 (l3 + 2).toNatClampNeg) I) fun y89 =>
      sm_ck (am_t l2 = 13) <|
      sm_ck (sm_in l0 (l3 + 1)) <|
      sm_ck (sm_in l0 (l3 + 2)) <|
      Option.bind (fM_time P l2 (y89.2 l0 (l3 + 1).toNatClampNeg) (y89.2 l0 (l3 + 2).toNatClampNeg) y89.2) fun y93 =>
      if y89.1 = y93.1 then
        (fLaw_law_J1489 r18 l0 l1 l2 l3 y93.2 P nx sl)
      else
        (e18_459 y93.2 P nx sl))
    else if x21 = 7 then
      (sm_ck (am_t l1 = 12) <|
      sm_ck (sm_in l0 (l3 + 1)) <|
      sm_ck (sm_in l0 (l3 + 2)) <|
      Option.bind (fX_feed P l1 (I l0 (l3 + 1).toNatClampNeg) (I l0 (l3 + 2).toNatClampNeg) I) fun y99 =>
      sm_ck (am_t l2 = 13) <|
      sm_ck (sm_in l0 (l3 + 1)) <|
      sm_ck (sm_in l0 (l3 + 2)) <|
      Option.bind (fM_feed P l2 (y99.2 l0 (l3 + 1).toNatClampNeg) (y99.2 l0 (l3 + 2).toNatClampNeg) y99.2) fun y103 =>
      if y99.1 = y103.1 then
        (fLaw_law_J1489 r18 l0 l1 l2 l3 y103.2 P nx sl)
      else
        (e18_492 y103.2 P nx sl))
    else if x21 = 8 then
      (sm_ck (am_t l1 = 12) <|
      sm_ck (sm_in l0 (l3 + 1)) <|
      Option.bind (fX_text l1 (I l0 (l3 + 1).toNatClampNeg) I P nx sl) fun y108 =>
      sm_ck (am_t l2 = 13) <|
      sm_ck (sm_in l0 (l3 + 1)) <|
      Option.bind (fM_text y108.2.2.1 l2 (y108.2.1 l0 (l3 + 1).toNatClampNeg) y108.2.1) fun y111 =>
      if y108.1 = y111.1 then
        (fLaw_law_J1489 r18 l0 l1 l2 l3 y111.2 y108.2.2.1 y108.2.2.2.1 y108.2.2.2.2)
      else
        (e18_515 y111.2 y108.2.2.1 y108.2.2.2.1 y108.2.2.2.2))
    else if x21 = 9 then
      (sm_ck (am_t l1 = 12) <|
      Option.bind (fX_wipe P l1 I) fun y115 =>
      sm_ck (am_t l2 = 13) <|
      Option.bind (fM_wipe P l2 y115.2) fun y117 =>
      if y115.1 = y117.1 then
        (fLaw_law_J1489 r18 l0 l1 l2 l3 y117.2 P nx sl)
      else
        (e18_528 y117.2 P nx sl))
    else if x21 = 10 then
      (sm_ck (am_t l1 = 12) <|
      sm_ck (sm_in l0 (l3 + 1)) <|
      sm_ck (sm_in l0 (l3 + 2)) <|
      sm_ck (sm_in l0 (l3 + 3)) <|
      sm_ck (sm_in l0 (l3 + 4)) <|
      sm_ck (sm_in l0 (l3 + 5)) <|
      Option.bind (fX_would l1 (I l0 (l3 + 1).toNatClampNeg) (I l0 (l3 + 2).toNatClampNeg) (I l0 (l3 + 3).toNatClampNeg) (I l0 (l3 + 4).toNatClampNeg) (I l0 (l3 + 5).toNatClampNeg) I P nx sl) fun y126 =>
      sm_ck (am_t l2 = 13) <|
      sm_ck (sm_in l0 (l3 + 1)) <|
      sm_ck (sm_in l0 (l3 + 2)) <|
      sm_ck (sm_in l0 (l3 + 3)) <|
      sm_ck (sm_in l0 (l3 + 4)) <|
      sm_ck (sm_in l0 (l3 + 5)) <|
      Option.bind (fM_would y126.2.2.1 l2 (y126.2.1 l0 (l3 + 1).toNatClampNeg) (y126.2.1 l0 (l3 + 2).toNatClampNeg) (y126.2.1 l0 (l3 + 3).toNatClampNeg) (y126.2.1 l0 (l3 + 4).toNatClampNeg) (y126.2.1 l0 (l3 + 5).toNatClampNeg) y126.2.1) fun y133 =>
      if y126.1 = y133.1 then
        (fLaw_law_J1489 r18 l0 l1 l2 l3 y133.2 y126.2.2.1 y126.2.2.2.1 y126.2.2.2.2)
      else
        (e18_591 y133.2 y126.2.2.1 y126.2.2.2.1 y126.2.2.2.2))
    else if x21 = 11 then
      (sm_ck (am_t l1 = 12) <|
      sm_ck (sm_in l0 (l3 + 1)) <|
      sm_ck (sm_in l0 (l3 + 2)) <|
      Option.bind (fX_seam P l1 (I l0 (l3 + 1).toNatClampNeg) (I l0 (l3 + 2).toNatClampNeg) I) fun y139 =>
      sm_ck (am_t l2 = 13) <|
      sm_ck (sm_in l0 (l3 + 1)) <|
      sm_ck (sm_in l0 (l3 + 2)) <|
      Option.bind (fM_seam P l2 (y139.2 l0 (l3 + 1).toNatClampNeg) (y139.2 l0 (l3 + 2).toNatClampNeg) y139.2) fun y143 =>
      if y139.1 = y143.1 then
        (fLaw_law_J1489 r18 l0 l1 l2 l3 y143.2 P nx sl)
      else
        (e18_624 y143.2 P nx sl))
    else if x21 = 12 then
      (sm_ck (am_t l1 = 12) <|
      sm_ck (sm_in l0 (l3 + 1)) <|
      sm_ck (sm_in l0 (l3 + 2)) <|
      Option.bind (fX_seamIs P l1 (I l0 (l3 + 1).toNatClampNeg) (I l0 (l3 + 2).toNatClampNeg) I) fun y149 =>
      sm_ck (am_t l2 = 13) <|
      sm_ck (sm_in l0 (l3 + 1)) <|
      sm_ck (sm_in l0 (l3 + 2)) <|
      Option.bind (fM_seamIs P l2 (y149.2 l0 (l3 + 1).toNatClampNeg) (y149.2 l0 (l3 + 2).toNatClampNeg) y149.2) fun y153 =>
      if y149.1 = y153.1 then
        (fLaw_law_J1489 r18 l0 l1 l2 l3 y153.2 P nx sl)
      else
        (e18_657 y153.2 P nx sl))
    else if x21 = 13 then
      (sm_ck (am_t l1 = 12) <|
      sm_ck (sm_in l0 (l3 + 1)) <|
      sm_ck (sm_in l0 (l3 + 2)) <|
      sm_ck (sm_in l0 (l3 + 3)) <|
      Option.bind (fX_say P l1 (I l0 (l3 + 1).toNatClampNeg) (I l0 (l3 + 2).toNatClampNeg) (I l0 (l3 + 3).toNatClampNeg) I) fun y160 =>
      sm_ck (am_t l2 = 13) <|
      sm_ck (sm_in l0 (l3 + 1)) <|
      sm_ck (sm_in l0 (l3 + 2)) <|
      sm_ck (sm_in l0 (l3 + 3)) <|
      Option.bind (fM_say P l2 (y160.2 l0 (l3 + 1).toNatClampNeg) (y160.2 l0 (l3 + 2).toNatClampNeg) (y160.2 l0 (l3 + 3).toNatClampNeg) y160.2) fun y165 =>
      if y160.1 = y165.1 then
        (fLaw_law_J1489 r18 l0 l1 l2 l3 y165.2 P nx sl)
      else
        (e18_700 y165.2 P nx sl))
    else if x21 = 14 then
      (sm_ck (am_t l1 = 12) <|
      sm_ck (sm_in l0 (l3 + 1)) <|
      Option.bind (fX_guess P l1 (I l0 (l3 + 1).toNatClampNeg) I) fun y170 =>
      sm_ck (am_t l2 = 13) <|
      sm_ck (sm_in l0 (l3 + 1)) <|
      Option.bind (fM_guess P l2 (y170.2 l0 (l3 + 1).toNatClampNeg) y170.2) fun y173 =>
      if y170.1 = y173.1 then
        (fLaw_law_J1489 r18 l0 l1 l2 l3 y173.2 P nx sl)
      else
        (e18_723 y173.2 P nx sl))
    else if x21 = 15 then
      (sm_ck (am_t l1 = 12) <|
      sm_ck (sm_in l0 (l3 + 1)) <|
      Option.bind (fX_guessed P l1 (I l0 (l3 + 1).toNatClampNeg) I) fun y178 =>
      sm_ck (am_t l2 = 13) <|
      sm_ck (sm_in l0 (l3 + 1)) <|
      Option.bind (fM_guessed P l2 (y178.2 l0 (l3 + 1).toNatClampNeg) y178.2) fun y181 =>
      if y178.1 = y181.1 then
        (fLaw_law_J1489 r18 l0 l1 l2 l3 y181.2 P nx sl)
      else
        (e18_746 y181.2 P nx sl))
    else if x21 = 16 then
      (sm_ck (am_t l1 = 12) <|
      sm_ck (sm_in l0 (l3 + 1)) <|
      Option.bind (fX_hangs P l1 (I l0 (l3 + 1).toNatClampNeg) I) fun y186 =>
      sm_ck (am_t l2 = 13) <|
      sm_ck (sm_in l0 (l3 + 1)) <|
      Option.bind (fM_hangs P l2 (y186.2 l0 (l3 + 1).toNatClampNeg) y186.2) fun y189 =>
      if y186.1 = y189.1 then
        (fLaw_law_J1489 r18 l0 l1 l2 l3 y189.2 P nx sl)
      else
        (e18_769 y189.2 P nx sl))
    else if x21 = 17 then
      (sm_ck (am_t l1 = 12) <|
      sm_ck (sm_in l0 (l3 + 1)) <|
      Option.bind (fX_ring P l1 (I l0 (l3 + 1).toNatClampNeg) I) fun y194 =>
      sm_ck (am_t l2 = 13) <|
      sm_ck (sm_in l0 (l3 + 1)) <|
      Option.bind (fM_ring P l2 (y194.2 l0 (l3 + 1).toNatClampNeg) y194.2) fun y197 =>
      if y194.1 = y197.1 then
        (fLaw_law_J1489 r18 l0 l1 l2 l3 y197.2 P nx sl)
      else
        (e18_792 y197.2 P nx sl))
    else if x21 = 18 then
      (sm_ck (am_t l1 = 12) <|
      sm_ck (sm_in l0 (l3 + 1)) <|
      Option.bind (fX_answers l1 (I l0 (l3 + 1).toNatClampNeg) I P nx sl) fun y202 =>
      sm_ck (am_t l2 = 13) <|
      sm_ck (sm_in l0 (l3 + 1)) <|
      Option.bind (fM_answers y202.2.2.1 l2 (y202.2.1 l0 (l3 + 1).toNatClampNeg) y202.2.1) fun y205 =>
      if y202.1 = y205.1 then
        (fLaw_law_J1489 r18 l0 l1 l2 l3 y205.2 y202.2.2.1 y202.2.2.2.1 y202.2.2.2.2)
      else
        (e18_815 y205.2 y202.2.2.1 y202.2.2.2.1 y202.2.2.2.2))
    else if x21 = 19 then
      (sm_ck (am_t l1 = 12) <|
      sm_ck (sm_in l0 (l3 + 1)) <|
      sm_ck (sm_in l0 (l3 + 2)) <|
      Option.bind (fX_solve l1 (I l0 (l3 + 1).toNatClampNeg) (I l0 (l3 + 2).toNatClampNeg) I P nx sl) fun y211 =>
      sm_ck (am_t l2 = 13) <|
      sm_ck (sm_in l0 (l3 + 1)) <|
      sm_ck (sm_in l0 (l3 + 2)) <|
      Option.bind (fM_solve y211.2.2.1 l2 (y211.2.1 l0 (l3 + 1).toNatClampNeg) (y211.2.1 l0 (l3 + 2).toNatClampNeg) y211.2.1) fun y215 =>
      if y211.1 = y215.1 then
        (fLaw_law_J1489 r18 l0 l1 l2 l3 y215.2 y211.2.2.1 y211.2.2.2.1 y211.2.2.2.2)
      else
        (e18_848 y215.2 y211.2.2.1 y211.2.2.2.1 y211.2.2.2.2))
    else if x21 = 20 then
      (sm_ck (am_t l1 = 12) <|
      sm_ck (sm_in l0 (l3 + 1)) <|
      Option.bind (fX_order P l1 (I l0 (l3 + 1).toNatClampNeg) I) fun y220 =>
      sm_ck (am_t l2 = 13) <|
      sm_ck (sm_in l0 (l3 + 1)) <|
      Option.bind (fM_order P l2 (y220.2 l0 (l3 + 1).toNatClampNeg) y220.2) fun y223 =>
      if y220.1 = y223.1 then
        (fLaw_law_J1489 r18 l0 l1 l2 l3 y223.2 P nx sl)
      else
        (e18_871 y223.2 P nx sl))
    else if x21 = 21 then
      (sm_ck (am_t l1 = 12) <|
      sm_ck (sm_in l0 (l3 + 1)) <|
      Option.bind (fX_at P l1 (I l0 (l3 + 1).toNatClampNeg) I) fun y228 =>
      sm_ck (am_t l2 = 13) <|
      sm_ck (sm_in l0 (l3 + 1)) <|
      Option.bind (fM_at P l2 (y228.2 l0 (l3 + 1).toNatClampNeg) y228.2) fun y231 =>
      if y228.1 = y231.1 then
        (fLaw_law_J1489 r18 l0 l1 l2 l3 y231.2 P nx sl)
      else
        (e18_894 y231.2 P nx sl))
    else if x21 = 22 then
      (sm_ck (am_t l1 = 12) <|
      sm_ck (sm_in l0 (l3 + 1)) <|
      Option.bind (fX_step l1 (I l0 (l3 + 1).toNatClampNeg) I P nx sl) fun y236 =>
      sm_ck (am_t l2 = 13) <|
      sm_ck (sm_in l0 (l3 + 1)) <|
      Option.bind (fM_step l2 (y236.2.1 l0 (l3 + 1).toNatClampNeg) y236.2.1 y236.2.2.1 y236.2.2.2.1 y236.2.2.2.2) fun y239 =>
      if y236.1 = y239.1 then
        (fLaw_law_J1489 r18 l0 l1 l2 l3 y239.2.1 y239.2.2.1 y239.2.2.2.1 y239.2.2.2.2)
      else
        (e18_917 y239.2.1 y239.2.2.1 y239.2.2.2.1 y239.2.2.2.2))
    else if x21 = 23 then
      (sm_ck (am_t l1 = 12) <|
      sm_ck (sm_in l0 (l3 + 1)) <|
      Option.bind (fX_back l1 (I l0 (l3 + 1).toNatClampNeg) I P nx sl) fun y244 =>
      sm_ck (am_t l2 = 13) <|
      sm_ck (sm_in l0 (l3 + 1)) <|
      Option.bind (fM_back y244.2.2.1 l2 (y244.2.1 l0 (l3 + 1).toNatClampNeg) y244.2.1) fun y247 =>
      if y244.1 = y247.1 then
        (fLaw_law_J1489 r18 l0 l1 l2 l3 y247.2 y244.2.2.1 y244.2.2.2.1 y244.2.2.2.2)
      else
        (e18_940 y247.2 y244.2.2.1 y244.2.2.2.1 y244.2.2.2.2))
    else if x21 = 24 then
      (sm_ck (am_t l1 = 12) <|
      sm_ck (sm_in l0 (l3 + 1)) <|
      sm_ck (sm_in l0 (l3 + 2)) <|
      sm_ck (sm_in l0 (l3 + 3)) <|
      Option.bind (fX_event P l1 (I l0 (l3 + 1).toNatClampNeg) (I l0 (l3 + 2).toNatClampNeg) (I l0 (l3 + 3).toNatClampNeg) I) fun y254 =>
      sm_ck (am_t l2 = 13) <|
      sm_ck (sm_in l0 (l3 + 1)) <|
      sm_ck (sm_in l0 (l3 + 2)) <|
      sm_ck (sm_in l0 (l3 + 3)) <|
      Option.bind (fM_event P l2 (y254.2 l0 (l3 + 1).toNatClampNeg) (y254.2 l0 (l3 + 2).toNatClampNeg) (y254.2 l0 (l3 + 3).toNatClampNeg) y254.2) fun y259 =>
      if y254.1 = y259.1 then
        (fLaw_law_J1489 r18 l0 l1 l2 l3 y259.2 P nx sl)
      else
        (e18_983 y259.2 P nx sl))
    else if x21 = 25 then
      (sm_ck (am_t l1 = 12) <|
      Option.bind (fX_next P l1 I) fun y263 =>
      sm_ck (am_t l2 = 13) <|
      Option.bind (fM_next P l2 y263.2) fun y265 =>
      if y263.1 = y265.1 then
        (fLaw_law_J1489 r18 l0 l1 l2 l3 y265.2 P nx sl)
      else
        (e18_996 y265.2 P nx sl))
    else if x21 = 26 then
      (sm_ck (am_t l1 = 12) <|
      sm_ck (sm_in l0 (l3 + 1)) <|
      Option.bind (fX_left P l1 (I l0 (l3 + 1).toNatClampNeg) I) fun y270 =>
      sm_ck (am_t l2 = 13) <|
      sm_ck (sm_in l0 (l3 + 1)) <|
      Option.bind (fM_left P l2 (y270.2 l0 (l3 + 1).toNatClampNeg) y270.2) fun y273 =>
      if y270.1 = y273.1 then
        (fLaw_law_J1489 r18 l0 l1 l2 l3 y273.2 P nx sl)
      else
        (e18_1019 y273.2 P nx sl))
    else if x21 = 27 then
      (sm_ck (am_t l1 = 12) <|
      Option.bind (fX_off l1 I P nx sl) fun y277 =>
      sm_ck (am_t l2 = 13) <|
      Option.bind (fM_off l2 y277.2.1 y277.2.2.1 y277.2.2.2.1 y277.2.2.2.2) fun y279 =>
      if y277.1 = y279.1 then
        (fLaw_law_J1489 r18 l0 l1 l2 l3 y279.2.1 y279.2.2.1 y279.2.2.2.1 y279.2.2.2.2)
      else
        (e18_1032 y279.2.1 y279.2.2.1 y279.2.2.2.1 y279.2.2.2.2))
    else if x21 = 28 then
      (sm_ck (am_t l1 = 12) <|
      sm_ck (sm_in l0 (l3 + 1)) <|
      Option.bind (fX_best l1 (I l0 (l3 + 1).toNatClampNeg) I P nx sl) fun y284 =>
      sm_ck (am_t l2 = 13) <|
      sm_ck (sm_in l0 (l3 + 1)) <|
      Option.bind (fM_best l2 (y284.2.1 l0 (l3 + 1).toNatClampNeg) y284.2.1 y284.2.2.1 y284.2.2.2.1 y284.2.2.2.2) fun y287 =>
      if y284.1 = y287.1 then
        (fLaw_law_J1489 r18 l0 l1 l2 l3 y287.2.1 y287.2.2.1 y287.2.2.2.1 y287.2.2.2.2)
      else
        (e18_1055 y287.2.1 y287.2.2.1 y287.2.2.2.1 y287.2.2.2.2))
    else if x21 = 29 then
      (sm_ck (am_t l1 = 12) <|
      sm_ck (sm_in l0 (l3 + 1)) <|
      sm_ck (sm_in l0 (l3 + 2)) <|
      Option.bind (fX_end P l1 (I l0 (l3 + 1).toNatClampNeg) (I l0 (l3 + 2).toNatClampNeg) I) fun y293 =>
      sm_ck (am_t l2 = 13) <|
      sm_ck (sm_in l0 (l3 + 1)) <|
      sm_ck (sm_in l0 (l3 + 2)) <|
      Option.bind (fM_end P l2 (y293.2 l0 (l3 + 1).toNatClampNeg) (y293.2 l0 (l3 + 2).toNatClampNeg) y293.2) fun y297 =>
      if y293.1 = y297.1 then
        (fLaw_law_J1489 r18 l0 l1 l2 l3 y297.2 P nx sl)
      else
        (e18_1088 y297.2 P nx sl))
    else if x21 = 30 then
      (sm_ck (am_t l1 = 12) <|
      sm_ck (sm_in l0 (l3 + 1)) <|
      sm_ck (sm_in l0 (l3 + 2)) <|
      Option.bind (fX_lay P l1 (I l0 (l3 + 1).toNatClampNeg) (I l0 (l3 + 2).toNatClampNeg) I) fun y303 =>
      sm_ck (am_t l2 = 13) <|
      sm_ck (sm_in l0 (l3 + 1)) <|
      sm_ck (sm_in l0 (l3 + 2)) <|
      Option.bind (fM_lay P l2 (y303.2 l0 (l3 + 1).toNatClampNeg) (y303.2 l0 (l3 + 2).toNatClampNeg) y303.2) fun y307 =>
      if y303.1 = y307.1 then
        (fLaw_law_J1489 r18 l0 l1 l2 l3 y307.2 P nx sl)
      else
        (e18_1121 y307.2 P nx sl))
    else if x21 = 31 then
      (sm_ck (am_t l1 = 12) <|
      sm_ck (sm_in l0 (l3 + 1)) <|
      sm_ck (sm_in l0 (l3 + 2)) <|
      Option.bind (fX_change l1 (I l0 (l3 + 1).toNatClampNeg) (I l0 (l3 + 2).toNatClampNeg) I P nx sl) fun y313 =>
      sm_ck (am_t l2 = 13) <|
      sm_ck (sm_in l0 (l3 + 1)) <|
      sm_ck (sm_in l0 (l3 + 2)) <|
      Option.bind (fM_change l2 (y313.2.1 l0 (l3 + 1).toNatClampNeg) (y313.2.1 l0 (l3 + 2).toNatClampNeg) y313.2.1 y313.2.2.1 y313.2.2.2.1 y313.2.2.2.2) fun y317 =>
      if y313.1 = y317.1 then
        (fLaw_law_J1489 r18 l0 l1 l2 l3 y317.2.1 y317.2.2.1 y317.2.2.2.1 y317.2.2.2.2)
      else
        (e18_1154 y317.2.1 y317.2.2.1 y317.2.2.2.1 y317.2.2.2.2))
    else if x21 = 32 then
      (sm_ck (am_t l1 = 12) <|
      sm_ck (sm_in l0 (l3 + 1)) <|
      sm_ck (sm_in l0 (l3 + 2)) <|
      Option.bind (fX_drift l1 (I l0 (l3 + 1).toNatClampNeg) (I l0 (l3 + 2).toNatClampNeg) I P nx sl) fun y323 =>
      sm_ck (am_t l2 = 13) <|
      sm_ck (sm_in l0 (l3 + 1)) <|
      sm_ck (sm_in l0 (l3 + 2)) <|
      Option.bind (fM_drift l2 (y323.2.1 l0 (l3 + 1).toNatClampNeg) (y323.2.1 l0 (l3 + 2).toNatClampNeg) y323.2.1 y323.2.2.1 y323.2.2.2.1 y323.2.2.2.2) fun y327 =>
      if y323.1 = y327.1 then
        (fLaw_law_J1489 r18 l0 l1 l2 l3 y327.2.1 y327.2.2.1 y327.2.2.2.1 y327.2.2.2.2)
      else
        (e18_1187 y327.2.1 y327.2.2.1 y327.2.2.2.1 y327.2.2.2.2))
    else if x21 = 33 then
      (sm_ck (am_t l1 = 12) <|
      sm_ck (sm_in l0 (l3 + 1)) <|
      sm_ck (sm_in l0 (l3 + 2)) <|
      Option.bind (fX_judge l1 (I l0 (l3 + 1).toNatClampNeg) (I l0 (l3 + 2).toNatClampNeg) I P nx sl) fun y333 =>
      sm_ck (am_t l2 = 13) <|
      sm_ck (sm_in l0 (l3 + 1)) <|
      sm_ck (sm_in l0 (l3 + 2)) <|
      Option.bind (fM_judge l2 (y333.2.1 l0 (l3 + 1).toNatClampNeg) (y333.2.1 l0 (l3 + 2).toNatClampNeg) y333.2.1 y333.2.2.1 y333.2.2.2.1 y333.2.2.2.2) fun y337 =>
      if y333.1 = y337.1 then
        (fLaw_law_J1489 r18 l0 l1 l2 l3 y337.2.1 y337.2.2.1 y337.2.2.2.1 y337.2.2.2.2)
      else
        (e18_1220 y337.2.1 y337.2.2.1 y337.2.2.2.1 y337.2.2.2.2))
    else if x21 = 34 then
      (sm_ck (am_t l1 = 12) <|
      sm_ck (sm_in l0 (l3 + 1)) <|
      sm_ck (sm_in l0 (l3 + 2)) <|
      Option.bind (fX_beside l1 (I l0 (l3 + 1).toNatClampNeg) (I l0 (l3 + 2).toNatClampNeg) I P nx sl) fun y343 =>
      sm_ck (am_t l2 = 13) <|
      sm_ck (sm_in l0 (l3 + 1)) <|
      sm_ck (sm_in l0 (l3 + 2)) <|
      Option.bind (fM_beside l2 (y343.2.1 l0 (l3 + 1).toNatClampNeg) (y343.2.1 l0 (l3 + 2).toNatClampNeg) y343.2.1 y343.2.2.1 y343.2.2.2.1 y343.2.2.2.2) fun y347 =>
      if y343.1 = y347.1 then
        (fLaw_law_J1489 r18 l0 l1 l2 l3 y347.2.1 y347.2.2.1 y347.2.2.2.1 y347.2.2.2.2)
      else
        (e18_1253 y347.2.1 y347.2.2.1 y347.2.2.2.1 y347.2.2.2.2))
    else if x21 = 35 then
      (sm_ck (am_t l1 = 12) <|
      sm_ck (sm_in l0 (l3 + 1)) <|
      sm_ck (sm_in l0 (l3 + 2)) <|
      sm_ck (sm_in l0 (l3 + 3)) <|
      Option.bind (fX_sheet P l1 (I l0 (l3 + 1).toNatClampNeg) (I l0 (l3 + 2).toNatClampNeg) (I l0 (l3 + 3).toNatClampNeg) I) fun y354 =>
      sm_ck (am_t l2 = 13) <|
      sm_ck (sm_in l0 (l3 + 1)) <|
      sm_ck (sm_in l0 (l3 + 2)) <|
      sm_ck (sm_in l0 (l3 + 3)) <|
      Option.bind (fM_sheet P l2 (y354.2 l0 (l3 + 1).toNatClampNeg) (y354.2 l0 (l3 + 2).toNatClampNeg) (y354.2 l0 (l3 + 3).toNatClampNeg) y354.2) fun y359 =>
      if y354.1 = y359.1 then
        (fLaw_law_J1489 r18 l0 l1 l2 l3 y359.2 P nx sl)
      else
        (e18_1296 y359.2 P nx sl))
    else if x21 = 36 then
      (sm_ck (am_t l1 = 12) <|
      sm_ck (sm_in l0 (l3 + 1)) <|
      sm_ck (sm_in l0 (l3 + 2)) <|
      sm_ck (sm_in l0 (l3 + 3)) <|
      Option.bind (fX_write P l1 (I l0 (l3 + 1).toNatClampNeg) (I l0 (l3 + 2).toNatClampNeg) (I l0 (l3 + 3).toNatClampNeg) I) fun y366 =>
      sm_ck (am_t l2 = 13) <|
      sm_ck (sm_in l0 (l3 + 1)) <|
      sm_ck (sm_in l0 (l3 + 2)) <|
      sm_ck (sm_in l0 (l3 + 3)) <|
      Option.bind (fM_write P l2 (y366.2 l0 (l3 + 1).toNatClampNeg) (y366.2 l0 (l3 + 2).toNatClampNeg) (y366.2 l0 (l3 + 3).toNatClampNeg) y366.2) fun y371 =>
      if y366.1 = y371.1 then
        (fLaw_law_J1489 r18 l0 l1 l2 l3 y371.2 P nx sl)
      else
        (e18_1339 y371.2 P nx sl))
    else if x21 = 37 then
      (sm_ck (am_t l1 = 12) <|
      sm_ck (sm_in l0 (l3 + 1)) <|
      sm_ck (sm_in l0 (l3 + 2)) <|
      sm_ck (sm_in l0 (l3 + 3)) <|
      sm_ck (sm_in l0 (l3 + 4)) <|
      sm_ck (sm_in l0 (l3 + 5)) <|
      Option.bind (fX_copy P l1 (I l0 (l3 + 1).toNatClampNeg) (I l0 (l3 + 2).toNatClampNeg) (I l0 (l3 + 3).toNatClampNeg) (I l0 (l3 + 4).toNatClampNeg) (I l0 (l3 + 5).toNatClampNeg) I) fun y380 =>
      sm_ck (am_t l2 = 13) <|
      sm_ck (sm_in l0 (l3 + 1)) <|
      sm_ck (sm_in l0 (l3 + 2)) <|
      sm_ck (sm_in l0 (l3 + 3)) <|
      sm_ck (sm_in l0 (l3 + 4)) <|
      sm_ck (sm_in l0 (l3 + 5)) <|
      Option.bind (fM_copy P l2 (y380.2 l0 (l3 + 1).toNatClampNeg) (y380.2 l0 (l3 + 2).toNatClampNeg) (y380.2 l0 (l3 + 3).toNatClampNeg) (y380.2 l0 (l3 + 4).toNatClampNeg) (y380.2 l0 (l3 + 5).toNatClampNeg) y380.2) fun y387 =>
      if y380.1 = y387.1 then
        (fLaw_law_J1489 r18 l0 l1 l2 l3 y387.2 P nx sl)
      else
        (e18_1402 y387.2 P nx sl))
    else if x21 = 38 then
      (sm_ck (am_t l1 = 12) <|
      Option.bind (fX_image l1 I P nx sl) fun y391 =>
      sm_ck (am_t l2 = 13) <|
      Option.bind (fM_image y391.2.2.1 l2 y391.2.1) fun y393 =>
      if y391.1 = y393.1 then
        (fLaw_law_J1489 r18 l0 l1 l2 l3 y393.2 y391.2.2.1 y391.2.2.2.1 y391.2.2.2.2)
      else
        (e18_1415 y393.2 y391.2.2.1 y391.2.2.2.1 y391.2.2.2.2))
    else if x21 = 39 then
      (sm_ck (am_t l1 = 12) <|
      Option.bind (fX_undo l1 I P nx sl) fun y397 =>
      sm_ck (am_t l2 = 13) <|
      Option.bind (fM_undo y397.2.2.1 l2 y397.2.1) fun y399 =>
      if y397.1 = y399.1 then
        (fLaw_law_J1489 r18 l0 l1 l2 l3 y399.2 y397.2.2.1 y397.2.2.2.1 y397.2.2.2.2)
      else
        (e18_1428 y399.2 y397.2.2.1 y397.2.2.2.1 y397.2.2.2.2))
    else if x21 = 40 then
      (sm_ck (am_t l1 = 12) <|
      Option.bind (fX_tear P l1 I) fun y403 =>
      sm_ck (am_t l2 = 13) <|
      Option.bind (fM_tear P l2 y403.2) fun y405 =>
      if y403.1 = y405.1 then
        (fLaw_law_J1489 r18 l0 l1 l2 l3 y405.2 P nx sl)
      else
        (e18_1441 y405.2 P nx sl))
    else if x21 = 41 then
      (sm_ck (am_t l1 = 12) <|
      sm_ck (sm_in l0 (l3 + 1)) <|
      Option.bind (fX_count P l1 (I l0 (l3 + 1).toNatClampNeg) I) fun y410 =>
      sm_ck (am_t l2 = 13) <|
      sm_ck (sm_in l0 (l3 + 1)) <|
      Option.bind (fM_count P l2 (y410.2 l0 (l3 + 1).toNatClampNeg) y410.2) fun y413 =>
      if y410.1 = y413.1 then
        (fLaw_law_J1489 r18 l0 l1 l2 l3 y413.2 P nx sl)
      else
        (e18_1464 y413.2 P nx sl))
    else if x21 = 42 then
      (sm_ck (am_t l1 = 12) <|
      sm_ck (sm_in l0 (l3 + 1)) <|
      Option.bind (fX_status P l1 (I l0 (l3 + 1).toNatClampNeg) I) fun y418 =>
      sm_ck (am_t l2 = 13) <|
      sm_ck (sm_in l0 (l3 + 1)) <|
      Option.bind (fM_status P l2 (y418.2 l0 (l3 + 1).toNatClampNeg) y418.2) fun y421 =>
      if y418.1 = y421.1 then
        (fLaw_law_J1489 r18 l0 l1 l2 l3 y421.2 P nx sl)
      else
        (e18_1487 y421.2 P nx sl))
    else (
      fLaw_law_J1489 r18 l0 l1 l2 l3 I P nx sl))
set_option maxRecDepth 100000 in
theorem AfLaw_law_B18 {dp : Nat}  {e18_241 : am_M → am_Q → Nat → Nat → Option (Int32 × am_S)} {e18_284 : am_M → am_Q → Nat → Nat → Option (Int32 × am_S)} {e18_317 : am_M → am_Q → Nat → Nat → Option (Int32 × am_S)} {e18_350 : am_M → am_Q → Nat → Nat → Option (Int32 × am_S)} {e18_383 : am_M → am_Q → Nat → Nat → Option (Int32 × am_S)} {e18_426 : am_M → am_Q → Nat → Nat → Option (Int32 × am_S)} {e18_459 : am_M → am_Q → Nat → Nat → Option (Int32 × am_S)} {e18_492 : am_M → am_Q → Nat → Nat → Option (Int32 × am_S)} {e18_515 : am_M → am_Q → Nat → Nat → Option (Int32 × am_S)} {e18_528 : am_M → am_Q → Nat → Nat → Option (Int32 × am_S)} {e18_591 : am_M → am_Q → Nat → Nat → Option (Int32 × am_S)} {e18_624 : am_M → am_Q → Nat → Nat → Option (Int32 × am_S)} {e18_657 : am_M → am_Q → Nat → Nat → Option (Int32 × am_S)} {e18_700 : am_M → am_Q → Nat → Nat → Option (Int32 × am_S)} {e18_723 : am_M → am_Q → Nat → Nat → Option (Int32 × am_S)} {e18_746 : am_M → am_Q → Nat → Nat → Option (Int32 × am_S)} {e18_769 : am_M → am_Q → Nat → Nat → Option (Int32 × am_S)} {e18_792 : am_M → am_Q → Nat → Nat → Option (Int32 × am_S)} {e18_815 : am_M → am_Q → Nat → Nat → Option (Int32 × am_S)} {e18_848 : am_M → am_Q → Nat → Nat → Option (Int32 × am_S)} {e18_871 : am_M → am_Q → Nat → Nat → Option (Int32 × am_S)} {e18_894 : am_M → am_Q → Nat → Nat → Option (Int32 × am_S)} {e18_917 : am_M → am_Q → Nat → Nat → Option (Int32 × am_S)} {e18_940 : am_M → am_Q → Nat → Nat → Option (Int32 × am_S)} {e18_983 : am_M → am_Q → Nat → Nat → Option (Int32 × am_S)} {e18_996 : am_M → am_Q → Nat → Nat → Option (Int32 × am_S)} {e18_1019 : am_M → am_Q → Nat → Nat → Option (Int32 × am_S)} {e18_1032 : am_M → am_Q → Nat → Nat → Option (Int32 × am_S)} {e18_1055 : am_M → am_Q → Nat → Nat → Option (Int32 × am_S)} {e18_1088 : am_M → am_Q → Nat → Nat → Option (Int32 × am_S)} {e18_1121 : am_M → am_Q → Nat → Nat → Option (Int32 × am_S)} {e18_1154 : am_M → am_Q → Nat → Nat → Option (Int32 × am_S)} {e18_1187 : am_M → am_Q → Nat → Nat → Option (Int32 × am_S)} {e18_1220 : am_M → am_Q → Nat → Nat → Option (Int32 × am_S)} {e18_1253 : am_M → am_Q → Nat → Nat → Option (Int32 × am_S)} {e18_1296 : am_M → am_Q → Nat → Nat → Option (Int32 × am_S)} {e18_1339 : am_M → am_Q → Nat → Nat → Option (Int32 × am_S)} {e18_1402 : am_M → am_Q → Nat → Nat → Option (Int32 × am_S)} {e18_1415 : am_M → am_Q → Nat → Nat → Option (Int32 × am_S)} {e18_1428 : am_M → am_Q → Nat → Nat → Option (Int32 × am_S)} {e18_1441 : am_M → am_Q → Nat → Nat → Option (Int32 × am_S)} {e18_1464 : am_M → am_Q → Nat → Nat → Option (Int32 × am_S)} {e18_1487 : am_M → am_Q → Nat → Nat → Option (Int32 × am_S)} {e18_1495 : am_M → am_Q → Nat → Nat → Option (Int32 × am_S)} {r18 : Nat → Nat → Nat → Int32 → am_M → am_Q → Nat → Nat → Option (Int32 × am_S)} (he18_241 : ∀ (I : am_M) (P : am_Q) (nx : Nat) (sl : Nat) (o0 : Option am_V) (o1 : Option am_V) (o2 : Option am_V) (o3 : Option am_V), sm (dp + 25) am_d0 241 [o0, o1, o2, o3] [] (I, P, nx, sl) sm_g3 (e18_241 I P nx sl)) (he18_284 : ∀ (I : am_M) (P : am_Q) (nx : Nat) (sl : Nat) (o0 : Option am_V) (o1 : Option am_V) (o2 : Option am_V) (o3 : Option am_V), sm (dp + 25) am_d0 284 [o0, o1, o2, o3] [] (I, P, nx, sl) sm_g3 (e18_284 I P nx sl)) (he18_317 : ∀ (I : am_M) (P : am_Q) (nx : Nat) (sl : Nat) (o0 : Option am_V) (o1 : Option am_V) (o2 : Option am_V) (o3 : Option am_V), sm (dp + 25) am_d0 317 [o0, o1, o2, o3] [] (I, P, nx, sl) sm_g3 (e18_317 I P nx sl)) (he18_350 : ∀ (I : am_M) (P : am_Q) (nx : Nat) (sl : Nat) (o0 : Option am_V) (o1 : Option am_V) (o2 : Option am_V) (o3 : Option am_V), sm (dp + 25) am_d0 350 [o0, o1, o2, o3] [] (I, P, nx, sl) sm_g3 (e18_350 I P nx sl)) (he18_383 : ∀ (I : am_M) (P : am_Q) (nx : Nat) (sl : Nat) (o0 : Option am_V) (o1 : Option am_V) (o2 : Option am_V) (o3 : Option am_V), sm (dp + 25) am_d0 383 [o0, o1, o2, o3] [] (I, P, nx, sl) sm_g3 (e18_383 I P nx sl)) (he18_426 : ∀ (I : am_M) (P : am_Q) (nx : Nat) (sl : Nat) (o0 : Option am_V) (o1 : Option am_V) (o2 : Option am_V) (o3 : Option am_V), sm (dp + 25) am_d0 426 [o0, o1, o2, o3] [] (I, P, nx, sl) sm_g3 (e18_426 I P nx sl)) (he18_459 : ∀ (I : am_M) (P : am_Q) (nx : Nat) (sl : Nat) (o0 : Option am_V) (o1 : Option am_V) (o2 : Option am_V) (o3 : Option am_V), sm (dp + 25) am_d0 459 [o0, o1, o2, o3] [] (I, P, nx, sl) sm_g3 (e18_459 I P nx sl)) (he18_492 : ∀ (I : am_M) (P : am_Q) (nx : Nat) (sl : Nat) (o0 : Option am_V) (o1 : Option am_V) (o2 : Option am_V) (o3 : Option am_V), sm (dp + 25) am_d0 492 [o0, o1, o2, o3] [] (I, P, nx, sl) sm_g3 (e18_492 I P nx sl)) (he18_515 : ∀ (I : am_M) (P : am_Q) (nx : Nat) (sl : Nat) (o0 : Option am_V) (o1 : Option am_V) (o2 : Option am_V) (o3 : Option am_V), sm (dp + 25) am_d0 515 [o0, o1, o2, o3] [] (I, P, nx, sl) sm_g3 (e18_515 I P nx sl)) (he18_528 : ∀ (I : am_M) (P : am_Q) (nx : Nat) (sl : Nat) (o0 : Option am_V) (o1 : Option am_V) (o2 : Option am_V) (o3 : Option am_V), sm (dp + 25) am_d0 528 [o0, o1, o2, o3] [] (I, P, nx, sl) sm_g3 (e18_528 I P nx sl)) (he18_591 : ∀ (I : am_M) (P : am_Q) (nx : Nat) (sl : Nat) (o0 : Option am_V) (o1 : Option am_V) (o2 : Option am_V) (o3 : Option am_V), sm (dp + 25) am_d0 591 [o0, o1, o2, o3] [] (I, P, nx, sl) sm_g3 (e18_591 I P nx sl)) (he18_624 : ∀ (I : am_M) (P : am_Q) (nx : Nat) (sl : Nat) (o0 : Option am_V) (o1 : Option am_V) (o2 : Option am_V) (o3 : Option am_V), sm (dp + 25) am_d0 624 [o0, o1, o2, o3] [] (I, P, nx, sl) sm_g3 (e18_624 I P nx sl)) (he18_657 : ∀ (I : am_M) (P : am_Q) (nx : Nat) (sl : Nat) (o0 : Option am_V) (o1 : Option am_V) (o2 : Option am_V) (o3 : Option am_V), sm (dp + 25) am_d0 657 [o0, o1, o2, o3] [] (I, P, nx, sl) sm_g3 (e18_657 I P nx sl)) (he18_700 : ∀ (I : am_M) (P : am_Q) (nx : Nat) (sl : Nat) (o0 : Option am_V) (o1 : Option am_V) (o2 : Option am_V) (o3 : Option am_V), sm (dp + 25) am_d0 700 [o0, o1, o2, o3] [] (I, P, nx, sl) sm_g3 (e18_700 I P nx sl)) (he18_723 : ∀ (I : am_M) (P : am_Q) (nx : Nat) (sl : Nat) (o0 : Option am_V) (o1 : Option am_V) (o2 : Option am_V) (o3 : Option am_V), sm (dp + 25) am_d0 723 [o0, o1, o2, o3] [] (I, P, nx, sl) sm_g3 (e18_723 I P nx sl)) (he18_746 : ∀ (I : am_M) (P : am_Q) (nx : Nat) (sl : Nat) (o0 : Option am_V) (o1 : Option am_V) (o2 : Option am_V) (o3 : Option am_V), sm (dp + 25) am_d0 746 [o0, o1, o2, o3] [] (I, P, nx, sl) sm_g3 (e18_746 I P nx sl)) (he18_769 : ∀ (I : am_M) (P : am_Q) (nx : Nat) (sl : Nat) (o0 : Option am_V) (o1 : Option am_V) (o2 : Option am_V) (o3 : Option am_V), sm (dp + 25) am_d0 769 [o0, o1, o2, o3] [] (I, P, nx, sl) sm_g3 (e18_769 I P nx sl)) (he18_792 : ∀ (I : am_M) (P : am_Q) (nx : Nat) (sl : Nat) (o0 : Option am_V) (o1 : Option am_V) (o2 : Option am_V) (o3 : Option am_V), sm (dp + 25) am_d0 792 [o0, o1, o2, o3] [] (I, P, nx, sl) sm_g3 (e18_792 I P nx sl)) (he18_815 : ∀ (I : am_M) (P : am_Q) (nx : Nat) (sl : Nat) (o0 : Option am_V) (o1 : Option am_V) (o2 : Option am_V) (o3 : Option am_V), sm (dp + 25) am_d0 815 [o0, o1, o2, o3] [] (I, P, nx, sl) sm_g3 (e18_815 I P nx sl)) (he18_848 : ∀ (I : am_M) (P : am_Q) (nx : Nat) (sl : Nat) (o0 : Option am_V) (o1 : Option am_V) (o2 : Option am_V) (o3 : Option am_V), sm (dp + 25) am_d0 848 [o0, o1, o2, o3] [] (I, P, nx, sl) sm_g3 (e18_848 I P nx sl)) (he18_871 : ∀ (I : am_M) (P : am_Q) (nx : Nat) (sl : Nat) (o0 : Option am_V) (o1 : Option am_V) (o2 : Option am_V) (o3 : Option am_V), sm (dp + 25) am_d0 871 [o0, o1, o2, o3] [] (I, P, nx, sl) sm_g3 (e18_871 I P nx sl)) (he18_894 : ∀ (I : am_M) (P : am_Q) (nx : Nat) (sl : Nat) (o0 : Option am_V) (o1 : Option am_V) (o2 : Option am_V) (o3 : Option am_V), sm (dp + 25) am_d0 894 [o0, o1, o2, o3] [] (I, P, nx, sl) sm_g3 (e18_894 I P nx sl)) (he18_917 : ∀ (I : am_M) (P : am_Q) (nx : Nat) (sl : Nat) (o0 : Option am_V) (o1 : Option am_V) (o2 : Option am_V) (o3 : Option am_V), sm (dp + 25) am_d0 917 [o0, o1, o2, o3] [] (I, P, nx, sl) sm_g3 (e18_917 I P nx sl)) (he18_940 : ∀ (I : am_M) (P : am_Q) (nx : Nat) (sl : Nat) (o0 : Option am_V) (o1 : Option am_V) (o2 : Option am_V) (o3 : Option am_V), sm (dp + 25) am_d0 940 [o0, o1, o2, o3] [] (I, P, nx, sl) sm_g3 (e18_940 I P nx sl)) (he18_983 : ∀ (I : am_M) (P : am_Q) (nx : Nat) (sl : Nat) (o0 : Option am_V) (o1 : Option am_V) (o2 : Option am_V) (o3 : Option am_V), sm (dp + 25) am_d0 983 [o0, o1, o2, o3] [] (I, P, nx, sl) sm_g3 (e18_983 I P nx sl)) (he18_996 : ∀ (I : am_M) (P : am_Q) (nx : Nat) (sl : Nat) (o0 : Option am_V) (o1 : Option am_V) (o2 : Option am_V) (o3 : Option am_V), sm (dp + 25) am_d0 996 [o0, o1, o2, o3] [] (I, P, nx, sl) sm_g3 (e18_996 I P nx sl)) (he18_1019 : ∀ (I : am_M) (P : am_Q) (nx : Nat) (sl : Nat) (o0 : Option am_V) (o1 : Option am_V) (o2 : Option am_V) (o3 : Option am_V), sm (dp + 25) am_d0 1019 [o0, o1, o2, o3] [] (I, P, nx, sl) sm_g3 (e18_1019 I P nx sl)) (he18_1032 : ∀ (I : am_M) (P : am_Q) (nx : Nat) (sl : Nat) (o0 : Option am_V) (o1 : Option am_V) (o2 : Option am_V) (o3 : Option am_V), sm (dp + 25) am_d0 1032 [o0, o1, o2, o3] [] (I, P, nx, sl) sm_g3 (e18_1032 I P nx sl)) (he18_1055 : ∀ (I : am_M) (P : am_Q) (nx : Nat) (sl : Nat) (o0 : Option am_V) (o1 : Option am_V) (o2 : Option am_V) (o3 : Option am_V), sm (dp + 25) am_d0 1055 [o0, o1, o2, o3] [] (I, P, nx, sl) sm_g3 (e18_1055 I P nx sl)) (he18_1088 : ∀ (I : am_M) (P : am_Q) (nx : Nat) (sl : Nat) (o0 : Option am_V) (o1 : Option am_V) (o2 : Option am_V) (o3 : Option am_V), sm (dp + 25) am_d0 1088 [o0, o1, o2, o3] [] (I, P, nx, sl) sm_g3 (e18_1088 I P nx sl)) (he18_1121 : ∀ (I : am_M) (P : am_Q) (nx : Nat) (sl : Nat) (o0 : Option am_V) (o1 : Option am_V) (o2 : Option am_V) (o3 : Option am_V), sm (dp + 25) am_d0 1121 [o0, o1, o2, o3] [] (I, P, nx, sl) sm_g3 (e18_1121 I P nx sl)) (he18_1154 : ∀ (I : am_M) (P : am_Q) (nx : Nat) (sl : Nat) (o0 : Option am_V) (o1 : Option am_V) (o2 : Option am_V) (o3 : Option am_V), sm (dp + 25) am_d0 1154 [o0, o1, o2, o3] [] (I, P, nx, sl) sm_g3 (e18_1154 I P nx sl)) (he18_1187 : ∀ (I : am_M) (P : am_Q) (nx : Nat) (sl : Nat) (o0 : Option am_V) (o1 : Option am_V) (o2 : Option am_V) (o3 : Option am_V), sm (dp + 25) am_d0 1187 [o0, o1, o2, o3] [] (I, P, nx, sl) sm_g3 (e18_1187 I P nx sl)) (he18_1220 : ∀ (I : am_M) (P : am_Q) (nx : Nat) (sl : Nat) (o0 : Option am_V) (o1 : Option am_V) (o2 : Option am_V) (o3 : Option am_V), sm (dp + 25) am_d0 1220 [o0, o1, o2, o3] [] (I, P, nx, sl) sm_g3 (e18_1220 I P nx sl)) (he18_1253 : ∀ (I : am_M) (P : am_Q) (nx : Nat) (sl : Nat) (o0 : Option am_V) (o1 : Option am_V) (o2 : Option am_V) (o3 : Option am_V), sm (dp + 25) am_d0 1253 [o0, o1, o2, o3] [] (I, P, nx, sl) sm_g3 (e18_1253 I P nx sl)) (he18_1296 : ∀ (I : am_M) (P : am_Q) (nx : Nat) (sl : Nat) (o0 : Option am_V) (o1 : Option am_V) (o2 : Option am_V) (o3 : Option am_V), sm (dp + 25) am_d0 1296 [o0, o1, o2, o3] [] (I, P, nx, sl) sm_g3 (e18_1296 I P nx sl)) (he18_1339 : ∀ (I : am_M) (P : am_Q) (nx : Nat) (sl : Nat) (o0 : Option am_V) (o1 : Option am_V) (o2 : Option am_V) (o3 : Option am_V), sm (dp + 25) am_d0 1339 [o0, o1, o2, o3] [] (I, P, nx, sl) sm_g3 (e18_1339 I P nx sl)) (he18_1402 : ∀ (I : am_M) (P : am_Q) (nx : Nat) (sl : Nat) (o0 : Option am_V) (o1 : Option am_V) (o2 : Option am_V) (o3 : Option am_V), sm (dp + 25) am_d0 1402 [o0, o1, o2, o3] [] (I, P, nx, sl) sm_g3 (e18_1402 I P nx sl)) (he18_1415 : ∀ (I : am_M) (P : am_Q) (nx : Nat) (sl : Nat) (o0 : Option am_V) (o1 : Option am_V) (o2 : Option am_V) (o3 : Option am_V), sm (dp + 25) am_d0 1415 [o0, o1, o2, o3] [] (I, P, nx, sl) sm_g3 (e18_1415 I P nx sl)) (he18_1428 : ∀ (I : am_M) (P : am_Q) (nx : Nat) (sl : Nat) (o0 : Option am_V) (o1 : Option am_V) (o2 : Option am_V) (o3 : Option am_V), sm (dp + 25) am_d0 1428 [o0, o1, o2, o3] [] (I, P, nx, sl) sm_g3 (e18_1428 I P nx sl)) (he18_1441 : ∀ (I : am_M) (P : am_Q) (nx : Nat) (sl : Nat) (o0 : Option am_V) (o1 : Option am_V) (o2 : Option am_V) (o3 : Option am_V), sm (dp + 25) am_d0 1441 [o0, o1, o2, o3] [] (I, P, nx, sl) sm_g3 (e18_1441 I P nx sl)) (he18_1464 : ∀ (I : am_M) (P : am_Q) (nx : Nat) (sl : Nat) (o0 : Option am_V) (o1 : Option am_V) (o2 : Option am_V) (o3 : Option am_V), sm (dp + 25) am_d0 1464 [o0, o1, o2, o3] [] (I, P, nx, sl) sm_g3 (e18_1464 I P nx sl)) (he18_1487 : ∀ (I : am_M) (P : am_Q) (nx : Nat) (sl : Nat) (o0 : Option am_V) (o1 : Option am_V) (o2 : Option am_V) (o3 : Option am_V), sm (dp + 25) am_d0 1487 [o0, o1, o2, o3] [] (I, P, nx, sl) sm_g3 (e18_1487 I P nx sl)) (he18_1495 : ∀ (I : am_M) (P : am_Q) (nx : Nat) (sl : Nat) (o0 : Option am_V) (o1 : Option am_V) (o2 : Option am_V) (o3 : Option am_V), sm (dp + 25) am_d0 1495 [o0, o1, o2, o3] [] (I, P, nx, sl) sm_g3 (e18_1495 I P nx sl)) (hr18 : ∀ (l0 : Nat) (l1 : Nat) (l2 : Nat) (l3 : Int32) (I : am_M) (P : am_Q) (nx : Nat) (sl : Nat), sm (dp + 25) am_d0 18 [some (.inr l0), some (.inr l1), some (.inr l2), some (.inl l3)] [] (I, P, nx, sl) sm_g3 (r18 l0 l1 l2 l3 I P nx sl)) (l0 : Nat) (l1 : Nat) (l2 : Nat) (l3 : Int32) (I : am_M) (P : am_Q) (nx : Nat) (sl : Nat) : sm (dp + 25) am_d0 18 [some (.inr l0), some (.inr l1), some (.inr l2), some (.inl l3)] [] (I, P, nx, sl) sm_g3 (fLaw_law_B18 e18_241 e18_284 e18_317 e18_350 e18_383 e18_426 e18_459 e18_492 e18_515 e18_528 e18_591 e18_624 e18_657 e18_700 e18_723 e18_746 e18_769 e18_792 e18_815 e18_848 e18_871 e18_894 e18_917 e18_940 e18_983 e18_996 e18_1019 e18_1032 e18_1055 e18_1088 e18_1121 e18_1154 e18_1187 e18_1220 e18_1253 e18_1296 e18_1339 e18_1402 e18_1415 e18_1428 e18_1441 e18_1464 e18_1487 e18_1495 r18 l0 l1 l2 l3 I P nx sl) := by
  unfold fLaw_law_B18
  refine r_iload rfl rfl ?_
  refine r_ck (fun h17 => ?_)
  refine r_aload rfl rfl (am_nz h17) ?_
  refine r_ck (fun h18 => ?_)
  refine r_alen rfl h18 ?_
  refine r_const (x := 6) rfl rfl ?_
  refine r_bin (z := (Int32.ofNat (am_n l0)) - 6) rfl rfl (by decide) ?_
  refine r_icmp rfl rfl (fun c19 => ?_) (fun c19 => ?_)
  · exact he18_1495 I P nx sl (some (.inr l0)) (some (.inr l1)) (some (.inr l2)) (some (.inl l3))
  · refine r_aload rfl rfl (am_nz h17) ?_
    refine r_iload rfl rfl ?_
    refine r_ck (fun h20 => ?_)
    refine r_iald rfl h20 ?_
    refine r_const (x := 63) rfl rfl ?_
    refine r_bin (z := (I l0 l3.toNatClampNeg) &&& 63) rfl rfl (by decide) ?_
    refine r_bd (fun x21 => ?_)
    refine r_ite (fun c22 => ?_) (fun c22 => ?_)
    · refine r_tabE (t := 220) rfl c22 (by decide) ?_
      refine r_ck (fun h23 => ?_)
      refine r_aload rfl rfl (am_nz h23) ?_
      refine r_aload rfl rfl (am_nz h17) ?_
      refine r_iload rfl rfl ?_
      refine r_const (x := 1) rfl rfl ?_
      refine r_bin (z := l3 + 1) rfl rfl (by decide) ?_
      refine r_ck (fun h24 => ?_)
      refine r_iald rfl h24 ?_
      refine r_call1 rfl rfl h23 (fun y hy => AfX_whole (dp := dp + 23) hy) (fun y25 => ?_)
      refine r_ck (fun h26 => ?_)
      refine r_aload rfl rfl (am_nz h26) ?_
      refine r_aload rfl rfl (am_nz h17) ?_
      refine r_iload rfl rfl ?_
      refine r_const (x := 1) rfl rfl ?_
      refine r_bin (z := l3 + 1) rfl rfl (by decide) ?_
      refine r_ck (fun h27 => ?_)
      refine r_iald rfl h27 ?_
      refine r_call1 rfl rfl h26 (fun y hy => AfM_whole (dp := dp + 23) hy) (fun y28 => ?_)
      refine r_icmp rfl rfl (fun c29 => ?_) (fun c29 => ?_)
      · exact AfLaw_law_J1489 hr18 l0 l1 l2 l3 y28.2 P nx sl
      · exact he18_241 y28.2 P nx sl (some (.inr l0)) (some (.inr l1)) (some (.inr l2)) (some (.inl l3))
    refine r_ite (fun c31 => ?_) (fun c31 => ?_)
    · refine r_tabE (t := 243) rfl c31 (by decide) ?_
      refine r_ck (fun h32 => ?_)
      refine r_aload rfl rfl (am_nz h32) ?_
      refine r_aload rfl rfl (am_nz h17) ?_
      refine r_iload rfl rfl ?_
      refine r_const (x := 1) rfl rfl ?_
      refine r_bin (z := l3 + 1) rfl rfl (by decide) ?_
      refine r_ck (fun h33 => ?_)
      refine r_iald rfl h33 ?_
      refine r_aload rfl rfl (am_nz h17) ?_
      refine r_iload rfl rfl ?_
      refine r_const (x := 2) rfl rfl ?_
      refine r_bin (z := l3 + 2) rfl rfl (by decide) ?_
      refine r_ck (fun h34 => ?_)
      refine r_iald rfl h34 ?_
      refine r_aload rfl rfl (am_nz h17) ?_
      refine r_iload rfl rfl ?_
      refine r_const (x := 3) rfl rfl ?_
      refine r_bin (z := l3 + 3) rfl rfl (by decide) ?_
      refine r_ck (fun h35 => ?_)
      refine r_iald rfl h35 ?_
      refine r_call3 rfl rfl h32 (fun y hy => AfX_box (dp := dp + 21) hy) (fun y36 => ?_)
      refine r_ck (fun h37 => ?_)
      refine r_aload rfl rfl (am_nz h37) ?_
      refine r_aload rfl rfl (am_nz h17) ?_
      refine r_iload rfl rfl ?_
      refine r_const (x := 1) rfl rfl ?_
      refine r_bin (z := l3 + 1) rfl rfl (by decide) ?_
      refine r_ck (fun h38 => ?_)
      refine r_iald rfl h38 ?_
      refine r_aload rfl rfl (am_nz h17) ?_
      refine r_iload rfl rfl ?_
      refine r_const (x := 2) rfl rfl ?_
      refine r_bin (z := l3 + 2) rfl rfl (by decide) ?_
      refine r_ck (fun h39 => ?_)
      refine r_iald rfl h39 ?_
      refine r_aload rfl rfl (am_nz h17) ?_
      refine r_iload rfl rfl ?_
      refine r_const (x := 3) rfl rfl ?_
      refine r_bin (z := l3 + 3) rfl rfl (by decide) ?_
      refine r_ck (fun h40 => ?_)
      refine r_iald rfl h40 ?_
      refine r_call1 rfl rfl h37 (fun y hy => AfM_box (dp := dp + 21) hy) (fun y41 => ?_)
      refine r_icmp rfl rfl (fun c42 => ?_) (fun c42 => ?_)
      · exact AfLaw_law_J1489 hr18 l0 l1 l2 l3 y41.2 y36.2.2.1 y36.2.2.2.1 y36.2.2.2.2
      · exact he18_284 y41.2 y36.2.2.1 y36.2.2.2.1 y36.2.2.2.2 (some (.inr l0)) (some (.inr l1)) (some (.inr l2)) (some (.inl l3))
    refine r_ite (fun c43 => ?_) (fun c43 => ?_)
    · refine r_tabE (t := 286) rfl c43 (by decide) ?_
      refine r_ck (fun h44 => ?_)
      refine r_aload rfl rfl (am_nz h44) ?_
      refine r_aload rfl rfl (am_nz h17) ?_
      refine r_iload rfl rfl ?_
      refine r_const (x := 1) rfl rfl ?_
      refine r_bin (z := l3 + 1) rfl rfl (by decide) ?_
      refine r_ck (fun h45 => ?_)
      refine r_iald rfl h45 ?_
      refine r_aload rfl rfl (am_nz h17) ?_
      refine r_iload rfl rfl ?_
      refine r_const (x := 2) rfl rfl ?_
      refine r_bin (z := l3 + 2) rfl rfl (by decide) ?_
      refine r_ck (fun h46 => ?_)
      refine r_iald rfl h46 ?_
      refine r_call1 rfl rfl h44 (fun y hy => AfX_as (dp := dp + 22) hy) (fun y47 => ?_)
      refine r_ck (fun h48 => ?_)
      refine r_aload rfl rfl (am_nz h48) ?_
      refine r_aload rfl rfl (am_nz h17) ?_
      refine r_iload rfl rfl ?_
      refine r_const (x := 1) rfl rfl ?_
      refine r_bin (z := l3 + 1) rfl rfl (by decide) ?_
      refine r_ck (fun h49 => ?_)
      refine r_iald rfl h49 ?_
      refine r_aload rfl rfl (am_nz h17) ?_
      refine r_iload rfl rfl ?_
      refine r_const (x := 2) rfl rfl ?_
      refine r_bin (z := l3 + 2) rfl rfl (by decide) ?_
      refine r_ck (fun h50 => ?_)
      refine r_iald rfl h50 ?_
      refine r_call1 rfl rfl h48 (fun y hy => AfM_as (dp := dp + 22) hy) (fun y51 => ?_)
      refine r_icmp rfl rfl (fun c52 => ?_) (fun c52 => ?_)
      · exact AfLaw_law_J1489 hr18 l0 l1 l2 l3 y51.2 P nx sl
      · exact he18_317 y51.2 P nx sl (some (.inr l0)) (some (.inr l1)) (some (.inr l2)) (some (.inl l3))
    refine r_ite (fun c53 => ?_) (fun c53 => ?_)
    · refine r_tabE (t := 319) rfl c53 (by decide) ?_
      refine r_ck (fun h54 => ?_)
      refine r_aload rfl rfl (am_nz h54) ?_
      refine r_aload rfl rfl (am_nz h17) ?_
      refine r_iload rfl rfl ?_
      refine r_const (x := 1) rfl rfl ?_
      refine r_bin (z := l3 + 1) rfl rfl (by decide) ?_
      refine r_ck (fun h55 => ?_)
      refine r_iald rfl h55 ?_
      refine r_aload rfl rfl (am_nz h17) ?_
      refine r_iload rfl rfl ?_
      refine r_const (x := 2) rfl rfl ?_
      refine r_bin (z := l3 + 2) rfl rfl (by decide) ?_
      refine r_ck (fun h56 => ?_)
      refine r_iald rfl h56 ?_
      refine r_call1 rfl rfl h54 (fun y hy => AfX_of (dp := dp + 22) hy) (fun y57 => ?_)
      refine r_ck (fun h58 => ?_)
      refine r_aload rfl rfl (am_nz h58) ?_
      refine r_aload rfl rfl (am_nz h17) ?_
      refine r_iload rfl rfl ?_
      refine r_const (x := 1) rfl rfl ?_
      refine r_bin (z := l3 + 1) rfl rfl (by decide) ?_
      refine r_ck (fun h59 => ?_)
      refine r_iald rfl h59 ?_
      refine r_aload rfl rfl (am_nz h17) ?_
      refine r_iload rfl rfl ?_
      refine r_const (x := 2) rfl rfl ?_
      refine r_bin (z := l3 + 2) rfl rfl (by decide) ?_
      refine r_ck (fun h60 => ?_)
      refine r_iald rfl h60 ?_
      refine r_call1 rfl rfl h58 (fun y hy => AfM_of (dp := dp + 21) hy) (fun y61 => ?_)
      refine r_icmp rfl rfl (fun c62 => ?_) (fun c62 => ?_)
      · exact AfLaw_law_J1489 hr18 l0 l1 l2 l3 y61.2 P nx sl
      · exact he18_350 y61.2 P nx sl (some (.inr l0)) (some (.inr l1)) (some (.inr l2)) (some (.inl l3))
    refine r_ite (fun c63 => ?_) (fun c63 => ?_)
    · refine r_tabE (t := 352) rfl c63 (by decide) ?_
      refine r_ck (fun h64 => ?_)
      refine r_aload rfl rfl (am_nz h64) ?_
      refine r_aload rfl rfl (am_nz h17) ?_
      refine r_iload rfl rfl ?_
      refine r_const (x := 1) rfl rfl ?_
      refine r_bin (z := l3 + 1) rfl rfl (by decide) ?_
      refine r_ck (fun h65 => ?_)
      refine r_iald rfl h65 ?_
      refine r_aload rfl rfl (am_nz h17) ?_
      refine r_iload rfl rfl ?_
      refine r_const (x := 2) rfl rfl ?_
      refine r_bin (z := l3 + 2) rfl rfl (by decide) ?_
      refine r_ck (fun h66 => ?_)
      refine r_iald rfl h66 ?_
      refine r_call1 rfl rfl h64 (fun y hy => AfX_set (dp := dp + 22) hy) (fun y67 => ?_)
      refine r_ck (fun h68 => ?_)
      refine r_aload rfl rfl (am_nz h68) ?_
      refine r_aload rfl rfl (am_nz h17) ?_
      refine r_iload rfl rfl ?_
      refine r_const (x := 1) rfl rfl ?_
      refine r_bin (z := l3 + 1) rfl rfl (by decide) ?_
      refine r_ck (fun h69 => ?_)
      refine r_iald rfl h69 ?_
      refine r_aload rfl rfl (am_nz h17) ?_
      refine r_iload rfl rfl ?_
      refine r_const (x := 2) rfl rfl ?_
      refine r_bin (z := l3 + 2) rfl rfl (by decide) ?_
      refine r_ck (fun h70 => ?_)
      refine r_iald rfl h70 ?_
      refine r_call1 rfl rfl h68 (fun y hy => AfM_set (dp := dp + 21) hy) (fun y71 => ?_)
      refine r_icmp rfl rfl (fun c72 => ?_) (fun c72 => ?_)
      · exact AfLaw_law_J1489 hr18 l0 l1 l2 l3 y71.2 P nx sl
      · exact he18_383 y71.2 P nx sl (some (.inr l0)) (some (.inr l1)) (some (.inr l2)) (some (.inl l3))
    refine r_ite (fun c73 => ?_) (fun c73 => ?_)
    · refine r_tabE (t := 385) rfl c73 (by decide) ?_
      refine r_ck (fun h74 => ?_)
      refine r_aload rfl rfl (am_nz h74) ?_
      refine r_aload rfl rfl (am_nz h17) ?_
      refine r_iload rfl rfl ?_
      refine r_const (x := 1) rfl rfl ?_
      refine r_bin (z := l3 + 1) rfl rfl (by decide) ?_
      refine r_ck (fun h75 => ?_)
      refine r_iald rfl h75 ?_
      refine r_aload rfl rfl (am_nz h17) ?_
      refine r_iload rfl rfl ?_
      refine r_const (x := 2) rfl rfl ?_
      refine r_bin (z := l3 + 2) rfl rfl (by decide) ?_
      refine r_ck (fun h76 => ?_)
      refine r_iald rfl h76 ?_
      refine r_aload rfl rfl (am_nz h17) ?_
      refine r_iload rfl rfl ?_
      refine r_const (x := 3) rfl rfl ?_
      refine r_bin (z := l3 + 3) rfl rfl (by decide) ?_
      refine r_ck (fun h77 => ?_)
      refine r_iald rfl h77 ?_
      refine r_call1 rfl rfl h74 (fun y hy => AfX_in (dp := dp + 22) hy) (fun y78 => ?_)
      refine r_ck (fun h79 => ?_)
      refine r_aload rfl rfl (am_nz h79) ?_
      refine r_aload rfl rfl (am_nz h17) ?_
      refine r_iload rfl rfl ?_
      refine r_const (x := 1) rfl rfl ?_
      refine r_bin (z := l3 + 1) rfl rfl (by decide) ?_
      refine r_ck (fun h80 => ?_)
      refine r_iald rfl h80 ?_
      refine r_aload rfl rfl (am_nz h17) ?_
      refine r_iload rfl rfl ?_
      refine r_const (x := 2) rfl rfl ?_
      refine r_bin (z := l3 + 2) rfl rfl (by decide) ?_
      refine r_ck (fun h81 => ?_)
      refine r_iald rfl h81 ?_
      refine r_aload rfl rfl (am_nz h17) ?_
      refine r_iload rfl rfl ?_
      refine r_const (x := 3) rfl rfl ?_
      refine r_bin (z := l3 + 3) rfl rfl (by decide) ?_
      refine r_ck (fun h82 => ?_)
      refine r_iald rfl h82 ?_
      refine r_call1 rfl rfl h79 (fun y hy => AfM_in (dp := dp + 22) hy) (fun y83 => ?_)
      refine r_icmp rfl rfl (fun c84 => ?_) (fun c84 => ?_)
      · exact AfLaw_law_J1489 hr18 l0 l1 l2 l3 y83.2 P nx sl
      · exact he18_426 y83.2 P nx sl (some (.inr l0)) (some (.inr l1)) (some (.inr l2)) (some (.inl l3))
    refine r_ite (fun c85 => ?_) (fun c85 => ?_)
    · refine r_tabE (t := 428) rfl c85 (by decide) ?_
      refine r_ck (fun h86 => ?_)
      refine r_aload rfl rfl (am_nz h86) ?_
      refine r_aload rfl rfl (am_nz h17) ?_
      refine r_iload rfl rfl ?_
      refine r_const (x := 1) rfl rfl ?_
      refine r_bin (z := l3 + 1) rfl rfl (by decide) ?_
      refine r_ck (fun h87 => ?_)
      refine r_iald rfl h87 ?_
      refine r_aload rfl rfl (am_nz h17) ?_
      refine r_iload rfl rfl ?_
      refine r_const (x := 2) rfl rfl ?_
      refine r_bin (z := l3 + 2) rfl rfl (by decide) ?_
      refine r_ck (fun h88 => ?_)
      refine r_iald rfl h88 ?_
      refine r_call1 rfl rfl h86 (fun y hy => AfX_time (dp := dp + 23) hy) (fun y89 => ?_)
      refine r_ck (fun h90 => ?_)
      refine r_aload rfl rfl (am_nz h90) ?_
      refine r_aload rfl rfl (am_nz h17) ?_
      refine r_iload rfl rfl ?_
      refine r_const (x := 1) rfl rfl ?_
      refine r_bin (z := l3 + 1) rfl rfl (by decide) ?_
      refine r_ck (fun h91 => ?_)
      refine r_iald rfl h91 ?_
      refine r_aload rfl rfl (am_nz h17) ?_
      refine r_iload rfl rfl ?_
      refine r_const (x := 2) rfl rfl ?_
      refine r_bin (z := l3 + 2) rfl rfl (by decide) ?_
      refine r_ck (fun h92 => ?_)
      refine r_iald rfl h92 ?_
      refine r_call1 rfl rfl h90 (fun y hy => AfM_time (dp := dp + 22) hy) (fun y93 => ?_)
      refine r_icmp rfl rfl (fun c94 => ?_) (fun c94 => ?_)
      · exact AfLaw_law_J1489 hr18 l0 l1 l2 l3 y93.2 P nx sl
      · exact he18_459 y93.2 P nx sl (some (.inr l0)) (some (.inr l1)) (some (.inr l2)) (some (.inl l3))
    refine r_ite (fun c95 => ?_) (fun c95 => ?_)
    · refine r_tabE (t := 461) rfl c95 (by decide) ?_
      refine r_ck (fun h96 => ?_)
      refine r_aload rfl rfl (am_nz h96) ?_
      refine r_aload rfl rfl (am_nz h17) ?_
      refine r_iload rfl rfl ?_
      refine r_const (x := 1) rfl rfl ?_
      refine r_bin (z := l3 + 1) rfl rfl (by decide) ?_
      refine r_ck (fun h97 => ?_)
      refine r_iald rfl h97 ?_
      refine r_aload rfl rfl (am_nz h17) ?_
      refine r_iload rfl rfl ?_
      refine r_const (x := 2) rfl rfl ?_
      refine r_bin (z := l3 + 2) rfl rfl (by decide) ?_
      refine r_ck (fun h98 => ?_)
      refine r_iald rfl h98 ?_
      refine r_call1 rfl rfl h96 (fun y hy => AfX_feed (dp := dp + 23) hy) (fun y99 => ?_)
      refine r_ck (fun h100 => ?_)
      refine r_aload rfl rfl (am_nz h100) ?_
      refine r_aload rfl rfl (am_nz h17) ?_
      refine r_iload rfl rfl ?_
      refine r_const (x := 1) rfl rfl ?_
      refine r_bin (z := l3 + 1) rfl rfl (by decide) ?_
      refine r_ck (fun h101 => ?_)
      refine r_iald rfl h101 ?_
      refine r_aload rfl rfl (am_nz h17) ?_
      refine r_iload rfl rfl ?_
      refine r_const (x := 2) rfl rfl ?_
      refine r_bin (z := l3 + 2) rfl rfl (by decide) ?_
      refine r_ck (fun h102 => ?_)
      refine r_iald rfl h102 ?_
      refine r_call1 rfl rfl h100 (fun y hy => AfM_feed (dp := dp + 23) hy) (fun y103 => ?_)
      refine r_icmp rfl rfl (fun c104 => ?_) (fun c104 => ?_)
      · exact AfLaw_law_J1489 hr18 l0 l1 l2 l3 y103.2 P nx sl
      · exact he18_492 y103.2 P nx sl (some (.inr l0)) (some (.inr l1)) (some (.inr l2)) (some (.inl l3))
    refine r_ite (fun c105 => ?_) (fun c105 => ?_)
    · refine r_tabE (t := 494) rfl c105 (by decide) ?_
      refine r_ck (fun h106 => ?_)
      refine r_aload rfl rfl (am_nz h106) ?_
      refine r_aload rfl rfl (am_nz h17) ?_
      refine r_iload rfl rfl ?_
      refine r_const (x := 1) rfl rfl ?_
      refine r_bin (z := l3 + 1) rfl rfl (by decide) ?_
      refine r_ck (fun h107 => ?_)
      refine r_iald rfl h107 ?_
      refine r_call3 rfl rfl h106 (fun y hy => AfX_text (dp := dp + 18) hy) (fun y108 => ?_)
      refine r_ck (fun h109 => ?_)
      refine r_aload rfl rfl (am_nz h109) ?_
      refine r_aload rfl rfl (am_nz h17) ?_
      refine r_iload rfl rfl ?_
      refine r_const (x := 1) rfl rfl ?_
      refine r_bin (z := l3 + 1) rfl rfl (by decide) ?_
      refine r_ck (fun h110 => ?_)
      refine r_iald rfl h110 ?_
      refine r_call1 rfl rfl h109 (fun y hy => AfM_text (dp := dp + 1) hy) (fun y111 => ?_)
      refine r_icmp rfl rfl (fun c112 => ?_) (fun c112 => ?_)
      · exact AfLaw_law_J1489 hr18 l0 l1 l2 l3 y111.2 y108.2.2.1 y108.2.2.2.1 y108.2.2.2.2
      · exact he18_515 y111.2 y108.2.2.1 y108.2.2.2.1 y108.2.2.2.2 (some (.inr l0)) (some (.inr l1)) (some (.inr l2)) (some (.inl l3))
    refine r_ite (fun c113 => ?_) (fun c113 => ?_)
    · refine r_tabE (t := 517) rfl c113 (by decide) ?_
      refine r_ck (fun h114 => ?_)
      refine r_aload rfl rfl (am_nz h114) ?_
      refine r_call1 rfl rfl h114 (fun y hy => AfX_wipe (dp := dp + 24) hy) (fun y115 => ?_)
      refine r_ck (fun h116 => ?_)
      refine r_aload rfl rfl (am_nz h116) ?_
      refine r_call1 rfl rfl h116 (fun y hy => AfM_wipe (dp := dp + 24) hy) (fun y117 => ?_)
      refine r_icmp rfl rfl (fun c118 => ?_) (fun c118 => ?_)
      · exact AfLaw_law_J1489 hr18 l0 l1 l2 l3 y117.2 P nx sl
      · exact he18_528 y117.2 P nx sl (some (.inr l0)) (some (.inr l1)) (some (.inr l2)) (some (.inl l3))
    refine r_ite (fun c119 => ?_) (fun c119 => ?_)
    · refine r_tabE (t := 530) rfl c119 (by decide) ?_
      refine r_ck (fun h120 => ?_)
      refine r_aload rfl rfl (am_nz h120) ?_
      refine r_aload rfl rfl (am_nz h17) ?_
      refine r_iload rfl rfl ?_
      refine r_const (x := 1) rfl rfl ?_
      refine r_bin (z := l3 + 1) rfl rfl (by decide) ?_
      refine r_ck (fun h121 => ?_)
      refine r_iald rfl h121 ?_
      refine r_aload rfl rfl (am_nz h17) ?_
      refine r_iload rfl rfl ?_
      refine r_const (x := 2) rfl rfl ?_
      refine r_bin (z := l3 + 2) rfl rfl (by decide) ?_
      refine r_ck (fun h122 => ?_)
      refine r_iald rfl h122 ?_
      refine r_aload rfl rfl (am_nz h17) ?_
      refine r_iload rfl rfl ?_
      refine r_const (x := 3) rfl rfl ?_
      refine r_bin (z := l3 + 3) rfl rfl (by decide) ?_
      refine r_ck (fun h123 => ?_)
      refine r_iald rfl h123 ?_
      refine r_aload rfl rfl (am_nz h17) ?_
      refine r_iload rfl rfl ?_
      refine r_const (x := 4) rfl rfl ?_
      refine r_bin (z := l3 + 4) rfl rfl (by decide) ?_
      refine r_ck (fun h124 => ?_)
      refine r_iald rfl h124 ?_
      refine r_aload rfl rfl (am_nz h17) ?_
      refine r_iload rfl rfl ?_
      refine r_const (x := 5) rfl rfl ?_
      refine r_bin (z := l3 + 5) rfl rfl (by decide) ?_
      refine r_ck (fun h125 => ?_)
      refine r_iald rfl h125 ?_
      refine r_call3 rfl rfl h120 (fun y hy => AfX_would (dp := dp + 22) hy) (fun y126 => ?_)
      refine r_ck (fun h127 => ?_)
      refine r_aload rfl rfl (am_nz h127) ?_
      refine r_aload rfl rfl (am_nz h17) ?_
      refine r_iload rfl rfl ?_
      refine r_const (x := 1) rfl rfl ?_
      refine r_bin (z := l3 + 1) rfl rfl (by decide) ?_
      refine r_ck (fun h128 => ?_)
      refine r_iald rfl h128 ?_
      refine r_aload rfl rfl (am_nz h17) ?_
      refine r_iload rfl rfl ?_
      refine r_const (x := 2) rfl rfl ?_
      refine r_bin (z := l3 + 2) rfl rfl (by decide) ?_
      refine r_ck (fun h129 => ?_)
      refine r_iald rfl h129 ?_
      refine r_aload rfl rfl (am_nz h17) ?_
      refine r_iload rfl rfl ?_
      refine r_const (x := 3) rfl rfl ?_
      refine r_bin (z := l3 + 3) rfl rfl (by decide) ?_
      refine r_ck (fun h130 => ?_)
      refine r_iald rfl h130 ?_
      refine r_aload rfl rfl (am_nz h17) ?_
      refine r_iload rfl rfl ?_
      refine r_const (x := 4) rfl rfl ?_
      refine r_bin (z := l3 + 4) rfl rfl (by decide) ?_
      refine r_ck (fun h131 => ?_)
      refine r_iald rfl h131 ?_
      refine r_aload rfl rfl (am_nz h17) ?_
      refine r_iload rfl rfl ?_
      refine r_const (x := 5) rfl rfl ?_
      refine r_bin (z := l3 + 5) rfl rfl (by decide) ?_
      refine r_ck (fun h132 => ?_)
      refine r_iald rfl h132 ?_
      refine r_call1 rfl rfl h127 (fun y hy => AfM_would (dp := dp + 21) hy) (fun y133 => ?_)
      refine r_icmp rfl rfl (fun c134 => ?_) (fun c134 => ?_)
      · exact AfLaw_law_J1489 hr18 l0 l1 l2 l3 y133.2 y126.2.2.1 y126.2.2.2.1 y126.2.2.2.2
      · exact he18_591 y133.2 y126.2.2.1 y126.2.2.2.1 y126.2.2.2.2 (some (.inr l0)) (some (.inr l1)) (some (.inr l2)) (some (.inl l3))
    refine r_ite (fun c135 => ?_) (fun c135 => ?_)
    · refine r_tabE (t := 593) rfl c135 (by decide) ?_
      refine r_ck (fun h136 => ?_)
      refine r_aload rfl rfl (am_nz h136) ?_
      refine r_aload rfl rfl (am_nz h17) ?_
      refine r_iload rfl rfl ?_
      refine r_const (x := 1) rfl rfl ?_
      refine r_bin (z := l3 + 1) rfl rfl (by decide) ?_
      refine r_ck (fun h137 => ?_)
      refine r_iald rfl h137 ?_
      refine r_aload rfl rfl (am_nz h17) ?_
      refine r_iload rfl rfl ?_
      refine r_const (x := 2) rfl rfl ?_
      refine r_bin (z := l3 + 2) rfl rfl (by decide) ?_
      refine r_ck (fun h138 => ?_)
      refine r_iald rfl h138 ?_
      refine r_call1 rfl rfl h136 (fun y hy => AfX_seam (dp := dp + 22) hy) (fun y139 => ?_)
      refine r_ck (fun h140 => ?_)
      refine r_aload rfl rfl (am_nz h140) ?_
      refine r_aload rfl rfl (am_nz h17) ?_
      refine r_iload rfl rfl ?_
      refine r_const (x := 1) rfl rfl ?_
      refine r_bin (z := l3 + 1) rfl rfl (by decide) ?_
      refine r_ck (fun h141 => ?_)
      refine r_iald rfl h141 ?_
      refine r_aload rfl rfl (am_nz h17) ?_
      refine r_iload rfl rfl ?_
      refine r_const (x := 2) rfl rfl ?_
      refine r_bin (z := l3 + 2) rfl rfl (by decide) ?_
      refine r_ck (fun h142 => ?_)
      refine r_iald rfl h142 ?_
      refine r_call1 rfl rfl h140 (fun y hy => AfM_seam (dp := dp + 21) hy) (fun y143 => ?_)
      refine r_icmp rfl rfl (fun c144 => ?_) (fun c144 => ?_)
      · exact AfLaw_law_J1489 hr18 l0 l1 l2 l3 y143.2 P nx sl
      · exact he18_624 y143.2 P nx sl (some (.inr l0)) (some (.inr l1)) (some (.inr l2)) (some (.inl l3))
    refine r_ite (fun c145 => ?_) (fun c145 => ?_)
    · refine r_tabE (t := 626) rfl c145 (by decide) ?_
      refine r_ck (fun h146 => ?_)
      refine r_aload rfl rfl (am_nz h146) ?_
      refine r_aload rfl rfl (am_nz h17) ?_
      refine r_iload rfl rfl ?_
      refine r_const (x := 1) rfl rfl ?_
      refine r_bin (z := l3 + 1) rfl rfl (by decide) ?_
      refine r_ck (fun h147 => ?_)
      refine r_iald rfl h147 ?_
      refine r_aload rfl rfl (am_nz h17) ?_
      refine r_iload rfl rfl ?_
      refine r_const (x := 2) rfl rfl ?_
      refine r_bin (z := l3 + 2) rfl rfl (by decide) ?_
      refine r_ck (fun h148 => ?_)
      refine r_iald rfl h148 ?_
      refine r_call1 rfl rfl h146 (fun y hy => AfX_seamIs (dp := dp + 23) hy) (fun y149 => ?_)
      refine r_ck (fun h150 => ?_)
      refine r_aload rfl rfl (am_nz h150) ?_
      refine r_aload rfl rfl (am_nz h17) ?_
      refine r_iload rfl rfl ?_
      refine r_const (x := 1) rfl rfl ?_
      refine r_bin (z := l3 + 1) rfl rfl (by decide) ?_
      refine r_ck (fun h151 => ?_)
      refine r_iald rfl h151 ?_
      refine r_aload rfl rfl (am_nz h17) ?_
      refine r_iload rfl rfl ?_
      refine r_const (x := 2) rfl rfl ?_
      refine r_bin (z := l3 + 2) rfl rfl (by decide) ?_
      refine r_ck (fun h152 => ?_)
      refine r_iald rfl h152 ?_
      refine r_call1 rfl rfl h150 (fun y hy => AfM_seamIs (dp := dp + 22) hy) (fun y153 => ?_)
      refine r_icmp rfl rfl (fun c154 => ?_) (fun c154 => ?_)
      · exact AfLaw_law_J1489 hr18 l0 l1 l2 l3 y153.2 P nx sl
      · exact he18_657 y153.2 P nx sl (some (.inr l0)) (some (.inr l1)) (some (.inr l2)) (some (.inl l3))
    refine r_ite (fun c155 => ?_) (fun c155 => ?_)
    · refine r_tabE (t := 659) rfl c155 (by decide) ?_
      refine r_ck (fun h156 => ?_)
      refine r_aload rfl rfl (am_nz h156) ?_
      refine r_aload rfl rfl (am_nz h17) ?_
      refine r_iload rfl rfl ?_
      refine r_const (x := 1) rfl rfl ?_
      refine r_bin (z := l3 + 1) rfl rfl (by decide) ?_
      refine r_ck (fun h157 => ?_)
      refine r_iald rfl h157 ?_
      refine r_aload rfl rfl (am_nz h17) ?_
      refine r_iload rfl rfl ?_
      refine r_const (x := 2) rfl rfl ?_
      refine r_bin (z := l3 + 2) rfl rfl (by decide) ?_
      refine r_ck (fun h158 => ?_)
      refine r_iald rfl h158 ?_
      refine r_aload rfl rfl (am_nz h17) ?_
      refine r_iload rfl rfl ?_
      refine r_const (x := 3) rfl rfl ?_
      refine r_bin (z := l3 + 3) rfl rfl (by decide) ?_
      refine r_ck (fun h159 => ?_)
      refine r_iald rfl h159 ?_
      refine r_call1 rfl rfl h156 (fun y hy => AfX_say (dp := dp + 23) hy) (fun y160 => ?_)
      refine r_ck (fun h161 => ?_)
      refine r_aload rfl rfl (am_nz h161) ?_
      refine r_aload rfl rfl (am_nz h17) ?_
      refine r_iload rfl rfl ?_
      refine r_const (x := 1) rfl rfl ?_
      refine r_bin (z := l3 + 1) rfl rfl (by decide) ?_
      refine r_ck (fun h162 => ?_)
      refine r_iald rfl h162 ?_
      refine r_aload rfl rfl (am_nz h17) ?_
      refine r_iload rfl rfl ?_
      refine r_const (x := 2) rfl rfl ?_
      refine r_bin (z := l3 + 2) rfl rfl (by decide) ?_
      refine r_ck (fun h163 => ?_)
      refine r_iald rfl h163 ?_
      refine r_aload rfl rfl (am_nz h17) ?_
      refine r_iload rfl rfl ?_
      refine r_const (x := 3) rfl rfl ?_
      refine r_bin (z := l3 + 3) rfl rfl (by decide) ?_
      refine r_ck (fun h164 => ?_)
      refine r_iald rfl h164 ?_
      refine r_call1 rfl rfl h161 (fun y hy => AfM_say (dp := dp + 22) hy) (fun y165 => ?_)
      refine r_icmp rfl rfl (fun c166 => ?_) (fun c166 => ?_)
      · exact AfLaw_law_J1489 hr18 l0 l1 l2 l3 y165.2 P nx sl
      · exact he18_700 y165.2 P nx sl (some (.inr l0)) (some (.inr l1)) (some (.inr l2)) (some (.inl l3))
    refine r_ite (fun c167 => ?_) (fun c167 => ?_)
    · refine r_tabE (t := 702) rfl c167 (by decide) ?_
      refine r_ck (fun h168 => ?_)
      refine r_aload rfl rfl (am_nz h168) ?_
      refine r_aload rfl rfl (am_nz h17) ?_
      refine r_iload rfl rfl ?_
      refine r_const (x := 1) rfl rfl ?_
      refine r_bin (z := l3 + 1) rfl rfl (by decide) ?_
      refine r_ck (fun h169 => ?_)
      refine r_iald rfl h169 ?_
      refine r_call1 rfl rfl h168 (fun y hy => AfX_guess (dp := dp + 23) hy) (fun y170 => ?_)
      refine r_ck (fun h171 => ?_)
      refine r_aload rfl rfl (am_nz h171) ?_
      refine r_aload rfl rfl (am_nz h17) ?_
      refine r_iload rfl rfl ?_
      refine r_const (x := 1) rfl rfl ?_
      refine r_bin (z := l3 + 1) rfl rfl (by decide) ?_
      refine r_ck (fun h172 => ?_)
      refine r_iald rfl h172 ?_
      refine r_call1 rfl rfl h171 (fun y hy => AfM_guess (dp := dp + 23) hy) (fun y173 => ?_)
      refine r_icmp rfl rfl (fun c174 => ?_) (fun c174 => ?_)
      · exact AfLaw_law_J1489 hr18 l0 l1 l2 l3 y173.2 P nx sl
      · exact he18_723 y173.2 P nx sl (some (.inr l0)) (some (.inr l1)) (some (.inr l2)) (some (.inl l3))
    refine r_ite (fun c175 => ?_) (fun c175 => ?_)
    · refine r_tabE (t := 725) rfl c175 (by decide) ?_
      refine r_ck (fun h176 => ?_)
      refine r_aload rfl rfl (am_nz h176) ?_
      refine r_aload rfl rfl (am_nz h17) ?_
      refine r_iload rfl rfl ?_
      refine r_const (x := 1) rfl rfl ?_
      refine r_bin (z := l3 + 1) rfl rfl (by decide) ?_
      refine r_ck (fun h177 => ?_)
      refine r_iald rfl h177 ?_
      refine r_call1 rfl rfl h176 (fun y hy => AfX_guessed (dp := dp + 22) hy) (fun y178 => ?_)
      refine r_ck (fun h179 => ?_)
      refine r_aload rfl rfl (am_nz h179) ?_
      refine r_aload rfl rfl (am_nz h17) ?_
      refine r_iload rfl rfl ?_
      refine r_const (x := 1) rfl rfl ?_
      refine r_bin (z := l3 + 1) rfl rfl (by decide) ?_
      refine r_ck (fun h180 => ?_)
      refine r_iald rfl h180 ?_
      refine r_call1 rfl rfl h179 (fun y hy => AfM_guessed (dp := dp + 22) hy) (fun y181 => ?_)
      refine r_icmp rfl rfl (fun c182 => ?_) (fun c182 => ?_)
      · exact AfLaw_law_J1489 hr18 l0 l1 l2 l3 y181.2 P nx sl
      · exact he18_746 y181.2 P nx sl (some (.inr l0)) (some (.inr l1)) (some (.inr l2)) (some (.inl l3))
    refine r_ite (fun c183 => ?_) (fun c183 => ?_)
    · refine r_tabE (t := 748) rfl c183 (by decide) ?_
      refine r_ck (fun h184 => ?_)
      refine r_aload rfl rfl (am_nz h184) ?_
      refine r_aload rfl rfl (am_nz h17) ?_
      refine r_iload rfl rfl ?_
      refine r_const (x := 1) rfl rfl ?_
      refine r_bin (z := l3 + 1) rfl rfl (by decide) ?_
      refine r_ck (fun h185 => ?_)
      refine r_iald rfl h185 ?_
      refine r_call1 rfl rfl h184 (fun y hy => AfX_hangs (dp := dp + 21) hy) (fun y186 => ?_)
      refine r_ck (fun h187 => ?_)
      refine r_aload rfl rfl (am_nz h187) ?_
      refine r_aload rfl rfl (am_nz h17) ?_
      refine r_iload rfl rfl ?_
      refine r_const (x := 1) rfl rfl ?_
      refine r_bin (z := l3 + 1) rfl rfl (by decide) ?_
      refine r_ck (fun h188 => ?_)
      refine r_iald rfl h188 ?_
      refine r_call1 rfl rfl h187 (fun y hy => AfM_hangs (dp := dp + 22) hy) (fun y189 => ?_)
      refine r_icmp rfl rfl (fun c190 => ?_) (fun c190 => ?_)
      · exact AfLaw_law_J1489 hr18 l0 l1 l2 l3 y189.2 P nx sl
      · exact he18_769 y189.2 P nx sl (some (.inr l0)) (some (.inr l1)) (some (.inr l2)) (some (.inl l3))
    refine r_ite (fun c191 => ?_) (fun c191 => ?_)
    · refine r_tabE (t := 771) rfl c191 (by decide) ?_
      refine r_ck (fun h192 => ?_)
      refine r_aload rfl rfl (am_nz h192) ?_
      refine r_aload rfl rfl (am_nz h17) ?_
      refine r_iload rfl rfl ?_
      refine r_const (x := 1) rfl rfl ?_
      refine r_bin (z := l3 + 1) rfl rfl (by decide) ?_
      refine r_ck (fun h193 => ?_)
      refine r_iald rfl h193 ?_
      refine r_call1 rfl rfl h192 (fun y hy => AfX_ring (dp := dp + 19) hy) (fun y194 => ?_)
      refine r_ck (fun h195 => ?_)
      refine r_aload rfl rfl (am_nz h195) ?_
      refine r_aload rfl rfl (am_nz h17) ?_
      refine r_iload rfl rfl ?_
      refine r_const (x := 1) rfl rfl ?_
      refine r_bin (z := l3 + 1) rfl rfl (by decide) ?_
      refine r_ck (fun h196 => ?_)
      refine r_iald rfl h196 ?_
      refine r_call1 rfl rfl h195 (fun y hy => AfM_ring (dp := dp + 20) hy) (fun y197 => ?_)
      refine r_icmp rfl rfl (fun c198 => ?_) (fun c198 => ?_)
      · exact AfLaw_law_J1489 hr18 l0 l1 l2 l3 y197.2 P nx sl
      · exact he18_792 y197.2 P nx sl (some (.inr l0)) (some (.inr l1)) (some (.inr l2)) (some (.inl l3))
    refine r_ite (fun c199 => ?_) (fun c199 => ?_)
    · refine r_tabE (t := 794) rfl c199 (by decide) ?_
      refine r_ck (fun h200 => ?_)
      refine r_aload rfl rfl (am_nz h200) ?_
      refine r_aload rfl rfl (am_nz h17) ?_
      refine r_iload rfl rfl ?_
      refine r_const (x := 1) rfl rfl ?_
      refine r_bin (z := l3 + 1) rfl rfl (by decide) ?_
      refine r_ck (fun h201 => ?_)
      refine r_iald rfl h201 ?_
      refine r_call3 rfl rfl h200 (fun y hy => AfX_answers (dp := dp + 18) hy) (fun y202 => ?_)
      refine r_ck (fun h203 => ?_)
      refine r_aload rfl rfl (am_nz h203) ?_
      refine r_aload rfl rfl (am_nz h17) ?_
      refine r_iload rfl rfl ?_
      refine r_const (x := 1) rfl rfl ?_
      refine r_bin (z := l3 + 1) rfl rfl (by decide) ?_
      refine r_ck (fun h204 => ?_)
      refine r_iald rfl h204 ?_
      refine r_call1 rfl rfl h203 (fun y hy => AfM_answers (dp := dp + 20) hy) (fun y205 => ?_)
      refine r_icmp rfl rfl (fun c206 => ?_) (fun c206 => ?_)
      · exact AfLaw_law_J1489 hr18 l0 l1 l2 l3 y205.2 y202.2.2.1 y202.2.2.2.1 y202.2.2.2.2
      · exact he18_815 y205.2 y202.2.2.1 y202.2.2.2.1 y202.2.2.2.2 (some (.inr l0)) (some (.inr l1)) (some (.inr l2)) (some (.inl l3))
    refine r_ite (fun c207 => ?_) (fun c207 => ?_)
    · refine r_tabE (t := 817) rfl c207 (by decide) ?_
      refine r_ck (fun h208 => ?_)
      refine r_aload rfl rfl (am_nz h208) ?_
      refine r_aload rfl rfl (am_nz h17) ?_
      refine r_iload rfl rfl ?_
      refine r_const (x := 1) rfl rfl ?_
      refine r_bin (z := l3 + 1) rfl rfl (by decide) ?_
      refine r_ck (fun h209 => ?_)
      refine r_iald rfl h209 ?_
      refine r_aload rfl rfl (am_nz h17) ?_
      refine r_iload rfl rfl ?_
      refine r_const (x := 2) rfl rfl ?_
      refine r_bin (z := l3 + 2) rfl rfl (by decide) ?_
      refine r_ck (fun h210 => ?_)
      refine r_iald rfl h210 ?_
      refine r_call3 rfl rfl h208 (fun y hy => AfX_solve (dp := dp + 18) hy) (fun y211 => ?_)
      refine r_ck (fun h212 => ?_)
      refine r_aload rfl rfl (am_nz h212) ?_
      refine r_aload rfl rfl (am_nz h17) ?_
      refine r_iload rfl rfl ?_
      refine r_const (x := 1) rfl rfl ?_
      refine r_bin (z := l3 + 1) rfl rfl (by decide) ?_
      refine r_ck (fun h213 => ?_)
      refine r_iald rfl h213 ?_
      refine r_aload rfl rfl (am_nz h17) ?_
      refine r_iload rfl rfl ?_
      refine r_const (x := 2) rfl rfl ?_
      refine r_bin (z := l3 + 2) rfl rfl (by decide) ?_
      refine r_ck (fun h214 => ?_)
      refine r_iald rfl h214 ?_
      refine r_call1 rfl rfl h212 (fun y hy => AfM_solve (dp := dp + 20) hy) (fun y215 => ?_)
      refine r_icmp rfl rfl (fun c216 => ?_) (fun c216 => ?_)
      · exact AfLaw_law_J1489 hr18 l0 l1 l2 l3 y215.2 y211.2.2.1 y211.2.2.2.1 y211.2.2.2.2
      · exact he18_848 y215.2 y211.2.2.1 y211.2.2.2.1 y211.2.2.2.2 (some (.inr l0)) (some (.inr l1)) (some (.inr l2)) (some (.inl l3))
    refine r_ite (fun c217 => ?_) (fun c217 => ?_)
    · refine r_tabE (t := 850) rfl c217 (by decide) ?_
      refine r_ck (fun h218 => ?_)
      refine r_aload rfl rfl (am_nz h218) ?_
      refine r_aload rfl rfl (am_nz h17) ?_
      refine r_iload rfl rfl ?_
      refine r_const (x := 1) rfl rfl ?_
      refine r_bin (z := l3 + 1) rfl rfl (by decide) ?_
      refine r_ck (fun h219 => ?_)
      refine r_iald rfl h219 ?_
      refine r_call1 rfl rfl h218 (fun y hy => AfX_order (dp := dp + 22) hy) (fun y220 => ?_)
      refine r_ck (fun h221 => ?_)
      refine r_aload rfl rfl (am_nz h221) ?_
      refine r_aload rfl rfl (am_nz h17) ?_
      refine r_iload rfl rfl ?_
      refine r_const (x := 1) rfl rfl ?_
      refine r_bin (z := l3 + 1) rfl rfl (by decide) ?_
      refine r_ck (fun h222 => ?_)
      refine r_iald rfl h222 ?_
      refine r_call1 rfl rfl h221 (fun y hy => AfM_order (dp := dp + 22) hy) (fun y223 => ?_)
      refine r_icmp rfl rfl (fun c224 => ?_) (fun c224 => ?_)
      · exact AfLaw_law_J1489 hr18 l0 l1 l2 l3 y223.2 P nx sl
      · exact he18_871 y223.2 P nx sl (some (.inr l0)) (some (.inr l1)) (some (.inr l2)) (some (.inl l3))
    refine r_ite (fun c225 => ?_) (fun c225 => ?_)
    · refine r_tabE (t := 873) rfl c225 (by decide) ?_
      refine r_ck (fun h226 => ?_)
      refine r_aload rfl rfl (am_nz h226) ?_
      refine r_aload rfl rfl (am_nz h17) ?_
      refine r_iload rfl rfl ?_
      refine r_const (x := 1) rfl rfl ?_
      refine r_bin (z := l3 + 1) rfl rfl (by decide) ?_
      refine r_ck (fun h227 => ?_)
      refine r_iald rfl h227 ?_
      refine r_call1 rfl rfl h226 (fun y hy => AfX_at (dp := dp + 23) hy) (fun y228 => ?_)
      refine r_ck (fun h229 => ?_)
      refine r_aload rfl rfl (am_nz h229) ?_
      refine r_aload rfl rfl (am_nz h17) ?_
      refine r_iload rfl rfl ?_
      refine r_const (x := 1) rfl rfl ?_
      refine r_bin (z := l3 + 1) rfl rfl (by decide) ?_
      refine r_ck (fun h230 => ?_)
      refine r_iald rfl h230 ?_
      refine r_call1 rfl rfl h229 (fun y hy => AfM_at (dp := dp + 22) hy) (fun y231 => ?_)
      refine r_icmp rfl rfl (fun c232 => ?_) (fun c232 => ?_)
      · exact AfLaw_law_J1489 hr18 l0 l1 l2 l3 y231.2 P nx sl
      · exact he18_894 y231.2 P nx sl (some (.inr l0)) (some (.inr l1)) (some (.inr l2)) (some (.inl l3))
    refine r_ite (fun c233 => ?_) (fun c233 => ?_)
    · refine r_tabE (t := 896) rfl c233 (by decide) ?_
      refine r_ck (fun h234 => ?_)
      refine r_aload rfl rfl (am_nz h234) ?_
      refine r_aload rfl rfl (am_nz h17) ?_
      refine r_iload rfl rfl ?_
      refine r_const (x := 1) rfl rfl ?_
      refine r_bin (z := l3 + 1) rfl rfl (by decide) ?_
      refine r_ck (fun h235 => ?_)
      refine r_iald rfl h235 ?_
      refine r_call3 rfl rfl h234 (fun y hy => AfX_step (dp := dp + 19) hy) (fun y236 => ?_)
      refine r_ck (fun h237 => ?_)
      refine r_aload rfl rfl (am_nz h237) ?_
      refine r_aload rfl rfl (am_nz h17) ?_
      refine r_iload rfl rfl ?_
      refine r_const (x := 1) rfl rfl ?_
      refine r_bin (z := l3 + 1) rfl rfl (by decide) ?_
      refine r_ck (fun h238 => ?_)
      refine r_iald rfl h238 ?_
      refine r_call3 rfl rfl h237 (fun y hy => AfM_step (dp := dp + 19) hy) (fun y239 => ?_)
      refine r_icmp rfl rfl (fun c240 => ?_) (fun c240 => ?_)
      · exact AfLaw_law_J1489 hr18 l0 l1 l2 l3 y239.2.1 y239.2.2.1 y239.2.2.2.1 y239.2.2.2.2
      · exact he18_917 y239.2.1 y239.2.2.1 y239.2.2.2.1 y239.2.2.2.2 (some (.inr l0)) (some (.inr l1)) (some (.inr l2)) (some (.inl l3))
    refine r_ite (fun c241 => ?_) (fun c241 => ?_)
    · refine r_tabE (t := 919) rfl c241 (by decide) ?_
      refine r_ck (fun h242 => ?_)
      refine r_aload rfl rfl (am_nz h242) ?_
      refine r_aload rfl rfl (am_nz h17) ?_
      refine r_iload rfl rfl ?_
      refine r_const (x := 1) rfl rfl ?_
      refine r_bin (z := l3 + 1) rfl rfl (by decide) ?_
      refine r_ck (fun h243 => ?_)
      refine r_iald rfl h243 ?_
      refine r_call3 rfl rfl h242 (fun y hy => AfX_back (dp := dp + 21) hy) (fun y244 => ?_)
      refine r_ck (fun h245 => ?_)
      refine r_aload rfl rfl (am_nz h245) ?_
      refine r_aload rfl rfl (am_nz h17) ?_
      refine r_iload rfl rfl ?_
      refine r_const (x := 1) rfl rfl ?_
      refine r_bin (z := l3 + 1) rfl rfl (by decide) ?_
      refine r_ck (fun h246 => ?_)
      refine r_iald rfl h246 ?_
      refine r_call1 rfl rfl h245 (fun y hy => AfM_back (dp := dp + 22) hy) (fun y247 => ?_)
      refine r_icmp rfl rfl (fun c248 => ?_) (fun c248 => ?_)
      · exact AfLaw_law_J1489 hr18 l0 l1 l2 l3 y247.2 y244.2.2.1 y244.2.2.2.1 y244.2.2.2.2
      · exact he18_940 y247.2 y244.2.2.1 y244.2.2.2.1 y244.2.2.2.2 (some (.inr l0)) (some (.inr l1)) (some (.inr l2)) (some (.inl l3))
    refine r_ite (fun c249 => ?_) (fun c249 => ?_)
    · refine r_tabE (t := 942) rfl c249 (by decide) ?_
      refine r_ck (fun h250 => ?_)
      refine r_aload rfl rfl (am_nz h250) ?_
      refine r_aload rfl rfl (am_nz h17) ?_
      refine r_iload rfl rfl ?_
      refine r_const (x := 1) rfl rfl ?_
      refine r_bin (z := l3 + 1) rfl rfl (by decide) ?_
      refine r_ck (fun h251 => ?_)
      refine r_iald rfl h251 ?_
      refine r_aload rfl rfl (am_nz h17) ?_
      refine r_iload rfl rfl ?_
      refine r_const (x := 2) rfl rfl ?_
      refine r_bin (z := l3 + 2) rfl rfl (by decide) ?_
      refine r_ck (fun h252 => ?_)
      refine r_iald rfl h252 ?_
      refine r_aload rfl rfl (am_nz h17) ?_
      refine r_iload rfl rfl ?_
      refine r_const (x := 3) rfl rfl ?_
      refine r_bin (z := l3 + 3) rfl rfl (by decide) ?_
      refine r_ck (fun h253 => ?_)
      refine r_iald rfl h253 ?_
      refine r_call1 rfl rfl h250 (fun y hy => AfX_event (dp := dp + 23) hy) (fun y254 => ?_)
      refine r_ck (fun h255 => ?_)
      refine r_aload rfl rfl (am_nz h255) ?_
      refine r_aload rfl rfl (am_nz h17) ?_
      refine r_iload rfl rfl ?_
      refine r_const (x := 1) rfl rfl ?_
      refine r_bin (z := l3 + 1) rfl rfl (by decide) ?_
      refine r_ck (fun h256 => ?_)
      refine r_iald rfl h256 ?_
      refine r_aload rfl rfl (am_nz h17) ?_
      refine r_iload rfl rfl ?_
      refine r_const (x := 2) rfl rfl ?_
      refine r_bin (z := l3 + 2) rfl rfl (by decide) ?_
      refine r_ck (fun h257 => ?_)
      refine r_iald rfl h257 ?_
      refine r_aload rfl rfl (am_nz h17) ?_
      refine r_iload rfl rfl ?_
      refine r_const (x := 3) rfl rfl ?_
      refine r_bin (z := l3 + 3) rfl rfl (by decide) ?_
      refine r_ck (fun h258 => ?_)
      refine r_iald rfl h258 ?_
      refine r_call1 rfl rfl h255 (fun y hy => AfM_event (dp := dp + 22) hy) (fun y259 => ?_)
      refine r_icmp rfl rfl (fun c260 => ?_) (fun c260 => ?_)
      · exact AfLaw_law_J1489 hr18 l0 l1 l2 l3 y259.2 P nx sl
      · exact he18_983 y259.2 P nx sl (some (.inr l0)) (some (.inr l1)) (some (.inr l2)) (some (.inl l3))
    refine r_ite (fun c261 => ?_) (fun c261 => ?_)
    · refine r_tabE (t := 985) rfl c261 (by decide) ?_
      refine r_ck (fun h262 => ?_)
      refine r_aload rfl rfl (am_nz h262) ?_
      refine r_call1 rfl rfl h262 (fun y hy => AfX_next (dp := dp + 23) hy) (fun y263 => ?_)
      refine r_ck (fun h264 => ?_)
      refine r_aload rfl rfl (am_nz h264) ?_
      refine r_call1 rfl rfl h264 (fun y hy => AfM_next (dp := dp + 23) hy) (fun y265 => ?_)
      refine r_icmp rfl rfl (fun c266 => ?_) (fun c266 => ?_)
      · exact AfLaw_law_J1489 hr18 l0 l1 l2 l3 y265.2 P nx sl
      · exact he18_996 y265.2 P nx sl (some (.inr l0)) (some (.inr l1)) (some (.inr l2)) (some (.inl l3))
    refine r_ite (fun c267 => ?_) (fun c267 => ?_)
    · refine r_tabE (t := 998) rfl c267 (by decide) ?_
      refine r_ck (fun h268 => ?_)
      refine r_aload rfl rfl (am_nz h268) ?_
      refine r_aload rfl rfl (am_nz h17) ?_
      refine r_iload rfl rfl ?_
      refine r_const (x := 1) rfl rfl ?_
      refine r_bin (z := l3 + 1) rfl rfl (by decide) ?_
      refine r_ck (fun h269 => ?_)
      refine r_iald rfl h269 ?_
      refine r_call1 rfl rfl h268 (fun y hy => AfX_left (dp := dp + 23) hy) (fun y270 => ?_)
      refine r_ck (fun h271 => ?_)
      refine r_aload rfl rfl (am_nz h271) ?_
      refine r_aload rfl rfl (am_nz h17) ?_
      refine r_iload rfl rfl ?_
      refine r_const (x := 1) rfl rfl ?_
      refine r_bin (z := l3 + 1) rfl rfl (by decide) ?_
      refine r_ck (fun h272 => ?_)
      refine r_iald rfl h272 ?_
      refine r_call1 rfl rfl h271 (fun y hy => AfM_left (dp := dp + 23) hy) (fun y273 => ?_)
      refine r_icmp rfl rfl (fun c274 => ?_) (fun c274 => ?_)
      · exact AfLaw_law_J1489 hr18 l0 l1 l2 l3 y273.2 P nx sl
      · exact he18_1019 y273.2 P nx sl (some (.inr l0)) (some (.inr l1)) (some (.inr l2)) (some (.inl l3))
    refine r_ite (fun c275 => ?_) (fun c275 => ?_)
    · refine r_tabE (t := 1021) rfl c275 (by decide) ?_
      refine r_ck (fun h276 => ?_)
      refine r_aload rfl rfl (am_nz h276) ?_
      refine r_call3 rfl rfl h276 (fun y hy => AfX_off (dp := dp + 19) hy) (fun y277 => ?_)
      refine r_ck (fun h278 => ?_)
      refine r_aload rfl rfl (am_nz h278) ?_
      refine r_call3 rfl rfl h278 (fun y hy => AfM_off (dp := dp + 18) hy) (fun y279 => ?_)
      refine r_icmp rfl rfl (fun c280 => ?_) (fun c280 => ?_)
      · exact AfLaw_law_J1489 hr18 l0 l1 l2 l3 y279.2.1 y279.2.2.1 y279.2.2.2.1 y279.2.2.2.2
      · exact he18_1032 y279.2.1 y279.2.2.1 y279.2.2.2.1 y279.2.2.2.2 (some (.inr l0)) (some (.inr l1)) (some (.inr l2)) (some (.inl l3))
    refine r_ite (fun c281 => ?_) (fun c281 => ?_)
    · refine r_tabE (t := 1034) rfl c281 (by decide) ?_
      refine r_ck (fun h282 => ?_)
      refine r_aload rfl rfl (am_nz h282) ?_
      refine r_aload rfl rfl (am_nz h17) ?_
      refine r_iload rfl rfl ?_
      refine r_const (x := 1) rfl rfl ?_
      refine r_bin (z := l3 + 1) rfl rfl (by decide) ?_
      refine r_ck (fun h283 => ?_)
      refine r_iald rfl h283 ?_
      refine r_call3 rfl rfl h282 (fun y hy => AfX_best (dp := dp + 18) hy) (fun y284 => ?_)
      refine r_ck (fun h285 => ?_)
      refine r_aload rfl rfl (am_nz h285) ?_
      refine r_aload rfl rfl (am_nz h17) ?_
      refine r_iload rfl rfl ?_
      refine r_const (x := 1) rfl rfl ?_
      refine r_bin (z := l3 + 1) rfl rfl (by decide) ?_
      refine r_ck (fun h286 => ?_)
      refine r_iald rfl h286 ?_
      refine r_call3 rfl rfl h285 (fun y hy => AfM_best (dp := dp + 10) hy) (fun y287 => ?_)
      refine r_icmp rfl rfl (fun c288 => ?_) (fun c288 => ?_)
      · exact AfLaw_law_J1489 hr18 l0 l1 l2 l3 y287.2.1 y287.2.2.1 y287.2.2.2.1 y287.2.2.2.2
      · exact he18_1055 y287.2.1 y287.2.2.1 y287.2.2.2.1 y287.2.2.2.2 (some (.inr l0)) (some (.inr l1)) (some (.inr l2)) (some (.inl l3))
    refine r_ite (fun c289 => ?_) (fun c289 => ?_)
    · refine r_tabE (t := 1057) rfl c289 (by decide) ?_
      refine r_ck (fun h290 => ?_)
      refine r_aload rfl rfl (am_nz h290) ?_
      refine r_aload rfl rfl (am_nz h17) ?_
      refine r_iload rfl rfl ?_
      refine r_const (x := 1) rfl rfl ?_
      refine r_bin (z := l3 + 1) rfl rfl (by decide) ?_
      refine r_ck (fun h291 => ?_)
      refine r_iald rfl h291 ?_
      refine r_aload rfl rfl (am_nz h17) ?_
      refine r_iload rfl rfl ?_
      refine r_const (x := 2) rfl rfl ?_
      refine r_bin (z := l3 + 2) rfl rfl (by decide) ?_
      refine r_ck (fun h292 => ?_)
      refine r_iald rfl h292 ?_
      refine r_call1 rfl rfl h290 (fun y hy => AfX_end (dp := dp + 20) hy) (fun y293 => ?_)
      refine r_ck (fun h294 => ?_)
      refine r_aload rfl rfl (am_nz h294) ?_
      refine r_aload rfl rfl (am_nz h17) ?_
      refine r_iload rfl rfl ?_
      refine r_const (x := 1) rfl rfl ?_
      refine r_bin (z := l3 + 1) rfl rfl (by decide) ?_
      refine r_ck (fun h295 => ?_)
      refine r_iald rfl h295 ?_
      refine r_aload rfl rfl (am_nz h17) ?_
      refine r_iload rfl rfl ?_
      refine r_const (x := 2) rfl rfl ?_
      refine r_bin (z := l3 + 2) rfl rfl (by decide) ?_
      refine r_ck (fun h296 => ?_)
      refine r_iald rfl h296 ?_
      refine r_call1 rfl rfl h294 (fun y hy => AfM_end (dp := dp + 22) hy) (fun y297 => ?_)
      refine r_icmp rfl rfl (fun c298 => ?_) (fun c298 => ?_)
      · exact AfLaw_law_J1489 hr18 l0 l1 l2 l3 y297.2 P nx sl
      · exact he18_1088 y297.2 P nx sl (some (.inr l0)) (some (.inr l1)) (some (.inr l2)) (some (.inl l3))
    refine r_ite (fun c299 => ?_) (fun c299 => ?_)
    · refine r_tabE (t := 1090) rfl c299 (by decide) ?_
      refine r_ck (fun h300 => ?_)
      refine r_aload rfl rfl (am_nz h300) ?_
      refine r_aload rfl rfl (am_nz h17) ?_
      refine r_iload rfl rfl ?_
      refine r_const (x := 1) rfl rfl ?_
      refine r_bin (z := l3 + 1) rfl rfl (by decide) ?_
      refine r_ck (fun h301 => ?_)
      refine r_iald rfl h301 ?_
      refine r_aload rfl rfl (am_nz h17) ?_
      refine r_iload rfl rfl ?_
      refine r_const (x := 2) rfl rfl ?_
      refine r_bin (z := l3 + 2) rfl rfl (by decide) ?_
      refine r_ck (fun h302 => ?_)
      refine r_iald rfl h302 ?_
      refine r_call1 rfl rfl h300 (fun y hy => AfX_lay (dp := dp + 20) hy) (fun y303 => ?_)
      refine r_ck (fun h304 => ?_)
      refine r_aload rfl rfl (am_nz h304) ?_
      refine r_aload rfl rfl (am_nz h17) ?_
      refine r_iload rfl rfl ?_
      refine r_const (x := 1) rfl rfl ?_
      refine r_bin (z := l3 + 1) rfl rfl (by decide) ?_
      refine r_ck (fun h305 => ?_)
      refine r_iald rfl h305 ?_
      refine r_aload rfl rfl (am_nz h17) ?_
      refine r_iload rfl rfl ?_
      refine r_const (x := 2) rfl rfl ?_
      refine r_bin (z := l3 + 2) rfl rfl (by decide) ?_
      refine r_ck (fun h306 => ?_)
      refine r_iald rfl h306 ?_
      refine r_call1 rfl rfl h304 (fun y hy => AfM_lay (dp := dp + 22) hy) (fun y307 => ?_)
      refine r_icmp rfl rfl (fun c308 => ?_) (fun c308 => ?_)
      · exact AfLaw_law_J1489 hr18 l0 l1 l2 l3 y307.2 P nx sl
      · exact he18_1121 y307.2 P nx sl (some (.inr l0)) (some (.inr l1)) (some (.inr l2)) (some (.inl l3))
    refine r_ite (fun c309 => ?_) (fun c309 => ?_)
    · refine r_tabE (t := 1123) rfl c309 (by decide) ?_
      refine r_ck (fun h310 => ?_)
      refine r_aload rfl rfl (am_nz h310) ?_
      refine r_aload rfl rfl (am_nz h17) ?_
      refine r_iload rfl rfl ?_
      refine r_const (x := 1) rfl rfl ?_
      refine r_bin (z := l3 + 1) rfl rfl (by decide) ?_
      refine r_ck (fun h311 => ?_)
      refine r_iald rfl h311 ?_
      refine r_aload rfl rfl (am_nz h17) ?_
      refine r_iload rfl rfl ?_
      refine r_const (x := 2) rfl rfl ?_
      refine r_bin (z := l3 + 2) rfl rfl (by decide) ?_
      refine r_ck (fun h312 => ?_)
      refine r_iald rfl h312 ?_
      refine r_call3 rfl rfl h310 (fun y hy => AfX_change (dp := dp + 18) hy) (fun y313 => ?_)
      refine r_ck (fun h314 => ?_)
      refine r_aload rfl rfl (am_nz h314) ?_
      refine r_aload rfl rfl (am_nz h17) ?_
      refine r_iload rfl rfl ?_
      refine r_const (x := 1) rfl rfl ?_
      refine r_bin (z := l3 + 1) rfl rfl (by decide) ?_
      refine r_ck (fun h315 => ?_)
      refine r_iald rfl h315 ?_
      refine r_aload rfl rfl (am_nz h17) ?_
      refine r_iload rfl rfl ?_
      refine r_const (x := 2) rfl rfl ?_
      refine r_bin (z := l3 + 2) rfl rfl (by decide) ?_
      refine r_ck (fun h316 => ?_)
      refine r_iald rfl h316 ?_
      refine r_call3 rfl rfl h314 (fun y hy => AfM_change (dp := dp + 0) hy) (fun y317 => ?_)
      refine r_icmp rfl rfl (fun c318 => ?_) (fun c318 => ?_)
      · exact AfLaw_law_J1489 hr18 l0 l1 l2 l3 y317.2.1 y317.2.2.1 y317.2.2.2.1 y317.2.2.2.2
      · exact he18_1154 y317.2.1 y317.2.2.1 y317.2.2.2.1 y317.2.2.2.2 (some (.inr l0)) (some (.inr l1)) (some (.inr l2)) (some (.inl l3))
    refine r_ite (fun c319 => ?_) (fun c319 => ?_)
    · refine r_tabE (t := 1156) rfl c319 (by decide) ?_
      refine r_ck (fun h320 => ?_)
      refine r_aload rfl rfl (am_nz h320) ?_
      refine r_aload rfl rfl (am_nz h17) ?_
      refine r_iload rfl rfl ?_
      refine r_const (x := 1) rfl rfl ?_
      refine r_bin (z := l3 + 1) rfl rfl (by decide) ?_
      refine r_ck (fun h321 => ?_)
      refine r_iald rfl h321 ?_
      refine r_aload rfl rfl (am_nz h17) ?_
      refine r_iload rfl rfl ?_
      refine r_const (x := 2) rfl rfl ?_
      refine r_bin (z := l3 + 2) rfl rfl (by decide) ?_
      refine r_ck (fun h322 => ?_)
      refine r_iald rfl h322 ?_
      refine r_call3 rfl rfl h320 (fun y hy => AfX_drift (dp := dp + 18) hy) (fun y323 => ?_)
      refine r_ck (fun h324 => ?_)
      refine r_aload rfl rfl (am_nz h324) ?_
      refine r_aload rfl rfl (am_nz h17) ?_
      refine r_iload rfl rfl ?_
      refine r_const (x := 1) rfl rfl ?_
      refine r_bin (z := l3 + 1) rfl rfl (by decide) ?_
      refine r_ck (fun h325 => ?_)
      refine r_iald rfl h325 ?_
      refine r_aload rfl rfl (am_nz h17) ?_
      refine r_iload rfl rfl ?_
      refine r_const (x := 2) rfl rfl ?_
      refine r_bin (z := l3 + 2) rfl rfl (by decide) ?_
      refine r_ck (fun h326 => ?_)
      refine r_iald rfl h326 ?_
      refine r_call3 rfl rfl h324 (fun y hy => AfM_drift (dp := dp + 0) hy) (fun y327 => ?_)
      refine r_icmp rfl rfl (fun c328 => ?_) (fun c328 => ?_)
      · exact AfLaw_law_J1489 hr18 l0 l1 l2 l3 y327.2.1 y327.2.2.1 y327.2.2.2.1 y327.2.2.2.2
      · exact he18_1187 y327.2.1 y327.2.2.1 y327.2.2.2.1 y327.2.2.2.2 (some (.inr l0)) (some (.inr l1)) (some (.inr l2)) (some (.inl l3))
    refine r_ite (fun c329 => ?_) (fun c329 => ?_)
    · refine r_tabE (t := 1189) rfl c329 (by decide) ?_
      refine r_ck (fun h330 => ?_)
      refine r_aload rfl rfl (am_nz h330) ?_
      refine r_aload rfl rfl (am_nz h17) ?_
      refine r_iload rfl rfl ?_
      refine r_const (x := 1) rfl rfl ?_
      refine r_bin (z := l3 + 1) rfl rfl (by decide) ?_
      refine r_ck (fun h331 => ?_)
      refine r_iald rfl h331 ?_
      refine r_aload rfl rfl (am_nz h17) ?_
      refine r_iload rfl rfl ?_
      refine r_const (x := 2) rfl rfl ?_
      refine r_bin (z := l3 + 2) rfl rfl (by decide) ?_
      refine r_ck (fun h332 => ?_)
      refine r_iald rfl h332 ?_
      refine r_call3 rfl rfl h330 (fun y hy => AfX_judge (dp := dp + 19) hy) (fun y333 => ?_)
      refine r_ck (fun h334 => ?_)
      refine r_aload rfl rfl (am_nz h334) ?_
      refine r_aload rfl rfl (am_nz h17) ?_
      refine r_iload rfl rfl ?_
      refine r_const (x := 1) rfl rfl ?_
      refine r_bin (z := l3 + 1) rfl rfl (by decide) ?_
      refine r_ck (fun h335 => ?_)
      refine r_iald rfl h335 ?_
      refine r_aload rfl rfl (am_nz h17) ?_
      refine r_iload rfl rfl ?_
      refine r_const (x := 2) rfl rfl ?_
      refine r_bin (z := l3 + 2) rfl rfl (by decide) ?_
      refine r_ck (fun h336 => ?_)
      refine r_iald rfl h336 ?_
      refine r_call3 rfl rfl h334 (fun y hy => AfM_judge (dp := dp + 19) hy) (fun y337 => ?_)
      refine r_icmp rfl rfl (fun c338 => ?_) (fun c338 => ?_)
      · exact AfLaw_law_J1489 hr18 l0 l1 l2 l3 y337.2.1 y337.2.2.1 y337.2.2.2.1 y337.2.2.2.2
      · exact he18_1220 y337.2.1 y337.2.2.1 y337.2.2.2.1 y337.2.2.2.2 (some (.inr l0)) (some (.inr l1)) (some (.inr l2)) (some (.inl l3))
    refine r_ite (fun c339 => ?_) (fun c339 => ?_)
    · refine r_tabE (t := 1222) rfl c339 (by decide) ?_
      refine r_ck (fun h340 => ?_)
      refine r_aload rfl rfl (am_nz h340) ?_
      refine r_aload rfl rfl (am_nz h17) ?_
      refine r_iload rfl rfl ?_
      refine r_const (x := 1) rfl rfl ?_
      refine r_bin (z := l3 + 1) rfl rfl (by decide) ?_
      refine r_ck (fun h341 => ?_)
      refine r_iald rfl h341 ?_
      refine r_aload rfl rfl (am_nz h17) ?_
      refine r_iload rfl rfl ?_
      refine r_const (x := 2) rfl rfl ?_
      refine r_bin (z := l3 + 2) rfl rfl (by decide) ?_
      refine r_ck (fun h342 => ?_)
      refine r_iald rfl h342 ?_
      refine r_call3 rfl rfl h340 (fun y hy => AfX_beside (dp := dp + 19) hy) (fun y343 => ?_)
      refine r_ck (fun h344 => ?_)
      refine r_aload rfl rfl (am_nz h344) ?_
      refine r_aload rfl rfl (am_nz h17) ?_
      refine r_iload rfl rfl ?_
      refine r_const (x := 1) rfl rfl ?_
      refine r_bin (z := l3 + 1) rfl rfl (by decide) ?_
      refine r_ck (fun h345 => ?_)
      refine r_iald rfl h345 ?_
      refine r_aload rfl rfl (am_nz h17) ?_
      refine r_iload rfl rfl ?_
      refine r_const (x := 2) rfl rfl ?_
      refine r_bin (z := l3 + 2) rfl rfl (by decide) ?_
      refine r_ck (fun h346 => ?_)
      refine r_iald rfl h346 ?_
      refine r_call3 rfl rfl h344 (fun y hy => AfM_beside (dp := dp + 19) hy) (fun y347 => ?_)
      refine r_icmp rfl rfl (fun c348 => ?_) (fun c348 => ?_)
      · exact AfLaw_law_J1489 hr18 l0 l1 l2 l3 y347.2.1 y347.2.2.1 y347.2.2.2.1 y347.2.2.2.2
      · exact he18_1253 y347.2.1 y347.2.2.1 y347.2.2.2.1 y347.2.2.2.2 (some (.inr l0)) (some (.inr l1)) (some (.inr l2)) (some (.inl l3))
    refine r_ite (fun c349 => ?_) (fun c349 => ?_)
    · refine r_tabE (t := 1255) rfl c349 (by decide) ?_
      refine r_ck (fun h350 => ?_)
      refine r_aload rfl rfl (am_nz h350) ?_
      refine r_aload rfl rfl (am_nz h17) ?_
      refine r_iload rfl rfl ?_
      refine r_const (x := 1) rfl rfl ?_
      refine r_bin (z := l3 + 1) rfl rfl (by decide) ?_
      refine r_ck (fun h351 => ?_)
      refine r_iald rfl h351 ?_
      refine r_aload rfl rfl (am_nz h17) ?_
      refine r_iload rfl rfl ?_
      refine r_const (x := 2) rfl rfl ?_
      refine r_bin (z := l3 + 2) rfl rfl (by decide) ?_
      refine r_ck (fun h352 => ?_)
      refine r_iald rfl h352 ?_
      refine r_aload rfl rfl (am_nz h17) ?_
      refine r_iload rfl rfl ?_
      refine r_const (x := 3) rfl rfl ?_
      refine r_bin (z := l3 + 3) rfl rfl (by decide) ?_
      refine r_ck (fun h353 => ?_)
      refine r_iald rfl h353 ?_
      refine r_call1 rfl rfl h350 (fun y hy => AfX_sheet (dp := dp + 22) hy) (fun y354 => ?_)
      refine r_ck (fun h355 => ?_)
      refine r_aload rfl rfl (am_nz h355) ?_
      refine r_aload rfl rfl (am_nz h17) ?_
      refine r_iload rfl rfl ?_
      refine r_const (x := 1) rfl rfl ?_
      refine r_bin (z := l3 + 1) rfl rfl (by decide) ?_
      refine r_ck (fun h356 => ?_)
      refine r_iald rfl h356 ?_
      refine r_aload rfl rfl (am_nz h17) ?_
      refine r_iload rfl rfl ?_
      refine r_const (x := 2) rfl rfl ?_
      refine r_bin (z := l3 + 2) rfl rfl (by decide) ?_
      refine r_ck (fun h357 => ?_)
      refine r_iald rfl h357 ?_
      refine r_aload rfl rfl (am_nz h17) ?_
      refine r_iload rfl rfl ?_
      refine r_const (x := 3) rfl rfl ?_
      refine r_bin (z := l3 + 3) rfl rfl (by decide) ?_
      refine r_ck (fun h358 => ?_)
      refine r_iald rfl h358 ?_
      refine r_call1 rfl rfl h355 (fun y hy => AfM_sheet (dp := dp + 22) hy) (fun y359 => ?_)
      refine r_icmp rfl rfl (fun c360 => ?_) (fun c360 => ?_)
      · exact AfLaw_law_J1489 hr18 l0 l1 l2 l3 y359.2 P nx sl
      · exact he18_1296 y359.2 P nx sl (some (.inr l0)) (some (.inr l1)) (some (.inr l2)) (some (.inl l3))
    refine r_ite (fun c361 => ?_) (fun c361 => ?_)
    · refine r_tabE (t := 1298) rfl c361 (by decide) ?_
      refine r_ck (fun h362 => ?_)
      refine r_aload rfl rfl (am_nz h362) ?_
      refine r_aload rfl rfl (am_nz h17) ?_
      refine r_iload rfl rfl ?_
      refine r_const (x := 1) rfl rfl ?_
      refine r_bin (z := l3 + 1) rfl rfl (by decide) ?_
      refine r_ck (fun h363 => ?_)
      refine r_iald rfl h363 ?_
      refine r_aload rfl rfl (am_nz h17) ?_
      refine r_iload rfl rfl ?_
      refine r_const (x := 2) rfl rfl ?_
      refine r_bin (z := l3 + 2) rfl rfl (by decide) ?_
      refine r_ck (fun h364 => ?_)
      refine r_iald rfl h364 ?_
      refine r_aload rfl rfl (am_nz h17) ?_
      refine r_iload rfl rfl ?_
      refine r_const (x := 3) rfl rfl ?_
      refine r_bin (z := l3 + 3) rfl rfl (by decide) ?_
      refine r_ck (fun h365 => ?_)
      refine r_iald rfl h365 ?_
      refine r_call1 rfl rfl h362 (fun y hy => AfX_write (dp := dp + 23) hy) (fun y366 => ?_)
      refine r_ck (fun h367 => ?_)
      refine r_aload rfl rfl (am_nz h367) ?_
      refine r_aload rfl rfl (am_nz h17) ?_
      refine r_iload rfl rfl ?_
      refine r_const (x := 1) rfl rfl ?_
      refine r_bin (z := l3 + 1) rfl rfl (by decide) ?_
      refine r_ck (fun h368 => ?_)
      refine r_iald rfl h368 ?_
      refine r_aload rfl rfl (am_nz h17) ?_
      refine r_iload rfl rfl ?_
      refine r_const (x := 2) rfl rfl ?_
      refine r_bin (z := l3 + 2) rfl rfl (by decide) ?_
      refine r_ck (fun h369 => ?_)
      refine r_iald rfl h369 ?_
      refine r_aload rfl rfl (am_nz h17) ?_
      refine r_iload rfl rfl ?_
      refine r_const (x := 3) rfl rfl ?_
      refine r_bin (z := l3 + 3) rfl rfl (by decide) ?_
      refine r_ck (fun h370 => ?_)
      refine r_iald rfl h370 ?_
      refine r_call1 rfl rfl h367 (fun y hy => AfM_write (dp := dp + 22) hy) (fun y371 => ?_)
      refine r_icmp rfl rfl (fun c372 => ?_) (fun c372 => ?_)
      · exact AfLaw_law_J1489 hr18 l0 l1 l2 l3 y371.2 P nx sl
      · exact he18_1339 y371.2 P nx sl (some (.inr l0)) (some (.inr l1)) (some (.inr l2)) (some (.inl l3))
    refine r_ite (fun c373 => ?_) (fun c373 => ?_)
    · refine r_tabE (t := 1341) rfl c373 (by decide) ?_
      refine r_ck (fun h374 => ?_)
      refine r_aload rfl rfl (am_nz h374) ?_
      refine r_aload rfl rfl (am_nz h17) ?_
      refine r_iload rfl rfl ?_
      refine r_const (x := 1) rfl rfl ?_
      refine r_bin (z := l3 + 1) rfl rfl (by decide) ?_
      refine r_ck (fun h375 => ?_)
      refine r_iald rfl h375 ?_
      refine r_aload rfl rfl (am_nz h17) ?_
      refine r_iload rfl rfl ?_
      refine r_const (x := 2) rfl rfl ?_
      refine r_bin (z := l3 + 2) rfl rfl (by decide) ?_
      refine r_ck (fun h376 => ?_)
      refine r_iald rfl h376 ?_
      refine r_aload rfl rfl (am_nz h17) ?_
      refine r_iload rfl rfl ?_
      refine r_const (x := 3) rfl rfl ?_
      refine r_bin (z := l3 + 3) rfl rfl (by decide) ?_
      refine r_ck (fun h377 => ?_)
      refine r_iald rfl h377 ?_
      refine r_aload rfl rfl (am_nz h17) ?_
      refine r_iload rfl rfl ?_
      refine r_const (x := 4) rfl rfl ?_
      refine r_bin (z := l3 + 4) rfl rfl (by decide) ?_
      refine r_ck (fun h378 => ?_)
      refine r_iald rfl h378 ?_
      refine r_aload rfl rfl (am_nz h17) ?_
      refine r_iload rfl rfl ?_
      refine r_const (x := 5) rfl rfl ?_
      refine r_bin (z := l3 + 5) rfl rfl (by decide) ?_
      refine r_ck (fun h379 => ?_)
      refine r_iald rfl h379 ?_
      refine r_call1 rfl rfl h374 (fun y hy => AfX_copy (dp := dp + 23) hy) (fun y380 => ?_)
      refine r_ck (fun h381 => ?_)
      refine r_aload rfl rfl (am_nz h381) ?_
      refine r_aload rfl rfl (am_nz h17) ?_
      refine r_iload rfl rfl ?_
      refine r_const (x := 1) rfl rfl ?_
      refine r_bin (z := l3 + 1) rfl rfl (by decide) ?_
      refine r_ck (fun h382 => ?_)
      refine r_iald rfl h382 ?_
      refine r_aload rfl rfl (am_nz h17) ?_
      refine r_iload rfl rfl ?_
      refine r_const (x := 2) rfl rfl ?_
      refine r_bin (z := l3 + 2) rfl rfl (by decide) ?_
      refine r_ck (fun h383 => ?_)
      refine r_iald rfl h383 ?_
      refine r_aload rfl rfl (am_nz h17) ?_
      refine r_iload rfl rfl ?_
      refine r_const (x := 3) rfl rfl ?_
      refine r_bin (z := l3 + 3) rfl rfl (by decide) ?_
      refine r_ck (fun h384 => ?_)
      refine r_iald rfl h384 ?_
      refine r_aload rfl rfl (am_nz h17) ?_
      refine r_iload rfl rfl ?_
      refine r_const (x := 4) rfl rfl ?_
      refine r_bin (z := l3 + 4) rfl rfl (by decide) ?_
      refine r_ck (fun h385 => ?_)
      refine r_iald rfl h385 ?_
      refine r_aload rfl rfl (am_nz h17) ?_
      refine r_iload rfl rfl ?_
      refine r_const (x := 5) rfl rfl ?_
      refine r_bin (z := l3 + 5) rfl rfl (by decide) ?_
      refine r_ck (fun h386 => ?_)
      refine r_iald rfl h386 ?_
      refine r_call1 rfl rfl h381 (fun y hy => AfM_copy (dp := dp + 22) hy) (fun y387 => ?_)
      refine r_icmp rfl rfl (fun c388 => ?_) (fun c388 => ?_)
      · exact AfLaw_law_J1489 hr18 l0 l1 l2 l3 y387.2 P nx sl
      · exact he18_1402 y387.2 P nx sl (some (.inr l0)) (some (.inr l1)) (some (.inr l2)) (some (.inl l3))
    refine r_ite (fun c389 => ?_) (fun c389 => ?_)
    · refine r_tabE (t := 1404) rfl c389 (by decide) ?_
      refine r_ck (fun h390 => ?_)
      refine r_aload rfl rfl (am_nz h390) ?_
      refine r_call3 rfl rfl h390 (fun y hy => AfX_image (dp := dp + 22) hy) (fun y391 => ?_)
      refine r_ck (fun h392 => ?_)
      refine r_aload rfl rfl (am_nz h392) ?_
      refine r_call1 rfl rfl h392 (fun y hy => AfM_image (dp := dp + 22) hy) (fun y393 => ?_)
      refine r_icmp rfl rfl (fun c394 => ?_) (fun c394 => ?_)
      · exact AfLaw_law_J1489 hr18 l0 l1 l2 l3 y393.2 y391.2.2.1 y391.2.2.2.1 y391.2.2.2.2
      · exact he18_1415 y393.2 y391.2.2.1 y391.2.2.2.1 y391.2.2.2.2 (some (.inr l0)) (some (.inr l1)) (some (.inr l2)) (some (.inl l3))
    refine r_ite (fun c395 => ?_) (fun c395 => ?_)
    · refine r_tabE (t := 1417) rfl c395 (by decide) ?_
      refine r_ck (fun h396 => ?_)
      refine r_aload rfl rfl (am_nz h396) ?_
      refine r_call3 rfl rfl h396 (fun y hy => AfX_undo (dp := dp + 22) hy) (fun y397 => ?_)
      refine r_ck (fun h398 => ?_)
      refine r_aload rfl rfl (am_nz h398) ?_
      refine r_call1 rfl rfl h398 (fun y hy => AfM_undo (dp := dp + 22) hy) (fun y399 => ?_)
      refine r_icmp rfl rfl (fun c400 => ?_) (fun c400 => ?_)
      · exact AfLaw_law_J1489 hr18 l0 l1 l2 l3 y399.2 y397.2.2.1 y397.2.2.2.1 y397.2.2.2.2
      · exact he18_1428 y399.2 y397.2.2.1 y397.2.2.2.1 y397.2.2.2.2 (some (.inr l0)) (some (.inr l1)) (some (.inr l2)) (some (.inl l3))
    refine r_ite (fun c401 => ?_) (fun c401 => ?_)
    · refine r_tabE (t := 1430) rfl c401 (by decide) ?_
      refine r_ck (fun h402 => ?_)
      refine r_aload rfl rfl (am_nz h402) ?_
      refine r_call1 rfl rfl h402 (fun y hy => AfX_tear (dp := dp + 24) hy) (fun y403 => ?_)
      refine r_ck (fun h404 => ?_)
      refine r_aload rfl rfl (am_nz h404) ?_
      refine r_call1 rfl rfl h404 (fun y hy => AfM_tear (dp := dp + 24) hy) (fun y405 => ?_)
      refine r_icmp rfl rfl (fun c406 => ?_) (fun c406 => ?_)
      · exact AfLaw_law_J1489 hr18 l0 l1 l2 l3 y405.2 P nx sl
      · exact he18_1441 y405.2 P nx sl (some (.inr l0)) (some (.inr l1)) (some (.inr l2)) (some (.inl l3))
    refine r_ite (fun c407 => ?_) (fun c407 => ?_)
    · refine r_tabE (t := 1443) rfl c407 (by decide) ?_
      refine r_ck (fun h408 => ?_)
      refine r_aload rfl rfl (am_nz h408) ?_
      refine r_aload rfl rfl (am_nz h17) ?_
      refine r_iload rfl rfl ?_
      refine r_const (x := 1) rfl rfl ?_
      refine r_bin (z := l3 + 1) rfl rfl (by decide) ?_
      refine r_ck (fun h409 => ?_)
      refine r_iald rfl h409 ?_
      refine r_call1 rfl rfl h408 (fun y hy => AfX_count (dp := dp + 23) hy) (fun y410 => ?_)
      refine r_ck (fun h411 => ?_)
      refine r_aload rfl rfl (am_nz h411) ?_
      refine r_aload rfl rfl (am_nz h17) ?_
      refine r_iload rfl rfl ?_
      refine r_const (x := 1) rfl rfl ?_
      refine r_bin (z := l3 + 1) rfl rfl (by decide) ?_
      refine r_ck (fun h412 => ?_)
      refine r_iald rfl h412 ?_
      refine r_call1 rfl rfl h411 (fun y hy => AfM_count (dp := dp + 23) hy) (fun y413 => ?_)
      refine r_icmp rfl rfl (fun c414 => ?_) (fun c414 => ?_)
      · exact AfLaw_law_J1489 hr18 l0 l1 l2 l3 y413.2 P nx sl
      · exact he18_1464 y413.2 P nx sl (some (.inr l0)) (some (.inr l1)) (some (.inr l2)) (some (.inl l3))
    refine r_ite (fun c415 => ?_) (fun c415 => ?_)
    · refine r_tabE (t := 1466) rfl c415 (by decide) ?_
      refine r_ck (fun h416 => ?_)
      refine r_aload rfl rfl (am_nz h416) ?_
      refine r_aload rfl rfl (am_nz h17) ?_
      refine r_iload rfl rfl ?_
      refine r_const (x := 1) rfl rfl ?_
      refine r_bin (z := l3 + 1) rfl rfl (by decide) ?_
      refine r_ck (fun h417 => ?_)
      refine r_iald rfl h417 ?_
      refine r_call1 rfl rfl h416 (fun y hy => AfX_status (dp := dp + 23) hy) (fun y418 => ?_)
      refine r_ck (fun h419 => ?_)
      refine r_aload rfl rfl (am_nz h419) ?_
      refine r_aload rfl rfl (am_nz h17) ?_
      refine r_iload rfl rfl ?_
      refine r_const (x := 1) rfl rfl ?_
      refine r_bin (z := l3 + 1) rfl rfl (by decide) ?_
      refine r_ck (fun h420 => ?_)
      refine r_iald rfl h420 ?_
      refine r_call1 rfl rfl h419 (fun y hy => AfM_status (dp := dp + 23) hy) (fun y421 => ?_)
      refine r_icmp rfl rfl (fun c422 => ?_) (fun c422 => ?_)
      · exact AfLaw_law_J1489 hr18 l0 l1 l2 l3 y421.2 P nx sl
      · exact he18_1487 y421.2 P nx sl (some (.inr l0)) (some (.inr l1)) (some (.inr l2)) (some (.inl l3))
    refine r_tabD rfl ⟨c22, c31, c43, c53, c63, c73, c85, c95, c105, c113, c119, c135, c145, c155, c167, c175, c183, c191, c199, c207, c217, c225, c233, c241, c249, c261, c267, c275, c281, c289, c299, c309, c319, c329, c339, c349, c361, c373, c389, c395, c401, c407, c415, trivial⟩ ?_
    exact AfLaw_law_J1489 hr18 l0 l1 l2 l3 I P nx sl
noncomputable def fLaw_law_L18 (e18_241 : am_M → am_Q → Nat → Nat → Option (Int32 × am_S)) (e18_284 : am_M → am_Q → Nat → Nat → Option (Int32 × am_S)) (e18_317 : am_M → am_Q → Nat → Nat → Option (Int32 × am_S)) (e18_350 : am_M → am_Q → Nat → Nat → Option (Int32 × am_S)) (e18_383 : am_M → am_Q → Nat → Nat → Option (Int32 × am_S)) (e18_426 : am_M → am_Q → Nat → Nat → Option (Int32 × am_S)) (e18_459 : am_M → am_Q → Nat → Nat → Option (Int32 × am_S)) (e18_492 : am_M → am_Q → Nat → Nat → Option (Int32 × am_S)) (e18_515 : am_M → am_Q → Nat → Nat → Option (Int32 × am_S)) (e18_528 : am_M → am_Q → Nat → Nat → Option (Int32 × am_S)) (e18_591 : am_M → am_Q → Nat → Nat → Option (Int32 × am_S)) (e18_624 : am_M → am_Q → Nat → Nat → Option (Int32 × am_S)) (e18_657 : am_M → am_Q → Nat → Nat → Option (Int32 × am_S)) (e18_700 : am_M → am_Q → Nat → Nat → Option (Int32 × am_S)) (e18_723 : am_M → am_Q → Nat → Nat → Option (Int32 × am_S)) (e18_746 : am_M → am_Q → Nat → Nat → Option (Int32 × am_S)) (e18_769 : am_M → am_Q → Nat → Nat → Option (Int32 × am_S)) (e18_792 : am_M → am_Q → Nat → Nat → Option (Int32 × am_S)) (e18_815 : am_M → am_Q → Nat → Nat → Option (Int32 × am_S)) (e18_848 : am_M → am_Q → Nat → Nat → Option (Int32 × am_S)) (e18_871 : am_M → am_Q → Nat → Nat → Option (Int32 × am_S)) (e18_894 : am_M → am_Q → Nat → Nat → Option (Int32 × am_S)) (e18_917 : am_M → am_Q → Nat → Nat → Option (Int32 × am_S)) (e18_940 : am_M → am_Q → Nat → Nat → Option (Int32 × am_S)) (e18_983 : am_M → am_Q → Nat → Nat → Option (Int32 × am_S)) (e18_996 : am_M → am_Q → Nat → Nat → Option (Int32 × am_S)) (e18_1019 : am_M → am_Q → Nat → Nat → Option (Int32 × am_S)) (e18_1032 : am_M → am_Q → Nat → Nat → Option (Int32 × am_S)) (e18_1055 : am_M → am_Q → Nat → Nat → Option (Int32 × am_S)) (e18_1088 : am_M → am_Q → Nat → Nat → Option (Int32 × am_S)) (e18_1121 : am_M → am_Q → Nat → Nat → Option (Int32 × am_S)) (e18_1154 : am_M → am_Q → Nat → Nat → Option (Int32 × am_S)) (e18_1187 : am_M → am_Q → Nat → Nat → Option (Int32 × am_S)) (e18_1220 : am_M → am_Q → Nat → Nat → Option (Int32 × am_S)) (e18_1253 : am_M → am_Q → Nat → Nat → Option (Int32 × am_S)) (e18_1296 : am_M → am_Q → Nat → Nat → Option (Int32 × am_S)) (e18_1339 : am_M → am_Q → Nat → Nat → Option (Int32 × am_S)) (e18_1402 : am_M → am_Q → Nat → Nat → Option (Int32 × am_S)) (e18_1415 : am_M → am_Q → Nat → Nat → Option (Int32 × am_S)) (e18_1428 : am_M → am_Q → Nat → Nat → Option (Int32 × am_S)) (e18_1441 : am_M → am_Q → Nat → Nat → Option (Int32 × am_S)) (e18_1464 : am_M → am_Q → Nat → Nat → Option (Int32 × am_S)) (e18_1487 : am_M → am_Q → Nat → Nat → Option (Int32 × am_S)) (e18_1495 : am_M → am_Q → Nat → Nat → Option (Int32 × am_S)) : Nat → Nat → Nat → Nat → Int32 → am_M → am_Q → Nat → Nat → Option (Int32 × am_S)
  | 0, _, _, _, _, _, _, _, _ => none
  | n + 1, l0, l1, l2, l3, I, P, nx, sl => fLaw_law_B18 e18_241 e18_284 e18_317 e18_350 e18_383 e18_426 e18_459 e18_492 e18_515 e18_528 e18_591 e18_624 e18_657 e18_700 e18_723 e18_746 e18_769 e18_792 e18_815 e18_848 e18_871 e18_894 e18_917 e18_940 e18_983 e18_996 e18_1019 e18_1032 e18_1055 e18_1088 e18_1121 e18_1154 e18_1187 e18_1220 e18_1253 e18_1296 e18_1339 e18_1402 e18_1415 e18_1428 e18_1441 e18_1464 e18_1487 e18_1495 (fLaw_law_L18 e18_241 e18_284 e18_317 e18_350 e18_383 e18_426 e18_459 e18_492 e18_515 e18_528 e18_591 e18_624 e18_657 e18_700 e18_723 e18_746 e18_769 e18_792 e18_815 e18_848 e18_871 e18_894 e18_917 e18_940 e18_983 e18_996 e18_1019 e18_1032 e18_1055 e18_1088 e18_1121 e18_1154 e18_1187 e18_1220 e18_1253 e18_1296 e18_1339 e18_1402 e18_1415 e18_1428 e18_1441 e18_1464 e18_1487 e18_1495 n) l0 l1 l2 l3 I P nx sl
theorem AfLaw_law_L18 {dp : Nat}  {e18_241 : am_M → am_Q → Nat → Nat → Option (Int32 × am_S)} {e18_284 : am_M → am_Q → Nat → Nat → Option (Int32 × am_S)} {e18_317 : am_M → am_Q → Nat → Nat → Option (Int32 × am_S)} {e18_350 : am_M → am_Q → Nat → Nat → Option (Int32 × am_S)} {e18_383 : am_M → am_Q → Nat → Nat → Option (Int32 × am_S)} {e18_426 : am_M → am_Q → Nat → Nat → Option (Int32 × am_S)} {e18_459 : am_M → am_Q → Nat → Nat → Option (Int32 × am_S)} {e18_492 : am_M → am_Q → Nat → Nat → Option (Int32 × am_S)} {e18_515 : am_M → am_Q → Nat → Nat → Option (Int32 × am_S)} {e18_528 : am_M → am_Q → Nat → Nat → Option (Int32 × am_S)} {e18_591 : am_M → am_Q → Nat → Nat → Option (Int32 × am_S)} {e18_624 : am_M → am_Q → Nat → Nat → Option (Int32 × am_S)} {e18_657 : am_M → am_Q → Nat → Nat → Option (Int32 × am_S)} {e18_700 : am_M → am_Q → Nat → Nat → Option (Int32 × am_S)} {e18_723 : am_M → am_Q → Nat → Nat → Option (Int32 × am_S)} {e18_746 : am_M → am_Q → Nat → Nat → Option (Int32 × am_S)} {e18_769 : am_M → am_Q → Nat → Nat → Option (Int32 × am_S)} {e18_792 : am_M → am_Q → Nat → Nat → Option (Int32 × am_S)} {e18_815 : am_M → am_Q → Nat → Nat → Option (Int32 × am_S)} {e18_848 : am_M → am_Q → Nat → Nat → Option (Int32 × am_S)} {e18_871 : am_M → am_Q → Nat → Nat → Option (Int32 × am_S)} {e18_894 : am_M → am_Q → Nat → Nat → Option (Int32 × am_S)} {e18_917 : am_M → am_Q → Nat → Nat → Option (Int32 × am_S)} {e18_940 : am_M → am_Q → Nat → Nat → Option (Int32 × am_S)} {e18_983 : am_M → am_Q → Nat → Nat → Option (Int32 × am_S)} {e18_996 : am_M → am_Q → Nat → Nat → Option (Int32 × am_S)} {e18_1019 : am_M → am_Q → Nat → Nat → Option (Int32 × am_S)} {e18_1032 : am_M → am_Q → Nat → Nat → Option (Int32 × am_S)} {e18_1055 : am_M → am_Q → Nat → Nat → Option (Int32 × am_S)} {e18_1088 : am_M → am_Q → Nat → Nat → Option (Int32 × am_S)} {e18_1121 : am_M → am_Q → Nat → Nat → Option (Int32 × am_S)} {e18_1154 : am_M → am_Q → Nat → Nat → Option (Int32 × am_S)} {e18_1187 : am_M → am_Q → Nat → Nat → Option (Int32 × am_S)} {e18_1220 : am_M → am_Q → Nat → Nat → Option (Int32 × am_S)} {e18_1253 : am_M → am_Q → Nat → Nat → Option (Int32 × am_S)} {e18_1296 : am_M → am_Q → Nat → Nat → Option (Int32 × am_S)} {e18_1339 : am_M → am_Q → Nat → Nat → Option (Int32 × am_S)} {e18_1402 : am_M → am_Q → Nat → Nat → Option (Int32 × am_S)} {e18_1415 : am_M → am_Q → Nat → Nat → Option (Int32 × am_S)} {e18_1428 : am_M → am_Q → Nat → Nat → Option (Int32 × am_S)} {e18_1441 : am_M → am_Q → Nat → Nat → Option (Int32 × am_S)} {e18_1464 : am_M → am_Q → Nat → Nat → Option (Int32 × am_S)} {e18_1487 : am_M → am_Q → Nat → Nat → Option (Int32 × am_S)} {e18_1495 : am_M → am_Q → Nat → Nat → Option (Int32 × am_S)} (he18_241 : ∀ (I : am_M) (P : am_Q) (nx : Nat) (sl : Nat) (o0 : Option am_V) (o1 : Option am_V) (o2 : Option am_V) (o3 : Option am_V), sm (dp + 25) am_d0 241 [o0, o1, o2, o3] [] (I, P, nx, sl) sm_g3 (e18_241 I P nx sl)) (he18_284 : ∀ (I : am_M) (P : am_Q) (nx : Nat) (sl : Nat) (o0 : Option am_V) (o1 : Option am_V) (o2 : Option am_V) (o3 : Option am_V), sm (dp + 25) am_d0 284 [o0, o1, o2, o3] [] (I, P, nx, sl) sm_g3 (e18_284 I P nx sl)) (he18_317 : ∀ (I : am_M) (P : am_Q) (nx : Nat) (sl : Nat) (o0 : Option am_V) (o1 : Option am_V) (o2 : Option am_V) (o3 : Option am_V), sm (dp + 25) am_d0 317 [o0, o1, o2, o3] [] (I, P, nx, sl) sm_g3 (e18_317 I P nx sl)) (he18_350 : ∀ (I : am_M) (P : am_Q) (nx : Nat) (sl : Nat) (o0 : Option am_V) (o1 : Option am_V) (o2 : Option am_V) (o3 : Option am_V), sm (dp + 25) am_d0 350 [o0, o1, o2, o3] [] (I, P, nx, sl) sm_g3 (e18_350 I P nx sl)) (he18_383 : ∀ (I : am_M) (P : am_Q) (nx : Nat) (sl : Nat) (o0 : Option am_V) (o1 : Option am_V) (o2 : Option am_V) (o3 : Option am_V), sm (dp + 25) am_d0 383 [o0, o1, o2, o3] [] (I, P, nx, sl) sm_g3 (e18_383 I P nx sl)) (he18_426 : ∀ (I : am_M) (P : am_Q) (nx : Nat) (sl : Nat) (o0 : Option am_V) (o1 : Option am_V) (o2 : Option am_V) (o3 : Option am_V), sm (dp + 25) am_d0 426 [o0, o1, o2, o3] [] (I, P, nx, sl) sm_g3 (e18_426 I P nx sl)) (he18_459 : ∀ (I : am_M) (P : am_Q) (nx : Nat) (sl : Nat) (o0 : Option am_V) (o1 : Option am_V) (o2 : Option am_V) (o3 : Option am_V), sm (dp + 25) am_d0 459 [o0, o1, o2, o3] [] (I, P, nx, sl) sm_g3 (e18_459 I P nx sl)) (he18_492 : ∀ (I : am_M) (P : am_Q) (nx : Nat) (sl : Nat) (o0 : Option am_V) (o1 : Option am_V) (o2 : Option am_V) (o3 : Option am_V), sm (dp + 25) am_d0 492 [o0, o1, o2, o3] [] (I, P, nx, sl) sm_g3 (e18_492 I P nx sl)) (he18_515 : ∀ (I : am_M) (P : am_Q) (nx : Nat) (sl : Nat) (o0 : Option am_V) (o1 : Option am_V) (o2 : Option am_V) (o3 : Option am_V), sm (dp + 25) am_d0 515 [o0, o1, o2, o3] [] (I, P, nx, sl) sm_g3 (e18_515 I P nx sl)) (he18_528 : ∀ (I : am_M) (P : am_Q) (nx : Nat) (sl : Nat) (o0 : Option am_V) (o1 : Option am_V) (o2 : Option am_V) (o3 : Option am_V), sm (dp + 25) am_d0 528 [o0, o1, o2, o3] [] (I, P, nx, sl) sm_g3 (e18_528 I P nx sl)) (he18_591 : ∀ (I : am_M) (P : am_Q) (nx : Nat) (sl : Nat) (o0 : Option am_V) (o1 : Option am_V) (o2 : Option am_V) (o3 : Option am_V), sm (dp + 25) am_d0 591 [o0, o1, o2, o3] [] (I, P, nx, sl) sm_g3 (e18_591 I P nx sl)) (he18_624 : ∀ (I : am_M) (P : am_Q) (nx : Nat) (sl : Nat) (o0 : Option am_V) (o1 : Option am_V) (o2 : Option am_V) (o3 : Option am_V), sm (dp + 25) am_d0 624 [o0, o1, o2, o3] [] (I, P, nx, sl) sm_g3 (e18_624 I P nx sl)) (he18_657 : ∀ (I : am_M) (P : am_Q) (nx : Nat) (sl : Nat) (o0 : Option am_V) (o1 : Option am_V) (o2 : Option am_V) (o3 : Option am_V), sm (dp + 25) am_d0 657 [o0, o1, o2, o3] [] (I, P, nx, sl) sm_g3 (e18_657 I P nx sl)) (he18_700 : ∀ (I : am_M) (P : am_Q) (nx : Nat) (sl : Nat) (o0 : Option am_V) (o1 : Option am_V) (o2 : Option am_V) (o3 : Option am_V), sm (dp + 25) am_d0 700 [o0, o1, o2, o3] [] (I, P, nx, sl) sm_g3 (e18_700 I P nx sl)) (he18_723 : ∀ (I : am_M) (P : am_Q) (nx : Nat) (sl : Nat) (o0 : Option am_V) (o1 : Option am_V) (o2 : Option am_V) (o3 : Option am_V), sm (dp + 25) am_d0 723 [o0, o1, o2, o3] [] (I, P, nx, sl) sm_g3 (e18_723 I P nx sl)) (he18_746 : ∀ (I : am_M) (P : am_Q) (nx : Nat) (sl : Nat) (o0 : Option am_V) (o1 : Option am_V) (o2 : Option am_V) (o3 : Option am_V), sm (dp + 25) am_d0 746 [o0, o1, o2, o3] [] (I, P, nx, sl) sm_g3 (e18_746 I P nx sl)) (he18_769 : ∀ (I : am_M) (P : am_Q) (nx : Nat) (sl : Nat) (o0 : Option am_V) (o1 : Option am_V) (o2 : Option am_V) (o3 : Option am_V), sm (dp + 25) am_d0 769 [o0, o1, o2, o3] [] (I, P, nx, sl) sm_g3 (e18_769 I P nx sl)) (he18_792 : ∀ (I : am_M) (P : am_Q) (nx : Nat) (sl : Nat) (o0 : Option am_V) (o1 : Option am_V) (o2 : Option am_V) (o3 : Option am_V), sm (dp + 25) am_d0 792 [o0, o1, o2, o3] [] (I, P, nx, sl) sm_g3 (e18_792 I P nx sl)) (he18_815 : ∀ (I : am_M) (P : am_Q) (nx : Nat) (sl : Nat) (o0 : Option am_V) (o1 : Option am_V) (o2 : Option am_V) (o3 : Option am_V), sm (dp + 25) am_d0 815 [o0, o1, o2, o3] [] (I, P, nx, sl) sm_g3 (e18_815 I P nx sl)) (he18_848 : ∀ (I : am_M) (P : am_Q) (nx : Nat) (sl : Nat) (o0 : Option am_V) (o1 : Option am_V) (o2 : Option am_V) (o3 : Option am_V), sm (dp + 25) am_d0 848 [o0, o1, o2, o3] [] (I, P, nx, sl) sm_g3 (e18_848 I P nx sl)) (he18_871 : ∀ (I : am_M) (P : am_Q) (nx : Nat) (sl : Nat) (o0 : Option am_V) (o1 : Option am_V) (o2 : Option am_V) (o3 : Option am_V), sm (dp + 25) am_d0 871 [o0, o1, o2, o3] [] (I, P, nx, sl) sm_g3 (e18_871 I P nx sl)) (he18_894 : ∀ (I : am_M) (P : am_Q) (nx : Nat) (sl : Nat) (o0 : Option am_V) (o1 : Option am_V) (o2 : Option am_V) (o3 : Option am_V), sm (dp + 25) am_d0 894 [o0, o1, o2, o3] [] (I, P, nx, sl) sm_g3 (e18_894 I P nx sl)) (he18_917 : ∀ (I : am_M) (P : am_Q) (nx : Nat) (sl : Nat) (o0 : Option am_V) (o1 : Option am_V) (o2 : Option am_V) (o3 : Option am_V), sm (dp + 25) am_d0 917 [o0, o1, o2, o3] [] (I, P, nx, sl) sm_g3 (e18_917 I P nx sl)) (he18_940 : ∀ (I : am_M) (P : am_Q) (nx : Nat) (sl : Nat) (o0 : Option am_V) (o1 : Option am_V) (o2 : Option am_V) (o3 : Option am_V), sm (dp + 25) am_d0 940 [o0, o1, o2, o3] [] (I, P, nx, sl) sm_g3 (e18_940 I P nx sl)) (he18_983 : ∀ (I : am_M) (P : am_Q) (nx : Nat) (sl : Nat) (o0 : Option am_V) (o1 : Option am_V) (o2 : Option am_V) (o3 : Option am_V), sm (dp + 25) am_d0 983 [o0, o1, o2, o3] [] (I, P, nx, sl) sm_g3 (e18_983 I P nx sl)) (he18_996 : ∀ (I : am_M) (P : am_Q) (nx : Nat) (sl : Nat) (o0 : Option am_V) (o1 : Option am_V) (o2 : Option am_V) (o3 : Option am_V), sm (dp + 25) am_d0 996 [o0, o1, o2, o3] [] (I, P, nx, sl) sm_g3 (e18_996 I P nx sl)) (he18_1019 : ∀ (I : am_M) (P : am_Q) (nx : Nat) (sl : Nat) (o0 : Option am_V) (o1 : Option am_V) (o2 : Option am_V) (o3 : Option am_V), sm (dp + 25) am_d0 1019 [o0, o1, o2, o3] [] (I, P, nx, sl) sm_g3 (e18_1019 I P nx sl)) (he18_1032 : ∀ (I : am_M) (P : am_Q) (nx : Nat) (sl : Nat) (o0 : Option am_V) (o1 : Option am_V) (o2 : Option am_V) (o3 : Option am_V), sm (dp + 25) am_d0 1032 [o0, o1, o2, o3] [] (I, P, nx, sl) sm_g3 (e18_1032 I P nx sl)) (he18_1055 : ∀ (I : am_M) (P : am_Q) (nx : Nat) (sl : Nat) (o0 : Option am_V) (o1 : Option am_V) (o2 : Option am_V) (o3 : Option am_V), sm (dp + 25) am_d0 1055 [o0, o1, o2, o3] [] (I, P, nx, sl) sm_g3 (e18_1055 I P nx sl)) (he18_1088 : ∀ (I : am_M) (P : am_Q) (nx : Nat) (sl : Nat) (o0 : Option am_V) (o1 : Option am_V) (o2 : Option am_V) (o3 : Option am_V), sm (dp + 25) am_d0 1088 [o0, o1, o2, o3] [] (I, P, nx, sl) sm_g3 (e18_1088 I P nx sl)) (he18_1121 : ∀ (I : am_M) (P : am_Q) (nx : Nat) (sl : Nat) (o0 : Option am_V) (o1 : Option am_V) (o2 : Option am_V) (o3 : Option am_V), sm (dp + 25) am_d0 1121 [o0, o1, o2, o3] [] (I, P, nx, sl) sm_g3 (e18_1121 I P nx sl)) (he18_1154 : ∀ (I : am_M) (P : am_Q) (nx : Nat) (sl : Nat) (o0 : Option am_V) (o1 : Option am_V) (o2 : Option am_V) (o3 : Option am_V), sm (dp + 25) am_d0 1154 [o0, o1, o2, o3] [] (I, P, nx, sl) sm_g3 (e18_1154 I P nx sl)) (he18_1187 : ∀ (I : am_M) (P : am_Q) (nx : Nat) (sl : Nat) (o0 : Option am_V) (o1 : Option am_V) (o2 : Option am_V) (o3 : Option am_V), sm (dp + 25) am_d0 1187 [o0, o1, o2, o3] [] (I, P, nx, sl) sm_g3 (e18_1187 I P nx sl)) (he18_1220 : ∀ (I : am_M) (P : am_Q) (nx : Nat) (sl : Nat) (o0 : Option am_V) (o1 : Option am_V) (o2 : Option am_V) (o3 : Option am_V), sm (dp + 25) am_d0 1220 [o0, o1, o2, o3] [] (I, P, nx, sl) sm_g3 (e18_1220 I P nx sl)) (he18_1253 : ∀ (I : am_M) (P : am_Q) (nx : Nat) (sl : Nat) (o0 : Option am_V) (o1 : Option am_V) (o2 : Option am_V) (o3 : Option am_V), sm (dp + 25) am_d0 1253 [o0, o1, o2, o3] [] (I, P, nx, sl) sm_g3 (e18_1253 I P nx sl)) (he18_1296 : ∀ (I : am_M) (P : am_Q) (nx : Nat) (sl : Nat) (o0 : Option am_V) (o1 : Option am_V) (o2 : Option am_V) (o3 : Option am_V), sm (dp + 25) am_d0 1296 [o0, o1, o2, o3] [] (I, P, nx, sl) sm_g3 (e18_1296 I P nx sl)) (he18_1339 : ∀ (I : am_M) (P : am_Q) (nx : Nat) (sl : Nat) (o0 : Option am_V) (o1 : Option am_V) (o2 : Option am_V) (o3 : Option am_V), sm (dp + 25) am_d0 1339 [o0, o1, o2, o3] [] (I, P, nx, sl) sm_g3 (e18_1339 I P nx sl)) (he18_1402 : ∀ (I : am_M) (P : am_Q) (nx : Nat) (sl : Nat) (o0 : Option am_V) (o1 : Option am_V) (o2 : Option am_V) (o3 : Option am_V), sm (dp + 25) am_d0 1402 [o0, o1, o2, o3] [] (I, P, nx, sl) sm_g3 (e18_1402 I P nx sl)) (he18_1415 : ∀ (I : am_M) (P : am_Q) (nx : Nat) (sl : Nat) (o0 : Option am_V) (o1 : Option am_V) (o2 : Option am_V) (o3 : Option am_V), sm (dp + 25) am_d0 1415 [o0, o1, o2, o3] [] (I, P, nx, sl) sm_g3 (e18_1415 I P nx sl)) (he18_1428 : ∀ (I : am_M) (P : am_Q) (nx : Nat) (sl : Nat) (o0 : Option am_V) (o1 : Option am_V) (o2 : Option am_V) (o3 : Option am_V), sm (dp + 25) am_d0 1428 [o0, o1, o2, o3] [] (I, P, nx, sl) sm_g3 (e18_1428 I P nx sl)) (he18_1441 : ∀ (I : am_M) (P : am_Q) (nx : Nat) (sl : Nat) (o0 : Option am_V) (o1 : Option am_V) (o2 : Option am_V) (o3 : Option am_V), sm (dp + 25) am_d0 1441 [o0, o1, o2, o3] [] (I, P, nx, sl) sm_g3 (e18_1441 I P nx sl)) (he18_1464 : ∀ (I : am_M) (P : am_Q) (nx : Nat) (sl : Nat) (o0 : Option am_V) (o1 : Option am_V) (o2 : Option am_V) (o3 : Option am_V), sm (dp + 25) am_d0 1464 [o0, o1, o2, o3] [] (I, P, nx, sl) sm_g3 (e18_1464 I P nx sl)) (he18_1487 : ∀ (I : am_M) (P : am_Q) (nx : Nat) (sl : Nat) (o0 : Option am_V) (o1 : Option am_V) (o2 : Option am_V) (o3 : Option am_V), sm (dp + 25) am_d0 1487 [o0, o1, o2, o3] [] (I, P, nx, sl) sm_g3 (e18_1487 I P nx sl)) (he18_1495 : ∀ (I : am_M) (P : am_Q) (nx : Nat) (sl : Nat) (o0 : Option am_V) (o1 : Option am_V) (o2 : Option am_V) (o3 : Option am_V), sm (dp + 25) am_d0 1495 [o0, o1, o2, o3] [] (I, P, nx, sl) sm_g3 (e18_1495 I P nx sl)) (n : Nat) : ∀ (l0 : Nat) (l1 : Nat) (l2 : Nat) (l3 : Int32) (I : am_M) (P : am_Q) (nx : Nat) (sl : Nat), sm (dp + 25) am_d0 18 [some (.inr l0), some (.inr l1), some (.inr l2), some (.inl l3)] [] (I, P, nx, sl) sm_g3 (fLaw_law_L18 e18_241 e18_284 e18_317 e18_350 e18_383 e18_426 e18_459 e18_492 e18_515 e18_528 e18_591 e18_624 e18_657 e18_700 e18_723 e18_746 e18_769 e18_792 e18_815 e18_848 e18_871 e18_894 e18_917 e18_940 e18_983 e18_996 e18_1019 e18_1032 e18_1055 e18_1088 e18_1121 e18_1154 e18_1187 e18_1220 e18_1253 e18_1296 e18_1339 e18_1402 e18_1415 e18_1428 e18_1441 e18_1464 e18_1487 e18_1495 n l0 l1 l2 l3 I P nx sl) := by
  induction n with
  | zero => intro l0 l1 l2 l3 I P nx sl; exact sm_none
  | succ n ih => intro l0 l1 l2 l3 I P nx sl; exact AfLaw_law_B18 he18_241 he18_284 he18_317 he18_350 he18_383 he18_426 he18_459 he18_492 he18_515 he18_528 he18_591 he18_624 he18_657 he18_700 he18_723 he18_746 he18_769 he18_792 he18_815 he18_848 he18_871 he18_894 he18_917 he18_940 he18_983 he18_996 he18_1019 he18_1032 he18_1055 he18_1088 he18_1121 he18_1154 he18_1187 he18_1220 he18_1253 he18_1296 he18_1339 he18_1402 he18_1415 he18_1428 he18_1441 he18_1464 he18_1487 he18_1495 ih l0 l1 l2 l3 I P nx sl
noncomputable def fLaw_law (l0 : Nat) (I : am_M) (P : am_Q) (nx : Nat) (sl : Nat) : Option (Int32 × am_S) :=
  sm_nw 12 I P nx sl fun a1 I2 P3 n4 s5 =>
  Option.bind (fX_init a1 I2 P3 n4 s5) fun y8 =>
  sm_nw 13 y8.1 y8.2.1 y8.2.2.1 y8.2.2.2 fun a9 I10 P11 n12 s13 =>
  Option.bind (fM_init a9 I10 P11 n12 s13) fun y16 =>
  fLaw_law_L18 (fun I P nx sl =>
      some (0, I, P, nx, sl)) (fun I P nx sl =>
      some (0, I, P, nx, sl)) (fun I P nx sl =>
      some (0, I, P, nx, sl)) (fun I P nx sl =>
      some (0, I, P, nx, sl)) (fun I P nx sl =>
      some (0, I, P, nx, sl)) (fun I P nx sl =>
      some (0, I, P, nx, sl)) (fun I P nx sl =>
      some (0, I, P, nx, sl)) (fun I P nx sl =>
      some (0, I, P, nx, sl)) (fun I P nx sl =>
      some (0, I, P, nx, sl)) (fun I P nx sl =>
      some (0, I, P, nx, sl)) (fun I P nx sl =>
      some (0, I, P, nx, sl)) (fun I P nx sl =>
      some (0, I, P, nx, sl)) (fun I P nx sl =>
      some (0, I, P, nx, sl)) (fun I P nx sl =>
      some (0, I, P, nx, sl)) (fun I P nx sl =>
      some (0, I, P, nx, sl)) (fun I P nx sl =>
      some (0, I, P, nx, sl)) (fun I P nx sl =>
      some (0, I, P, nx, sl)) (fun I P nx sl =>
      some (0, I, P, nx, sl)) (fun I P nx sl =>
      some (0, I, P, nx, sl)) (fun I P nx sl =>
      some (0, I, P, nx, sl)) (fun I P nx sl =>
      some (0, I, P, nx, sl)) (fun I P nx sl =>
      some (0, I, P, nx, sl)) (fun I P nx sl =>
      some (0, I, P, nx, sl)) (fun I P nx sl =>
      some (0, I, P, nx, sl)) (fun I P nx sl =>
      some (0, I, P, nx, sl)) (fun I P nx sl =>
      some (0, I, P, nx, sl)) (fun I P nx sl =>
      some (0, I, P, nx, sl)) (fun I P nx sl =>
      some (0, I, P, nx, sl)) (fun I P nx sl =>
      some (0, I, P, nx, sl)) (fun I P nx sl =>
      some (0, I, P, nx, sl)) (fun I P nx sl =>
      some (0, I, P, nx, sl)) (fun I P nx sl =>
      some (0, I, P, nx, sl)) (fun I P nx sl =>
      some (0, I, P, nx, sl)) (fun I P nx sl =>
      some (0, I, P, nx, sl)) (fun I P nx sl =>
      some (0, I, P, nx, sl)) (fun I P nx sl =>
      some (0, I, P, nx, sl)) (fun I P nx sl =>
      some (0, I, P, nx, sl)) (fun I P nx sl =>
      some (0, I, P, nx, sl)) (fun I P nx sl =>
      some (0, I, P, nx, sl)) (fun I P nx sl =>
      some (0, I, P, nx, sl)) (fun I P nx sl =>
      some (0, I, P, nx, sl)) (fun I P nx sl =>
      some (0, I, P, nx, sl)) (fun I P nx sl =>
      some (0, I, P, nx, sl)) (fun I P nx sl =>
      some (1, I, P, nx, sl)) sm_fu l0 a1 a9 0 y16.1 y16.2.1 y16.2.2.1 y16.2.2.2
set_option maxRecDepth 100000 in
theorem AfLaw_law {dp : Nat}  {I : am_M} {P : am_Q} {nx : Nat} {sl : Nat} {l0 : Nat} : sm (dp + 25) am_d0 0 [some (.inr l0), none, none, none] [] (I, P, nx, sl) sm_g3 (fLaw_law l0 I P nx sl) := by
  unfold fLaw_law
  refine r_new rfl (by decide) (by decide) (fun a1 I2 P3 n4 s5 h6 h7 => ?_)
  refine r_dup rfl ?_
  refine r_call4 rfl rfl (am_nz h6) (fun y hy => AfX_init (dp := dp + 21) hy) (fun y8 => ?_)
  refine r_astore (ls' := [some (.inr l0), some (.inr a1), none, none]) rfl (Nat.le_of_ble_eq_true rfl) (am_nz h6) rfl ?_
  refine r_new rfl (by decide) (by decide) (fun a9 I10 P11 n12 s13 h14 h15 => ?_)
  refine r_dup rfl ?_
  refine r_call4 rfl rfl (am_nz h14) (fun y hy => AfM_init (dp := dp + 24) hy) (fun y16 => ?_)
  refine r_astore (ls' := [some (.inr l0), some (.inr a1), some (.inr a9), none]) rfl (Nat.le_of_ble_eq_true rfl) (am_nz h14) rfl ?_
  refine r_const (x := 0) rfl rfl ?_
  refine r_istore (ls' := [some (.inr l0), some (.inr a1), some (.inr a9), some (.inl 0)]) rfl (Nat.le_of_ble_eq_true rfl) rfl ?_
  refine AfLaw_law_L18 ?_ ?_ ?_ ?_ ?_ ?_ ?_ ?_ ?_ ?_ ?_ ?_ ?_ ?_ ?_ ?_ ?_ ?_ ?_ ?_ ?_ ?_ ?_ ?_ ?_ ?_ ?_ ?_ ?_ ?_ ?_ ?_ ?_ ?_ ?_ ?_ ?_ ?_ ?_ ?_ ?_ ?_ ?_ ?_ sm_fu l0 a1 a9 0 y16.1 y16.2.1 y16.2.2.1 y16.2.2.2
  · intro I P nx sl o0 o1 o2 o3
    refine r_const (x := 0) rfl rfl ?_
    exact r_ireturn rfl (Or.inr ⟨rfl, sm_010⟩) rfl
  · intro I P nx sl o0 o1 o2 o3
    refine r_const (x := 0) rfl rfl ?_
    exact r_ireturn rfl (Or.inr ⟨rfl, sm_010⟩) rfl
  · intro I P nx sl o0 o1 o2 o3
    refine r_const (x := 0) rfl rfl ?_
    exact r_ireturn rfl (Or.inr ⟨rfl, sm_010⟩) rfl
  · intro I P nx sl o0 o1 o2 o3
    refine r_const (x := 0) rfl rfl ?_
    exact r_ireturn rfl (Or.inr ⟨rfl, sm_010⟩) rfl
  · intro I P nx sl o0 o1 o2 o3
    refine r_const (x := 0) rfl rfl ?_
    exact r_ireturn rfl (Or.inr ⟨rfl, sm_010⟩) rfl
  · intro I P nx sl o0 o1 o2 o3
    refine r_const (x := 0) rfl rfl ?_
    exact r_ireturn rfl (Or.inr ⟨rfl, sm_010⟩) rfl
  · intro I P nx sl o0 o1 o2 o3
    refine r_const (x := 0) rfl rfl ?_
    exact r_ireturn rfl (Or.inr ⟨rfl, sm_010⟩) rfl
  · intro I P nx sl o0 o1 o2 o3
    refine r_const (x := 0) rfl rfl ?_
    exact r_ireturn rfl (Or.inr ⟨rfl, sm_010⟩) rfl
  · intro I P nx sl o0 o1 o2 o3
    refine r_const (x := 0) rfl rfl ?_
    exact r_ireturn rfl (Or.inr ⟨rfl, sm_010⟩) rfl
  · intro I P nx sl o0 o1 o2 o3
    refine r_const (x := 0) rfl rfl ?_
    exact r_ireturn rfl (Or.inr ⟨rfl, sm_010⟩) rfl
  · intro I P nx sl o0 o1 o2 o3
    refine r_const (x := 0) rfl rfl ?_
    exact r_ireturn rfl (Or.inr ⟨rfl, sm_010⟩) rfl
  · intro I P nx sl o0 o1 o2 o3
    refine r_const (x := 0) rfl rfl ?_
    exact r_ireturn rfl (Or.inr ⟨rfl, sm_010⟩) rfl
  · intro I P nx sl o0 o1 o2 o3
    refine r_const (x := 0) rfl rfl ?_
    exact r_ireturn rfl (Or.inr ⟨rfl, sm_010⟩) rfl
  · intro I P nx sl o0 o1 o2 o3
    refine r_const (x := 0) rfl rfl ?_
    exact r_ireturn rfl (Or.inr ⟨rfl, sm_010⟩) rfl
  · intro I P nx sl o0 o1 o2 o3
    refine r_const (x := 0) rfl rfl ?_
    exact r_ireturn rfl (Or.inr ⟨rfl, sm_010⟩) rfl
  · intro I P nx sl o0 o1 o2 o3
    refine r_const (x := 0) rfl rfl ?_
    exact r_ireturn rfl (Or.inr ⟨rfl, sm_010⟩) rfl
  · intro I P nx sl o0 o1 o2 o3
    refine r_const (x := 0) rfl rfl ?_
    exact r_ireturn rfl (Or.inr ⟨rfl, sm_010⟩) rfl
  · intro I P nx sl o0 o1 o2 o3
    refine r_const (x := 0) rfl rfl ?_
    exact r_ireturn rfl (Or.inr ⟨rfl, sm_010⟩) rfl
  · intro I P nx sl o0 o1 o2 o3
    refine r_const (x := 0) rfl rfl ?_
    exact r_ireturn rfl (Or.inr ⟨rfl, sm_010⟩) rfl
  · intro I P nx sl o0 o1 o2 o3
    refine r_const (x := 0) rfl rfl ?_
    exact r_ireturn rfl (Or.inr ⟨rfl, sm_010⟩) rfl
  · intro I P nx sl o0 o1 o2 o3
    refine r_const (x := 0) rfl rfl ?_
    exact r_ireturn rfl (Or.inr ⟨rfl, sm_010⟩) rfl
  · intro I P nx sl o0 o1 o2 o3
    refine r_const (x := 0) rfl rfl ?_
    exact r_ireturn rfl (Or.inr ⟨rfl, sm_010⟩) rfl
  · intro I P nx sl o0 o1 o2 o3
    refine r_const (x := 0) rfl rfl ?_
    exact r_ireturn rfl (Or.inr ⟨rfl, sm_010⟩) rfl
  · intro I P nx sl o0 o1 o2 o3
    refine r_const (x := 0) rfl rfl ?_
    exact r_ireturn rfl (Or.inr ⟨rfl, sm_010⟩) rfl
  · intro I P nx sl o0 o1 o2 o3
    refine r_const (x := 0) rfl rfl ?_
    exact r_ireturn rfl (Or.inr ⟨rfl, sm_010⟩) rfl
  · intro I P nx sl o0 o1 o2 o3
    refine r_const (x := 0) rfl rfl ?_
    exact r_ireturn rfl (Or.inr ⟨rfl, sm_010⟩) rfl
  · intro I P nx sl o0 o1 o2 o3
    refine r_const (x := 0) rfl rfl ?_
    exact r_ireturn rfl (Or.inr ⟨rfl, sm_010⟩) rfl
  · intro I P nx sl o0 o1 o2 o3
    refine r_const (x := 0) rfl rfl ?_
    exact r_ireturn rfl (Or.inr ⟨rfl, sm_010⟩) rfl
  · intro I P nx sl o0 o1 o2 o3
    refine r_const (x := 0) rfl rfl ?_
    exact r_ireturn rfl (Or.inr ⟨rfl, sm_010⟩) rfl
  · intro I P nx sl o0 o1 o2 o3
    refine r_const (x := 0) rfl rfl ?_
    exact r_ireturn rfl (Or.inr ⟨rfl, sm_010⟩) rfl
  · intro I P nx sl o0 o1 o2 o3
    refine r_const (x := 0) rfl rfl ?_
    exact r_ireturn rfl (Or.inr ⟨rfl, sm_010⟩) rfl
  · intro I P nx sl o0 o1 o2 o3
    refine r_const (x := 0) rfl rfl ?_
    exact r_ireturn rfl (Or.inr ⟨rfl, sm_010⟩) rfl
  · intro I P nx sl o0 o1 o2 o3
    refine r_const (x := 0) rfl rfl ?_
    exact r_ireturn rfl (Or.inr ⟨rfl, sm_010⟩) rfl
  · intro I P nx sl o0 o1 o2 o3
    refine r_const (x := 0) rfl rfl ?_
    exact r_ireturn rfl (Or.inr ⟨rfl, sm_010⟩) rfl
  · intro I P nx sl o0 o1 o2 o3
    refine r_const (x := 0) rfl rfl ?_
    exact r_ireturn rfl (Or.inr ⟨rfl, sm_010⟩) rfl
  · intro I P nx sl o0 o1 o2 o3
    refine r_const (x := 0) rfl rfl ?_
    exact r_ireturn rfl (Or.inr ⟨rfl, sm_010⟩) rfl
  · intro I P nx sl o0 o1 o2 o3
    refine r_const (x := 0) rfl rfl ?_
    exact r_ireturn rfl (Or.inr ⟨rfl, sm_010⟩) rfl
  · intro I P nx sl o0 o1 o2 o3
    refine r_const (x := 0) rfl rfl ?_
    exact r_ireturn rfl (Or.inr ⟨rfl, sm_010⟩) rfl
  · intro I P nx sl o0 o1 o2 o3
    refine r_const (x := 0) rfl rfl ?_
    exact r_ireturn rfl (Or.inr ⟨rfl, sm_010⟩) rfl
  · intro I P nx sl o0 o1 o2 o3
    refine r_const (x := 0) rfl rfl ?_
    exact r_ireturn rfl (Or.inr ⟨rfl, sm_010⟩) rfl
  · intro I P nx sl o0 o1 o2 o3
    refine r_const (x := 0) rfl rfl ?_
    exact r_ireturn rfl (Or.inr ⟨rfl, sm_010⟩) rfl
  · intro I P nx sl o0 o1 o2 o3
    refine r_const (x := 0) rfl rfl ?_
    exact r_ireturn rfl (Or.inr ⟨rfl, sm_010⟩) rfl
  · intro I P nx sl o0 o1 o2 o3
    refine r_const (x := 0) rfl rfl ?_
    exact r_ireturn rfl (Or.inr ⟨rfl, sm_010⟩) rfl
  · intro I P nx sl o0 o1 o2 o3
    refine r_const (x := 1) rfl rfl ?_
    exact r_ireturn rfl (Or.inr ⟨rfl, sm_011⟩) rfl
