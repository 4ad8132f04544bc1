/-! ===== the start: the class ===== -/
section Ini3
variable {I : am_M} {P : am_Q} {lI : List (Nat × Nat × Nat × Int32)} {lP : List (Nat × Nat × Nat × Nat)} {nx sl : Nat}
theorem setP_eq {a : Nat} : am_set (wrP P lP) a (fun _ => 0) = wrP P ((0, a, 0, 0) :: lP) := rfl
theorem boxLP_ne {arr l1 c x k : Nat} (h1 : ¬ x = arr) (h2 : am_t x ≠ 1) : ∀ (d i : Nat) (l : List (Nat × Nat × Nat × Nat)), wrP P (boxLP arr l1 c d i l) x k = wrP P l x k
  | 0, _, _ => rfl
  | d + 1, i, l => by
    have n1 : ¬ x = am_pk (c + i) 0 1 := fun z => h2 (by rw [z]; exact am_t_pk (by decide))
    show wrP P (boxLP arr l1 c d (i + 1) ((1, arr, i, am_pk (c + i) 0 1) :: (1, am_pk (c + i) 0 1, 10, l1) :: (0, am_pk (c + i) 0 1, 0, 0) :: l)) x k = _
    rw [boxLP_ne h1 h2 d (i + 1) _]
    show am_up (am_up (am_set (wrP P l) (am_pk (c + i) 0 1) (fun _ => 0)) (am_pk (c + i) 0 1) 10 l1) arr i (am_pk (c + i) 0 1) x k = _
    rw [am_up_ne h1, am_up_ne n1, am_setne n1]
theorem smLP_ne {arr c x k : Nat} (h1 : ¬ x = arr) (h2 : am_t x ≠ 8) : ∀ (d i : Nat) (l : List (Nat × Nat × Nat × Nat)), wrP P (smLP arr c d i l) x k = wrP P l x k
  | 0, _, _ => rfl
  | d + 1, i, l => by
    have n1 : ¬ x = am_pk (c + i) 0 8 := fun z => h2 (by rw [z]; exact am_t_pk (by decide))
    show wrP P (smLP arr c d (i + 1) ((1, arr, i, am_pk (c + i) 0 8) :: (0, am_pk (c + i) 0 8, 0, 0) :: l)) x k = _
    rw [smLP_ne h1 h2 d (i + 1) _]
    show am_up (am_set (wrP P l) (am_pk (c + i) 0 8) (fun _ => 0)) arr i (am_pk (c + i) 0 8) x k = _
    rw [am_up_ne h1, am_setne n1]
theorem wrP_wd {b x k : Nat} (h1 : am_t x ≠ 1) (h8 : am_t x ≠ 8) (h11 : am_t x ≠ 11) (h22 : am_t x ≠ 22) (h23 : am_t x ≠ 23) : wrP P (wdP b lP) x k = wrP P lP x k := by
  have ne : ∀ {c n t : Nat}, t < 32 → am_t x ≠ t → ¬ x = am_pk c n t := fun ht hne z => hne (by rw [z]; exact am_t_pk ht)
  unfold wdP wldP
  rw [smLP_ne (ne (by decide) h23) h8, boxLP_ne (ne (by decide) h22) h1]
  have n11 : ¬ x = am_pk b 0 11 := ne (by decide) h11
  show am_up (am_up (am_up (am_up (am_up (am_up (am_set (am_up (am_set (am_set (wrP P lP) (am_pk b 0 11) (fun _ => 0)) (am_pk (b + 1) 7 22) (fun _ => 0)) (am_pk b 0 11) 9 (am_pk (b + 1) 7 22)) (am_pk (b + 1 + 1) 14 23) (fun _ => 0)) (am_pk b 0 11) 10 (am_pk (b + 1 + 1) 14 23)) (am_pk b 0 11) 11 (am_pk (b + 1 + 2) 7 20)) (am_pk b 0 11) 12 (am_pk (b + 1 + 3) 14 20)) (am_pk b 0 11) 13 (am_pk (b + 1 + 4) 20 20)) (am_pk b 0 11) 14 (am_pk (b + 1 + 5) 20 20)) (am_pk b 0 11) 15 (am_pk (b + 1 + 6) 20 20) x k = _
  rw [am_up_ne n11, am_up_ne n11, am_up_ne n11, am_up_ne n11, am_up_ne n11, am_up_ne n11, am_setne (ne (by decide) h23), am_up_ne n11, am_setne (ne (by decide) h22), am_setne n11]
theorem x_wd {b : Nat} : ∃ sl', fW_init (am_pk b 0 11) (am_pk 3 0 4) (wrI I ((0, am_pk b 0 11, 0, 0) :: lI)) (wrP P ((0, am_pk b 0 11, 0, 0) :: lP)) (b + 1) sl = some (wrI I (wdI b lI), wrP P (wdP b lP), b + 29, sl') ∧ sl' ≤ sl + 1600 := by
  obtain ⟨sl', y1, y2⟩ := x_wld (I := I) (P := P) (lI := (0, am_pk b 0 11, 0, 0) :: lI) (lP := (0, am_pk b 0 11, 0, 0) :: lP) (nx := b + 1) (sl := sl) (a := am_pk b 0 11) (l1 := am_pk 3 0 4) (am_t_pk (by decide)) (am_t_pk (by decide))
  have n1 := nf_le 1 (by decide)
  have n8 := nf_le 8 (by decide)
  exact ⟨sl', y1, by omega⟩
theorem x_his : ∀ (d i fu : Nat) (lI : List (Nat × Nat × Nat × Int32)) (lP : List (Nat × Nat × Nat × Nat)) (sl : Nat), d < fu → i + d = 6 → wrP P lP (am_pk 123 0 2) 0 = am_pk 124 6 24 → ∃ sl', fY_init_L15 (fun I P nx sl => some (I, P, nx, sl)) fu (am_pk 123 0 2) (am_pk 3 0 4) (nI i) (wrI I lI) (wrP P lP) (125 + 29 * i) sl = some (wrI I (hisI d i lI), wrP P (hisP d i lP), 299, sl') ∧ sl' ≤ sl + d * 1700
  | 0, i, fu, lI, lP, sl, h2, h3, h4 => by
    obtain ⟨fu, rfl⟩ : ∃ n', fu = n' + 1 := ⟨fu - 1, by omega⟩
    have e : i = 6 := by omega
    subst e
    refine ⟨sl, ?_, by omega⟩
    show fY_init_B15 _ _ _ _ _ _ _ _ _ = _
    unfold fY_init_B15
    rw [if_pos (by decide)]
    rfl
  | d + 1, i, fu, lI, lP, sl, h2, h3, h4 => by
    obtain ⟨fu, rfl⟩ : ∃ n', fu = n' + 1 := ⟨fu - 1, by omega⟩
    obtain ⟨sl1, y1, y2⟩ := x_wd (I := I) (P := P) (lI := lI) (lP := lP) (sl := sl + am_nf 11) (b := 125 + 29 * i)
    have n11 := nf_le 11 (by decide)
    have hk : wrP P ((1, am_pk 124 6 24, i, am_pk (125 + 29 * i) 0 11) :: wdP (125 + 29 * i) lP) (am_pk 123 0 2) 0 = am_pk 124 6 24 := by
      show am_up (wrP P (wdP (125 + 29 * i) lP)) (am_pk 124 6 24) i (am_pk (125 + 29 * i) 0 11) (am_pk 123 0 2) 0 = _
      rw [am_up_ne (by decide), wrP_wd (by decide) (by decide) (by decide) (by decide) (by decide)]
      exact h4
    obtain ⟨sl', z1, z2⟩ := x_his d (i + 1) fu (wdI (125 + 29 * i) lI) ((1, am_pk 124 6 24, i, am_pk (125 + 29 * i) 0 11) :: wdP (125 + 29 * i) lP) sl1 (by omega) (by omega) hk
    refine ⟨sl', ?_, by rw [Nat.succ_mul]; omega⟩
    show fY_init_B15 _ _ _ _ _ _ _ _ _ = _
    unfold fY_init_B15
    rw [if_neg (by rw [show (6 : Int32) = nI 6 from rfl, nI_leI (by decide) (by omega)]; omega), sm_ck_pos (am_t_pk (by decide)), nw_eq, sm_ck_pos (am_t_pk (by decide)), y1, Option.bind_some]
    dsimp only
    rw [h4, sm_ck_pos (sm_ia_nI (by decide) (by decide) (by decide) (by omega)), sm_ck_pos (by rw [am_t_pk (by decide), am_t_pk (by decide)]; decide), nI_clamp (show i < 2 ^ 31 by omega), upP_eq, bd_eq, bd_eq, nI_1, show 125 + 29 * i + 29 = 125 + 29 * (i + 1) by omega]
    exact z1
theorem x_shs {ex : Nat → am_M → am_Q → Nat → Nat → Option am_S} : ∀ (d i fu : Nat) (lI : List (Nat × Nat × Nat × Int32)) (lP : List (Nat × Nat × Nat × Nat)) (sl : Nat), d < fu → i + d = 4 → wrP P lP (am_pk 2 0 12) 13 = am_pk 320 4 25 → ∃ sl', fX_init_L178 ex fu (am_pk 2 0 12) (nI i) (wrI I lI) (wrP P lP) (321 + 2 * i) sl = ex (am_pk 2 0 12) (wrI I (shI d i lI)) (wrP P (shP d i lP)) 329 sl' ∧ sl' ≤ sl + d * 100
  | 0, i, fu, lI, lP, sl, h2, h3, h4 => by
    obtain ⟨fu, rfl⟩ : ∃ n', fu = n' + 1 := ⟨fu - 1, by omega⟩
    have e : i = 4 := by omega
    subst e
    refine ⟨sl, ?_, by omega⟩
    show fX_init_B178 _ _ _ _ _ _ _ _ = _
    unfold fX_init_B178
    rw [if_pos (by decide)]
    rfl
  | d + 1, i, fu, lI, lP, sl, h2, h3, h4 => by
    obtain ⟨fu, rfl⟩ : ∃ n', fu = n' + 1 := ⟨fu - 1, by omega⟩
    have n9 := nf_le 9 (by decide)
    have hk : wrP P ((1, am_pk 320 4 25, i, am_pk (321 + 2 * i) 0 9) :: (1, am_pk (321 + 2 * i) 0 9, 0, am_pk (322 + 2 * i) 24 20) :: (0, am_pk (321 + 2 * i) 0 9, 0, 0) :: lP) (am_pk 2 0 12) 13 = am_pk 320 4 25 := by
      have n : ¬ am_pk 2 0 12 = am_pk (321 + 2 * i) 0 9 := pk_kd (am_t_pk (by decide)) (by decide) (by decide)
      rw [← upP_eq, am_up_ne (by decide), ← upP_eq, am_up_ne n, ← setP_eq, am_setne n]
      exact h4
    obtain ⟨sl', z1, z2⟩ := x_shs (ex := ex) d (i + 1) fu ((0, am_pk (322 + 2 * i) 24 20, 0, 0) :: (0, am_pk (321 + 2 * i) 0 9, 0, 0) :: lI) ((1, am_pk 320 4 25, i, am_pk (321 + 2 * i) 0 9) :: (1, am_pk (321 + 2 * i) 0 9, 0, am_pk (322 + 2 * i) 24 20) :: (0, am_pk (321 + 2 * i) 0 9, 0, 0) :: lP) (sl + am_nf 9 + 24) (by omega) (by omega) hk
    refine ⟨sl', ?_, by rw [Nat.succ_mul]; omega⟩
    show fX_init_B178 _ _ _ _ _ _ _ _ = _
    unfold fX_init_B178 fE_init
    rw [if_neg (by rw [show (4 : Int32) = nI 4 from rfl, nI_leI (by decide) (by omega)]; omega), sm_ck_pos (am_t_pk (by decide)), nw_eq, sm_ck_pos (am_t_pk (by decide)), na_l (v := 24) (n := 24) rfl (by decide), upP_eq, bd_eq, Option.bind_some]
    dsimp only
    rw [h4, sm_ck_pos (sm_ia_nI (by decide) (by decide) (by decide) (by omega)), sm_ck_pos (by rw [am_t_pk (by decide), am_t_pk (by decide)]; decide), nI_clamp (show i < 2 ^ 31 by omega), upP_eq, bd_eq, bd_eq, nI_1, show 321 + 2 * i + 1 = 322 + 2 * i by omega, show 322 + 2 * i + 1 = 321 + 2 * (i + 1) by omega]
    exact z1
set_option maxRecDepth 100000 in
theorem x_x1 : ∃ sl', fX_init (am_pk 2 0 12) (wrI I [(0, am_pk 2 0 12, 0, 0)]) (wrP P [(0, am_pk 2 0 12, 0, 0)]) 3 sl = some (wrI I xI9, wrP P xP9, 330, sl') ∧ sl' ≤ sl + 30000 := by
  have n1 := nf_le 1 (by decide)
  have n2 := nf_le 2 (by decide)
  have n3 := nf_le 3 (by decide)
  have n4 := nf_le 4 (by decide)
  have n5 := nf_le 5 (by decide)
  have n6 := nf_le 6 (by decide)
  have n7 := nf_le 7 (by decide)
  have n10 := nf_le 10 (by decide)
  have n11 := nf_le 11 (by decide)
  obtain ⟨s1, a1, b1⟩ := x_wd (I := I) (P := P) (lI := xI1) (lP := xP1) (sl := sl + am_nf 4 + 0 + 4 + 4 + am_nf 11) (b := 7)
  obtain ⟨s2, a2, b2⟩ := x_wd (I := I) (P := P) (lI := xI2) (lP := xP2) (sl := s1 + am_nf 11) (b := 36)
  obtain ⟨s3, a3, b3⟩ := x_wd (I := I) (P := P) (lI := xI3) (lP := xP3) (sl := s2 + am_nf 11) (b := 65)
  obtain ⟨s4, a4, b4⟩ := x_wd (I := I) (P := P) (lI := xI4) (lP := xP4) (sl := s3 + am_nf 11) (b := 94)
  obtain ⟨s5, a5, b5⟩ := x_his (I := I) (P := P) 6 0 sm_fu ((0, am_pk 123 0 2, 0, 0) :: xI5) ((1, am_pk 123 0 2, 0, am_pk 124 6 24) :: (0, am_pk 124 6 24, 0, 0) :: (0, am_pk 123 0 2, 0, 0) :: xP5) (s4 + am_nf 2 + 6) (sm_fu_lt (by decide)) (by decide) (rdP_ok (by decide +kernel))
  obtain ⟨s6, a6, b6⟩ := x_shs (I := I) (P := P) (ex := fun l0 I P nx sl =>
      sm_ck (am_t l0 = 12) <|
      sm_na 20 7 I nx sl fun a132 I133 n134 s135 =>
      sm_bd (am_up P l0 14 a132) fun P138 =>
      some (I133, P138, n134, s135)) 4 0 sm_fu xI8 xP8 (s5 + am_nf 10 + 80 + 80 + 80 + 4 + 4 + am_nf 1 + am_nf 6 + 16 + am_nf 3 + 5 + 5 + am_nf 7 + 14 + 3 + am_nf 5 + 7 + 7 + 3 + 7 + 7 + 4) (sm_fu_lt (by decide)) (by decide) (rdP_ok (by decide +kernel))
  refine ⟨s6 + 7, ?_, by omega⟩
  have e6 : ∀ l, rdP l (am_pk 2 0 12) 6 = some (am_pk 3 0 4) → wrP P l (am_pk 2 0 12) 6 = am_pk 3 0 4 := fun l h => rdP_ok h
  have e9 : ∀ l, rdP l (am_pk 2 0 12) 9 = some (am_pk 306 0 6) → wrP P l (am_pk 2 0 12) 9 = am_pk 306 0 6 := fun l h => rdP_ok h
  unfold fX_init
  rw [sm_ck_pos (am_t_pk (by decide)), nw_eq (nx := 3)]
  unfold fL_init
  rw [sm_ck_pos (am_t_pk (by decide)), na_l (nx := 4) (v := 0) (n := 0) rfl (by decide), upP_eq, bd_eq, na_l (nx := 5) (v := 4) (n := 4) rfl (by decide), upP_eq, bd_eq, na_l (nx := 6) (v := 4) (n := 4) rfl (by decide), upP_eq, bd_eq]
  rw [show wrP P [(1, am_pk 3 0 4, 2, am_pk 6 4 20), (1, am_pk 3 0 4, 1, am_pk 5 4 20), (1, am_pk 3 0 4, 0, am_pk 4 0 20), (0, am_pk 3 0 4, 0, 0), (0, am_pk 2 0 12, 0, 0)] (am_pk 3 0 4) 1 = am_pk 5 4 20 from rdP_ok (by decide), fill_any sc_5, Option.bind_some, Option.bind_some]
  dsimp only
  rw [upP_eq, bd_eq]
  rw [show am_set (wrI I [(0, am_pk 6 4 20, 0, 0), (0, am_pk 5 4 20, 0, 0), (0, am_pk 4 0 20, 0, 0), (0, am_pk 3 0 4, 0, 0), (0, am_pk 2 0 12, 0, 0)]) (am_pk 5 4 20) (fun i => if i < 4 then -1 else wrI I [(0, am_pk 6 4 20, 0, 0), (0, am_pk 5 4 20, 0, 0), (0, am_pk 4 0 20, 0, 0), (0, am_pk 3 0 4, 0, 0), (0, am_pk 2 0 12, 0, 0)] (am_pk 5 4 20) i) = wrI I xI1 from rfl]
  rw [show [(1, am_pk 2 0 12, 6, am_pk 3 0 4), (1, am_pk 3 0 4, 2, am_pk 6 4 20), (1, am_pk 3 0 4, 1, am_pk 5 4 20), (1, am_pk 3 0 4, 0, am_pk 4 0 20), (0, am_pk 3 0 4, 0, 0), (0, am_pk 2 0 12, 0, 0)] = xP1 from rfl]
  rw [nw_eq (nx := 7), e6 _ (by decide +kernel), a1, Option.bind_some]
  dsimp only
  rw [upP_eq, bd_eq, show (1, am_pk 2 0 12, 0, am_pk 7 0 11) :: wdP 7 xP1 = xP2 from rfl, show wdI 7 xI1 = xI2 from rfl]
  rw [nw_eq (nx := 36), e6 _ (by decide +kernel), a2, Option.bind_some]
  dsimp only
  rw [upP_eq, bd_eq, show (1, am_pk 2 0 12, 1, am_pk 36 0 11) :: wdP 36 xP2 = xP3 from rfl, show wdI 36 xI2 = xI3 from rfl]
  rw [nw_eq (nx := 65), e6 _ (by decide +kernel), a3, Option.bind_some]
  dsimp only
  rw [upP_eq, bd_eq, show (1, am_pk 2 0 12, 2, am_pk 65 0 11) :: wdP 65 xP3 = xP4 from rfl, show wdI 65 xI3 = xI4 from rfl]
  rw [nw_eq (nx := 94), e6 _ (by decide +kernel), a4, Option.bind_some]
  dsimp only
  rw [upP_eq, bd_eq, show (1, am_pk 2 0 12, 3, am_pk 94 0 11) :: wdP 94 xP4 = xP5 from rfl, show wdI 94 xI4 = xI5 from rfl]
  rw [nw_eq (nx := 123), e6 _ (by decide +kernel)]
  unfold fY_init
  rw [sm_ck_pos (am_t_pk (by decide)), nq_l (nx := 124) (v := 6) (n := 6) rfl (by decide), upP_eq, bd_eq]
  rw [show fY_init_L15 (fun I P nx sl => some (I, P, nx, sl)) sm_fu (am_pk 123 0 2) (am_pk 3 0 4) 0 (wrI I ((0, am_pk 123 0 2, 0, 0) :: xI5)) (wrP P ((1, am_pk 123 0 2, 0, am_pk 124 6 24) :: (0, am_pk 124 6 24, 0, 0) :: (0, am_pk 123 0 2, 0, 0) :: xP5)) (124 + 1) (s4 + am_nf 2 + 6) = _ from a5, Option.bind_some]
  dsimp only
  rw [upP_eq, bd_eq, show (1, am_pk 2 0 12, 5, am_pk 123 0 2) :: hisP 6 0 ((1, am_pk 123 0 2, 0, am_pk 124 6 24) :: (0, am_pk 124 6 24, 0, 0) :: (0, am_pk 123 0 2, 0, 0) :: xP5) = xP6 from rfl, show hisI 6 0 ((0, am_pk 123 0 2, 0, 0) :: xI5) = xI6 from rfl]
  rw [nw_eq (nx := 299)]
  unfold fT_init
  rw [sm_ck_pos (am_t_pk (by decide)), na_l (nx := 300) (v := 80) (n := 80) rfl (by decide), upP_eq, bd_eq, na_l (nx := 301) (v := 80) (n := 80) rfl (by decide), upP_eq, bd_eq, na_l (nx := 302) (v := 80) (n := 80) rfl (by decide), upP_eq, bd_eq, na_l (nx := 303) (v := 4) (n := 4) rfl (by decide), upP_eq, bd_eq, na_l (nx := 304) (v := 4) (n := 4) rfl (by decide), upP_eq, bd_eq, Option.bind_some]
  dsimp only
  rw [upP_eq, bd_eq]
  rw [nw_eq (nx := 305), e6 _ (by decide +kernel)]
  unfold fB_init
  rw [sm_ck_pos (am_t_pk (by decide)), sm_ck_pos (am_t_pk (by decide)), upP_eq, bd_eq, Option.bind_some]
  dsimp only
  rw [upP_eq, bd_eq]
  rw [nw_eq (nx := 306)]
  unfold fK_init
  rw [sm_ck_pos (am_t_pk (by decide)), na_l (nx := 307) (v := 16) (n := 16) rfl (by decide), upP_eq, bd_eq, Option.bind_some]
  dsimp only
  rw [upP_eq, bd_eq]
  rw [nw_eq (nx := 308), e9 _ (by decide +kernel)]
  unfold fH_init
  rw [sm_ck_pos (am_t_pk (by decide)), na_l (nx := 309) (v := 5) (n := 5) rfl (by decide), upP_eq, bd_eq, na_l (nx := 310) (v := 5) (n := 5) rfl (by decide), upP_eq, bd_eq, sm_ck_pos (am_t_pk (by decide)), upP_eq, bd_eq, Option.bind_some]
  dsimp only
  rw [upP_eq, bd_eq]
  rw [nw_eq (nx := 311), e9 _ (by decide +kernel)]
  unfold fR_init
  rw [sm_ck_pos (am_t_pk (by decide)), na_l (nx := 312) (v := 14) (n := 14) rfl (by decide), upP_eq, bd_eq, na_l (nx := 313) (v := 3) (n := 3) rfl (by decide), upP_eq, bd_eq, sm_ck_pos (am_t_pk (by decide)), upP_eq, bd_eq, Option.bind_some]
  dsimp only
  rw [upP_eq, bd_eq]
  rw [nw_eq (nx := 314)]
  unfold fC_init
  rw [sm_ck_pos (am_t_pk (by decide)), na_l (nx := 315) (v := 7) (n := 7) rfl (by decide), upP_eq, bd_eq, na_l (nx := 316) (v := 7) (n := 7) rfl (by decide), upP_eq, bd_eq, na_l (nx := 317) (v := 3) (n := 3) rfl (by decide), upP_eq, bd_eq, na_l (nx := 318) (v := 7) (n := 7) rfl (by decide), upP_eq, bd_eq, na_l (nx := 319) (v := 7) (n := 7) rfl (by decide), upP_eq, bd_eq, Option.bind_some]
  dsimp only
  rw [upP_eq, bd_eq, nq_l (nx := 320) (v := 4) (n := 4) rfl (by decide), upP_eq, bd_eq]
  refine Eq.trans a6 ?_
  rw [sm_ck_pos (am_t_pk (by decide)), na_l (nx := 329) (v := 7) (n := 7) rfl (by decide), upP_eq, bd_eq]
  rfl
end Ini3
