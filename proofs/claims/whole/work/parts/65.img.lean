/-! ===== calls: image, undo, back ===== -/
section Kp
variable {I R R' : am_M} {P P' : am_Q} {nx : Nat}
theorem IMG.kp (h : IMG I R P) (hL : LB P nx) (e1 : R' 2 4 = R 2 4) (e2 : R' 330 29 = R 330 29) (e3 : ∀ c, 94 ≤ c → c < 123 → R' c = R c) (e4 : ∀ c, c = 4 ∨ c = 5 ∨ c = 6 → R' c = R c) (e5 : ∀ j, 9000 ≤ j → j < 10500 → R' 357 j = R 357 j) (hP : ∀ a k, am_t a ≠ 1 → P' a k = P a k) (hPb : ∀ c, 94 ≤ c → c < 123 → P' (am_pk c 0 1) 10 = P (am_pk c 0 1) 10) : IMG I R' P' := by
  obtain ⟨a1, a2, a3⟩ := h
  refine ⟨by rw [e1]; exact a1, by rw [e2, e1]; exact a2, fun e => ?_⟩
  rw [e1] at e
  exact (a3 e).keep hL (fun c h1 h2 => e3 c (by omega) (by omega)) e4 (fun a k ha _ => hP a k ha) (fun i hi => hPb _ (by omega) (by omega)) frJ.rfl (fun j h1 h2 => e5 j (by omega) (by omega))
theorem HST.kp (h : HST I R P) (hL : LB P nx) (e1 : R' 123 = R 123) (e2 : R' 330 28 = R 330 28) (e3 : ∀ c, 125 ≤ c → c < 299 → R' c = R c) (e4 : ∀ c, c = 4 ∨ c = 5 ∨ c = 6 → R' c = R c) (e5 : ∀ j, j < 9000 → R' 357 j = R 357 j) (hP : ∀ a k, am_t a ≠ 1 → P' a k = P a k) (hPb : ∀ c, 125 ≤ c → c < 299 → P' (am_pk c 0 1) 10 = P (am_pk c 0 1) 10) : HST I R' P' := by
  obtain ⟨f, n, b1, b2, b3, b4, b5, b6⟩ := h
  refine ⟨f, n, b1, b2, by rw [e1]; exact b3, by rw [e1]; exact b4, by rw [e2]; exact b5, fun i hi => ?_⟩
  have hm : (f + i) % 6 < 6 := Nat.mod_lt _ (by decide)
  exact (b6 i hi).keep hL (fun c h1 h2 => e3 c (by omega) (by omega)) e4 (fun a k ha _ => hP a k ha) (fun i hi => hPb _ (by omega) (by omega)) frJ.rfl (fun j h1 h2 => e5 j (by omega))
end Kp
/-- whether a box is shut -/
def shR (w : am_M) : Nat → Nat → Prop
  | 0, _ => False
  | d + 1, k => w 1 k = 4 ∨ shR w d (k + 1)
section Img
variable {I R : am_M} {P : am_Q} {nx sl : Nat} {w : am_M} {t : Nat → Nat → List Nat} {m nb ns ne : Nat}
theorem op_image (h : INV I R P nx w t m nb ns ne) : OK2 I R P nx sl (fX_image (am_pk 2 0 12)) (fun Q => fM_image Q (am_pk 330 0 13)) := by
  have hS := h.sp
  have hle := h.mw.le
  obtain ⟨R1, P1, q1, c1, hS1, f1, g1⟩ := x_copy (nx := nx) (sl := sl) hS h.cw W94 (by decide)
  have hm0 : MW (am_up R1 2 4 1) w t m nb ns ne := h.mw.fr (fun c h1 h2 => by funext j; rw [am_up_ne (by omega), g1 c (by omega)])
  obtain ⟨R2, q2, k1, k2, k3, k4, k5⟩ := m_save (I := I) (pl := 6) hS1 hm0 (by decide)
  have hS := hS1
  have e : ∀ c, c ≠ 2 → (c < 94 ∨ 123 ≤ c) → c ≠ 330 → c ≠ 357 → am_up R2 330 29 1 c = R c := fun c n1 n2 n3 n4 => by funext j; rw [am_up_ne n3, k3 c n4 n3, am_up_ne n1, g1 c n2]
  have e330 : ∀ j, j ≠ 27 → j ≠ 29 → am_up R2 330 29 1 330 j = R 330 j := fun j n1 n2 => by rw [am_up_nk n2, k4 j n1, am_up_ne (by decide), g1 330 (by omega)]
  have e357 : ∀ j, (j < 9000 ∨ 10500 ≤ j) → am_up R2 330 29 1 357 j = R 357 j := fun j hj => by rw [am_up_ne (by decide), k5 j (by omega), am_up_ne (by decide), g1 357 (by omega)]
  have hL : LB P1 nx := h.1.1.2.2.1.cpy W7 hle.1 f1
  refine ⟨1, I, am_up R1 2 4 1, P1, nx, sl, am_up R2 330 29 1, ?_, ?_, ⟨w, t, m, nb, ns, ne, ?_, h.2.1, ?_, ?_⟩, frJ.rfl, Nat.le_refl _, by omega, by omega⟩
  · have hS := h.sp
    unfold fX_image
    rw [sm_ck_pos (am_t_pk (by decide)), sp_2_3 hS, sp_2_0 hS, sm_ck_pos (am_t_pk (by decide)), q1, Option.bind_some, bd_eq, put_up sc_2]
  · show fM_image P1 (am_pk 330 0 13) (put I (am_up R1 2 4 1)) = _
    unfold fM_image
    rw [sm_ck_pos (am_t_pk (by decide)), show fM_copiesAll P1 (am_pk 330 0 13) 6 1 (put I (am_up R1 2 4 1)) = _ from q2, Option.bind_some, bd_eq, put_up sc_330]
  · obtain ⟨g, r1, r2, r3, r4, r5⟩ := h.1
    refine ⟨⟨hS1, g.2.1, hL, g.2.2.2⟩, r1.k (e _ (by decide) (by decide) (by decide) (by decide)) (e _ (by decide) (by decide) (by decide) (by decide)) (e _ (by decide) (by decide) (by decide) (by decide)), r2.k (by rw [e 299 (by decide) (by decide) (by decide) (by decide)]) (e330 32 (by decide) (by decide)) (e _ (by decide) (by decide) (by decide) (by decide)) (e _ (by decide) (by decide) (by decide) (by decide)), r3.k (fun c h1 h2 => e c (by omega) (by omega) (by omega) (by omega)) (e _ (by decide) (by decide) (by decide) (by decide)) (e _ (by decide) (by decide) (by decide) (by decide)) (e _ (by decide) (by decide) (by decide) (by decide)), ⟨Or.inr ?_, ?_, fun _ => ⟨w, t, m, nb, ns, ne, h.2.1, ?_, ?_⟩⟩, r5.kp g.2.2.1 (e _ (by decide) (by decide) (by decide) (by decide)) (e330 28 (by decide) (by decide)) (fun c h1 h2 => e c (by omega) (by omega) (by omega) (by omega)) (fun c hc => e c (by omega) (by omega) (by omega) (by omega)) (fun j hj => e357 j (by omega)) f1.1 (fun c h1 h2 => f1.2.1 c 10 (by omega))⟩
    · rw [am_up_ne (by decide), k3 2 (by decide) (by decide), am_up_eq]
    · rw [am_up_eq, am_up_ne (by decide), k3 2 (by decide) (by decide), am_up_eq]
    · exact c1.fr (fun c h1 h2 => by funext j; rw [am_up_ne (by omega), k3 c (by omega) (by omega), am_up_ne (by omega)]) (fun c hc => by funext j; rw [am_up_ne (by omega), k3 c (by omega) (by omega), am_up_ne (by omega)])
    · exact k1.pk (fun j h1 h2 => by rw [am_up_ne (by decide)])
  · exact h.cw.keep h.1.1.2.2.1 (fun c h1 h2 => e c (by omega) (by omega) (by omega) (by omega)) (fun c hc => e c (by omega) (by omega) (by omega) (by omega)) (fun a k ha _ => f1.1 a k ha) (fun i hi => f1.2.1 _ 10 (by omega)) frJ.rfl
  · exact k2.fr (fun c h1 h2 => by funext j; rw [am_up_ne (by omega)])
theorem op_undo (h : INV I R P nx w t m nb ns ne) : OK2 I R P nx sl (fX_undo (am_pk 2 0 12)) (fun Q => fM_undo Q (am_pk 330 0 13)) := by
  have hS := h.sp
  by_cases z : R 2 4 = 0
  · refine h.fl2 (v := -1000004) (k := 3) (by decide) ?_ (fun R1 hM hc1 => ?_)
    · unfold fX_undo
      rw [sm_ck_pos (am_t_pk (by decide)), put_rd sc_2, if_neg (fun q => q z), x_f4 hS, Option.bind_some]
    · have e : R1 330 29 = 0 := by rw [hc1 330 (by decide), h.1.2.2.2.2.1.2.1]; exact z
      unfold fM_undo
      rw [sm_ck_pos (am_t_pk (by decide)), put_rd sc_330, if_neg (fun q => q e), m_f4 hS, Option.bind_some]
  · obtain ⟨i1, i2, i3⟩ := h.1.2.2.2.2.1
    have z1 : R 2 4 = 1 := i1.resolve_left z
    obtain ⟨w', t', m', nb', ns', ne', h9, hc', hm'⟩ := i3 z1
    have hle := hc'.le
    obtain ⟨R1, P1, q1, c1, hS1, f1, g1⟩ := x_copy (nx := nx) (sl := sl) hS hc' W7 (by decide)
    have hm0 : MW (PK (am_up R1 123 2 0) 6) w' t' m' nb' ns' ne' := hm'.pk (fun j h1 h2 => by rw [am_up_ne (by decide), g1 357 (by omega)])
    obtain ⟨R2, q2, k1, k3, k4⟩ := m_load (I := I) (pl := 6) hS1 hm0 (by decide)
    have e : ∀ c, (c < 7 ∨ 36 ≤ c) → (c < 332 ∨ 357 ≤ c) → c ≠ 330 → c ≠ 123 → am_up R2 330 28 0 c = R c := fun c n1 n2 n3 n4 => by funext j; rw [am_up_ne n3, k3 c n2 n3, am_up_ne n4, g1 c n1]
    have e330 : ∀ j, j ≠ 27 → j ≠ 28 → am_up R2 330 28 0 330 j = R 330 j := fun j n1 n2 => by rw [am_up_nk n2, k4 j n1, am_up_ne (by decide), g1 330 (by omega)]
    have hL : LB P1 nx := h.1.1.2.2.1.cpy W94 hle.1 f1
    have v1 : am_up R1 123 2 0 7 1 = w' 0 1 := by rw [am_up_ne (by decide)]; exact c1.rs (by decide)
    have e29 : am_up R1 123 2 0 330 29 = 1 := by rw [am_up_ne (by decide), g1 330 (by omega), i2]; exact z1
    refine ⟨w' 0 1, I, am_up R1 123 2 0, P1, nx, sl, am_up R2 330 28 0, ?_, ?_, ⟨w', t', m', nb', ns', ne', ?_, h9, ?_, ?_⟩, frJ.rfl, Nat.le_refl _, by omega, by omega⟩
    · unfold fX_undo
      rw [sm_ck_pos (am_t_pk (by decide)), put_rd sc_2, if_pos z, sp_2_3 hS, sp_2_0 hS, sm_ck_pos (am_t_pk (by decide)), q1, Option.bind_some]
      dsimp only
      rw [bd_eq, sp_2_5 hS1, sm_ck_pos (am_t_pk (by decide)), put_up sc_123, sp_2_0 hS1, sm_ck_pos (am_t_pk (by decide)), put_rd (sc_w0 W7), v1]
    · show fM_undo P1 (am_pk 330 0 13) (put I (am_up R1 123 2 0)) = _
      unfold fM_undo
      have v2 : am_up R2 330 28 0 332 3 = w' 0 1 := by rw [am_up_ne (by decide)]; exact k1.n3
      rw [sm_ck_pos (am_t_pk (by decide)), put_rd sc_330, e29, if_pos (by decide), show fM_copiesAll P1 (am_pk 330 0 13) 6 0 (put I (am_up R1 123 2 0)) = _ from q2, Option.bind_some, bd_eq, put_up sc_330, sp_330_1 hS1, sm_ck_pos (inl l_3 (by decide) (by decide)), cl_3, put_rd sc_332, v2]
    · obtain ⟨g, r1, r2, r3, r4, r5⟩ := h.1
      obtain ⟨f, n, b1, b2, b3, b4, b5, b6⟩ := r5
      refine ⟨⟨hS1, g.2.1, hL, g.2.2.2⟩, r1.k (e _ (by decide) (by decide) (by decide) (by decide)) (e _ (by decide) (by decide) (by decide) (by decide)) (e _ (by decide) (by decide) (by decide) (by decide)), r2.k (by rw [e 299 (by decide) (by decide) (by decide) (by decide)]) (e330 32 (by decide) (by decide)) (e _ (by decide) (by decide) (by decide) (by decide)) (e _ (by decide) (by decide) (by decide) (by decide)), r3.k (fun c h1 h2 => e c (by omega) (by omega) (by omega) (by omega)) (e _ (by decide) (by decide) (by decide) (by decide)) (e _ (by decide) (by decide) (by decide) (by decide)) (e _ (by decide) (by decide) (by decide) (by decide)), r4.kp g.2.2.1 (by rw [e 2 (by decide) (by decide) (by decide) (by decide)]) (e330 29 (by decide) (by decide)) (fun c h1 h2 => e c (by omega) (by omega) (by omega) (by omega)) (fun c hc => e c (by omega) (by omega) (by omega) (by omega)) (fun j _ _ => by rw [e 357 (by decide) (by decide) (by decide) (by decide)]) f1.1 (fun c h1 h2 => f1.2.1 c 10 (by omega)), ⟨f, 0, b1, by omega, ?_, ?_, ?_, fun i hi => absurd hi (by omega)⟩⟩
      · rw [am_up_ne (by decide), k3 123 (by decide) (by decide), am_up_nk (by decide), g1 123 (by omega)]; exact b3
      · rw [am_up_ne (by decide), k3 123 (by decide) (by decide), am_up_eq]; rfl
      · rw [am_up_eq]; rfl
    · exact c1.fr (fun c h1 h2 => by funext j; rw [am_up_ne (by omega), k3 c (by omega) (by omega), am_up_ne (by omega)]) (fun c hc => by funext j; rw [am_up_ne (by omega), k3 c (by omega) (by omega), am_up_ne (by omega)])
    · exact k1.fr (fun c h1 h2 => by funext j; rw [am_up_ne (by omega)])
theorem x_shutL (hS : SP P) (hA : apok I) (h : CW I R P 7 w t m nb ns ne) : ∀ (d k fu : Nat), d < fu → k + d = nb → fW_hasShut_L2 (put I R) P (some 1) (some 0) fu (am_pk 7 0 11) (nI k) = some (bI (shR w d k))
  | 0, k, fu, h1, h2 => by
    obtain ⟨fu, rfl⟩ : ∃ n', fu = n' + 1 := ⟨fu - 1, by omega⟩
    have hle := h.le
    have hb := h.1
    show fW_hasShut_B2 _ _ _ _ _ _ _ = _
    unfold fW_hasShut_B2
    simp (maxSteps := 1000000) (disch := first | omega | assumption) only [sm_bd, Option.bind_some, ck_tt, ck_in, ck_iw, ck_ia, ck_iz, ck_01, ck_in_0, ck_iw_0, cl_0, ck_in_1, ck_iw_1, cl_1, ck_in_2, ck_iw_2, cl_2, ck_in_3, ck_iw_3, cl_3, ck_in_4, ck_iw_4, cl_4, ck_in_5, ck_iw_5, cl_5, ck_in_6, ck_iw_6, cl_6, ck_in_7, ck_iw_7, cl_7, ck_in_8, ck_iw_8, cl_8, ck_in_9, ck_iw_9, cl_9, nI_clamp, lm_2, lm_4, lm_10, lm_14, lm_24, lm_80, lm_100, lm_1500, nI_add, nI_1, pk_m1, nI_pred, sp_w9 hS hb, sp_w10 hS hb, sp_w11 hS hb, sp_w12 hS hb, sp_w13 hS hb, sp_w14 hS hb, sp_w15 hS hb, put_rd (sc_w0 hb), put_up (sc_w0 hb), put_rd (sc_w3 hb), put_up (sc_w3 hb), put_rd (sc_w4 hb), put_up (sc_w4 hb), put_rd (sc_w5 hb), put_up (sc_w5 hb), put_rd (sc_w6 hb), put_up (sc_w6 hb), put_rd (sc_w7 hb), put_up (sc_w7 hb), h.c6]
    rw [if_pos (by rw [nI_leI (by omega) (by omega)]; omega), bI_f (show ¬ shR w 0 k from fun z => z)]
  | d + 1, k, fu, h1, h2 => by
    obtain ⟨fu, rfl⟩ : ∃ n', fu = n' + 1 := ⟨fu - 1, by omega⟩
    have hle := h.le
    have hb := h.1
    have hk : k < nb := by omega
    obtain ⟨⟨q, hq, eq⟩, -⟩ := h.2.2.1.2.1 k hk
    have hu : fX_isUnder (put I R) P (nI q) 4 = some (bI (undF (nI q) 4)) := h_isUnder hA hq (j := 4) (by decide)
    have eu : undF (nI q) 4 ↔ w 1 k = 4 := by
      rw [eq]
      unfold undF
      refine ⟨?_, fun z => Or.inr (Or.inl z)⟩
      rintro (z | z | z | z)
      · exact absurd z (by decide)
      · exact z
      · exact absurd z.1 (by decide)
      · exact absurd z.1 (by decide)
    show fW_hasShut_B2 _ _ _ _ _ _ _ = _
    unfold fW_hasShut_B2
    simp (maxSteps := 1000000) (disch := first | omega | assumption) only [sm_bd, Option.bind_some, ck_tt, ck_in, ck_iw, ck_ia, ck_iz, ck_01, ck_in_0, ck_iw_0, cl_0, ck_in_1, ck_iw_1, cl_1, ck_in_2, ck_iw_2, cl_2, ck_in_3, ck_iw_3, cl_3, ck_in_4, ck_iw_4, cl_4, ck_in_5, ck_iw_5, cl_5, ck_in_6, ck_iw_6, cl_6, ck_in_7, ck_iw_7, cl_7, ck_in_8, ck_iw_8, cl_8, ck_in_9, ck_iw_9, cl_9, nI_clamp, lm_2, lm_4, lm_10, lm_14, lm_24, lm_80, lm_100, lm_1500, nI_add, nI_1, pk_m1, nI_pred, sp_w9 hS hb, sp_w10 hS hb, sp_w11 hS hb, sp_w12 hS hb, sp_w13 hS hb, sp_w14 hS hb, sp_w15 hS hb, put_rd (sc_w0 hb), put_up (sc_w0 hb), put_rd (sc_w3 hb), put_up (sc_w3 hb), put_rd (sc_w4 hb), put_up (sc_w4 hb), put_rd (sc_w5 hb), put_up (sc_w5 hb), put_rd (sc_w6 hb), put_up (sc_w6 hb), put_rd (sc_w7 hb), put_up (sc_w7 hb), h.c6, sp_bx hS hb, put_rd (bxr h hk), (show R (7 + 8 + k) 0 = nI q from (h.rb hk (by decide)).trans eq), hu, bI_if]
    rw [if_neg (by rw [nI_leI (by omega) (by omega)]; omega)]
    show _ = some (bI (w 1 k = 4 ∨ shR w d (k + 1)))
    by_cases e : w 1 k = 4
    · rw [if_pos (eu.mpr e), bI_t (Or.inl e)]
    · rw [if_neg (fun z => e (eu.mp z)), x_shutL hS hA h d (k + 1) fu (by omega) (by omega)]
      exact congrArg some (bI_c ⟨Or.inr, fun z => z.resolve_left e⟩)
theorem m_shutL (hS : SP P) (h : MW R w t m nb ns ne) {l1 : Int32} {e1 : Nat → am_M → Option (Int32 × am_M)} {e2 : Nat → Int32 → am_M → Option (Int32 × am_M)} : ∀ (d k fu : Nat), d < fu → k + d = nb → fM_back_L19 P e1 e2 fu (am_pk 330 0 13) l1 (nI k) (put I R) = cif (shR w d k) (e1 (am_pk 330 0 13) (put I R)) (e2 (am_pk 330 0 13) l1 (put I R))
  | 0, k, fu, h1, h2 => by
    obtain ⟨fu, rfl⟩ : ∃ n', fu = n' + 1 := ⟨fu - 1, by omega⟩
    have hle := h.le
    show fM_back_B19 _ _ _ _ _ _ _ _ = _
    unfold fM_back_B19
    simp (maxSteps := 1000000) (disch := first | omega | assumption) only [sm_bd, Option.bind_some, ck_tt, ck_in, ck_iw, ck_ia, ck_iz, ck_01, ck_in_0, ck_iw_0, cl_0, ck_in_1, ck_iw_1, cl_1, ck_in_2, ck_iw_2, cl_2, ck_in_3, ck_iw_3, cl_3, ck_in_4, ck_iw_4, cl_4, ck_in_5, ck_iw_5, cl_5, ck_in_6, ck_iw_6, cl_6, ck_in_7, ck_iw_7, cl_7, ck_in_8, ck_iw_8, cl_8, ck_in_9, ck_iw_9, cl_9, nI_clamp, lm_2, lm_4, lm_10, lm_14, lm_24, lm_80, lm_100, lm_1500, nI_add, nI_1, pk_m1, nI_pred, sp_330_0 hS, sp_330_1 hS, sp_330_2 hS, sp_330_3 hS, sp_330_4 hS, sp_330_5 hS, sp_330_6 hS, sp_330_7 hS, sp_330_8 hS, sp_330_9 hS, sp_330_10 hS, sp_330_11 hS, sp_330_12 hS, sp_330_13 hS, sp_330_14 hS, sp_330_15 hS, sp_330_16 hS, sp_330_17 hS, sp_330_18 hS, sp_330_19 hS, sp_330_20 hS, sp_330_21 hS, sp_330_22 hS, sp_330_23 hS, sp_330_24 hS, sp_330_25 hS, sp_330_26 hS, sp_330_30 hS, sp_330_31 hS, sp_330_33 hS, sp_330_34 hS, sp_330_35 hS, sp_330_36 hS, sp_330_41 hS, sp_330_42 hS, sp_330_43 hS, sp_330_44 hS, sp_330_47 hS, sp_330_48 hS, sp_330_49 hS, sp_330_51 hS, sp_330_52 hS, sp_330_54 hS, sp_330_55 hS, sp_330_56 hS, sp_330_57 hS, sp_330_58 hS, sp_330_61 hS, put_rd sc_330, put_up sc_330, put_rd sc_331, put_up sc_331, put_rd sc_332, put_up sc_332, put_rd sc_333, put_up sc_333, put_rd sc_334, put_up sc_334, put_rd sc_335, put_up sc_335, put_rd sc_336, put_up sc_336, put_rd sc_337, put_up sc_337, put_rd sc_338, put_up sc_338, put_rd sc_339, put_up sc_339, put_rd sc_340, put_up sc_340, put_rd sc_341, put_up sc_341, put_rd sc_342, put_up sc_342, put_rd sc_343, put_up sc_343, put_rd sc_344, put_up sc_344, put_rd sc_345, put_up sc_345, put_rd sc_346, put_up sc_346, put_rd sc_347, put_up sc_347, put_rd sc_348, put_up sc_348, put_rd sc_349, put_up sc_349, put_rd sc_350, put_up sc_350, put_rd sc_351, put_up sc_351, put_rd sc_352, put_up sc_352, put_rd sc_353, put_up sc_353, put_rd sc_354, put_up sc_354, put_rd sc_355, put_up sc_355, put_rd sc_356, put_up sc_356, put_rd sc_357, put_up sc_357, put_rd sc_358, put_up sc_358, put_rd sc_359, put_up sc_359, put_rd sc_360, put_up sc_360, put_rd sc_361, put_up sc_361, put_rd sc_362, put_up sc_362, put_rd sc_363, put_up sc_363, put_rd sc_364, put_up sc_364, put_rd sc_365, put_up sc_365, put_rd sc_366, put_up sc_366, put_rd sc_367, put_up sc_367, put_rd sc_368, put_up sc_368, put_rd sc_369, put_up sc_369, put_rd sc_370, put_up sc_370, put_rd sc_371, put_up sc_371, put_rd sc_372, put_up sc_372, put_rd sc_373, put_up sc_373, put_rd sc_374, put_up sc_374, put_rd sc_375, put_up sc_375, put_rd sc_376, put_up sc_376, put_rd sc_377, put_up sc_377, put_rd sc_378, put_up sc_378, h.n0]
    rw [if_pos (by rw [nI_leI (by omega) (by omega)]; omega), cif_f (show ¬ shR w 0 k from fun z => z)]
  | d + 1, k, fu, h1, h2 => by
    obtain ⟨fu, rfl⟩ : ∃ n', fu = n' + 1 := ⟨fu - 1, by omega⟩
    have hle := h.le
    have hk : k < nb := by omega
    show fM_back_B19 _ _ _ _ _ _ _ _ = _
    unfold fM_back_B19
    simp (maxSteps := 1000000) (disch := first | omega | assumption) only [sm_bd, Option.bind_some, ck_tt, ck_in, ck_iw, ck_ia, ck_iz, ck_01, ck_in_0, ck_iw_0, cl_0, ck_in_1, ck_iw_1, cl_1, ck_in_2, ck_iw_2, cl_2, ck_in_3, ck_iw_3, cl_3, ck_in_4, ck_iw_4, cl_4, ck_in_5, ck_iw_5, cl_5, ck_in_6, ck_iw_6, cl_6, ck_in_7, ck_iw_7, cl_7, ck_in_8, ck_iw_8, cl_8, ck_in_9, ck_iw_9, cl_9, nI_clamp, lm_2, lm_4, lm_10, lm_14, lm_24, lm_80, lm_100, lm_1500, nI_add, nI_1, pk_m1, nI_pred, sp_330_0 hS, sp_330_1 hS, sp_330_2 hS, sp_330_3 hS, sp_330_4 hS, sp_330_5 hS, sp_330_6 hS, sp_330_7 hS, sp_330_8 hS, sp_330_9 hS, sp_330_10 hS, sp_330_11 hS, sp_330_12 hS, sp_330_13 hS, sp_330_14 hS, sp_330_15 hS, sp_330_16 hS, sp_330_17 hS, sp_330_18 hS, sp_330_19 hS, sp_330_20 hS, sp_330_21 hS, sp_330_22 hS, sp_330_23 hS, sp_330_24 hS, sp_330_25 hS, sp_330_26 hS, sp_330_30 hS, sp_330_31 hS, sp_330_33 hS, sp_330_34 hS, sp_330_35 hS, sp_330_36 hS, sp_330_41 hS, sp_330_42 hS, sp_330_43 hS, sp_330_44 hS, sp_330_47 hS, sp_330_48 hS, sp_330_49 hS, sp_330_51 hS, sp_330_52 hS, sp_330_54 hS, sp_330_55 hS, sp_330_56 hS, sp_330_57 hS, sp_330_58 hS, sp_330_61 hS, put_rd sc_330, put_up sc_330, put_rd sc_331, put_up sc_331, put_rd sc_332, put_up sc_332, put_rd sc_333, put_up sc_333, put_rd sc_334, put_up sc_334, put_rd sc_335, put_up sc_335, put_rd sc_336, put_up sc_336, put_rd sc_337, put_up sc_337, put_rd sc_338, put_up sc_338, put_rd sc_339, put_up sc_339, put_rd sc_340, put_up sc_340, put_rd sc_341, put_up sc_341, put_rd sc_342, put_up sc_342, put_rd sc_343, put_up sc_343, put_rd sc_344, put_up sc_344, put_rd sc_345, put_up sc_345, put_rd sc_346, put_up sc_346, put_rd sc_347, put_up sc_347, put_rd sc_348, put_up sc_348, put_rd sc_349, put_up sc_349, put_rd sc_350, put_up sc_350, put_rd sc_351, put_up sc_351, put_rd sc_352, put_up sc_352, put_rd sc_353, put_up sc_353, put_rd sc_354, put_up sc_354, put_rd sc_355, put_up sc_355, put_rd sc_356, put_up sc_356, put_rd sc_357, put_up sc_357, put_rd sc_358, put_up sc_358, put_rd sc_359, put_up sc_359, put_rd sc_360, put_up sc_360, put_rd sc_361, put_up sc_361, put_rd sc_362, put_up sc_362, put_rd sc_363, put_up sc_363, put_rd sc_364, put_up sc_364, put_rd sc_365, put_up sc_365, put_rd sc_366, put_up sc_366, put_rd sc_367, put_up sc_367, put_rd sc_368, put_up sc_368, put_rd sc_369, put_up sc_369, put_rd sc_370, put_up sc_370, put_rd sc_371, put_up sc_371, put_rd sc_372, put_up sc_372, put_rd sc_373, put_up sc_373, put_rd sc_374, put_up sc_374, put_rd sc_375, put_up sc_375, put_rd sc_376, put_up sc_376, put_rd sc_377, put_up sc_377, put_rd sc_378, put_up sc_378, h.n0, h.b1 hk]
    rw [if_neg (by rw [nI_leI (by omega) (by omega)]; omega)]
    by_cases e : w 1 k = 4
    · rw [if_neg (fun z => z e), cif_t (show shR w (d + 1) k from Or.inl e)]
    · rw [if_pos e]
      refine Eq.trans (m_shutL hS h d (k + 1) fu (by omega) (by omega)) ?_
      have eq : shR w (d + 1) k ↔ shR w d (k + 1) := ⟨fun z => z.resolve_left e, Or.inr⟩
      rw [propext eq]
theorem op_back (h : INV I R P nx w t m nb ns ne) {a : Int32} : OK2 I R P nx sl (fX_back (am_pk 2 0 12) a) (fun Q => fM_back Q (am_pk 330 0 13) a) := by
  have hS := h.sp
  have hb := W7
  have hle := h.mw.le
  have hx : fW_hasShut (put I R) P (am_pk 7 0 11) = some (bI (shR w nb 0)) := by
    unfold fW_hasShut
    exact x_shutL hS h.ap h.cw nb 0 sm_fu (sm_fu_lt (by omega)) (by omega)
  obtain ⟨f, n, b1, b2, b3, b4, b5, b6⟩ := h.1.2.2.2.2.2
  by_cases hr : 1 ≤ a ∧ a ≤ 6
  · have h1 : ¬ a < 1 := i_nl.mpr hr.1
    have hm : ∀ Q, SP Q → ∀ R1, MW R1 w t m nb ns ne → R1 330 28 = nI n → fM_back Q (am_pk 330 0 13) a (put I R1) = cif (shR w nb 0) (some (-1000005, put I (am_up R1 331 4 (R1 331 4 + 1)))) (if a ≤ nI n then Option.bind (fM_copiesAll Q (am_pk 330 0 13) (nI n - a) 0 (put I (am_up R1 330 28 (nI n - a)))) (fun y14 => sm_ck (sm_in (am_pk 332 9 20) 3) (some (y14 (am_pk 332 9 20) 3, y14))) else some (-1000004, put I (am_up R1 331 3 (R1 331 3 + 1)))) := by
      intro Q hS R1 hM e28
      unfold fM_back
      rw [h_within, Option.bind_some, bI_ifn, if_pos hr]
      refine Eq.trans (m_shutL (I := I) hS hM nb 0 sm_fu (sm_fu_lt (by omega)) (by omega)) ?_
      by_cases q : shR w nb 0
      · rw [cif_t q, cif_t q, sm_ck_pos (am_t_pk (by decide)), m_f5 hS, Option.bind_some]
      · rw [cif_f q, cif_f q, sm_ck_pos (am_t_pk (by decide)), put_rd sc_330, e28]
        by_cases q2 : a ≤ nI n
        · rw [if_pos q2, if_pos q2, bd_eq, put_up sc_330, put_rd sc_330, am_up_eq, sp_330_1 hS, cl_3]
        · rw [if_neg q2, if_neg q2, m_f4 hS, Option.bind_some]
    by_cases q : shR w nb 0
    · refine h.fl2 (v := -1000005) (k := 4) (by decide) ?_ (fun R1 hM hc1 => ?_)
      · unfold fX_back
        rw [if_neg h1, if_pos hr.2, sm_ck_pos (am_t_pk (by decide)), sp_2_0 hS, sm_ck_pos (am_t_pk (by decide)), hx, Option.bind_some, bI_if, if_pos q, x_f5 hS, Option.bind_some]
      · rw [hm P hS R1 hM (by rw [hc1 330 (by decide)]; exact b5), cif_t q]
    · by_cases q2 : a ≤ nI n
      · obtain ⟨k, k1, k2, rfl⟩ := rng_nI (lo := 1) (hi := 6) hr.1 hr.2 (by decide) (by decide)
        have hkn : k ≤ n := (nI_leI (by omega) (by omega)).mp q2
        obtain ⟨w', t', m', nb', ns', ne', h9, hc', hm'⟩ := b6 (n - k) (by omega)
        have hmod : (f + (n - k)) % 6 < 6 := Nat.mod_lt _ (by decide)
        have hWs := Whi hmod
        have hle' := hc'.le
        have hc2 : CW I (am_up R 123 2 (nI (n - k))) P (125 + 29 * ((f + (n - k)) % 6)) w' t' m' nb' ns' ne' := hc'.fr (fun c h1 h2 => by funext j; rw [am_up_ne (by omega)]) (fun c hc => by funext j; rw [am_up_ne (by omega)])
        obtain ⟨R1, P1, q1, c1, hS1, f1, g1⟩ := x_copy (nx := nx) (sl := sl) hS hc2 W7 (by omega)
        have es : nI n - nI k = nI (n - k) := pk_sub hkn
        have hm0 : MW (PK (am_up R1 330 28 (nI (n - k))) (n - k)) w' t' m' nb' ns' ne' := hm'.pk (fun j h1 h2 => by rw [am_up_ne (by decide), g1 357 (by omega), am_up_ne (by decide)])
        obtain ⟨R2, p2, l1, l3, l4⟩ := m_load (I := I) (pl := n - k) hS1 hm0 (by omega)
        have hmR1 : MW R1 w t m nb ns ne := h.mw.fr (fun c h1 h2 => by funext j; rw [g1 c (by omega), am_up_ne (by omega)])
        have e : ∀ c, (c < 7 ∨ 36 ≤ c) → (c < 332 ∨ 357 ≤ c) → c ≠ 330 → c ≠ 123 → R2 c = R c := fun c n1 n2 n3 n4 => by funext j; rw [l3 c n2 n3, am_up_ne n3, g1 c n1, am_up_ne n4]
        have e330 : ∀ j, j ≠ 27 → j ≠ 28 → R2 330 j = R 330 j := fun j n1 n2 => by rw [l4 j n1, am_up_nk n2, g1 330 (by omega), am_up_ne (by decide)]
        have hL : LB P1 nx := h.1.1.2.2.1.cpy hWs hle'.1 f1
        have v1 : R1 7 1 = w' 0 1 := c1.rs (by decide)
        refine ⟨w' 0 1, I, R1, P1, nx, sl, R2, ?_, ?_, ⟨w', t', m', nb', ns', ne', ?_, h9, ?_, l1⟩, frJ.rfl, Nat.le_refl _, by omega, by omega⟩
        · unfold fX_back fY_takeBack
          have ei : sm_rem (nI f + nI (n - k)) 6 = nI ((f + (n - k)) % 6) := by
            unfold sm_rem
            rw [nI_add, l_6, pk_rem (by omega) (by decide) (by decide)]
          have b3' : am_up R 123 2 (nI (n - k)) 123 1 = nI f := by rw [am_up_nk (by decide)]; exact b3
          rw [if_neg h1, if_pos hr.2, sm_ck_pos (am_t_pk (by decide)), sp_2_0 hS, sm_ck_pos (am_t_pk (by decide)), hx, Option.bind_some, bI_if, if_neg q, sp_2_5 hS, sm_ck_pos (am_t_pk (by decide)), put_rd sc_123, b4, if_pos q2, sm_ck_pos (am_t_pk (by decide)), if_pos q2, bd_eq, es, put_up sc_123, put_rd sc_123, put_rd sc_123, b3', am_up_eq, ei, sp_123_0 hS, nI_clamp (show (f + (n - k)) % 6 < 2 ^ 31 by omega), sp_hi hS hmod, sm_ck_pos (am_t_pk (by decide)), sm_ck_pos (sm_ia_nI (by decide) (by decide) (by decide) hmod), q1, Option.bind_some, Option.bind_some]
          dsimp only
          rw [sp_2_0 hS1, sm_ck_pos (am_t_pk (by decide)), put_rd (sc_w0 W7), v1]
        · show fM_back P1 (am_pk 330 0 13) (nI k) (put I R1) = _
          rw [hm P1 hS1 R1 hmR1 (by rw [g1 330 (by omega), am_up_ne (by decide)]; exact b5), cif_f q, if_pos q2, es, p2, Option.bind_some, sm_ck_pos (inl l_3 (by decide) (by decide)), put_rd sc_332, l1.n3]
        · obtain ⟨g, r1, r2, r3, r4, -⟩ := h.1
          refine ⟨⟨hS1, g.2.1, hL, g.2.2.2⟩, r1.k (e _ (by decide) (by decide) (by decide) (by decide)) (e _ (by decide) (by decide) (by decide) (by decide)) (e _ (by decide) (by decide) (by decide) (by decide)), r2.k (by rw [e 299 (by decide) (by decide) (by decide) (by decide)]) (e330 32 (by decide) (by decide)) (e _ (by decide) (by decide) (by decide) (by decide)) (e _ (by decide) (by decide) (by decide) (by decide)), r3.k (fun c h1 h2 => e c (by omega) (by omega) (by omega) (by omega)) (e _ (by decide) (by decide) (by decide) (by decide)) (e _ (by decide) (by decide) (by decide) (by decide)) (e _ (by decide) (by decide) (by decide) (by decide)), r4.kp g.2.2.1 (by rw [e 2 (by decide) (by decide) (by decide) (by decide)]) (e330 29 (by decide) (by decide)) (fun c h1 h2 => e c (by omega) (by omega) (by omega) (by omega)) (fun c hc => e c (by omega) (by omega) (by omega) (by omega)) (fun j _ _ => by rw [e 357 (by decide) (by decide) (by decide) (by decide)]) f1.1 (fun c h1 h2 => f1.2.1 c 10 (by omega)), ⟨f, n - k, b1, by omega, ?_, ?_, ?_, fun i hi => ?_⟩⟩
          · rw [l3 123 (by decide) (by decide), am_up_ne (by decide), g1 123 (by omega), am_up_nk (by decide)]; exact b3
          · rw [l3 123 (by decide) (by decide), am_up_ne (by decide), g1 123 (by omega), am_up_eq]
          · rw [l4 28 (by decide), am_up_eq]
          · have hmi : (f + i) % 6 < 6 := Nat.mod_lt _ (by decide)
            exact (b6 i (by omega)).keep g.2.2.1 (fun c h1 h2 => e c (by omega) (by omega) (by omega) (by omega)) (fun c hc => e c (by omega) (by omega) (by omega) (by omega)) (fun a k ha _ => f1.1 a k ha) (fun i hi => f1.2.1 _ 10 (by omega)) frJ.rfl (fun j _ _ => by rw [e 357 (by decide) (by decide) (by decide) (by decide)])
        · exact c1.fr (fun c h1 h2 => by funext j; rw [l3 c (by omega) (by omega), am_up_ne (by omega)]) (fun c hc => by funext j; rw [l3 c (by omega) (by omega), am_up_ne (by omega)])
      · refine h.fl2 (v := -1000004) (k := 3) (by decide) ?_ (fun R1 hM hc1 => ?_)
        · unfold fX_back
          rw [if_neg h1, if_pos hr.2, sm_ck_pos (am_t_pk (by decide)), sp_2_0 hS, sm_ck_pos (am_t_pk (by decide)), hx, Option.bind_some, bI_if, if_neg q, sp_2_5 hS, sm_ck_pos (am_t_pk (by decide)), put_rd sc_123, b4, if_neg q2, x_f4 hS, Option.bind_some]
        · rw [hm P hS R1 hM (by rw [hc1 330 (by decide)]; exact b5), cif_f q, if_neg q2]
  · refine h.fl2 (v := -1000001) (k := 0) (by decide) ?_ (fun R1 hM hc1 => ?_)
    · unfold fX_back
      by_cases h1 : a < 1
      · rw [if_pos h1, sm_ck_pos (am_t_pk (by decide)), x_f1 hS, Option.bind_some]
      · rw [if_neg h1, if_neg (fun z => hr ⟨i_nl.mp h1, z⟩), sm_ck_pos (am_t_pk (by decide)), x_f1 hS, Option.bind_some]
    · unfold fM_back
      rw [h_within, Option.bind_some, bI_ifn, if_neg hr, sm_ck_pos (am_t_pk (by decide)), m_f1 hS, Option.bind_some]
end Img
