/-! ===== calls: judge, would ===== -/
/-- how far a record goes with a seam -/
def jdF (ws : Nat → am_M) (s : Nat) (f : Nat → Int32) : Nat → Nat → Nat
  | 0, i => i
  | d + 1, i => if ws (i + 1) 15 s = f i then jdF ws s f d (i + 1) else i
theorem jdF_cg {ws : Nat → am_M} {s : Nat} {f g : Nat → Int32} : ∀ (d i : Nat), (∀ j, i ≤ j → j < i + d → (ws (j + 1) 15 s = f j ↔ ws (j + 1) 15 s = g j)) → jdF ws s f d i = jdF ws s g d i
  | 0, _, _ => rfl
  | d + 1, i, h => by
    show (if _ then _ else _) = (if _ then _ else _)
    have e := h i (by omega) (by omega)
    by_cases q : ws (i + 1) 15 s = f i
    · rw [if_pos q, if_pos (e.mp q), jdF_cg d (i + 1) (fun j h1 h2 => h j (by omega) (by omega))]
    · rw [if_neg q, if_neg (fun z => q (e.mpr z))]
theorem jdF_s {ws : Nat → am_M} {s : Nat} {f : Nat → Int32} {d i : Nat} : jdF ws s f (d + 1) i = if ws (i + 1) 15 s = f i then jdF ws s f d (i + 1) else i := rfl
section Judge
variable {I R : am_M} {P : am_Q} {nx sl : Nat} {w : am_M} {t : Nat → Nat → List Nat} {m nb ns ne : Nat}
theorem x_judL (hA : apok I) (hS : SP P) {k0 s u z : Nat} (hs : s < ns) (hu : u < 4) (hz : z ≤ 24) (hk : k0 ≤ 999) (e0 : w 0 1 = nI k0) {f : Nat → Int32} : ∀ (d i fu : Nat) (R : am_M), d < fu → i + d = z → CW I R P 36 (hrN t m nb ns ne i w) t m nb ns ne → R (321 + 2 * u) 1 = nI z → R (322 + 2 * u) = f → ∃ R', fX_judge_L61 (fun l4 I P nx sl => some (l4, I, P, nx, sl)) (fun l3 I P nx sl => sm_ck (am_t l3 = 9) <| some (I l3 1, I, P, nx, sl)) fu (am_pk 2 0 12) (nI s) (am_pk (321 + 2 * u) 0 9) (nI i) (put I R) P nx sl = some (nI (jdF (fun j => hrN t m nb ns ne j w) s f d i), put I R', P, nx, sl) ∧ fr 36 R R'
  | 0, i, fu, R, h1, h2, h, h3, h4 => by
    obtain ⟨fu, rfl⟩ : ∃ n', fu = n' + 1 := ⟨fu - 1, by omega⟩
    have hi : i = z := by omega
    subst hi
    refine ⟨R, ?_, fr.rfl⟩
    show fX_judge_B61 _ _ _ _ _ _ _ _ _ _ _ = _
    unfold fX_judge_B61
    rw [sm_ck_pos (am_t_pk (by decide)), put_rd (sc_sh hu), h3, if_pos (by rw [nI_leI (by omega) (by omega)]; omega)]
    dsimp only
    rw [sm_ck_pos (am_t_pk (by decide)), put_rd (sc_sh hu), h3]
    rfl
  | d + 1, i, fu, R, h1, h2, h, h3, h4 => by
    obtain ⟨fu, rfl⟩ : ∃ n', fu = n' + 1 := ⟨fu - 1, by omega⟩
    have hle := h.le
    have e1 := hrN_01 (t := t) (m := m) (nb := nb) (ns := ns) (ne := ne) e0 i
    obtain ⟨R1, y1, y2, y3⟩ := x_pass hS hA h ⟨k0 + i, by omega, hrs_01.trans e1⟩
    have g1 : R1 (36 + 15 + s) 4 = hrN t m nb ns ne (i + 1) w 15 s := y2.rm hs (by decide)
    have g2 : R1 (322 + 2 * u) = f := by rw [y3 _ (by omega) (by omega)]; exact h4
    have g3 : R1 (321 + 2 * u) 1 = nI z := by rw [y3 _ (by omega) (by omega)]; exact h3
    have run : ∀ rr, fX_judge_B61 (fun l4 I P nx sl => some (l4, I, P, nx, sl)) (fun l3 I P nx sl => sm_ck (am_t l3 = 9) <| some (I l3 1, I, P, nx, sl)) rr (am_pk 2 0 12) (nI s) (am_pk (321 + 2 * u) 0 9) (nI i) (put I R) P nx sl = if hrN t m nb ns ne (i + 1) w 15 s = f i then rr (am_pk 2 0 12) (nI s) (am_pk (321 + 2 * u) 0 9) (nI (i + 1)) (put I R1) P nx sl else some (nI i, put I R1, P, nx, sl) := by
      intro rr
      unfold fX_judge_B61
      rw [sm_ck_pos (am_t_pk (by decide)), put_rd (sc_sh hu), h3, if_neg (by rw [nI_leI (by omega) (by omega)]; omega), sm_ck_pos (am_t_pk (by decide)), sp_2_10 hS, sp_2_1 hS, sm_ck_pos (am_t_pk (by decide)), y1, Option.bind_some, sm_ck_pos (am_t_pk (by decide)), sp_w10 hS W36, nI_clamp (show s < 2 ^ 31 by omega), nI_clamp (show i < 2 ^ 31 by omega), sp_sm hS W36 (by omega), sp_sn hS hu, sm_ck_pos (sm_ia_nI (by decide) (by decide) (by decide) (by omega)), sm_ck_pos (am_t_pk (by decide)), sm_ck_pos (sm_in_nI (by decide) (by omega))]
      simp only [put_rd (sc_sm W36 (show s < 14 by omega)), put_rd (sc_sn hu), g1, g2, bd_eq, nI_1]
    show ∃ R', fX_judge_B61 _ _ _ _ _ _ _ _ _ _ _ = _ ∧ _
    rw [run, jdF_s]
    by_cases q : hrN t m nb ns ne (i + 1) w 15 s = f i
    · rw [if_pos q, if_pos q]
      obtain ⟨R', z1, z2⟩ := x_judL hA hS hs hu hz hk e0 d (i + 1) fu R1 (by omega) (by omega) y2 g3 g2
      exact ⟨R', z1, y3.tr z2⟩
    · rw [if_neg q, if_neg q]
      exact ⟨R1, rfl, y3⟩
theorem m_judL (hS : SP P) {k0 s u z : Nat} (hs : s < ns) (hu : u < 4) (hz : z ≤ 24) (hk : k0 ≤ 999) (e0 : w 0 1 = nI k0) {g : Nat → Int32} {ex : Nat → Int32 → am_M → am_Q → Nat → Nat → Option (Int32 × am_S)} : ∀ (d i fu : Nat) (I R : am_M) (nx sl : Nat), d + 1 < fu → i + d = z → 379 ≤ nx → MW R (hrN t m nb ns ne i w) t m nb ns ne → R 369 u = nI z → (∀ j, R 370 (24 * u + j) = g j) → ∃ I' R' e, fM_judge_L52 ex fu (am_pk 330 0 13) (nI s) (nI u) (nI i) 1 (put I R) P nx sl = ex (am_pk 330 0 13) (nI (jdF (fun j => hrN t m nb ns ne j w) s g d i)) (put I' R') P (nx + nb * e) (sl + 2 * (nb * e)) ∧ e ≤ d ∧ frM R R' ∧ frI I I'
  | 0, i, fu, I, R, nx, sl, h1, h2, h5, h, h3, h4 => by
    obtain ⟨fu, rfl⟩ : ∃ n', fu = n' + 1 := ⟨fu - 1, by omega⟩
    have hi : i = z := by omega
    subst hi
    refine ⟨I, R, 0, ?_, Nat.le_refl _, frM.rfl, frI.rfl⟩
    show fM_judge_B52 _ _ _ _ _ _ _ _ _ _ _ = _
    unfold fM_judge_B52
    rw [sm_ck_pos (am_t_pk (by decide)), sp_330_48 hS, nI_clamp (show u < 2 ^ 31 by omega), put_rd sc_369, h3, sm_ck_pos (sm_in_nI (by decide) hu), if_pos (by rw [nI_leI (by omega) (by omega)]; omega)]
    rfl
  | d + 1, i, fu, I, R, nx, sl, h1, h2, h5, h, h3, h4 => by
    obtain ⟨fu, rfl⟩ : ∃ n', fu = n' + 1 + 1 := ⟨fu - 2, by omega⟩
    have hle := h.le
    have e1 := hrN_01 (t := t) (m := m) (nb := nb) (ns := ns) (ne := ne) e0 i
    obtain ⟨I1, R1, y1, y2, y3, y4, y5⟩ := m_hour (I := I) (nx := nx) (sl := sl) hS h h5 (show k0 + i < 2000 by omega) e1
    have g1 : R1 348 s = hrN t m nb ns ne (i + 1) w 15 s := y2.s15 hs
    have g2 : ∀ j, R1 370 (24 * u + j) = g j := fun j => by rw [y4.1 370 (by decide) (by decide) (by decide)]; exact h4 j
    have g3 : R1 369 u = nI z := by rw [y4.1 369 (by decide) (by decide) (by decide)]; exact h3
    have run : ∀ rr, fM_judge_B52 ex rr (am_pk 330 0 13) (nI s) (nI u) (nI i) 1 (put I R) P nx sl = if hrN t m nb ns ne (i + 1) w 15 s = g i then rr (am_pk 330 0 13) (nI s) (nI u) (nI (i + 1)) 1 (put I1 R1) P (nx + nb) (sl + 2 * nb) else rr (am_pk 330 0 13) (nI s) (nI u) (nI i) 0 (put I1 R1) P (nx + nb) (sl + 2 * nb) := by
      intro rr
      unfold fM_judge_B52 fM_judge_J96 fM_judge_J109
      rw [sm_ck_pos (am_t_pk (by decide)), sp_330_48 hS, nI_clamp (show u < 2 ^ 31 by omega), put_rd sc_369, h3, sm_ck_pos (sm_in_nI (by decide) hu), if_neg (by rw [nI_leI (by omega) (by omega)]; omega), if_neg (by decide), y1, Option.bind_some]
      have hs14 : s < 14 := by omega
      simp (maxSteps := 1000000) (disch := first | omega | assumption) only [sm_bd, Option.bind_some, ck_tt, ck_in, ck_iw, ck_ia, ck_iz, ck_01, ck_in_0, ck_iw_0, cl_0, ck_in_1, ck_iw_1, cl_1, ck_in_2, ck_iw_2, cl_2, ck_in_3, ck_iw_3, cl_3, ck_in_4, ck_iw_4, cl_4, ck_in_5, ck_iw_5, cl_5, ck_in_6, ck_iw_6, cl_6, ck_in_7, ck_iw_7, cl_7, ck_in_8, ck_iw_8, cl_8, ck_in_9, ck_iw_9, cl_9, nI_clamp, lm_2, lm_4, lm_10, lm_14, lm_24, lm_80, lm_100, lm_1500, nI_add, nI_1, pk_m1, nI_pred, sp_330_0 hS, sp_330_1 hS, sp_330_2 hS, sp_330_3 hS, sp_330_4 hS, sp_330_5 hS, sp_330_6 hS, sp_330_7 hS, sp_330_8 hS, sp_330_9 hS, sp_330_10 hS, sp_330_11 hS, sp_330_12 hS, sp_330_13 hS, sp_330_14 hS, sp_330_15 hS, sp_330_16 hS, sp_330_17 hS, sp_330_18 hS, sp_330_19 hS, sp_330_20 hS, sp_330_21 hS, sp_330_22 hS, sp_330_23 hS, sp_330_24 hS, sp_330_25 hS, sp_330_26 hS, sp_330_30 hS, sp_330_31 hS, sp_330_33 hS, sp_330_34 hS, sp_330_35 hS, sp_330_36 hS, sp_330_41 hS, sp_330_42 hS, sp_330_43 hS, sp_330_44 hS, sp_330_47 hS, sp_330_48 hS, sp_330_49 hS, sp_330_51 hS, sp_330_52 hS, sp_330_54 hS, sp_330_55 hS, sp_330_56 hS, sp_330_57 hS, sp_330_58 hS, sp_330_61 hS, put_rd sc_330, put_up sc_330, put_rd sc_331, put_up sc_331, put_rd sc_332, put_up sc_332, put_rd sc_333, put_up sc_333, put_rd sc_334, put_up sc_334, put_rd sc_335, put_up sc_335, put_rd sc_336, put_up sc_336, put_rd sc_337, put_up sc_337, put_rd sc_338, put_up sc_338, put_rd sc_339, put_up sc_339, put_rd sc_340, put_up sc_340, put_rd sc_341, put_up sc_341, put_rd sc_342, put_up sc_342, put_rd sc_343, put_up sc_343, put_rd sc_344, put_up sc_344, put_rd sc_345, put_up sc_345, put_rd sc_346, put_up sc_346, put_rd sc_347, put_up sc_347, put_rd sc_348, put_up sc_348, put_rd sc_349, put_up sc_349, put_rd sc_350, put_up sc_350, put_rd sc_351, put_up sc_351, put_rd sc_352, put_up sc_352, put_rd sc_353, put_up sc_353, put_rd sc_354, put_up sc_354, put_rd sc_355, put_up sc_355, put_rd sc_356, put_up sc_356, put_rd sc_357, put_up sc_357, put_rd sc_358, put_up sc_358, put_rd sc_359, put_up sc_359, put_rd sc_360, put_up sc_360, put_rd sc_361, put_up sc_361, put_rd sc_362, put_up sc_362, put_rd sc_363, put_up sc_363, put_rd sc_364, put_up sc_364, put_rd sc_365, put_up sc_365, put_rd sc_366, put_up sc_366, put_rd sc_367, put_up sc_367, put_rd sc_368, put_up sc_368, put_rd sc_369, put_up sc_369, put_rd sc_370, put_up sc_370, put_rd sc_371, put_up sc_371, put_rd sc_372, put_up sc_372, put_rd sc_373, put_up sc_373, put_rd sc_374, put_up sc_374, put_rd sc_375, put_up sc_375, put_rd sc_376, put_up sc_376, put_rd sc_377, put_up sc_377, put_rd sc_378, put_up sc_378, g1, g2]
      by_cases q : hrN t m nb ns ne (i + 1) w 15 s = g i
      · rw [if_neg (fun z => z q.symm), if_pos q, if_neg (by decide)]
      · rw [if_pos (fun z => q z.symm), if_neg q, if_pos trivial, Int32.add_zero]
    show ∃ I' R' e, fM_judge_B52 _ _ _ _ _ _ _ _ _ _ _ = _ ∧ _
    rw [jdF_s]
    by_cases q : hrN t m nb ns ne (i + 1) w 15 s = g i
    · obtain ⟨I2, R2, e, z1, z2, z3, z4⟩ := m_judL hS hs hu hz hk e0 (ex := ex) d (i + 1) (fu + 1) I1 R1 (nx + nb) (sl + 2 * nb) (by omega) (by omega) (by omega) y2 g3 g2
      refine ⟨I2, R2, e + 1, ?_, by omega, y4.tr z3, y5.tr z4⟩
      rw [run, if_pos q, if_pos q]
      have en : nx + nb + nb * e = nx + nb * (e + 1) := by rw [Nat.mul_succ]; omega
      have es : sl + 2 * nb + 2 * (nb * e) = sl + 2 * (nb * (e + 1)) := by rw [Nat.mul_succ]; omega
      rw [← en, ← es]
      exact z1
    · refine ⟨I1, R1, 1, ?_, by omega, y4, y5⟩
      rw [run, if_neg q, if_neg q]
      show fM_judge_B52 _ _ _ _ _ _ _ _ _ _ _ = _
      unfold fM_judge_B52
      rw [sm_ck_pos (am_t_pk (by decide)), sp_330_48 hS, nI_clamp (show u < 2 ^ 31 by omega), put_rd sc_369, g3, sm_ck_pos (sm_in_nI (by decide) hu), if_neg (by rw [nI_leI (by omega) (by omega)]; omega), if_pos rfl, Nat.mul_one]
theorem x_hrN (hA : apok I) (hS : SP P) {b k0 : Nat} (h : CW I R P b w t m nb ns ne) (e0 : w 0 1 = nI k0) : ∀ n, k0 + n < 2000 → ∃ R', CW I R' P b (hrN t m nb ns ne n w) t m nb ns ne
  | 0, _ => ⟨R, h⟩
  | n + 1, hn => by
    obtain ⟨R1, c1⟩ := x_hrN hA hS h e0 n (by omega)
    obtain ⟨R2, y1, y2, y3⟩ := x_pass hS hA c1 ⟨k0 + n, by omega, hrs_01.trans (hrN_01 e0 n)⟩
    exact ⟨R2, y2⟩
theorem op_judge (h : INV I R P nx w t m nb ns ne) {a b : Int32} : OK3 I R P nx sl (fX_judge (am_pk 2 0 12) a b) (fM_judge (am_pk 330 0 13) a b) := by
  have hS := h.sp
  have hle := h.mw.le
  obtain ⟨k0, hk0, ek0⟩ := h.2.1
  by_cases ha : 0 ≤ a ∧ a < nI ns
  · by_cases hb4 : 0 ≤ b ∧ b < 4
    · obtain ⟨s, hs, rfl⟩ := ran_ix ha (by omega)
      obtain ⟨u, hu, rfl⟩ := ran_ix (n := 4) hb4 (by decide)
      obtain ⟨o1, o2, ⟨z, hz, o3⟩, o4, o5⟩ := h.1.2.2.2.1 u hu
      rw [o3] at o1
      by_cases g1 : R 368 u = 0
      · have h1 : R (321 + 2 * u) 2 = 0 := o2.symm.trans g1
        refine h.fl3 (v := -1000006) (k := 5) (by decide) ?_ (fun R1 hM hc1 => ?_)
        · unfold fX_judge
          rw [sm_ck_pos (am_t_pk (by decide)), sp_2_0 hS, sm_ck_pos (am_t_pk (by decide)), h.cw.hasSeam, Option.bind_some, bI_if, if_pos ha, h_isSheet, Option.bind_some, bI_ifn, if_pos hb4, sp_2_13 hS, nI_clamp (show u < 2 ^ 31 by omega), sp_sh hS hu, sm_ck_pos (sm_ia_nI (by decide) (by decide) (by decide) hu), bd_eq, sm_ck_pos (am_t_pk (by decide)), x_miss hS hu, Option.bind_some, bI_if, if_pos h1, x_f6 hS, Option.bind_some]
        · have e8 : R1 368 u = 0 := by rw [hc1 368 (by decide)]; exact g1
          unfold fM_judge
          rw [sm_ck_pos (am_t_pk (by decide)), hM.isSm hS, Option.bind_some, bI_if, if_pos ha, h_w03, Option.bind_some, bI_ifn, if_pos hb4, sp_330_47 hS, nI_clamp (show u < 2 ^ 31 by omega), put_rd sc_368, sm_ck_pos (sm_in_nI (by decide) hu), if_neg (fun q => q e8), m_f6 hS, Option.bind_some]
      · have h1 : ¬ R (321 + 2 * u) 2 = 0 := by rw [← o2]; exact g1
        obtain ⟨R1, P1, x1, x2, x3, x4, x5, x6⟩ := x_side (nx := nx) (sl := sl) hS h.1.1.2.2.1 h.cw
        obtain ⟨R2, y1, y2⟩ := x_judL (nx := nx) (sl := sl) (t := t) (m := m) (nb := nb) (ns := ns) (ne := ne) h.ap x3 hs hu hz hk0 ek0 (f := R (322 + 2 * u)) z 0 sm_fu R1 (sm_fu_lt (by omega)) (by omega) x2 (by rw [x5 _ (by omega) (by omega) (by omega)]; exact o1.symm) (x5 _ (by omega) (by omega) (by omega))
        have c2 : frC R R2 := fun c a1 a2 a3 => by rw [y2 c (by omega) a3, x5 c a1 a2 a3]
        have hM1 : MW R2 w t m nb ns ne := h.mw.fr (fun c c1 c4 => c2 c (by omega) (by omega) (by omega))
        obtain ⟨R3, q1, k1, k2, k3, k4, k5⟩ := m_save (I := I) (pl := 7) x3 hM1 (by decide)
        have r9 : R3 369 u = nI z := by rw [k3 369 (by decide) (by decide), c2 369 (by decide) (by decide) (by decide)]; exact o3
        have r0 : ∀ j, R3 370 (24 * u + j) = R 370 (24 * u + j) := fun j => by rw [k3 370 (by decide) (by decide), c2 370 (by decide) (by decide) (by decide)]
        obtain ⟨I4, R4, e, p1, p2, p3, p4⟩ := m_judL (t := t) (m := m) (nb := nb) (ns := ns) (ne := ne) x3 hs hu hz hk0 ek0 (g := fun j => R 370 (24 * u + j)) (ex := fun l0 l3 I P nx sl =>
            sm_ck (am_t l0 = 13) <|
            Option.bind (fM_copiesAll P l0 7 0 I) fun y21 =>
            some (l3, y21, P, nx, sl)) z 0 sm_fu I R3 nx sl (sm_fu_lt (by omega)) (by omega) h.1.1.2.2.2 k2 r9 r0
        obtain ⟨R5, q3, m1, m2, m3⟩ := m_load (I := I4) (R := R4) (pl := 7) x3 (k1.pk (R' := R4) (fun j _ _ => by rw [p3.1 357 (by decide) (by decide) (by decide)])) (by decide)
        have hnn : nb * e ≤ 7 * 24 := Nat.mul_le_mul hle.1 (by omega)
        have hfr : frR R2 R5 := by
          have key : ∀ c, c ≠ 330 → c ≠ 357 → c ≠ 358 → (c < 332 ∨ 357 ≤ c) → R5 c = R2 c := fun c a1 a2 a3 a4 => by rw [m2 c a4 a1, p3.1 c a1 a3 a4, k3 c a2 a1]
          refine ⟨fun c hc => key c (by omega) (by omega) (by omega) (by omega), fun c hc => key c (by unfold kpc at hc; omega) (by unfold kpc at hc; omega) (by unfold kpc at hc; omega) (by unfold kpc at hc; omega), fun k hk => ?_, fun j hj => ?_⟩
          · rw [m3 k (by omega), p3.2 k (by omega), k4 k (by omega)]
          · rw [m2 357 (by decide) (by decide), p3.1 357 (by decide) (by decide) (by decide), k5 j (by omega)]
        have hws : ∀ n, n < 24 → ran m (hrN t m nb ns ne (n + 1) w 15 s) := by
          intro n hn
          obtain ⟨R9, c9⟩ := x_hrN h.ap x3 x2 ek0 (n + 1) (by omega)
          exact (c9.2.2.1.2.2.1 s hs).2.2.2.2.1
        have hcg : jdF (fun j => hrN t m nb ns ne j w) s (R (322 + 2 * u)) z 0 = jdF (fun j => hrN t m nb ns ne j w) s (fun j => R 370 (24 * u + j)) z 0 := by
          refine jdF_cg z 0 (fun j _ hj => ?_)
          have hr := hws j (by omega)
          rcases o5 j (by omega) with q | ⟨q, q'⟩
          · rw [q]
          · have up : ∀ v : Int32, ran m v → (0 ≤ v ∧ v < 16) := fun v hv => ⟨hv.1, by
              have := hv.2
              rw [i_lt, nI_toInt (by omega)] at this
              rw [i_lt]
              show v.toInt < 16
              omega⟩
            exact ⟨fun e => absurd (up _ (by rw [← e]; exact hr)) q, fun e => absurd (up _ (by rw [← e]; exact hr)) q'⟩
        refine ⟨nI (jdF (fun j => hrN t m nb ns ne j w) s (R (322 + 2 * u)) z 0), I, R2, P1, nx, sl, I4, R5, nx + nb * e, sl + 2 * (nb * e), ?_, ?_, h.bes c2 x6 x4 m1 hfr p4 (by omega), ⟨frJ.rfl, p4.J⟩, by omega, by omega, by omega⟩
        · unfold fX_judge
          rw [sm_ck_pos (am_t_pk (by decide)), sp_2_0 hS, sm_ck_pos (am_t_pk (by decide)), h.cw.hasSeam, Option.bind_some, bI_if, if_pos ha, h_isSheet, Option.bind_some, bI_ifn, if_pos hb4, sp_2_13 hS, nI_clamp (show u < 2 ^ 31 by omega), sp_sh hS hu, sm_ck_pos (sm_ia_nI (by decide) (by decide) (by decide) hu), bd_eq, sm_ck_pos (am_t_pk (by decide)), x_miss hS hu, Option.bind_some, bI_if, if_neg h1, sp_2_1 hS, sm_ck_pos (am_t_pk (by decide)), x1, Option.bind_some]
          exact y1
        · have e8 : ¬ R2 368 u = 0 := by rw [c2 368 (by decide) (by decide) (by decide)]; exact g1
          unfold fM_judge
          rw [sm_ck_pos (am_t_pk (by decide)), hM1.isSm x3, Option.bind_some, bI_if, if_pos ha, h_w03, Option.bind_some, bI_ifn, if_pos hb4, sp_330_47 x3, nI_clamp (show u < 2 ^ 31 by omega), put_rd sc_368, sm_ck_pos (sm_in_nI (by decide) hu), if_pos e8, show fM_copiesAll P1 (am_pk 330 0 13) 7 1 (put I R2) = _ from q1, Option.bind_some]
          refine Eq.trans p1 ?_
          rw [sm_ck_pos (am_t_pk (by decide)), show fM_copiesAll P1 (am_pk 330 0 13) 7 0 (put I4 R4) = _ from q3, Option.bind_some, hcg]
    · refine h.fl3 (v := -1000001) (k := 0) (by decide) ?_ (fun R1 hM hc1 => ?_)
      · unfold fX_judge
        rw [sm_ck_pos (am_t_pk (by decide)), sp_2_0 hS, sm_ck_pos (am_t_pk (by decide)), h.cw.hasSeam, Option.bind_some, bI_if, if_pos ha, h_isSheet, Option.bind_some, bI_ifn, if_neg hb4, x_f1 hS, Option.bind_some]
      · unfold fM_judge
        rw [sm_ck_pos (am_t_pk (by decide)), hM.isSm hS, Option.bind_some, bI_if, if_pos ha, h_w03, Option.bind_some, bI_ifn, if_neg hb4, m_f1 hS, Option.bind_some]
  · refine h.fl3 (v := -1000001) (k := 0) (by decide) ?_ (fun R1 hM hc1 => ?_)
    · unfold fX_judge
      rw [sm_ck_pos (am_t_pk (by decide)), sp_2_0 hS, sm_ck_pos (am_t_pk (by decide)), h.cw.hasSeam, Option.bind_some, bI_if, if_neg ha, x_f1 hS, Option.bind_some]
    · unfold fM_judge
      rw [sm_ck_pos (am_t_pk (by decide)), hM.isSm hS, Option.bind_some, bI_if, if_neg ha, m_f1 hS, Option.bind_some]
end Judge
