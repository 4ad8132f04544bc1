/-! ===== the reference's turn ===== -/
theorem d10 {a c : Nat} (ha : a < 100) (hc : c < 10) : nI (10 * a + c) / 10 = nI a := by
  rw [l_10, pk_div (by omega) (by decide) (by decide)]
  congr 1; omega
theorem r10 {a c : Nat} (ha : a < 100) (hc : c < 10) : sm_rem (nI (10 * a + c)) 10 = nI c := by
  unfold sm_rem
  rw [l_10, pk_rem (by omega) (by decide) (by decide)]
  congr 1; omega
theorem h_lesser {x y : Int32} : fM_lesser x y = some (sm_min x y) := by
  unfold fM_lesser sm_min
  by_cases h : y ≤ x
  · rw [if_pos h]
    by_cases h2 : y < x
    · rw [if_pos h2]
    · rw [if_neg h2]
      have e : x = y := by
        rw [i_eq]
        rw [i_le] at h
        rw [i_lt] at h2
        omega
      rw [e]
  · rw [if_neg h, if_neg (fun z => h (by rw [i_le]; rw [i_lt] at z; omega))]
section MT
variable {I R : am_M} {P : am_Q} {w : am_M} {t : Nat → Nat → List Nat} {m nb ns ne nx sl : Nat}
theorem bz_rd {k : Nat} (h : 379 ≤ nx) : put I R (am_pk nx 2 21) k = I (am_pk nx 2 21) k := put_dy (Or.inr (by rw [am_i_pk (by decide) (by decide)]; exact h))
theorem bz_up {k : Nat} {v : Int32} (h : 379 ≤ nx) : am_up (put I R) (am_pk nx 2 21) k v = put (am_up I (am_pk nx 2 21) k v) R := put_dup (Or.inr (by rw [am_i_pk (by decide) (by decide)]; exact h))
theorem bz_set {g : Nat → Int32} (h : 379 ≤ nx) : am_set (put I R) (am_pk nx 2 21) g = put (am_set I (am_pk nx 2 21) g) R := put_dset (Or.inr (by rw [am_i_pk (by decide) (by decide)]; exact h))
theorem MW.rule (h : MW R w t m nb ns ne) : R 332 6 = 0 ∨ R 332 6 = 1 ∨ R 332 6 = 2 := by rw [h.n6]; exact h.2.1.1.2.2.2.2.2.2.2.2.2.1
theorem MW.sw (h : MW R w t m nb ns ne) : ∀ s, s < ns → ∃ a c, a < 7 ∧ c < 2 ∧ w 13 s = nI a ∧ w 14 s = nI c ∧ R 347 s = nI (10 * a + c) := by
  intro s hs
  have hle := h.le
  obtain ⟨fb, fo, tb, td, h1, h2, h3, h4, -, -, e13, e14, -, e⟩ := h.ends hs
  exact ⟨tb, td, by omega, h4, e13, e14, e⟩
theorem MW.worth (hS : SP P) (h : MW R w t m nb ns ne) {x l : Nat} (hx : x < nb) (hl : l < 4) : ∃ R', fM_worth P (am_pk 330 0 13) (nI x) (nI l) (w 0 1) (w 2 x) (w 3 x) (w 4 x) (w 5 x) (put I R) = some (otF w t m x l, put I R') ∧ MW R' w t m nb ns ne ∧ ∀ c, c ≠ 358 → R' c = R c := by
  have hle := h.le
  obtain ⟨-, r2, r3, r4, r5, -, -, -, hwf⟩ := h.2.1.2.1 x hx
  obtain ⟨R', q1, q2⟩ := m_worth (I := I) (h := w 0 1) hS (show x < 7 by omega) hl (by omega) (by omega) h.n5 (h.2.2 x hx) hwf r2 r3 r4 r5
  exact ⟨R', q1, h.fr (fun c h1 h2 => q2 c (by omega)), q2⟩
theorem MW.out (hS : SP P) (h : MW R w t m nb ns ne) {x o : Nat} (hx : x < nb) (ho : o < 2) : ∃ R', fM_out P (am_pk 330 0 13) (nI x) (nI o) (put I R) = some (otF w t m x (2 + o), put I R') ∧ MW R' w t m nb ns ne ∧ ∀ c, c ≠ 358 → R' c = R c := by
  have hle := h.le
  obtain ⟨-, r2, r3, r4, r5, -, -, -, hwf⟩ := h.2.1.2.1 x hx
  obtain ⟨R', q1, q2⟩ := m_out (I := I) hS (show x < 7 by omega) ho (by omega) (by omega) h.n5 (h.2.2 x hx) hwf (by rw [h.b2 hx]; exact r2) (by rw [h.b3 hx]; exact r3) (by rw [h.b4 hx]; exact r4) (by rw [h.b5 hx]; exact r5)
  rw [h.b2 hx, h.b3 hx, h.b4 hx, h.b5 hx, h.n3] at q1
  exact ⟨R', q1, h.fr (fun c h1 h2 => q2 c (by omega)), q2⟩
theorem MW.far (hS : SP P) (h : MW R w t m nb ns ne) {x y : Int32} : fM_far (put I R) P (am_pk 330 0 13) x y = some (farF x y (nI m)) := by
  have hle := h.le
  unfold fM_far farF
  rw [sm_ck_pos (am_t_pk (by decide)), m_part hS (by omega) (by omega) h.n5, m_part hS (by omega) (by omega) h.n5]
  simp only [Option.bind_some, h_lesser]
/-- a number goes into a door -/
theorem m_J138 (hS : SP P) (h : MW R w t m nb ns ne) {x d : Nat} {dn v : Int32} {l3 : Nat} (hx : x < nb) (hd : d < 2) (hv : ran m v) {r : Nat → Int32 → Int32 → Nat → Int32 → am_M → am_Q → Nat → Nat → Option (am_S)} :
    ∃ R', fM_turns_J138 r (am_pk 330 0 13) (nI x) dn l3 (nI d) v (put I R) P nx sl = r (am_pk 330 0 13) (nI x) dn l3 (nI (d + 1)) (put I R') P nx sl ∧ MW R' (am_up w (d + 4) x v) t m nb ns ne ∧ frM R R' := by
  have hle := h.le
  unfold fM_turns_J138 fM_turns_J151
  simp (disch := first | omega | assumption) only [sm_bd, Option.bind_some, ck_tt, ck_in, ck_iw, ck_ia, ck_iz, ck_01, ck_in_0, ck_iw_0, cl_0, ck_in_1, ck_iw_1, cl_1, ck_in_2, ck_iw_2, cl_2, ck_in_3, ck_iw_3, cl_3, ck_in_4, ck_iw_4, cl_4, ck_in_5, ck_iw_5, cl_5, ck_in_6, ck_iw_6, cl_6, ck_in_7, ck_iw_7, cl_7, ck_in_8, ck_iw_8, cl_8, ck_in_9, ck_iw_9, cl_9, nI_clamp, lm_2, lm_4, lm_10, lm_14, lm_24, lm_80, lm_100, lm_1500, nI_add, nI_1, pk_m1, nI_pred, sp_330_0 hS, sp_330_1 hS, sp_330_2 hS, sp_330_3 hS, sp_330_4 hS, sp_330_5 hS, sp_330_6 hS, sp_330_7 hS, sp_330_8 hS, sp_330_9 hS, sp_330_10 hS, sp_330_11 hS, sp_330_12 hS, sp_330_13 hS, sp_330_14 hS, sp_330_15 hS, sp_330_16 hS, sp_330_17 hS, sp_330_18 hS, sp_330_19 hS, sp_330_20 hS, sp_330_21 hS, sp_330_22 hS, sp_330_23 hS, sp_330_24 hS, sp_330_25 hS, sp_330_26 hS, sp_330_30 hS, sp_330_31 hS, sp_330_33 hS, sp_330_34 hS, sp_330_35 hS, sp_330_36 hS, sp_330_41 hS, sp_330_42 hS, sp_330_43 hS, sp_330_44 hS, sp_330_47 hS, sp_330_48 hS, sp_330_49 hS, sp_330_51 hS, sp_330_52 hS, sp_330_54 hS, sp_330_55 hS, sp_330_56 hS, sp_330_57 hS, sp_330_58 hS, sp_330_61 hS, put_rd sc_330, put_up sc_330, put_rd sc_331, put_up sc_331, put_rd sc_332, put_up sc_332, put_rd sc_333, put_up sc_333, put_rd sc_334, put_up sc_334, put_rd sc_335, put_up sc_335, put_rd sc_336, put_up sc_336, put_rd sc_337, put_up sc_337, put_rd sc_338, put_up sc_338, put_rd sc_339, put_up sc_339, put_rd sc_340, put_up sc_340, put_rd sc_341, put_up sc_341, put_rd sc_342, put_up sc_342, put_rd sc_343, put_up sc_343, put_rd sc_344, put_up sc_344, put_rd sc_345, put_up sc_345, put_rd sc_346, put_up sc_346, put_rd sc_347, put_up sc_347, put_rd sc_348, put_up sc_348, put_rd sc_349, put_up sc_349, put_rd sc_350, put_up sc_350, put_rd sc_351, put_up sc_351, put_rd sc_352, put_up sc_352, put_rd sc_353, put_up sc_353, put_rd sc_354, put_up sc_354, put_rd sc_355, put_up sc_355, put_rd sc_356, put_up sc_356, put_rd sc_357, put_up sc_357, put_rd sc_358, put_up sc_358, put_rd sc_359, put_up sc_359, put_rd sc_360, put_up sc_360, put_rd sc_361, put_up sc_361, put_rd sc_362, put_up sc_362, put_rd sc_363, put_up sc_363, put_rd sc_364, put_up sc_364, put_rd sc_365, put_up sc_365, put_rd sc_366, put_up sc_366, put_rd sc_367, put_up sc_367, put_rd sc_368, put_up sc_368, put_rd sc_369, put_up sc_369, put_rd sc_370, put_up sc_370, put_rd sc_371, put_up sc_371, put_rd sc_372, put_up sc_372, put_rd sc_373, put_up sc_373, put_rd sc_374, put_up sc_374, put_rd sc_375, put_up sc_375, put_rd sc_376, put_up sc_376, put_rd sc_377, put_up sc_377, put_rd sc_378, put_up sc_378]
  refine ⟨_, rfl, ?_, frM.up (by omega)⟩
  rcases (show d = 0 ∨ d = 1 by omega) with rfl | rfl
  · exact h.wr (r := 4) (c := x) (okb (by decide) (by decide) hx hle.1) hv rfl
  · exact h.wr (r := 5) (c := x) (okb (by decide) (by decide) hx hle.1) hv rfl
theorem m_J82 (hS : SP P) (h : MW R w t m nb ns ne) {x d s : Nat} {dn v : Int32} {l3 : Nat} (hx : x < nb) (hd : d < 2) (hs : s < ns) (hv : ran m v) {r : Nat → Int32 → Int32 → Nat → Int32 → am_M → am_Q → Nat → Nat → Option (am_S)} :
    ∃ R', fM_turns_J82 r (am_pk 330 0 13) (nI x) dn l3 (nI d) (nI s) v (put I R) P nx sl = r (am_pk 330 0 13) (nI x) dn l3 (nI (d + 1)) (put I R') P nx sl ∧ MW R' (am_up (lfF w s v) (d + 4) x v) t m nb ns ne ∧ frM R R' := by
  have hle := h.le
  unfold fM_turns_J82 lfF
  simp (disch := first | omega | assumption) only [sm_bd, Option.bind_some, ck_tt, ck_in, ck_iw, ck_ia, ck_iz, ck_01, ck_in_0, ck_iw_0, cl_0, ck_in_1, ck_iw_1, cl_1, ck_in_2, ck_iw_2, cl_2, ck_in_3, ck_iw_3, cl_3, ck_in_4, ck_iw_4, cl_4, ck_in_5, ck_iw_5, cl_5, ck_in_6, ck_iw_6, cl_6, ck_in_7, ck_iw_7, cl_7, ck_in_8, ck_iw_8, cl_8, ck_in_9, ck_iw_9, cl_9, nI_clamp, lm_2, lm_4, lm_10, lm_14, lm_24, lm_80, lm_100, lm_1500, nI_add, nI_1, pk_m1, nI_pred, sp_330_0 hS, sp_330_1 hS, sp_330_2 hS, sp_330_3 hS, sp_330_4 hS, sp_330_5 hS, sp_330_6 hS, sp_330_7 hS, sp_330_8 hS, sp_330_9 hS, sp_330_10 hS, sp_330_11 hS, sp_330_12 hS, sp_330_13 hS, sp_330_14 hS, sp_330_15 hS, sp_330_16 hS, sp_330_17 hS, sp_330_18 hS, sp_330_19 hS, sp_330_20 hS, sp_330_21 hS, sp_330_22 hS, sp_330_23 hS, sp_330_24 hS, sp_330_25 hS, sp_330_26 hS, sp_330_30 hS, sp_330_31 hS, sp_330_33 hS, sp_330_34 hS, sp_330_35 hS, sp_330_36 hS, sp_330_41 hS, sp_330_42 hS, sp_330_43 hS, sp_330_44 hS, sp_330_47 hS, sp_330_48 hS, sp_330_49 hS, sp_330_51 hS, sp_330_52 hS, sp_330_54 hS, sp_330_55 hS, sp_330_56 hS, sp_330_57 hS, sp_330_58 hS, sp_330_61 hS, put_rd sc_330, put_up sc_330, put_rd sc_331, put_up sc_331, put_rd sc_332, put_up sc_332, put_rd sc_333, put_up sc_333, put_rd sc_334, put_up sc_334, put_rd sc_335, put_up sc_335, put_rd sc_336, put_up sc_336, put_rd sc_337, put_up sc_337, put_rd sc_338, put_up sc_338, put_rd sc_339, put_up sc_339, put_rd sc_340, put_up sc_340, put_rd sc_341, put_up sc_341, put_rd sc_342, put_up sc_342, put_rd sc_343, put_up sc_343, put_rd sc_344, put_up sc_344, put_rd sc_345, put_up sc_345, put_rd sc_346, put_up sc_346, put_rd sc_347, put_up sc_347, put_rd sc_348, put_up sc_348, put_rd sc_349, put_up sc_349, put_rd sc_350, put_up sc_350, put_rd sc_351, put_up sc_351, put_rd sc_352, put_up sc_352, put_rd sc_353, put_up sc_353, put_rd sc_354, put_up sc_354, put_rd sc_355, put_up sc_355, put_rd sc_356, put_up sc_356, put_rd sc_357, put_up sc_357, put_rd sc_358, put_up sc_358, put_rd sc_359, put_up sc_359, put_rd sc_360, put_up sc_360, put_rd sc_361, put_up sc_361, put_rd sc_362, put_up sc_362, put_rd sc_363, put_up sc_363, put_rd sc_364, put_up sc_364, put_rd sc_365, put_up sc_365, put_rd sc_366, put_up sc_366, put_rd sc_367, put_up sc_367, put_rd sc_368, put_up sc_368, put_rd sc_369, put_up sc_369, put_rd sc_370, put_up sc_370, put_rd sc_371, put_up sc_371, put_rd sc_372, put_up sc_372, put_rd sc_373, put_up sc_373, put_rd sc_374, put_up sc_374, put_rd sc_375, put_up sc_375, put_rd sc_376, put_up sc_376, put_rd sc_377, put_up sc_377, put_rd sc_378, put_up sc_378, h_within, bI_ifn, h.n7, h.n3, h.s19 hs, h.s20 hs]
  by_cases q : w 19 s ≤ v ∧ v ≤ w 20 s
  · rw [if_pos q, if_neg (fun z => z.2 q)]
    exact m_J138 hS h hx hd hv
  · rw [if_neg q]
    by_cases q2 : 0 ≤ w 0 4
    · rw [if_pos q2, if_neg (fun z => absurd z.1 (i_nl.mpr q2))]
      exact m_J138 hS h hx hd hv
    · rw [if_neg q2, if_pos ⟨i_nle.mp q2, q⟩]
      have h1 := h.wr (r := 0) (c := 4) (v := w 0 1) (Or.inl ⟨rfl, by decide⟩) (Or.inr (Or.inl rfl)) rfl
      have h2 := h1.wr (r := 0) (c := 5) (v := nI s) (Or.inl ⟨rfl, by decide⟩) (Or.inr (Or.inr (Or.inl rfl))) rfl
      obtain ⟨R', q1, q2, q3⟩ := m_J138 (I := I) (nx := nx) (sl := sl) (r := r) (dn := dn) (l3 := l3) hS h2 hx hd hv
      exact ⟨R', q1, q2, (frM.up (by decide)).tr ((frM.up (by decide)).tr q3)⟩
theorem m_door (hS : SP P) (h : MW R w t m nb ns ne) {x d : Nat} {dn : Int32} {l3 : Nat} (hx : x < nb) (hd : d < 2) {ex : Nat → Int32 → Nat → am_M → am_Q → Nat → Nat → Option (am_S)} {r : Nat → Int32 → Int32 → Nat → Int32 → am_M → am_Q → Nat → Nat → Option (am_S)} :
    ∃ R', fM_turns_B15 ex r (am_pk 330 0 13) (nI x) dn l3 (nI d) (put I R) P nx sl = r (am_pk 330 0 13) (nI x) dn l3 (nI (d + 1)) (put I R') P nx sl ∧ MW R' (drF w t m ns x d dn) t m nb ns ne ∧ frM R R' := by
  have hle := h.le
  unfold fM_turns_B15 drF
  have h2 : ¬ (2 : Int32) ≤ nI d := by rw [l_2, nI_leI (by omega) (by omega)]; omega
  rw [if_neg h2, m_seamTo hS (show x < 7 by omega) hd hle.2.1 h.n1 h.sw]
  simp (disch := first | omega | assumption) only [ck_tt, Option.bind_some]
  rcases sinF_cases w x d ns 0 with e | ⟨k, k1, k2, e, -⟩
  · rw [e, if_pos (by decide), if_pos (by decide)]
    unfold fM_turns_J151
    simp only [sm_bd, nI_1]
    exact ⟨R, rfl, h, frM.rfl⟩
  · have hk : k < ns := by omega
    rw [e, if_neg (nI_pos (by omega)), if_neg (nI_pos (by omega))]
    obtain ⟨fb, fo, tb, td, hfb, hfo, -, -, e11, e12, -, -, e46, -⟩ := h.ends hk
    have ei : ix (nI k) = k := nI_clamp (by omega)
    have hr := psF_ran (dn := dn) h.2.1 hk
    simp (disch := first | omega | assumption) only [sm_bd, Option.bind_some, ck_tt, ck_in, ck_iw, ck_ia, ck_iz, ck_01, ck_in_0, ck_iw_0, cl_0, ck_in_1, ck_iw_1, cl_1, ck_in_2, ck_iw_2, cl_2, ck_in_3, ck_iw_3, cl_3, ck_in_4, ck_iw_4, cl_4, ck_in_5, ck_iw_5, cl_5, ck_in_6, ck_iw_6, cl_6, ck_in_7, ck_iw_7, cl_7, ck_in_8, ck_iw_8, cl_8, ck_in_9, ck_iw_9, cl_9, nI_clamp, lm_2, lm_4, lm_10, lm_14, lm_24, lm_80, lm_100, lm_1500, nI_add, nI_1, pk_m1, nI_pred, sp_330_0 hS, sp_330_1 hS, sp_330_2 hS, sp_330_3 hS, sp_330_4 hS, sp_330_5 hS, sp_330_6 hS, sp_330_7 hS, sp_330_8 hS, sp_330_9 hS, sp_330_10 hS, sp_330_11 hS, sp_330_12 hS, sp_330_13 hS, sp_330_14 hS, sp_330_15 hS, sp_330_16 hS, sp_330_17 hS, sp_330_18 hS, sp_330_19 hS, sp_330_20 hS, sp_330_21 hS, sp_330_22 hS, sp_330_23 hS, sp_330_24 hS, sp_330_25 hS, sp_330_26 hS, sp_330_30 hS, sp_330_31 hS, sp_330_33 hS, sp_330_34 hS, sp_330_35 hS, sp_330_36 hS, sp_330_41 hS, sp_330_42 hS, sp_330_43 hS, sp_330_44 hS, sp_330_47 hS, sp_330_48 hS, sp_330_49 hS, sp_330_51 hS, sp_330_52 hS, sp_330_54 hS, sp_330_55 hS, sp_330_56 hS, sp_330_57 hS, sp_330_58 hS, sp_330_61 hS, put_rd sc_330, put_up sc_330, put_rd sc_331, put_up sc_331, put_rd sc_332, put_up sc_332, put_rd sc_333, put_up sc_333, put_rd sc_334, put_up sc_334, put_rd sc_335, put_up sc_335, put_rd sc_336, put_up sc_336, put_rd sc_337, put_up sc_337, put_rd sc_338, put_up sc_338, put_rd sc_339, put_up sc_339, put_rd sc_340, put_up sc_340, put_rd sc_341, put_up sc_341, put_rd sc_342, put_up sc_342, put_rd sc_343, put_up sc_343, put_rd sc_344, put_up sc_344, put_rd sc_345, put_up sc_345, put_rd sc_346, put_up sc_346, put_rd sc_347, put_up sc_347, put_rd sc_348, put_up sc_348, put_rd sc_349, put_up sc_349, put_rd sc_350, put_up sc_350, put_rd sc_351, put_up sc_351, put_rd sc_352, put_up sc_352, put_rd sc_353, put_up sc_353, put_rd sc_354, put_up sc_354, put_rd sc_355, put_up sc_355, put_rd sc_356, put_up sc_356, put_rd sc_357, put_up sc_357, put_rd sc_358, put_up sc_358, put_rd sc_359, put_up sc_359, put_rd sc_360, put_up sc_360, put_rd sc_361, put_up sc_361, put_rd sc_362, put_up sc_362, put_rd sc_363, put_up sc_363, put_rd sc_364, put_up sc_364, put_rd sc_365, put_up sc_365, put_rd sc_366, put_up sc_366, put_rd sc_367, put_up sc_367, put_rd sc_368, put_up sc_368, put_rd sc_369, put_up sc_369, put_rd sc_370, put_up sc_370, put_rd sc_371, put_up sc_371, put_rd sc_372, put_up sc_372, put_rd sc_373, put_up sc_373, put_rd sc_374, put_up sc_374, put_rd sc_375, put_up sc_375, put_rd sc_376, put_up sc_376, put_rd sc_377, put_up sc_377, put_rd sc_378, put_up sc_378, e46, d10, r10, ei]
    have ep : psF w t m k dn = if (sm_shr dn (nI fb)) &&& 1 = 1 then otF w t m fb (2 + fo) else gsF (w 0 2) (nI m) (w 15 k) (w 16 k) (w 17 k) := by
      unfold psF ix
      rw [e11, e12, nI_clamp (by omega), nI_clamp (by omega)]
    by_cases q : (sm_shr dn (nI fb)) &&& 1 = 1
    · rw [if_pos q] at ep
      rw [if_neg (fun z => z q)]
      obtain ⟨R1, q1, q2, q3⟩ := h.out (I := I) hS hfb hfo
      rw [q1]
      simp only [Option.bind_some]
      rw [← ep]
      obtain ⟨R2, p1, p2, p3⟩ := m_J82 (I := I) (nx := nx) (sl := sl) (r := r) (dn := dn) (l3 := l3) hS q2 hx hd hk hr
      exact ⟨R2, p1, p2, (frM.cl q3).tr p3⟩
    · rw [if_neg q] at ep
      rw [if_pos q, m_guess hS (show k < 14 by omega) (by omega) (by omega) h.n5 h.rule, h.n6, h.s15 hk, h.s16 hk, h.s17 hk]
      simp only [Option.bind_some]
      rw [← ep]
      exact m_J82 hS h hx hd hk hr
theorem m_J412 (hS : SP P) (h : MW R w t m nb ns ne) {x : Nat} (hx : x < nb) : ∃ R', fM_turns_J412 (am_pk 330 0 13) (nI x) (put I R) P nx sl = some (put I R', P, nx, sl) ∧ MW R' (trn3 w x) t m nb ns ne ∧ frM R R' := by
  have hle := h.le
  unfold fM_turns_J412 trn3
  simp (disch := first | omega | assumption) only [sm_bd, Option.bind_some, ck_tt, ck_in, ck_iw, ck_ia, ck_iz, ck_01, ck_in_0, ck_iw_0, cl_0, ck_in_1, ck_iw_1, cl_1, ck_in_2, ck_iw_2, cl_2, ck_in_3, ck_iw_3, cl_3, ck_in_4, ck_iw_4, cl_4, ck_in_5, ck_iw_5, cl_5, ck_in_6, ck_iw_6, cl_6, ck_in_7, ck_iw_7, cl_7, ck_in_8, ck_iw_8, cl_8, ck_in_9, ck_iw_9, cl_9, nI_clamp, lm_2, lm_4, lm_10, lm_14, lm_24, lm_80, lm_100, lm_1500, nI_add, nI_1, pk_m1, nI_pred, sp_330_0 hS, sp_330_1 hS, sp_330_2 hS, sp_330_3 hS, sp_330_4 hS, sp_330_5 hS, sp_330_6 hS, sp_330_7 hS, sp_330_8 hS, sp_330_9 hS, sp_330_10 hS, sp_330_11 hS, sp_330_12 hS, sp_330_13 hS, sp_330_14 hS, sp_330_15 hS, sp_330_16 hS, sp_330_17 hS, sp_330_18 hS, sp_330_19 hS, sp_330_20 hS, sp_330_21 hS, sp_330_22 hS, sp_330_23 hS, sp_330_24 hS, sp_330_25 hS, sp_330_26 hS, sp_330_30 hS, sp_330_31 hS, sp_330_33 hS, sp_330_34 hS, sp_330_35 hS, sp_330_36 hS, sp_330_41 hS, sp_330_42 hS, sp_330_43 hS, sp_330_44 hS, sp_330_47 hS, sp_330_48 hS, sp_330_49 hS, sp_330_51 hS, sp_330_52 hS, sp_330_54 hS, sp_330_55 hS, sp_330_56 hS, sp_330_57 hS, sp_330_58 hS, sp_330_61 hS, put_rd sc_330, put_up sc_330, put_rd sc_331, put_up sc_331, put_rd sc_332, put_up sc_332, put_rd sc_333, put_up sc_333, put_rd sc_334, put_up sc_334, put_rd sc_335, put_up sc_335, put_rd sc_336, put_up sc_336, put_rd sc_337, put_up sc_337, put_rd sc_338, put_up sc_338, put_rd sc_339, put_up sc_339, put_rd sc_340, put_up sc_340, put_rd sc_341, put_up sc_341, put_rd sc_342, put_up sc_342, put_rd sc_343, put_up sc_343, put_rd sc_344, put_up sc_344, put_rd sc_345, put_up sc_345, put_rd sc_346, put_up sc_346, put_rd sc_347, put_up sc_347, put_rd sc_348, put_up sc_348, put_rd sc_349, put_up sc_349, put_rd sc_350, put_up sc_350, put_rd sc_351, put_up sc_351, put_rd sc_352, put_up sc_352, put_rd sc_353, put_up sc_353, put_rd sc_354, put_up sc_354, put_rd sc_355, put_up sc_355, put_rd sc_356, put_up sc_356, put_rd sc_357, put_up sc_357, put_rd sc_358, put_up sc_358, put_rd sc_359, put_up sc_359, put_rd sc_360, put_up sc_360, put_rd sc_361, put_up sc_361, put_rd sc_362, put_up sc_362, put_rd sc_363, put_up sc_363, put_rd sc_364, put_up sc_364, put_rd sc_365, put_up sc_365, put_rd sc_366, put_up sc_366, put_rd sc_367, put_up sc_367, put_rd sc_368, put_up sc_368, put_rd sc_369, put_up sc_369, put_rd sc_370, put_up sc_370, put_rd sc_371, put_up sc_371, put_rd sc_372, put_up sc_372, put_rd sc_373, put_up sc_373, put_rd sc_374, put_up sc_374, put_rd sc_375, put_up sc_375, put_rd sc_376, put_up sc_376, put_rd sc_377, put_up sc_377, put_rd sc_378, put_up sc_378, h.b1 hx, h.b2 hx, h.b6 hx]
  by_cases k2 : w 1 x = 2
  · rw [if_neg (fun z => z k2)]
    by_cases p0 : w 2 x = 0
    · rw [if_neg (fun z => z p0), cif_t ⟨p0, k2⟩]
      obtain ⟨-, -, -, -, -, hj, -⟩ := h.2.1.2.1 x hx
      have h4 := h.wr (r := 2) (c := x) (v := w 6 x) (okb (by decide) (by decide) hx hle.1) hj rfl
      have h5 := h4.wr (r := 0) (c := 3) (v := w 0 3 + 1) (Or.inl ⟨rfl, by decide⟩) (Or.inl rfl) rfl
      have e : am_up R 334 x (w 6 x) 332 4 = w 0 3 := by rw [am_up_ne (by decide)]; exact h.n4
      rw [e]
      exact ⟨_, rfl, h5, (frM.up (by decide)).tr (frM.up (by decide))⟩
    · rw [if_pos p0, cif_f (fun z => p0 z.1)]
      exact ⟨_, rfl, h, frM.rfl⟩
  · rw [if_pos k2, cif_f (fun z => k2 z.2)]
    exact ⟨_, rfl, h, frM.rfl⟩
theorem m_J301 (hS : SP P) (h : MW R w t m nb ns ne) {x : Nat} (hx : x < nb) {q : Prop} : ∃ R', fM_turns_J301 (am_pk 330 0 13) (nI x) (bI q) (put I R) P nx sl = some (put I R', P, nx, sl) ∧ MW R' (trn3 (cif q (am_up (am_up w 2 x (otF w t m x 0)) 3 x (otF w t m x 1)) w) x) t m nb ns ne ∧ frM R R' := by
  have hle := h.le
  unfold fM_turns_J301
  rw [bI_if]
  by_cases hq : q
  · rw [if_pos hq, cif_t hq]
    obtain ⟨R1, q1, h1, f1⟩ := h.worth (I := I) hS hx (show 0 < 4 by decide)
    obtain ⟨R2, q2, h2, f2⟩ := h1.worth (I := I) hS hx (show 1 < 4 by decide)
    have q1' : fM_worth P (am_pk 330 0 13) (nI x) 0 (w 0 1) (w 2 x) (w 3 x) (w 4 x) (w 5 x) (put I R) = some (otF w t m x 0, put I R1) := q1
    have q2' : fM_worth P (am_pk 330 0 13) (nI x) 1 (w 0 1) (w 2 x) (w 3 x) (w 4 x) (w 5 x) (put I R1) = some (otF w t m x 1, put I R2) := q2
    simp (disch := first | omega | assumption) only [sm_bd, Option.bind_some, ck_tt, ck_in, ck_iw, ck_ia, ck_iz, ck_01, ck_in_0, ck_iw_0, cl_0, ck_in_1, ck_iw_1, cl_1, ck_in_2, ck_iw_2, cl_2, ck_in_3, ck_iw_3, cl_3, ck_in_4, ck_iw_4, cl_4, ck_in_5, ck_iw_5, cl_5, ck_in_6, ck_iw_6, cl_6, ck_in_7, ck_iw_7, cl_7, ck_in_8, ck_iw_8, cl_8, ck_in_9, ck_iw_9, cl_9, nI_clamp, lm_2, lm_4, lm_10, lm_14, lm_24, lm_80, lm_100, lm_1500, nI_add, nI_1, pk_m1, nI_pred, sp_330_0 hS, sp_330_1 hS, sp_330_2 hS, sp_330_3 hS, sp_330_4 hS, sp_330_5 hS, sp_330_6 hS, sp_330_7 hS, sp_330_8 hS, sp_330_9 hS, sp_330_10 hS, sp_330_11 hS, sp_330_12 hS, sp_330_13 hS, sp_330_14 hS, sp_330_15 hS, sp_330_16 hS, sp_330_17 hS, sp_330_18 hS, sp_330_19 hS, sp_330_20 hS, sp_330_21 hS, sp_330_22 hS, sp_330_23 hS, sp_330_24 hS, sp_330_25 hS, sp_330_26 hS, sp_330_30 hS, sp_330_31 hS, sp_330_33 hS, sp_330_34 hS, sp_330_35 hS, sp_330_36 hS, sp_330_41 hS, sp_330_42 hS, sp_330_43 hS, sp_330_44 hS, sp_330_47 hS, sp_330_48 hS, sp_330_49 hS, sp_330_51 hS, sp_330_52 hS, sp_330_54 hS, sp_330_55 hS, sp_330_56 hS, sp_330_57 hS, sp_330_58 hS, sp_330_61 hS, put_rd sc_330, put_up sc_330, put_rd sc_331, put_up sc_331, put_rd sc_332, put_up sc_332, put_rd sc_333, put_up sc_333, put_rd sc_334, put_up sc_334, put_rd sc_335, put_up sc_335, put_rd sc_336, put_up sc_336, put_rd sc_337, put_up sc_337, put_rd sc_338, put_up sc_338, put_rd sc_339, put_up sc_339, put_rd sc_340, put_up sc_340, put_rd sc_341, put_up sc_341, put_rd sc_342, put_up sc_342, put_rd sc_343, put_up sc_343, put_rd sc_344, put_up sc_344, put_rd sc_345, put_up sc_345, put_rd sc_346, put_up sc_346, put_rd sc_347, put_up sc_347, put_rd sc_348, put_up sc_348, put_rd sc_349, put_up sc_349, put_rd sc_350, put_up sc_350, put_rd sc_351, put_up sc_351, put_rd sc_352, put_up sc_352, put_rd sc_353, put_up sc_353, put_rd sc_354, put_up sc_354, put_rd sc_355, put_up sc_355, put_rd sc_356, put_up sc_356, put_rd sc_357, put_up sc_357, put_rd sc_358, put_up sc_358, put_rd sc_359, put_up sc_359, put_rd sc_360, put_up sc_360, put_rd sc_361, put_up sc_361, put_rd sc_362, put_up sc_362, put_rd sc_363, put_up sc_363, put_rd sc_364, put_up sc_364, put_rd sc_365, put_up sc_365, put_rd sc_366, put_up sc_366, put_rd sc_367, put_up sc_367, put_rd sc_368, put_up sc_368, put_rd sc_369, put_up sc_369, put_rd sc_370, put_up sc_370, put_rd sc_371, put_up sc_371, put_rd sc_372, put_up sc_372, put_rd sc_373, put_up sc_373, put_rd sc_374, put_up sc_374, put_rd sc_375, put_up sc_375, put_rd sc_376, put_up sc_376, put_rd sc_377, put_up sc_377, put_rd sc_378, put_up sc_378, h.n3, h.b2 hx, h.b3 hx, h.b4 hx, h.b5 hx, q1']
    simp (disch := first | omega | assumption) only [sm_bd, Option.bind_some, ck_tt, ck_in, ck_iw, ck_ia, ck_iz, ck_01, ck_in_0, ck_iw_0, cl_0, ck_in_1, ck_iw_1, cl_1, ck_in_2, ck_iw_2, cl_2, ck_in_3, ck_iw_3, cl_3, ck_in_4, ck_iw_4, cl_4, ck_in_5, ck_iw_5, cl_5, ck_in_6, ck_iw_6, cl_6, ck_in_7, ck_iw_7, cl_7, ck_in_8, ck_iw_8, cl_8, ck_in_9, ck_iw_9, cl_9, nI_clamp, lm_2, lm_4, lm_10, lm_14, lm_24, lm_80, lm_100, lm_1500, nI_add, nI_1, pk_m1, nI_pred, sp_330_0 hS, sp_330_1 hS, sp_330_2 hS, sp_330_3 hS, sp_330_4 hS, sp_330_5 hS, sp_330_6 hS, sp_330_7 hS, sp_330_8 hS, sp_330_9 hS, sp_330_10 hS, sp_330_11 hS, sp_330_12 hS, sp_330_13 hS, sp_330_14 hS, sp_330_15 hS, sp_330_16 hS, sp_330_17 hS, sp_330_18 hS, sp_330_19 hS, sp_330_20 hS, sp_330_21 hS, sp_330_22 hS, sp_330_23 hS, sp_330_24 hS, sp_330_25 hS, sp_330_26 hS, sp_330_30 hS, sp_330_31 hS, sp_330_33 hS, sp_330_34 hS, sp_330_35 hS, sp_330_36 hS, sp_330_41 hS, sp_330_42 hS, sp_330_43 hS, sp_330_44 hS, sp_330_47 hS, sp_330_48 hS, sp_330_49 hS, sp_330_51 hS, sp_330_52 hS, sp_330_54 hS, sp_330_55 hS, sp_330_56 hS, sp_330_57 hS, sp_330_58 hS, sp_330_61 hS, put_rd sc_330, put_up sc_330, put_rd sc_331, put_up sc_331, put_rd sc_332, put_up sc_332, put_rd sc_333, put_up sc_333, put_rd sc_334, put_up sc_334, put_rd sc_335, put_up sc_335, put_rd sc_336, put_up sc_336, put_rd sc_337, put_up sc_337, put_rd sc_338, put_up sc_338, put_rd sc_339, put_up sc_339, put_rd sc_340, put_up sc_340, put_rd sc_341, put_up sc_341, put_rd sc_342, put_up sc_342, put_rd sc_343, put_up sc_343, put_rd sc_344, put_up sc_344, put_rd sc_345, put_up sc_345, put_rd sc_346, put_up sc_346, put_rd sc_347, put_up sc_347, put_rd sc_348, put_up sc_348, put_rd sc_349, put_up sc_349, put_rd sc_350, put_up sc_350, put_rd sc_351, put_up sc_351, put_rd sc_352, put_up sc_352, put_rd sc_353, put_up sc_353, put_rd sc_354, put_up sc_354, put_rd sc_355, put_up sc_355, put_rd sc_356, put_up sc_356, put_rd sc_357, put_up sc_357, put_rd sc_358, put_up sc_358, put_rd sc_359, put_up sc_359, put_rd sc_360, put_up sc_360, put_rd sc_361, put_up sc_361, put_rd sc_362, put_up sc_362, put_rd sc_363, put_up sc_363, put_rd sc_364, put_up sc_364, put_rd sc_365, put_up sc_365, put_rd sc_366, put_up sc_366, put_rd sc_367, put_up sc_367, put_rd sc_368, put_up sc_368, put_rd sc_369, put_up sc_369, put_rd sc_370, put_up sc_370, put_rd sc_371, put_up sc_371, put_rd sc_372, put_up sc_372, put_rd sc_373, put_up sc_373, put_rd sc_374, put_up sc_374, put_rd sc_375, put_up sc_375, put_rd sc_376, put_up sc_376, put_rd sc_377, put_up sc_377, put_rd sc_378, put_up sc_378, h1.n3, h1.b2 hx, h1.b3 hx, h1.b4 hx, h1.b5 hx, q2']
    have hB := h.2.1.2.1 x hx
    have h5 := h2.wr (r := 2) (c := x) (v := otF w t m x 0) (okb (by decide) (by decide) hx hle.1) (wkF_ran hle.2.2.2.1 hle.2.2.2.2 hB.2.1 hB.2.2.1) rfl
    have h6 := h5.wr (r := 3) (c := x) (v := otF w t m x 1) (okb (by decide) (by decide) hx hle.1) (wkF_ran hle.2.2.2.1 hle.2.2.2.2 hB.2.1 hB.2.2.1) rfl
    obtain ⟨R7, q7, h7, f7⟩ := m_J412 (I := I) (nx := nx) (sl := sl) hS h6 hx
    exact ⟨R7, q7, h7, (frM.cl f1).tr ((frM.cl f2).tr ((frM.up (by decide)).tr ((frM.up (by decide)).tr f7)))⟩
  · rw [if_neg hq, cif_f hq]
    exact m_J412 hS h hx
/-- what was unlike, and what is kept of it -/
def unD (w : am_M) (x d : Nat) : Prop := w 8 x = 0 ∨ ¬ w (d + 4) x = w (d + 9) x
theorem m_un (hS : SP P) (h : MW R w t m nb ns ne) {x d : Nat} (hx : x < nb) (hd : d < 2) (hn : 379 ≤ nx) {nx' : Nat} {ex : Nat → Int32 → Nat → am_M → am_Q → Nat → Nat → Option (am_S)} {r : Nat → Int32 → Nat → Int32 → am_M → am_Q → Nat → Nat → Option (am_S)} :
    ∃ R', fM_turns_B160 ex r (am_pk 330 0 13) (nI x) (am_pk nx 2 21) (nI d) (put I R) P nx' sl = r (am_pk 330 0 13) (nI x) (am_pk nx 2 21) (nI (d + 1)) (put (am_up I (am_pk nx 2 21) d (bI (unD w x d))) R') P nx' sl ∧ MW R' (am_up w (d + 9) x (w (d + 4) x)) t m nb ns ne ∧ frM R R' := by
  have hle := h.le
  have h2 : ¬ (2 : Int32) ≤ nI d := by rw [l_2, nI_leI (by omega) (by omega)]; omega
  have e4 : R 340 (2 * x + d) = w (d + 4) x := by
    rcases (show d = 0 ∨ d = 1 by omega) with rfl | rfl
    · exact h.b4 hx
    · exact h.b5 hx
  have e9 : R 341 (2 * x + d) = w (d + 9) x := by
    rcases (show d = 0 ∨ d = 1 by omega) with rfl | rfl
    · exact h.b9 hx
    · exact h.b10 hx
  have fin : ∀ q : Prop, ∃ R', fM_turns_J208 r (am_pk 330 0 13) (nI x) (am_pk nx 2 21) (nI d) (bI q) (nI d) (am_pk nx 2 21) (put I R) P nx' sl = r (am_pk 330 0 13) (nI x) (am_pk nx 2 21) (nI (d + 1)) (put (am_up I (am_pk nx 2 21) d (bI q)) R') P nx' sl ∧ MW R' (am_up w (d + 9) x (w (d + 4) x)) t m nb ns ne ∧ frM R R' := by
    intro q
    unfold fM_turns_J208
    simp (disch := first | omega | assumption) only [sm_bd, Option.bind_some, ck_tt, ck_in, ck_iw, ck_ia, ck_iz, ck_01, ck_in_0, ck_iw_0, cl_0, ck_in_1, ck_iw_1, cl_1, ck_in_2, ck_iw_2, cl_2, ck_in_3, ck_iw_3, cl_3, ck_in_4, ck_iw_4, cl_4, ck_in_5, ck_iw_5, cl_5, ck_in_6, ck_iw_6, cl_6, ck_in_7, ck_iw_7, cl_7, ck_in_8, ck_iw_8, cl_8, ck_in_9, ck_iw_9, cl_9, nI_clamp, lm_2, lm_4, lm_10, lm_14, lm_24, lm_80, lm_100, lm_1500, nI_add, nI_1, pk_m1, nI_pred, sp_330_0 hS, sp_330_1 hS, sp_330_2 hS, sp_330_3 hS, sp_330_4 hS, sp_330_5 hS, sp_330_6 hS, sp_330_7 hS, sp_330_8 hS, sp_330_9 hS, sp_330_10 hS, sp_330_11 hS, sp_330_12 hS, sp_330_13 hS, sp_330_14 hS, sp_330_15 hS, sp_330_16 hS, sp_330_17 hS, sp_330_18 hS, sp_330_19 hS, sp_330_20 hS, sp_330_21 hS, sp_330_22 hS, sp_330_23 hS, sp_330_24 hS, sp_330_25 hS, sp_330_26 hS, sp_330_30 hS, sp_330_31 hS, sp_330_33 hS, sp_330_34 hS, sp_330_35 hS, sp_330_36 hS, sp_330_41 hS, sp_330_42 hS, sp_330_43 hS, sp_330_44 hS, sp_330_47 hS, sp_330_48 hS, sp_330_49 hS, sp_330_51 hS, sp_330_52 hS, sp_330_54 hS, sp_330_55 hS, sp_330_56 hS, sp_330_57 hS, sp_330_58 hS, sp_330_61 hS, put_rd sc_330, put_up sc_330, put_rd sc_331, put_up sc_331, put_rd sc_332, put_up sc_332, put_rd sc_333, put_up sc_333, put_rd sc_334, put_up sc_334, put_rd sc_335, put_up sc_335, put_rd sc_336, put_up sc_336, put_rd sc_337, put_up sc_337, put_rd sc_338, put_up sc_338, put_rd sc_339, put_up sc_339, put_rd sc_340, put_up sc_340, put_rd sc_341, put_up sc_341, put_rd sc_342, put_up sc_342, put_rd sc_343, put_up sc_343, put_rd sc_344, put_up sc_344, put_rd sc_345, put_up sc_345, put_rd sc_346, put_up sc_346, put_rd sc_347, put_up sc_347, put_rd sc_348, put_up sc_348, put_rd sc_349, put_up sc_349, put_rd sc_350, put_up sc_350, put_rd sc_351, put_up sc_351, put_rd sc_352, put_up sc_352, put_rd sc_353, put_up sc_353, put_rd sc_354, put_up sc_354, put_rd sc_355, put_up sc_355, put_rd sc_356, put_up sc_356, put_rd sc_357, put_up sc_357, put_rd sc_358, put_up sc_358, put_rd sc_359, put_up sc_359, put_rd sc_360, put_up sc_360, put_rd sc_361, put_up sc_361, put_rd sc_362, put_up sc_362, put_rd sc_363, put_up sc_363, put_rd sc_364, put_up sc_364, put_rd sc_365, put_up sc_365, put_rd sc_366, put_up sc_366, put_rd sc_367, put_up sc_367, put_rd sc_368, put_up sc_368, put_rd sc_369, put_up sc_369, put_rd sc_370, put_up sc_370, put_rd sc_371, put_up sc_371, put_rd sc_372, put_up sc_372, put_rd sc_373, put_up sc_373, put_rd sc_374, put_up sc_374, put_rd sc_375, put_up sc_375, put_rd sc_376, put_up sc_376, put_rd sc_377, put_up sc_377, put_rd sc_378, put_up sc_378, bz_up hn, e4]
    refine ⟨_, rfl, ?_, frM.up (by decide)⟩
    rcases (show d = 0 ∨ d = 1 by omega) with rfl | rfl
    · exact h.wr (r := 9) (c := x) (okb (by decide) (by decide) hx hle.1) trivial rfl
    · exact h.wr (r := 10) (c := x) (okb (by decide) (by decide) hx hle.1) trivial rfl
  have f1 := fin (unD w x d)
  unfold fM_turns_B160 fM_turns_J203
  rw [if_neg h2]
  simp (disch := first | omega | assumption) only [sm_bd, Option.bind_some, ck_tt, ck_in, ck_iw, ck_ia, ck_iz, ck_01, ck_in_0, ck_iw_0, cl_0, ck_in_1, ck_iw_1, cl_1, ck_in_2, ck_iw_2, cl_2, ck_in_3, ck_iw_3, cl_3, ck_in_4, ck_iw_4, cl_4, ck_in_5, ck_iw_5, cl_5, ck_in_6, ck_iw_6, cl_6, ck_in_7, ck_iw_7, cl_7, ck_in_8, ck_iw_8, cl_8, ck_in_9, ck_iw_9, cl_9, nI_clamp, lm_2, lm_4, lm_10, lm_14, lm_24, lm_80, lm_100, lm_1500, nI_add, nI_1, pk_m1, nI_pred, sp_330_0 hS, sp_330_1 hS, sp_330_2 hS, sp_330_3 hS, sp_330_4 hS, sp_330_5 hS, sp_330_6 hS, sp_330_7 hS, sp_330_8 hS, sp_330_9 hS, sp_330_10 hS, sp_330_11 hS, sp_330_12 hS, sp_330_13 hS, sp_330_14 hS, sp_330_15 hS, sp_330_16 hS, sp_330_17 hS, sp_330_18 hS, sp_330_19 hS, sp_330_20 hS, sp_330_21 hS, sp_330_22 hS, sp_330_23 hS, sp_330_24 hS, sp_330_25 hS, sp_330_26 hS, sp_330_30 hS, sp_330_31 hS, sp_330_33 hS, sp_330_34 hS, sp_330_35 hS, sp_330_36 hS, sp_330_41 hS, sp_330_42 hS, sp_330_43 hS, sp_330_44 hS, sp_330_47 hS, sp_330_48 hS, sp_330_49 hS, sp_330_51 hS, sp_330_52 hS, sp_330_54 hS, sp_330_55 hS, sp_330_56 hS, sp_330_57 hS, sp_330_58 hS, sp_330_61 hS, put_rd sc_330, put_up sc_330, put_rd sc_331, put_up sc_331, put_rd sc_332, put_up sc_332, put_rd sc_333, put_up sc_333, put_rd sc_334, put_up sc_334, put_rd sc_335, put_up sc_335, put_rd sc_336, put_up sc_336, put_rd sc_337, put_up sc_337, put_rd sc_338, put_up sc_338, put_rd sc_339, put_up sc_339, put_rd sc_340, put_up sc_340, put_rd sc_341, put_up sc_341, put_rd sc_342, put_up sc_342, put_rd sc_343, put_up sc_343, put_rd sc_344, put_up sc_344, put_rd sc_345, put_up sc_345, put_rd sc_346, put_up sc_346, put_rd sc_347, put_up sc_347, put_rd sc_348, put_up sc_348, put_rd sc_349, put_up sc_349, put_rd sc_350, put_up sc_350, put_rd sc_351, put_up sc_351, put_rd sc_352, put_up sc_352, put_rd sc_353, put_up sc_353, put_rd sc_354, put_up sc_354, put_rd sc_355, put_up sc_355, put_rd sc_356, put_up sc_356, put_rd sc_357, put_up sc_357, put_rd sc_358, put_up sc_358, put_rd sc_359, put_up sc_359, put_rd sc_360, put_up sc_360, put_rd sc_361, put_up sc_361, put_rd sc_362, put_up sc_362, put_rd sc_363, put_up sc_363, put_rd sc_364, put_up sc_364, put_rd sc_365, put_up sc_365, put_rd sc_366, put_up sc_366, put_rd sc_367, put_up sc_367, put_rd sc_368, put_up sc_368, put_rd sc_369, put_up sc_369, put_rd sc_370, put_up sc_370, put_rd sc_371, put_up sc_371, put_rd sc_372, put_up sc_372, put_rd sc_373, put_up sc_373, put_rd sc_374, put_up sc_374, put_rd sc_375, put_up sc_375, put_rd sc_376, put_up sc_376, put_rd sc_377, put_up sc_377, put_rd sc_378, put_up sc_378, h.b8 hx, e4, e9]
  by_cases h8 : w 8 x = 0
  · rw [if_pos h8]
    rw [show bI (unD w x d) = 1 from bI_t (Or.inl h8)] at f1 ⊢
    exact f1
  · rw [if_neg h8]
    by_cases e : w (d + 4) x = w (d + 9) x
    · rw [if_pos e]
      rw [show bI (unD w x d) = 0 from bI_f (fun z => z.elim h8 (fun y => y e))] at f1 ⊢
      exact f1
    · rw [if_neg e]
      rw [show bI (unD w x d) = 1 from bI_t (Or.inr e)] at f1 ⊢
      exact f1
theorem trn_sw {w : am_M} {x : Nat} {a b : Int32} : am_up (am_up (am_up (am_up (am_up w 9 x (w 4 x)) 10 x (w 5 x)) 8 x 1) 2 x a) 3 x b = trn2 (am_up (am_up w 3 x b) 2 x a) x := by
  unfold trn2
  funext r c
  simp only [am_up]
  repeat' split
  all_goals first | rfl | omega
theorem trn_sw0 {w : am_M} {x : Nat} : am_up (am_up (am_up w 9 x (w 4 x)) 10 x (w 5 x)) 8 x 1 = trn2 w x := by
  unfold trn2
  funext r c
  simp only [am_up]
  repeat' split
  all_goals first | rfl | omega
theorem m_turns (hS : SP P) (h : MW R w t m nb ns ne) {x : Nat} {dn : Int32} (hx : x < nb) (hn : 379 ≤ nx) : ∃ I' R', fM_turns (am_pk 330 0 13) (nI x) dn (put I R) P nx sl = some (put I' R', P, nx + 1, sl + 2) ∧ MW R' (turnF w t m ns x dn) t m nb ns ne ∧ frM R R' ∧ frI I I' := by
  have hle := h.le
  have ht : am_t (am_pk nx 2 21) = 21 := am_t_pk (by decide)
  unfold fM_turns sm_na
  rw [cl_2]
  simp (disch := first | omega | assumption) only [sm_bd, Option.bind_some, ck_tt, ck_in, ck_iw, ck_ia, ck_iz, ck_01, ck_in_0, ck_iw_0, cl_0, ck_in_1, ck_iw_1, cl_1, ck_in_2, ck_iw_2, cl_2, ck_in_3, ck_iw_3, cl_3, ck_in_4, ck_iw_4, cl_4, ck_in_5, ck_iw_5, cl_5, ck_in_6, ck_iw_6, cl_6, ck_in_7, ck_iw_7, cl_7, ck_in_8, ck_iw_8, cl_8, ck_in_9, ck_iw_9, cl_9, nI_clamp, lm_2, lm_4, lm_10, lm_14, lm_24, lm_80, lm_100, lm_1500, nI_add, nI_1, pk_m1, nI_pred, ck_iz_0, ck_iz_1, bz_up hn, bz_set hn]
  have fI : frI I (am_up (am_up (am_set I (am_pk nx 2 21) (fun _ => 0)) (am_pk nx 2 21) 0 0) (am_pk nx 2 21) 1 0) := (frI.set ht).tr ((frI.up ht).tr (frI.up ht))
  generalize am_up (am_up (am_set I (am_pk nx 2 21) (fun _ => 0)) (am_pk nx 2 21) 0 0) (am_pk nx 2 21) 1 0 = I1 at fI
  rw [show sm_fu = 19997 + 1 + 1 + 1 from rfl]
  obtain ⟨R1, q1, h1, f1⟩ := m_door (I := I1) (nx := nx + 1) (sl := sl + 2) (l3 := am_pk nx 2 21) hS h (dn := dn) hx (show 0 < 2 by decide)
  obtain ⟨R2, q2, h2, f2⟩ := m_door (I := I1) (nx := nx + 1) (sl := sl + 2) (l3 := am_pk nx 2 21) hS h1 (dn := dn) hx (show 1 < 2 by decide)
  show ∃ I' R', fM_turns_B15 _ _ _ _ _ _ (nI 0) _ _ _ _ = _ ∧ _
  rw [q1]
  show ∃ I' R', fM_turns_B15 _ _ _ _ _ _ (nI 1) _ _ _ _ = _ ∧ _
  rw [q2]
  show ∃ I' R', fM_turns_B15 _ _ _ _ _ _ (nI 2) _ _ _ _ = _ ∧ _
  unfold fM_turns_B15
  rw [if_pos (by decide)]
  obtain ⟨R3, q3, h3, f3⟩ := m_un (I := I1) (nx' := nx + 1) (sl := sl + 2) hS h2 hx (show 0 < 2 by decide) hn
  obtain ⟨R4, q4, h4, f4⟩ := m_un (I := am_up I1 (am_pk nx 2 21) 0 (bI (unD (drF (drF w t m ns x 0 dn) t m ns x 1 dn) x 0))) (nx' := nx + 1) (sl := sl + 2) hS h3 hx (show 1 < 2 by decide) hn
  show ∃ I' R', fM_turns_B160 _ _ _ _ _ (nI 0) _ _ _ _ = _ ∧ _
  rw [q3]
  show ∃ I' R', fM_turns_B160 _ _ _ _ _ (nI 1) _ _ _ _ = _ ∧ _
  rw [q4]
  show ∃ I' R', fM_turns_B160 _ _ _ _ _ (nI 2) _ _ _ _ = _ ∧ _
  unfold fM_turns_B160
  rw [if_pos (by decide)]
  unfold turnF trn1
  generalize drF (drF w t m ns x 0 dn) t m ns x 1 dn = w2 at h2 h3 h4
  have eA : unD w2 x 0 = unA w2 x := rfl
  have eB : unD (am_up w2 (0 + 9) x (w2 (0 + 4) x)) x 1 = unB w2 x := by
    unfold unD unB
    rw [am_up_ne (show ¬ (8 : Nat) = 0 + 9 by decide), am_up_ne (show ¬ (1 + 4 : Nat) = 0 + 9 by decide), am_up_ne (show ¬ (1 + 9 : Nat) = 0 + 9 by decide)]
  have fI2 : frI I (am_up (am_up I1 (am_pk nx 2 21) 0 (bI (unD w2 x 0))) (am_pk nx 2 21) 1 (bI (unD (am_up w2 (0 + 9) x (w2 (0 + 4) x)) x 1))) := fI.tr ((frI.up ht).tr (frI.up ht))
  rw [eA, eB] at fI2 ⊢
  have g0 : am_up (am_up I1 (am_pk nx 2 21) 0 (bI (unA w2 x))) (am_pk nx 2 21) 1 (bI (unB w2 x)) (am_pk nx 2 21) 0 = bI (unA w2 x) := by rw [am_up_nk (by decide), am_up_eq]
  have g1 : am_up (am_up I1 (am_pk nx 2 21) 0 (bI (unA w2 x))) (am_pk nx 2 21) 1 (bI (unB w2 x)) (am_pk nx 2 21) 1 = bI (unB w2 x) := am_up_eq
  generalize am_up (am_up I1 (am_pk nx 2 21) 0 (bI (unA w2 x))) (am_pk nx 2 21) 1 (bI (unB w2 x)) = I2 at g0 g1 fI2
  have h4' : MW R4 (am_up (am_up w2 9 x (w2 4 x)) 10 x (w2 5 x)) t m nb ns ne := by
    have e : am_up w2 (0 + 9) x (w2 (0 + 4) x) (1 + 4) x = w2 5 x := am_up_ne (by decide)
    rw [e] at h4
    exact h4
  have h5 := h4'.wr (r := 8) (c := x) (v := 1) (okb (by decide) (by decide) hx hle.1) (Or.inr rfl) (show aM 8 x = (339, x) from rfl)
  rw [trn_sw0] at h5
  have ek : am_up R4 339 x 1 333 x = w2 1 x := by rw [am_up_ne (by decide)]; exact h4'.b1 hx
  have f5 : frM R (am_up R4 339 x 1) := f1.tr (f2.tr (f3.tr (f4.tr (frM.up (by decide)))))
  have key : ∀ q : Prop, (q ↔ wrkF w2 x) → ∃ I' R', fM_turns_J301 (am_pk 330 0 13) (nI x) (bI q) (put I2 (am_up R4 339 x 1)) P (nx + 1) (sl + 2) = some (put I' R', P, nx + 1, sl + 2) ∧ MW R' (trn3 (trn2 (cif (wrkF w2 x) (am_up (am_up w2 3 x (otF w2 t m x 1)) 2 x (otF w2 t m x 0)) w2) x) x) t m nb ns ne ∧ frM R R' ∧ frI I I' := by
    intro q hq
    obtain ⟨R', p1, p2, p3⟩ := m_J301 (I := I2) (nx := nx + 1) (sl := sl + 2) hS h5 hx (q := q)
    refine ⟨I2, R', p1, ?_, f5.tr p3, fI2⟩
    by_cases hw : wrkF w2 x
    · rw [cif_t (hq.mpr hw)] at p2
      rw [cif_t hw]
      rw [← trn_sw0, trn_sw] at p2
      exact p2
    · rw [cif_f (fun z => hw (hq.mp z))] at p2
      rw [cif_f hw]
      exact p2
  have kt : wrkF w2 x → ∃ I' R', fM_turns_J301 (am_pk 330 0 13) (nI x) 1 (put I2 (am_up R4 339 x 1)) P (nx + 1) (sl + 2) = some (put I' R', P, nx + 1, sl + 2) ∧ MW R' (trn3 (trn2 (cif (wrkF w2 x) (am_up (am_up w2 3 x (otF w2 t m x 1)) 2 x (otF w2 t m x 0)) w2) x) x) t m nb ns ne ∧ frM R R' ∧ frI I I' := by
    intro hw
    have := key True ⟨fun _ => hw, fun _ => trivial⟩
    rw [show bI True = 1 from bI_t trivial] at this
    exact this
  have kf : ¬ wrkF w2 x → ∃ I' R', fM_turns_J301 (am_pk 330 0 13) (nI x) 0 (put I2 (am_up R4 339 x 1)) P (nx + 1) (sl + 2) = some (put I' R', P, nx + 1, sl + 2) ∧ MW R' (trn3 (trn2 (cif (wrkF w2 x) (am_up (am_up w2 3 x (otF w2 t m x 1)) 2 x (otF w2 t m x 0)) w2) x) x) t m nb ns ne ∧ frM R R' ∧ frI I I' := by
    intro hw
    have := key False ⟨fun z => z.elim, fun z => hw z⟩
    rw [show bI False = 0 from bI_f (fun z => z)] at this
    exact this
  unfold fM_turns_J296 fM_turns_J300 fM_turns_J266
  simp (disch := first | omega | assumption) only [sm_bd, Option.bind_some, ck_tt, ck_in, ck_iw, ck_ia, ck_iz, ck_01, ck_in_0, ck_iw_0, cl_0, ck_in_1, ck_iw_1, cl_1, ck_in_2, ck_iw_2, cl_2, ck_in_3, ck_iw_3, cl_3, ck_in_4, ck_iw_4, cl_4, ck_in_5, ck_iw_5, cl_5, ck_in_6, ck_iw_6, cl_6, ck_in_7, ck_iw_7, cl_7, ck_in_8, ck_iw_8, cl_8, ck_in_9, ck_iw_9, cl_9, nI_clamp, lm_2, lm_4, lm_10, lm_14, lm_24, lm_80, lm_100, lm_1500, nI_add, nI_1, pk_m1, nI_pred, sp_330_0 hS, sp_330_1 hS, sp_330_2 hS, sp_330_3 hS, sp_330_4 hS, sp_330_5 hS, sp_330_6 hS, sp_330_7 hS, sp_330_8 hS, sp_330_9 hS, sp_330_10 hS, sp_330_11 hS, sp_330_12 hS, sp_330_13 hS, sp_330_14 hS, sp_330_15 hS, sp_330_16 hS, sp_330_17 hS, sp_330_18 hS, sp_330_19 hS, sp_330_20 hS, sp_330_21 hS, sp_330_22 hS, sp_330_23 hS, sp_330_24 hS, sp_330_25 hS, sp_330_26 hS, sp_330_30 hS, sp_330_31 hS, sp_330_33 hS, sp_330_34 hS, sp_330_35 hS, sp_330_36 hS, sp_330_41 hS, sp_330_42 hS, sp_330_43 hS, sp_330_44 hS, sp_330_47 hS, sp_330_48 hS, sp_330_49 hS, sp_330_51 hS, sp_330_52 hS, sp_330_54 hS, sp_330_55 hS, sp_330_56 hS, sp_330_57 hS, sp_330_58 hS, sp_330_61 hS, put_rd sc_330, put_up sc_330, put_rd sc_331, put_up sc_331, put_rd sc_332, put_up sc_332, put_rd sc_333, put_up sc_333, put_rd sc_334, put_up sc_334, put_rd sc_335, put_up sc_335, put_rd sc_336, put_up sc_336, put_rd sc_337, put_up sc_337, put_rd sc_338, put_up sc_338, put_rd sc_339, put_up sc_339, put_rd sc_340, put_up sc_340, put_rd sc_341, put_up sc_341, put_rd sc_342, put_up sc_342, put_rd sc_343, put_up sc_343, put_rd sc_344, put_up sc_344, put_rd sc_345, put_up sc_345, put_rd sc_346, put_up sc_346, put_rd sc_347, put_up sc_347, put_rd sc_348, put_up sc_348, put_rd sc_349, put_up sc_349, put_rd sc_350, put_up sc_350, put_rd sc_351, put_up sc_351, put_rd sc_352, put_up sc_352, put_rd sc_353, put_up sc_353, put_rd sc_354, put_up sc_354, put_rd sc_355, put_up sc_355, put_rd sc_356, put_up sc_356, put_rd sc_357, put_up sc_357, put_rd sc_358, put_up sc_358, put_rd sc_359, put_up sc_359, put_rd sc_360, put_up sc_360, put_rd sc_361, put_up sc_361, put_rd sc_362, put_up sc_362, put_rd sc_363, put_up sc_363, put_rd sc_364, put_up sc_364, put_rd sc_365, put_up sc_365, put_rd sc_366, put_up sc_366, put_rd sc_367, put_up sc_367, put_rd sc_368, put_up sc_368, put_rd sc_369, put_up sc_369, put_rd sc_370, put_up sc_370, put_rd sc_371, put_up sc_371, put_rd sc_372, put_up sc_372, put_rd sc_373, put_up sc_373, put_rd sc_374, put_up sc_374, put_rd sc_375, put_up sc_375, put_rd sc_376, put_up sc_376, put_rd sc_377, put_up sc_377, put_rd sc_378, put_up sc_378, ck_iz_0, ck_iz_1, bz_rd hn, ek, g0, g1, bI_if, bI_ifn]
  by_cases k3 : w2 1 x = 3
  · rw [if_neg (fun z => z k3)]
    by_cases a1 : unA w2 x
    · rw [if_pos a1]
      exact kt (Or.inl ⟨k3, Or.inl a1⟩)
    · rw [if_neg a1]
      by_cases b1 : unB w2 x
      · rw [if_pos b1]
        exact kt (Or.inl ⟨k3, Or.inr b1⟩)
      · rw [if_neg b1]
        refine kf ?_
        rintro (z | z | z)
        · exact z.2.elim a1 b1
        · exact a1 z.2.1
        · exact z.1 k3
  · rw [if_pos k3]
    by_cases k5 : w2 1 x = 5
    · rw [if_neg (fun z => z k5)]
      by_cases a1 : unA w2 x
      · rw [if_pos a1]
        by_cases b1 : unB w2 x
        · rw [if_pos b1]
          exact kt (Or.inr (Or.inl ⟨k5, a1, b1⟩))
        · rw [if_neg b1]
          refine kf ?_
          rintro (z | z | z)
          · exact k3 z.1
          · exact b1 z.2.2
          · exact z.2 k5
      · rw [if_neg a1]
        refine kf ?_
        rintro (z | z | z)
        · exact k3 z.1
        · exact a1 z.2.1
        · exact z.2 k5
    · rw [if_pos k5]
      exact kt (Or.inr (Or.inr ⟨k3, k5⟩))
end MT
