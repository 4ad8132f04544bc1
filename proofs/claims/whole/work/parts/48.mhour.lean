/-! ===== the reference's hour ===== -/
theorem sm_min_cm {x y : Int32} : sm_min x y = sm_min y x := by
  unfold sm_min
  by_cases h : y < x
  · rw [if_pos h, if_neg (fun z => by rw [i_lt] at h z; omega)]
  · rw [if_neg h]
    by_cases h2 : x < y
    · rw [if_pos h2]
    · rw [if_neg h2]
      rw [i_eq]
      rw [i_lt] at h h2
      omega
theorem lpF_keep {σ : Type} {f : Nat → σ → σ} {α : Type} (g : σ → α) (hf : ∀ i s, g (f i s) = g s) : ∀ (n i : Nat) (s : σ), g (lpF f i n s) = g s
  | 0, _, _ => rfl
  | n + 1, i, s => by rw [lpF_s, lpF_keep g hf n (i + 1) (f i s), hf]
section H01
variable {w : am_M} {t : Nat → Nat → List Nat} {m nb ns ne : Nat}
theorem evtF_01 (e : Nat) (w : am_M) : evtF e w 0 1 = w 0 1 := by
  unfold evtF
  split
  · exact am_up_ne (by decide)
  · rfl
theorem lfF_01 {s : Nat} {v : Int32} : lfF w s v 0 1 = w 0 1 := by
  unfold lfF
  split
  · rw [am_up_nk (by decide), am_up_nk (by decide)]
  · rfl
theorem drF_01 {x d : Nat} {dn : Int32} : drF w t m ns x d dn 0 1 = w 0 1 := by
  unfold drF
  split
  · rfl
  · rw [am_up_ne (by omega), lfF_01]
theorem turnF_01 {x : Nat} {dn : Int32} : turnF w t m ns x dn 0 1 = w 0 1 := by
  have e2 : ∀ (w : am_M), trn2 w x 0 1 = w 0 1 := fun w => by
    unfold trn2
    rw [am_up_ne (by decide), am_up_ne (by decide), am_up_ne (by decide)]
  have e3 : ∀ (w : am_M), trn3 w x 0 1 = w 0 1 := fun w => by
    unfold trn3 cif
    split
    · rw [am_up_nk (by decide), am_up_ne (by decide)]
    · rfl
  have e1 : ∀ (w : am_M), trn1 w t m x 0 1 = w 0 1 := fun w => by
    unfold trn1 cif
    split
    · rw [am_up_ne (by decide), am_up_ne (by decide)]
    · rfl
  unfold turnF
  rw [e3, e2, e1, drF_01, drF_01]
theorem stlF_01 (s : Nat) (z : am_M × Int32) : (stlF t m s z).1 0 1 = z.1 0 1 := by
  unfold stlF
  dsimp only
  rw [am_up_ne (by decide), am_up_ne (by decide), am_up_ne (by decide), am_up_ne (by decide)]
theorem hrs_01 : (hrs w t m nb ns ne).1 0 1 = w 0 1 := by
  unfold hrs hr3 hr2 hr1
  rw [lpF_keep (fun z : am_M × Int32 => z.1 0 1) (fun i z => stlF_01 i z)]
  show (lpF (trsF t m ns) 0 nb (lpF evtF 0 ne w, 0)).1 0 1 = w 0 1
  rw [lpF_keep (fun z : am_M × Int32 => z.1 0 1) (fun i z => by unfold trsF; exact turnF_01)]
  show lpF evtF 0 ne w 0 1 = w 0 1
  rw [lpF_keep (fun z : am_M => z 0 1) (fun i z => evtF_01 i z)]
end H01
section MH
variable {P : am_Q} {t : Nat → Nat → List Nat} {m nb ns ne : Nat}
theorem m_events (hS : SP P) {I : am_M} {nx sl : Nat} {ex : Nat → am_M → am_Q → Nat → Nat → Option (am_S)} : ∀ (n e fu : Nat) (R w : am_M), n < fu → e + n = ne → MW R w t m nb ns ne → ∃ R', fM_hour_L2 ex fu (am_pk 330 0 13) (nI e) (put I R) P nx sl = ex (am_pk 330 0 13) (put I R') P nx sl ∧ MW R' (lpF evtF e n w) t m nb ns ne ∧ frM R R'
  | 0, e, fu, R, w, h1, h2, h => by
    obtain ⟨fu, rfl⟩ : ∃ n', fu = n' + 1 := ⟨fu - 1, by omega⟩
    have hle := h.le
    refine ⟨R, ?_, h, frM.rfl⟩
    show fM_hour_B2 _ _ _ _ _ _ _ _ = _
    unfold fM_hour_B2
    simp (disch := first | omega | assumption) only [sm_bd, Option.bind_some, ck_tt, ck_in, ck_iw, ck_ia, ck_iz, ck_01, ck_in_0, ck_iw_0, cl_0, ck_in_1, ck_iw_1, cl_1, ck_in_2, ck_iw_2, cl_2, ck_in_3, ck_iw_3, cl_3, ck_in_4, ck_iw_4, cl_4, ck_in_5, ck_iw_5, cl_5, ck_in_6, ck_iw_6, cl_6, ck_in_7, ck_iw_7, cl_7, ck_in_8, ck_iw_8, cl_8, ck_in_9, ck_iw_9, cl_9, nI_clamp, lm_2, lm_4, lm_10, lm_14, lm_24, lm_80, lm_100, lm_1500, nI_add, nI_1, pk_m1, nI_pred, sp_330_0 hS, sp_330_1 hS, sp_330_2 hS, sp_330_3 hS, sp_330_4 hS, sp_330_5 hS, sp_330_6 hS, sp_330_7 hS, sp_330_8 hS, sp_330_9 hS, sp_330_10 hS, sp_330_11 hS, sp_330_12 hS, sp_330_13 hS, sp_330_14 hS, sp_330_15 hS, sp_330_16 hS, sp_330_17 hS, sp_330_18 hS, sp_330_19 hS, sp_330_20 hS, sp_330_21 hS, sp_330_22 hS, sp_330_23 hS, sp_330_24 hS, sp_330_25 hS, sp_330_26 hS, sp_330_30 hS, sp_330_31 hS, sp_330_33 hS, sp_330_34 hS, sp_330_35 hS, sp_330_36 hS, sp_330_41 hS, sp_330_42 hS, sp_330_43 hS, sp_330_44 hS, sp_330_47 hS, sp_330_48 hS, sp_330_49 hS, sp_330_51 hS, sp_330_52 hS, sp_330_54 hS, sp_330_55 hS, sp_330_56 hS, sp_330_57 hS, sp_330_58 hS, sp_330_61 hS, put_rd sc_330, put_up sc_330, put_rd sc_331, put_up sc_331, put_rd sc_332, put_up sc_332, put_rd sc_333, put_up sc_333, put_rd sc_334, put_up sc_334, put_rd sc_335, put_up sc_335, put_rd sc_336, put_up sc_336, put_rd sc_337, put_up sc_337, put_rd sc_338, put_up sc_338, put_rd sc_339, put_up sc_339, put_rd sc_340, put_up sc_340, put_rd sc_341, put_up sc_341, put_rd sc_342, put_up sc_342, put_rd sc_343, put_up sc_343, put_rd sc_344, put_up sc_344, put_rd sc_345, put_up sc_345, put_rd sc_346, put_up sc_346, put_rd sc_347, put_up sc_347, put_rd sc_348, put_up sc_348, put_rd sc_349, put_up sc_349, put_rd sc_350, put_up sc_350, put_rd sc_351, put_up sc_351, put_rd sc_352, put_up sc_352, put_rd sc_353, put_up sc_353, put_rd sc_354, put_up sc_354, put_rd sc_355, put_up sc_355, put_rd sc_356, put_up sc_356, put_rd sc_357, put_up sc_357, put_rd sc_358, put_up sc_358, put_rd sc_359, put_up sc_359, put_rd sc_360, put_up sc_360, put_rd sc_361, put_up sc_361, put_rd sc_362, put_up sc_362, put_rd sc_363, put_up sc_363, put_rd sc_364, put_up sc_364, put_rd sc_365, put_up sc_365, put_rd sc_366, put_up sc_366, put_rd sc_367, put_up sc_367, put_rd sc_368, put_up sc_368, put_rd sc_369, put_up sc_369, put_rd sc_370, put_up sc_370, put_rd sc_371, put_up sc_371, put_rd sc_372, put_up sc_372, put_rd sc_373, put_up sc_373, put_rd sc_374, put_up sc_374, put_rd sc_375, put_up sc_375, put_rd sc_376, put_up sc_376, put_rd sc_377, put_up sc_377, put_rd sc_378, put_up sc_378, h.n2]
    rw [if_pos (by rw [nI_leI (by omega) (by omega)]; omega)]
  | n + 1, e, fu, R, w, h1, h2, h => by
    obtain ⟨fu, rfl⟩ : ∃ n', fu = n' + 1 := ⟨fu - 1, by omega⟩
    have hle := h.le
    have he : e < ne := by omega
    obtain ⟨-, ⟨k, hk, ek⟩, hv⟩ := h.2.1.2.2.2.2.2 e he
    show ∃ R', fM_hour_B2 _ _ _ _ _ _ _ _ = _ ∧ _
    unfold fM_hour_B2 fM_hour_J44
    simp (disch := first | omega | assumption) only [sm_bd, Option.bind_some, ck_tt, ck_in, ck_iw, ck_ia, ck_iz, ck_01, ck_in_0, ck_iw_0, cl_0, ck_in_1, ck_iw_1, cl_1, ck_in_2, ck_iw_2, cl_2, ck_in_3, ck_iw_3, cl_3, ck_in_4, ck_iw_4, cl_4, ck_in_5, ck_iw_5, cl_5, ck_in_6, ck_iw_6, cl_6, ck_in_7, ck_iw_7, cl_7, ck_in_8, ck_iw_8, cl_8, ck_in_9, ck_iw_9, cl_9, nI_clamp, lm_2, lm_4, lm_10, lm_14, lm_24, lm_80, lm_100, lm_1500, nI_add, nI_1, pk_m1, nI_pred, sp_330_0 hS, sp_330_1 hS, sp_330_2 hS, sp_330_3 hS, sp_330_4 hS, sp_330_5 hS, sp_330_6 hS, sp_330_7 hS, sp_330_8 hS, sp_330_9 hS, sp_330_10 hS, sp_330_11 hS, sp_330_12 hS, sp_330_13 hS, sp_330_14 hS, sp_330_15 hS, sp_330_16 hS, sp_330_17 hS, sp_330_18 hS, sp_330_19 hS, sp_330_20 hS, sp_330_21 hS, sp_330_22 hS, sp_330_23 hS, sp_330_24 hS, sp_330_25 hS, sp_330_26 hS, sp_330_30 hS, sp_330_31 hS, sp_330_33 hS, sp_330_34 hS, sp_330_35 hS, sp_330_36 hS, sp_330_41 hS, sp_330_42 hS, sp_330_43 hS, sp_330_44 hS, sp_330_47 hS, sp_330_48 hS, sp_330_49 hS, sp_330_51 hS, sp_330_52 hS, sp_330_54 hS, sp_330_55 hS, sp_330_56 hS, sp_330_57 hS, sp_330_58 hS, sp_330_61 hS, put_rd sc_330, put_up sc_330, put_rd sc_331, put_up sc_331, put_rd sc_332, put_up sc_332, put_rd sc_333, put_up sc_333, put_rd sc_334, put_up sc_334, put_rd sc_335, put_up sc_335, put_rd sc_336, put_up sc_336, put_rd sc_337, put_up sc_337, put_rd sc_338, put_up sc_338, put_rd sc_339, put_up sc_339, put_rd sc_340, put_up sc_340, put_rd sc_341, put_up sc_341, put_rd sc_342, put_up sc_342, put_rd sc_343, put_up sc_343, put_rd sc_344, put_up sc_344, put_rd sc_345, put_up sc_345, put_rd sc_346, put_up sc_346, put_rd sc_347, put_up sc_347, put_rd sc_348, put_up sc_348, put_rd sc_349, put_up sc_349, put_rd sc_350, put_up sc_350, put_rd sc_351, put_up sc_351, put_rd sc_352, put_up sc_352, put_rd sc_353, put_up sc_353, put_rd sc_354, put_up sc_354, put_rd sc_355, put_up sc_355, put_rd sc_356, put_up sc_356, put_rd sc_357, put_up sc_357, put_rd sc_358, put_up sc_358, put_rd sc_359, put_up sc_359, put_rd sc_360, put_up sc_360, put_rd sc_361, put_up sc_361, put_rd sc_362, put_up sc_362, put_rd sc_363, put_up sc_363, put_rd sc_364, put_up sc_364, put_rd sc_365, put_up sc_365, put_rd sc_366, put_up sc_366, put_rd sc_367, put_up sc_367, put_rd sc_368, put_up sc_368, put_rd sc_369, put_up sc_369, put_rd sc_370, put_up sc_370, put_rd sc_371, put_up sc_371, put_rd sc_372, put_up sc_372, put_rd sc_373, put_up sc_373, put_rd sc_374, put_up sc_374, put_rd sc_375, put_up sc_375, put_rd sc_376, put_up sc_376, put_rd sc_377, put_up sc_377, put_rd sc_378, put_up sc_378, h.n2, h.n3, h.e22 he, h.e23 he, h.e24 he, ek]
    rw [if_neg (by rw [nI_leI (by omega) (by omega)]; omega), lpF_s]
    unfold evtF
    by_cases ev : w 22 e = w 0 1
    · rw [if_neg (fun z => z ev), if_pos ev, ek, show ix (nI k) = k from nI_clamp (by omega)]
      have h2' := h.wr (r := 2) (c := k) (v := w 24 e) (okb (by decide) (by decide) hk hle.1) hv rfl
      obtain ⟨R', q1, q2, q3⟩ := m_events hS (ex := ex) n (e + 1) fu _ _ (by omega) (by omega) h2'
      exact ⟨R', q1, q2, (frM.up (by decide)).tr q3⟩
    · rw [if_pos ev, if_neg ev]
      exact m_events hS (ex := ex) n (e + 1) fu _ _ (by omega) (by omega) h
theorem m_trs (hS : SP P) {ex : Nat → am_M → am_Q → Nat → Nat → Option (am_S)} : ∀ (n i fu : Nat) (I R w : am_M) (dn : Int32) (nx sl : Nat), n < fu → i + n = nb → MW R w t m nb ns ne → 379 ≤ nx → ∃ I' R', fM_hour_L54 ex fu (am_pk 330 0 13) dn (nI i) (put I R) P nx sl = ex (am_pk 330 0 13) (put I' R') P (nx + n) (sl + 2 * n) ∧ MW R' (lpF (trsF t m ns) i n (w, dn)).1 t m nb ns ne ∧ frM R R' ∧ frI I I'
  | 0, i, fu, I, R, w, dn, nx, sl, h1, h2, h, hn => by
    obtain ⟨fu, rfl⟩ : ∃ n', fu = n' + 1 := ⟨fu - 1, by omega⟩
    have hle := h.le
    refine ⟨I, R, ?_, h, frM.rfl, frI.rfl⟩
    show fM_hour_B54 _ _ _ _ _ _ _ _ _ = _
    unfold fM_hour_B54
    simp (disch := first | omega | assumption) only [sm_bd, Option.bind_some, ck_tt, ck_in, ck_iw, ck_ia, ck_iz, ck_01, ck_in_0, ck_iw_0, cl_0, ck_in_1, ck_iw_1, cl_1, ck_in_2, ck_iw_2, cl_2, ck_in_3, ck_iw_3, cl_3, ck_in_4, ck_iw_4, cl_4, ck_in_5, ck_iw_5, cl_5, ck_in_6, ck_iw_6, cl_6, ck_in_7, ck_iw_7, cl_7, ck_in_8, ck_iw_8, cl_8, ck_in_9, ck_iw_9, cl_9, nI_clamp, lm_2, lm_4, lm_10, lm_14, lm_24, lm_80, lm_100, lm_1500, nI_add, nI_1, pk_m1, nI_pred, sp_330_0 hS, sp_330_1 hS, sp_330_2 hS, sp_330_3 hS, sp_330_4 hS, sp_330_5 hS, sp_330_6 hS, sp_330_7 hS, sp_330_8 hS, sp_330_9 hS, sp_330_10 hS, sp_330_11 hS, sp_330_12 hS, sp_330_13 hS, sp_330_14 hS, sp_330_15 hS, sp_330_16 hS, sp_330_17 hS, sp_330_18 hS, sp_330_19 hS, sp_330_20 hS, sp_330_21 hS, sp_330_22 hS, sp_330_23 hS, sp_330_24 hS, sp_330_25 hS, sp_330_26 hS, sp_330_30 hS, sp_330_31 hS, sp_330_33 hS, sp_330_34 hS, sp_330_35 hS, sp_330_36 hS, sp_330_41 hS, sp_330_42 hS, sp_330_43 hS, sp_330_44 hS, sp_330_47 hS, sp_330_48 hS, sp_330_49 hS, sp_330_51 hS, sp_330_52 hS, sp_330_54 hS, sp_330_55 hS, sp_330_56 hS, sp_330_57 hS, sp_330_58 hS, sp_330_61 hS, put_rd sc_330, put_up sc_330, put_rd sc_331, put_up sc_331, put_rd sc_332, put_up sc_332, put_rd sc_333, put_up sc_333, put_rd sc_334, put_up sc_334, put_rd sc_335, put_up sc_335, put_rd sc_336, put_up sc_336, put_rd sc_337, put_up sc_337, put_rd sc_338, put_up sc_338, put_rd sc_339, put_up sc_339, put_rd sc_340, put_up sc_340, put_rd sc_341, put_up sc_341, put_rd sc_342, put_up sc_342, put_rd sc_343, put_up sc_343, put_rd sc_344, put_up sc_344, put_rd sc_345, put_up sc_345, put_rd sc_346, put_up sc_346, put_rd sc_347, put_up sc_347, put_rd sc_348, put_up sc_348, put_rd sc_349, put_up sc_349, put_rd sc_350, put_up sc_350, put_rd sc_351, put_up sc_351, put_rd sc_352, put_up sc_352, put_rd sc_353, put_up sc_353, put_rd sc_354, put_up sc_354, put_rd sc_355, put_up sc_355, put_rd sc_356, put_up sc_356, put_rd sc_357, put_up sc_357, put_rd sc_358, put_up sc_358, put_rd sc_359, put_up sc_359, put_rd sc_360, put_up sc_360, put_rd sc_361, put_up sc_361, put_rd sc_362, put_up sc_362, put_rd sc_363, put_up sc_363, put_rd sc_364, put_up sc_364, put_rd sc_365, put_up sc_365, put_rd sc_366, put_up sc_366, put_rd sc_367, put_up sc_367, put_rd sc_368, put_up sc_368, put_rd sc_369, put_up sc_369, put_rd sc_370, put_up sc_370, put_rd sc_371, put_up sc_371, put_rd sc_372, put_up sc_372, put_rd sc_373, put_up sc_373, put_rd sc_374, put_up sc_374, put_rd sc_375, put_up sc_375, put_rd sc_376, put_up sc_376, put_rd sc_377, put_up sc_377, put_rd sc_378, put_up sc_378, h.n0]
    rw [if_pos (by rw [nI_leI (by omega) (by omega)]; omega)]
    rfl
  | n + 1, i, fu, I, R, w, dn, nx, sl, h1, h2, h, hn => by
    obtain ⟨fu, rfl⟩ : ∃ n', fu = n' + 1 := ⟨fu - 1, by omega⟩
    have hle := h.le
    have hi : i < nb := by omega
    obtain ⟨x, hx, ex1⟩ := h.2.1.2.2.2.2.1.1 i hi
    obtain ⟨I1, R1, q1, h3, f1, g1⟩ := m_turns (I := I) (nx := nx) (sl := sl) hS h (dn := dn) hx hn
    show ∃ I' R', fM_hour_B54 _ _ _ _ _ _ _ _ _ = _ ∧ _
    unfold fM_hour_B54
    simp (disch := first | omega | assumption) only [sm_bd, Option.bind_some, ck_tt, ck_in, ck_iw, ck_ia, ck_iz, ck_01, ck_in_0, ck_iw_0, cl_0, ck_in_1, ck_iw_1, cl_1, ck_in_2, ck_iw_2, cl_2, ck_in_3, ck_iw_3, cl_3, ck_in_4, ck_iw_4, cl_4, ck_in_5, ck_iw_5, cl_5, ck_in_6, ck_iw_6, cl_6, ck_in_7, ck_iw_7, cl_7, ck_in_8, ck_iw_8, cl_8, ck_in_9, ck_iw_9, cl_9, nI_clamp, lm_2, lm_4, lm_10, lm_14, lm_24, lm_80, lm_100, lm_1500, nI_add, nI_1, pk_m1, nI_pred, sp_330_0 hS, sp_330_1 hS, sp_330_2 hS, sp_330_3 hS, sp_330_4 hS, sp_330_5 hS, sp_330_6 hS, sp_330_7 hS, sp_330_8 hS, sp_330_9 hS, sp_330_10 hS, sp_330_11 hS, sp_330_12 hS, sp_330_13 hS, sp_330_14 hS, sp_330_15 hS, sp_330_16 hS, sp_330_17 hS, sp_330_18 hS, sp_330_19 hS, sp_330_20 hS, sp_330_21 hS, sp_330_22 hS, sp_330_23 hS, sp_330_24 hS, sp_330_25 hS, sp_330_26 hS, sp_330_30 hS, sp_330_31 hS, sp_330_33 hS, sp_330_34 hS, sp_330_35 hS, sp_330_36 hS, sp_330_41 hS, sp_330_42 hS, sp_330_43 hS, sp_330_44 hS, sp_330_47 hS, sp_330_48 hS, sp_330_49 hS, sp_330_51 hS, sp_330_52 hS, sp_330_54 hS, sp_330_55 hS, sp_330_56 hS, sp_330_57 hS, sp_330_58 hS, sp_330_61 hS, put_rd sc_330, put_up sc_330, put_rd sc_331, put_up sc_331, put_rd sc_332, put_up sc_332, put_rd sc_333, put_up sc_333, put_rd sc_334, put_up sc_334, put_rd sc_335, put_up sc_335, put_rd sc_336, put_up sc_336, put_rd sc_337, put_up sc_337, put_rd sc_338, put_up sc_338, put_rd sc_339, put_up sc_339, put_rd sc_340, put_up sc_340, put_rd sc_341, put_up sc_341, put_rd sc_342, put_up sc_342, put_rd sc_343, put_up sc_343, put_rd sc_344, put_up sc_344, put_rd sc_345, put_up sc_345, put_rd sc_346, put_up sc_346, put_rd sc_347, put_up sc_347, put_rd sc_348, put_up sc_348, put_rd sc_349, put_up sc_349, put_rd sc_350, put_up sc_350, put_rd sc_351, put_up sc_351, put_rd sc_352, put_up sc_352, put_rd sc_353, put_up sc_353, put_rd sc_354, put_up sc_354, put_rd sc_355, put_up sc_355, put_rd sc_356, put_up sc_356, put_rd sc_357, put_up sc_357, put_rd sc_358, put_up sc_358, put_rd sc_359, put_up sc_359, put_rd sc_360, put_up sc_360, put_rd sc_361, put_up sc_361, put_rd sc_362, put_up sc_362, put_rd sc_363, put_up sc_363, put_rd sc_364, put_up sc_364, put_rd sc_365, put_up sc_365, put_rd sc_366, put_up sc_366, put_rd sc_367, put_up sc_367, put_rd sc_368, put_up sc_368, put_rd sc_369, put_up sc_369, put_rd sc_370, put_up sc_370, put_rd sc_371, put_up sc_371, put_rd sc_372, put_up sc_372, put_rd sc_373, put_up sc_373, put_rd sc_374, put_up sc_374, put_rd sc_375, put_up sc_375, put_rd sc_376, put_up sc_376, put_rd sc_377, put_up sc_377, put_rd sc_378, put_up sc_378, h.n0, h.bo hi, ex1, q1, h3.bo hi]
    rw [if_neg (by rw [nI_leI (by omega) (by omega)]; omega), lpF_s]
    have es : trsF t m ns i (w, dn) = (turnF w t m ns x dn, dn ||| sm_shl 1 (turnF w t m ns x dn 21 i)) := by
      unfold trsF
      simp only [ex1]
      rw [show ix (nI x) = x from nI_clamp (by omega)]
    rw [es]
    obtain ⟨I', R', p1, p2, p3, p4⟩ := m_trs hS (ex := ex) n (i + 1) fu I1 R1 _ (dn ||| sm_shl 1 (turnF w t m ns x dn 21 i)) (nx + 1) (sl + 2) (by omega) (by omega) h3 (by omega)
    rw [show nx + 1 + n = nx + (n + 1) by omega, show sl + 2 + 2 * n = sl + 2 * (n + 1) by omega] at p1
    exact ⟨I', R', p1, p2, f1.tr p3, g1.tr p4⟩
theorem m_settle1 (hS : SP P) {I R w : am_M} {nx sl s : Nat} {sum : Int32} (h : MW R w t m nb ns ne) (hs : s < ns) (hsum : R 330 50 = sum) {ex : Nat → am_M → am_Q → Nat → Nat → Option (am_S)} {r : Nat → Int32 → am_M → am_Q → Nat → Nat → Option (am_S)} : ∃ R', fM_hour_B99 ex r (am_pk 330 0 13) (nI s) (put I R) P nx sl = r (am_pk 330 0 13) (nI (s + 1)) (put I R') P nx sl ∧ MW R' (stlF t m s (w, sum)).1 t m nb ns ne ∧ R' 330 50 = (stlF t m s (w, sum)).2 ∧ frM R R' := by
  have hle := h.le
  obtain ⟨fb, fo, tb, td, hfb, hfo, htb, htd, e11, e12, e13, e14, e46, e47⟩ := h.ends hs
  obtain ⟨R1, q1, h1, f1⟩ := h.out (I := I) hS hfb hfo
  have es : snF w t m s = otF w t m fb (2 + fo) := by
    unfold snF ix
    rw [e11, e12, nI_clamp (by omega), nI_clamp (by omega)]
  rw [← es] at q1
  have e47' : R1 347 s = nI (10 * tb + td) := by rw [f1 347 (by decide)]; exact e47
  have ein : R1 340 (2 * tb + td) = inF w s := by
    unfold inF
    rw [e13, e14, show ix (nI tb) = tb from nI_clamp (by omega)]
    rcases (show td = 0 ∨ td = 1 by omega) with rfl | rfl
    · rw [if_pos (by decide)]; exact h1.b4 htb
    · rw [if_neg (by decide)]; exact h1.b5 htb
  have edr : fM_doorOf (nI (10 * tb + td)) = some (nI (2 * tb + td)) := by
    unfold fM_doorOf
    rw [d10 (by omega) (by omega), r10 (by omega) (by omega), lm_2, nI_add]
  have e50 : R1 330 50 = sum := by rw [f1 330 (by decide)]; exact hsum
  have eo : farF (inF w s) (snF w t m s) (nI m) = ofF w t m s := rfl
  unfold fM_hour_B99
  simp (disch := first | omega | assumption) only [sm_bd, Option.bind_some, ck_tt, ck_in, ck_iw, ck_ia, ck_iz, ck_01, ck_in_0, ck_iw_0, cl_0, ck_in_1, ck_iw_1, cl_1, ck_in_2, ck_iw_2, cl_2, ck_in_3, ck_iw_3, cl_3, ck_in_4, ck_iw_4, cl_4, ck_in_5, ck_iw_5, cl_5, ck_in_6, ck_iw_6, cl_6, ck_in_7, ck_iw_7, cl_7, ck_in_8, ck_iw_8, cl_8, ck_in_9, ck_iw_9, cl_9, nI_clamp, lm_2, lm_4, lm_10, lm_14, lm_24, lm_80, lm_100, lm_1500, nI_add, nI_1, pk_m1, nI_pred, sp_330_0 hS, sp_330_1 hS, sp_330_2 hS, sp_330_3 hS, sp_330_4 hS, sp_330_5 hS, sp_330_6 hS, sp_330_7 hS, sp_330_8 hS, sp_330_9 hS, sp_330_10 hS, sp_330_11 hS, sp_330_12 hS, sp_330_13 hS, sp_330_14 hS, sp_330_15 hS, sp_330_16 hS, sp_330_17 hS, sp_330_18 hS, sp_330_19 hS, sp_330_20 hS, sp_330_21 hS, sp_330_22 hS, sp_330_23 hS, sp_330_24 hS, sp_330_25 hS, sp_330_26 hS, sp_330_30 hS, sp_330_31 hS, sp_330_33 hS, sp_330_34 hS, sp_330_35 hS, sp_330_36 hS, sp_330_41 hS, sp_330_42 hS, sp_330_43 hS, sp_330_44 hS, sp_330_47 hS, sp_330_48 hS, sp_330_49 hS, sp_330_51 hS, sp_330_52 hS, sp_330_54 hS, sp_330_55 hS, sp_330_56 hS, sp_330_57 hS, sp_330_58 hS, sp_330_61 hS, put_rd sc_330, put_up sc_330, put_rd sc_331, put_up sc_331, put_rd sc_332, put_up sc_332, put_rd sc_333, put_up sc_333, put_rd sc_334, put_up sc_334, put_rd sc_335, put_up sc_335, put_rd sc_336, put_up sc_336, put_rd sc_337, put_up sc_337, put_rd sc_338, put_up sc_338, put_rd sc_339, put_up sc_339, put_rd sc_340, put_up sc_340, put_rd sc_341, put_up sc_341, put_rd sc_342, put_up sc_342, put_rd sc_343, put_up sc_343, put_rd sc_344, put_up sc_344, put_rd sc_345, put_up sc_345, put_rd sc_346, put_up sc_346, put_rd sc_347, put_up sc_347, put_rd sc_348, put_up sc_348, put_rd sc_349, put_up sc_349, put_rd sc_350, put_up sc_350, put_rd sc_351, put_up sc_351, put_rd sc_352, put_up sc_352, put_rd sc_353, put_up sc_353, put_rd sc_354, put_up sc_354, put_rd sc_355, put_up sc_355, put_rd sc_356, put_up sc_356, put_rd sc_357, put_up sc_357, put_rd sc_358, put_up sc_358, put_rd sc_359, put_up sc_359, put_rd sc_360, put_up sc_360, put_rd sc_361, put_up sc_361, put_rd sc_362, put_up sc_362, put_rd sc_363, put_up sc_363, put_rd sc_364, put_up sc_364, put_rd sc_365, put_up sc_365, put_rd sc_366, put_up sc_366, put_rd sc_367, put_up sc_367, put_rd sc_368, put_up sc_368, put_rd sc_369, put_up sc_369, put_rd sc_370, put_up sc_370, put_rd sc_371, put_up sc_371, put_rd sc_372, put_up sc_372, put_rd sc_373, put_up sc_373, put_rd sc_374, put_up sc_374, put_rd sc_375, put_up sc_375, put_rd sc_376, put_up sc_376, put_rd sc_377, put_up sc_377, put_rd sc_378, put_up sc_378, h.n1, e46, d10, r10, q1]
  rw [if_neg (by rw [nI_leI (by omega) (by omega)]; omega)]
  simp (disch := first | omega | assumption) only [sm_bd, Option.bind_some, ck_tt, ck_in, ck_iw, ck_ia, ck_iz, ck_01, ck_in_0, ck_iw_0, cl_0, ck_in_1, ck_iw_1, cl_1, ck_in_2, ck_iw_2, cl_2, ck_in_3, ck_iw_3, cl_3, ck_in_4, ck_iw_4, cl_4, ck_in_5, ck_iw_5, cl_5, ck_in_6, ck_iw_6, cl_6, ck_in_7, ck_iw_7, cl_7, ck_in_8, ck_iw_8, cl_8, ck_in_9, ck_iw_9, cl_9, nI_clamp, lm_2, lm_4, lm_10, lm_14, lm_24, lm_80, lm_100, lm_1500, nI_add, nI_1, pk_m1, nI_pred, sp_330_0 hS, sp_330_1 hS, sp_330_2 hS, sp_330_3 hS, sp_330_4 hS, sp_330_5 hS, sp_330_6 hS, sp_330_7 hS, sp_330_8 hS, sp_330_9 hS, sp_330_10 hS, sp_330_11 hS, sp_330_12 hS, sp_330_13 hS, sp_330_14 hS, sp_330_15 hS, sp_330_16 hS, sp_330_17 hS, sp_330_18 hS, sp_330_19 hS, sp_330_20 hS, sp_330_21 hS, sp_330_22 hS, sp_330_23 hS, sp_330_24 hS, sp_330_25 hS, sp_330_26 hS, sp_330_30 hS, sp_330_31 hS, sp_330_33 hS, sp_330_34 hS, sp_330_35 hS, sp_330_36 hS, sp_330_41 hS, sp_330_42 hS, sp_330_43 hS, sp_330_44 hS, sp_330_47 hS, sp_330_48 hS, sp_330_49 hS, sp_330_51 hS, sp_330_52 hS, sp_330_54 hS, sp_330_55 hS, sp_330_56 hS, sp_330_57 hS, sp_330_58 hS, sp_330_61 hS, put_rd sc_330, put_up sc_330, put_rd sc_331, put_up sc_331, put_rd sc_332, put_up sc_332, put_rd sc_333, put_up sc_333, put_rd sc_334, put_up sc_334, put_rd sc_335, put_up sc_335, put_rd sc_336, put_up sc_336, put_rd sc_337, put_up sc_337, put_rd sc_338, put_up sc_338, put_rd sc_339, put_up sc_339, put_rd sc_340, put_up sc_340, put_rd sc_341, put_up sc_341, put_rd sc_342, put_up sc_342, put_rd sc_343, put_up sc_343, put_rd sc_344, put_up sc_344, put_rd sc_345, put_up sc_345, put_rd sc_346, put_up sc_346, put_rd sc_347, put_up sc_347, put_rd sc_348, put_up sc_348, put_rd sc_349, put_up sc_349, put_rd sc_350, put_up sc_350, put_rd sc_351, put_up sc_351, put_rd sc_352, put_up sc_352, put_rd sc_353, put_up sc_353, put_rd sc_354, put_up sc_354, put_rd sc_355, put_up sc_355, put_rd sc_356, put_up sc_356, put_rd sc_357, put_up sc_357, put_rd sc_358, put_up sc_358, put_rd sc_359, put_up sc_359, put_rd sc_360, put_up sc_360, put_rd sc_361, put_up sc_361, put_rd sc_362, put_up sc_362, put_rd sc_363, put_up sc_363, put_rd sc_364, put_up sc_364, put_rd sc_365, put_up sc_365, put_rd sc_366, put_up sc_366, put_rd sc_367, put_up sc_367, put_rd sc_368, put_up sc_368, put_rd sc_369, put_up sc_369, put_rd sc_370, put_up sc_370, put_rd sc_371, put_up sc_371, put_rd sc_372, put_up sc_372, put_rd sc_373, put_up sc_373, put_rd sc_374, put_up sc_374, put_rd sc_375, put_up sc_375, put_rd sc_376, put_up sc_376, put_rd sc_377, put_up sc_377, put_rd sc_378, put_up sc_378, e47', edr, ein, h1.far hS, eo, h_lesser, e50]
  have o7 : am_up R1 330 50 (sum + ofF w t m s) 351 s = w 18 s := by rw [am_up_ne (by decide)]; exact h1.s18 hs
  rw [o7, sm_min_cm]
  obtain ⟨-, -, -, -, r15, r16, -, ⟨ow, how, e18⟩, -⟩ := h.2.1.2.2.1 s hs
  obtain ⟨oj, hoj, eoj⟩ := ran_nI (ofF_ran (w := w) (t := t) (s := s) hle.2.2.2.1 hle.2.2.2.2) hle.2.2.2.2
  have oks : ∀ r, 11 ≤ r → r ≤ 20 → okrc r s := fun r a1 a2 => Or.inr (Or.inr (Or.inl ⟨a1, a2, by omega⟩))
  have w0 : MW (am_up R1 330 50 (sum + ofF w t m s)) w t m nb ns ne := h1.fr (fun c h1 h2 => by funext k; rw [am_up_ne (by omega)])
  have w1 := w0.wr (r := 18) (c := s) (v := sm_min (w 18 s + ofF w t m s) 99999) (oks _ (by decide) (by decide)) (by rw [e18, eoj]; exact owes_ok how (by omega)) (show aM 18 s = (351, s) from rfl)
  have w2 := w1.wr (r := 17) (c := s) (v := w 16 s) (oks _ (by decide) (by decide)) r16 (show aM 17 s = (350, s) from rfl)
  have w3 := w2.wr (r := 16) (c := s) (v := w 15 s) (oks _ (by decide) (by decide)) r15 (show aM 16 s = (349, s) from rfl)
  have w4 := w3.wr (r := 15) (c := s) (v := snF w t m s) (oks _ (by decide) (by decide)) (snF_ran h.2.1 hs) (show aM 15 s = (348, s) from rfl)
  have g16 : am_up (am_up R1 330 50 (sum + ofF w t m s)) 351 s (sm_min (w 18 s + ofF w t m s) 99999) 349 s = w 16 s := by rw [am_up_ne (by decide), am_up_ne (by decide)]; exact h1.s16 hs
  have g15 : am_up (am_up (am_up R1 330 50 (sum + ofF w t m s)) 351 s (sm_min (w 18 s + ofF w t m s) 99999)) 350 s (w 16 s) 348 s = w 15 s := by rw [am_up_ne (by decide), am_up_ne (by decide), am_up_ne (by decide)]; exact h1.s15 hs
  rw [g16, g15]
  refine ⟨_, rfl, w4, ?_, (frM.cl f1).tr (frM.tr ⟨fun c a1 _ _ => by funext k; rw [am_up_ne a1], fun k hk => by rw [am_up_nk hk]⟩ ((frM.up (by decide)).tr ((frM.up (by decide)).tr ((frM.up (by decide)).tr (frM.up (by decide))))))⟩
  rw [am_up_ne (by decide), am_up_ne (by decide), am_up_ne (by decide), am_up_ne (by decide), am_up_eq]
  rfl
theorem m_settles (hS : SP P) {I : am_M} {nx sl : Nat} {ex : Nat → am_M → am_Q → Nat → Nat → Option (am_S)} : ∀ (n s fu : Nat) (R w : am_M) (sum : Int32), n < fu → s + n = ns → MW R w t m nb ns ne → R 330 50 = sum → ∃ R', fM_hour_L99 ex fu (am_pk 330 0 13) (nI s) (put I R) P nx sl = ex (am_pk 330 0 13) (put I R') P nx sl ∧ MW R' (lpF (stlF t m) s n (w, sum)).1 t m nb ns ne ∧ R' 330 50 = (lpF (stlF t m) s n (w, sum)).2 ∧ frM R R'
  | 0, s, fu, R, w, sum, h1, h2, h, h5 => by
    obtain ⟨fu, rfl⟩ : ∃ n', fu = n' + 1 := ⟨fu - 1, by omega⟩
    have hle := h.le
    refine ⟨R, ?_, h, h5, frM.rfl⟩
    show fM_hour_B99 _ _ _ _ _ _ _ _ = _
    unfold fM_hour_B99
    simp (disch := first | omega | assumption) only [sm_bd, Option.bind_some, ck_tt, ck_in, ck_iw, ck_ia, ck_iz, ck_01, ck_in_0, ck_iw_0, cl_0, ck_in_1, ck_iw_1, cl_1, ck_in_2, ck_iw_2, cl_2, ck_in_3, ck_iw_3, cl_3, ck_in_4, ck_iw_4, cl_4, ck_in_5, ck_iw_5, cl_5, ck_in_6, ck_iw_6, cl_6, ck_in_7, ck_iw_7, cl_7, ck_in_8, ck_iw_8, cl_8, ck_in_9, ck_iw_9, cl_9, nI_clamp, lm_2, lm_4, lm_10, lm_14, lm_24, lm_80, lm_100, lm_1500, nI_add, nI_1, pk_m1, nI_pred, sp_330_0 hS, sp_330_1 hS, sp_330_2 hS, sp_330_3 hS, sp_330_4 hS, sp_330_5 hS, sp_330_6 hS, sp_330_7 hS, sp_330_8 hS, sp_330_9 hS, sp_330_10 hS, sp_330_11 hS, sp_330_12 hS, sp_330_13 hS, sp_330_14 hS, sp_330_15 hS, sp_330_16 hS, sp_330_17 hS, sp_330_18 hS, sp_330_19 hS, sp_330_20 hS, sp_330_21 hS, sp_330_22 hS, sp_330_23 hS, sp_330_24 hS, sp_330_25 hS, sp_330_26 hS, sp_330_30 hS, sp_330_31 hS, sp_330_33 hS, sp_330_34 hS, sp_330_35 hS, sp_330_36 hS, sp_330_41 hS, sp_330_42 hS, sp_330_43 hS, sp_330_44 hS, sp_330_47 hS, sp_330_48 hS, sp_330_49 hS, sp_330_51 hS, sp_330_52 hS, sp_330_54 hS, sp_330_55 hS, sp_330_56 hS, sp_330_57 hS, sp_330_58 hS, sp_330_61 hS, put_rd sc_330, put_up sc_330, put_rd sc_331, put_up sc_331, put_rd sc_332, put_up sc_332, put_rd sc_333, put_up sc_333, put_rd sc_334, put_up sc_334, put_rd sc_335, put_up sc_335, put_rd sc_336, put_up sc_336, put_rd sc_337, put_up sc_337, put_rd sc_338, put_up sc_338, put_rd sc_339, put_up sc_339, put_rd sc_340, put_up sc_340, put_rd sc_341, put_up sc_341, put_rd sc_342, put_up sc_342, put_rd sc_343, put_up sc_343, put_rd sc_344, put_up sc_344, put_rd sc_345, put_up sc_345, put_rd sc_346, put_up sc_346, put_rd sc_347, put_up sc_347, put_rd sc_348, put_up sc_348, put_rd sc_349, put_up sc_349, put_rd sc_350, put_up sc_350, put_rd sc_351, put_up sc_351, put_rd sc_352, put_up sc_352, put_rd sc_353, put_up sc_353, put_rd sc_354, put_up sc_354, put_rd sc_355, put_up sc_355, put_rd sc_356, put_up sc_356, put_rd sc_357, put_up sc_357, put_rd sc_358, put_up sc_358, put_rd sc_359, put_up sc_359, put_rd sc_360, put_up sc_360, put_rd sc_361, put_up sc_361, put_rd sc_362, put_up sc_362, put_rd sc_363, put_up sc_363, put_rd sc_364, put_up sc_364, put_rd sc_365, put_up sc_365, put_rd sc_366, put_up sc_366, put_rd sc_367, put_up sc_367, put_rd sc_368, put_up sc_368, put_rd sc_369, put_up sc_369, put_rd sc_370, put_up sc_370, put_rd sc_371, put_up sc_371, put_rd sc_372, put_up sc_372, put_rd sc_373, put_up sc_373, put_rd sc_374, put_up sc_374, put_rd sc_375, put_up sc_375, put_rd sc_376, put_up sc_376, put_rd sc_377, put_up sc_377, put_rd sc_378, put_up sc_378, h.n1]
    rw [if_pos (by rw [nI_leI (by omega) (by omega)]; omega)]
  | n + 1, s, fu, R, w, sum, h1, h2, h, h5 => by
    obtain ⟨fu, rfl⟩ : ∃ n', fu = n' + 1 := ⟨fu - 1, by omega⟩
    obtain ⟨R1, q1, q2, q5, q3⟩ := m_settle1 (I := I) (nx := nx) (sl := sl) hS h (show s < ns by omega) h5 (ex := ex) (r := fM_hour_L99 ex fu)
    obtain ⟨R2, p1, p2, p5, p3⟩ := m_settles hS (I := I) (nx := nx) (sl := sl) (ex := ex) n (s + 1) fu R1 _ (stlF t m s (w, sum)).2 (by omega) (by omega) q2 q5
    refine ⟨R2, ?_, ?_, ?_, q3.tr p3⟩
    · show fM_hour_B99 _ _ _ _ _ _ _ _ = _
      rw [q1, p1]
    · rw [lpF_s]; exact p2
    · rw [lpF_s]; exact p5
/-- the reference's hour -/
theorem m_hour (hS : SP P) {I R w : am_M} {nx sl : Nat} (h : MW R w t m nb ns ne) (hn : 379 ≤ nx) {k : Nat} (hk : k < 2000) (ek : w 0 1 = nI k) : ∃ I' R', fM_hour (am_pk 330 0 13) (put I R) P nx sl = some (put I' R', P, nx + nb, sl + 2 * nb) ∧ MW R' (hourF w t m nb ns ne) t m nb ns ne ∧ R' 330 50 = offF w t m nb ns ne ∧ frM R R' ∧ frI I I' := by
  have hle := h.le
  unfold fM_hour
  obtain ⟨R1, q1, h1, f1⟩ := m_events hS (I := I) (nx := nx) (sl := sl) (ex := fun l0 I P nx sl =>
      fM_hour_L54 (fun l0 I P nx sl =>
          sm_ck (am_t l0 = 13) <|
          sm_bd (am_up I l0 50 0) fun I21 =>
          fM_hour_L99 (fun l0 I P nx sl =>
              sm_ck (am_t l0 = 13) <|
              sm_ck (sm_in (P l0 1) 3) <|
              sm_ck (sm_iw (P l0 1) 3) <|
              sm_bd (am_up I (P l0 1) (3 : Int32).toNatClampNeg ((I (P l0 1) (3 : Int32).toNatClampNeg) + 1)) fun I49 =>
              some (I49, P, nx, sl)) sm_fu l0 0 I21 P nx sl) sm_fu l0 0 0 I P nx sl) ne 0 sm_fu R w (sm_fu_lt (by omega)) (by omega) h
  obtain ⟨I2, R2, q2, h2, f2, g2⟩ := m_trs hS (ex := fun l0 I P nx sl =>
          sm_ck (am_t l0 = 13) <|
          sm_bd (am_up I l0 50 0) fun I21 =>
          fM_hour_L99 (fun l0 I P nx sl =>
              sm_ck (am_t l0 = 13) <|
              sm_ck (sm_in (P l0 1) 3) <|
              sm_ck (sm_iw (P l0 1) 3) <|
              sm_bd (am_up I (P l0 1) (3 : Int32).toNatClampNeg ((I (P l0 1) (3 : Int32).toNatClampNeg) + 1)) fun I49 =>
              some (I49, P, nx, sl)) sm_fu l0 0 I21 P nx sl) nb 0 sm_fu I R1 _ 0 nx sl (sm_fu_lt (by omega)) (by omega) h1 hn
  have h2' : MW (am_up R2 330 50 0) (lpF (trsF t m ns) 0 nb (lpF evtF 0 ne w, 0)).1 t m nb ns ne := h2.fr (fun c h1 h2 => by funext k; rw [am_up_ne (by omega)])
  obtain ⟨R3, q3, h3, e3, f3⟩ := m_settles hS (I := I2) (nx := nx + nb) (sl := sl + 2 * nb) (ex := fun l0 I P nx sl =>
              sm_ck (am_t l0 = 13) <|
              sm_ck (sm_in (P l0 1) 3) <|
              sm_ck (sm_iw (P l0 1) 3) <|
              sm_bd (am_up I (P l0 1) (3 : Int32).toNatClampNeg ((I (P l0 1) (3 : Int32).toNatClampNeg) + 1)) fun I49 =>
              some (I49, P, nx, sl)) ns 0 sm_fu _ _ 0 (sm_fu_lt (by omega)) (by omega) h2' am_up_eq
  have ek' : (hrs w t m nb ns ne).1 0 1 = nI k := hrs_01.trans ek
  have e1 : R3 332 3 = (hrs w t m nb ns ne).1 0 1 := h3.n3
  have h4 := h3.wr (r := 0) (c := 1) (v := (hrs w t m nb ns ne).1 0 1 + 1) (Or.inl ⟨rfl, by decide⟩) (Or.inr (Or.inr (Or.inr (Or.inl ⟨rfl, k + 1, by omega, by rw [ek', nI_1]⟩)))) (show aM 0 1 = (332, 3) from rfl)
  refine ⟨I2, am_up R3 332 3 ((hrs w t m nb ns ne).1 0 1 + 1), ?_, h4, ?_, ?_, g2⟩
  · refine q1.trans ?_
    refine q2.trans ?_
    simp (disch := first | omega | assumption) only [sm_bd, Option.bind_some, ck_tt, ck_in, ck_iw, ck_ia, ck_iz, ck_01, ck_in_0, ck_iw_0, cl_0, ck_in_1, ck_iw_1, cl_1, ck_in_2, ck_iw_2, cl_2, ck_in_3, ck_iw_3, cl_3, ck_in_4, ck_iw_4, cl_4, ck_in_5, ck_iw_5, cl_5, ck_in_6, ck_iw_6, cl_6, ck_in_7, ck_iw_7, cl_7, ck_in_8, ck_iw_8, cl_8, ck_in_9, ck_iw_9, cl_9, nI_clamp, lm_2, lm_4, lm_10, lm_14, lm_24, lm_80, lm_100, lm_1500, nI_add, nI_1, pk_m1, nI_pred, sp_330_0 hS, sp_330_1 hS, sp_330_2 hS, sp_330_3 hS, sp_330_4 hS, sp_330_5 hS, sp_330_6 hS, sp_330_7 hS, sp_330_8 hS, sp_330_9 hS, sp_330_10 hS, sp_330_11 hS, sp_330_12 hS, sp_330_13 hS, sp_330_14 hS, sp_330_15 hS, sp_330_16 hS, sp_330_17 hS, sp_330_18 hS, sp_330_19 hS, sp_330_20 hS, sp_330_21 hS, sp_330_22 hS, sp_330_23 hS, sp_330_24 hS, sp_330_25 hS, sp_330_26 hS, sp_330_30 hS, sp_330_31 hS, sp_330_33 hS, sp_330_34 hS, sp_330_35 hS, sp_330_36 hS, sp_330_41 hS, sp_330_42 hS, sp_330_43 hS, sp_330_44 hS, sp_330_47 hS, sp_330_48 hS, sp_330_49 hS, sp_330_51 hS, sp_330_52 hS, sp_330_54 hS, sp_330_55 hS, sp_330_56 hS, sp_330_57 hS, sp_330_58 hS, sp_330_61 hS, put_rd sc_330, put_up sc_330, put_rd sc_331, put_up sc_331, put_rd sc_332, put_up sc_332, put_rd sc_333, put_up sc_333, put_rd sc_334, put_up sc_334, put_rd sc_335, put_up sc_335, put_rd sc_336, put_up sc_336, put_rd sc_337, put_up sc_337, put_rd sc_338, put_up sc_338, put_rd sc_339, put_up sc_339, put_rd sc_340, put_up sc_340, put_rd sc_341, put_up sc_341, put_rd sc_342, put_up sc_342, put_rd sc_343, put_up sc_343, put_rd sc_344, put_up sc_344, put_rd sc_345, put_up sc_345, put_rd sc_346, put_up sc_346, put_rd sc_347, put_up sc_347, put_rd sc_348, put_up sc_348, put_rd sc_349, put_up sc_349, put_rd sc_350, put_up sc_350, put_rd sc_351, put_up sc_351, put_rd sc_352, put_up sc_352, put_rd sc_353, put_up sc_353, put_rd sc_354, put_up sc_354, put_rd sc_355, put_up sc_355, put_rd sc_356, put_up sc_356, put_rd sc_357, put_up sc_357, put_rd sc_358, put_up sc_358, put_rd sc_359, put_up sc_359, put_rd sc_360, put_up sc_360, put_rd sc_361, put_up sc_361, put_rd sc_362, put_up sc_362, put_rd sc_363, put_up sc_363, put_rd sc_364, put_up sc_364, put_rd sc_365, put_up sc_365, put_rd sc_366, put_up sc_366, put_rd sc_367, put_up sc_367, put_rd sc_368, put_up sc_368, put_rd sc_369, put_up sc_369, put_rd sc_370, put_up sc_370, put_rd sc_371, put_up sc_371, put_rd sc_372, put_up sc_372, put_rd sc_373, put_up sc_373, put_rd sc_374, put_up sc_374, put_rd sc_375, put_up sc_375, put_rd sc_376, put_up sc_376, put_rd sc_377, put_up sc_377, put_rd sc_378, put_up sc_378]
    refine Eq.trans q3 ?_
    simp (disch := first | omega | assumption) only [sm_bd, Option.bind_some, ck_tt, ck_in, ck_iw, ck_ia, ck_iz, ck_01, ck_in_0, ck_iw_0, cl_0, ck_in_1, ck_iw_1, cl_1, ck_in_2, ck_iw_2, cl_2, ck_in_3, ck_iw_3, cl_3, ck_in_4, ck_iw_4, cl_4, ck_in_5, ck_iw_5, cl_5, ck_in_6, ck_iw_6, cl_6, ck_in_7, ck_iw_7, cl_7, ck_in_8, ck_iw_8, cl_8, ck_in_9, ck_iw_9, cl_9, nI_clamp, lm_2, lm_4, lm_10, lm_14, lm_24, lm_80, lm_100, lm_1500, nI_add, nI_1, pk_m1, nI_pred, sp_330_0 hS, sp_330_1 hS, sp_330_2 hS, sp_330_3 hS, sp_330_4 hS, sp_330_5 hS, sp_330_6 hS, sp_330_7 hS, sp_330_8 hS, sp_330_9 hS, sp_330_10 hS, sp_330_11 hS, sp_330_12 hS, sp_330_13 hS, sp_330_14 hS, sp_330_15 hS, sp_330_16 hS, sp_330_17 hS, sp_330_18 hS, sp_330_19 hS, sp_330_20 hS, sp_330_21 hS, sp_330_22 hS, sp_330_23 hS, sp_330_24 hS, sp_330_25 hS, sp_330_26 hS, sp_330_30 hS, sp_330_31 hS, sp_330_33 hS, sp_330_34 hS, sp_330_35 hS, sp_330_36 hS, sp_330_41 hS, sp_330_42 hS, sp_330_43 hS, sp_330_44 hS, sp_330_47 hS, sp_330_48 hS, sp_330_49 hS, sp_330_51 hS, sp_330_52 hS, sp_330_54 hS, sp_330_55 hS, sp_330_56 hS, sp_330_57 hS, sp_330_58 hS, sp_330_61 hS, put_rd sc_330, put_up sc_330, put_rd sc_331, put_up sc_331, put_rd sc_332, put_up sc_332, put_rd sc_333, put_up sc_333, put_rd sc_334, put_up sc_334, put_rd sc_335, put_up sc_335, put_rd sc_336, put_up sc_336, put_rd sc_337, put_up sc_337, put_rd sc_338, put_up sc_338, put_rd sc_339, put_up sc_339, put_rd sc_340, put_up sc_340, put_rd sc_341, put_up sc_341, put_rd sc_342, put_up sc_342, put_rd sc_343, put_up sc_343, put_rd sc_344, put_up sc_344, put_rd sc_345, put_up sc_345, put_rd sc_346, put_up sc_346, put_rd sc_347, put_up sc_347, put_rd sc_348, put_up sc_348, put_rd sc_349, put_up sc_349, put_rd sc_350, put_up sc_350, put_rd sc_351, put_up sc_351, put_rd sc_352, put_up sc_352, put_rd sc_353, put_up sc_353, put_rd sc_354, put_up sc_354, put_rd sc_355, put_up sc_355, put_rd sc_356, put_up sc_356, put_rd sc_357, put_up sc_357, put_rd sc_358, put_up sc_358, put_rd sc_359, put_up sc_359, put_rd sc_360, put_up sc_360, put_rd sc_361, put_up sc_361, put_rd sc_362, put_up sc_362, put_rd sc_363, put_up sc_363, put_rd sc_364, put_up sc_364, put_rd sc_365, put_up sc_365, put_rd sc_366, put_up sc_366, put_rd sc_367, put_up sc_367, put_rd sc_368, put_up sc_368, put_rd sc_369, put_up sc_369, put_rd sc_370, put_up sc_370, put_rd sc_371, put_up sc_371, put_rd sc_372, put_up sc_372, put_rd sc_373, put_up sc_373, put_rd sc_374, put_up sc_374, put_rd sc_375, put_up sc_375, put_rd sc_376, put_up sc_376, put_rd sc_377, put_up sc_377, put_rd sc_378, put_up sc_378, e1]
  · rw [am_up_ne (by decide)]; exact e3
  · exact f1.tr (f2.tr (frM.tr ⟨fun c a1 _ _ => by funext k; rw [am_up_ne a1], fun k hk => by rw [am_up_nk hk]⟩ (f3.tr (frM.up (by decide)))))
end MH
