/-! ===== the reference's places ===== -/
def cel : List (Nat × Nat) := [(332, 9), (333, 7), (334, 7), (335, 7), (336, 7), (337, 7), (338, 7), (339, 7), (340, 14), (341, 14), (342, 28), (343, 28), (344, 560), (345, 560), (346, 14), (347, 14), (348, 14), (349, 14), (350, 14), (351, 14), (352, 14), (353, 14), (354, 20), (355, 20), (356, 20)]
def tot : List (Nat × Nat) → Nat
  | [] => 0
  | q :: r => q.2 + tot r
/-- length and place of a cell of the reference's world -/
def lnT (c : Nat) : Nat := ((cel[c - 332]?).getD (0, 0)).2
def ofT (c : Nat) : Nat := tot (cel.take (c - 332))
/-- what lies at a place, as cells -/
def PK (R : am_M) (pl : Nat) : am_M := fun c k => R 357 (1500 * pl + ofT c + k)
/-- copied out up to the cell c -/
def cpO (R0 : am_M) (pl c : Nat) (R : am_M) : Prop := (∀ x, x ≠ 357 → x ≠ 330 → R x = R0 x) ∧ (∀ k, k ≠ 27 → R 330 k = R0 330 k) ∧ R 330 27 = nI (1500 * pl + ofT c) ∧ (∀ j, (j < 1500 * pl ∨ 1500 * pl + ofT c ≤ j) → R 357 j = R0 357 j) ∧ ∀ x, 332 ≤ x → x < c → ∀ k, k < lnT x → R 357 (1500 * pl + ofT x + k) = R0 x k
/-- copied in up to the cell c -/
def cpI (R0 : am_M) (pl c : Nat) (R : am_M) : Prop := (∀ x, (x < 332 ∨ c ≤ x) → x ≠ 330 → R x = R0 x) ∧ (∀ k, k ≠ 27 → R 330 k = R0 330 k) ∧ R 330 27 = nI (1500 * pl + ofT c) ∧ ∀ x, 332 ≤ x → x < c → ∀ k, k < lnT x → R x k = R0 357 (1500 * pl + ofT x + k)
theorem ofT_mono : ∀ (l : List (Nat × Nat)) (i j : Nat), i < j → j ≤ l.length → tot (l.take i) + ((l[i]?).getD (0, 0)).2 ≤ tot (l.take j)
  | [], i, j, h1, h2 => by simp at h2; omega
  | q :: r, 0, j + 1, h1, h2 => by simp [tot]
  | q :: r, i + 1, j + 1, h1, h2 => by
    have := ofT_mono r i j (by omega) (by simp at h2; omega)
    simp [tot]
    omega
theorem ofT_lt {x c : Nat} (h0 : 332 ≤ x) (h1 : x < c) (h2 : c ≤ 357) : ofT x + lnT x ≤ ofT c := ofT_mono cel (x - 332) (c - 332) (by omega) (by show _ ≤ 25; omega)
theorem ofT_le {x : Nat} (h0 : 332 ≤ x) (h1 : x < 357) : ofT x + lnT x ≤ 1434 := ofT_lt (c := 357) h0 h1 (Nat.le_refl _)
theorem ofT_le' {c : Nat} (h0 : 332 ≤ c) (h1 : c ≤ 357) : ofT c ≤ 1434 := by
  by_cases h : c = 357
  · subst h; decide
  · have := ofT_le h0 (show c < 357 by omega); omega
section CM
variable {I : am_M} {P : am_Q}
/-- one row, out -/
theorem m_rowO (hS : SP P) {c n a : Nat} (hc : sc c n 20) (h7 : c ≠ 357) (h0 : c ≠ 330) (hn : n ≤ 560) {ex : am_M → Option am_M} : ∀ (d k fu : Nat) (R0 R : am_M), d < fu → k + d = n → a + n ≤ 13500 → (R 330 27 = nI (a + k)) → ∃ R', fM_copies_L3 P ex fu (am_pk 330 0 13) (am_pk c n 20) (nI n) 1 (nI k) (put I R) = ex (put I R') ∧ (∀ x, x ≠ 357 → x ≠ 330 → R' x = R x) ∧ (∀ j, j ≠ 27 → R' 330 j = R 330 j) ∧ R' 330 27 = nI (a + n) ∧ (∀ j, (j < a + k ∨ a + n ≤ j) → R' 357 j = R 357 j) ∧ ∀ j, k ≤ j → j < n → R' 357 (a + j) = R c j
  | 0, k, fu, R0, R, h1, h2, h3, h4 => by
    obtain ⟨fu, rfl⟩ : ∃ n', fu = n' + 1 := ⟨fu - 1, by omega⟩
    have hk : k = n := by omega
    subst hk
    refine ⟨R, ?_, fun _ _ _ => rfl, fun _ _ => rfl, h4, fun _ _ => rfl, fun j h1 h2 => absurd h2 (by omega)⟩
    show fM_copies_B3 P _ _ _ _ _ _ _ _ = _
    unfold fM_copies_B3
    rw [if_pos (by rw [nI_leI (by omega) (by omega)]; omega)]
  | d + 1, k, fu, R0, R, h1, h2, h3, h4 => by
    obtain ⟨fu, rfl⟩ : ∃ n', fu = n' + 1 := ⟨fu - 1, by omega⟩
    have hst := st_lt_lt c
    rw [hc.2.2] at hst
    have hc2 := hc.1
    have e1 : (am_up R 357 (a + k) (R c k)) 330 27 = nI (a + k) := by rw [am_up_ne (by decide)]; exact h4
    obtain ⟨R', q1, q2, q3, q4, q5, q6⟩ := m_rowO hS (a := a) hc h7 h0 hn (ex := ex) d (k + 1) fu R0 (am_up (am_up R 357 (a + k) (R c k)) 330 27 (nI (a + (k + 1)))) (by omega) (by omega) h3 am_up_eq
    refine ⟨R', ?_, fun x x1 x2 => ?_, fun j hj => ?_, q4, fun j hj => ?_, fun j j1 j2 => ?_⟩
    · show fM_copies_B3 P _ _ _ _ _ _ _ _ = _
      unfold fM_copies_B3 fM_copies_J42
      rw [if_neg (by rw [nI_leI (by omega) (by omega)]; omega), if_neg (by decide)]
      simp (disch := first | omega | assumption) only [sm_bd, Option.bind_some, ck_tt, ck_in, ck_iw, ck_ia, ck_iz, ck_01, ck_in_0, ck_iw_0, cl_0, ck_in_1, ck_iw_1, cl_1, ck_in_2, ck_iw_2, cl_2, ck_in_3, ck_iw_3, cl_3, ck_in_4, ck_iw_4, cl_4, ck_in_5, ck_iw_5, cl_5, ck_in_6, ck_iw_6, cl_6, ck_in_7, ck_iw_7, cl_7, ck_in_8, ck_iw_8, cl_8, ck_in_9, ck_iw_9, cl_9, nI_clamp, lm_2, lm_4, lm_10, lm_14, lm_24, lm_80, lm_100, lm_1500, nI_add, nI_1, pk_m1, nI_pred, sp_330_0 hS, sp_330_1 hS, sp_330_2 hS, sp_330_3 hS, sp_330_4 hS, sp_330_5 hS, sp_330_6 hS, sp_330_7 hS, sp_330_8 hS, sp_330_9 hS, sp_330_10 hS, sp_330_11 hS, sp_330_12 hS, sp_330_13 hS, sp_330_14 hS, sp_330_15 hS, sp_330_16 hS, sp_330_17 hS, sp_330_18 hS, sp_330_19 hS, sp_330_20 hS, sp_330_21 hS, sp_330_22 hS, sp_330_23 hS, sp_330_24 hS, sp_330_25 hS, sp_330_26 hS, sp_330_30 hS, sp_330_31 hS, sp_330_33 hS, sp_330_34 hS, sp_330_35 hS, sp_330_36 hS, sp_330_41 hS, sp_330_42 hS, sp_330_43 hS, sp_330_44 hS, sp_330_47 hS, sp_330_48 hS, sp_330_49 hS, sp_330_51 hS, sp_330_52 hS, sp_330_54 hS, sp_330_55 hS, sp_330_56 hS, sp_330_57 hS, sp_330_58 hS, sp_330_61 hS, put_rd sc_330, put_up sc_330, put_rd sc_331, put_up sc_331, put_rd sc_332, put_up sc_332, put_rd sc_333, put_up sc_333, put_rd sc_334, put_up sc_334, put_rd sc_335, put_up sc_335, put_rd sc_336, put_up sc_336, put_rd sc_337, put_up sc_337, put_rd sc_338, put_up sc_338, put_rd sc_339, put_up sc_339, put_rd sc_340, put_up sc_340, put_rd sc_341, put_up sc_341, put_rd sc_342, put_up sc_342, put_rd sc_343, put_up sc_343, put_rd sc_344, put_up sc_344, put_rd sc_345, put_up sc_345, put_rd sc_346, put_up sc_346, put_rd sc_347, put_up sc_347, put_rd sc_348, put_up sc_348, put_rd sc_349, put_up sc_349, put_rd sc_350, put_up sc_350, put_rd sc_351, put_up sc_351, put_rd sc_352, put_up sc_352, put_rd sc_353, put_up sc_353, put_rd sc_354, put_up sc_354, put_rd sc_355, put_up sc_355, put_rd sc_356, put_up sc_356, put_rd sc_357, put_up sc_357, put_rd sc_358, put_up sc_358, put_rd sc_359, put_up sc_359, put_rd sc_360, put_up sc_360, put_rd sc_361, put_up sc_361, put_rd sc_362, put_up sc_362, put_rd sc_363, put_up sc_363, put_rd sc_364, put_up sc_364, put_rd sc_365, put_up sc_365, put_rd sc_366, put_up sc_366, put_rd sc_367, put_up sc_367, put_rd sc_368, put_up sc_368, put_rd sc_369, put_up sc_369, put_rd sc_370, put_up sc_370, put_rd sc_371, put_up sc_371, put_rd sc_372, put_up sc_372, put_rd sc_373, put_up sc_373, put_rd sc_374, put_up sc_374, put_rd sc_375, put_up sc_375, put_rd sc_376, put_up sc_376, put_rd sc_377, put_up sc_377, put_rd sc_378, put_up sc_378, put_rd hc, h4, e1]
      exact q1
    · rw [q2 x x1 x2]
      funext j
      rw [am_up_ne x2, am_up_ne x1]
    · rw [q3 j hj, am_up_nk hj, am_up_ne (by decide)]
    · rw [q5 j (by omega), am_up_ne (by decide), am_up_nk (by omega)]
    · by_cases e : j = k
      · subst e
        rw [q5 _ (by omega), am_up_ne (by decide), am_up_eq]
      · rw [q6 j (by omega) j2, am_up_ne h0, am_up_ne h7]
/-- one row, in -/
theorem m_rowI (hS : SP P) {c n a : Nat} (hc : sc c n 20) (h7 : c ≠ 357) (h0 : c ≠ 330) (hn : n ≤ 560) {ex : am_M → Option am_M} : ∀ (d k fu : Nat) (R : am_M), d < fu → k + d = n → a + n ≤ 13500 → (R 330 27 = nI (a + k)) → ∃ R', fM_copies_L3 P ex fu (am_pk 330 0 13) (am_pk c n 20) (nI n) 0 (nI k) (put I R) = ex (put I R') ∧ (∀ x, x ≠ c → x ≠ 330 → R' x = R x) ∧ (∀ j, j ≠ 27 → R' 330 j = R 330 j) ∧ R' 330 27 = nI (a + n) ∧ (∀ j, j < k → R' c j = R c j) ∧ ∀ j, k ≤ j → j < n → R' c j = R 357 (a + j)
  | 0, k, fu, R, h1, h2, h3, h4 => by
    obtain ⟨fu, rfl⟩ : ∃ n', fu = n' + 1 := ⟨fu - 1, by omega⟩
    have hk : k = n := by omega
    subst hk
    refine ⟨R, ?_, fun _ _ _ => rfl, fun _ _ => rfl, h4, fun _ _ => rfl, fun j h1 h2 => absurd h2 (by omega)⟩
    show fM_copies_B3 P _ _ _ _ _ _ _ _ = _
    unfold fM_copies_B3
    rw [if_pos (by rw [nI_leI (by omega) (by omega)]; omega)]
  | d + 1, k, fu, R, h1, h2, h3, h4 => by
    obtain ⟨fu, rfl⟩ : ∃ n', fu = n' + 1 := ⟨fu - 1, by omega⟩
    have hst := st_lt_lt c
    rw [hc.2.2] at hst
    have hc2 := hc.1
    have e1 : (am_up R c k (R 357 (a + k))) 330 27 = nI (a + k) := by rw [am_up_ne (fun z => h0 z.symm)]; exact h4
    obtain ⟨R', q1, q2, q3, q4, q5, q6⟩ := m_rowI hS (a := a) hc h7 h0 hn (ex := ex) d (k + 1) fu (am_up (am_up R c k (R 357 (a + k))) 330 27 (nI (a + (k + 1)))) (by omega) (by omega) h3 am_up_eq
    refine ⟨R', ?_, fun x x1 x2 => ?_, fun j hj => ?_, q4, fun j hj => ?_, fun j j1 j2 => ?_⟩
    · show fM_copies_B3 P _ _ _ _ _ _ _ _ = _
      unfold fM_copies_B3 fM_copies_J42
      rw [if_neg (by rw [nI_leI (by omega) (by omega)]; omega), if_pos rfl]
      simp (disch := first | omega | assumption) only [sm_bd, Option.bind_some, ck_tt, ck_in, ck_iw, ck_ia, ck_iz, ck_01, ck_in_0, ck_iw_0, cl_0, ck_in_1, ck_iw_1, cl_1, ck_in_2, ck_iw_2, cl_2, ck_in_3, ck_iw_3, cl_3, ck_in_4, ck_iw_4, cl_4, ck_in_5, ck_iw_5, cl_5, ck_in_6, ck_iw_6, cl_6, ck_in_7, ck_iw_7, cl_7, ck_in_8, ck_iw_8, cl_8, ck_in_9, ck_iw_9, cl_9, nI_clamp, lm_2, lm_4, lm_10, lm_14, lm_24, lm_80, lm_100, lm_1500, nI_add, nI_1, pk_m1, nI_pred, sp_330_0 hS, sp_330_1 hS, sp_330_2 hS, sp_330_3 hS, sp_330_4 hS, sp_330_5 hS, sp_330_6 hS, sp_330_7 hS, sp_330_8 hS, sp_330_9 hS, sp_330_10 hS, sp_330_11 hS, sp_330_12 hS, sp_330_13 hS, sp_330_14 hS, sp_330_15 hS, sp_330_16 hS, sp_330_17 hS, sp_330_18 hS, sp_330_19 hS, sp_330_20 hS, sp_330_21 hS, sp_330_22 hS, sp_330_23 hS, sp_330_24 hS, sp_330_25 hS, sp_330_26 hS, sp_330_30 hS, sp_330_31 hS, sp_330_33 hS, sp_330_34 hS, sp_330_35 hS, sp_330_36 hS, sp_330_41 hS, sp_330_42 hS, sp_330_43 hS, sp_330_44 hS, sp_330_47 hS, sp_330_48 hS, sp_330_49 hS, sp_330_51 hS, sp_330_52 hS, sp_330_54 hS, sp_330_55 hS, sp_330_56 hS, sp_330_57 hS, sp_330_58 hS, sp_330_61 hS, put_rd sc_330, put_up sc_330, put_rd sc_331, put_up sc_331, put_rd sc_332, put_up sc_332, put_rd sc_333, put_up sc_333, put_rd sc_334, put_up sc_334, put_rd sc_335, put_up sc_335, put_rd sc_336, put_up sc_336, put_rd sc_337, put_up sc_337, put_rd sc_338, put_up sc_338, put_rd sc_339, put_up sc_339, put_rd sc_340, put_up sc_340, put_rd sc_341, put_up sc_341, put_rd sc_342, put_up sc_342, put_rd sc_343, put_up sc_343, put_rd sc_344, put_up sc_344, put_rd sc_345, put_up sc_345, put_rd sc_346, put_up sc_346, put_rd sc_347, put_up sc_347, put_rd sc_348, put_up sc_348, put_rd sc_349, put_up sc_349, put_rd sc_350, put_up sc_350, put_rd sc_351, put_up sc_351, put_rd sc_352, put_up sc_352, put_rd sc_353, put_up sc_353, put_rd sc_354, put_up sc_354, put_rd sc_355, put_up sc_355, put_rd sc_356, put_up sc_356, put_rd sc_357, put_up sc_357, put_rd sc_358, put_up sc_358, put_rd sc_359, put_up sc_359, put_rd sc_360, put_up sc_360, put_rd sc_361, put_up sc_361, put_rd sc_362, put_up sc_362, put_rd sc_363, put_up sc_363, put_rd sc_364, put_up sc_364, put_rd sc_365, put_up sc_365, put_rd sc_366, put_up sc_366, put_rd sc_367, put_up sc_367, put_rd sc_368, put_up sc_368, put_rd sc_369, put_up sc_369, put_rd sc_370, put_up sc_370, put_rd sc_371, put_up sc_371, put_rd sc_372, put_up sc_372, put_rd sc_373, put_up sc_373, put_rd sc_374, put_up sc_374, put_rd sc_375, put_up sc_375, put_rd sc_376, put_up sc_376, put_rd sc_377, put_up sc_377, put_rd sc_378, put_up sc_378, put_up hc, h4, e1]
      exact q1
    · rw [q2 x x1 x2]
      funext j
      rw [am_up_ne x2, am_up_ne x1]
    · rw [q3 j hj, am_up_nk hj, am_up_ne (fun z => h0 z.symm)]
    · rw [q5 j (by omega), am_up_ne h0, am_up_nk (by omega)]
    · by_cases e : j = k
      · subst e
        rw [q5 _ (by omega), am_up_ne h0, am_up_eq]
      · rw [q6 j (by omega) j2, am_up_ne (by decide), am_up_ne (fun z => h7 z.symm)]
theorem m_cO (hS : SP P) {R0 R : am_M} {pl c n : Nat} {l : Int32} (hpl : pl < 9) (h1 : 332 ≤ c) (h2 : c < 357) (hln : lnT c = n) (hnl : l = nI n) (hc : sc c n 20) (h : cpO R0 pl c R) : ∃ R', fM_copies P (am_pk 330 0 13) (am_pk c n 20) l 1 (put I R) = some (put I R') ∧ cpO R0 pl (c + 1) R' := by
  subst hnl
  subst hln
  have hl := ofT_le h1 h2
  have hs : ofT (c + 1) = ofT c + lnT c := by
    rcases (show c = 332 ∨ c = 333 ∨ c = 334 ∨ c = 335 ∨ c = 336 ∨ c = 337 ∨ c = 338 ∨ c = 339 ∨ c = 340 ∨ c = 341 ∨ c = 342 ∨ c = 343 ∨ c = 344 ∨ c = 345 ∨ c = 346 ∨ c = 347 ∨ c = 348 ∨ c = 349 ∨ c = 350 ∨ c = 351 ∨ c = 352 ∨ c = 353 ∨ c = 354 ∨ c = 355 ∨ c = 356 by omega) with rfl | rfl | rfl | rfl | rfl | rfl | rfl | rfl | rfl | rfl | rfl | rfl | rfl | rfl | rfl | rfl | rfl | rfl | rfl | rfl | rfl | rfl | rfl | rfl | rfl <;> rfl
  have hn : lnT c ≤ 560 := by
    rcases (show c = 332 ∨ c = 333 ∨ c = 334 ∨ c = 335 ∨ c = 336 ∨ c = 337 ∨ c = 338 ∨ c = 339 ∨ c = 340 ∨ c = 341 ∨ c = 342 ∨ c = 343 ∨ c = 344 ∨ c = 345 ∨ c = 346 ∨ c = 347 ∨ c = 348 ∨ c = 349 ∨ c = 350 ∨ c = 351 ∨ c = 352 ∨ c = 353 ∨ c = 354 ∨ c = 355 ∨ c = 356 by omega) with rfl | rfl | rfl | rfl | rfl | rfl | rfl | rfl | rfl | rfl | rfl | rfl | rfl | rfl | rfl | rfl | rfl | rfl | rfl | rfl | rfl | rfl | rfl | rfl | rfl <;> decide
  obtain ⟨c1, c2, c3, c4, c5⟩ := h
  obtain ⟨R', q1, q2, q3, q4, q5, q6⟩ := m_rowO (I := I) hS (a := 1500 * pl + ofT c) hc (by omega) (by omega) hn (ex := fun I => some I) (lnT c) 0 sm_fu R0 R (sm_fu_lt (by omega)) (by omega) (by omega) (by rw [Nat.add_zero]; exact c3)
  refine ⟨R', q1, fun x x1 x2 => by rw [q2 x x1 x2, c1 x x1 x2], fun k hk => by rw [q3 k hk, c2 k hk], ?_, fun j hj => ?_, fun x x1 x2 k hk => ?_⟩
  · rw [q4, hs, Nat.add_assoc]
  · rw [q5 j (by omega), c4 j (by omega)]
  · by_cases e : x = c
    · subst e
      rw [q6 k (by omega) hk, c1 x (by omega) (by omega)]
    · have := ofT_lt x1 (show x < c by omega) (by omega)
      rw [q5 _ (by omega), c5 x x1 (by omega) k hk]
theorem m_cI (hS : SP P) {R0 R : am_M} {pl c n : Nat} {l : Int32} (hpl : pl < 9) (h1 : 332 ≤ c) (h2 : c < 357) (hln : lnT c = n) (hnl : l = nI n) (hc : sc c n 20) (h : cpI R0 pl c R) : ∃ R', fM_copies P (am_pk 330 0 13) (am_pk c n 20) l 0 (put I R) = some (put I R') ∧ cpI R0 pl (c + 1) R' := by
  subst hnl
  subst hln
  have hl := ofT_le h1 h2
  have hs : ofT (c + 1) = ofT c + lnT c := by
    rcases (show c = 332 ∨ c = 333 ∨ c = 334 ∨ c = 335 ∨ c = 336 ∨ c = 337 ∨ c = 338 ∨ c = 339 ∨ c = 340 ∨ c = 341 ∨ c = 342 ∨ c = 343 ∨ c = 344 ∨ c = 345 ∨ c = 346 ∨ c = 347 ∨ c = 348 ∨ c = 349 ∨ c = 350 ∨ c = 351 ∨ c = 352 ∨ c = 353 ∨ c = 354 ∨ c = 355 ∨ c = 356 by omega) with rfl | rfl | rfl | rfl | rfl | rfl | rfl | rfl | rfl | rfl | rfl | rfl | rfl | rfl | rfl | rfl | rfl | rfl | rfl | rfl | rfl | rfl | rfl | rfl | rfl <;> rfl
  have hn : lnT c ≤ 560 := by
    rcases (show c = 332 ∨ c = 333 ∨ c = 334 ∨ c = 335 ∨ c = 336 ∨ c = 337 ∨ c = 338 ∨ c = 339 ∨ c = 340 ∨ c = 341 ∨ c = 342 ∨ c = 343 ∨ c = 344 ∨ c = 345 ∨ c = 346 ∨ c = 347 ∨ c = 348 ∨ c = 349 ∨ c = 350 ∨ c = 351 ∨ c = 352 ∨ c = 353 ∨ c = 354 ∨ c = 355 ∨ c = 356 by omega) with rfl | rfl | rfl | rfl | rfl | rfl | rfl | rfl | rfl | rfl | rfl | rfl | rfl | rfl | rfl | rfl | rfl | rfl | rfl | rfl | rfl | rfl | rfl | rfl | rfl <;> decide
  obtain ⟨c1, c2, c3, c5⟩ := h
  obtain ⟨R', q1, q2, q3, q4, q5, q6⟩ := m_rowI (I := I) hS (a := 1500 * pl + ofT c) hc (by omega) (by omega) hn (ex := fun I => some I) (lnT c) 0 sm_fu R (sm_fu_lt (by omega)) (by omega) (by omega) (by rw [Nat.add_zero]; exact c3)
  refine ⟨R', q1, fun x x1 x2 => by rw [q2 x (by omega) x2, c1 x (by omega) x2], fun k hk => by rw [q3 k hk, c2 k hk], ?_, fun x x1 x2 k hk => ?_⟩
  · rw [q4, hs, Nat.add_assoc]
  · by_cases e : x = c
    · subst e
      rw [q6 k (by omega) hk, c1 357 (by omega) (by omega)]
    · rw [q2 x (by omega) (by omega), c5 x x1 (by omega) k hk]
end CM
