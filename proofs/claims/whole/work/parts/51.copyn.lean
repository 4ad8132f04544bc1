theorem bd_eq {α ρ : Type} {e : α} {f : α → Option ρ} : sm_bd e f = f e := rfl
section CM2
variable {I : am_M} {P : am_Q}
theorem m_copyO (hS : SP P) {R : am_M} {pl : Nat} (hpl : pl < 9) : ∃ R', fM_copiesAll P (am_pk 330 0 13) (nI pl) 1 (put I R) = some (put I R') ∧ cpO R pl 357 R' := by
  have h332 : cpO R pl 332 (am_up R 330 27 (nI (1500 * pl))) := ⟨fun x _ x2 => by funext k; rw [am_up_ne x2], fun k hk => by rw [am_up_nk hk], by rw [am_up_eq, show ofT 332 = 0 by decide, Nat.add_zero], fun j _ => by rw [am_up_ne (by decide)], fun x x1 x2 => absurd x2 (by omega)⟩
  have e332 : am_up (put I R) (am_pk 330 0 13) 27 (1500 * nI pl) = put I (am_up R 330 27 (nI (1500 * pl))) := by rw [put_up sc_330, lm_1500]
  unfold fM_copiesAll
  rw [sm_ck_pos (am_t_pk (by decide)), e332]
  rw [bd_eq]
  obtain ⟨R333, q332, h333⟩ := m_cO (I := I) hS hpl (c := 332) (n := 9) (l := 9) (by decide) (by decide) (by decide) rfl sc_332 h332
  rw [sp_330_1 hS, q332, Option.bind_some]
  obtain ⟨R334, q333, h334⟩ := m_cO (I := I) hS hpl (c := 333) (n := 7) (l := 7) (by decide) (by decide) (by decide) rfl sc_333 h333
  rw [sp_330_2 hS, q333, Option.bind_some]
  obtain ⟨R335, q334, h335⟩ := m_cO (I := I) hS hpl (c := 334) (n := 7) (l := 7) (by decide) (by decide) (by decide) rfl sc_334 h334
  rw [sp_330_3 hS, q334, Option.bind_some]
  obtain ⟨R336, q335, h336⟩ := m_cO (I := I) hS hpl (c := 335) (n := 7) (l := 7) (by decide) (by decide) (by decide) rfl sc_335 h335
  rw [sp_330_4 hS, q335, Option.bind_some]
  obtain ⟨R337, q336, h337⟩ := m_cO (I := I) hS hpl (c := 336) (n := 7) (l := 7) (by decide) (by decide) (by decide) rfl sc_336 h336
  rw [sp_330_5 hS, q336, Option.bind_some]
  obtain ⟨R338, q337, h338⟩ := m_cO (I := I) hS hpl (c := 337) (n := 7) (l := 7) (by decide) (by decide) (by decide) rfl sc_337 h337
  rw [sp_330_6 hS, q337, Option.bind_some]
  obtain ⟨R339, q338, h339⟩ := m_cO (I := I) hS hpl (c := 338) (n := 7) (l := 7) (by decide) (by decide) (by decide) rfl sc_338 h338
  rw [sp_330_7 hS, q338, Option.bind_some]
  obtain ⟨R340, q339, h340⟩ := m_cO (I := I) hS hpl (c := 339) (n := 7) (l := 7) (by decide) (by decide) (by decide) rfl sc_339 h339
  rw [sp_330_8 hS, q339, Option.bind_some]
  obtain ⟨R341, q340, h341⟩ := m_cO (I := I) hS hpl (c := 340) (n := 14) (l := 14) (by decide) (by decide) (by decide) rfl sc_340 h340
  rw [sp_330_9 hS, q340, Option.bind_some]
  obtain ⟨R342, q341, h342⟩ := m_cO (I := I) hS hpl (c := 341) (n := 14) (l := 14) (by decide) (by decide) (by decide) rfl sc_341 h341
  rw [sp_330_10 hS, q341, Option.bind_some]
  obtain ⟨R343, q342, h343⟩ := m_cO (I := I) hS hpl (c := 342) (n := 28) (l := 28) (by decide) (by decide) (by decide) rfl sc_342 h342
  rw [sp_330_11 hS, q342, Option.bind_some]
  obtain ⟨R344, q343, h344⟩ := m_cO (I := I) hS hpl (c := 343) (n := 28) (l := 28) (by decide) (by decide) (by decide) rfl sc_343 h343
  rw [sp_330_12 hS, q343, Option.bind_some]
  obtain ⟨R345, q344, h345⟩ := m_cO (I := I) hS hpl (c := 344) (n := 560) (l := 560) (by decide) (by decide) (by decide) rfl sc_344 h344
  rw [sp_330_13 hS, q344, Option.bind_some]
  obtain ⟨R346, q345, h346⟩ := m_cO (I := I) hS hpl (c := 345) (n := 560) (l := 560) (by decide) (by decide) (by decide) rfl sc_345 h345
  rw [sp_330_14 hS, q345, Option.bind_some]
  obtain ⟨R347, q346, h347⟩ := m_cO (I := I) hS hpl (c := 346) (n := 14) (l := 14) (by decide) (by decide) (by decide) rfl sc_346 h346
  rw [sp_330_15 hS, q346, Option.bind_some]
  obtain ⟨R348, q347, h348⟩ := m_cO (I := I) hS hpl (c := 347) (n := 14) (l := 14) (by decide) (by decide) (by decide) rfl sc_347 h347
  rw [sp_330_16 hS, q347, Option.bind_some]
  obtain ⟨R349, q348, h349⟩ := m_cO (I := I) hS hpl (c := 348) (n := 14) (l := 14) (by decide) (by decide) (by decide) rfl sc_348 h348
  rw [sp_330_17 hS, q348, Option.bind_some]
  obtain ⟨R350, q349, h350⟩ := m_cO (I := I) hS hpl (c := 349) (n := 14) (l := 14) (by decide) (by decide) (by decide) rfl sc_349 h349
  rw [sp_330_18 hS, q349, Option.bind_some]
  obtain ⟨R351, q350, h351⟩ := m_cO (I := I) hS hpl (c := 350) (n := 14) (l := 14) (by decide) (by decide) (by decide) rfl sc_350 h350
  rw [sp_330_19 hS, q350, Option.bind_some]
  obtain ⟨R352, q351, h352⟩ := m_cO (I := I) hS hpl (c := 351) (n := 14) (l := 14) (by decide) (by decide) (by decide) rfl sc_351 h351
  rw [sp_330_20 hS, q351, Option.bind_some]
  obtain ⟨R353, q352, h353⟩ := m_cO (I := I) hS hpl (c := 352) (n := 14) (l := 14) (by decide) (by decide) (by decide) rfl sc_352 h352
  rw [sp_330_21 hS, q352, Option.bind_some]
  obtain ⟨R354, q353, h354⟩ := m_cO (I := I) hS hpl (c := 353) (n := 14) (l := 14) (by decide) (by decide) (by decide) rfl sc_353 h353
  rw [sp_330_22 hS, q353, Option.bind_some]
  obtain ⟨R355, q354, h355⟩ := m_cO (I := I) hS hpl (c := 354) (n := 20) (l := 20) (by decide) (by decide) (by decide) rfl sc_354 h354
  rw [sp_330_23 hS, q354, Option.bind_some]
  obtain ⟨R356, q355, h356⟩ := m_cO (I := I) hS hpl (c := 355) (n := 20) (l := 20) (by decide) (by decide) (by decide) rfl sc_355 h355
  rw [sp_330_24 hS, q355, Option.bind_some]
  obtain ⟨R357, q356, h357⟩ := m_cO (I := I) hS hpl (c := 356) (n := 20) (l := 20) (by decide) (by decide) (by decide) rfl sc_356 h356
  rw [sp_330_25 hS, q356, Option.bind_some]
  exact ⟨_, rfl, h357⟩
theorem m_copyI (hS : SP P) {R : am_M} {pl : Nat} (hpl : pl < 9) : ∃ R', fM_copiesAll P (am_pk 330 0 13) (nI pl) 0 (put I R) = some (put I R') ∧ cpI R pl 357 R' := by
  have h332 : cpI R pl 332 (am_up R 330 27 (nI (1500 * pl))) := ⟨fun x _ x2 => by funext k; rw [am_up_ne x2], fun k hk => by rw [am_up_nk hk], by rw [am_up_eq, show ofT 332 = 0 by decide, Nat.add_zero], fun x x1 x2 => absurd x2 (by omega)⟩
  have e332 : am_up (put I R) (am_pk 330 0 13) 27 (1500 * nI pl) = put I (am_up R 330 27 (nI (1500 * pl))) := by rw [put_up sc_330, lm_1500]
  unfold fM_copiesAll
  rw [sm_ck_pos (am_t_pk (by decide)), e332]
  rw [bd_eq]
  obtain ⟨R333, q332, h333⟩ := m_cI (I := I) hS hpl (c := 332) (n := 9) (l := 9) (by decide) (by decide) (by decide) rfl sc_332 h332
  rw [sp_330_1 hS, q332, Option.bind_some]
  obtain ⟨R334, q333, h334⟩ := m_cI (I := I) hS hpl (c := 333) (n := 7) (l := 7) (by decide) (by decide) (by decide) rfl sc_333 h333
  rw [sp_330_2 hS, q333, Option.bind_some]
  obtain ⟨R335, q334, h335⟩ := m_cI (I := I) hS hpl (c := 334) (n := 7) (l := 7) (by decide) (by decide) (by decide) rfl sc_334 h334
  rw [sp_330_3 hS, q334, Option.bind_some]
  obtain ⟨R336, q335, h336⟩ := m_cI (I := I) hS hpl (c := 335) (n := 7) (l := 7) (by decide) (by decide) (by decide) rfl sc_335 h335
  rw [sp_330_4 hS, q335, Option.bind_some]
  obtain ⟨R337, q336, h337⟩ := m_cI (I := I) hS hpl (c := 336) (n := 7) (l := 7) (by decide) (by decide) (by decide) rfl sc_336 h336
  rw [sp_330_5 hS, q336, Option.bind_some]
  obtain ⟨R338, q337, h338⟩ := m_cI (I := I) hS hpl (c := 337) (n := 7) (l := 7) (by decide) (by decide) (by decide) rfl sc_337 h337
  rw [sp_330_6 hS, q337, Option.bind_some]
  obtain ⟨R339, q338, h339⟩ := m_cI (I := I) hS hpl (c := 338) (n := 7) (l := 7) (by decide) (by decide) (by decide) rfl sc_338 h338
  rw [sp_330_7 hS, q338, Option.bind_some]
  obtain ⟨R340, q339, h340⟩ := m_cI (I := I) hS hpl (c := 339) (n := 7) (l := 7) (by decide) (by decide) (by decide) rfl sc_339 h339
  rw [sp_330_8 hS, q339, Option.bind_some]
  obtain ⟨R341, q340, h341⟩ := m_cI (I := I) hS hpl (c := 340) (n := 14) (l := 14) (by decide) (by decide) (by decide) rfl sc_340 h340
  rw [sp_330_9 hS, q340, Option.bind_some]
  obtain ⟨R342, q341, h342⟩ := m_cI (I := I) hS hpl (c := 341) (n := 14) (l := 14) (by decide) (by decide) (by decide) rfl sc_341 h341
  rw [sp_330_10 hS, q341, Option.bind_some]
  obtain ⟨R343, q342, h343⟩ := m_cI (I := I) hS hpl (c := 342) (n := 28) (l := 28) (by decide) (by decide) (by decide) rfl sc_342 h342
  rw [sp_330_11 hS, q342, Option.bind_some]
  obtain ⟨R344, q343, h344⟩ := m_cI (I := I) hS hpl (c := 343) (n := 28) (l := 28) (by decide) (by decide) (by decide) rfl sc_343 h343
  rw [sp_330_12 hS, q343, Option.bind_some]
  obtain ⟨R345, q344, h345⟩ := m_cI (I := I) hS hpl (c := 344) (n := 560) (l := 560) (by decide) (by decide) (by decide) rfl sc_344 h344
  rw [sp_330_13 hS, q344, Option.bind_some]
  obtain ⟨R346, q345, h346⟩ := m_cI (I := I) hS hpl (c := 345) (n := 560) (l := 560) (by decide) (by decide) (by decide) rfl sc_345 h345
  rw [sp_330_14 hS, q345, Option.bind_some]
  obtain ⟨R347, q346, h347⟩ := m_cI (I := I) hS hpl (c := 346) (n := 14) (l := 14) (by decide) (by decide) (by decide) rfl sc_346 h346
  rw [sp_330_15 hS, q346, Option.bind_some]
  obtain ⟨R348, q347, h348⟩ := m_cI (I := I) hS hpl (c := 347) (n := 14) (l := 14) (by decide) (by decide) (by decide) rfl sc_347 h347
  rw [sp_330_16 hS, q347, Option.bind_some]
  obtain ⟨R349, q348, h349⟩ := m_cI (I := I) hS hpl (c := 348) (n := 14) (l := 14) (by decide) (by decide) (by decide) rfl sc_348 h348
  rw [sp_330_17 hS, q348, Option.bind_some]
  obtain ⟨R350, q349, h350⟩ := m_cI (I := I) hS hpl (c := 349) (n := 14) (l := 14) (by decide) (by decide) (by decide) rfl sc_349 h349
  rw [sp_330_18 hS, q349, Option.bind_some]
  obtain ⟨R351, q350, h351⟩ := m_cI (I := I) hS hpl (c := 350) (n := 14) (l := 14) (by decide) (by decide) (by decide) rfl sc_350 h350
  rw [sp_330_19 hS, q350, Option.bind_some]
  obtain ⟨R352, q351, h352⟩ := m_cI (I := I) hS hpl (c := 351) (n := 14) (l := 14) (by decide) (by decide) (by decide) rfl sc_351 h351
  rw [sp_330_20 hS, q351, Option.bind_some]
  obtain ⟨R353, q352, h353⟩ := m_cI (I := I) hS hpl (c := 352) (n := 14) (l := 14) (by decide) (by decide) (by decide) rfl sc_352 h352
  rw [sp_330_21 hS, q352, Option.bind_some]
  obtain ⟨R354, q353, h354⟩ := m_cI (I := I) hS hpl (c := 353) (n := 14) (l := 14) (by decide) (by decide) (by decide) rfl sc_353 h353
  rw [sp_330_22 hS, q353, Option.bind_some]
  obtain ⟨R355, q354, h355⟩ := m_cI (I := I) hS hpl (c := 354) (n := 20) (l := 20) (by decide) (by decide) (by decide) rfl sc_354 h354
  rw [sp_330_23 hS, q354, Option.bind_some]
  obtain ⟨R356, q355, h356⟩ := m_cI (I := I) hS hpl (c := 355) (n := 20) (l := 20) (by decide) (by decide) (by decide) rfl sc_355 h355
  rw [sp_330_24 hS, q355, Option.bind_some]
  obtain ⟨R357, q356, h357⟩ := m_cI (I := I) hS hpl (c := 356) (n := 20) (l := 20) (by decide) (by decide) (by decide) rfl sc_356 h356
  rw [sp_330_25 hS, q356, Option.bind_some]
  exact ⟨_, rfl, h357⟩
end CM2
