/-! ===== the start: the class and the reference ===== -/
theorem nf_le : ∀ t, t < 14 → am_nf t ≤ 70 := by decide
theorem na_l {ρ : Type} {I : am_M} {lI : List (Nat × Nat × Nat × Int32)} {nx sl t n : Nat} {v : Int32} {K : Nat → am_M → Nat → Nat → Option ρ} (hv : v = nI n) (hn : n < 2 ^ 31) : sm_na t v (wrI I lI) nx sl K = K (am_pk nx n t) (wrI I ((0, am_pk nx n t, 0, 0) :: lI)) (nx + 1) (sl + n) := by
  subst hv
  exact na_eq hn
theorem nq_l {ρ : Type} {P : am_Q} {lP : List (Nat × Nat × Nat × Nat)} {nx sl t n : Nat} {v : Int32} {K : Nat → am_Q → Nat → Nat → Option ρ} (hv : v = nI n) (hn : n < 2 ^ 31) : sm_nq t v (wrP P lP) nx sl K = K (am_pk nx n t) (wrP P ((0, am_pk nx n t, 0, 0) :: lP)) (nx + 1) (sl + n) := by
  subst hv
  exact nq_eq hn
def xI1 : List (Nat × Nat × Nat × Int32) := [(2, am_pk 5 4 20, 4, -1), (0, am_pk 6 4 20, 0, 0), (0, am_pk 5 4 20, 0, 0), (0, am_pk 4 0 20, 0, 0), (0, am_pk 3 0 4, 0, 0), (0, am_pk 2 0 12, 0, 0)]
def xP1 : List (Nat × Nat × Nat × Nat) := [(1, am_pk 2 0 12, 6, am_pk 3 0 4), (1, am_pk 3 0 4, 2, am_pk 6 4 20), (1, am_pk 3 0 4, 1, am_pk 5 4 20), (1, am_pk 3 0 4, 0, am_pk 4 0 20), (0, am_pk 3 0 4, 0, 0), (0, am_pk 2 0 12, 0, 0)]
/-- one world more -/
def wdI (b : Nat) (l : List (Nat × Nat × Nat × Int32)) : List (Nat × Nat × Nat × Int32) := wldI (am_pk b 0 11) (b + 1) ((0, am_pk b 0 11, 0, 0) :: l)
def wdP (b : Nat) (l : List (Nat × Nat × Nat × Nat)) : List (Nat × Nat × Nat × Nat) := wldP (am_pk b 0 11) (am_pk 3 0 4) (b + 1) ((0, am_pk b 0 11, 0, 0) :: l)
def xI2 := wdI 7 xI1
def xP2 := (1, am_pk 2 0 12, 0, am_pk 7 0 11) :: wdP 7 xP1
def xI3 := wdI 36 xI2
def xP3 := (1, am_pk 2 0 12, 1, am_pk 36 0 11) :: wdP 36 xP2
def xI4 := wdI 65 xI3
def xP4 := (1, am_pk 2 0 12, 2, am_pk 65 0 11) :: wdP 65 xP3
def xI5 := wdI 94 xI4
def xP5 := (1, am_pk 2 0 12, 3, am_pk 94 0 11) :: wdP 94 xP4
def hisI : Nat → Nat → List (Nat × Nat × Nat × Int32) → List (Nat × Nat × Nat × Int32)
  | 0, _, l => l
  | d + 1, i, l => hisI d (i + 1) (wdI (125 + 29 * i) l)
def hisP : Nat → Nat → List (Nat × Nat × Nat × Nat) → List (Nat × Nat × Nat × Nat)
  | 0, _, l => l
  | d + 1, i, l => hisP d (i + 1) ((1, am_pk 124 6 24, i, am_pk (125 + 29 * i) 0 11) :: wdP (125 + 29 * i) l)
def xI6 := hisI 6 0 ((0, am_pk 123 0 2, 0, 0) :: xI5)
def xP6 := (1, am_pk 2 0 12, 5, am_pk 123 0 2) :: hisP 6 0 ((1, am_pk 123 0 2, 0, am_pk 124 6 24) :: (0, am_pk 124 6 24, 0, 0) :: (0, am_pk 123 0 2, 0, 0) :: xP5)
def xI7 : List (Nat × Nat × Nat × Int32) := (0, am_pk 304 4 20, 0, 0) :: (0, am_pk 303 4 20, 0, 0) :: (0, am_pk 302 80 20, 0, 0) :: (0, am_pk 301 80 20, 0, 0) :: (0, am_pk 300 80 20, 0, 0) :: (0, am_pk 299 0 10, 0, 0) :: xI6
def xP7 : List (Nat × Nat × Nat × Nat) := (1, am_pk 2 0 12, 7, am_pk 299 0 10) :: (1, am_pk 299 0 10, 7, am_pk 304 4 20) :: (1, am_pk 299 0 10, 6, am_pk 303 4 20) :: (1, am_pk 299 0 10, 4, am_pk 302 80 20) :: (1, am_pk 299 0 10, 2, am_pk 301 80 20) :: (1, am_pk 299 0 10, 0, am_pk 300 80 20) :: (0, am_pk 299 0 10, 0, 0) :: xP6
def xI8 : List (Nat × Nat × Nat × Int32) := (0, am_pk 319 7 20, 0, 0) :: (0, am_pk 318 7 20, 0, 0) :: (0, am_pk 317 3 20, 0, 0) :: (0, am_pk 316 7 20, 0, 0) :: (0, am_pk 315 7 20, 0, 0) :: (0, am_pk 314 0 5, 0, 0) :: (0, am_pk 313 3 20, 0, 0) :: (0, am_pk 312 14 20, 0, 0) :: (0, am_pk 311 0 7, 0, 0) :: (0, am_pk 310 5 20, 0, 0) :: (0, am_pk 309 5 20, 0, 0) :: (0, am_pk 308 0 3, 0, 0) :: (0, am_pk 307 16 20, 0, 0) :: (0, am_pk 306 0 6, 0, 0) :: (0, am_pk 305 0 1, 0, 0) :: xI7
def xP8a : List (Nat × Nat × Nat × Nat) := (1, am_pk 2 0 12, 9, am_pk 306 0 6) :: (1, am_pk 306 0 6, 0, am_pk 307 16 20) :: (0, am_pk 306 0 6, 0, 0) :: (1, am_pk 2 0 12, 8, am_pk 305 0 1) :: (1, am_pk 305 0 1, 10, am_pk 3 0 4) :: (0, am_pk 305 0 1, 0, 0) :: xP7
def xP8b : List (Nat × Nat × Nat × Nat) := (1, am_pk 2 0 12, 10, am_pk 308 0 3) :: (1, am_pk 308 0 3, 0, am_pk 306 0 6) :: (1, am_pk 308 0 3, 2, am_pk 310 5 20) :: (1, am_pk 308 0 3, 1, am_pk 309 5 20) :: (0, am_pk 308 0 3, 0, 0) :: xP8a
def xP8 : List (Nat × Nat × Nat × Nat) := (1, am_pk 2 0 12, 13, am_pk 320 4 25) :: (0, am_pk 320 4 25, 0, 0) :: (1, am_pk 2 0 12, 12, am_pk 314 0 5) :: (1, am_pk 314 0 5, 4, am_pk 319 7 20) :: (1, am_pk 314 0 5, 3, am_pk 318 7 20) :: (1, am_pk 314 0 5, 2, am_pk 317 3 20) :: (1, am_pk 314 0 5, 1, am_pk 316 7 20) :: (1, am_pk 314 0 5, 0, am_pk 315 7 20) :: (0, am_pk 314 0 5, 0, 0) :: (1, am_pk 2 0 12, 11, am_pk 311 0 7) :: (1, am_pk 311 0 7, 0, am_pk 306 0 6) :: (1, am_pk 311 0 7, 3, am_pk 313 3 20) :: (1, am_pk 311 0 7, 1, am_pk 312 14 20) :: (0, am_pk 311 0 7, 0, 0) :: xP8b
def shI : Nat → Nat → List (Nat × Nat × Nat × Int32) → List (Nat × Nat × Nat × Int32)
  | 0, _, l => l
  | d + 1, i, l => shI d (i + 1) ((0, am_pk (322 + 2 * i) 24 20, 0, 0) :: (0, am_pk (321 + 2 * i) 0 9, 0, 0) :: l)
def shP : Nat → Nat → List (Nat × Nat × Nat × Nat) → List (Nat × Nat × Nat × Nat)
  | 0, _, l => l
  | d + 1, i, l => shP d (i + 1) ((1, am_pk 320 4 25, i, am_pk (321 + 2 * i) 0 9) :: (1, am_pk (321 + 2 * i) 0 9, 0, am_pk (322 + 2 * i) 24 20) :: (0, am_pk (321 + 2 * i) 0 9, 0, 0) :: l)
def xI9 : List (Nat × Nat × Nat × Int32) := (0, am_pk 329 7 20, 0, 0) :: shI 4 0 xI8
def xP9 : List (Nat × Nat × Nat × Nat) := (1, am_pk 2 0 12, 14, am_pk 329 7 20) :: shP 4 0 xP8
def mI1 : List (Nat × Nat × Nat × Int32) := (0, am_pk 378 24 20, 0, 0) :: (0, am_pk 377 420 20, 0, 0) :: (0, am_pk 376 7 20, 0, 0) :: (0, am_pk 375 3 20, 0, 0) :: (0, am_pk 374 7 20, 0, 0) :: (0, am_pk 373 7 20, 0, 0) :: (0, am_pk 372 5 20, 0, 0) :: (0, am_pk 371 5 20, 0, 0) :: (0, am_pk 370 96 20, 0, 0) :: (0, am_pk 369 4 20, 0, 0) :: (0, am_pk 368 4 20, 0, 0) :: (0, am_pk 367 14 20, 0, 0) :: (0, am_pk 366 14 20, 0, 0) :: (0, am_pk 365 14 20, 0, 0) :: (0, am_pk 364 14 20, 0, 0) :: (0, am_pk 363 4 20, 0, 0) :: (0, am_pk 362 4 20, 0, 0) :: (0, am_pk 361 80 20, 0, 0) :: (0, am_pk 360 80 20, 0, 0) :: (0, am_pk 359 80 20, 0, 0) :: (0, am_pk 358 80 20, 0, 0) :: (0, am_pk 357 13500 20, 0, 0) :: (0, am_pk 356 20 20, 0, 0) :: (0, am_pk 355 20 20, 0, 0) :: (0, am_pk 354 20 20, 0, 0) :: (0, am_pk 353 14 20, 0, 0) :: (0, am_pk 352 14 20, 0, 0) :: (0, am_pk 351 14 20, 0, 0) :: (0, am_pk 350 14 20, 0, 0) :: (0, am_pk 349 14 20, 0, 0) :: (0, am_pk 348 14 20, 0, 0) :: (0, am_pk 347 14 20, 0, 0) :: (0, am_pk 346 14 20, 0, 0) :: (0, am_pk 345 560 20, 0, 0) :: (0, am_pk 344 560 20, 0, 0) :: (0, am_pk 343 28 20, 0, 0) :: (0, am_pk 342 28 20, 0, 0) :: (0, am_pk 341 14 20, 0, 0) :: (0, am_pk 340 14 20, 0, 0) :: (0, am_pk 339 7 20, 0, 0) :: (0, am_pk 338 7 20, 0, 0) :: (0, am_pk 337 7 20, 0, 0) :: (0, am_pk 336 7 20, 0, 0) :: (0, am_pk 335 7 20, 0, 0) :: (0, am_pk 334 7 20, 0, 0) :: (0, am_pk 333 7 20, 0, 0) :: (1, am_pk 332 9 20, 8, -1) :: (1, am_pk 332 9 20, 7, -1) :: (1, am_pk 332 9 20, 6, 0) :: (1, am_pk 332 9 20, 5, 10) :: (1, am_pk 332 9 20, 4, 0) :: (1, am_pk 332 9 20, 3, 0) :: (1, am_pk 332 9 20, 2, 0) :: (1, am_pk 332 9 20, 1, 0) :: (1, am_pk 332 9 20, 0, 0) :: (0, am_pk 332 9 20, 0, 0) :: (0, am_pk 331 7 20, 0, 0) :: (0, am_pk 330 0 13, 0, 0) :: xI9
def mP1 : List (Nat × Nat × Nat × Nat) := (1, am_pk 330 0 13, 61, am_pk 378 24 20) :: (1, am_pk 330 0 13, 58, am_pk 377 420 20) :: (1, am_pk 330 0 13, 57, am_pk 376 7 20) :: (1, am_pk 330 0 13, 56, am_pk 375 3 20) :: (1, am_pk 330 0 13, 55, am_pk 374 7 20) :: (1, am_pk 330 0 13, 54, am_pk 373 7 20) :: (1, am_pk 330 0 13, 52, am_pk 372 5 20) :: (1, am_pk 330 0 13, 51, am_pk 371 5 20) :: (1, am_pk 330 0 13, 49, am_pk 370 96 20) :: (1, am_pk 330 0 13, 48, am_pk 369 4 20) :: (1, am_pk 330 0 13, 47, am_pk 368 4 20) :: (1, am_pk 330 0 13, 44, am_pk 367 14 20) :: (1, am_pk 330 0 13, 43, am_pk 366 14 20) :: (1, am_pk 330 0 13, 42, am_pk 365 14 20) :: (1, am_pk 330 0 13, 41, am_pk 364 14 20) :: (1, am_pk 330 0 13, 36, am_pk 363 4 20) :: (1, am_pk 330 0 13, 35, am_pk 362 4 20) :: (1, am_pk 330 0 13, 34, am_pk 361 80 20) :: (1, am_pk 330 0 13, 33, am_pk 360 80 20) :: (1, am_pk 330 0 13, 31, am_pk 359 80 20) :: (1, am_pk 330 0 13, 30, am_pk 358 80 20) :: (1, am_pk 330 0 13, 26, am_pk 357 13500 20) :: (1, am_pk 330 0 13, 25, am_pk 356 20 20) :: (1, am_pk 330 0 13, 24, am_pk 355 20 20) :: (1, am_pk 330 0 13, 23, am_pk 354 20 20) :: (1, am_pk 330 0 13, 22, am_pk 353 14 20) :: (1, am_pk 330 0 13, 21, am_pk 352 14 20) :: (1, am_pk 330 0 13, 20, am_pk 351 14 20) :: (1, am_pk 330 0 13, 19, am_pk 350 14 20) :: (1, am_pk 330 0 13, 18, am_pk 349 14 20) :: (1, am_pk 330 0 13, 17, am_pk 348 14 20) :: (1, am_pk 330 0 13, 16, am_pk 347 14 20) :: (1, am_pk 330 0 13, 15, am_pk 346 14 20) :: (1, am_pk 330 0 13, 14, am_pk 345 560 20) :: (1, am_pk 330 0 13, 13, am_pk 344 560 20) :: (1, am_pk 330 0 13, 12, am_pk 343 28 20) :: (1, am_pk 330 0 13, 11, am_pk 342 28 20) :: (1, am_pk 330 0 13, 10, am_pk 341 14 20) :: (1, am_pk 330 0 13, 9, am_pk 340 14 20) :: (1, am_pk 330 0 13, 8, am_pk 339 7 20) :: (1, am_pk 330 0 13, 7, am_pk 338 7 20) :: (1, am_pk 330 0 13, 6, am_pk 337 7 20) :: (1, am_pk 330 0 13, 5, am_pk 336 7 20) :: (1, am_pk 330 0 13, 4, am_pk 335 7 20) :: (1, am_pk 330 0 13, 3, am_pk 334 7 20) :: (1, am_pk 330 0 13, 2, am_pk 333 7 20) :: (1, am_pk 330 0 13, 1, am_pk 332 9 20) :: (1, am_pk 330 0 13, 0, am_pk 331 7 20) :: (0, am_pk 330 0 13, 0, 0) :: xP9
section Ini2
variable {I : am_M} {P : am_Q} {lI : List (Nat × Nat × Nat × Int32)} {lP : List (Nat × Nat × Nat × Nat)} {nx sl : Nat}
set_option maxRecDepth 100000 in
theorem x_m1 : ∃ sl', fM_init (am_pk 330 0 13) (wrI I ((0, am_pk 330 0 13, 0, 0) :: xI9)) (wrP P ((0, am_pk 330 0 13, 0, 0) :: xP9)) 331 sl = some (wrI I mI1, wrP P mP1, 379, sl') ∧ sl' ≤ sl + 15907 := by
  refine ⟨sl + 7 + 9 + 7 + 7 + 7 + 7 + 7 + 7 + 7 + 14 + 14 + 28 + 28 + 560 + 560 + 14 + 14 + 14 + 14 + 14 + 14 + 14 + 14 + 20 + 20 + 20 + 13500 + 80 + 80 + 80 + 80 + 4 + 4 + 14 + 14 + 14 + 14 + 4 + 4 + 96 + 5 + 5 + 7 + 7 + 3 + 7 + 420 + 24, ?_, by omega⟩
  unfold fM_init
  rw [sm_ck_pos (am_t_pk (by decide))]
  rw [na_l (v := 7) (n := 7) rfl (by decide)]
  rw [upP_eq, bd_eq]
  rw [na_l (v := 9) (n := 9) rfl (by decide)]
  rw [sm_ck_pos (iwl l_0 (by decide) (by decide) (by decide)), cl_0, upI_eq, bd_eq]
  rw [sm_ck_pos (iwl l_1 (by decide) (by decide) (by decide)), cl_1, upI_eq, bd_eq]
  rw [sm_ck_pos (iwl l_2 (by decide) (by decide) (by decide)), cl_2, upI_eq, bd_eq]
  rw [sm_ck_pos (iwl l_3 (by decide) (by decide) (by decide)), cl_3, upI_eq, bd_eq]
  rw [sm_ck_pos (iwl l_4 (by decide) (by decide) (by decide)), cl_4, upI_eq, bd_eq]
  rw [sm_ck_pos (iwl l_5 (by decide) (by decide) (by decide)), cl_5, upI_eq, bd_eq]
  rw [sm_ck_pos (iwl l_6 (by decide) (by decide) (by decide)), cl_6, upI_eq, bd_eq]
  rw [sm_ck_pos (iwl l_7 (by decide) (by decide) (by decide)), cl_7, upI_eq, bd_eq]
  rw [sm_ck_pos (iwl l_8 (by decide) (by decide) (by decide)), cl_8, upI_eq, bd_eq]
  rw [upP_eq, bd_eq]
  rw [na_l (v := 7) (n := 7) rfl (by decide)]
  rw [upP_eq, bd_eq]
  rw [na_l (v := 7) (n := 7) rfl (by decide)]
  rw [upP_eq, bd_eq]
  rw [na_l (v := 7) (n := 7) rfl (by decide)]
  rw [upP_eq, bd_eq]
  rw [na_l (v := 7) (n := 7) rfl (by decide)]
  rw [upP_eq, bd_eq]
  rw [na_l (v := 7) (n := 7) rfl (by decide)]
  rw [upP_eq, bd_eq]
  rw [na_l (v := 7) (n := 7) rfl (by decide)]
  rw [upP_eq, bd_eq]
  rw [na_l (v := 7) (n := 7) rfl (by decide)]
  rw [upP_eq, bd_eq]
  rw [na_l (v := 14) (n := 14) rfl (by decide)]
  rw [upP_eq, bd_eq]
  rw [na_l (v := 14) (n := 14) rfl (by decide)]
  rw [upP_eq, bd_eq]
  rw [na_l (v := 28) (n := 28) rfl (by decide)]
  rw [upP_eq, bd_eq]
  rw [na_l (v := 28) (n := 28) rfl (by decide)]
  rw [upP_eq, bd_eq]
  rw [na_l (v := 560) (n := 560) rfl (by decide)]
  rw [upP_eq, bd_eq]
  rw [na_l (v := 560) (n := 560) rfl (by decide)]
  rw [upP_eq, bd_eq]
  rw [na_l (v := 14) (n := 14) rfl (by decide)]
  rw [upP_eq, bd_eq]
  rw [na_l (v := 14) (n := 14) rfl (by decide)]
  rw [upP_eq, bd_eq]
  rw [na_l (v := 14) (n := 14) rfl (by decide)]
  rw [upP_eq, bd_eq]
  rw [na_l (v := 14) (n := 14) rfl (by decide)]
  rw [upP_eq, bd_eq]
  rw [na_l (v := 14) (n := 14) rfl (by decide)]
  rw [upP_eq, bd_eq]
  rw [na_l (v := 14) (n := 14) rfl (by decide)]
  rw [upP_eq, bd_eq]
  rw [na_l (v := 14) (n := 14) rfl (by decide)]
  rw [upP_eq, bd_eq]
  rw [na_l (v := 14) (n := 14) rfl (by decide)]
  rw [upP_eq, bd_eq]
  rw [na_l (v := 20) (n := 20) rfl (by decide)]
  rw [upP_eq, bd_eq]
  rw [na_l (v := 20) (n := 20) rfl (by decide)]
  rw [upP_eq, bd_eq]
  rw [na_l (v := 20) (n := 20) rfl (by decide)]
  rw [upP_eq, bd_eq]
  rw [na_l (v := 13500) (n := 13500) rfl (by decide)]
  rw [upP_eq, bd_eq]
  rw [na_l (v := 80) (n := 80) rfl (by decide)]
  rw [upP_eq, bd_eq]
  rw [na_l (v := 80) (n := 80) rfl (by decide)]
  rw [upP_eq, bd_eq]
  rw [na_l (v := 80) (n := 80) rfl (by decide)]
  rw [upP_eq, bd_eq]
  rw [na_l (v := 80) (n := 80) rfl (by decide)]
  rw [upP_eq, bd_eq]
  rw [na_l (v := 4) (n := 4) rfl (by decide)]
  rw [upP_eq, bd_eq]
  rw [na_l (v := 4) (n := 4) rfl (by decide)]
  rw [upP_eq, bd_eq]
  rw [na_l (v := 14) (n := 14) rfl (by decide)]
  rw [upP_eq, bd_eq]
  rw [na_l (v := 14) (n := 14) rfl (by decide)]
  rw [upP_eq, bd_eq]
  rw [na_l (v := 14) (n := 14) rfl (by decide)]
  rw [upP_eq, bd_eq]
  rw [na_l (v := 14) (n := 14) rfl (by decide)]
  rw [upP_eq, bd_eq]
  rw [na_l (v := 4) (n := 4) rfl (by decide)]
  rw [upP_eq, bd_eq]
  rw [na_l (v := 4) (n := 4) rfl (by decide)]
  rw [upP_eq, bd_eq]
  rw [na_l (v := 96) (n := 96) rfl (by decide)]
  rw [upP_eq, bd_eq]
  rw [na_l (v := 5) (n := 5) rfl (by decide)]
  rw [upP_eq, bd_eq]
  rw [na_l (v := 5) (n := 5) rfl (by decide)]
  rw [upP_eq, bd_eq]
  rw [na_l (v := 7) (n := 7) rfl (by decide)]
  rw [upP_eq, bd_eq]
  rw [na_l (v := 7) (n := 7) rfl (by decide)]
  rw [upP_eq, bd_eq]
  rw [na_l (v := 3) (n := 3) rfl (by decide)]
  rw [upP_eq, bd_eq]
  rw [na_l (v := 7) (n := 7) rfl (by decide)]
  rw [upP_eq, bd_eq]
  rw [na_l (v := 420) (n := 420) rfl (by decide)]
  rw [upP_eq, bd_eq]
  rw [na_l (v := 24) (n := 24) rfl (by decide)]
  rw [upP_eq, bd_eq]
  rfl
end Ini2
