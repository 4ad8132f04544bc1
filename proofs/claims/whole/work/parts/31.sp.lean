/-! ===== the references between the cells that are made once ===== -/
def sp_l : List (Nat × Nat × Nat) := [(am_pk 2 0 12, 0, am_pk 7 0 11), (am_pk 2 0 12, 1, am_pk 36 0 11), (am_pk 2 0 12, 2, am_pk 65 0 11), (am_pk 2 0 12, 3, am_pk 94 0 11), (am_pk 2 0 12, 5, am_pk 123 0 2), (am_pk 2 0 12, 6, am_pk 3 0 4), (am_pk 2 0 12, 7, am_pk 299 0 10), (am_pk 2 0 12, 8, am_pk 305 0 1), (am_pk 2 0 12, 9, am_pk 306 0 6), (am_pk 2 0 12, 10, am_pk 308 0 3), (am_pk 2 0 12, 11, am_pk 311 0 7), (am_pk 2 0 12, 12, am_pk 314 0 5), (am_pk 2 0 12, 13, am_pk 320 4 25), (am_pk 2 0 12, 14, am_pk 329 7 20), (am_pk 3 0 4, 0, am_pk 4 0 20), (am_pk 3 0 4, 1, am_pk 5 4 20), (am_pk 3 0 4, 2, am_pk 6 4 20), (am_pk 123 0 2, 0, am_pk 124 6 24), (am_pk 299 0 10, 0, am_pk 300 80 20), (am_pk 299 0 10, 2, am_pk 301 80 20), (am_pk 299 0 10, 4, am_pk 302 80 20), (am_pk 299 0 10, 6, am_pk 303 4 20), (am_pk 299 0 10, 7, am_pk 304 4 20), (am_pk 306 0 6, 0, am_pk 307 16 20), (am_pk 308 0 3, 0, am_pk 306 0 6), (am_pk 308 0 3, 1, am_pk 309 5 20), (am_pk 308 0 3, 2, am_pk 310 5 20), (am_pk 311 0 7, 0, am_pk 306 0 6), (am_pk 311 0 7, 1, am_pk 312 14 20), (am_pk 311 0 7, 3, am_pk 313 3 20), (am_pk 314 0 5, 0, am_pk 315 7 20), (am_pk 314 0 5, 1, am_pk 316 7 20), (am_pk 314 0 5, 2, am_pk 317 3 20), (am_pk 314 0 5, 3, am_pk 318 7 20), (am_pk 314 0 5, 4, am_pk 319 7 20), (am_pk 321 0 9, 0, am_pk 322 24 20), (am_pk 323 0 9, 0, am_pk 324 24 20), (am_pk 325 0 9, 0, am_pk 326 24 20), (am_pk 327 0 9, 0, am_pk 328 24 20), (am_pk 330 0 13, 0, am_pk 331 7 20), (am_pk 330 0 13, 1, am_pk 332 9 20), (am_pk 330 0 13, 2, am_pk 333 7 20), (am_pk 330 0 13, 3, am_pk 334 7 20), (am_pk 330 0 13, 4, am_pk 335 7 20), (am_pk 330 0 13, 5, am_pk 336 7 20), (am_pk 330 0 13, 6, am_pk 337 7 20), (am_pk 330 0 13, 7, am_pk 338 7 20), (am_pk 330 0 13, 8, am_pk 339 7 20), (am_pk 330 0 13, 9, am_pk 340 14 20), (am_pk 330 0 13, 10, am_pk 341 14 20), (am_pk 330 0 13, 11, am_pk 342 28 20), (am_pk 330 0 13, 12, am_pk 343 28 20), (am_pk 330 0 13, 13, am_pk 344 560 20), (am_pk 330 0 13, 14, am_pk 345 560 20), (am_pk 330 0 13, 15, am_pk 346 14 20), (am_pk 330 0 13, 16, am_pk 347 14 20), (am_pk 330 0 13, 17, am_pk 348 14 20), (am_pk 330 0 13, 18, am_pk 349 14 20), (am_pk 330 0 13, 19, am_pk 350 14 20), (am_pk 330 0 13, 20, am_pk 351 14 20), (am_pk 330 0 13, 21, am_pk 352 14 20), (am_pk 330 0 13, 22, am_pk 353 14 20), (am_pk 330 0 13, 23, am_pk 354 20 20), (am_pk 330 0 13, 24, am_pk 355 20 20), (am_pk 330 0 13, 25, am_pk 356 20 20), (am_pk 330 0 13, 26, am_pk 357 13500 20), (am_pk 330 0 13, 30, am_pk 358 80 20), (am_pk 330 0 13, 31, am_pk 359 80 20), (am_pk 330 0 13, 33, am_pk 360 80 20), (am_pk 330 0 13, 34, am_pk 361 80 20), (am_pk 330 0 13, 35, am_pk 362 4 20), (am_pk 330 0 13, 36, am_pk 363 4 20), (am_pk 330 0 13, 41, am_pk 364 14 20), (am_pk 330 0 13, 42, am_pk 365 14 20), (am_pk 330 0 13, 43, am_pk 366 14 20), (am_pk 330 0 13, 44, am_pk 367 14 20), (am_pk 330 0 13, 47, am_pk 368 4 20), (am_pk 330 0 13, 48, am_pk 369 4 20), (am_pk 330 0 13, 49, am_pk 370 96 20), (am_pk 330 0 13, 51, am_pk 371 5 20), (am_pk 330 0 13, 52, am_pk 372 5 20), (am_pk 330 0 13, 54, am_pk 373 7 20), (am_pk 330 0 13, 55, am_pk 374 7 20), (am_pk 330 0 13, 56, am_pk 375 3 20), (am_pk 330 0 13, 57, am_pk 376 7 20), (am_pk 330 0 13, 58, am_pk 377 420 20), (am_pk 330 0 13, 61, am_pk 378 24 20)]
/-- the references as they stand once all is made -/
def SP (P : am_Q) : Prop := (∀ q ∈ sp_l, P q.1 q.2.1 = q.2.2) ∧
  (∀ b, isW b → P (am_pk b 0 11) 9 = am_pk (b + 1) 7 22 ∧ P (am_pk b 0 11) 10 = am_pk (b + 2) 14 23 ∧ P (am_pk b 0 11) 11 = am_pk (b + 3) 7 20 ∧ P (am_pk b 0 11) 12 = am_pk (b + 4) 14 20 ∧ P (am_pk b 0 11) 13 = am_pk (b + 5) 20 20 ∧ P (am_pk b 0 11) 14 = am_pk (b + 6) 20 20 ∧ P (am_pk b 0 11) 15 = am_pk (b + 7) 20 20 ∧ (∀ i, i < 7 → P (am_pk (b + 1) 7 22) i = am_pk (b + 8 + i) 0 1) ∧ ∀ i, i < 14 → P (am_pk (b + 2) 14 23) i = am_pk (b + 15 + i) 0 8) ∧
  (∀ i, i < 6 → P (am_pk 124 6 24) i = am_pk (125 + 29 * i) 0 11) ∧ ∀ i, i < 4 → P (am_pk 320 4 25) i = am_pk (321 + 2 * i) 0 9
section SPs
variable {P : am_Q} {b i : Nat}
theorem sp_2_0 (h : SP P) : P (am_pk 2 0 12) 0 = am_pk 7 0 11 := h.1 (am_pk 2 0 12, 0, am_pk 7 0 11) (List.mem_of_getElem? (i := 0) rfl)
theorem sp_2_1 (h : SP P) : P (am_pk 2 0 12) 1 = am_pk 36 0 11 := h.1 (am_pk 2 0 12, 1, am_pk 36 0 11) (List.mem_of_getElem? (i := 1) rfl)
theorem sp_2_2 (h : SP P) : P (am_pk 2 0 12) 2 = am_pk 65 0 11 := h.1 (am_pk 2 0 12, 2, am_pk 65 0 11) (List.mem_of_getElem? (i := 2) rfl)
theorem sp_2_3 (h : SP P) : P (am_pk 2 0 12) 3 = am_pk 94 0 11 := h.1 (am_pk 2 0 12, 3, am_pk 94 0 11) (List.mem_of_getElem? (i := 3) rfl)
theorem sp_2_5 (h : SP P) : P (am_pk 2 0 12) 5 = am_pk 123 0 2 := h.1 (am_pk 2 0 12, 5, am_pk 123 0 2) (List.mem_of_getElem? (i := 4) rfl)
theorem sp_2_6 (h : SP P) : P (am_pk 2 0 12) 6 = am_pk 3 0 4 := h.1 (am_pk 2 0 12, 6, am_pk 3 0 4) (List.mem_of_getElem? (i := 5) rfl)
theorem sp_2_7 (h : SP P) : P (am_pk 2 0 12) 7 = am_pk 299 0 10 := h.1 (am_pk 2 0 12, 7, am_pk 299 0 10) (List.mem_of_getElem? (i := 6) rfl)
theorem sp_2_8 (h : SP P) : P (am_pk 2 0 12) 8 = am_pk 305 0 1 := h.1 (am_pk 2 0 12, 8, am_pk 305 0 1) (List.mem_of_getElem? (i := 7) rfl)
theorem sp_2_9 (h : SP P) : P (am_pk 2 0 12) 9 = am_pk 306 0 6 := h.1 (am_pk 2 0 12, 9, am_pk 306 0 6) (List.mem_of_getElem? (i := 8) rfl)
theorem sp_2_10 (h : SP P) : P (am_pk 2 0 12) 10 = am_pk 308 0 3 := h.1 (am_pk 2 0 12, 10, am_pk 308 0 3) (List.mem_of_getElem? (i := 9) rfl)
theorem sp_2_11 (h : SP P) : P (am_pk 2 0 12) 11 = am_pk 311 0 7 := h.1 (am_pk 2 0 12, 11, am_pk 311 0 7) (List.mem_of_getElem? (i := 10) rfl)
theorem sp_2_12 (h : SP P) : P (am_pk 2 0 12) 12 = am_pk 314 0 5 := h.1 (am_pk 2 0 12, 12, am_pk 314 0 5) (List.mem_of_getElem? (i := 11) rfl)
theorem sp_2_13 (h : SP P) : P (am_pk 2 0 12) 13 = am_pk 320 4 25 := h.1 (am_pk 2 0 12, 13, am_pk 320 4 25) (List.mem_of_getElem? (i := 12) rfl)
theorem sp_2_14 (h : SP P) : P (am_pk 2 0 12) 14 = am_pk 329 7 20 := h.1 (am_pk 2 0 12, 14, am_pk 329 7 20) (List.mem_of_getElem? (i := 13) rfl)
theorem sp_3_0 (h : SP P) : P (am_pk 3 0 4) 0 = am_pk 4 0 20 := h.1 (am_pk 3 0 4, 0, am_pk 4 0 20) (List.mem_of_getElem? (i := 14) rfl)
theorem sp_3_1 (h : SP P) : P (am_pk 3 0 4) 1 = am_pk 5 4 20 := h.1 (am_pk 3 0 4, 1, am_pk 5 4 20) (List.mem_of_getElem? (i := 15) rfl)
theorem sp_3_2 (h : SP P) : P (am_pk 3 0 4) 2 = am_pk 6 4 20 := h.1 (am_pk 3 0 4, 2, am_pk 6 4 20) (List.mem_of_getElem? (i := 16) rfl)
theorem sp_123_0 (h : SP P) : P (am_pk 123 0 2) 0 = am_pk 124 6 24 := h.1 (am_pk 123 0 2, 0, am_pk 124 6 24) (List.mem_of_getElem? (i := 17) rfl)
theorem sp_299_0 (h : SP P) : P (am_pk 299 0 10) 0 = am_pk 300 80 20 := h.1 (am_pk 299 0 10, 0, am_pk 300 80 20) (List.mem_of_getElem? (i := 18) rfl)
theorem sp_299_2 (h : SP P) : P (am_pk 299 0 10) 2 = am_pk 301 80 20 := h.1 (am_pk 299 0 10, 2, am_pk 301 80 20) (List.mem_of_getElem? (i := 19) rfl)
theorem sp_299_4 (h : SP P) : P (am_pk 299 0 10) 4 = am_pk 302 80 20 := h.1 (am_pk 299 0 10, 4, am_pk 302 80 20) (List.mem_of_getElem? (i := 20) rfl)
theorem sp_299_6 (h : SP P) : P (am_pk 299 0 10) 6 = am_pk 303 4 20 := h.1 (am_pk 299 0 10, 6, am_pk 303 4 20) (List.mem_of_getElem? (i := 21) rfl)
theorem sp_299_7 (h : SP P) : P (am_pk 299 0 10) 7 = am_pk 304 4 20 := h.1 (am_pk 299 0 10, 7, am_pk 304 4 20) (List.mem_of_getElem? (i := 22) rfl)
theorem sp_306_0 (h : SP P) : P (am_pk 306 0 6) 0 = am_pk 307 16 20 := h.1 (am_pk 306 0 6, 0, am_pk 307 16 20) (List.mem_of_getElem? (i := 23) rfl)
theorem sp_308_0 (h : SP P) : P (am_pk 308 0 3) 0 = am_pk 306 0 6 := h.1 (am_pk 308 0 3, 0, am_pk 306 0 6) (List.mem_of_getElem? (i := 24) rfl)
theorem sp_308_1 (h : SP P) : P (am_pk 308 0 3) 1 = am_pk 309 5 20 := h.1 (am_pk 308 0 3, 1, am_pk 309 5 20) (List.mem_of_getElem? (i := 25) rfl)
theorem sp_308_2 (h : SP P) : P (am_pk 308 0 3) 2 = am_pk 310 5 20 := h.1 (am_pk 308 0 3, 2, am_pk 310 5 20) (List.mem_of_getElem? (i := 26) rfl)
theorem sp_311_0 (h : SP P) : P (am_pk 311 0 7) 0 = am_pk 306 0 6 := h.1 (am_pk 311 0 7, 0, am_pk 306 0 6) (List.mem_of_getElem? (i := 27) rfl)
theorem sp_311_1 (h : SP P) : P (am_pk 311 0 7) 1 = am_pk 312 14 20 := h.1 (am_pk 311 0 7, 1, am_pk 312 14 20) (List.mem_of_getElem? (i := 28) rfl)
theorem sp_311_3 (h : SP P) : P (am_pk 311 0 7) 3 = am_pk 313 3 20 := h.1 (am_pk 311 0 7, 3, am_pk 313 3 20) (List.mem_of_getElem? (i := 29) rfl)
theorem sp_314_0 (h : SP P) : P (am_pk 314 0 5) 0 = am_pk 315 7 20 := h.1 (am_pk 314 0 5, 0, am_pk 315 7 20) (List.mem_of_getElem? (i := 30) rfl)
theorem sp_314_1 (h : SP P) : P (am_pk 314 0 5) 1 = am_pk 316 7 20 := h.1 (am_pk 314 0 5, 1, am_pk 316 7 20) (List.mem_of_getElem? (i := 31) rfl)
theorem sp_314_2 (h : SP P) : P (am_pk 314 0 5) 2 = am_pk 317 3 20 := h.1 (am_pk 314 0 5, 2, am_pk 317 3 20) (List.mem_of_getElem? (i := 32) rfl)
theorem sp_314_3 (h : SP P) : P (am_pk 314 0 5) 3 = am_pk 318 7 20 := h.1 (am_pk 314 0 5, 3, am_pk 318 7 20) (List.mem_of_getElem? (i := 33) rfl)
theorem sp_314_4 (h : SP P) : P (am_pk 314 0 5) 4 = am_pk 319 7 20 := h.1 (am_pk 314 0 5, 4, am_pk 319 7 20) (List.mem_of_getElem? (i := 34) rfl)
theorem sp_321_0 (h : SP P) : P (am_pk 321 0 9) 0 = am_pk 322 24 20 := h.1 (am_pk 321 0 9, 0, am_pk 322 24 20) (List.mem_of_getElem? (i := 35) rfl)
theorem sp_323_0 (h : SP P) : P (am_pk 323 0 9) 0 = am_pk 324 24 20 := h.1 (am_pk 323 0 9, 0, am_pk 324 24 20) (List.mem_of_getElem? (i := 36) rfl)
theorem sp_325_0 (h : SP P) : P (am_pk 325 0 9) 0 = am_pk 326 24 20 := h.1 (am_pk 325 0 9, 0, am_pk 326 24 20) (List.mem_of_getElem? (i := 37) rfl)
theorem sp_327_0 (h : SP P) : P (am_pk 327 0 9) 0 = am_pk 328 24 20 := h.1 (am_pk 327 0 9, 0, am_pk 328 24 20) (List.mem_of_getElem? (i := 38) rfl)
theorem sp_330_0 (h : SP P) : P (am_pk 330 0 13) 0 = am_pk 331 7 20 := h.1 (am_pk 330 0 13, 0, am_pk 331 7 20) (List.mem_of_getElem? (i := 39) rfl)
theorem sp_330_1 (h : SP P) : P (am_pk 330 0 13) 1 = am_pk 332 9 20 := h.1 (am_pk 330 0 13, 1, am_pk 332 9 20) (List.mem_of_getElem? (i := 40) rfl)
theorem sp_330_2 (h : SP P) : P (am_pk 330 0 13) 2 = am_pk 333 7 20 := h.1 (am_pk 330 0 13, 2, am_pk 333 7 20) (List.mem_of_getElem? (i := 41) rfl)
theorem sp_330_3 (h : SP P) : P (am_pk 330 0 13) 3 = am_pk 334 7 20 := h.1 (am_pk 330 0 13, 3, am_pk 334 7 20) (List.mem_of_getElem? (i := 42) rfl)
theorem sp_330_4 (h : SP P) : P (am_pk 330 0 13) 4 = am_pk 335 7 20 := h.1 (am_pk 330 0 13, 4, am_pk 335 7 20) (List.mem_of_getElem? (i := 43) rfl)
theorem sp_330_5 (h : SP P) : P (am_pk 330 0 13) 5 = am_pk 336 7 20 := h.1 (am_pk 330 0 13, 5, am_pk 336 7 20) (List.mem_of_getElem? (i := 44) rfl)
theorem sp_330_6 (h : SP P) : P (am_pk 330 0 13) 6 = am_pk 337 7 20 := h.1 (am_pk 330 0 13, 6, am_pk 337 7 20) (List.mem_of_getElem? (i := 45) rfl)
theorem sp_330_7 (h : SP P) : P (am_pk 330 0 13) 7 = am_pk 338 7 20 := h.1 (am_pk 330 0 13, 7, am_pk 338 7 20) (List.mem_of_getElem? (i := 46) rfl)
theorem sp_330_8 (h : SP P) : P (am_pk 330 0 13) 8 = am_pk 339 7 20 := h.1 (am_pk 330 0 13, 8, am_pk 339 7 20) (List.mem_of_getElem? (i := 47) rfl)
theorem sp_330_9 (h : SP P) : P (am_pk 330 0 13) 9 = am_pk 340 14 20 := h.1 (am_pk 330 0 13, 9, am_pk 340 14 20) (List.mem_of_getElem? (i := 48) rfl)
theorem sp_330_10 (h : SP P) : P (am_pk 330 0 13) 10 = am_pk 341 14 20 := h.1 (am_pk 330 0 13, 10, am_pk 341 14 20) (List.mem_of_getElem? (i := 49) rfl)
theorem sp_330_11 (h : SP P) : P (am_pk 330 0 13) 11 = am_pk 342 28 20 := h.1 (am_pk 330 0 13, 11, am_pk 342 28 20) (List.mem_of_getElem? (i := 50) rfl)
theorem sp_330_12 (h : SP P) : P (am_pk 330 0 13) 12 = am_pk 343 28 20 := h.1 (am_pk 330 0 13, 12, am_pk 343 28 20) (List.mem_of_getElem? (i := 51) rfl)
theorem sp_330_13 (h : SP P) : P (am_pk 330 0 13) 13 = am_pk 344 560 20 := h.1 (am_pk 330 0 13, 13, am_pk 344 560 20) (List.mem_of_getElem? (i := 52) rfl)
theorem sp_330_14 (h : SP P) : P (am_pk 330 0 13) 14 = am_pk 345 560 20 := h.1 (am_pk 330 0 13, 14, am_pk 345 560 20) (List.mem_of_getElem? (i := 53) rfl)
theorem sp_330_15 (h : SP P) : P (am_pk 330 0 13) 15 = am_pk 346 14 20 := h.1 (am_pk 330 0 13, 15, am_pk 346 14 20) (List.mem_of_getElem? (i := 54) rfl)
theorem sp_330_16 (h : SP P) : P (am_pk 330 0 13) 16 = am_pk 347 14 20 := h.1 (am_pk 330 0 13, 16, am_pk 347 14 20) (List.mem_of_getElem? (i := 55) rfl)
theorem sp_330_17 (h : SP P) : P (am_pk 330 0 13) 17 = am_pk 348 14 20 := h.1 (am_pk 330 0 13, 17, am_pk 348 14 20) (List.mem_of_getElem? (i := 56) rfl)
theorem sp_330_18 (h : SP P) : P (am_pk 330 0 13) 18 = am_pk 349 14 20 := h.1 (am_pk 330 0 13, 18, am_pk 349 14 20) (List.mem_of_getElem? (i := 57) rfl)
theorem sp_330_19 (h : SP P) : P (am_pk 330 0 13) 19 = am_pk 350 14 20 := h.1 (am_pk 330 0 13, 19, am_pk 350 14 20) (List.mem_of_getElem? (i := 58) rfl)
theorem sp_330_20 (h : SP P) : P (am_pk 330 0 13) 20 = am_pk 351 14 20 := h.1 (am_pk 330 0 13, 20, am_pk 351 14 20) (List.mem_of_getElem? (i := 59) rfl)
theorem sp_330_21 (h : SP P) : P (am_pk 330 0 13) 21 = am_pk 352 14 20 := h.1 (am_pk 330 0 13, 21, am_pk 352 14 20) (List.mem_of_getElem? (i := 60) rfl)
theorem sp_330_22 (h : SP P) : P (am_pk 330 0 13) 22 = am_pk 353 14 20 := h.1 (am_pk 330 0 13, 22, am_pk 353 14 20) (List.mem_of_getElem? (i := 61) rfl)
theorem sp_330_23 (h : SP P) : P (am_pk 330 0 13) 23 = am_pk 354 20 20 := h.1 (am_pk 330 0 13, 23, am_pk 354 20 20) (List.mem_of_getElem? (i := 62) rfl)
theorem sp_330_24 (h : SP P) : P (am_pk 330 0 13) 24 = am_pk 355 20 20 := h.1 (am_pk 330 0 13, 24, am_pk 355 20 20) (List.mem_of_getElem? (i := 63) rfl)
theorem sp_330_25 (h : SP P) : P (am_pk 330 0 13) 25 = am_pk 356 20 20 := h.1 (am_pk 330 0 13, 25, am_pk 356 20 20) (List.mem_of_getElem? (i := 64) rfl)
theorem sp_330_26 (h : SP P) : P (am_pk 330 0 13) 26 = am_pk 357 13500 20 := h.1 (am_pk 330 0 13, 26, am_pk 357 13500 20) (List.mem_of_getElem? (i := 65) rfl)
theorem sp_330_30 (h : SP P) : P (am_pk 330 0 13) 30 = am_pk 358 80 20 := h.1 (am_pk 330 0 13, 30, am_pk 358 80 20) (List.mem_of_getElem? (i := 66) rfl)
theorem sp_330_31 (h : SP P) : P (am_pk 330 0 13) 31 = am_pk 359 80 20 := h.1 (am_pk 330 0 13, 31, am_pk 359 80 20) (List.mem_of_getElem? (i := 67) rfl)
theorem sp_330_33 (h : SP P) : P (am_pk 330 0 13) 33 = am_pk 360 80 20 := h.1 (am_pk 330 0 13, 33, am_pk 360 80 20) (List.mem_of_getElem? (i := 68) rfl)
theorem sp_330_34 (h : SP P) : P (am_pk 330 0 13) 34 = am_pk 361 80 20 := h.1 (am_pk 330 0 13, 34, am_pk 361 80 20) (List.mem_of_getElem? (i := 69) rfl)
theorem sp_330_35 (h : SP P) : P (am_pk 330 0 13) 35 = am_pk 362 4 20 := h.1 (am_pk 330 0 13, 35, am_pk 362 4 20) (List.mem_of_getElem? (i := 70) rfl)
theorem sp_330_36 (h : SP P) : P (am_pk 330 0 13) 36 = am_pk 363 4 20 := h.1 (am_pk 330 0 13, 36, am_pk 363 4 20) (List.mem_of_getElem? (i := 71) rfl)
theorem sp_330_41 (h : SP P) : P (am_pk 330 0 13) 41 = am_pk 364 14 20 := h.1 (am_pk 330 0 13, 41, am_pk 364 14 20) (List.mem_of_getElem? (i := 72) rfl)
theorem sp_330_42 (h : SP P) : P (am_pk 330 0 13) 42 = am_pk 365 14 20 := h.1 (am_pk 330 0 13, 42, am_pk 365 14 20) (List.mem_of_getElem? (i := 73) rfl)
theorem sp_330_43 (h : SP P) : P (am_pk 330 0 13) 43 = am_pk 366 14 20 := h.1 (am_pk 330 0 13, 43, am_pk 366 14 20) (List.mem_of_getElem? (i := 74) rfl)
theorem sp_330_44 (h : SP P) : P (am_pk 330 0 13) 44 = am_pk 367 14 20 := h.1 (am_pk 330 0 13, 44, am_pk 367 14 20) (List.mem_of_getElem? (i := 75) rfl)
theorem sp_330_47 (h : SP P) : P (am_pk 330 0 13) 47 = am_pk 368 4 20 := h.1 (am_pk 330 0 13, 47, am_pk 368 4 20) (List.mem_of_getElem? (i := 76) rfl)
theorem sp_330_48 (h : SP P) : P (am_pk 330 0 13) 48 = am_pk 369 4 20 := h.1 (am_pk 330 0 13, 48, am_pk 369 4 20) (List.mem_of_getElem? (i := 77) rfl)
theorem sp_330_49 (h : SP P) : P (am_pk 330 0 13) 49 = am_pk 370 96 20 := h.1 (am_pk 330 0 13, 49, am_pk 370 96 20) (List.mem_of_getElem? (i := 78) rfl)
theorem sp_330_51 (h : SP P) : P (am_pk 330 0 13) 51 = am_pk 371 5 20 := h.1 (am_pk 330 0 13, 51, am_pk 371 5 20) (List.mem_of_getElem? (i := 79) rfl)
theorem sp_330_52 (h : SP P) : P (am_pk 330 0 13) 52 = am_pk 372 5 20 := h.1 (am_pk 330 0 13, 52, am_pk 372 5 20) (List.mem_of_getElem? (i := 80) rfl)
theorem sp_330_54 (h : SP P) : P (am_pk 330 0 13) 54 = am_pk 373 7 20 := h.1 (am_pk 330 0 13, 54, am_pk 373 7 20) (List.mem_of_getElem? (i := 81) rfl)
theorem sp_330_55 (h : SP P) : P (am_pk 330 0 13) 55 = am_pk 374 7 20 := h.1 (am_pk 330 0 13, 55, am_pk 374 7 20) (List.mem_of_getElem? (i := 82) rfl)
theorem sp_330_56 (h : SP P) : P (am_pk 330 0 13) 56 = am_pk 375 3 20 := h.1 (am_pk 330 0 13, 56, am_pk 375 3 20) (List.mem_of_getElem? (i := 83) rfl)
theorem sp_330_57 (h : SP P) : P (am_pk 330 0 13) 57 = am_pk 376 7 20 := h.1 (am_pk 330 0 13, 57, am_pk 376 7 20) (List.mem_of_getElem? (i := 84) rfl)
theorem sp_330_58 (h : SP P) : P (am_pk 330 0 13) 58 = am_pk 377 420 20 := h.1 (am_pk 330 0 13, 58, am_pk 377 420 20) (List.mem_of_getElem? (i := 85) rfl)
theorem sp_330_61 (h : SP P) : P (am_pk 330 0 13) 61 = am_pk 378 24 20 := h.1 (am_pk 330 0 13, 61, am_pk 378 24 20) (List.mem_of_getElem? (i := 86) rfl)
theorem sp_w9 (h : SP P) (hb : isW b) : P (am_pk b 0 11) 9 = am_pk (b + 1) 7 22 := (h.2.1 b hb).1
theorem sp_w10 (h : SP P) (hb : isW b) : P (am_pk b 0 11) 10 = am_pk (b + 2) 14 23 := (h.2.1 b hb).2.1
theorem sp_w11 (h : SP P) (hb : isW b) : P (am_pk b 0 11) 11 = am_pk (b + 3) 7 20 := (h.2.1 b hb).2.2.1
theorem sp_w12 (h : SP P) (hb : isW b) : P (am_pk b 0 11) 12 = am_pk (b + 4) 14 20 := (h.2.1 b hb).2.2.2.1
theorem sp_w13 (h : SP P) (hb : isW b) : P (am_pk b 0 11) 13 = am_pk (b + 5) 20 20 := (h.2.1 b hb).2.2.2.2.1
theorem sp_w14 (h : SP P) (hb : isW b) : P (am_pk b 0 11) 14 = am_pk (b + 6) 20 20 := (h.2.1 b hb).2.2.2.2.2.1
theorem sp_w15 (h : SP P) (hb : isW b) : P (am_pk b 0 11) 15 = am_pk (b + 7) 20 20 := (h.2.1 b hb).2.2.2.2.2.2.1
theorem sp_bx (h : SP P) (hb : isW b) (hi : i < 7) : P (am_pk (b + 1) 7 22) i = am_pk (b + 8 + i) 0 1 := (h.2.1 b hb).2.2.2.2.2.2.2.1 i hi
theorem sp_sm (h : SP P) (hb : isW b) (hi : i < 14) : P (am_pk (b + 2) 14 23) i = am_pk (b + 15 + i) 0 8 := (h.2.1 b hb).2.2.2.2.2.2.2.2 i hi
theorem sp_hi (h : SP P) (hi : i < 6) : P (am_pk 124 6 24) i = am_pk (125 + 29 * i) 0 11 := h.2.2.1 i hi
theorem sp_sh (h : SP P) (hi : i < 4) : P (am_pk 320 4 25) i = am_pk (321 + 2 * i) 0 9 := h.2.2.2 i hi
theorem sp_sn (h : SP P) (hi : i < 4) : P (am_pk (321 + 2 * i) 0 9) 0 = am_pk (322 + 2 * i) 24 20 := by
  rcases (show i = 0 ∨ i = 1 ∨ i = 2 ∨ i = 3 by omega) with rfl | rfl | rfl | rfl
  · exact sp_321_0 h
  · exact sp_323_0 h
  · exact sp_325_0 h
  · exact sp_327_0 h
end SPs
section SCs
variable {b i : Nat}
theorem sc_2 : sc 2 0 12 := ⟨by decide, by decide, by decide⟩
theorem sc_3 : sc 3 0 4 := ⟨by decide, by decide, by decide⟩
theorem sc_4 : sc 4 0 20 := ⟨by decide, by decide, by decide⟩
theorem sc_5 : sc 5 4 20 := ⟨by decide, by decide, by decide⟩
theorem sc_6 : sc 6 4 20 := ⟨by decide, by decide, by decide⟩
theorem sc_123 : sc 123 0 2 := ⟨by decide, by decide, by decide⟩
theorem sc_124 : sc 124 6 24 := ⟨by decide, by decide, by decide⟩
theorem sc_299 : sc 299 0 10 := ⟨by decide, by decide, by decide⟩
theorem sc_300 : sc 300 80 20 := ⟨by decide, by decide, by decide⟩
theorem sc_301 : sc 301 80 20 := ⟨by decide, by decide, by decide⟩
theorem sc_302 : sc 302 80 20 := ⟨by decide, by decide, by decide⟩
theorem sc_303 : sc 303 4 20 := ⟨by decide, by decide, by decide⟩
theorem sc_304 : sc 304 4 20 := ⟨by decide, by decide, by decide⟩
theorem sc_305 : sc 305 0 1 := ⟨by decide, by decide, by decide⟩
theorem sc_306 : sc 306 0 6 := ⟨by decide, by decide, by decide⟩
theorem sc_307 : sc 307 16 20 := ⟨by decide, by decide, by decide⟩
theorem sc_308 : sc 308 0 3 := ⟨by decide, by decide, by decide⟩
theorem sc_309 : sc 309 5 20 := ⟨by decide, by decide, by decide⟩
theorem sc_310 : sc 310 5 20 := ⟨by decide, by decide, by decide⟩
theorem sc_311 : sc 311 0 7 := ⟨by decide, by decide, by decide⟩
theorem sc_312 : sc 312 14 20 := ⟨by decide, by decide, by decide⟩
theorem sc_313 : sc 313 3 20 := ⟨by decide, by decide, by decide⟩
theorem sc_314 : sc 314 0 5 := ⟨by decide, by decide, by decide⟩
theorem sc_315 : sc 315 7 20 := ⟨by decide, by decide, by decide⟩
theorem sc_316 : sc 316 7 20 := ⟨by decide, by decide, by decide⟩
theorem sc_317 : sc 317 3 20 := ⟨by decide, by decide, by decide⟩
theorem sc_318 : sc 318 7 20 := ⟨by decide, by decide, by decide⟩
theorem sc_319 : sc 319 7 20 := ⟨by decide, by decide, by decide⟩
theorem sc_320 : sc 320 4 25 := ⟨by decide, by decide, by decide⟩
theorem sc_321 : sc 321 0 9 := ⟨by decide, by decide, by decide⟩
theorem sc_322 : sc 322 24 20 := ⟨by decide, by decide, by decide⟩
theorem sc_323 : sc 323 0 9 := ⟨by decide, by decide, by decide⟩
theorem sc_324 : sc 324 24 20 := ⟨by decide, by decide, by decide⟩
theorem sc_325 : sc 325 0 9 := ⟨by decide, by decide, by decide⟩
theorem sc_326 : sc 326 24 20 := ⟨by decide, by decide, by decide⟩
theorem sc_327 : sc 327 0 9 := ⟨by decide, by decide, by decide⟩
theorem sc_328 : sc 328 24 20 := ⟨by decide, by decide, by decide⟩
theorem sc_329 : sc 329 7 20 := ⟨by decide, by decide, by decide⟩
theorem sc_330 : sc 330 0 13 := ⟨by decide, by decide, by decide⟩
theorem sc_331 : sc 331 7 20 := ⟨by decide, by decide, by decide⟩
theorem sc_332 : sc 332 9 20 := ⟨by decide, by decide, by decide⟩
theorem sc_333 : sc 333 7 20 := ⟨by decide, by decide, by decide⟩
theorem sc_334 : sc 334 7 20 := ⟨by decide, by decide, by decide⟩
theorem sc_335 : sc 335 7 20 := ⟨by decide, by decide, by decide⟩
theorem sc_336 : sc 336 7 20 := ⟨by decide, by decide, by decide⟩
theorem sc_337 : sc 337 7 20 := ⟨by decide, by decide, by decide⟩
theorem sc_338 : sc 338 7 20 := ⟨by decide, by decide, by decide⟩
theorem sc_339 : sc 339 7 20 := ⟨by decide, by decide, by decide⟩
theorem sc_340 : sc 340 14 20 := ⟨by decide, by decide, by decide⟩
theorem sc_341 : sc 341 14 20 := ⟨by decide, by decide, by decide⟩
theorem sc_342 : sc 342 28 20 := ⟨by decide, by decide, by decide⟩
theorem sc_343 : sc 343 28 20 := ⟨by decide, by decide, by decide⟩
theorem sc_344 : sc 344 560 20 := ⟨by decide, by decide, by decide⟩
theorem sc_345 : sc 345 560 20 := ⟨by decide, by decide, by decide⟩
theorem sc_346 : sc 346 14 20 := ⟨by decide, by decide, by decide⟩
theorem sc_347 : sc 347 14 20 := ⟨by decide, by decide, by decide⟩
theorem sc_348 : sc 348 14 20 := ⟨by decide, by decide, by decide⟩
theorem sc_349 : sc 349 14 20 := ⟨by decide, by decide, by decide⟩
theorem sc_350 : sc 350 14 20 := ⟨by decide, by decide, by decide⟩
theorem sc_351 : sc 351 14 20 := ⟨by decide, by decide, by decide⟩
theorem sc_352 : sc 352 14 20 := ⟨by decide, by decide, by decide⟩
theorem sc_353 : sc 353 14 20 := ⟨by decide, by decide, by decide⟩
theorem sc_354 : sc 354 20 20 := ⟨by decide, by decide, by decide⟩
theorem sc_355 : sc 355 20 20 := ⟨by decide, by decide, by decide⟩
theorem sc_356 : sc 356 20 20 := ⟨by decide, by decide, by decide⟩
theorem sc_357 : sc 357 13500 20 := ⟨by decide, by decide, by decide⟩
theorem sc_358 : sc 358 80 20 := ⟨by decide, by decide, by decide⟩
theorem sc_359 : sc 359 80 20 := ⟨by decide, by decide, by decide⟩
theorem sc_360 : sc 360 80 20 := ⟨by decide, by decide, by decide⟩
theorem sc_361 : sc 361 80 20 := ⟨by decide, by decide, by decide⟩
theorem sc_362 : sc 362 4 20 := ⟨by decide, by decide, by decide⟩
theorem sc_363 : sc 363 4 20 := ⟨by decide, by decide, by decide⟩
theorem sc_364 : sc 364 14 20 := ⟨by decide, by decide, by decide⟩
theorem sc_365 : sc 365 14 20 := ⟨by decide, by decide, by decide⟩
theorem sc_366 : sc 366 14 20 := ⟨by decide, by decide, by decide⟩
theorem sc_367 : sc 367 14 20 := ⟨by decide, by decide, by decide⟩
theorem sc_368 : sc 368 4 20 := ⟨by decide, by decide, by decide⟩
theorem sc_369 : sc 369 4 20 := ⟨by decide, by decide, by decide⟩
theorem sc_370 : sc 370 96 20 := ⟨by decide, by decide, by decide⟩
theorem sc_371 : sc 371 5 20 := ⟨by decide, by decide, by decide⟩
theorem sc_372 : sc 372 5 20 := ⟨by decide, by decide, by decide⟩
theorem sc_373 : sc 373 7 20 := ⟨by decide, by decide, by decide⟩
theorem sc_374 : sc 374 7 20 := ⟨by decide, by decide, by decide⟩
theorem sc_375 : sc 375 3 20 := ⟨by decide, by decide, by decide⟩
theorem sc_376 : sc 376 7 20 := ⟨by decide, by decide, by decide⟩
theorem sc_377 : sc 377 420 20 := ⟨by decide, by decide, by decide⟩
theorem sc_378 : sc 378 24 20 := ⟨by decide, by decide, by decide⟩
theorem sc_w0 (hb : isW b) : sc (b) 0 11 := ⟨by have := hb.rng; omega, by have := hb.rng; omega, hb.lt (d := 0) (by decide)⟩
theorem sc_w1 (hb : isW b) : sc (b + 1) 7 22 := ⟨by have := hb.rng; omega, by have := hb.rng; omega, hb.lt (d := 1) (by decide)⟩
theorem sc_w2 (hb : isW b) : sc (b + 2) 14 23 := ⟨by have := hb.rng; omega, by have := hb.rng; omega, hb.lt (d := 2) (by decide)⟩
theorem sc_w3 (hb : isW b) : sc (b + 3) 7 20 := ⟨by have := hb.rng; omega, by have := hb.rng; omega, hb.lt (d := 3) (by decide)⟩
theorem sc_w4 (hb : isW b) : sc (b + 4) 14 20 := ⟨by have := hb.rng; omega, by have := hb.rng; omega, hb.lt (d := 4) (by decide)⟩
theorem sc_w5 (hb : isW b) : sc (b + 5) 20 20 := ⟨by have := hb.rng; omega, by have := hb.rng; omega, hb.lt (d := 5) (by decide)⟩
theorem sc_w6 (hb : isW b) : sc (b + 6) 20 20 := ⟨by have := hb.rng; omega, by have := hb.rng; omega, hb.lt (d := 6) (by decide)⟩
theorem sc_w7 (hb : isW b) : sc (b + 7) 20 20 := ⟨by have := hb.rng; omega, by have := hb.rng; omega, hb.lt (d := 7) (by decide)⟩
theorem sc_bx (hb : isW b) (hi : i < 7) : sc (b + 8 + i) 0 1 := by
  refine ⟨by have := hb.rng; omega, by have := hb.rng; omega, ?_⟩
  rw [Nat.add_assoc, hb.lt (by omega)]
  unfold st_w
  rw [if_neg (by omega), if_neg (by omega), if_neg (by omega), if_neg (by omega), if_neg (by omega), if_neg (by omega), if_pos (by omega)]
theorem sc_sm (hb : isW b) (hi : i < 14) : sc (b + 15 + i) 0 8 := by
  refine ⟨by have := hb.rng; omega, by have := hb.rng; omega, ?_⟩
  rw [Nat.add_assoc, hb.lt (by omega)]
  unfold st_w
  rw [if_neg (by omega), if_neg (by omega), if_neg (by omega), if_neg (by omega), if_neg (by omega), if_neg (by omega), if_neg (by omega)]
theorem sc_sh (hi : i < 4) : sc (321 + 2 * i) 0 9 := by
  rcases (show i = 0 ∨ i = 1 ∨ i = 2 ∨ i = 3 by omega) with rfl | rfl | rfl | rfl
  · exact sc_321
  · exact sc_323
  · exact sc_325
  · exact sc_327
theorem sc_sn (hi : i < 4) : sc (322 + 2 * i) 24 20 := by
  rcases (show i = 0 ∨ i = 1 ∨ i = 2 ∨ i = 3 by omega) with rfl | rfl | rfl | rfl
  · exact sc_322
  · exact sc_324
  · exact sc_326
  · exact sc_328
theorem isW_7 : isW 7 := Or.inl ⟨0, by decide, rfl⟩
theorem isW_36 : isW 36 := Or.inl ⟨1, by decide, rfl⟩
theorem isW_65 : isW 65 := Or.inl ⟨2, by decide, rfl⟩
theorem isW_94 : isW 94 := Or.inl ⟨3, by decide, rfl⟩
theorem isW_h (hi : i < 6) : isW (125 + 29 * i) := Or.inr ⟨i, hi, rfl⟩
end SCs
/-! checks with numbers -/
theorem in_pk {c n k : Nat} (hn : n < 16384) (hk : k < 2147483648) : sm_in (am_pk c n 20) (nI k) = (k < n) := by
  apply propext
  constructor
  · intro h
    have h2 := h.2
    rw [am_n_pk hn (by decide), nI_clamp hk] at h2
    omega
  · intro h; exact sm_in_nI hn h
theorem iw_pk {c n k : Nat} (hc : 2 ≤ c) (hn : n < 16384) (hk : k < 2147483648) : sm_iw (am_pk c n 20) (nI k) = (k < n) := by
  apply propext
  constructor
  · intro h
    have h2 := h.2.2
    rw [am_n_pk hn (by decide), nI_clamp hk] at h2
    omega
  · intro h; exact sm_iw_nI hc hn h
theorem cl_0 : (0 : Int32).toNatClampNeg = 0 := by decide
theorem in_k0 {c n : Nat} (hn : n < 16384) : sm_in (am_pk c n 20) 0 = (0 < n) := in_pk (k := 0) hn (by decide)
theorem iw_k0 {c n : Nat} (hc : 2 ≤ c) (hn : n < 16384) : sm_iw (am_pk c n 20) 0 = (0 < n) := iw_pk (k := 0) hc hn (by decide)
theorem cl_1 : (1 : Int32).toNatClampNeg = 1 := by decide
theorem in_k1 {c n : Nat} (hn : n < 16384) : sm_in (am_pk c n 20) 1 = (1 < n) := in_pk (k := 1) hn (by decide)
theorem iw_k1 {c n : Nat} (hc : 2 ≤ c) (hn : n < 16384) : sm_iw (am_pk c n 20) 1 = (1 < n) := iw_pk (k := 1) hc hn (by decide)
theorem cl_2 : (2 : Int32).toNatClampNeg = 2 := by decide
theorem in_k2 {c n : Nat} (hn : n < 16384) : sm_in (am_pk c n 20) 2 = (2 < n) := in_pk (k := 2) hn (by decide)
theorem iw_k2 {c n : Nat} (hc : 2 ≤ c) (hn : n < 16384) : sm_iw (am_pk c n 20) 2 = (2 < n) := iw_pk (k := 2) hc hn (by decide)
theorem cl_3 : (3 : Int32).toNatClampNeg = 3 := by decide
theorem in_k3 {c n : Nat} (hn : n < 16384) : sm_in (am_pk c n 20) 3 = (3 < n) := in_pk (k := 3) hn (by decide)
theorem iw_k3 {c n : Nat} (hc : 2 ≤ c) (hn : n < 16384) : sm_iw (am_pk c n 20) 3 = (3 < n) := iw_pk (k := 3) hc hn (by decide)
theorem cl_4 : (4 : Int32).toNatClampNeg = 4 := by decide
theorem in_k4 {c n : Nat} (hn : n < 16384) : sm_in (am_pk c n 20) 4 = (4 < n) := in_pk (k := 4) hn (by decide)
theorem iw_k4 {c n : Nat} (hc : 2 ≤ c) (hn : n < 16384) : sm_iw (am_pk c n 20) 4 = (4 < n) := iw_pk (k := 4) hc hn (by decide)
theorem cl_5 : (5 : Int32).toNatClampNeg = 5 := by decide
theorem in_k5 {c n : Nat} (hn : n < 16384) : sm_in (am_pk c n 20) 5 = (5 < n) := in_pk (k := 5) hn (by decide)
theorem iw_k5 {c n : Nat} (hc : 2 ≤ c) (hn : n < 16384) : sm_iw (am_pk c n 20) 5 = (5 < n) := iw_pk (k := 5) hc hn (by decide)
theorem cl_6 : (6 : Int32).toNatClampNeg = 6 := by decide
theorem in_k6 {c n : Nat} (hn : n < 16384) : sm_in (am_pk c n 20) 6 = (6 < n) := in_pk (k := 6) hn (by decide)
theorem iw_k6 {c n : Nat} (hc : 2 ≤ c) (hn : n < 16384) : sm_iw (am_pk c n 20) 6 = (6 < n) := iw_pk (k := 6) hc hn (by decide)
theorem cl_7 : (7 : Int32).toNatClampNeg = 7 := by decide
theorem in_k7 {c n : Nat} (hn : n < 16384) : sm_in (am_pk c n 20) 7 = (7 < n) := in_pk (k := 7) hn (by decide)
theorem iw_k7 {c n : Nat} (hc : 2 ≤ c) (hn : n < 16384) : sm_iw (am_pk c n 20) 7 = (7 < n) := iw_pk (k := 7) hc hn (by decide)
theorem cl_8 : (8 : Int32).toNatClampNeg = 8 := by decide
theorem in_k8 {c n : Nat} (hn : n < 16384) : sm_in (am_pk c n 20) 8 = (8 < n) := in_pk (k := 8) hn (by decide)
theorem iw_k8 {c n : Nat} (hc : 2 ≤ c) (hn : n < 16384) : sm_iw (am_pk c n 20) 8 = (8 < n) := iw_pk (k := 8) hc hn (by decide)
theorem cl_9 : (9 : Int32).toNatClampNeg = 9 := by decide
theorem in_k9 {c n : Nat} (hn : n < 16384) : sm_in (am_pk c n 20) 9 = (9 < n) := in_pk (k := 9) hn (by decide)
theorem iw_k9 {c n : Nat} (hc : 2 ≤ c) (hn : n < 16384) : sm_iw (am_pk c n 20) 9 = (9 < n) := iw_pk (k := 9) hc hn (by decide)
