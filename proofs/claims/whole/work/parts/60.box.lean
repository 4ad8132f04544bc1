/-! ===== the call box ===== -/
def bxA (w : am_M) (nb : Nat) (k p q j : Int32) : am_M := fun r c => if c = nb ∧ 1 ≤ r ∧ r ≤ 10 then (if r = 1 then k else if r = 2 then p else if r = 3 then q else if r = 6 then j else if r = 7 then 1 else 0) else if r = 21 ∧ c = nb then nI nb else if r = 0 ∧ c = 6 then nI (nb + 1) else w r c
def bxT (t : Nat → Nat → List Nat) (nb : Nat) : Nat → Nat → List Nat := fun i => if i = nb then (fun _ => []) else t i
section Box
variable {I R R1 R2 : am_M} {P P1 : am_Q} {nx sl : Nat} {w : am_M} {t : Nat → Nat → List Nat} {m nb ns ne : Nat} {k p q j : Int32}
theorem bxA_r {r c : Nat} (h : ¬ (c = nb ∧ ((1 ≤ r ∧ r ≤ 10) ∨ r = 21))) (h2 : ¬ (r = 0 ∧ c = 6)) : bxA w nb k p q j r c = w r c := by
  unfold bxA
  rw [if_neg (by omega), if_neg (by omega), if_neg h2]
theorem bxA_21 : bxA w nb k p q j 21 nb = nI nb := by
  unfold bxA
  rw [if_neg (by omega), if_pos ⟨rfl, rfl⟩]
theorem bxA_06 : bxA w nb k p q j 0 6 = nI (nb + 1) := by
  unfold bxA
  rw [if_neg (by omega), if_neg (by omega), if_pos ⟨rfl, rfl⟩]
theorem bxT_r {i : Nat} (h : i ≠ nb) : bxT t nb i = t i := by unfold bxT; rw [if_neg h]
theorem bxT_n : bxT t nb nb = fun _ => [] := by unfold bxT; rw [if_pos rfl]
theorem bxA_w {kk : Nat} (h : wiv w t m nb ns ne) (hn : nb < 7) (hk : kk < 6) (hp : ran m p) (hq : ran m q) (hj : ran m j) : wiv (bxA w nb (nI kk) p q j) (bxT t nb) m (nb + 1) ns ne := by
  obtain ⟨⟨a1, a2, a3, a4, a5, a6, a7, a8, a9, a10, a11⟩, hB, hS, hD, hO, hE⟩ := h
  have r0 := ran0 a2 a3
  refine ⟨⟨?_, a2, a3, bxA_06, by omega, ?_, a7, ?_, a9, ?_, ?_⟩, ?_, ?_, ?_, ?_, ?_⟩
  · rw [bxA_r (by omega) (by omega)]; exact a1
  · rw [bxA_r (by omega) (by omega)]; exact a6
  · rw [bxA_r (by omega) (by omega)]; exact a8
  · rw [bxA_r (by omega) (by omega)]; exact a10
  · rw [bxA_r (by omega) (by omega)]; exact a11
  · intro i hi
    by_cases e : i = nb
    · subst e
      have v : ∀ r, 1 ≤ r → r ≤ 10 → bxA w i (nI kk) p q j r i = (if r = 1 then nI kk else if r = 2 then p else if r = 3 then q else if r = 6 then j else if r = 7 then 1 else 0) := fun r h1 h2 => by unfold bxA; rw [if_pos ⟨rfl, h1, h2⟩]
      rw [v 1 (by decide) (by decide), v 2 (by decide) (by decide), v 3 (by decide) (by decide), v 4 (by decide) (by decide), v 5 (by decide) (by decide), v 6 (by decide) (by decide), v 7 (by decide) (by decide), v 8 (by decide) (by decide), bxT_n]
      exact ⟨⟨kk, hk, rfl⟩, hp, hq, r0, r0, hj, ⟨1, by decide, by decide, rfl⟩, Or.inl rfl, fun l hl => Or.inl rfl⟩
    · exact (wiB_cg hB (fun r h1 h2 i hi => bxA_r (w := w) (nb := nb) (by omega) (by omega)) (fun i hi => bxT_r (by omega))) i (by omega)
  · exact wiS_cg hS (fun r h1 h2 i hi => bxA_r (by omega) (by omega)) (by omega)
  · exact wiD_cg hD (fun r h1 h2 i hi => bxA_r (by omega) (by omega))
  · have o1 : ∀ i, i < nb → bxA w nb (nI kk) p q j 21 i = w 21 i := fun i hi => bxA_r (by omega) (by omega)
    refine ⟨fun i hi => ?_, fun i i' hi hi' z => ?_⟩
    · by_cases e : i = nb
      · subst e; exact ⟨i, by omega, bxA_21⟩
      · obtain ⟨o, ho, eo⟩ := hO.1 i (by omega)
        exact ⟨o, by omega, by rw [o1 i (by omega)]; exact eo⟩
    · by_cases e : i = nb
      · by_cases e' : i' = nb
        · omega
        · subst e
          obtain ⟨o, ho, eo⟩ := hO.1 i' (by omega)
          rw [bxA_21, o1 i' (by omega), eo, nI_eq (by omega) (by omega)] at z
          omega
      · by_cases e' : i' = nb
        · subst e'
          obtain ⟨o, ho, eo⟩ := hO.1 i (by omega)
          rw [bxA_21, o1 i (by omega), eo, nI_eq (by omega) (by omega)] at z
          omega
        · rw [o1 i (by omega), o1 i' (by omega)] at z
          exact hO.2 i i' (by omega) (by omega) z
  · exact wiE_cg hE (fun r h1 h2 i hi => bxA_r (by omega) (by omega)) (by omega)
theorem bxA_C (hS : SP P) (hF : FND R1) (h : CW I R P 7 w t m nb ns ne) (hP1 : P1 = am_up P (am_pk (7 + 8 + nb) 0 1) 10 (am_pk 3 0 4)) (hw : wiv (bxA w nb k p q j) (bxT t nb) m (nb + 1) ns ne) (hA : ∀ r, 1 ≤ r → r ≤ 10 → R1 (7 + 8 + nb) (r - 1) = bxA w nb k p q j r nb) (hB : ∀ c, c ≠ 7 + 8 + nb → c ≠ 7 + 3 → c ≠ 7 + 4 → c ≠ 7 → R1 c = R c) (hC1 : R1 (7 + 3) nb = nI nb) (hC2 : ∀ i, i ≠ nb → R1 (7 + 3) i = R (7 + 3) i) (hD0 : R1 (7 + 4) (2 * nb) = -1) (hD1 : R1 (7 + 4) (2 * nb + 1) = -1) (hD2 : ∀ i, i < 2 * nb → R1 (7 + 4) i = R (7 + 4) i) (hE1 : R1 7 6 = nI (nb + 1)) (hE2 : ∀ i, i ≠ 6 → R1 7 i = R 7 i) : CW I R1 P1 7 (bxA w nb k p q j) (bxT t nb) m (nb + 1) ns ne := by
  have hle := h.le
  have hle2 : nb + 1 ≤ 7 := hw.1.2.2.2.2.1
  obtain ⟨n1, n2, n3⟩ := hw.cnt
  refine ⟨h.1, fun r c hrc => ?_, hw, fun i hi => ?_, fun x hx d hd => ?_⟩
  · have hok := hrc.ok ⟨by omega, by omega, by omega⟩
    rw [vC_rd hok]
    unfold wrl at hrc
    rw [n1, n2, n3] at hrc
    rcases hrc with ⟨rfl, hc⟩ | ⟨a1, a2, a3⟩ | ⟨a1, a2, a3⟩ | ⟨rfl, a3⟩ | ⟨a1, a2, a3⟩
    · show R1 7 c = _
      by_cases e : c = 6
      · subst e; rw [hE1, bxA_06]
      · rw [hE2 c e, bxA_r (by omega) (by omega)]; exact h.rs hc
    · rw [show aC 7 r c = (7 + 8 + c, r - 1) from by unfold aC; rw [if_neg (by omega), if_pos (by omega)]]
      by_cases e : c = nb
      · subst e; exact hA r a1 a2
      · rw [bxA_r (by omega) (by omega)]
        show R1 (7 + 8 + c) (r - 1) = _
        rw [hB _ (by omega) (by omega) (by omega) (by omega)]
        have := h.rb (i := c) (k := r - 1) (by omega) (by omega)
        rw [show r - 1 + 1 = r by omega] at this
        exact this
    · rw [show aC 7 r c = (7 + 15 + c, r - 11) from by unfold aC; rw [if_neg (by omega), if_neg (by omega), if_pos (by omega)], bxA_r (by omega) (by omega)]
      show R1 (7 + 15 + c) (r - 11) = _
      rw [hB _ (by omega) (by omega) (by omega) (by omega)]
      have := h.rm (i := c) (k := r - 11) (by omega) (by omega)
      rw [show r - 11 + 11 = r by omega] at this
      exact this
    · show R1 (7 + 3) c = _
      by_cases e : c = nb
      · subst e; rw [hC1, bxA_21]
      · rw [hC2 c e, bxA_r (by omega) (by omega)]; exact h.ro (by omega)
    · rw [show aC 7 r c = (7 + (r - 17), c) from by unfold aC; rw [if_neg (by omega), if_neg (by omega), if_neg (by omega), if_neg (by omega)], bxA_r (by omega) (by omega)]
      show R1 (7 + (r - 17)) c = _
      rw [hB _ (by omega) (by omega) (by omega) (by omega)]
      have := h.re (i := c) (k := r - 22) (by omega) (by omega)
      rw [show 7 + 5 + (r - 22) = 7 + (r - 17) by omega, show 22 + (r - 22) = r by omega] at this
      exact this
  · subst hP1
    have hkeep : ∀ a k, am_t a ≠ 1 → am_up P (am_pk (7 + 8 + nb) 0 1) 10 (am_pk 3 0 4) a k = P a k := fun a k ha => am_up_ne (fun z => ha (by rw [z]; exact am_t_pk (by decide)))
    by_cases e : i = nb
    · subst e
      rw [am_up_eq, bxT_n]
      exact (pln hS hF).keptP hkeep
    · rw [am_up_ne (bx_ne (by omega)), bxT_r e]
      exact ((h.2.2.2.1 i (by omega)).kept (put_okcl (fun c hc => hB c (by omega) (by omega) (by omega) (by omega)))).keptP hkeep
  · by_cases e : x = nb
    · subst e
      rw [sinF_all ns 0 (fun s h1 h2 z => ?_)]
      · rcases (show d = 0 ∨ d = 1 by omega) with rfl | rfl
        · exact hD0
        · exact hD1
      · rw [bxA_r (by omega) (by omega)] at z
        obtain ⟨-, -, ⟨tb, htb, e13⟩, -⟩ := h.2.2.1.2.2.1 s (by omega)
        rw [e13, nI_eq (by omega) (by omega)] at z
        omega
    · rw [hD2 _ (by omega), h.2.2.2.2 x (by omega) d hd]
      exact (sinF_cg ns 0 (fun s h1 h2 => ⟨bxA_r (by omega) (by omega), bxA_r (by omega) (by omega)⟩)).symm
theorem bxA_M (h : MW R1 w t m nb ns ne) (hw : wiv (bxA w nb k p q j) (bxT t nb) m (nb + 1) ns ne) (hA : ∀ r, 1 ≤ r → r ≤ 10 → R2 (aM r nb).1 (aM r nb).2 = bxA w nb k p q j r nb) (hO : R2 338 nb = nI nb) (hN : R2 332 0 = nI (nb + 1)) (hN2 : ∀ i, i ≠ 0 → R2 332 i = R1 332 i) (hB : ∀ c, 333 ≤ c → c ≤ 339 → ∀ i, i ≠ nb → R2 c i = R1 c i) (hD : ∀ c, 340 ≤ c → c ≤ 341 → ∀ i, i < 2 * nb → R2 c i = R1 c i) (hT : ∀ c, 342 ≤ c → c ≤ 343 → ∀ l, l < 4 → R2 c (4 * nb + l) = 0) (hT2 : ∀ c, 342 ≤ c → c ≤ 343 → ∀ i, i < 4 * nb → R2 c i = R1 c i) (hC : ∀ c, 344 ≤ c → c < 357 → R2 c = R1 c) : MW R2 (bxA w nb k p q j) (bxT t nb) m (nb + 1) ns ne := by
  have hle := h.le
  have hle2 : nb + 1 ≤ 7 := hw.1.2.2.2.2.1
  obtain ⟨n1, n2, n3⟩ := hw.cnt
  obtain ⟨p1, p2, p3⟩ := h.2.1.cnt
  refine ⟨fun r c hrc => ?_, hw, fun i hi l hl => ?_⟩
  · have hok := hrc.ok ⟨by omega, by omega, by omega⟩
    unfold wrl at hrc
    rw [n1, n2, n3] at hrc
    by_cases e : c = nb ∧ 1 ≤ r ∧ r ≤ 10
    · obtain ⟨rfl, e1, e2⟩ := e
      rw [vM_rd hok (by omega)]
      exact hA r e1 e2
    · by_cases e' : r = 21 ∧ c = nb
      · obtain ⟨rfl, rfl⟩ := e'
        rw [vM_rd hok (by omega), bxA_21]
        exact hO
      · by_cases e0 : r = 0 ∧ c = 6
        · obtain ⟨rfl, rfl⟩ := e0
          rw [vM_rd hok (by omega), bxA_06]
          exact hN
        · rw [bxA_r (by omega) e0]
          have old : wrl w r c := by unfold wrl; rw [p1, p2, p3]; omega
          rw [← h.1 r c old]
          have key : R2 (aM r c).1 (aM r c).2 = R1 (aM r c).1 (aM r c).2 := by
            unfold wrl at old
            rw [p1, p2, p3] at old
            by_cases hr0 : r = 0
            · subst hr0
              rcases (show c = 0 ∨ c = 1 ∨ c = 2 ∨ c = 3 ∨ c = 4 ∨ c = 5 ∨ c = 7 ∨ c = 8 by omega) with rfl | rfl | rfl | rfl | rfl | rfl | rfl | rfl <;> exact hN2 _ (by decide)
            · rcases (show r = 1 ∨ r = 2 ∨ r = 3 ∨ r = 4 ∨ r = 5 ∨ r = 6 ∨ r = 7 ∨ r = 8 ∨ r = 9 ∨ r = 10 ∨ r = 11 ∨ r = 12 ∨ r = 13 ∨ r = 14 ∨ r = 15 ∨ r = 16 ∨ r = 17 ∨ r = 18 ∨ r = 19 ∨ r = 20 ∨ r = 21 ∨ r = 22 ∨ r = 23 ∨ r = 24 by omega) with rfl | rfl | rfl | rfl | rfl | rfl | rfl | rfl | rfl | rfl | rfl | rfl | rfl | rfl | rfl | rfl | rfl | rfl | rfl | rfl | rfl | rfl | rfl | rfl
              · exact hB 333 (by decide) (by decide) c (by omega)
              · exact hB 334 (by decide) (by decide) c (by omega)
              · exact hB 335 (by decide) (by decide) c (by omega)
              · exact hD 340 (by decide) (by decide) (2 * c) (by omega)
              · exact hD 340 (by decide) (by decide) (2 * c + 1) (by omega)
              · exact hB 336 (by decide) (by decide) c (by omega)
              · exact hB 337 (by decide) (by decide) c (by omega)
              · exact hB 339 (by decide) (by decide) c (by omega)
              · exact hD 341 (by decide) (by decide) (2 * c) (by omega)
              · exact hD 341 (by decide) (by decide) (2 * c + 1) (by omega)
              · exact congrFun (hC 346 (by decide) (by decide)) c
              · exact congrFun (hC 346 (by decide) (by decide)) c
              · exact congrFun (hC 347 (by decide) (by decide)) c
              · exact congrFun (hC 347 (by decide) (by decide)) c
              · exact congrFun (hC 348 (by decide) (by decide)) c
              · exact congrFun (hC 349 (by decide) (by decide)) c
              · exact congrFun (hC 350 (by decide) (by decide)) c
              · exact congrFun (hC 351 (by decide) (by decide)) c
              · exact congrFun (hC 352 (by decide) (by decide)) c
              · exact congrFun (hC 353 (by decide) (by decide)) c
              · exact hB 338 (by decide) (by decide) c (by omega)
              · exact congrFun (hC 354 (by decide) (by decide)) c
              · exact congrFun (hC 355 (by decide) (by decide)) c
              · exact congrFun (hC 356 (by decide) (by decide)) c
          unfold vM
          rw [key]
  · by_cases e : i = nb
    · subst e
      rw [bxT_n]
      refine ⟨0, ?_, ?_, by simp, fun k hk => absurd hk (by simp)⟩
      · rw [hT 342 (by decide) (by decide) l hl]; rfl
      · rw [hT 343 (by decide) (by decide) l hl]; rfl
    · rw [bxT_r e]
      obtain ⟨f, f1, f2, f3, f4⟩ := h.2.2 i (by omega) l hl
      refine ⟨f, ?_, ?_, f3, fun k hk => ?_⟩
      · rw [hT2 342 (by decide) (by decide) _ (by omega)]; exact f1
      · rw [hT2 343 (by decide) (by decide) _ (by omega)]; exact f2
      · rw [hC 344 (by decide) (by decide), hC 345 (by decide) (by decide)]; exact f4 k hk
theorem m_b124 (hS : SP P) {x i : Nat} (hx : x < 7) (hi : i < 2) {ex : Nat → Int32 → am_M → Option (Int32 × am_M)} {r : Nat → Int32 → Int32 → am_M → Option (Int32 × am_M)} : fM_box_B124 P ex r (am_pk 330 0 13) (nI x) (nI i) (put I R) = r (am_pk 330 0 13) (nI x) (nI (i + 1)) (put I (am_up (am_up R 340 (2 * x + i) 0) 341 (2 * x + i) 0)) := by
  unfold fM_box_B124
  rw [if_neg (by rw [l_2, nI_leI (by omega) (by omega)]; omega)]
  simp (maxSteps := 1000000) (disch := first | omega | assumption) only [sm_bd, Option.bind_some, ck_tt, ck_in, ck_iw, ck_ia, ck_iz, ck_01, ck_in_0, ck_iw_0, cl_0, ck_in_1, ck_iw_1, cl_1, ck_in_2, ck_iw_2, cl_2, ck_in_3, ck_iw_3, cl_3, ck_in_4, ck_iw_4, cl_4, ck_in_5, ck_iw_5, cl_5, ck_in_6, ck_iw_6, cl_6, ck_in_7, ck_iw_7, cl_7, ck_in_8, ck_iw_8, cl_8, ck_in_9, ck_iw_9, cl_9, nI_clamp, lm_2, lm_4, lm_10, lm_14, lm_24, lm_80, lm_100, lm_1500, nI_add, nI_1, pk_m1, nI_pred, sp_330_0 hS, sp_330_1 hS, sp_330_2 hS, sp_330_3 hS, sp_330_4 hS, sp_330_5 hS, sp_330_6 hS, sp_330_7 hS, sp_330_8 hS, sp_330_9 hS, sp_330_10 hS, sp_330_11 hS, sp_330_12 hS, sp_330_13 hS, sp_330_14 hS, sp_330_15 hS, sp_330_16 hS, sp_330_17 hS, sp_330_18 hS, sp_330_19 hS, sp_330_20 hS, sp_330_21 hS, sp_330_22 hS, sp_330_23 hS, sp_330_24 hS, sp_330_25 hS, sp_330_26 hS, sp_330_30 hS, sp_330_31 hS, sp_330_33 hS, sp_330_34 hS, sp_330_35 hS, sp_330_36 hS, sp_330_41 hS, sp_330_42 hS, sp_330_43 hS, sp_330_44 hS, sp_330_47 hS, sp_330_48 hS, sp_330_49 hS, sp_330_51 hS, sp_330_52 hS, sp_330_54 hS, sp_330_55 hS, sp_330_56 hS, sp_330_57 hS, sp_330_58 hS, sp_330_61 hS, put_rd sc_330, put_up sc_330, put_rd sc_331, put_up sc_331, put_rd sc_332, put_up sc_332, put_rd sc_333, put_up sc_333, put_rd sc_334, put_up sc_334, put_rd sc_335, put_up sc_335, put_rd sc_336, put_up sc_336, put_rd sc_337, put_up sc_337, put_rd sc_338, put_up sc_338, put_rd sc_339, put_up sc_339, put_rd sc_340, put_up sc_340, put_rd sc_341, put_up sc_341, put_rd sc_342, put_up sc_342, put_rd sc_343, put_up sc_343, put_rd sc_344, put_up sc_344, put_rd sc_345, put_up sc_345, put_rd sc_346, put_up sc_346, put_rd sc_347, put_up sc_347, put_rd sc_348, put_up sc_348, put_rd sc_349, put_up sc_349, put_rd sc_350, put_up sc_350, put_rd sc_351, put_up sc_351, put_rd sc_352, put_up sc_352, put_rd sc_353, put_up sc_353, put_rd sc_354, put_up sc_354, put_rd sc_355, put_up sc_355, put_rd sc_356, put_up sc_356, put_rd sc_357, put_up sc_357, put_rd sc_358, put_up sc_358, put_rd sc_359, put_up sc_359, put_rd sc_360, put_up sc_360, put_rd sc_361, put_up sc_361, put_rd sc_362, put_up sc_362, put_rd sc_363, put_up sc_363, put_rd sc_364, put_up sc_364, put_rd sc_365, put_up sc_365, put_rd sc_366, put_up sc_366, put_rd sc_367, put_up sc_367, put_rd sc_368, put_up sc_368, put_rd sc_369, put_up sc_369, put_rd sc_370, put_up sc_370, put_rd sc_371, put_up sc_371, put_rd sc_372, put_up sc_372, put_rd sc_373, put_up sc_373, put_rd sc_374, put_up sc_374, put_rd sc_375, put_up sc_375, put_rd sc_376, put_up sc_376, put_rd sc_377, put_up sc_377, put_rd sc_378, put_up sc_378]
theorem m_b165 (hS : SP P) {x i : Nat} (hx : x < 7) (hi : i < 4) {ex : Nat → Int32 → am_M → Option (Int32 × am_M)} {r : Nat → Int32 → Int32 → am_M → Option (Int32 × am_M)} : fM_box_B165 P ex r (am_pk 330 0 13) (nI x) (nI i) (put I R) = r (am_pk 330 0 13) (nI x) (nI (i + 1)) (put I (am_up (am_up R 342 (4 * x + i) 0) 343 (4 * x + i) 0)) := by
  unfold fM_box_B165
  rw [if_neg (by rw [l_4, nI_leI (by omega) (by omega)]; omega)]
  simp (maxSteps := 1000000) (disch := first | omega | assumption) only [sm_bd, Option.bind_some, ck_tt, ck_in, ck_iw, ck_ia, ck_iz, ck_01, ck_in_0, ck_iw_0, cl_0, ck_in_1, ck_iw_1, cl_1, ck_in_2, ck_iw_2, cl_2, ck_in_3, ck_iw_3, cl_3, ck_in_4, ck_iw_4, cl_4, ck_in_5, ck_iw_5, cl_5, ck_in_6, ck_iw_6, cl_6, ck_in_7, ck_iw_7, cl_7, ck_in_8, ck_iw_8, cl_8, ck_in_9, ck_iw_9, cl_9, nI_clamp, lm_2, lm_4, lm_10, lm_14, lm_24, lm_80, lm_100, lm_1500, nI_add, nI_1, pk_m1, nI_pred, sp_330_0 hS, sp_330_1 hS, sp_330_2 hS, sp_330_3 hS, sp_330_4 hS, sp_330_5 hS, sp_330_6 hS, sp_330_7 hS, sp_330_8 hS, sp_330_9 hS, sp_330_10 hS, sp_330_11 hS, sp_330_12 hS, sp_330_13 hS, sp_330_14 hS, sp_330_15 hS, sp_330_16 hS, sp_330_17 hS, sp_330_18 hS, sp_330_19 hS, sp_330_20 hS, sp_330_21 hS, sp_330_22 hS, sp_330_23 hS, sp_330_24 hS, sp_330_25 hS, sp_330_26 hS, sp_330_30 hS, sp_330_31 hS, sp_330_33 hS, sp_330_34 hS, sp_330_35 hS, sp_330_36 hS, sp_330_41 hS, sp_330_42 hS, sp_330_43 hS, sp_330_44 hS, sp_330_47 hS, sp_330_48 hS, sp_330_49 hS, sp_330_51 hS, sp_330_52 hS, sp_330_54 hS, sp_330_55 hS, sp_330_56 hS, sp_330_57 hS, sp_330_58 hS, sp_330_61 hS, put_rd sc_330, put_up sc_330, put_rd sc_331, put_up sc_331, put_rd sc_332, put_up sc_332, put_rd sc_333, put_up sc_333, put_rd sc_334, put_up sc_334, put_rd sc_335, put_up sc_335, put_rd sc_336, put_up sc_336, put_rd sc_337, put_up sc_337, put_rd sc_338, put_up sc_338, put_rd sc_339, put_up sc_339, put_rd sc_340, put_up sc_340, put_rd sc_341, put_up sc_341, put_rd sc_342, put_up sc_342, put_rd sc_343, put_up sc_343, put_rd sc_344, put_up sc_344, put_rd sc_345, put_up sc_345, put_rd sc_346, put_up sc_346, put_rd sc_347, put_up sc_347, put_rd sc_348, put_up sc_348, put_rd sc_349, put_up sc_349, put_rd sc_350, put_up sc_350, put_rd sc_351, put_up sc_351, put_rd sc_352, put_up sc_352, put_rd sc_353, put_up sc_353, put_rd sc_354, put_up sc_354, put_rd sc_355, put_up sc_355, put_rd sc_356, put_up sc_356, put_rd sc_357, put_up sc_357, put_rd sc_358, put_up sc_358, put_rd sc_359, put_up sc_359, put_rd sc_360, put_up sc_360, put_rd sc_361, put_up sc_361, put_rd sc_362, put_up sc_362, put_rd sc_363, put_up sc_363, put_rd sc_364, put_up sc_364, put_rd sc_365, put_up sc_365, put_rd sc_366, put_up sc_366, put_rd sc_367, put_up sc_367, put_rd sc_368, put_up sc_368, put_rd sc_369, put_up sc_369, put_rd sc_370, put_up sc_370, put_rd sc_371, put_up sc_371, put_rd sc_372, put_up sc_372, put_rd sc_373, put_up sc_373, put_rd sc_374, put_up sc_374, put_rd sc_375, put_up sc_375, put_rd sc_376, put_up sc_376, put_rd sc_377, put_up sc_377, put_rd sc_378, put_up sc_378]
set_option maxHeartbeats 4000000 in
theorem op_box (h : INV I R P nx w t m nb ns ne) {a b c : Int32} : OK2 I R P nx sl (fX_box (am_pk 2 0 12) a b c) (fun Q => fM_box Q (am_pk 330 0 13) a b c) := by
  have hS := h.sp
  have hb := W7
  have hle := h.mw.le
  by_cases hK : 0 ≤ a ∧ a < 6
  · by_cases hP : isPr m b
    · by_cases hV : 0 ≤ c ∧ c < nI m
      · by_cases h3 : nI nb < 7
        · obtain ⟨kk, hkk, rfl⟩ := ran_ix (n := 6) hK (by decide)
          have hn : nb < 7 := by rw [l_7, nI_ltI (by omega) (by decide)] at h3; exact h3
          have hw := bxA_w (p := b / 100) (q := sm_rem b 100) (j := c) h.mw.2.1 hn hkk hP.2.1 hP.2.2 hV
          have hS1 : SP (am_up P (am_pk (7 + 8 + nb) 0 1) 10 (am_pk 3 0 4)) := hS.kept (fun a k ha => am_up_ne (fun z => ha (by rw [z]; exact am_t_pk (by decide))))
          have f1 : fr 7 R (am_up (am_up (am_up (am_up (am_up (am_up (am_up (am_up (am_up (am_up (am_up (am_up (am_up (am_up R (7 + 8 + nb) 0 (nI kk)) (7 + 8 + nb) 5 c) (7 + 8 + nb) 1 (b / 100)) (7 + 8 + nb) 2 (sm_rem b 100)) (7 + 8 + nb) 3 0) (7 + 8 + nb) 4 0) (7 + 8 + nb) 6 1) (7 + 8 + nb) 7 0) (7 + 8 + nb) 8 0) (7 + 8 + nb) 9 0) (7 + 3) nb (nI nb)) (7 + 4) (2 * nb) (-1)) (7 + 4) (2 * nb + 1) (-1)) 7 6 (nI (nb + 1))) := (fr.up (by omega)).tr ((fr.up (by omega)).tr ((fr.up (by omega)).tr ((fr.up (by omega)).tr ((fr.up (by omega)).tr ((fr.up (by omega)).tr ((fr.up (by omega)).tr ((fr.up (by omega)).tr ((fr.up (by omega)).tr ((fr.up (by omega)).tr ((fr.up (by omega)).tr ((fr.up (by omega)).tr ((fr.up (by omega)).tr (fr.up (by omega))))))))))))))
          have hM := h.mw1 f1
          have hF1 : FND (am_up (am_up (am_up (am_up (am_up (am_up (am_up (am_up (am_up (am_up (am_up (am_up (am_up (am_up R (7 + 8 + nb) 0 (nI kk)) (7 + 8 + nb) 5 c) (7 + 8 + nb) 1 (b / 100)) (7 + 8 + nb) 2 (sm_rem b 100)) (7 + 8 + nb) 3 0) (7 + 8 + nb) 4 0) (7 + 8 + nb) 6 1) (7 + 8 + nb) 7 0) (7 + 8 + nb) 8 0) (7 + 8 + nb) 9 0) (7 + 3) nb (nI nb)) (7 + 4) (2 * nb) (-1)) (7 + 4) (2 * nb + 1) (-1)) 7 6 (nI (nb + 1))) := h.1.2.1.k (f1 329 (by decide) (by decide)) (f1 331 (by decide) (by decide)) (f1 5 (by decide) (by decide))
          have c1 : CW I (am_up (am_up (am_up (am_up (am_up (am_up (am_up (am_up (am_up (am_up (am_up (am_up (am_up (am_up R (7 + 8 + nb) 0 (nI kk)) (7 + 8 + nb) 5 c) (7 + 8 + nb) 1 (b / 100)) (7 + 8 + nb) 2 (sm_rem b 100)) (7 + 8 + nb) 3 0) (7 + 8 + nb) 4 0) (7 + 8 + nb) 6 1) (7 + 8 + nb) 7 0) (7 + 8 + nb) 8 0) (7 + 8 + nb) 9 0) (7 + 3) nb (nI nb)) (7 + 4) (2 * nb) (-1)) (7 + 4) (2 * nb + 1) (-1)) 7 6 (nI (nb + 1))) (am_up P (am_pk (7 + 8 + nb) 0 1) 10 (am_pk 3 0 4)) 7 (bxA w nb (nI kk) (b / 100) (sm_rem b 100) c) (bxT t nb) m (nb + 1) ns ne := by
            refine bxA_C hS hF1 h.cw rfl hw (fun r h1 h2 => ?_) (fun c' g1 g2 g3 g4 => ?_) ?_ (fun i hi => ?_) ?_ ?_ (fun i hi => ?_) am_up_eq (fun i hi => ?_)
            · have hv : bxA w nb (nI kk) (b / 100) (sm_rem b 100) c r nb = (if r = 1 then nI kk else if r = 2 then b / 100 else if r = 3 then sm_rem b 100 else if r = 6 then c else if r = 7 then 1 else 0) := by unfold bxA; rw [if_pos ⟨rfl, h1, h2⟩]
              rw [hv]
              rcases (show r = 1 ∨ r = 2 ∨ r = 3 ∨ r = 4 ∨ r = 5 ∨ r = 6 ∨ r = 7 ∨ r = 8 ∨ r = 9 ∨ r = 10 by omega) with rfl | rfl | rfl | rfl | rfl | rfl | rfl | rfl | rfl | rfl <;> simp (disch := omega) only [am_up_eq, am_up_ne, am_up_nk] <;> rfl
            · funext k
              simp only [am_up_ne g1, am_up_ne g2, am_up_ne g3, am_up_ne g4]
            · simp (disch := omega) only [am_up_eq, am_up_ne, am_up_nk]
            · simp (disch := omega) only [am_up_eq, am_up_ne, am_up_nk]
            · simp (disch := omega) only [am_up_eq, am_up_ne, am_up_nk]
            · simp (disch := omega) only [am_up_eq, am_up_ne, am_up_nk]
            · simp (disch := omega) only [am_up_eq, am_up_ne, am_up_nk]
            · simp (disch := omega) only [am_up_eq, am_up_ne, am_up_nk]
          have hx : fX_box (am_pk 2 0 12) (nI kk) b c (put I R) P nx sl = some (nI nb, put I (am_up (am_up (am_up (am_up (am_up (am_up (am_up (am_up (am_up (am_up (am_up (am_up (am_up (am_up R (7 + 8 + nb) 0 (nI kk)) (7 + 8 + nb) 5 c) (7 + 8 + nb) 1 (b / 100)) (7 + 8 + nb) 2 (sm_rem b 100)) (7 + 8 + nb) 3 0) (7 + 8 + nb) 4 0) (7 + 8 + nb) 6 1) (7 + 8 + nb) 7 0) (7 + 8 + nb) 8 0) (7 + 8 + nb) 9 0) (7 + 3) nb (nI nb)) (7 + 4) (2 * nb) (-1)) (7 + 4) (2 * nb + 1) (-1)) 7 6 (nI (nb + 1))), am_up P (am_pk (7 + 8 + nb) 0 1) 10 (am_pk 3 0 4), nx, sl) := by
            have e6 : (am_up (am_up (am_up (am_up (am_up (am_up (am_up (am_up (am_up (am_up (am_up (am_up (am_up R (7 + 8 + nb) 0 (nI kk)) (7 + 8 + nb) 5 c) (7 + 8 + nb) 1 (b / 100)) (7 + 8 + nb) 2 (sm_rem b 100)) (7 + 8 + nb) 3 0) (7 + 8 + nb) 4 0) (7 + 8 + nb) 6 1) (7 + 8 + nb) 7 0) (7 + 8 + nb) 8 0) (7 + 8 + nb) 9 0) (7 + 3) nb (nI nb)) (7 + 4) (2 * nb) (-1)) (7 + 4) (2 * nb + 1) (-1)) 7 6 = nI nb := by rw [am_up_ne (by omega), am_up_ne (by omega), am_up_ne (by omega), am_up_ne (by omega), am_up_ne (by omega), am_up_ne (by omega), am_up_ne (by omega), am_up_ne (by omega), am_up_ne (by omega), am_up_ne (by omega), am_up_ne (by omega), am_up_ne (by omega), am_up_ne (by omega)]; exact h.cw.c6
            unfold fX_box
            simp (maxSteps := 1000000) (disch := first | omega | assumption) only [sm_bd, Option.bind_some, ck_tt, ck_in, ck_iw, ck_ia, ck_iz, ck_01, ck_in_0, ck_iw_0, cl_0, ck_in_1, ck_iw_1, cl_1, ck_in_2, ck_iw_2, cl_2, ck_in_3, ck_iw_3, cl_3, ck_in_4, ck_iw_4, cl_4, ck_in_5, ck_iw_5, cl_5, ck_in_6, ck_iw_6, cl_6, ck_in_7, ck_iw_7, cl_7, ck_in_8, ck_iw_8, cl_8, ck_in_9, ck_iw_9, cl_9, nI_clamp, lm_2, lm_4, lm_10, lm_14, lm_24, lm_80, lm_100, lm_1500, nI_add, nI_1, pk_m1, nI_pred, sp_2_0 hS, sp_2_1 hS, sp_2_2 hS, sp_2_3 hS, sp_2_5 hS, sp_2_6 hS, sp_2_7 hS, sp_2_8 hS, sp_2_9 hS, sp_2_10 hS, sp_2_11 hS, sp_2_12 hS, sp_2_13 hS, sp_2_14 hS, sp_3_0 hS, sp_3_1 hS, sp_3_2 hS, sp_123_0 hS, sp_299_0 hS, sp_299_2 hS, sp_299_4 hS, sp_299_6 hS, sp_299_7 hS, sp_306_0 hS, sp_308_0 hS, sp_308_1 hS, sp_308_2 hS, sp_311_0 hS, sp_311_1 hS, sp_311_3 hS, sp_314_0 hS, sp_314_1 hS, sp_314_2 hS, sp_314_3 hS, sp_314_4 hS, sp_321_0 hS, sp_323_0 hS, sp_325_0 hS, sp_327_0 hS, put_rd sc_2, put_up sc_2, put_rd sc_123, put_up sc_123, put_rd sc_299, put_up sc_299, put_rd sc_300, put_up sc_300, put_rd sc_301, put_up sc_301, put_rd sc_302, put_up sc_302, put_rd sc_303, put_up sc_303, put_rd sc_304, put_up sc_304, put_rd sc_305, put_up sc_305, put_rd sc_306, put_up sc_306, put_rd sc_307, put_up sc_307, put_rd sc_308, put_up sc_308, put_rd sc_309, put_up sc_309, put_rd sc_310, put_up sc_310, put_rd sc_311, put_up sc_311, put_rd sc_312, put_up sc_312, put_rd sc_313, put_up sc_313, put_rd sc_314, put_up sc_314, put_rd sc_315, put_up sc_315, put_rd sc_316, put_up sc_316, put_rd sc_317, put_up sc_317, put_rd sc_318, put_up sc_318, put_rd sc_319, put_up sc_319, put_rd sc_320, put_up sc_320, put_rd sc_321, put_up sc_321, put_rd sc_322, put_up sc_322, put_rd sc_323, put_up sc_323, put_rd sc_324, put_up sc_324, put_rd sc_325, put_up sc_325, put_rd sc_326, put_up sc_326, put_rd sc_327, put_up sc_327, put_rd sc_328, put_up sc_328, put_rd sc_329, put_up sc_329, sp_w9 hS hb, sp_w10 hS hb, sp_w11 hS hb, sp_w12 hS hb, sp_w13 hS hb, sp_w14 hS hb, sp_w15 hS hb, put_rd (sc_w0 hb), put_up (sc_w0 hb), put_rd (sc_w3 hb), put_up (sc_w3 hb), put_rd (sc_w4 hb), put_up (sc_w4 hb), put_rd (sc_w5 hb), put_up (sc_w5 hb), put_rd (sc_w6 hb), put_up (sc_w6 hb), put_rd (sc_w7 hb), put_up (sc_w7 hb), h.cw.hasBox, h.cw.hasSeam, h.cw.isNum, h.cw.isPair, h.cw.isEnd, h_isKind, h_isDoor, h_isRule, h_isSheet, bI_if, bI_ifn, x_f1 hS, x_f2 hS, x_f3 hS, x_f4 hS, x_f5 hS, x_f6 hS, x_f7 hS, if_pos hK, if_pos hP, if_pos hV, h.cw.c6, if_pos h3, fW_addBox, fB_begin, fB_tellStates, sp_bx hS hb, put_up (sc_bx hb hn), sp_w11 hS1 hb, sp_w12 hS1 hb, e6]
          generalize hR1 : am_up (am_up (am_up (am_up (am_up (am_up (am_up (am_up (am_up (am_up (am_up (am_up (am_up (am_up R (7 + 8 + nb) 0 (nI kk)) (7 + 8 + nb) 5 c) (7 + 8 + nb) 1 (b / 100)) (7 + 8 + nb) 2 (sm_rem b 100)) (7 + 8 + nb) 3 0) (7 + 8 + nb) 4 0) (7 + 8 + nb) 6 1) (7 + 8 + nb) 7 0) (7 + 8 + nb) 8 0) (7 + 8 + nb) 9 0) (7 + 3) nb (nI nb)) (7 + 4) (2 * nb) (-1)) (7 + 4) (2 * nb + 1) (-1)) 7 6 (nI (nb + 1)) = R1 at *
          obtain ⟨R2, e2⟩ : ∃ R2, R2 = am_up (am_up (am_up (am_up (am_up (am_up (am_up (am_up (am_up (am_up (am_up (am_up (am_up (am_up (am_up (am_up (am_up (am_up (am_up (am_up R1 333 nb (nI kk)) 334 nb (b / 100)) 335 nb (sm_rem b 100)) 336 nb c) 337 nb 1) 338 nb (nI nb)) 339 nb 0) 340 (2 * nb + 0) 0) 341 (2 * nb + 0) 0) 340 (2 * nb + 1) 0) 341 (2 * nb + 1) 0) 342 (4 * nb + 0) 0) 343 (4 * nb + 0) 0) 342 (4 * nb + 1) 0) 343 (4 * nb + 1) 0) 342 (4 * nb + 2) 0) 343 (4 * nb + 2) 0) 342 (4 * nb + 3) 0) 343 (4 * nb + 3) 0) 332 0 (nI (nb + 1)) := ⟨_, rfl⟩
          have m1 : MW R2 (bxA w nb (nI kk) (b / 100) (sm_rem b 100) c) (bxT t nb) m (nb + 1) ns ne := by
            refine bxA_M hM hw (fun r h1 h2 => ?_) ?_ ?_ (fun i hi => ?_) (fun c' g1 g2 i hi => ?_) (fun c' g1 g2 i hi => ?_) (fun c' g1 g2 l hl => ?_) (fun c' g1 g2 i hi => ?_) (fun c' g1 g2 => ?_)
            · have hv : bxA w nb (nI kk) (b / 100) (sm_rem b 100) c r nb = (if r = 1 then nI kk else if r = 2 then b / 100 else if r = 3 then sm_rem b 100 else if r = 6 then c else if r = 7 then 1 else 0) := by unfold bxA; rw [if_pos ⟨rfl, h1, h2⟩]
              rw [hv, e2]
              have z0 : 2 * nb = 2 * nb + 0 := rfl
              rcases (show r = 1 ∨ r = 2 ∨ r = 3 ∨ r = 4 ∨ r = 5 ∨ r = 6 ∨ r = 7 ∨ r = 8 ∨ r = 9 ∨ r = 10 by omega) with rfl | rfl | rfl | rfl | rfl | rfl | rfl | rfl | rfl | rfl
              · show am_up _ _ _ _ 333 nb = nI kk; simp (disch := omega) only [am_up_eq, am_up_ne, am_up_nk]
              · show am_up _ _ _ _ 334 nb = b / 100; simp (disch := omega) only [am_up_eq, am_up_ne, am_up_nk]
              · show am_up _ _ _ _ 335 nb = sm_rem b 100; simp (disch := omega) only [am_up_eq, am_up_ne, am_up_nk]
              · show am_up _ _ _ _ 340 (2 * nb + 0) = 0; simp (disch := omega) only [am_up_eq, am_up_ne, am_up_nk]
              · show am_up _ _ _ _ 340 (2 * nb + 1) = 0; simp (disch := omega) only [am_up_eq, am_up_ne, am_up_nk]
              · show am_up _ _ _ _ 336 nb = c; simp (disch := omega) only [am_up_eq, am_up_ne, am_up_nk]
              · show am_up _ _ _ _ 337 nb = 1; simp (disch := omega) only [am_up_eq, am_up_ne, am_up_nk]
              · show am_up _ _ _ _ 339 nb = 0; simp (disch := omega) only [am_up_eq, am_up_ne, am_up_nk]
              · show am_up _ _ _ _ 341 (2 * nb + 0) = 0; simp (disch := omega) only [am_up_eq, am_up_ne, am_up_nk]
              · show am_up _ _ _ _ 341 (2 * nb + 1) = 0; simp (disch := omega) only [am_up_eq, am_up_ne, am_up_nk]
            · rw [e2]; simp (disch := omega) only [am_up_eq, am_up_ne, am_up_nk]
            · rw [e2, am_up_eq]
            · rw [e2]; simp (disch := omega) only [am_up_eq, am_up_ne, am_up_nk]
            · rw [e2]; simp (disch := omega) only [am_up_eq, am_up_ne, am_up_nk]
            · rw [e2]; simp (disch := omega) only [am_up_eq, am_up_ne, am_up_nk]
            · rw [e2]
              rcases (show c' = 342 ∨ c' = 343 by omega) with rfl | rfl
              · rcases (show l = 0 ∨ l = 1 ∨ l = 2 ∨ l = 3 by omega) with rfl | rfl | rfl | rfl <;> simp (disch := omega) only [am_up_eq, am_up_ne, am_up_nk]
              · rcases (show l = 0 ∨ l = 1 ∨ l = 2 ∨ l = 3 by omega) with rfl | rfl | rfl | rfl <;> simp (disch := omega) only [am_up_eq, am_up_ne, am_up_nk]
            · rw [e2]; simp (disch := omega) only [am_up_eq, am_up_ne, am_up_nk]
            · rw [e2]; funext k; simp (disch := omega) only [am_up_ne]
          have f2 : ∀ c', (c' < 332 ∨ 357 ≤ c') → R2 c' = R1 c' := fun c' hc' => by rw [e2]; funext k; simp (disch := omega) only [am_up_ne]
          have hm : fM_box (am_up P (am_pk (7 + 8 + nb) 0 1) 10 (am_pk 3 0 4)) (am_pk 330 0 13) (nI kk) b c (put I R1) = some (nI nb, put I R2) := by
            clear hx
            have hS := hS1
            unfold fM_box
            simp (maxSteps := 1000000) (disch := first | omega | assumption) only [sm_bd, Option.bind_some, ck_tt, ck_in, ck_iw, ck_ia, ck_iz, ck_01, ck_in_0, ck_iw_0, cl_0, ck_in_1, ck_iw_1, cl_1, ck_in_2, ck_iw_2, cl_2, ck_in_3, ck_iw_3, cl_3, ck_in_4, ck_iw_4, cl_4, ck_in_5, ck_iw_5, cl_5, ck_in_6, ck_iw_6, cl_6, ck_in_7, ck_iw_7, cl_7, ck_in_8, ck_iw_8, cl_8, ck_in_9, ck_iw_9, cl_9, nI_clamp, lm_2, lm_4, lm_10, lm_14, lm_24, lm_80, lm_100, lm_1500, nI_add, nI_1, pk_m1, nI_pred, sp_330_0 hS, sp_330_1 hS, sp_330_2 hS, sp_330_3 hS, sp_330_4 hS, sp_330_5 hS, sp_330_6 hS, sp_330_7 hS, sp_330_8 hS, sp_330_9 hS, sp_330_10 hS, sp_330_11 hS, sp_330_12 hS, sp_330_13 hS, sp_330_14 hS, sp_330_15 hS, sp_330_16 hS, sp_330_17 hS, sp_330_18 hS, sp_330_19 hS, sp_330_20 hS, sp_330_21 hS, sp_330_22 hS, sp_330_23 hS, sp_330_24 hS, sp_330_25 hS, sp_330_26 hS, sp_330_30 hS, sp_330_31 hS, sp_330_33 hS, sp_330_34 hS, sp_330_35 hS, sp_330_36 hS, sp_330_41 hS, sp_330_42 hS, sp_330_43 hS, sp_330_44 hS, sp_330_47 hS, sp_330_48 hS, sp_330_49 hS, sp_330_51 hS, sp_330_52 hS, sp_330_54 hS, sp_330_55 hS, sp_330_56 hS, sp_330_57 hS, sp_330_58 hS, sp_330_61 hS, put_rd sc_330, put_up sc_330, put_rd sc_331, put_up sc_331, put_rd sc_332, put_up sc_332, put_rd sc_333, put_up sc_333, put_rd sc_334, put_up sc_334, put_rd sc_335, put_up sc_335, put_rd sc_336, put_up sc_336, put_rd sc_337, put_up sc_337, put_rd sc_338, put_up sc_338, put_rd sc_339, put_up sc_339, put_rd sc_340, put_up sc_340, put_rd sc_341, put_up sc_341, put_rd sc_342, put_up sc_342, put_rd sc_343, put_up sc_343, put_rd sc_344, put_up sc_344, put_rd sc_345, put_up sc_345, put_rd sc_346, put_up sc_346, put_rd sc_347, put_up sc_347, put_rd sc_348, put_up sc_348, put_rd sc_349, put_up sc_349, put_rd sc_350, put_up sc_350, put_rd sc_351, put_up sc_351, put_rd sc_352, put_up sc_352, put_rd sc_353, put_up sc_353, put_rd sc_354, put_up sc_354, put_rd sc_355, put_up sc_355, put_rd sc_356, put_up sc_356, put_rd sc_357, put_up sc_357, put_rd sc_358, put_up sc_358, put_rd sc_359, put_up sc_359, put_rd sc_360, put_up sc_360, put_rd sc_361, put_up sc_361, put_rd sc_362, put_up sc_362, put_rd sc_363, put_up sc_363, put_rd sc_364, put_up sc_364, put_rd sc_365, put_up sc_365, put_rd sc_366, put_up sc_366, put_rd sc_367, put_up sc_367, put_rd sc_368, put_up sc_368, put_rd sc_369, put_up sc_369, put_rd sc_370, put_up sc_370, put_rd sc_371, put_up sc_371, put_rd sc_372, put_up sc_372, put_rd sc_373, put_up sc_373, put_rd sc_374, put_up sc_374, put_rd sc_375, put_up sc_375, put_rd sc_376, put_up sc_376, put_rd sc_377, put_up sc_377, put_rd sc_378, put_up sc_378, hM.isB hS, hM.isSm hS, hM.isP hS, hM.isPr hS, hM.isEnd hS, h_w05, h_w01, h_w02, h_w03, bI_if, bI_ifn, m_f1 hS, m_f2 hS, m_f3 hS, m_f4 hS, m_f5 hS, m_f6 hS, m_f7 hS, if_pos hK, if_pos hP, if_pos hV, hM.n0, if_pos (show ¬ nI nb = 7 by rw [l_7, nI_eq (by omega) (by decide)]; omega)]
            rw [show sm_fu = 19995 + 1 + 1 + 1 + 1 + 1 from rfl]
            show fM_box_B124 _ _ _ _ _ (nI 0) _ = _
            rw [m_b124 hS hn (by decide)]
            show fM_box_B124 _ _ _ _ _ (nI 1) _ = _
            rw [m_b124 hS hn (by decide)]
            show fM_box_B124 _ _ _ _ _ (nI 2) _ = _
            unfold fM_box_B124
            rw [if_pos (by decide)]
            show fM_box_B165 _ _ _ _ _ (nI 0) _ = _
            rw [m_b165 hS hn (by decide)]
            show fM_box_B165 _ _ _ _ _ (nI 1) _ = _
            rw [m_b165 hS hn (by decide)]
            show fM_box_B165 _ _ _ _ _ (nI 2) _ = _
            rw [m_b165 hS hn (by decide)]
            show fM_box_B165 _ _ _ _ _ (nI 3) _ = _
            rw [m_b165 hS hn (by decide)]
            show fM_box_B165 _ _ _ _ _ (nI 4) _ = _
            unfold fM_box_B165
            rw [if_pos (by decide)]
            have e0 : (am_up (am_up (am_up (am_up (am_up (am_up (am_up (am_up (am_up (am_up (am_up (am_up (am_up (am_up (am_up (am_up (am_up (am_up (am_up R1 333 nb (nI kk)) 334 nb (b / 100)) 335 nb (sm_rem b 100)) 336 nb c) 337 nb 1) 338 nb (nI nb)) 339 nb 0) 340 (2 * nb + 0) 0) 341 (2 * nb + 0) 0) 340 (2 * nb + 1) 0) 341 (2 * nb + 1) 0) 342 (4 * nb + 0) 0) 343 (4 * nb + 0) 0) 342 (4 * nb + 1) 0) 343 (4 * nb + 1) 0) 342 (4 * nb + 2) 0) 343 (4 * nb + 2) 0) 342 (4 * nb + 3) 0) 343 (4 * nb + 3) 0) 332 0 = nI nb := by rw [am_up_ne (by decide), am_up_ne (by decide), am_up_ne (by decide), am_up_ne (by decide), am_up_ne (by decide), am_up_ne (by decide), am_up_ne (by decide), am_up_ne (by decide), am_up_ne (by decide), am_up_ne (by decide), am_up_ne (by decide), am_up_ne (by decide), am_up_ne (by decide), am_up_ne (by decide), am_up_ne (by decide), am_up_ne (by decide), am_up_ne (by decide), am_up_ne (by decide), am_up_ne (by decide)]; exact hM.n0
            simp (maxSteps := 1000000) (disch := first | omega | assumption) only [sm_bd, Option.bind_some, ck_tt, ck_in, ck_iw, ck_ia, ck_iz, ck_01, ck_in_0, ck_iw_0, cl_0, ck_in_1, ck_iw_1, cl_1, ck_in_2, ck_iw_2, cl_2, ck_in_3, ck_iw_3, cl_3, ck_in_4, ck_iw_4, cl_4, ck_in_5, ck_iw_5, cl_5, ck_in_6, ck_iw_6, cl_6, ck_in_7, ck_iw_7, cl_7, ck_in_8, ck_iw_8, cl_8, ck_in_9, ck_iw_9, cl_9, nI_clamp, lm_2, lm_4, lm_10, lm_14, lm_24, lm_80, lm_100, lm_1500, nI_add, nI_1, pk_m1, nI_pred, sp_330_0 hS, sp_330_1 hS, sp_330_2 hS, sp_330_3 hS, sp_330_4 hS, sp_330_5 hS, sp_330_6 hS, sp_330_7 hS, sp_330_8 hS, sp_330_9 hS, sp_330_10 hS, sp_330_11 hS, sp_330_12 hS, sp_330_13 hS, sp_330_14 hS, sp_330_15 hS, sp_330_16 hS, sp_330_17 hS, sp_330_18 hS, sp_330_19 hS, sp_330_20 hS, sp_330_21 hS, sp_330_22 hS, sp_330_23 hS, sp_330_24 hS, sp_330_25 hS, sp_330_26 hS, sp_330_30 hS, sp_330_31 hS, sp_330_33 hS, sp_330_34 hS, sp_330_35 hS, sp_330_36 hS, sp_330_41 hS, sp_330_42 hS, sp_330_43 hS, sp_330_44 hS, sp_330_47 hS, sp_330_48 hS, sp_330_49 hS, sp_330_51 hS, sp_330_52 hS, sp_330_54 hS, sp_330_55 hS, sp_330_56 hS, sp_330_57 hS, sp_330_58 hS, sp_330_61 hS, put_rd sc_330, put_up sc_330, put_rd sc_331, put_up sc_331, put_rd sc_332, put_up sc_332, put_rd sc_333, put_up sc_333, put_rd sc_334, put_up sc_334, put_rd sc_335, put_up sc_335, put_rd sc_336, put_up sc_336, put_rd sc_337, put_up sc_337, put_rd sc_338, put_up sc_338, put_rd sc_339, put_up sc_339, put_rd sc_340, put_up sc_340, put_rd sc_341, put_up sc_341, put_rd sc_342, put_up sc_342, put_rd sc_343, put_up sc_343, put_rd sc_344, put_up sc_344, put_rd sc_345, put_up sc_345, put_rd sc_346, put_up sc_346, put_rd sc_347, put_up sc_347, put_rd sc_348, put_up sc_348, put_rd sc_349, put_up sc_349, put_rd sc_350, put_up sc_350, put_rd sc_351, put_up sc_351, put_rd sc_352, put_up sc_352, put_rd sc_353, put_up sc_353, put_rd sc_354, put_up sc_354, put_rd sc_355, put_up sc_355, put_rd sc_356, put_up sc_356, put_rd sc_357, put_up sc_357, put_rd sc_358, put_up sc_358, put_rd sc_359, put_up sc_359, put_rd sc_360, put_up sc_360, put_rd sc_361, put_up sc_361, put_rd sc_362, put_up sc_362, put_rd sc_363, put_up sc_363, put_rd sc_364, put_up sc_364, put_rd sc_365, put_up sc_365, put_rd sc_366, put_up sc_366, put_rd sc_367, put_up sc_367, put_rd sc_368, put_up sc_368, put_rd sc_369, put_up sc_369, put_rd sc_370, put_up sc_370, put_rd sc_371, put_up sc_371, put_rd sc_372, put_up sc_372, put_rd sc_373, put_up sc_373, put_rd sc_374, put_up sc_374, put_rd sc_375, put_up sc_375, put_rd sc_376, put_up sc_376, put_rd sc_377, put_up sc_377, put_rd sc_378, put_up sc_378, e0]
            rw [e2]
          have hL : LB (am_up P (am_pk (7 + 8 + nb) 0 1) 10 (am_pk 3 0 4)) nx := h.1.1.2.2.1.up (plnb hS h.1.1.2.2.2)
          have hR : ∀ c', (c' < 7 ∨ 36 ≤ c') → (c' < 332 ∨ 357 ≤ c') → c' ≠ 307 → R2 c' = R c' := fun c' g1 g2 g3 => (f2 c' g2).trans (f1 c' g1 g3)
          refine ⟨nI nb, I, R1, am_up P (am_pk (7 + 8 + nb) 0 1) 10 (am_pk 3 0 4), nx, sl, R2, hx, hm, h.mkP (fun c' hc' => hR c' (by unfold kpc at hc'; omega) (by unfold kpc at hc'; omega) (by unfold kpc at hc'; omega)) (fun k _ => by rw [hR 330 (by decide) (by decide) (by decide)]) (by rw [hR 299 (by decide) (by decide) (by decide)]) (fun i _ => by rw [hR 357 (by decide) (by decide) (by decide)]) (fun a k ha _ => am_up_ne (fun z => ha (by rw [z]; exact am_t_pk (by decide)))) (fun c' g1 g2 => am_up_ne (bx_ne (by omega))) frJ.rfl hL (Nat.le_refl _) ?_ (c1.fr (fun c' g1 g2 => f2 c' (by omega)) (fun c' g1 => f2 c' (by omega))) m1, frJ.rfl, Nat.le_refl _, by omega, by omega⟩
          obtain ⟨q, hq, eq⟩ := h.2.1
          exact ⟨q, hq, by rw [bxA_r (by omega) (by omega)]; exact eq⟩
        · refine h.fl2 (v := -1000002) (k := 1) (by decide) ?_ (fun R1 hM hc1 => ?_)
          · unfold fX_box
            simp (maxSteps := 1000000) (disch := first | omega | assumption) only [sm_bd, Option.bind_some, ck_tt, ck_in, ck_iw, ck_ia, ck_iz, ck_01, ck_in_0, ck_iw_0, cl_0, ck_in_1, ck_iw_1, cl_1, ck_in_2, ck_iw_2, cl_2, ck_in_3, ck_iw_3, cl_3, ck_in_4, ck_iw_4, cl_4, ck_in_5, ck_iw_5, cl_5, ck_in_6, ck_iw_6, cl_6, ck_in_7, ck_iw_7, cl_7, ck_in_8, ck_iw_8, cl_8, ck_in_9, ck_iw_9, cl_9, nI_clamp, lm_2, lm_4, lm_10, lm_14, lm_24, lm_80, lm_100, lm_1500, nI_add, nI_1, pk_m1, nI_pred, sp_2_0 hS, sp_2_1 hS, sp_2_2 hS, sp_2_3 hS, sp_2_5 hS, sp_2_6 hS, sp_2_7 hS, sp_2_8 hS, sp_2_9 hS, sp_2_10 hS, sp_2_11 hS, sp_2_12 hS, sp_2_13 hS, sp_2_14 hS, sp_3_0 hS, sp_3_1 hS, sp_3_2 hS, sp_123_0 hS, sp_299_0 hS, sp_299_2 hS, sp_299_4 hS, sp_299_6 hS, sp_299_7 hS, sp_306_0 hS, sp_308_0 hS, sp_308_1 hS, sp_308_2 hS, sp_311_0 hS, sp_311_1 hS, sp_311_3 hS, sp_314_0 hS, sp_314_1 hS, sp_314_2 hS, sp_314_3 hS, sp_314_4 hS, sp_321_0 hS, sp_323_0 hS, sp_325_0 hS, sp_327_0 hS, put_rd sc_2, put_up sc_2, put_rd sc_123, put_up sc_123, put_rd sc_299, put_up sc_299, put_rd sc_300, put_up sc_300, put_rd sc_301, put_up sc_301, put_rd sc_302, put_up sc_302, put_rd sc_303, put_up sc_303, put_rd sc_304, put_up sc_304, put_rd sc_305, put_up sc_305, put_rd sc_306, put_up sc_306, put_rd sc_307, put_up sc_307, put_rd sc_308, put_up sc_308, put_rd sc_309, put_up sc_309, put_rd sc_310, put_up sc_310, put_rd sc_311, put_up sc_311, put_rd sc_312, put_up sc_312, put_rd sc_313, put_up sc_313, put_rd sc_314, put_up sc_314, put_rd sc_315, put_up sc_315, put_rd sc_316, put_up sc_316, put_rd sc_317, put_up sc_317, put_rd sc_318, put_up sc_318, put_rd sc_319, put_up sc_319, put_rd sc_320, put_up sc_320, put_rd sc_321, put_up sc_321, put_rd sc_322, put_up sc_322, put_rd sc_323, put_up sc_323, put_rd sc_324, put_up sc_324, put_rd sc_325, put_up sc_325, put_rd sc_326, put_up sc_326, put_rd sc_327, put_up sc_327, put_rd sc_328, put_up sc_328, put_rd sc_329, put_up sc_329, sp_w9 hS hb, sp_w10 hS hb, sp_w11 hS hb, sp_w12 hS hb, sp_w13 hS hb, sp_w14 hS hb, sp_w15 hS hb, put_rd (sc_w0 hb), put_up (sc_w0 hb), put_rd (sc_w3 hb), put_up (sc_w3 hb), put_rd (sc_w4 hb), put_up (sc_w4 hb), put_rd (sc_w5 hb), put_up (sc_w5 hb), put_rd (sc_w6 hb), put_up (sc_w6 hb), put_rd (sc_w7 hb), put_up (sc_w7 hb), h.cw.hasBox, h.cw.hasSeam, h.cw.isNum, h.cw.isPair, h.cw.isEnd, h_isKind, h_isDoor, h_isRule, h_isSheet, bI_if, bI_ifn, x_f1 hS, x_f2 hS, x_f3 hS, x_f4 hS, x_f5 hS, x_f6 hS, x_f7 hS, if_pos hK, if_pos hP, if_pos hV, h.cw.c6, if_neg h3]
          · unfold fM_box
            simp (maxSteps := 1000000) (disch := first | omega | assumption) only [sm_bd, Option.bind_some, ck_tt, ck_in, ck_iw, ck_ia, ck_iz, ck_01, ck_in_0, ck_iw_0, cl_0, ck_in_1, ck_iw_1, cl_1, ck_in_2, ck_iw_2, cl_2, ck_in_3, ck_iw_3, cl_3, ck_in_4, ck_iw_4, cl_4, ck_in_5, ck_iw_5, cl_5, ck_in_6, ck_iw_6, cl_6, ck_in_7, ck_iw_7, cl_7, ck_in_8, ck_iw_8, cl_8, ck_in_9, ck_iw_9, cl_9, nI_clamp, lm_2, lm_4, lm_10, lm_14, lm_24, lm_80, lm_100, lm_1500, nI_add, nI_1, pk_m1, nI_pred, sp_330_0 hS, sp_330_1 hS, sp_330_2 hS, sp_330_3 hS, sp_330_4 hS, sp_330_5 hS, sp_330_6 hS, sp_330_7 hS, sp_330_8 hS, sp_330_9 hS, sp_330_10 hS, sp_330_11 hS, sp_330_12 hS, sp_330_13 hS, sp_330_14 hS, sp_330_15 hS, sp_330_16 hS, sp_330_17 hS, sp_330_18 hS, sp_330_19 hS, sp_330_20 hS, sp_330_21 hS, sp_330_22 hS, sp_330_23 hS, sp_330_24 hS, sp_330_25 hS, sp_330_26 hS, sp_330_30 hS, sp_330_31 hS, sp_330_33 hS, sp_330_34 hS, sp_330_35 hS, sp_330_36 hS, sp_330_41 hS, sp_330_42 hS, sp_330_43 hS, sp_330_44 hS, sp_330_47 hS, sp_330_48 hS, sp_330_49 hS, sp_330_51 hS, sp_330_52 hS, sp_330_54 hS, sp_330_55 hS, sp_330_56 hS, sp_330_57 hS, sp_330_58 hS, sp_330_61 hS, put_rd sc_330, put_up sc_330, put_rd sc_331, put_up sc_331, put_rd sc_332, put_up sc_332, put_rd sc_333, put_up sc_333, put_rd sc_334, put_up sc_334, put_rd sc_335, put_up sc_335, put_rd sc_336, put_up sc_336, put_rd sc_337, put_up sc_337, put_rd sc_338, put_up sc_338, put_rd sc_339, put_up sc_339, put_rd sc_340, put_up sc_340, put_rd sc_341, put_up sc_341, put_rd sc_342, put_up sc_342, put_rd sc_343, put_up sc_343, put_rd sc_344, put_up sc_344, put_rd sc_345, put_up sc_345, put_rd sc_346, put_up sc_346, put_rd sc_347, put_up sc_347, put_rd sc_348, put_up sc_348, put_rd sc_349, put_up sc_349, put_rd sc_350, put_up sc_350, put_rd sc_351, put_up sc_351, put_rd sc_352, put_up sc_352, put_rd sc_353, put_up sc_353, put_rd sc_354, put_up sc_354, put_rd sc_355, put_up sc_355, put_rd sc_356, put_up sc_356, put_rd sc_357, put_up sc_357, put_rd sc_358, put_up sc_358, put_rd sc_359, put_up sc_359, put_rd sc_360, put_up sc_360, put_rd sc_361, put_up sc_361, put_rd sc_362, put_up sc_362, put_rd sc_363, put_up sc_363, put_rd sc_364, put_up sc_364, put_rd sc_365, put_up sc_365, put_rd sc_366, put_up sc_366, put_rd sc_367, put_up sc_367, put_rd sc_368, put_up sc_368, put_rd sc_369, put_up sc_369, put_rd sc_370, put_up sc_370, put_rd sc_371, put_up sc_371, put_rd sc_372, put_up sc_372, put_rd sc_373, put_up sc_373, put_rd sc_374, put_up sc_374, put_rd sc_375, put_up sc_375, put_rd sc_376, put_up sc_376, put_rd sc_377, put_up sc_377, put_rd sc_378, put_up sc_378, hM.isB hS, hM.isSm hS, hM.isP hS, hM.isPr hS, hM.isEnd hS, h_w05, h_w01, h_w02, h_w03, bI_if, bI_ifn, m_f1 hS, m_f2 hS, m_f3 hS, m_f4 hS, m_f5 hS, m_f6 hS, m_f7 hS, if_pos hK, if_pos hP, if_pos hV, hM.n0, if_neg (show ¬ ¬ nI nb = 7 from fun z => z (by rw [l_7, nI_ltI (by omega) (by decide)] at h3; rw [show nb = 7 by omega]; rfl))]
      · refine h.fl2 (v := -1000001) (k := 0) (by decide) ?_ (fun R1 hM hc1 => ?_)
        · unfold fX_box
          simp (maxSteps := 1000000) (disch := first | omega | assumption) only [sm_bd, Option.bind_some, ck_tt, ck_in, ck_iw, ck_ia, ck_iz, ck_01, ck_in_0, ck_iw_0, cl_0, ck_in_1, ck_iw_1, cl_1, ck_in_2, ck_iw_2, cl_2, ck_in_3, ck_iw_3, cl_3, ck_in_4, ck_iw_4, cl_4, ck_in_5, ck_iw_5, cl_5, ck_in_6, ck_iw_6, cl_6, ck_in_7, ck_iw_7, cl_7, ck_in_8, ck_iw_8, cl_8, ck_in_9, ck_iw_9, cl_9, nI_clamp, lm_2, lm_4, lm_10, lm_14, lm_24, lm_80, lm_100, lm_1500, nI_add, nI_1, pk_m1, nI_pred, sp_2_0 hS, sp_2_1 hS, sp_2_2 hS, sp_2_3 hS, sp_2_5 hS, sp_2_6 hS, sp_2_7 hS, sp_2_8 hS, sp_2_9 hS, sp_2_10 hS, sp_2_11 hS, sp_2_12 hS, sp_2_13 hS, sp_2_14 hS, sp_3_0 hS, sp_3_1 hS, sp_3_2 hS, sp_123_0 hS, sp_299_0 hS, sp_299_2 hS, sp_299_4 hS, sp_299_6 hS, sp_299_7 hS, sp_306_0 hS, sp_308_0 hS, sp_308_1 hS, sp_308_2 hS, sp_311_0 hS, sp_311_1 hS, sp_311_3 hS, sp_314_0 hS, sp_314_1 hS, sp_314_2 hS, sp_314_3 hS, sp_314_4 hS, sp_321_0 hS, sp_323_0 hS, sp_325_0 hS, sp_327_0 hS, put_rd sc_2, put_up sc_2, put_rd sc_123, put_up sc_123, put_rd sc_299, put_up sc_299, put_rd sc_300, put_up sc_300, put_rd sc_301, put_up sc_301, put_rd sc_302, put_up sc_302, put_rd sc_303, put_up sc_303, put_rd sc_304, put_up sc_304, put_rd sc_305, put_up sc_305, put_rd sc_306, put_up sc_306, put_rd sc_307, put_up sc_307, put_rd sc_308, put_up sc_308, put_rd sc_309, put_up sc_309, put_rd sc_310, put_up sc_310, put_rd sc_311, put_up sc_311, put_rd sc_312, put_up sc_312, put_rd sc_313, put_up sc_313, put_rd sc_314, put_up sc_314, put_rd sc_315, put_up sc_315, put_rd sc_316, put_up sc_316, put_rd sc_317, put_up sc_317, put_rd sc_318, put_up sc_318, put_rd sc_319, put_up sc_319, put_rd sc_320, put_up sc_320, put_rd sc_321, put_up sc_321, put_rd sc_322, put_up sc_322, put_rd sc_323, put_up sc_323, put_rd sc_324, put_up sc_324, put_rd sc_325, put_up sc_325, put_rd sc_326, put_up sc_326, put_rd sc_327, put_up sc_327, put_rd sc_328, put_up sc_328, put_rd sc_329, put_up sc_329, sp_w9 hS hb, sp_w10 hS hb, sp_w11 hS hb, sp_w12 hS hb, sp_w13 hS hb, sp_w14 hS hb, sp_w15 hS hb, put_rd (sc_w0 hb), put_up (sc_w0 hb), put_rd (sc_w3 hb), put_up (sc_w3 hb), put_rd (sc_w4 hb), put_up (sc_w4 hb), put_rd (sc_w5 hb), put_up (sc_w5 hb), put_rd (sc_w6 hb), put_up (sc_w6 hb), put_rd (sc_w7 hb), put_up (sc_w7 hb), h.cw.hasBox, h.cw.hasSeam, h.cw.isNum, h.cw.isPair, h.cw.isEnd, h_isKind, h_isDoor, h_isRule, h_isSheet, bI_if, bI_ifn, x_f1 hS, x_f2 hS, x_f3 hS, x_f4 hS, x_f5 hS, x_f6 hS, x_f7 hS, if_pos hK, if_pos hP, if_neg hV]
        · unfold fM_box
          simp (maxSteps := 1000000) (disch := first | omega | assumption) only [sm_bd, Option.bind_some, ck_tt, ck_in, ck_iw, ck_ia, ck_iz, ck_01, ck_in_0, ck_iw_0, cl_0, ck_in_1, ck_iw_1, cl_1, ck_in_2, ck_iw_2, cl_2, ck_in_3, ck_iw_3, cl_3, ck_in_4, ck_iw_4, cl_4, ck_in_5, ck_iw_5, cl_5, ck_in_6, ck_iw_6, cl_6, ck_in_7, ck_iw_7, cl_7, ck_in_8, ck_iw_8, cl_8, ck_in_9, ck_iw_9, cl_9, nI_clamp, lm_2, lm_4, lm_10, lm_14, lm_24, lm_80, lm_100, lm_1500, nI_add, nI_1, pk_m1, nI_pred, sp_330_0 hS, sp_330_1 hS, sp_330_2 hS, sp_330_3 hS, sp_330_4 hS, sp_330_5 hS, sp_330_6 hS, sp_330_7 hS, sp_330_8 hS, sp_330_9 hS, sp_330_10 hS, sp_330_11 hS, sp_330_12 hS, sp_330_13 hS, sp_330_14 hS, sp_330_15 hS, sp_330_16 hS, sp_330_17 hS, sp_330_18 hS, sp_330_19 hS, sp_330_20 hS, sp_330_21 hS, sp_330_22 hS, sp_330_23 hS, sp_330_24 hS, sp_330_25 hS, sp_330_26 hS, sp_330_30 hS, sp_330_31 hS, sp_330_33 hS, sp_330_34 hS, sp_330_35 hS, sp_330_36 hS, sp_330_41 hS, sp_330_42 hS, sp_330_43 hS, sp_330_44 hS, sp_330_47 hS, sp_330_48 hS, sp_330_49 hS, sp_330_51 hS, sp_330_52 hS, sp_330_54 hS, sp_330_55 hS, sp_330_56 hS, sp_330_57 hS, sp_330_58 hS, sp_330_61 hS, put_rd sc_330, put_up sc_330, put_rd sc_331, put_up sc_331, put_rd sc_332, put_up sc_332, put_rd sc_333, put_up sc_333, put_rd sc_334, put_up sc_334, put_rd sc_335, put_up sc_335, put_rd sc_336, put_up sc_336, put_rd sc_337, put_up sc_337, put_rd sc_338, put_up sc_338, put_rd sc_339, put_up sc_339, put_rd sc_340, put_up sc_340, put_rd sc_341, put_up sc_341, put_rd sc_342, put_up sc_342, put_rd sc_343, put_up sc_343, put_rd sc_344, put_up sc_344, put_rd sc_345, put_up sc_345, put_rd sc_346, put_up sc_346, put_rd sc_347, put_up sc_347, put_rd sc_348, put_up sc_348, put_rd sc_349, put_up sc_349, put_rd sc_350, put_up sc_350, put_rd sc_351, put_up sc_351, put_rd sc_352, put_up sc_352, put_rd sc_353, put_up sc_353, put_rd sc_354, put_up sc_354, put_rd sc_355, put_up sc_355, put_rd sc_356, put_up sc_356, put_rd sc_357, put_up sc_357, put_rd sc_358, put_up sc_358, put_rd sc_359, put_up sc_359, put_rd sc_360, put_up sc_360, put_rd sc_361, put_up sc_361, put_rd sc_362, put_up sc_362, put_rd sc_363, put_up sc_363, put_rd sc_364, put_up sc_364, put_rd sc_365, put_up sc_365, put_rd sc_366, put_up sc_366, put_rd sc_367, put_up sc_367, put_rd sc_368, put_up sc_368, put_rd sc_369, put_up sc_369, put_rd sc_370, put_up sc_370, put_rd sc_371, put_up sc_371, put_rd sc_372, put_up sc_372, put_rd sc_373, put_up sc_373, put_rd sc_374, put_up sc_374, put_rd sc_375, put_up sc_375, put_rd sc_376, put_up sc_376, put_rd sc_377, put_up sc_377, put_rd sc_378, put_up sc_378, hM.isB hS, hM.isSm hS, hM.isP hS, hM.isPr hS, hM.isEnd hS, h_w05, h_w01, h_w02, h_w03, bI_if, bI_ifn, m_f1 hS, m_f2 hS, m_f3 hS, m_f4 hS, m_f5 hS, m_f6 hS, m_f7 hS, if_pos hK, if_pos hP, if_neg hV]
    · refine h.fl2 (v := -1000001) (k := 0) (by decide) ?_ (fun R1 hM hc1 => ?_)
      · unfold fX_box
        simp (maxSteps := 1000000) (disch := first | omega | assumption) only [sm_bd, Option.bind_some, ck_tt, ck_in, ck_iw, ck_ia, ck_iz, ck_01, ck_in_0, ck_iw_0, cl_0, ck_in_1, ck_iw_1, cl_1, ck_in_2, ck_iw_2, cl_2, ck_in_3, ck_iw_3, cl_3, ck_in_4, ck_iw_4, cl_4, ck_in_5, ck_iw_5, cl_5, ck_in_6, ck_iw_6, cl_6, ck_in_7, ck_iw_7, cl_7, ck_in_8, ck_iw_8, cl_8, ck_in_9, ck_iw_9, cl_9, nI_clamp, lm_2, lm_4, lm_10, lm_14, lm_24, lm_80, lm_100, lm_1500, nI_add, nI_1, pk_m1, nI_pred, sp_2_0 hS, sp_2_1 hS, sp_2_2 hS, sp_2_3 hS, sp_2_5 hS, sp_2_6 hS, sp_2_7 hS, sp_2_8 hS, sp_2_9 hS, sp_2_10 hS, sp_2_11 hS, sp_2_12 hS, sp_2_13 hS, sp_2_14 hS, sp_3_0 hS, sp_3_1 hS, sp_3_2 hS, sp_123_0 hS, sp_299_0 hS, sp_299_2 hS, sp_299_4 hS, sp_299_6 hS, sp_299_7 hS, sp_306_0 hS, sp_308_0 hS, sp_308_1 hS, sp_308_2 hS, sp_311_0 hS, sp_311_1 hS, sp_311_3 hS, sp_314_0 hS, sp_314_1 hS, sp_314_2 hS, sp_314_3 hS, sp_314_4 hS, sp_321_0 hS, sp_323_0 hS, sp_325_0 hS, sp_327_0 hS, put_rd sc_2, put_up sc_2, put_rd sc_123, put_up sc_123, put_rd sc_299, put_up sc_299, put_rd sc_300, put_up sc_300, put_rd sc_301, put_up sc_301, put_rd sc_302, put_up sc_302, put_rd sc_303, put_up sc_303, put_rd sc_304, put_up sc_304, put_rd sc_305, put_up sc_305, put_rd sc_306, put_up sc_306, put_rd sc_307, put_up sc_307, put_rd sc_308, put_up sc_308, put_rd sc_309, put_up sc_309, put_rd sc_310, put_up sc_310, put_rd sc_311, put_up sc_311, put_rd sc_312, put_up sc_312, put_rd sc_313, put_up sc_313, put_rd sc_314, put_up sc_314, put_rd sc_315, put_up sc_315, put_rd sc_316, put_up sc_316, put_rd sc_317, put_up sc_317, put_rd sc_318, put_up sc_318, put_rd sc_319, put_up sc_319, put_rd sc_320, put_up sc_320, put_rd sc_321, put_up sc_321, put_rd sc_322, put_up sc_322, put_rd sc_323, put_up sc_323, put_rd sc_324, put_up sc_324, put_rd sc_325, put_up sc_325, put_rd sc_326, put_up sc_326, put_rd sc_327, put_up sc_327, put_rd sc_328, put_up sc_328, put_rd sc_329, put_up sc_329, sp_w9 hS hb, sp_w10 hS hb, sp_w11 hS hb, sp_w12 hS hb, sp_w13 hS hb, sp_w14 hS hb, sp_w15 hS hb, put_rd (sc_w0 hb), put_up (sc_w0 hb), put_rd (sc_w3 hb), put_up (sc_w3 hb), put_rd (sc_w4 hb), put_up (sc_w4 hb), put_rd (sc_w5 hb), put_up (sc_w5 hb), put_rd (sc_w6 hb), put_up (sc_w6 hb), put_rd (sc_w7 hb), put_up (sc_w7 hb), h.cw.hasBox, h.cw.hasSeam, h.cw.isNum, h.cw.isPair, h.cw.isEnd, h_isKind, h_isDoor, h_isRule, h_isSheet, bI_if, bI_ifn, x_f1 hS, x_f2 hS, x_f3 hS, x_f4 hS, x_f5 hS, x_f6 hS, x_f7 hS, if_pos hK, if_neg hP]
      · unfold fM_box
        simp (maxSteps := 1000000) (disch := first | omega | assumption) only [sm_bd, Option.bind_some, ck_tt, ck_in, ck_iw, ck_ia, ck_iz, ck_01, ck_in_0, ck_iw_0, cl_0, ck_in_1, ck_iw_1, cl_1, ck_in_2, ck_iw_2, cl_2, ck_in_3, ck_iw_3, cl_3, ck_in_4, ck_iw_4, cl_4, ck_in_5, ck_iw_5, cl_5, ck_in_6, ck_iw_6, cl_6, ck_in_7, ck_iw_7, cl_7, ck_in_8, ck_iw_8, cl_8, ck_in_9, ck_iw_9, cl_9, nI_clamp, lm_2, lm_4, lm_10, lm_14, lm_24, lm_80, lm_100, lm_1500, nI_add, nI_1, pk_m1, nI_pred, sp_330_0 hS, sp_330_1 hS, sp_330_2 hS, sp_330_3 hS, sp_330_4 hS, sp_330_5 hS, sp_330_6 hS, sp_330_7 hS, sp_330_8 hS, sp_330_9 hS, sp_330_10 hS, sp_330_11 hS, sp_330_12 hS, sp_330_13 hS, sp_330_14 hS, sp_330_15 hS, sp_330_16 hS, sp_330_17 hS, sp_330_18 hS, sp_330_19 hS, sp_330_20 hS, sp_330_21 hS, sp_330_22 hS, sp_330_23 hS, sp_330_24 hS, sp_330_25 hS, sp_330_26 hS, sp_330_30 hS, sp_330_31 hS, sp_330_33 hS, sp_330_34 hS, sp_330_35 hS, sp_330_36 hS, sp_330_41 hS, sp_330_42 hS, sp_330_43 hS, sp_330_44 hS, sp_330_47 hS, sp_330_48 hS, sp_330_49 hS, sp_330_51 hS, sp_330_52 hS, sp_330_54 hS, sp_330_55 hS, sp_330_56 hS, sp_330_57 hS, sp_330_58 hS, sp_330_61 hS, put_rd sc_330, put_up sc_330, put_rd sc_331, put_up sc_331, put_rd sc_332, put_up sc_332, put_rd sc_333, put_up sc_333, put_rd sc_334, put_up sc_334, put_rd sc_335, put_up sc_335, put_rd sc_336, put_up sc_336, put_rd sc_337, put_up sc_337, put_rd sc_338, put_up sc_338, put_rd sc_339, put_up sc_339, put_rd sc_340, put_up sc_340, put_rd sc_341, put_up sc_341, put_rd sc_342, put_up sc_342, put_rd sc_343, put_up sc_343, put_rd sc_344, put_up sc_344, put_rd sc_345, put_up sc_345, put_rd sc_346, put_up sc_346, put_rd sc_347, put_up sc_347, put_rd sc_348, put_up sc_348, put_rd sc_349, put_up sc_349, put_rd sc_350, put_up sc_350, put_rd sc_351, put_up sc_351, put_rd sc_352, put_up sc_352, put_rd sc_353, put_up sc_353, put_rd sc_354, put_up sc_354, put_rd sc_355, put_up sc_355, put_rd sc_356, put_up sc_356, put_rd sc_357, put_up sc_357, put_rd sc_358, put_up sc_358, put_rd sc_359, put_up sc_359, put_rd sc_360, put_up sc_360, put_rd sc_361, put_up sc_361, put_rd sc_362, put_up sc_362, put_rd sc_363, put_up sc_363, put_rd sc_364, put_up sc_364, put_rd sc_365, put_up sc_365, put_rd sc_366, put_up sc_366, put_rd sc_367, put_up sc_367, put_rd sc_368, put_up sc_368, put_rd sc_369, put_up sc_369, put_rd sc_370, put_up sc_370, put_rd sc_371, put_up sc_371, put_rd sc_372, put_up sc_372, put_rd sc_373, put_up sc_373, put_rd sc_374, put_up sc_374, put_rd sc_375, put_up sc_375, put_rd sc_376, put_up sc_376, put_rd sc_377, put_up sc_377, put_rd sc_378, put_up sc_378, hM.isB hS, hM.isSm hS, hM.isP hS, hM.isPr hS, hM.isEnd hS, h_w05, h_w01, h_w02, h_w03, bI_if, bI_ifn, m_f1 hS, m_f2 hS, m_f3 hS, m_f4 hS, m_f5 hS, m_f6 hS, m_f7 hS, if_pos hK, if_neg hP]
  · refine h.fl2 (v := -1000001) (k := 0) (by decide) ?_ (fun R1 hM hc1 => ?_)
    · unfold fX_box
      simp (maxSteps := 1000000) (disch := first | omega | assumption) only [sm_bd, Option.bind_some, ck_tt, ck_in, ck_iw, ck_ia, ck_iz, ck_01, ck_in_0, ck_iw_0, cl_0, ck_in_1, ck_iw_1, cl_1, ck_in_2, ck_iw_2, cl_2, ck_in_3, ck_iw_3, cl_3, ck_in_4, ck_iw_4, cl_4, ck_in_5, ck_iw_5, cl_5, ck_in_6, ck_iw_6, cl_6, ck_in_7, ck_iw_7, cl_7, ck_in_8, ck_iw_8, cl_8, ck_in_9, ck_iw_9, cl_9, nI_clamp, lm_2, lm_4, lm_10, lm_14, lm_24, lm_80, lm_100, lm_1500, nI_add, nI_1, pk_m1, nI_pred, sp_2_0 hS, sp_2_1 hS, sp_2_2 hS, sp_2_3 hS, sp_2_5 hS, sp_2_6 hS, sp_2_7 hS, sp_2_8 hS, sp_2_9 hS, sp_2_10 hS, sp_2_11 hS, sp_2_12 hS, sp_2_13 hS, sp_2_14 hS, sp_3_0 hS, sp_3_1 hS, sp_3_2 hS, sp_123_0 hS, sp_299_0 hS, sp_299_2 hS, sp_299_4 hS, sp_299_6 hS, sp_299_7 hS, sp_306_0 hS, sp_308_0 hS, sp_308_1 hS, sp_308_2 hS, sp_311_0 hS, sp_311_1 hS, sp_311_3 hS, sp_314_0 hS, sp_314_1 hS, sp_314_2 hS, sp_314_3 hS, sp_314_4 hS, sp_321_0 hS, sp_323_0 hS, sp_325_0 hS, sp_327_0 hS, put_rd sc_2, put_up sc_2, put_rd sc_123, put_up sc_123, put_rd sc_299, put_up sc_299, put_rd sc_300, put_up sc_300, put_rd sc_301, put_up sc_301, put_rd sc_302, put_up sc_302, put_rd sc_303, put_up sc_303, put_rd sc_304, put_up sc_304, put_rd sc_305, put_up sc_305, put_rd sc_306, put_up sc_306, put_rd sc_307, put_up sc_307, put_rd sc_308, put_up sc_308, put_rd sc_309, put_up sc_309, put_rd sc_310, put_up sc_310, put_rd sc_311, put_up sc_311, put_rd sc_312, put_up sc_312, put_rd sc_313, put_up sc_313, put_rd sc_314, put_up sc_314, put_rd sc_315, put_up sc_315, put_rd sc_316, put_up sc_316, put_rd sc_317, put_up sc_317, put_rd sc_318, put_up sc_318, put_rd sc_319, put_up sc_319, put_rd sc_320, put_up sc_320, put_rd sc_321, put_up sc_321, put_rd sc_322, put_up sc_322, put_rd sc_323, put_up sc_323, put_rd sc_324, put_up sc_324, put_rd sc_325, put_up sc_325, put_rd sc_326, put_up sc_326, put_rd sc_327, put_up sc_327, put_rd sc_328, put_up sc_328, put_rd sc_329, put_up sc_329, sp_w9 hS hb, sp_w10 hS hb, sp_w11 hS hb, sp_w12 hS hb, sp_w13 hS hb, sp_w14 hS hb, sp_w15 hS hb, put_rd (sc_w0 hb), put_up (sc_w0 hb), put_rd (sc_w3 hb), put_up (sc_w3 hb), put_rd (sc_w4 hb), put_up (sc_w4 hb), put_rd (sc_w5 hb), put_up (sc_w5 hb), put_rd (sc_w6 hb), put_up (sc_w6 hb), put_rd (sc_w7 hb), put_up (sc_w7 hb), h.cw.hasBox, h.cw.hasSeam, h.cw.isNum, h.cw.isPair, h.cw.isEnd, h_isKind, h_isDoor, h_isRule, h_isSheet, bI_if, bI_ifn, x_f1 hS, x_f2 hS, x_f3 hS, x_f4 hS, x_f5 hS, x_f6 hS, x_f7 hS, if_neg hK]
    · unfold fM_box
      simp (maxSteps := 1000000) (disch := first | omega | assumption) only [sm_bd, Option.bind_some, ck_tt, ck_in, ck_iw, ck_ia, ck_iz, ck_01, ck_in_0, ck_iw_0, cl_0, ck_in_1, ck_iw_1, cl_1, ck_in_2, ck_iw_2, cl_2, ck_in_3, ck_iw_3, cl_3, ck_in_4, ck_iw_4, cl_4, ck_in_5, ck_iw_5, cl_5, ck_in_6, ck_iw_6, cl_6, ck_in_7, ck_iw_7, cl_7, ck_in_8, ck_iw_8, cl_8, ck_in_9, ck_iw_9, cl_9, nI_clamp, lm_2, lm_4, lm_10, lm_14, lm_24, lm_80, lm_100, lm_1500, nI_add, nI_1, pk_m1, nI_pred, sp_330_0 hS, sp_330_1 hS, sp_330_2 hS, sp_330_3 hS, sp_330_4 hS, sp_330_5 hS, sp_330_6 hS, sp_330_7 hS, sp_330_8 hS, sp_330_9 hS, sp_330_10 hS, sp_330_11 hS, sp_330_12 hS, sp_330_13 hS, sp_330_14 hS, sp_330_15 hS, sp_330_16 hS, sp_330_17 hS, sp_330_18 hS, sp_330_19 hS, sp_330_20 hS, sp_330_21 hS, sp_330_22 hS, sp_330_23 hS, sp_330_24 hS, sp_330_25 hS, sp_330_26 hS, sp_330_30 hS, sp_330_31 hS, sp_330_33 hS, sp_330_34 hS, sp_330_35 hS, sp_330_36 hS, sp_330_41 hS, sp_330_42 hS, sp_330_43 hS, sp_330_44 hS, sp_330_47 hS, sp_330_48 hS, sp_330_49 hS, sp_330_51 hS, sp_330_52 hS, sp_330_54 hS, sp_330_55 hS, sp_330_56 hS, sp_330_57 hS, sp_330_58 hS, sp_330_61 hS, put_rd sc_330, put_up sc_330, put_rd sc_331, put_up sc_331, put_rd sc_332, put_up sc_332, put_rd sc_333, put_up sc_333, put_rd sc_334, put_up sc_334, put_rd sc_335, put_up sc_335, put_rd sc_336, put_up sc_336, put_rd sc_337, put_up sc_337, put_rd sc_338, put_up sc_338, put_rd sc_339, put_up sc_339, put_rd sc_340, put_up sc_340, put_rd sc_341, put_up sc_341, put_rd sc_342, put_up sc_342, put_rd sc_343, put_up sc_343, put_rd sc_344, put_up sc_344, put_rd sc_345, put_up sc_345, put_rd sc_346, put_up sc_346, put_rd sc_347, put_up sc_347, put_rd sc_348, put_up sc_348, put_rd sc_349, put_up sc_349, put_rd sc_350, put_up sc_350, put_rd sc_351, put_up sc_351, put_rd sc_352, put_up sc_352, put_rd sc_353, put_up sc_353, put_rd sc_354, put_up sc_354, put_rd sc_355, put_up sc_355, put_rd sc_356, put_up sc_356, put_rd sc_357, put_up sc_357, put_rd sc_358, put_up sc_358, put_rd sc_359, put_up sc_359, put_rd sc_360, put_up sc_360, put_rd sc_361, put_up sc_361, put_rd sc_362, put_up sc_362, put_rd sc_363, put_up sc_363, put_rd sc_364, put_up sc_364, put_rd sc_365, put_up sc_365, put_rd sc_366, put_up sc_366, put_rd sc_367, put_up sc_367, put_rd sc_368, put_up sc_368, put_rd sc_369, put_up sc_369, put_rd sc_370, put_up sc_370, put_rd sc_371, put_up sc_371, put_rd sc_372, put_up sc_372, put_rd sc_373, put_up sc_373, put_rd sc_374, put_up sc_374, put_rd sc_375, put_up sc_375, put_rd sc_376, put_up sc_376, put_rd sc_377, put_up sc_377, put_rd sc_378, put_up sc_378, hM.isB hS, hM.isSm hS, hM.isP hS, hM.isPr hS, hM.isEnd hS, h_w05, h_w01, h_w02, h_w03, bI_if, bI_ifn, m_f1 hS, m_f2 hS, m_f3 hS, m_f4 hS, m_f5 hS, m_f6 hS, m_f7 hS, if_neg hK]
end Box
