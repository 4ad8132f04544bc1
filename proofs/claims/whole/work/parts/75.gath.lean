/-! ===== the seams of a ring ===== -/
noncomputable def rsL (w : am_M) (g : Nat) : Nat → Nat → Nat × (Nat → Nat) → Nat × (Nat → Nat)
  | 0, _, q => q
  | d + 1, s, q => rsL w g d (s + 1) (if g.testBit (ix (w 11 s)) = true ∧ g.testBit (ix (w 13 s)) = true then (q.1 + 1, fun k => if k = q.1 then s else q.2 k) else q)
def rsI (s : Nat) (q : Nat × (Nat → Nat)) : Prop := q.1 ≤ s ∧ (∀ k, k < q.1 → q.2 k < s) ∧ ∀ i j, i < j → j < q.1 → q.2 i < q.2 j
theorem rsI.mono {s : Nat} {q : Nat × (Nat → Nat)} (h : rsI s q) : rsI (s + 1) q := ⟨Nat.le_succ_of_le h.1, fun k hk => Nat.lt_succ_of_lt (h.2.1 k hk), h.2.2⟩
theorem rsI.add {s : Nat} {q : Nat × (Nat → Nat)} (h : rsI s q) : rsI (s + 1) (q.1 + 1, fun k => if k = q.1 then s else q.2 k) := by
  refine ⟨Nat.succ_le_succ h.1, fun k hk => ?_, fun i j hij hj => ?_⟩
  · show (if k = q.1 then s else q.2 k) < s + 1
    have hk : k < q.1 + 1 := hk
    split
    · omega
    · have := h.2.1 k (by omega); omega
  · show (if i = q.1 then s else q.2 i) < (if j = q.1 then s else q.2 j)
    have hj : j < q.1 + 1 := hj
    rw [if_neg (by omega)]
    split
    · exact h.2.1 i (by omega)
    · exact h.2.2 i j hij (by omega)
theorem rsL_I {w : am_M} {g : Nat} : ∀ (d s : Nat) (q : Nat × (Nat → Nat)), rsI s q → rsI (s + d) (rsL w g d s q)
  | 0, s, q, h => h
  | d + 1, s, q, h => by
    show rsI (s + (d + 1)) (rsL w g d (s + 1) _)
    rw [show s + (d + 1) = s + 1 + d by omega]
    split
    · exact rsL_I d (s + 1) _ h.add
    · exact rsL_I d (s + 1) _ h.mono
noncomputable def rsN (w : am_M) (ns g : Nat) : Nat × (Nat → Nat) := rsL w g ns 0 (0, fun _ => 0)
theorem rsN_I {w : am_M} {ns g : Nat} : rsI ns (rsN w ns g) := by
  have := rsL_I (w := w) (g := g) ns 0 (0, fun _ => 0) ⟨Nat.le_refl _, fun k hk => absurd hk (Nat.not_lt_zero _), fun i j _ hj => absurd hj (Nat.not_lt_zero _)⟩
  rw [Nat.zero_add] at this
  exact this
/-- kept in a cell, with its count elsewhere -/
def rsH (R : am_M) (c c0 k0 : Nat) (q : Nat × (Nat → Nat)) : Prop := R c0 k0 = nI q.1 ∧ ∀ k, k < q.1 → R c k = nI (q.2 k)
theorem rsH.add {R : am_M} {c c0 k0 s : Nat} {q : Nat × (Nat → Nat)} (h : rsH R c c0 k0 q) (hc : c ≠ c0) : rsH (am_up (am_up R c q.1 (nI s)) c0 k0 (nI (q.1 + 1))) c c0 k0 (q.1 + 1, fun k => if k = q.1 then s else q.2 k) := by
  refine ⟨am_up_eq, fun k hk => ?_⟩
  have hk : k < q.1 + 1 := hk
  show _ = nI (if k = q.1 then s else q.2 k)
  rw [am_up_ne hc]
  by_cases e : k = q.1
  · rw [if_pos e, e, am_up_eq]
  · rw [if_neg e, am_up_nk e]; exact h.2 k (by omega)
section Gath
variable {I R : am_M} {P : am_Q} {nx : Nat} {w : am_M} {t : Nat → Nat → List Nat} {m nb ns ne : Nat}
theorem CW.t7 (h : CW I R P 7 w t m nb ns ne) {s : Nat} (hs : s < ns) : ∃ a b, a < 7 ∧ b < 7 ∧ R (7 + 15 + s) 0 = nI a ∧ R (7 + 15 + s) 2 = nI b ∧ ix (w 11 s) = a ∧ ix (w 13 s) = b := by
  have hle := h.le
  obtain ⟨⟨a, ha, ea⟩, -, ⟨b, hb, eb⟩, -⟩ := h.2.2.1.2.2.1 s hs
  exact ⟨a, b, by omega, by omega, (h.rm hs (by decide)).trans ea, (h.rm hs (by decide)).trans eb, by rw [ea]; exact nI_clamp (by omega), by rw [eb]; exact nI_clamp (by omega)⟩
theorem x_gatL (hS : SP P) {g : Nat} (hg : g < 128) : ∀ (d s fu : Nat) (R : am_M) (q : Nat × (Nat → Nat)), d < fu → s + d = ns → CW I R P 7 w t m nb ns ne → rsI s q → rsH R 312 311 2 q → ∃ R', fR_gather_L7 P (fun I => some I) fu (am_pk 311 0 7) (am_pk 7 0 11) (nI g) (nI s) (put I R) = some (put I R') ∧ rsH R' 312 311 2 (rsL w g d s q) ∧ ∀ c, c ≠ 311 → c ≠ 312 → R' c = R c
  | 0, s, fu, R, q, h1, h2, h, hq, hH => by
    obtain ⟨fu, rfl⟩ : ∃ n', fu = n' + 1 := ⟨fu - 1, by omega⟩
    have hle := h.le
    refine ⟨R, ?_, hH, fun _ _ _ => rfl⟩
    show fR_gather_B7 _ _ _ _ _ _ _ _ = _
    unfold fR_gather_B7
    rw [sm_ck_pos (am_t_pk (by decide)), put_rd (sc_w0 h.1), h.c7, if_pos (by rw [nI_leI (by omega) (by omega)]; omega)]
  | d + 1, s, fu, R, q, h1, h2, h, hq, hH => by
    obtain ⟨fu, rfl⟩ : ∃ n', fu = n' + 1 := ⟨fu - 1, by omega⟩
    have hle := h.le
    have hb := h.1
    have hs14 : s < 14 := by omega
    have hq1 : q.1 < 14 := by have := hq.1; omega
    obtain ⟨a, b, ha, hb7, e0, e2, i1, i2⟩ := h.t7 (s := s) (by omega)
    have b1 := bt_tst g hg a ha
    have b2 := bt_tst g hg b hb7
    have e312 : am_up R 312 q.1 (nI s) 311 2 = nI q.1 := by rw [am_up_ne (by decide)]; exact hH.1
    have run : ∀ rr, fR_gather_B7 P (fun I => some I) rr (am_pk 311 0 7) (am_pk 7 0 11) (nI g) (nI s) (put I R) = if g.testBit a = true ∧ g.testBit b = true then rr (am_pk 311 0 7) (am_pk 7 0 11) (nI g) (nI (s + 1)) (put I (am_up (am_up R 312 q.1 (nI s)) 311 2 (nI (q.1 + 1)))) else rr (am_pk 311 0 7) (am_pk 7 0 11) (nI g) (nI (s + 1)) (put I R) := by
      intro rr
      unfold fR_gather_B7 fR_gather_J69
      rw [sm_ck_pos (am_t_pk (by decide)), put_rd (sc_w0 hb), h.c7, if_neg (by rw [nI_leI (by omega) (by omega)]; omega), sp_w10 hS hb, nI_clamp (show s < 2 ^ 31 by omega), sp_sm hS hb hs14, sm_ck_pos (sm_ia_nI (by decide) (by decide) (by decide) hs14), bd_eq, sm_ck_pos (am_t_pk (by decide)), put_rd (sc_sm hb hs14), put_rd (sc_sm hb hs14), e0, e2, sm_ck_pos (am_t_pk (by decide)), sp_311_1 hS, put_rd sc_311, hH.1, nI_clamp (show q.1 < 2 ^ 31 by omega), sm_ck_pos (sm_iw_nI (by decide) (by decide) hq1)]
      simp only [bd_eq, put_up sc_312, put_rd sc_311, e312, put_up sc_311, nI_1]
      by_cases z1 : g.testBit a = true
      · rw [if_neg (fun z => z (b1.mpr z1))]
        by_cases z2 : g.testBit b = true
        · rw [if_neg (fun z => z (b2.mpr z2)), if_pos ⟨z1, z2⟩]
        · rw [if_pos (fun z => z2 (b2.mp z)), if_neg (fun z => z2 z.2)]
      · rw [if_pos (fun z => z1 (b1.mp z)), if_neg (fun z => z1 z.1)]
    show ∃ R', fR_gather_B7 _ _ _ _ _ _ _ _ = _ ∧ rsH R' 312 311 2 (rsL w g d (s + 1) (if g.testBit (ix (w 11 s)) = true ∧ g.testBit (ix (w 13 s)) = true then _ else q)) ∧ _
    rw [run, i1, i2]
    by_cases z : g.testBit a = true ∧ g.testBit b = true
    · rw [if_pos z, if_pos z]
      obtain ⟨R', y1, y2, y3⟩ := x_gatL hS hg d (s + 1) fu _ _ (by omega) (by omega) (h.fr (R' := am_up (am_up R 312 q.1 (nI s)) 311 2 (nI (q.1 + 1))) (fun c c1 c2 => by funext k; rw [am_up_ne (by omega), am_up_ne (by omega)]) (fun c hc => by funext k; rw [am_up_ne (by omega), am_up_ne (by omega)])) hq.add (hH.add (by decide))
      exact ⟨R', y1, y2, fun c c1 c2 => by rw [y3 c c1 c2]; funext k; rw [am_up_ne c1, am_up_ne c2]⟩
    · rw [if_neg z, if_neg z]
      exact x_gatL hS hg d (s + 1) fu R q (by omega) (by omega) h hq.mono hH
theorem x_gather (hS : SP P) {g : Nat} (hg : g < 128) (h : CW I R P 7 w t m nb ns ne) : ∃ R', fR_gather P (am_pk 311 0 7) (am_pk 7 0 11) (nI g) (put I R) = some (put I R') ∧ rsH R' 312 311 2 (rsN w ns g) ∧ ∀ c, c ≠ 311 → c ≠ 312 → R' c = R c := by
  have hle := h.le
  obtain ⟨R', y1, y2, y3⟩ := x_gatL hS hg ns 0 sm_fu (am_up R 311 2 0) (0, fun _ => 0) (sm_fu_lt (by omega)) (by omega) (h.fr (fun c c1 c2 => by funext k; rw [am_up_ne (by omega)]) (fun c hc => by funext k; rw [am_up_ne (by omega)])) ⟨Nat.le_refl _, fun k hk => absurd hk (Nat.not_lt_zero _), fun i j _ hj => absurd hj (Nat.not_lt_zero _)⟩ ⟨am_up_eq, fun k hk => absurd hk (Nat.not_lt_zero _)⟩
  refine ⟨R', ?_, y2, fun c c1 c2 => by rw [y3 c c1 c2]; funext k; rw [am_up_ne c1]⟩
  unfold fR_gather
  rw [sm_ck_pos (am_t_pk (by decide)), bd_eq, put_up sc_311]
  exact y1
theorem m_takL (hS : SP P) {g : Nat} (hg : g < 128) : ∀ (d s fu : Nat) (R : am_M) (q : Nat × (Nat → Nat)), d < fu → s + d = ns → MW R w t m nb ns ne → rsI s q → rsH R 364 330 45 q → ∃ R', fM_takesRing_L7 P (fun I => some I) fu (am_pk 330 0 13) (nI g) (nI s) (put I R) = some (put I R') ∧ rsH R' 364 330 45 (rsL w g d s q) ∧ (∀ c, c ≠ 330 → c ≠ 364 → R' c = R c) ∧ ∀ k, k ≠ 45 → R' 330 k = R 330 k
  | 0, s, fu, R, q, h1, h2, h, hq, hH => by
    obtain ⟨fu, rfl⟩ : ∃ n', fu = n' + 1 := ⟨fu - 1, by omega⟩
    have hle := h.le
    refine ⟨R, ?_, hH, fun _ _ _ => rfl, fun _ _ => rfl⟩
    show fM_takesRing_B7 _ _ _ _ _ _ _ = _
    unfold fM_takesRing_B7
    simp (maxSteps := 1000000) (disch := first | omega | assumption) only [sm_bd, Option.bind_some, ck_tt, ck_in, ck_iw, ck_ia, ck_iz, ck_01, ck_in_0, ck_iw_0, cl_0, ck_in_1, ck_iw_1, cl_1, ck_in_2, ck_iw_2, cl_2, ck_in_3, ck_iw_3, cl_3, ck_in_4, ck_iw_4, cl_4, ck_in_5, ck_iw_5, cl_5, ck_in_6, ck_iw_6, cl_6, ck_in_7, ck_iw_7, cl_7, ck_in_8, ck_iw_8, cl_8, ck_in_9, ck_iw_9, cl_9, nI_clamp, lm_2, lm_4, lm_10, lm_14, lm_24, lm_80, lm_100, lm_1500, nI_add, nI_1, pk_m1, nI_pred, sp_330_0 hS, sp_330_1 hS, sp_330_2 hS, sp_330_3 hS, sp_330_4 hS, sp_330_5 hS, sp_330_6 hS, sp_330_7 hS, sp_330_8 hS, sp_330_9 hS, sp_330_10 hS, sp_330_11 hS, sp_330_12 hS, sp_330_13 hS, sp_330_14 hS, sp_330_15 hS, sp_330_16 hS, sp_330_17 hS, sp_330_18 hS, sp_330_19 hS, sp_330_20 hS, sp_330_21 hS, sp_330_22 hS, sp_330_23 hS, sp_330_24 hS, sp_330_25 hS, sp_330_26 hS, sp_330_30 hS, sp_330_31 hS, sp_330_33 hS, sp_330_34 hS, sp_330_35 hS, sp_330_36 hS, sp_330_41 hS, sp_330_42 hS, sp_330_43 hS, sp_330_44 hS, sp_330_47 hS, sp_330_48 hS, sp_330_49 hS, sp_330_51 hS, sp_330_52 hS, sp_330_54 hS, sp_330_55 hS, sp_330_56 hS, sp_330_57 hS, sp_330_58 hS, sp_330_61 hS, put_rd sc_330, put_up sc_330, put_rd sc_331, put_up sc_331, put_rd sc_332, put_up sc_332, put_rd sc_333, put_up sc_333, put_rd sc_334, put_up sc_334, put_rd sc_335, put_up sc_335, put_rd sc_336, put_up sc_336, put_rd sc_337, put_up sc_337, put_rd sc_338, put_up sc_338, put_rd sc_339, put_up sc_339, put_rd sc_340, put_up sc_340, put_rd sc_341, put_up sc_341, put_rd sc_342, put_up sc_342, put_rd sc_343, put_up sc_343, put_rd sc_344, put_up sc_344, put_rd sc_345, put_up sc_345, put_rd sc_346, put_up sc_346, put_rd sc_347, put_up sc_347, put_rd sc_348, put_up sc_348, put_rd sc_349, put_up sc_349, put_rd sc_350, put_up sc_350, put_rd sc_351, put_up sc_351, put_rd sc_352, put_up sc_352, put_rd sc_353, put_up sc_353, put_rd sc_354, put_up sc_354, put_rd sc_355, put_up sc_355, put_rd sc_356, put_up sc_356, put_rd sc_357, put_up sc_357, put_rd sc_358, put_up sc_358, put_rd sc_359, put_up sc_359, put_rd sc_360, put_up sc_360, put_rd sc_361, put_up sc_361, put_rd sc_362, put_up sc_362, put_rd sc_363, put_up sc_363, put_rd sc_364, put_up sc_364, put_rd sc_365, put_up sc_365, put_rd sc_366, put_up sc_366, put_rd sc_367, put_up sc_367, put_rd sc_368, put_up sc_368, put_rd sc_369, put_up sc_369, put_rd sc_370, put_up sc_370, put_rd sc_371, put_up sc_371, put_rd sc_372, put_up sc_372, put_rd sc_373, put_up sc_373, put_rd sc_374, put_up sc_374, put_rd sc_375, put_up sc_375, put_rd sc_376, put_up sc_376, put_rd sc_377, put_up sc_377, put_rd sc_378, put_up sc_378, h.n1]
    rw [if_pos (by rw [nI_leI (by omega) (by omega)]; omega)]
  | d + 1, s, fu, R, q, h1, h2, h, hq, hH => by
    obtain ⟨fu, rfl⟩ : ∃ n', fu = n' + 1 := ⟨fu - 1, by omega⟩
    have hle := h.le
    have hs : s < ns := by omega
    have hs14 : s < 14 := by omega
    have hq1 : q.1 < 14 := by have := hq.1; omega
    obtain ⟨fb, fo, tb, td, hfb, hfo, htb, htd, e11, e12, e13, e14, e46, e47⟩ := h.ends hs
    have b1 := bt_tst g hg fb (by omega)
    have b2 := bt_tst g hg tb (by omega)
    have e364 : am_up R 364 q.1 (nI s) 330 45 = nI q.1 := by rw [am_up_ne (by decide)]; exact hH.1
    have run : ∀ rr, fM_takesRing_B7 P (fun I => some I) rr (am_pk 330 0 13) (nI g) (nI s) (put I R) = if g.testBit fb = true ∧ g.testBit tb = true then rr (am_pk 330 0 13) (nI g) (nI (s + 1)) (put I (am_up (am_up R 364 q.1 (nI s)) 330 45 (nI (q.1 + 1)))) else rr (am_pk 330 0 13) (nI g) (nI (s + 1)) (put I R) := by
      intro rr
      unfold fM_takesRing_B7 fM_takesRing_J71
      simp (maxSteps := 1000000) (disch := first | omega | assumption) only [sm_bd, Option.bind_some, ck_tt, ck_in, ck_iw, ck_ia, ck_iz, ck_01, ck_in_0, ck_iw_0, cl_0, ck_in_1, ck_iw_1, cl_1, ck_in_2, ck_iw_2, cl_2, ck_in_3, ck_iw_3, cl_3, ck_in_4, ck_iw_4, cl_4, ck_in_5, ck_iw_5, cl_5, ck_in_6, ck_iw_6, cl_6, ck_in_7, ck_iw_7, cl_7, ck_in_8, ck_iw_8, cl_8, ck_in_9, ck_iw_9, cl_9, nI_clamp, lm_2, lm_4, lm_10, lm_14, lm_24, lm_80, lm_100, lm_1500, nI_add, nI_1, pk_m1, nI_pred, sp_330_0 hS, sp_330_1 hS, sp_330_2 hS, sp_330_3 hS, sp_330_4 hS, sp_330_5 hS, sp_330_6 hS, sp_330_7 hS, sp_330_8 hS, sp_330_9 hS, sp_330_10 hS, sp_330_11 hS, sp_330_12 hS, sp_330_13 hS, sp_330_14 hS, sp_330_15 hS, sp_330_16 hS, sp_330_17 hS, sp_330_18 hS, sp_330_19 hS, sp_330_20 hS, sp_330_21 hS, sp_330_22 hS, sp_330_23 hS, sp_330_24 hS, sp_330_25 hS, sp_330_26 hS, sp_330_30 hS, sp_330_31 hS, sp_330_33 hS, sp_330_34 hS, sp_330_35 hS, sp_330_36 hS, sp_330_41 hS, sp_330_42 hS, sp_330_43 hS, sp_330_44 hS, sp_330_47 hS, sp_330_48 hS, sp_330_49 hS, sp_330_51 hS, sp_330_52 hS, sp_330_54 hS, sp_330_55 hS, sp_330_56 hS, sp_330_57 hS, sp_330_58 hS, sp_330_61 hS, put_rd sc_330, put_up sc_330, put_rd sc_331, put_up sc_331, put_rd sc_332, put_up sc_332, put_rd sc_333, put_up sc_333, put_rd sc_334, put_up sc_334, put_rd sc_335, put_up sc_335, put_rd sc_336, put_up sc_336, put_rd sc_337, put_up sc_337, put_rd sc_338, put_up sc_338, put_rd sc_339, put_up sc_339, put_rd sc_340, put_up sc_340, put_rd sc_341, put_up sc_341, put_rd sc_342, put_up sc_342, put_rd sc_343, put_up sc_343, put_rd sc_344, put_up sc_344, put_rd sc_345, put_up sc_345, put_rd sc_346, put_up sc_346, put_rd sc_347, put_up sc_347, put_rd sc_348, put_up sc_348, put_rd sc_349, put_up sc_349, put_rd sc_350, put_up sc_350, put_rd sc_351, put_up sc_351, put_rd sc_352, put_up sc_352, put_rd sc_353, put_up sc_353, put_rd sc_354, put_up sc_354, put_rd sc_355, put_up sc_355, put_rd sc_356, put_up sc_356, put_rd sc_357, put_up sc_357, put_rd sc_358, put_up sc_358, put_rd sc_359, put_up sc_359, put_rd sc_360, put_up sc_360, put_rd sc_361, put_up sc_361, put_rd sc_362, put_up sc_362, put_rd sc_363, put_up sc_363, put_rd sc_364, put_up sc_364, put_rd sc_365, put_up sc_365, put_rd sc_366, put_up sc_366, put_rd sc_367, put_up sc_367, put_rd sc_368, put_up sc_368, put_rd sc_369, put_up sc_369, put_rd sc_370, put_up sc_370, put_rd sc_371, put_up sc_371, put_rd sc_372, put_up sc_372, put_rd sc_373, put_up sc_373, put_rd sc_374, put_up sc_374, put_rd sc_375, put_up sc_375, put_rd sc_376, put_up sc_376, put_rd sc_377, put_up sc_377, put_rd sc_378, put_up sc_378, h.n1, e46, e47, d10 (show tb < 100 by omega) (show td < 10 by omega), d10 (show fb < 100 by omega) (show fo < 10 by omega), hH.1, e364]
      rw [if_neg (by rw [nI_leI (by omega) (by omega)]; omega)]
      by_cases z1 : g.testBit fb = true
      · rw [if_neg (fun z => z (b1.mpr z1))]
        by_cases z2 : g.testBit tb = true
        · rw [if_neg (fun z => z (b2.mpr z2)), if_pos ⟨z1, z2⟩]
        · rw [if_pos (fun z => z2 (b2.mp z)), if_neg (fun z => z2 z.2)]
      · rw [if_pos (fun z => z1 (b1.mp z)), if_neg (fun z => z1 z.1)]
    show ∃ R', fM_takesRing_B7 _ _ _ _ _ _ _ = _ ∧ rsH R' 364 330 45 (rsL w g d (s + 1) (if g.testBit (ix (w 11 s)) = true ∧ g.testBit (ix (w 13 s)) = true then _ else q)) ∧ _
    rw [run, e11, e13, show ix (nI fb) = fb from nI_clamp (by omega), show ix (nI tb) = tb from nI_clamp (by omega)]
    by_cases z : g.testBit fb = true ∧ g.testBit tb = true
    · rw [if_pos z, if_pos z]
      obtain ⟨R', y1, y2, y3, y4⟩ := m_takL hS hg d (s + 1) fu _ _ (by omega) (by omega) (h.fr (R' := am_up (am_up R 364 q.1 (nI s)) 330 45 (nI (q.1 + 1))) (fun c c1 c2 => by funext k; rw [am_up_ne (by omega), am_up_ne (by omega)])) hq.add (hH.add (by decide))
      exact ⟨R', y1, y2, fun c c1 c2 => by rw [y3 c c1 c2]; funext k; rw [am_up_ne c1, am_up_ne c2], fun k hk => by rw [y4 k hk, am_up_nk hk, am_up_ne (by decide)]⟩
    · rw [if_neg z, if_neg z]
      exact m_takL hS hg d (s + 1) fu R q (by omega) (by omega) h hq.mono hH
theorem m_takes (hS : SP P) {g : Nat} (hg : g < 128) (h : MW R w t m nb ns ne) : ∃ R', fM_takesRing P (am_pk 330 0 13) (nI g) (put I R) = some (put I R') ∧ rsH R' 364 330 45 (rsN w ns g) ∧ (∀ c, c ≠ 330 → c ≠ 364 → R' c = R c) ∧ ∀ k, k ≠ 45 → R' 330 k = R 330 k := by
  have hle := h.le
  obtain ⟨R', y1, y2, y3, y4⟩ := m_takL (I := I) hS hg ns 0 sm_fu (am_up R 330 45 0) (0, fun _ => 0) (sm_fu_lt (by omega)) (by omega) (h.fr (fun c c1 c2 => by funext k; rw [am_up_ne (by omega)])) ⟨Nat.le_refl _, fun k hk => absurd hk (Nat.not_lt_zero _), fun i j _ hj => absurd hj (Nat.not_lt_zero _)⟩ ⟨am_up_eq, fun k hk => absurd hk (Nat.not_lt_zero _)⟩
  refine ⟨R', ?_, y2, fun c c1 c2 => by rw [y3 c c1 c2]; funext k; rw [am_up_ne c1], fun k hk => by rw [y4 k hk, am_up_nk hk]⟩
  unfold fM_takesRing
  rw [sm_ck_pos (am_t_pk (by decide)), bd_eq, put_up sc_330]
  exact y1
end Gath
