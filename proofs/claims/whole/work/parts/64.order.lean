/-! ===== the call order ===== -/
theorem itm_ran {x y : Int32} {n : Nat} (h : itm x y) (hn : n ≤ 16) : ((0 ≤ x ∧ x < nI n) ↔ (0 ≤ y ∧ y < nI n)) ∧ ((0 ≤ y ∧ y < nI n) → x = y) := by
  have up : ∀ v : Int32, (0 ≤ v ∧ v < nI n) → (0 ≤ v ∧ v < 16) := fun v hv => ⟨hv.1, by
    have := hv.2
    rw [i_lt, nI_toInt (by omega)] at this
    rw [i_lt]
    show v.toInt < 16
    omega⟩
  rcases h with rfl | ⟨h1, h2⟩
  · exact ⟨Iff.rfl, fun _ => rfl⟩
  · exact ⟨⟨fun z => absurd (up _ z) h1, fun z => absurd (up _ z) h2⟩, fun z => absurd (up _ z) h2⟩
theorem rowX_cg {f g : Nat → Int32} {n : Nat} (hn : n ≤ 16) : ∀ (d k a : Nat), (∀ i, k ≤ i → i < k + d → itm (f i) (g i)) → (rowX f n d k a ↔ rowX g n d k a)
  | 0, k, a, _ => Iff.rfl
  | d + 1, k, a, h => by
    have e := itm_ran (n := n) (h k (by omega) (by omega)) hn
    constructor
    · intro ⟨h1, h2⟩
      have h1' := e.1.mp h1
      have eq := e.2 h1'
      refine ⟨h1', ?_⟩
      rw [← eq]
      exact (rowX_cg hn d (k + 1) _ (fun i g1 g2 => h i (by omega) (by omega))).mp h2
    · intro ⟨h1, h2⟩
      have eq := e.2 h1
      refine ⟨e.1.mpr h1, ?_⟩
      rw [eq]
      exact (rowX_cg hn d (k + 1) _ (fun i g1 g2 => h i (by omega) (by omega))).mpr h2
noncomputable def ordA (w : am_M) (nb : Nat) (g : Nat → Int32) : am_M := fun r c => @ite _ (r = 21 ∧ c < nb) (Classical.propDecidable _) (g c) (w r c)
section Ord
variable {I R : am_M} {P : am_Q} {nx : Nat} {w : am_M} {t : Nat → Nat → List Nat} {m nb ns ne : Nat}
theorem ordA_r {g : Nat → Int32} {r c : Nat} (h : r ≠ 21) : ordA w nb g r c = w r c := by unfold ordA; rw [if_neg (fun z => h z.1)]
theorem ordA_o {g : Nat → Int32} {c : Nat} (h : c < nb) : ordA w nb g 21 c = g c := by unfold ordA; rw [if_pos ⟨rfl, h⟩]
theorem ordA_w {g : Nat → Int32} (h : wiv w t m nb ns ne) (hr : rowM g nb nb 0 0) : wiv (ordA w nb g) t m nb ns ne := by
  have hle := h.le
  obtain ⟨⟨a1, a2, a3, a4, a5, a6, a7, a8, a9, a10, a11⟩, hB, hS, hD, hO, hE⟩ := h
  have p0 : 0 < 2 ^ nb := Nat.two_pow_pos nb
  refine ⟨⟨?_, a2, a3, ?_, a5, ?_, a7, ?_, a9, ?_, ?_⟩, ?_, ?_, ?_, ?_, ?_⟩
  · rw [ordA_r (by decide)]; exact a1
  · rw [ordA_r (by decide)]; exact a4
  · rw [ordA_r (by decide)]; exact a6
  · rw [ordA_r (by decide)]; exact a8
  · rw [ordA_r (by decide)]; exact a10
  · rw [ordA_r (by decide)]; exact a11
  · exact wiB_cg hB (fun r h1 h2 i hi => ordA_r (by omega)) (fun _ _ => rfl)
  · exact wiS_cg hS (fun r h1 h2 i hi => ordA_r (by omega)) (Nat.le_refl _)
  · exact wiD_cg hD (fun r h1 h2 i hi => ordA_r (by omega))
  · refine ⟨fun i hi => ?_, fun i j hi hj z => ?_⟩
    · rw [ordA_o hi]
      exact ran_ix (rowM_ran nb 0 0 hr i (by omega) (by omega)) (by omega)
    · rw [ordA_o hi, ordA_o hj] at z
      rcases Nat.lt_trichotomy i j with q | q | q
      · exact absurd z (rowM_inj (by omega) nb 0 0 p0 hr i j (by omega) q (by omega))
      · exact q
      · exact absurd z.symm (rowM_inj (by omega) nb 0 0 p0 hr j i (by omega) q (by omega))
  · exact wiE_cg hE (fun r h1 h2 i hi => ordA_r (by omega)) (Nat.le_refl _)
theorem ordA_C {b : Nat} {R' : am_M} {g : Nat → Int32} (h : CW I R P b w t m nb ns ne) (hr : rowM g nb nb 0 0) (h1 : ∀ c, c ≠ b + 3 → R' c = R c) (h2 : ∀ i, i < nb → R' (b + 3) i = g i) : CW I R' P b (ordA w nb g) t m nb ns ne := by
  have hle := h.le
  have hbr := h.1.rng
  have hw := ordA_w h.2.2.1 hr
  obtain ⟨n1, n2, n3⟩ := hw.cnt
  obtain ⟨p1, p2, p3⟩ := h.2.2.1.cnt
  refine ⟨h.1, fun r c hrc => ?_, hw, fun i hi => ?_, fun x hx d hd => ?_⟩
  · have hok := hrc.ok ⟨by omega, by omega, by omega⟩
    unfold wrl at hrc
    rw [n1, n2, n3] at hrc
    rw [vC_rd hok]
    by_cases e : r = 21
    · subst e
      rw [ordA_o (by omega)]
      exact h2 c (by omega)
    · rw [ordA_r e]
      have old := h.2.1 r c (by unfold wrl; rw [p1, p2, p3]; omega)
      rw [vC_rd hok] at old
      rw [← old]
      have hc : (aC b r c).1 ≠ b + 3 := by
        unfold okrc at hok
        unfold aC
        repeat' split
        all_goals (first | omega | (simp only []; omega))
      rw [h1 _ hc]
  · exact (h.2.2.2.1 i hi).kept (put_okcl (fun c hc => h1 c (by omega)))
  · rw [h1 _ (by omega), h.2.2.2.2 x hx d hd]
    exact (sinF_cong (fun s => ⟨ordA_r (by decide), ordA_r (by decide)⟩) _ _).symm
theorem ordA_M {R' : am_M} {g : Nat → Int32} (h : MW R w t m nb ns ne) (hr : rowM g nb nb 0 0) (h1 : ∀ c, c ≠ 338 → 332 ≤ c → c < 357 → R' c = R c) (h2 : ∀ i, i < nb → R' 338 i = g i) : MW R' (ordA w nb g) t m nb ns ne := by
  have hle := h.le
  have hw := ordA_w h.2.1 hr
  obtain ⟨n1, n2, n3⟩ := hw.cnt
  obtain ⟨p1, p2, p3⟩ := h.2.1.cnt
  refine ⟨fun r c hrc => ?_, hw, fun i hi => (h.2.2 i hi).kept (fun c g1 g2 => h1 c (by omega) (by omega) (by omega))⟩
  have hok := hrc.ok ⟨by omega, by omega, by omega⟩
  unfold wrl at hrc
  rw [n1, n2, n3] at hrc
  by_cases e : r = 21
  · subst e
    rw [ordA_o (by omega), vM_rd hok (by decide)]
    exact h2 c (by omega)
  · rw [ordA_r e]
    have old := h.1 r c (by unfold wrl; rw [p1, p2, p3]; omega)
    rw [← old]
    have hg := aM_rng hok
    have hc : (aM r c).1 ≠ 338 := by
      unfold okrc at hok
      rcases (show r = 0 ∨ r = 1 ∨ r = 2 ∨ r = 3 ∨ r = 4 ∨ r = 5 ∨ r = 6 ∨ r = 7 ∨ r = 8 ∨ r = 9 ∨ r = 10 ∨ r = 11 ∨ r = 12 ∨ r = 13 ∨ r = 14 ∨ r = 15 ∨ r = 16 ∨ r = 17 ∨ r = 18 ∨ r = 19 ∨ r = 20 ∨ r = 22 ∨ r = 23 ∨ r = 24 by omega) with rfl | rfl | rfl | rfl | rfl | rfl | rfl | rfl | rfl | rfl | rfl | rfl | rfl | rfl | rfl | rfl | rfl | rfl | rfl | rfl | rfl | rfl | rfl | rfl <;> simp [aM]
    unfold vM
    rw [h1 _ hc hg.1 hg.2.1]
theorem x_rowL (hS : SP P) (h : CW I R P 7 w t m nb ns ne) {s : Nat} (hs : s < 4) : ∀ (d k a fu : Nat), d < fu → k + d = nb → a < 2 ^ nb → fW_isRowOfBoxes_L4 (put I R) P (some 0) (fun l0 l2 =>
      sm_ck (am_t l0 = 11) <|
      if ¬ l2 = ((sm_shl 1 (put I R l0 6)) - 1) then
        (some 0)
      else
        (some 1)) fu (am_pk 7 0 11) (am_pk (322 + 2 * s) 24 20) (nI a) (nI k) = some (bI (rowX (R (322 + 2 * s)) nb d k a))
  | 0, k, a, fu, h1, h2, h3 => by
    obtain ⟨fu, rfl⟩ : ∃ n', fu = n' + 1 := ⟨fu - 1, by omega⟩
    have hle := h.le
    have hb := h.1
    have h128 := bt_p nb (by omega)
    show fW_isRowOfBoxes_B4 _ _ _ _ _ _ _ _ _ = _
    unfold fW_isRowOfBoxes_B4
    simp (maxSteps := 1000000) (disch := first | omega | assumption) only [sm_bd, Option.bind_some, ck_tt, ck_in, ck_iw, ck_ia, ck_iz, ck_01, ck_in_0, ck_iw_0, cl_0, ck_in_1, ck_iw_1, cl_1, ck_in_2, ck_iw_2, cl_2, ck_in_3, ck_iw_3, cl_3, ck_in_4, ck_iw_4, cl_4, ck_in_5, ck_iw_5, cl_5, ck_in_6, ck_iw_6, cl_6, ck_in_7, ck_iw_7, cl_7, ck_in_8, ck_iw_8, cl_8, ck_in_9, ck_iw_9, cl_9, nI_clamp, lm_2, lm_4, lm_10, lm_14, lm_24, lm_80, lm_100, lm_1500, nI_add, nI_1, pk_m1, nI_pred, sp_w9 hS hb, sp_w10 hS hb, sp_w11 hS hb, sp_w12 hS hb, sp_w13 hS hb, sp_w14 hS hb, sp_w15 hS hb, put_rd (sc_w0 hb), put_up (sc_w0 hb), put_rd (sc_w3 hb), put_up (sc_w3 hb), put_rd (sc_w4 hb), put_up (sc_w4 hb), put_rd (sc_w5 hb), put_up (sc_w5 hb), put_rd (sc_w6 hb), put_up (sc_w6 hb), put_rd (sc_w7 hb), put_up (sc_w7 hb), h.c6, bt_all nb (show nb < 8 by omega)]
    rw [if_pos (by rw [nI_leI (by omega) (by omega)]; omega)]
    have hp : 2 ^ nb - 1 < 2 ^ 31 := by omega
    show _ = some (bI (a = 2 ^ nb - 1))
    by_cases e : a = 2 ^ nb - 1
    · rw [if_neg (fun z => z (by rw [e])), bI_t e]
    · rw [if_pos (by rw [nI_eq (by omega) hp]; exact e), bI_f e]
  | d + 1, k, a, fu, h1, h2, h3 => by
    obtain ⟨fu, rfl⟩ : ∃ n', fu = n' + 1 := ⟨fu - 1, by omega⟩
    have hle := h.le
    have hb := h.1
    have h128 := bt_p nb (by omega)
    show fW_isRowOfBoxes_B4 _ _ _ _ _ _ _ _ _ = _
    unfold fW_isRowOfBoxes_B4
    rw [sm_ck_pos (am_t_pk (by decide)), put_rd (sc_w0 hb), h.c6, if_neg (by rw [nI_leI (by omega) (by omega)]; omega), sm_ck_pos (am_t_pk (by decide)), sm_ck_pos (by rw [am_t_pk (by decide)]; decide), am_n_pk (by decide) (by decide), if_neg (by rw [show Int32.ofNat 24 = nI 24 from rfl, nI_leI (by omega) (by omega)]; omega)]
    simp (maxSteps := 1000000) (disch := first | omega | assumption) only [sm_bd, Option.bind_some, ck_tt, ck_in, ck_iw, ck_ia, ck_iz, ck_01, ck_in_0, ck_iw_0, cl_0, ck_in_1, ck_iw_1, cl_1, ck_in_2, ck_iw_2, cl_2, ck_in_3, ck_iw_3, cl_3, ck_in_4, ck_iw_4, cl_4, ck_in_5, ck_iw_5, cl_5, ck_in_6, ck_iw_6, cl_6, ck_in_7, ck_iw_7, cl_7, ck_in_8, ck_iw_8, cl_8, ck_in_9, ck_iw_9, cl_9, nI_clamp, lm_2, lm_4, lm_10, lm_14, lm_24, lm_80, lm_100, lm_1500, nI_add, nI_1, pk_m1, nI_pred, h.hasBox, bI_ifn, put_rd (sc_sn hs)]
    show _ = some (bI (_ ∧ _))
    by_cases e : 0 ≤ R (322 + 2 * s) k ∧ R (322 + 2 * s) k < nI nb
    · rw [if_pos e]
      obtain ⟨x, hx, ex⟩ := ran_ix e (by omega)
      have ei : ix (R (322 + 2 * s) k) = x := by rw [ex]; exact nI_clamp (by omega)
      rw [ei]
      rw [show R (322 + 2 * s) k = nI x from ex, (bt_or a (by omega) x (by omega)).1]
      refine Eq.trans (x_rowL hS h hs d (k + 1) (a ||| 2 ^ x) fu (by omega) (by omega) (bt_lt nb (by omega) a h3 x hx)) ?_
      refine congrArg some (bI_c ⟨fun z => ⟨?_, z⟩, fun z => z.2⟩)
      rw [← ex]; exact e
    · rw [if_neg e, bI_f (fun z => e z.1)]
theorem m_rowL (hS : SP P) (h : MW R w t m nb ns ne) {s : Nat} (hs : s < 4) (h9 : R 369 s = nI nb) {e1 : Nat → am_M → Option (Int32 × am_M)} {e2 : Nat → Int32 → am_M → Option (Int32 × am_M)} : ∀ (d k a fu : Nat), d < fu → k + d = nb → a < 2 ^ nb → fM_order_L58 P e1 e2 fu (am_pk 330 0 13) (nI s) (nI a) (nI k) (put I R) = cif (rowM (fun i => R 370 (24 * s + i)) nb d k a) (e2 (am_pk 330 0 13) (nI s) (put I R)) (e1 (am_pk 330 0 13) (put I R))
  | 0, k, a, fu, h1, h2, h3 => by
    obtain ⟨fu, rfl⟩ : ∃ n', fu = n' + 1 := ⟨fu - 1, by omega⟩
    have hle := h.le
    show fM_order_B58 _ _ _ _ _ _ _ _ _ = _
    unfold fM_order_B58
    simp (maxSteps := 1000000) (disch := first | omega | assumption) only [sm_bd, Option.bind_some, ck_tt, ck_in, ck_iw, ck_ia, ck_iz, ck_01, ck_in_0, ck_iw_0, cl_0, ck_in_1, ck_iw_1, cl_1, ck_in_2, ck_iw_2, cl_2, ck_in_3, ck_iw_3, cl_3, ck_in_4, ck_iw_4, cl_4, ck_in_5, ck_iw_5, cl_5, ck_in_6, ck_iw_6, cl_6, ck_in_7, ck_iw_7, cl_7, ck_in_8, ck_iw_8, cl_8, ck_in_9, ck_iw_9, cl_9, nI_clamp, lm_2, lm_4, lm_10, lm_14, lm_24, lm_80, lm_100, lm_1500, nI_add, nI_1, pk_m1, nI_pred, sp_330_0 hS, sp_330_1 hS, sp_330_2 hS, sp_330_3 hS, sp_330_4 hS, sp_330_5 hS, sp_330_6 hS, sp_330_7 hS, sp_330_8 hS, sp_330_9 hS, sp_330_10 hS, sp_330_11 hS, sp_330_12 hS, sp_330_13 hS, sp_330_14 hS, sp_330_15 hS, sp_330_16 hS, sp_330_17 hS, sp_330_18 hS, sp_330_19 hS, sp_330_20 hS, sp_330_21 hS, sp_330_22 hS, sp_330_23 hS, sp_330_24 hS, sp_330_25 hS, sp_330_26 hS, sp_330_30 hS, sp_330_31 hS, sp_330_33 hS, sp_330_34 hS, sp_330_35 hS, sp_330_36 hS, sp_330_41 hS, sp_330_42 hS, sp_330_43 hS, sp_330_44 hS, sp_330_47 hS, sp_330_48 hS, sp_330_49 hS, sp_330_51 hS, sp_330_52 hS, sp_330_54 hS, sp_330_55 hS, sp_330_56 hS, sp_330_57 hS, sp_330_58 hS, sp_330_61 hS, put_rd sc_330, put_up sc_330, put_rd sc_331, put_up sc_331, put_rd sc_332, put_up sc_332, put_rd sc_333, put_up sc_333, put_rd sc_334, put_up sc_334, put_rd sc_335, put_up sc_335, put_rd sc_336, put_up sc_336, put_rd sc_337, put_up sc_337, put_rd sc_338, put_up sc_338, put_rd sc_339, put_up sc_339, put_rd sc_340, put_up sc_340, put_rd sc_341, put_up sc_341, put_rd sc_342, put_up sc_342, put_rd sc_343, put_up sc_343, put_rd sc_344, put_up sc_344, put_rd sc_345, put_up sc_345, put_rd sc_346, put_up sc_346, put_rd sc_347, put_up sc_347, put_rd sc_348, put_up sc_348, put_rd sc_349, put_up sc_349, put_rd sc_350, put_up sc_350, put_rd sc_351, put_up sc_351, put_rd sc_352, put_up sc_352, put_rd sc_353, put_up sc_353, put_rd sc_354, put_up sc_354, put_rd sc_355, put_up sc_355, put_rd sc_356, put_up sc_356, put_rd sc_357, put_up sc_357, put_rd sc_358, put_up sc_358, put_rd sc_359, put_up sc_359, put_rd sc_360, put_up sc_360, put_rd sc_361, put_up sc_361, put_rd sc_362, put_up sc_362, put_rd sc_363, put_up sc_363, put_rd sc_364, put_up sc_364, put_rd sc_365, put_up sc_365, put_rd sc_366, put_up sc_366, put_rd sc_367, put_up sc_367, put_rd sc_368, put_up sc_368, put_rd sc_369, put_up sc_369, put_rd sc_370, put_up sc_370, put_rd sc_371, put_up sc_371, put_rd sc_372, put_up sc_372, put_rd sc_373, put_up sc_373, put_rd sc_374, put_up sc_374, put_rd sc_375, put_up sc_375, put_rd sc_376, put_up sc_376, put_rd sc_377, put_up sc_377, put_rd sc_378, put_up sc_378, h9]
    rw [if_pos (by rw [nI_leI (by omega) (by omega)]; omega), cif_t (show rowM _ nb 0 k a from trivial)]
  | d + 1, k, a, fu, h1, h2, h3 => by
    obtain ⟨fu, rfl⟩ : ∃ n', fu = n' + 1 := ⟨fu - 1, by omega⟩
    have hle := h.le
    have h128 := bt_p nb (by omega)
    show fM_order_B58 _ _ _ _ _ _ _ _ _ = _
    unfold fM_order_B58
    simp (maxSteps := 1000000) (disch := first | omega | assumption) only [sm_bd, Option.bind_some, ck_tt, ck_in, ck_iw, ck_ia, ck_iz, ck_01, ck_in_0, ck_iw_0, cl_0, ck_in_1, ck_iw_1, cl_1, ck_in_2, ck_iw_2, cl_2, ck_in_3, ck_iw_3, cl_3, ck_in_4, ck_iw_4, cl_4, ck_in_5, ck_iw_5, cl_5, ck_in_6, ck_iw_6, cl_6, ck_in_7, ck_iw_7, cl_7, ck_in_8, ck_iw_8, cl_8, ck_in_9, ck_iw_9, cl_9, nI_clamp, lm_2, lm_4, lm_10, lm_14, lm_24, lm_80, lm_100, lm_1500, nI_add, nI_1, pk_m1, nI_pred, sp_330_0 hS, sp_330_1 hS, sp_330_2 hS, sp_330_3 hS, sp_330_4 hS, sp_330_5 hS, sp_330_6 hS, sp_330_7 hS, sp_330_8 hS, sp_330_9 hS, sp_330_10 hS, sp_330_11 hS, sp_330_12 hS, sp_330_13 hS, sp_330_14 hS, sp_330_15 hS, sp_330_16 hS, sp_330_17 hS, sp_330_18 hS, sp_330_19 hS, sp_330_20 hS, sp_330_21 hS, sp_330_22 hS, sp_330_23 hS, sp_330_24 hS, sp_330_25 hS, sp_330_26 hS, sp_330_30 hS, sp_330_31 hS, sp_330_33 hS, sp_330_34 hS, sp_330_35 hS, sp_330_36 hS, sp_330_41 hS, sp_330_42 hS, sp_330_43 hS, sp_330_44 hS, sp_330_47 hS, sp_330_48 hS, sp_330_49 hS, sp_330_51 hS, sp_330_52 hS, sp_330_54 hS, sp_330_55 hS, sp_330_56 hS, sp_330_57 hS, sp_330_58 hS, sp_330_61 hS, put_rd sc_330, put_up sc_330, put_rd sc_331, put_up sc_331, put_rd sc_332, put_up sc_332, put_rd sc_333, put_up sc_333, put_rd sc_334, put_up sc_334, put_rd sc_335, put_up sc_335, put_rd sc_336, put_up sc_336, put_rd sc_337, put_up sc_337, put_rd sc_338, put_up sc_338, put_rd sc_339, put_up sc_339, put_rd sc_340, put_up sc_340, put_rd sc_341, put_up sc_341, put_rd sc_342, put_up sc_342, put_rd sc_343, put_up sc_343, put_rd sc_344, put_up sc_344, put_rd sc_345, put_up sc_345, put_rd sc_346, put_up sc_346, put_rd sc_347, put_up sc_347, put_rd sc_348, put_up sc_348, put_rd sc_349, put_up sc_349, put_rd sc_350, put_up sc_350, put_rd sc_351, put_up sc_351, put_rd sc_352, put_up sc_352, put_rd sc_353, put_up sc_353, put_rd sc_354, put_up sc_354, put_rd sc_355, put_up sc_355, put_rd sc_356, put_up sc_356, put_rd sc_357, put_up sc_357, put_rd sc_358, put_up sc_358, put_rd sc_359, put_up sc_359, put_rd sc_360, put_up sc_360, put_rd sc_361, put_up sc_361, put_rd sc_362, put_up sc_362, put_rd sc_363, put_up sc_363, put_rd sc_364, put_up sc_364, put_rd sc_365, put_up sc_365, put_rd sc_366, put_up sc_366, put_rd sc_367, put_up sc_367, put_rd sc_368, put_up sc_368, put_rd sc_369, put_up sc_369, put_rd sc_370, put_up sc_370, put_rd sc_371, put_up sc_371, put_rd sc_372, put_up sc_372, put_rd sc_373, put_up sc_373, put_rd sc_374, put_up sc_374, put_rd sc_375, put_up sc_375, put_rd sc_376, put_up sc_376, put_rd sc_377, put_up sc_377, put_rd sc_378, put_up sc_378, h9, h.isB hS, bI_if]
    rw [if_neg (by rw [nI_leI (by omega) (by omega)]; omega)]
    by_cases e : 0 ≤ R 370 (24 * s + k) ∧ R 370 (24 * s + k) < nI nb
    · rw [if_pos e]
      obtain ⟨x, hx, ex⟩ := ran_ix e (by omega)
      have ei : ix (R 370 (24 * s + k)) = x := by rw [ex]; exact nI_clamp (by omega)
      rw [ex]
      have bt := bt_tst a (by omega) x (by omega)
      by_cases e3 : a.testBit x = true
      · rw [if_neg (fun z => z (bt.mpr e3)), cif_f (fun z => z.2.1 (by dsimp only; rw [ei]; exact e3))]
      · rw [if_pos (fun z => e3 (bt.mp z)), (bt_or a (by omega) x (by omega)).1]
        refine Eq.trans (m_rowL hS h hs h9 d (k + 1) (a ||| 2 ^ x) fu (by omega) (by omega) (bt_lt nb (by omega) a h3 x hx)) ?_
        have eq : rowM (fun i => R 370 (24 * s + i)) nb (d + 1) k a ↔ rowM (fun i => R 370 (24 * s + i)) nb d (k + 1) (a ||| 2 ^ x) := by
          show (_ ∧ _ ∧ rowM (fun i => R 370 (24 * s + i)) nb d (k + 1) (a ||| 2 ^ ix (R 370 (24 * s + k)))) ↔ _
          rw [ei]
          exact ⟨fun z => z.2.2, fun z => ⟨e, e3, z⟩⟩
        rw [propext eq]
    · rw [if_neg e, cif_f (fun z => e z.1)]
theorem m_ordL (hS : SP P) {s : Nat} (hs : s < 4) (hn : nb ≤ 7) : ∀ (d k fu : Nat) (R : am_M), d < fu → k + d = nb → R 369 s = nI nb → fM_order_L123 P (fun I => some (1, I)) fu (am_pk 330 0 13) (nI s) (nI k) (put I R) = some (1, put I (am_set R 338 (fun i => if k ≤ i ∧ i < nb then R 370 (24 * s + i) else R 338 i)))
  | 0, k, fu, R, h1, h2, h9 => by
    obtain ⟨fu, rfl⟩ : ∃ n', fu = n' + 1 := ⟨fu - 1, by omega⟩
    show fM_order_B123 _ _ _ _ _ _ _ = _
    unfold fM_order_B123
    simp (maxSteps := 1000000) (disch := first | omega | assumption) only [sm_bd, Option.bind_some, ck_tt, ck_in, ck_iw, ck_ia, ck_iz, ck_01, ck_in_0, ck_iw_0, cl_0, ck_in_1, ck_iw_1, cl_1, ck_in_2, ck_iw_2, cl_2, ck_in_3, ck_iw_3, cl_3, ck_in_4, ck_iw_4, cl_4, ck_in_5, ck_iw_5, cl_5, ck_in_6, ck_iw_6, cl_6, ck_in_7, ck_iw_7, cl_7, ck_in_8, ck_iw_8, cl_8, ck_in_9, ck_iw_9, cl_9, nI_clamp, lm_2, lm_4, lm_10, lm_14, lm_24, lm_80, lm_100, lm_1500, nI_add, nI_1, pk_m1, nI_pred, sp_330_0 hS, sp_330_1 hS, sp_330_2 hS, sp_330_3 hS, sp_330_4 hS, sp_330_5 hS, sp_330_6 hS, sp_330_7 hS, sp_330_8 hS, sp_330_9 hS, sp_330_10 hS, sp_330_11 hS, sp_330_12 hS, sp_330_13 hS, sp_330_14 hS, sp_330_15 hS, sp_330_16 hS, sp_330_17 hS, sp_330_18 hS, sp_330_19 hS, sp_330_20 hS, sp_330_21 hS, sp_330_22 hS, sp_330_23 hS, sp_330_24 hS, sp_330_25 hS, sp_330_26 hS, sp_330_30 hS, sp_330_31 hS, sp_330_33 hS, sp_330_34 hS, sp_330_35 hS, sp_330_36 hS, sp_330_41 hS, sp_330_42 hS, sp_330_43 hS, sp_330_44 hS, sp_330_47 hS, sp_330_48 hS, sp_330_49 hS, sp_330_51 hS, sp_330_52 hS, sp_330_54 hS, sp_330_55 hS, sp_330_56 hS, sp_330_57 hS, sp_330_58 hS, sp_330_61 hS, put_rd sc_330, put_up sc_330, put_rd sc_331, put_up sc_331, put_rd sc_332, put_up sc_332, put_rd sc_333, put_up sc_333, put_rd sc_334, put_up sc_334, put_rd sc_335, put_up sc_335, put_rd sc_336, put_up sc_336, put_rd sc_337, put_up sc_337, put_rd sc_338, put_up sc_338, put_rd sc_339, put_up sc_339, put_rd sc_340, put_up sc_340, put_rd sc_341, put_up sc_341, put_rd sc_342, put_up sc_342, put_rd sc_343, put_up sc_343, put_rd sc_344, put_up sc_344, put_rd sc_345, put_up sc_345, put_rd sc_346, put_up sc_346, put_rd sc_347, put_up sc_347, put_rd sc_348, put_up sc_348, put_rd sc_349, put_up sc_349, put_rd sc_350, put_up sc_350, put_rd sc_351, put_up sc_351, put_rd sc_352, put_up sc_352, put_rd sc_353, put_up sc_353, put_rd sc_354, put_up sc_354, put_rd sc_355, put_up sc_355, put_rd sc_356, put_up sc_356, put_rd sc_357, put_up sc_357, put_rd sc_358, put_up sc_358, put_rd sc_359, put_up sc_359, put_rd sc_360, put_up sc_360, put_rd sc_361, put_up sc_361, put_rd sc_362, put_up sc_362, put_rd sc_363, put_up sc_363, put_rd sc_364, put_up sc_364, put_rd sc_365, put_up sc_365, put_rd sc_366, put_up sc_366, put_rd sc_367, put_up sc_367, put_rd sc_368, put_up sc_368, put_rd sc_369, put_up sc_369, put_rd sc_370, put_up sc_370, put_rd sc_371, put_up sc_371, put_rd sc_372, put_up sc_372, put_rd sc_373, put_up sc_373, put_rd sc_374, put_up sc_374, put_rd sc_375, put_up sc_375, put_rd sc_376, put_up sc_376, put_rd sc_377, put_up sc_377, put_rd sc_378, put_up sc_378, h9]
    rw [if_pos (by rw [nI_leI (by omega) (by omega)]; omega)]
    have e : am_set R 338 (fun i => if k ≤ i ∧ i < nb then R 370 (24 * s + i) else R 338 i) = R := by
      funext x i
      unfold am_set
      dsimp only
      split
      · rename_i z; subst z; rw [if_neg (by omega)]
      · rfl
    rw [e]
  | d + 1, k, fu, R, h1, h2, h9 => by
    obtain ⟨fu, rfl⟩ : ∃ n', fu = n' + 1 := ⟨fu - 1, by omega⟩
    show fM_order_B123 _ _ _ _ _ _ _ = _
    unfold fM_order_B123
    simp (maxSteps := 1000000) (disch := first | omega | assumption) only [sm_bd, Option.bind_some, ck_tt, ck_in, ck_iw, ck_ia, ck_iz, ck_01, ck_in_0, ck_iw_0, cl_0, ck_in_1, ck_iw_1, cl_1, ck_in_2, ck_iw_2, cl_2, ck_in_3, ck_iw_3, cl_3, ck_in_4, ck_iw_4, cl_4, ck_in_5, ck_iw_5, cl_5, ck_in_6, ck_iw_6, cl_6, ck_in_7, ck_iw_7, cl_7, ck_in_8, ck_iw_8, cl_8, ck_in_9, ck_iw_9, cl_9, nI_clamp, lm_2, lm_4, lm_10, lm_14, lm_24, lm_80, lm_100, lm_1500, nI_add, nI_1, pk_m1, nI_pred, sp_330_0 hS, sp_330_1 hS, sp_330_2 hS, sp_330_3 hS, sp_330_4 hS, sp_330_5 hS, sp_330_6 hS, sp_330_7 hS, sp_330_8 hS, sp_330_9 hS, sp_330_10 hS, sp_330_11 hS, sp_330_12 hS, sp_330_13 hS, sp_330_14 hS, sp_330_15 hS, sp_330_16 hS, sp_330_17 hS, sp_330_18 hS, sp_330_19 hS, sp_330_20 hS, sp_330_21 hS, sp_330_22 hS, sp_330_23 hS, sp_330_24 hS, sp_330_25 hS, sp_330_26 hS, sp_330_30 hS, sp_330_31 hS, sp_330_33 hS, sp_330_34 hS, sp_330_35 hS, sp_330_36 hS, sp_330_41 hS, sp_330_42 hS, sp_330_43 hS, sp_330_44 hS, sp_330_47 hS, sp_330_48 hS, sp_330_49 hS, sp_330_51 hS, sp_330_52 hS, sp_330_54 hS, sp_330_55 hS, sp_330_56 hS, sp_330_57 hS, sp_330_58 hS, sp_330_61 hS, put_rd sc_330, put_up sc_330, put_rd sc_331, put_up sc_331, put_rd sc_332, put_up sc_332, put_rd sc_333, put_up sc_333, put_rd sc_334, put_up sc_334, put_rd sc_335, put_up sc_335, put_rd sc_336, put_up sc_336, put_rd sc_337, put_up sc_337, put_rd sc_338, put_up sc_338, put_rd sc_339, put_up sc_339, put_rd sc_340, put_up sc_340, put_rd sc_341, put_up sc_341, put_rd sc_342, put_up sc_342, put_rd sc_343, put_up sc_343, put_rd sc_344, put_up sc_344, put_rd sc_345, put_up sc_345, put_rd sc_346, put_up sc_346, put_rd sc_347, put_up sc_347, put_rd sc_348, put_up sc_348, put_rd sc_349, put_up sc_349, put_rd sc_350, put_up sc_350, put_rd sc_351, put_up sc_351, put_rd sc_352, put_up sc_352, put_rd sc_353, put_up sc_353, put_rd sc_354, put_up sc_354, put_rd sc_355, put_up sc_355, put_rd sc_356, put_up sc_356, put_rd sc_357, put_up sc_357, put_rd sc_358, put_up sc_358, put_rd sc_359, put_up sc_359, put_rd sc_360, put_up sc_360, put_rd sc_361, put_up sc_361, put_rd sc_362, put_up sc_362, put_rd sc_363, put_up sc_363, put_rd sc_364, put_up sc_364, put_rd sc_365, put_up sc_365, put_rd sc_366, put_up sc_366, put_rd sc_367, put_up sc_367, put_rd sc_368, put_up sc_368, put_rd sc_369, put_up sc_369, put_rd sc_370, put_up sc_370, put_rd sc_371, put_up sc_371, put_rd sc_372, put_up sc_372, put_rd sc_373, put_up sc_373, put_rd sc_374, put_up sc_374, put_rd sc_375, put_up sc_375, put_rd sc_376, put_up sc_376, put_rd sc_377, put_up sc_377, put_rd sc_378, put_up sc_378, h9]
    rw [if_neg (by rw [nI_leI (by omega) (by omega)]; omega), m_ordL hS hs hn d (k + 1) fu _ (by omega) (by omega) (by rw [am_up_ne (by decide)]; exact h9)]
    congr 3
    funext x i
    unfold am_set am_up
    dsimp only
    by_cases e : x = 338
    · rw [if_pos e, if_pos e]
      by_cases e2 : k + 1 ≤ i ∧ i < nb
      · rw [if_pos e2, if_neg (fun z => absurd z.1 (by decide)), if_pos (by omega)]
      · rw [if_neg e2]
        by_cases e3 : i = k
        · rw [if_pos ⟨rfl, e3⟩, if_pos (by omega), e3]
        · rw [if_neg (fun z => e3 z.2), if_neg (by omega)]
    · rw [if_neg e, if_neg e, if_neg (fun z => e z.1)]
set_option maxHeartbeats 4000000 in
theorem op_order (h : INV I R P nx w t m nb ns ne) {a : Int32} : OK1 I R P nx (fX_order P (am_pk 2 0 12) a) (fM_order P (am_pk 330 0 13) a) := by
  have hS := h.sp
  have hb := W7
  have hle := h.mw.le
  by_cases ha : 0 ≤ a ∧ a < 4
  · obtain ⟨s, hs, rfl⟩ := ran_ix (n := 4) ha (by decide)
    obtain ⟨o1, o2, ⟨z, hz, o3⟩, o4, o5⟩ := h.1.2.2.2.1 s hs
    by_cases g1 : R 368 s = 0
    · have h1 : R (321 + 2 * s) 2 = 0 := o2.symm.trans g1
      refine h.fl (v := -1000006) (k := 5) (by decide) ?_ (fun R1 hM hc1 => ?_)
      · unfold fX_order
        simp (maxSteps := 1000000) (disch := first | omega | assumption) only [sm_bd, Option.bind_some, ck_tt, ck_in, ck_iw, ck_ia, ck_iz, ck_01, ck_in_0, ck_iw_0, cl_0, ck_in_1, ck_iw_1, cl_1, ck_in_2, ck_iw_2, cl_2, ck_in_3, ck_iw_3, cl_3, ck_in_4, ck_iw_4, cl_4, ck_in_5, ck_iw_5, cl_5, ck_in_6, ck_iw_6, cl_6, ck_in_7, ck_iw_7, cl_7, ck_in_8, ck_iw_8, cl_8, ck_in_9, ck_iw_9, cl_9, nI_clamp, lm_2, lm_4, lm_10, lm_14, lm_24, lm_80, lm_100, lm_1500, nI_add, nI_1, pk_m1, nI_pred, sp_2_0 hS, sp_2_1 hS, sp_2_2 hS, sp_2_3 hS, sp_2_5 hS, sp_2_6 hS, sp_2_7 hS, sp_2_8 hS, sp_2_9 hS, sp_2_10 hS, sp_2_11 hS, sp_2_12 hS, sp_2_13 hS, sp_2_14 hS, sp_3_0 hS, sp_3_1 hS, sp_3_2 hS, sp_123_0 hS, sp_299_0 hS, sp_299_2 hS, sp_299_4 hS, sp_299_6 hS, sp_299_7 hS, sp_306_0 hS, sp_308_0 hS, sp_308_1 hS, sp_308_2 hS, sp_311_0 hS, sp_311_1 hS, sp_311_3 hS, sp_314_0 hS, sp_314_1 hS, sp_314_2 hS, sp_314_3 hS, sp_314_4 hS, sp_321_0 hS, sp_323_0 hS, sp_325_0 hS, sp_327_0 hS, put_rd sc_2, put_up sc_2, put_rd sc_123, put_up sc_123, put_rd sc_299, put_up sc_299, put_rd sc_300, put_up sc_300, put_rd sc_301, put_up sc_301, put_rd sc_302, put_up sc_302, put_rd sc_303, put_up sc_303, put_rd sc_304, put_up sc_304, put_rd sc_305, put_up sc_305, put_rd sc_306, put_up sc_306, put_rd sc_307, put_up sc_307, put_rd sc_308, put_up sc_308, put_rd sc_309, put_up sc_309, put_rd sc_310, put_up sc_310, put_rd sc_311, put_up sc_311, put_rd sc_312, put_up sc_312, put_rd sc_313, put_up sc_313, put_rd sc_314, put_up sc_314, put_rd sc_315, put_up sc_315, put_rd sc_316, put_up sc_316, put_rd sc_317, put_up sc_317, put_rd sc_318, put_up sc_318, put_rd sc_319, put_up sc_319, put_rd sc_320, put_up sc_320, put_rd sc_321, put_up sc_321, put_rd sc_322, put_up sc_322, put_rd sc_323, put_up sc_323, put_rd sc_324, put_up sc_324, put_rd sc_325, put_up sc_325, put_rd sc_326, put_up sc_326, put_rd sc_327, put_up sc_327, put_rd sc_328, put_up sc_328, put_rd sc_329, put_up sc_329, sp_w9 hS hb, sp_w10 hS hb, sp_w11 hS hb, sp_w12 hS hb, sp_w13 hS hb, sp_w14 hS hb, sp_w15 hS hb, put_rd (sc_w0 hb), put_up (sc_w0 hb), put_rd (sc_w3 hb), put_up (sc_w3 hb), put_rd (sc_w4 hb), put_up (sc_w4 hb), put_rd (sc_w5 hb), put_up (sc_w5 hb), put_rd (sc_w6 hb), put_up (sc_w6 hb), put_rd (sc_w7 hb), put_up (sc_w7 hb), h.cw.hasBox, h.cw.hasSeam, h.cw.isNum, h.cw.isPair, h.cw.isEnd, h_isKind, h_isDoor, h_isRule, h_isSheet, bI_if, bI_ifn, x_f1 hS, x_f2 hS, x_f3 hS, x_f4 hS, x_f5 hS, x_f6 hS, x_f7 hS, if_pos ha, sp_sh hS, sp_sn hS hs, put_rd (sc_sh hs), x_miss hS hs, h.cw.c6, if_pos h1]
      · unfold fM_order
        simp (maxSteps := 1000000) (disch := first | omega | assumption) only [sm_bd, Option.bind_some, ck_tt, ck_in, ck_iw, ck_ia, ck_iz, ck_01, ck_in_0, ck_iw_0, cl_0, ck_in_1, ck_iw_1, cl_1, ck_in_2, ck_iw_2, cl_2, ck_in_3, ck_iw_3, cl_3, ck_in_4, ck_iw_4, cl_4, ck_in_5, ck_iw_5, cl_5, ck_in_6, ck_iw_6, cl_6, ck_in_7, ck_iw_7, cl_7, ck_in_8, ck_iw_8, cl_8, ck_in_9, ck_iw_9, cl_9, nI_clamp, lm_2, lm_4, lm_10, lm_14, lm_24, lm_80, lm_100, lm_1500, nI_add, nI_1, pk_m1, nI_pred, sp_330_0 hS, sp_330_1 hS, sp_330_2 hS, sp_330_3 hS, sp_330_4 hS, sp_330_5 hS, sp_330_6 hS, sp_330_7 hS, sp_330_8 hS, sp_330_9 hS, sp_330_10 hS, sp_330_11 hS, sp_330_12 hS, sp_330_13 hS, sp_330_14 hS, sp_330_15 hS, sp_330_16 hS, sp_330_17 hS, sp_330_18 hS, sp_330_19 hS, sp_330_20 hS, sp_330_21 hS, sp_330_22 hS, sp_330_23 hS, sp_330_24 hS, sp_330_25 hS, sp_330_26 hS, sp_330_30 hS, sp_330_31 hS, sp_330_33 hS, sp_330_34 hS, sp_330_35 hS, sp_330_36 hS, sp_330_41 hS, sp_330_42 hS, sp_330_43 hS, sp_330_44 hS, sp_330_47 hS, sp_330_48 hS, sp_330_49 hS, sp_330_51 hS, sp_330_52 hS, sp_330_54 hS, sp_330_55 hS, sp_330_56 hS, sp_330_57 hS, sp_330_58 hS, sp_330_61 hS, put_rd sc_330, put_up sc_330, put_rd sc_331, put_up sc_331, put_rd sc_332, put_up sc_332, put_rd sc_333, put_up sc_333, put_rd sc_334, put_up sc_334, put_rd sc_335, put_up sc_335, put_rd sc_336, put_up sc_336, put_rd sc_337, put_up sc_337, put_rd sc_338, put_up sc_338, put_rd sc_339, put_up sc_339, put_rd sc_340, put_up sc_340, put_rd sc_341, put_up sc_341, put_rd sc_342, put_up sc_342, put_rd sc_343, put_up sc_343, put_rd sc_344, put_up sc_344, put_rd sc_345, put_up sc_345, put_rd sc_346, put_up sc_346, put_rd sc_347, put_up sc_347, put_rd sc_348, put_up sc_348, put_rd sc_349, put_up sc_349, put_rd sc_350, put_up sc_350, put_rd sc_351, put_up sc_351, put_rd sc_352, put_up sc_352, put_rd sc_353, put_up sc_353, put_rd sc_354, put_up sc_354, put_rd sc_355, put_up sc_355, put_rd sc_356, put_up sc_356, put_rd sc_357, put_up sc_357, put_rd sc_358, put_up sc_358, put_rd sc_359, put_up sc_359, put_rd sc_360, put_up sc_360, put_rd sc_361, put_up sc_361, put_rd sc_362, put_up sc_362, put_rd sc_363, put_up sc_363, put_rd sc_364, put_up sc_364, put_rd sc_365, put_up sc_365, put_rd sc_366, put_up sc_366, put_rd sc_367, put_up sc_367, put_rd sc_368, put_up sc_368, put_rd sc_369, put_up sc_369, put_rd sc_370, put_up sc_370, put_rd sc_371, put_up sc_371, put_rd sc_372, put_up sc_372, put_rd sc_373, put_up sc_373, put_rd sc_374, put_up sc_374, put_rd sc_375, put_up sc_375, put_rd sc_376, put_up sc_376, put_rd sc_377, put_up sc_377, put_rd sc_378, put_up sc_378, hM.isB hS, hM.isSm hS, hM.isP hS, hM.isPr hS, hM.isEnd hS, h_w05, h_w01, h_w02, h_w03, bI_if, bI_ifn, m_f1 hS, m_f2 hS, m_f3 hS, m_f4 hS, m_f5 hS, m_f6 hS, m_f7 hS, if_pos ha, hc1 368 (by decide), hc1 369 (by decide), hM.n0, if_neg (show ¬ ¬ R 368 s = 0 from fun q => q g1)]
    · have h1 : ¬ R (321 + 2 * s) 2 = 0 := by rw [← o2]; exact g1
      by_cases g2 : R 369 s = nI nb
      · have h2 : R (321 + 2 * s) 1 = nI nb := o1.symm.trans g2
        have p0 : 0 < 2 ^ nb := Nat.two_pow_pos nb
        have hz0 : bcn 0 + nb = nb := by show 0 + nb = nb; omega
        have hXM : rowX (R (322 + 2 * s)) nb nb 0 0 ↔ rowM (fun i => R 370 (24 * s + i)) nb nb 0 0 := (rowX_cg (g := fun i => R 370 (24 * s + i)) (by omega) nb 0 0 (fun i _ hi => o5 i (by omega))).trans (rowXM (by omega) nb 0 0 p0 hz0)
        have hx : fW_isRowOfBoxes (put I R) P (am_pk 7 0 11) (am_pk (322 + 2 * s) 24 20) = some (bI (rowX (R (322 + 2 * s)) nb nb 0 0)) := by
          unfold fW_isRowOfBoxes
          exact x_rowL hS h.cw hs nb 0 0 sm_fu (sm_fu_lt (by omega)) (by omega) p0
        have hm : ∀ R1, MW R1 w t m nb ns ne → R1 368 = R 368 → R1 369 = R 369 → R1 370 = R 370 → fM_order P (am_pk 330 0 13) (nI s) (put I R1) = cif (rowM (fun i => R 370 (24 * s + i)) nb nb 0 0) (some (1, put I (am_set R1 338 (fun i => if 0 ≤ i ∧ i < nb then R1 370 (24 * s + i) else R1 338 i)))) (some (-1000001, put I (am_up R1 331 0 (R1 331 0 + 1)))) := by
          intro R1 hM e8 e9 e0
          have l1 := m_rowL (I := I) hS hM hs (by rw [e9]; exact g2) (e1 := fun l0 I =>
                    sm_ck (am_t l0 = 13) <|
                    Option.bind (fM_finds P l0 ((-1000001)) I) fun y20 =>
                    some (y20.1, y20.2)) (e2 := fun l0 l1 I =>
                    fM_order_L123 P (fun I =>
                        some (1, I)) sm_fu l0 l1 0 I) nb 0 0 sm_fu (sm_fu_lt (by omega)) (by omega) p0
          unfold fM_order
          rw [h_w03, Option.bind_some, bI_ifn, if_pos ha]
          have c8 : R1 368 s = R 368 s := by rw [e8]
          have c9 : R1 369 s = nI nb := by rw [e9]; exact g2
          rw [sm_ck_pos (am_t_pk (by decide)), sp_330_47 hS, sp_330_48 hS, sp_330_1 hS, nI_clamp (show s < 2 ^ 31 by omega), cl_0, put_rd sc_368, put_rd sc_369, put_rd sc_332, c8, c9, hM.n0, sm_ck_pos (sm_in_nI (by decide) (by omega)), if_pos g1, sm_ck_pos (sm_in_nI (by decide) (by omega)), sm_ck_pos (inl l_0 (by decide) (by decide)), if_pos rfl]
          refine Eq.trans l1 ?_
          rw [e0]
          by_cases q : rowM (fun i => R 370 (24 * s + i)) nb nb 0 0
          · rw [cif_t q, cif_t q]
            refine (m_ordL (nb := nb) hS hs hle.1 nb 0 sm_fu R1 (sm_fu_lt (by omega)) (by omega) c9).trans ?_
            rw [e0]
          · rw [cif_f q, cif_f q]
            simp (maxSteps := 1000000) (disch := first | omega | assumption) only [sm_bd, Option.bind_some, ck_tt, ck_in, ck_iw, ck_ia, ck_iz, ck_01, ck_in_0, ck_iw_0, cl_0, ck_in_1, ck_iw_1, cl_1, ck_in_2, ck_iw_2, cl_2, ck_in_3, ck_iw_3, cl_3, ck_in_4, ck_iw_4, cl_4, ck_in_5, ck_iw_5, cl_5, ck_in_6, ck_iw_6, cl_6, ck_in_7, ck_iw_7, cl_7, ck_in_8, ck_iw_8, cl_8, ck_in_9, ck_iw_9, cl_9, nI_clamp, lm_2, lm_4, lm_10, lm_14, lm_24, lm_80, lm_100, lm_1500, nI_add, nI_1, pk_m1, nI_pred, m_f1 hS]
        by_cases hq : rowM (fun i => R 370 (24 * s + i)) nb nb 0 0
        · have f1 : fr 7 R (am_set R (7 + 3) (va_cpy (R (322 + 2 * s)) (R (7 + 3)) 0 0 nb)) := fun c hc _ => am_setne (by omega)
          have hM := h.mw1 f1
          have k1 : ∀ c, c ≠ 7 + 3 → am_set R (7 + 3) (va_cpy (R (322 + 2 * s)) (R (7 + 3)) 0 0 nb) c = R c := fun c hc => am_setne hc
          have c1 : CW I (am_set R (7 + 3) (va_cpy (R (322 + 2 * s)) (R (7 + 3)) 0 0 nb)) P 7 (ordA w nb (fun i => R 370 (24 * s + i))) t m nb ns ne := by
            refine ordA_C h.cw hq k1 (fun i hi => ?_)
            rw [am_set_eq, pk_cpy_in (by omega) (by omega), show 0 + (i - 0) = i by omega]
            exact (itm_ran (n := nb) (o5 i (by omega)) (by omega)).2 (rowM_ran nb 0 0 hq i (by omega) (by omega))
          have hm1 := hm _ hM (k1 368 (by omega)) (k1 369 (by omega)) (k1 370 (by omega))
          rw [cif_t hq] at hm1
          have m1 : MW (am_set (am_set R (7 + 3) (va_cpy (R (322 + 2 * s)) (R (7 + 3)) 0 0 nb)) 338 (fun i => if 0 ≤ i ∧ i < nb then (am_set R (7 + 3) (va_cpy (R (322 + 2 * s)) (R (7 + 3)) 0 0 nb)) 370 (24 * s + i) else (am_set R (7 + 3) (va_cpy (R (322 + 2 * s)) (R (7 + 3)) 0 0 nb)) 338 i)) (ordA w nb (fun i => R 370 (24 * s + i))) t m nb ns ne := by
            refine ordA_M hM hq (fun c g1 g2 g3 => am_setne g1) (fun i hi => ?_)
            rw [am_set_eq, if_pos ⟨by omega, hi⟩, k1 370 (by omega)]
          obtain ⟨q, hq9, eq⟩ := h.2.1
          refine ⟨1, am_set R (7 + 3) (va_cpy (R (322 + 2 * s)) (R (7 + 3)) 0 0 nb), _, ?_, hm1, h.mk2 f1 (fun c g1 g2 => am_setne (by omega)) ⟨q, hq9, by rw [ordA_r (by decide)]; exact eq⟩ c1 m1⟩
          unfold fX_order
          simp (maxSteps := 1000000) (disch := first | omega | assumption) only [sm_bd, Option.bind_some, ck_tt, ck_in, ck_iw, ck_ia, ck_iz, ck_01, ck_in_0, ck_iw_0, cl_0, ck_in_1, ck_iw_1, cl_1, ck_in_2, ck_iw_2, cl_2, ck_in_3, ck_iw_3, cl_3, ck_in_4, ck_iw_4, cl_4, ck_in_5, ck_iw_5, cl_5, ck_in_6, ck_iw_6, cl_6, ck_in_7, ck_iw_7, cl_7, ck_in_8, ck_iw_8, cl_8, ck_in_9, ck_iw_9, cl_9, nI_clamp, lm_2, lm_4, lm_10, lm_14, lm_24, lm_80, lm_100, lm_1500, nI_add, nI_1, pk_m1, nI_pred, sp_2_0 hS, sp_2_1 hS, sp_2_2 hS, sp_2_3 hS, sp_2_5 hS, sp_2_6 hS, sp_2_7 hS, sp_2_8 hS, sp_2_9 hS, sp_2_10 hS, sp_2_11 hS, sp_2_12 hS, sp_2_13 hS, sp_2_14 hS, sp_3_0 hS, sp_3_1 hS, sp_3_2 hS, sp_123_0 hS, sp_299_0 hS, sp_299_2 hS, sp_299_4 hS, sp_299_6 hS, sp_299_7 hS, sp_306_0 hS, sp_308_0 hS, sp_308_1 hS, sp_308_2 hS, sp_311_0 hS, sp_311_1 hS, sp_311_3 hS, sp_314_0 hS, sp_314_1 hS, sp_314_2 hS, sp_314_3 hS, sp_314_4 hS, sp_321_0 hS, sp_323_0 hS, sp_325_0 hS, sp_327_0 hS, put_rd sc_2, put_up sc_2, put_rd sc_123, put_up sc_123, put_rd sc_299, put_up sc_299, put_rd sc_300, put_up sc_300, put_rd sc_301, put_up sc_301, put_rd sc_302, put_up sc_302, put_rd sc_303, put_up sc_303, put_rd sc_304, put_up sc_304, put_rd sc_305, put_up sc_305, put_rd sc_306, put_up sc_306, put_rd sc_307, put_up sc_307, put_rd sc_308, put_up sc_308, put_rd sc_309, put_up sc_309, put_rd sc_310, put_up sc_310, put_rd sc_311, put_up sc_311, put_rd sc_312, put_up sc_312, put_rd sc_313, put_up sc_313, put_rd sc_314, put_up sc_314, put_rd sc_315, put_up sc_315, put_rd sc_316, put_up sc_316, put_rd sc_317, put_up sc_317, put_rd sc_318, put_up sc_318, put_rd sc_319, put_up sc_319, put_rd sc_320, put_up sc_320, put_rd sc_321, put_up sc_321, put_rd sc_322, put_up sc_322, put_rd sc_323, put_up sc_323, put_rd sc_324, put_up sc_324, put_rd sc_325, put_up sc_325, put_rd sc_326, put_up sc_326, put_rd sc_327, put_up sc_327, put_rd sc_328, put_up sc_328, put_rd sc_329, put_up sc_329, sp_w9 hS hb, sp_w10 hS hb, sp_w11 hS hb, sp_w12 hS hb, sp_w13 hS hb, sp_w14 hS hb, sp_w15 hS hb, put_rd (sc_w0 hb), put_up (sc_w0 hb), put_rd (sc_w3 hb), put_up (sc_w3 hb), put_rd (sc_w4 hb), put_up (sc_w4 hb), put_rd (sc_w5 hb), put_up (sc_w5 hb), put_rd (sc_w6 hb), put_up (sc_w6 hb), put_rd (sc_w7 hb), put_up (sc_w7 hb), h.cw.hasBox, h.cw.hasSeam, h.cw.isNum, h.cw.isPair, h.cw.isEnd, h_isKind, h_isDoor, h_isRule, h_isSheet, bI_if, bI_ifn, x_f1 hS, x_f2 hS, x_f3 hS, x_f4 hS, x_f5 hS, x_f6 hS, x_f7 hS, if_pos ha, sp_sh hS, sp_sn hS hs, put_rd (sc_sh hs), x_miss hS hs, h.cw.c6, if_neg h1, h2, hx, if_pos (hXM.mpr hq), ck_cp, put_rd' (sc_sn hs), put_rd' (sc_w3 hb), put_set (sc_w3 hb), if_pos (show True from trivial)]
        · refine h.fl (v := -1000001) (k := 0) (by decide) ?_ (fun R1 hM hc1 => ?_)
          · unfold fX_order
            simp (maxSteps := 1000000) (disch := first | omega | assumption) only [sm_bd, Option.bind_some, ck_tt, ck_in, ck_iw, ck_ia, ck_iz, ck_01, ck_in_0, ck_iw_0, cl_0, ck_in_1, ck_iw_1, cl_1, ck_in_2, ck_iw_2, cl_2, ck_in_3, ck_iw_3, cl_3, ck_in_4, ck_iw_4, cl_4, ck_in_5, ck_iw_5, cl_5, ck_in_6, ck_iw_6, cl_6, ck_in_7, ck_iw_7, cl_7, ck_in_8, ck_iw_8, cl_8, ck_in_9, ck_iw_9, cl_9, nI_clamp, lm_2, lm_4, lm_10, lm_14, lm_24, lm_80, lm_100, lm_1500, nI_add, nI_1, pk_m1, nI_pred, sp_2_0 hS, sp_2_1 hS, sp_2_2 hS, sp_2_3 hS, sp_2_5 hS, sp_2_6 hS, sp_2_7 hS, sp_2_8 hS, sp_2_9 hS, sp_2_10 hS, sp_2_11 hS, sp_2_12 hS, sp_2_13 hS, sp_2_14 hS, sp_3_0 hS, sp_3_1 hS, sp_3_2 hS, sp_123_0 hS, sp_299_0 hS, sp_299_2 hS, sp_299_4 hS, sp_299_6 hS, sp_299_7 hS, sp_306_0 hS, sp_308_0 hS, sp_308_1 hS, sp_308_2 hS, sp_311_0 hS, sp_311_1 hS, sp_311_3 hS, sp_314_0 hS, sp_314_1 hS, sp_314_2 hS, sp_314_3 hS, sp_314_4 hS, sp_321_0 hS, sp_323_0 hS, sp_325_0 hS, sp_327_0 hS, put_rd sc_2, put_up sc_2, put_rd sc_123, put_up sc_123, put_rd sc_299, put_up sc_299, put_rd sc_300, put_up sc_300, put_rd sc_301, put_up sc_301, put_rd sc_302, put_up sc_302, put_rd sc_303, put_up sc_303, put_rd sc_304, put_up sc_304, put_rd sc_305, put_up sc_305, put_rd sc_306, put_up sc_306, put_rd sc_307, put_up sc_307, put_rd sc_308, put_up sc_308, put_rd sc_309, put_up sc_309, put_rd sc_310, put_up sc_310, put_rd sc_311, put_up sc_311, put_rd sc_312, put_up sc_312, put_rd sc_313, put_up sc_313, put_rd sc_314, put_up sc_314, put_rd sc_315, put_up sc_315, put_rd sc_316, put_up sc_316, put_rd sc_317, put_up sc_317, put_rd sc_318, put_up sc_318, put_rd sc_319, put_up sc_319, put_rd sc_320, put_up sc_320, put_rd sc_321, put_up sc_321, put_rd sc_322, put_up sc_322, put_rd sc_323, put_up sc_323, put_rd sc_324, put_up sc_324, put_rd sc_325, put_up sc_325, put_rd sc_326, put_up sc_326, put_rd sc_327, put_up sc_327, put_rd sc_328, put_up sc_328, put_rd sc_329, put_up sc_329, sp_w9 hS hb, sp_w10 hS hb, sp_w11 hS hb, sp_w12 hS hb, sp_w13 hS hb, sp_w14 hS hb, sp_w15 hS hb, put_rd (sc_w0 hb), put_up (sc_w0 hb), put_rd (sc_w3 hb), put_up (sc_w3 hb), put_rd (sc_w4 hb), put_up (sc_w4 hb), put_rd (sc_w5 hb), put_up (sc_w5 hb), put_rd (sc_w6 hb), put_up (sc_w6 hb), put_rd (sc_w7 hb), put_up (sc_w7 hb), h.cw.hasBox, h.cw.hasSeam, h.cw.isNum, h.cw.isPair, h.cw.isEnd, h_isKind, h_isDoor, h_isRule, h_isSheet, bI_if, bI_ifn, x_f1 hS, x_f2 hS, x_f3 hS, x_f4 hS, x_f5 hS, x_f6 hS, x_f7 hS, if_pos ha, sp_sh hS, sp_sn hS hs, put_rd (sc_sh hs), x_miss hS hs, h.cw.c6, if_neg h1, h2, hx, if_neg (show ¬ rowX (R (322 + 2 * s)) nb nb 0 0 from fun z => hq (hXM.mp z)), if_pos (show True from trivial)]
          · rw [hm R1 hM (hc1 368 (by decide)) (hc1 369 (by decide)) (hc1 370 (by decide)), cif_f hq]
      · have h2 : ¬ R (321 + 2 * s) 1 = nI nb := by rw [← o1]; exact g2
        refine h.fl (v := -1000007) (k := 6) (by decide) ?_ (fun R1 hM hc1 => ?_)
        · unfold fX_order
          simp (maxSteps := 1000000) (disch := first | omega | assumption) only [sm_bd, Option.bind_some, ck_tt, ck_in, ck_iw, ck_ia, ck_iz, ck_01, ck_in_0, ck_iw_0, cl_0, ck_in_1, ck_iw_1, cl_1, ck_in_2, ck_iw_2, cl_2, ck_in_3, ck_iw_3, cl_3, ck_in_4, ck_iw_4, cl_4, ck_in_5, ck_iw_5, cl_5, ck_in_6, ck_iw_6, cl_6, ck_in_7, ck_iw_7, cl_7, ck_in_8, ck_iw_8, cl_8, ck_in_9, ck_iw_9, cl_9, nI_clamp, lm_2, lm_4, lm_10, lm_14, lm_24, lm_80, lm_100, lm_1500, nI_add, nI_1, pk_m1, nI_pred, sp_2_0 hS, sp_2_1 hS, sp_2_2 hS, sp_2_3 hS, sp_2_5 hS, sp_2_6 hS, sp_2_7 hS, sp_2_8 hS, sp_2_9 hS, sp_2_10 hS, sp_2_11 hS, sp_2_12 hS, sp_2_13 hS, sp_2_14 hS, sp_3_0 hS, sp_3_1 hS, sp_3_2 hS, sp_123_0 hS, sp_299_0 hS, sp_299_2 hS, sp_299_4 hS, sp_299_6 hS, sp_299_7 hS, sp_306_0 hS, sp_308_0 hS, sp_308_1 hS, sp_308_2 hS, sp_311_0 hS, sp_311_1 hS, sp_311_3 hS, sp_314_0 hS, sp_314_1 hS, sp_314_2 hS, sp_314_3 hS, sp_314_4 hS, sp_321_0 hS, sp_323_0 hS, sp_325_0 hS, sp_327_0 hS, put_rd sc_2, put_up sc_2, put_rd sc_123, put_up sc_123, put_rd sc_299, put_up sc_299, put_rd sc_300, put_up sc_300, put_rd sc_301, put_up sc_301, put_rd sc_302, put_up sc_302, put_rd sc_303, put_up sc_303, put_rd sc_304, put_up sc_304, put_rd sc_305, put_up sc_305, put_rd sc_306, put_up sc_306, put_rd sc_307, put_up sc_307, put_rd sc_308, put_up sc_308, put_rd sc_309, put_up sc_309, put_rd sc_310, put_up sc_310, put_rd sc_311, put_up sc_311, put_rd sc_312, put_up sc_312, put_rd sc_313, put_up sc_313, put_rd sc_314, put_up sc_314, put_rd sc_315, put_up sc_315, put_rd sc_316, put_up sc_316, put_rd sc_317, put_up sc_317, put_rd sc_318, put_up sc_318, put_rd sc_319, put_up sc_319, put_rd sc_320, put_up sc_320, put_rd sc_321, put_up sc_321, put_rd sc_322, put_up sc_322, put_rd sc_323, put_up sc_323, put_rd sc_324, put_up sc_324, put_rd sc_325, put_up sc_325, put_rd sc_326, put_up sc_326, put_rd sc_327, put_up sc_327, put_rd sc_328, put_up sc_328, put_rd sc_329, put_up sc_329, sp_w9 hS hb, sp_w10 hS hb, sp_w11 hS hb, sp_w12 hS hb, sp_w13 hS hb, sp_w14 hS hb, sp_w15 hS hb, put_rd (sc_w0 hb), put_up (sc_w0 hb), put_rd (sc_w3 hb), put_up (sc_w3 hb), put_rd (sc_w4 hb), put_up (sc_w4 hb), put_rd (sc_w5 hb), put_up (sc_w5 hb), put_rd (sc_w6 hb), put_up (sc_w6 hb), put_rd (sc_w7 hb), put_up (sc_w7 hb), h.cw.hasBox, h.cw.hasSeam, h.cw.isNum, h.cw.isPair, h.cw.isEnd, h_isKind, h_isDoor, h_isRule, h_isSheet, bI_if, bI_ifn, x_f1 hS, x_f2 hS, x_f3 hS, x_f4 hS, x_f5 hS, x_f6 hS, x_f7 hS, if_pos ha, sp_sh hS, sp_sn hS hs, put_rd (sc_sh hs), x_miss hS hs, h.cw.c6, if_neg h1, if_neg h2]
        · unfold fM_order
          simp (maxSteps := 1000000) (disch := first | omega | assumption) only [sm_bd, Option.bind_some, ck_tt, ck_in, ck_iw, ck_ia, ck_iz, ck_01, ck_in_0, ck_iw_0, cl_0, ck_in_1, ck_iw_1, cl_1, ck_in_2, ck_iw_2, cl_2, ck_in_3, ck_iw_3, cl_3, ck_in_4, ck_iw_4, cl_4, ck_in_5, ck_iw_5, cl_5, ck_in_6, ck_iw_6, cl_6, ck_in_7, ck_iw_7, cl_7, ck_in_8, ck_iw_8, cl_8, ck_in_9, ck_iw_9, cl_9, nI_clamp, lm_2, lm_4, lm_10, lm_14, lm_24, lm_80, lm_100, lm_1500, nI_add, nI_1, pk_m1, nI_pred, sp_330_0 hS, sp_330_1 hS, sp_330_2 hS, sp_330_3 hS, sp_330_4 hS, sp_330_5 hS, sp_330_6 hS, sp_330_7 hS, sp_330_8 hS, sp_330_9 hS, sp_330_10 hS, sp_330_11 hS, sp_330_12 hS, sp_330_13 hS, sp_330_14 hS, sp_330_15 hS, sp_330_16 hS, sp_330_17 hS, sp_330_18 hS, sp_330_19 hS, sp_330_20 hS, sp_330_21 hS, sp_330_22 hS, sp_330_23 hS, sp_330_24 hS, sp_330_25 hS, sp_330_26 hS, sp_330_30 hS, sp_330_31 hS, sp_330_33 hS, sp_330_34 hS, sp_330_35 hS, sp_330_36 hS, sp_330_41 hS, sp_330_42 hS, sp_330_43 hS, sp_330_44 hS, sp_330_47 hS, sp_330_48 hS, sp_330_49 hS, sp_330_51 hS, sp_330_52 hS, sp_330_54 hS, sp_330_55 hS, sp_330_56 hS, sp_330_57 hS, sp_330_58 hS, sp_330_61 hS, put_rd sc_330, put_up sc_330, put_rd sc_331, put_up sc_331, put_rd sc_332, put_up sc_332, put_rd sc_333, put_up sc_333, put_rd sc_334, put_up sc_334, put_rd sc_335, put_up sc_335, put_rd sc_336, put_up sc_336, put_rd sc_337, put_up sc_337, put_rd sc_338, put_up sc_338, put_rd sc_339, put_up sc_339, put_rd sc_340, put_up sc_340, put_rd sc_341, put_up sc_341, put_rd sc_342, put_up sc_342, put_rd sc_343, put_up sc_343, put_rd sc_344, put_up sc_344, put_rd sc_345, put_up sc_345, put_rd sc_346, put_up sc_346, put_rd sc_347, put_up sc_347, put_rd sc_348, put_up sc_348, put_rd sc_349, put_up sc_349, put_rd sc_350, put_up sc_350, put_rd sc_351, put_up sc_351, put_rd sc_352, put_up sc_352, put_rd sc_353, put_up sc_353, put_rd sc_354, put_up sc_354, put_rd sc_355, put_up sc_355, put_rd sc_356, put_up sc_356, put_rd sc_357, put_up sc_357, put_rd sc_358, put_up sc_358, put_rd sc_359, put_up sc_359, put_rd sc_360, put_up sc_360, put_rd sc_361, put_up sc_361, put_rd sc_362, put_up sc_362, put_rd sc_363, put_up sc_363, put_rd sc_364, put_up sc_364, put_rd sc_365, put_up sc_365, put_rd sc_366, put_up sc_366, put_rd sc_367, put_up sc_367, put_rd sc_368, put_up sc_368, put_rd sc_369, put_up sc_369, put_rd sc_370, put_up sc_370, put_rd sc_371, put_up sc_371, put_rd sc_372, put_up sc_372, put_rd sc_373, put_up sc_373, put_rd sc_374, put_up sc_374, put_rd sc_375, put_up sc_375, put_rd sc_376, put_up sc_376, put_rd sc_377, put_up sc_377, put_rd sc_378, put_up sc_378, hM.isB hS, hM.isSm hS, hM.isP hS, hM.isPr hS, hM.isEnd hS, h_w05, h_w01, h_w02, h_w03, bI_if, bI_ifn, m_f1 hS, m_f2 hS, m_f3 hS, m_f4 hS, m_f5 hS, m_f6 hS, m_f7 hS, if_pos ha, hc1 368 (by decide), hc1 369 (by decide), hM.n0, if_pos g1, if_neg g2]
  · refine h.fl (v := -1000001) (k := 0) (by decide) ?_ (fun R1 hM hc1 => ?_)
    · unfold fX_order
      simp (maxSteps := 1000000) (disch := first | omega | assumption) only [sm_bd, Option.bind_some, ck_tt, ck_in, ck_iw, ck_ia, ck_iz, ck_01, ck_in_0, ck_iw_0, cl_0, ck_in_1, ck_iw_1, cl_1, ck_in_2, ck_iw_2, cl_2, ck_in_3, ck_iw_3, cl_3, ck_in_4, ck_iw_4, cl_4, ck_in_5, ck_iw_5, cl_5, ck_in_6, ck_iw_6, cl_6, ck_in_7, ck_iw_7, cl_7, ck_in_8, ck_iw_8, cl_8, ck_in_9, ck_iw_9, cl_9, nI_clamp, lm_2, lm_4, lm_10, lm_14, lm_24, lm_80, lm_100, lm_1500, nI_add, nI_1, pk_m1, nI_pred, sp_2_0 hS, sp_2_1 hS, sp_2_2 hS, sp_2_3 hS, sp_2_5 hS, sp_2_6 hS, sp_2_7 hS, sp_2_8 hS, sp_2_9 hS, sp_2_10 hS, sp_2_11 hS, sp_2_12 hS, sp_2_13 hS, sp_2_14 hS, sp_3_0 hS, sp_3_1 hS, sp_3_2 hS, sp_123_0 hS, sp_299_0 hS, sp_299_2 hS, sp_299_4 hS, sp_299_6 hS, sp_299_7 hS, sp_306_0 hS, sp_308_0 hS, sp_308_1 hS, sp_308_2 hS, sp_311_0 hS, sp_311_1 hS, sp_311_3 hS, sp_314_0 hS, sp_314_1 hS, sp_314_2 hS, sp_314_3 hS, sp_314_4 hS, sp_321_0 hS, sp_323_0 hS, sp_325_0 hS, sp_327_0 hS, put_rd sc_2, put_up sc_2, put_rd sc_123, put_up sc_123, put_rd sc_299, put_up sc_299, put_rd sc_300, put_up sc_300, put_rd sc_301, put_up sc_301, put_rd sc_302, put_up sc_302, put_rd sc_303, put_up sc_303, put_rd sc_304, put_up sc_304, put_rd sc_305, put_up sc_305, put_rd sc_306, put_up sc_306, put_rd sc_307, put_up sc_307, put_rd sc_308, put_up sc_308, put_rd sc_309, put_up sc_309, put_rd sc_310, put_up sc_310, put_rd sc_311, put_up sc_311, put_rd sc_312, put_up sc_312, put_rd sc_313, put_up sc_313, put_rd sc_314, put_up sc_314, put_rd sc_315, put_up sc_315, put_rd sc_316, put_up sc_316, put_rd sc_317, put_up sc_317, put_rd sc_318, put_up sc_318, put_rd sc_319, put_up sc_319, put_rd sc_320, put_up sc_320, put_rd sc_321, put_up sc_321, put_rd sc_322, put_up sc_322, put_rd sc_323, put_up sc_323, put_rd sc_324, put_up sc_324, put_rd sc_325, put_up sc_325, put_rd sc_326, put_up sc_326, put_rd sc_327, put_up sc_327, put_rd sc_328, put_up sc_328, put_rd sc_329, put_up sc_329, sp_w9 hS hb, sp_w10 hS hb, sp_w11 hS hb, sp_w12 hS hb, sp_w13 hS hb, sp_w14 hS hb, sp_w15 hS hb, put_rd (sc_w0 hb), put_up (sc_w0 hb), put_rd (sc_w3 hb), put_up (sc_w3 hb), put_rd (sc_w4 hb), put_up (sc_w4 hb), put_rd (sc_w5 hb), put_up (sc_w5 hb), put_rd (sc_w6 hb), put_up (sc_w6 hb), put_rd (sc_w7 hb), put_up (sc_w7 hb), h.cw.hasBox, h.cw.hasSeam, h.cw.isNum, h.cw.isPair, h.cw.isEnd, h_isKind, h_isDoor, h_isRule, h_isSheet, bI_if, bI_ifn, x_f1 hS, x_f2 hS, x_f3 hS, x_f4 hS, x_f5 hS, x_f6 hS, x_f7 hS, if_neg ha]
    · unfold fM_order
      simp (maxSteps := 1000000) (disch := first | omega | assumption) only [sm_bd, Option.bind_some, ck_tt, ck_in, ck_iw, ck_ia, ck_iz, ck_01, ck_in_0, ck_iw_0, cl_0, ck_in_1, ck_iw_1, cl_1, ck_in_2, ck_iw_2, cl_2, ck_in_3, ck_iw_3, cl_3, ck_in_4, ck_iw_4, cl_4, ck_in_5, ck_iw_5, cl_5, ck_in_6, ck_iw_6, cl_6, ck_in_7, ck_iw_7, cl_7, ck_in_8, ck_iw_8, cl_8, ck_in_9, ck_iw_9, cl_9, nI_clamp, lm_2, lm_4, lm_10, lm_14, lm_24, lm_80, lm_100, lm_1500, nI_add, nI_1, pk_m1, nI_pred, sp_330_0 hS, sp_330_1 hS, sp_330_2 hS, sp_330_3 hS, sp_330_4 hS, sp_330_5 hS, sp_330_6 hS, sp_330_7 hS, sp_330_8 hS, sp_330_9 hS, sp_330_10 hS, sp_330_11 hS, sp_330_12 hS, sp_330_13 hS, sp_330_14 hS, sp_330_15 hS, sp_330_16 hS, sp_330_17 hS, sp_330_18 hS, sp_330_19 hS, sp_330_20 hS, sp_330_21 hS, sp_330_22 hS, sp_330_23 hS, sp_330_24 hS, sp_330_25 hS, sp_330_26 hS, sp_330_30 hS, sp_330_31 hS, sp_330_33 hS, sp_330_34 hS, sp_330_35 hS, sp_330_36 hS, sp_330_41 hS, sp_330_42 hS, sp_330_43 hS, sp_330_44 hS, sp_330_47 hS, sp_330_48 hS, sp_330_49 hS, sp_330_51 hS, sp_330_52 hS, sp_330_54 hS, sp_330_55 hS, sp_330_56 hS, sp_330_57 hS, sp_330_58 hS, sp_330_61 hS, put_rd sc_330, put_up sc_330, put_rd sc_331, put_up sc_331, put_rd sc_332, put_up sc_332, put_rd sc_333, put_up sc_333, put_rd sc_334, put_up sc_334, put_rd sc_335, put_up sc_335, put_rd sc_336, put_up sc_336, put_rd sc_337, put_up sc_337, put_rd sc_338, put_up sc_338, put_rd sc_339, put_up sc_339, put_rd sc_340, put_up sc_340, put_rd sc_341, put_up sc_341, put_rd sc_342, put_up sc_342, put_rd sc_343, put_up sc_343, put_rd sc_344, put_up sc_344, put_rd sc_345, put_up sc_345, put_rd sc_346, put_up sc_346, put_rd sc_347, put_up sc_347, put_rd sc_348, put_up sc_348, put_rd sc_349, put_up sc_349, put_rd sc_350, put_up sc_350, put_rd sc_351, put_up sc_351, put_rd sc_352, put_up sc_352, put_rd sc_353, put_up sc_353, put_rd sc_354, put_up sc_354, put_rd sc_355, put_up sc_355, put_rd sc_356, put_up sc_356, put_rd sc_357, put_up sc_357, put_rd sc_358, put_up sc_358, put_rd sc_359, put_up sc_359, put_rd sc_360, put_up sc_360, put_rd sc_361, put_up sc_361, put_rd sc_362, put_up sc_362, put_rd sc_363, put_up sc_363, put_rd sc_364, put_up sc_364, put_rd sc_365, put_up sc_365, put_rd sc_366, put_up sc_366, put_rd sc_367, put_up sc_367, put_rd sc_368, put_up sc_368, put_rd sc_369, put_up sc_369, put_rd sc_370, put_up sc_370, put_rd sc_371, put_up sc_371, put_rd sc_372, put_up sc_372, put_rd sc_373, put_up sc_373, put_rd sc_374, put_up sc_374, put_rd sc_375, put_up sc_375, put_rd sc_376, put_up sc_376, put_rd sc_377, put_up sc_377, put_rd sc_378, put_up sc_378, hM.isB hS, hM.isSm hS, hM.isP hS, hM.isPr hS, hM.isEnd hS, h_w05, h_w01, h_w02, h_w03, bI_if, bI_ifn, m_f1 hS, m_f2 hS, m_f3 hS, m_f4 hS, m_f5 hS, m_f6 hS, m_f7 hS, if_neg ha]
end Ord
