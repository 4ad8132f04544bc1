/-! ===== what a box hangs on ===== -/
theorem bt_pow : ∀ b, b < 7 → ∀ c, c < 7 → ((2 ^ b).testBit c = true ↔ c = b) := by decide
theorem bt_p7 : ∀ b, b < 7 → 2 ^ b < 128 := by decide
theorem bt_o2 {a b : Nat} (ha : a < 128) (hb : b < 128) : (a ||| b) < 128 := Nat.or_lt_two_pow (n := 7) ha hb
theorem bt_t2 {a b c : Nat} : (a ||| b).testBit c = true ↔ (a.testBit c = true ∨ b.testBit c = true) := by
  rw [Nat.testBit_or, Bool.or_eq_true]
theorem bt_hi {a c : Nat} (ha : a < 128) (hc : 7 ≤ c) : a.testBit c = false := Nat.testBit_lt_two_pow (Nat.lt_of_lt_of_le ha (Nat.pow_le_pow_right (n := 2) (by decide) hc))
theorem bt_ext {a b : Nat} (ha : a < 128) (hb : b < 128) (h : ∀ c, c < 7 → (a.testBit c = true ↔ b.testBit c = true)) : a = b := by
  refine Nat.eq_of_testBit_eq (fun c => ?_)
  by_cases hc : c < 7
  · exact Bool.eq_iff_iff.mpr (h c hc)
  · rw [bt_hi ha (by omega), bt_hi hb (by omega)]
/-- by door d -/
noncomputable def hgD (w : am_M) (t : Nat → Nat → List Nat) (ns x d : Nat) : Nat := cif (sinF w x d 0 ns < 0 ∨ ¬ nmF (t x) d) 0 (2 ^ ix (w 11 (ix (sinF w x d 0 ns))))
noncomputable def hgN (w : am_M) (t : Nat → Nat → List Nat) (ns x : Nat) : Nat := hgD w t ns x 0 ||| hgD w t ns x 1
noncomputable def mgL (w : am_M) (t : Nat → Nat → List Nat) (x : Nat) : Nat → Nat → Nat → Nat
  | 0, _, a => a
  | n + 1, s, a => mgL w t x n (s + 1) (cif (w 13 s = nI x ∧ nmF (t x) (ix (w 14 s))) (a ||| 2 ^ ix (w 11 s)) a)
section Hangs
variable {I R : am_M} {P : am_Q} {nx : Nat} {w : am_M} {t : Nat → Nat → List Nat} {m nb ns ne : Nat}
theorem wiv.f7 (h : wiv w t m nb ns ne) {s : Nat} (hs : s < ns) : ∃ k, k < 7 ∧ w 11 s = nI k ∧ ix (w 11 s) = k := by
  have hle := h.le
  obtain ⟨⟨k, hk, e⟩, -⟩ := h.2.2.1 s hs
  exact ⟨k, by omega, e, by rw [e]; exact nI_clamp (by omega)⟩
theorem hgD_lt (h : wiv w t m nb ns ne) {x d : Nat} : hgD w t ns x d < 128 := by
  have hle := h.le
  unfold hgD
  by_cases q : sinF w x d 0 ns < 0 ∨ ¬ nmF (t x) d
  · rw [cif_t q]; decide
  · rw [cif_f q]
    rcases sinF_cases w x d ns 0 with e | ⟨k, k1, k2, e, -⟩
    · exact absurd (Or.inl (by rw [e]; decide)) q
    · rw [e, show ix (nI k) = k from nI_clamp (by omega)]
      obtain ⟨f, hf, -, ef⟩ := h.f7 (s := k) (by omega)
      rw [ef]; exact bt_p7 f hf
theorem hgD_tb (h : wiv w t m nb ns ne) {x d c : Nat} (hc : c < 7) : (hgD w t ns x d).testBit c = true ↔ ∃ k, k < ns ∧ w 13 k = nI x ∧ w 14 k = nI d ∧ nmF (t x) d ∧ ix (w 11 k) = c := by
  have hle := h.le
  unfold hgD
  by_cases q : sinF w x d 0 ns < 0 ∨ ¬ nmF (t x) d
  · rw [cif_t q]
    refine ⟨fun z => absurd z (by simp), ?_⟩
    rintro ⟨k, hk, e1, e2, hn, -⟩
    rcases q with q | q
    · rcases sinF_cases w x d ns 0 with e | ⟨j, j1, j2, e, -⟩
      · exact absurd ⟨e1, e2⟩ (sinF_none ns 0 (by omega) e k (by omega) (by omega))
      · rw [e] at q
        exact absurd q (nI_pos (by omega))
    · exact absurd hn q
  · rw [cif_f q]
    have hn : nmF (t x) d := Classical.not_not.mp (fun z => q (Or.inr z))
    rcases sinF_cases w x d ns 0 with e | ⟨k, k1, k2, e, e13, e14⟩
    · exact absurd (Or.inl (by rw [e]; decide)) q
    · rw [e, show ix (nI k) = k from nI_clamp (by omega)]
      obtain ⟨f, hf, -, ef⟩ := h.f7 (s := k) (by omega)
      rw [ef, bt_pow f hf c hc]
      constructor
      · intro z
        exact ⟨k, by omega, e13, e14, hn, by rw [ef]; exact z.symm⟩
      · rintro ⟨j, hj, g1, g2, -, g3⟩
        have : j = k := h.2.2.2.1 j k hj (by omega) (g1.trans e13.symm) (g2.trans e14.symm)
        subst this
        rw [ef] at g3
        exact g3.symm
theorem mgL_s (h : wiv w t m nb ns ne) {x : Nat} : ∀ (n s a : Nat), s + n ≤ ns → a < 128 → mgL w t x n s a < 128 ∧ ∀ c, c < 7 → ((mgL w t x n s a).testBit c = true ↔ (a.testBit c = true ∨ ∃ k, s ≤ k ∧ k < s + n ∧ w 13 k = nI x ∧ nmF (t x) (ix (w 14 k)) ∧ ix (w 11 k) = c))
  | 0, s, a, _, ha => ⟨ha, fun c hc => ⟨Or.inl, fun z => z.elim (fun y => y) (fun ⟨k, k1, k2, _⟩ => absurd k2 (by omega))⟩⟩
  | n + 1, s, a, hs, ha => by
    obtain ⟨f, hf, -, ef⟩ := h.f7 (s := s) (by omega)
    show mgL w t x n (s + 1) _ < 128 ∧ ∀ c, c < 7 → ((mgL w t x n (s + 1) _).testBit c = true ↔ _)
    by_cases q : w 13 s = nI x ∧ nmF (t x) (ix (w 14 s))
    · rw [cif_t q, ef]
      have hlt := (bt_or a ha f hf).2
      obtain ⟨i1, i2⟩ := mgL_s h (x := x) n (s + 1) (a ||| 2 ^ f) (by omega) hlt
      refine ⟨i1, fun c hc => ?_⟩
      rw [i2 c hc, bt_set a ha f hf c hc]
      constructor
      · rintro ((z | z) | ⟨k, k1, k2, k3⟩)
        · exact Or.inl z
        · exact Or.inr ⟨s, Nat.le_refl _, by omega, q.1, q.2, by rw [ef]; exact z.symm⟩
        · exact Or.inr ⟨k, by omega, by omega, k3⟩
      · rintro (z | ⟨k, k1, k2, k3⟩)
        · exact Or.inl (Or.inl z)
        · by_cases e : k = s
          · subst e
            exact Or.inl (Or.inr (by rw [← ef]; exact k3.2.2.symm))
          · exact Or.inr ⟨k, by omega, by omega, k3⟩
    · rw [cif_f q]
      obtain ⟨i1, i2⟩ := mgL_s h (x := x) n (s + 1) a (by omega) ha
      refine ⟨i1, fun c hc => ?_⟩
      rw [i2 c hc]
      constructor
      · rintro (z | ⟨k, k1, k2, k3⟩)
        · exact Or.inl z
        · exact Or.inr ⟨k, by omega, by omega, k3⟩
      · rintro (z | ⟨k, k1, k2, k3⟩)
        · exact Or.inl z
        · by_cases e : k = s
          · subst e
            exact absurd ⟨k3.1, k3.2.1⟩ q
          · exact Or.inr ⟨k, by omega, by omega, k3⟩
theorem hgN_lt (h : wiv w t m nb ns ne) {x : Nat} : hgN w t ns x < 128 := bt_o2 (hgD_lt h) (hgD_lt h)
theorem mg_eq (h : wiv w t m nb ns ne) {x : Nat} : mgL w t x ns 0 0 = hgN w t ns x := by
  have hle := h.le
  obtain ⟨i1, i2⟩ := mgL_s h (x := x) ns 0 0 (by omega) (by decide)
  refine bt_ext i1 (hgN_lt h) (fun c hc => ?_)
  rw [i2 c hc]
  unfold hgN
  rw [bt_t2, hgD_tb h hc, hgD_tb h hc]
  constructor
  · rintro (z | ⟨k, k1, k2, e1, e2, e3⟩)
    · exact absurd z (by simp)
    · obtain ⟨-, -, -, ⟨d, hd, ed⟩, -⟩ := h.2.2.1 k (by omega)
      rw [ed, show ix (nI d) = d from nI_clamp (by omega)] at e2
      rcases (show d = 0 ∨ d = 1 by omega) with rfl | rfl
      · exact Or.inl ⟨k, by omega, e1, ed, e2, e3⟩
      · exact Or.inr ⟨k, by omega, e1, ed, e2, e3⟩
  · rintro (⟨k, hk, e1, e2, e3, e4⟩ | ⟨k, hk, e1, e2, e3, e4⟩)
    · exact Or.inr ⟨k, by omega, by omega, e1, by rw [e2]; exact e3, e4⟩
    · exact Or.inr ⟨k, by omega, by omega, e1, by rw [e2]; exact e3, e4⟩
theorem x_hgD (hS : SP P) (h : CW I R P 7 w t m nb ns ne) {x d a lp : Nat} (hx : x < nb) (hd : d < 2) (ha : a < 128) (hlp : P (am_pk (7 + 8 + x) 0 1) 10 = lp) {ex : Int32 → Option Int32} {r : Nat → Int32 → Nat → Int32 → Int32 → Option Int32} : fR_hangsOn_B16 (put I R) P ex r (am_pk 7 0 11) (nI x) lp (nI a) (nI d) = r (am_pk 7 0 11) (nI x) lp (nI (a ||| hgD w t ns x d)) (nI (d + 1)) := by
  have hle := h.le
  have hb := h.1
  have hw := (h.2.2.1.2.1 x hx).2.2.2.2.2.2.2.2
  have hln := h.2.2.2.1 x hx
  rw [hlp] at hln
  have n2 : fL_names (put I R) P lp 2 (nI (102 + d)) = some (bI ((102 + d) ∈ t x 2)) := x_names (l := 2) hln hw (by decide) (by omega)
  have n3 : fL_names (put I R) P lp 3 (nI (102 + d)) = some (bI ((102 + d) ∈ t x 3)) := x_names (l := 3) hln hw (by decide) (by omega)
  have e102 : (102 : Int32) + nI d = nI (102 + d) := nI_add 102 d
  unfold fR_hangsOn_B16 fR_hangsOn_J63 fR_hangsOn_J80
  rw [if_neg (by rw [l_2, nI_leI (by omega) (by omega)]; omega), sm_ck_pos (am_t_pk (by decide)), x_seamInto hS hb hx hle.1 hd h.c6, h.2.2.2.2 x hx d hd, Option.bind_some, bd_eq, e102, n2, n3]
  unfold hgD
  rcases sinF_cases w x d ns 0 with e | ⟨k, k1, k2, e, -⟩
  · rw [e, if_pos (by decide), cif_t (Or.inl (by decide)), Nat.or_zero, bd_eq, nI_1]
  · obtain ⟨f, hf, ef, efi⟩ := h.2.2.1.f7 (s := k) (by omega)
    have hk14 : k < 14 := by omega
    have r0 : R (7 + 15 + k) 0 = nI f := (h.rm (show k < ns by omega) (by decide)).trans ef
    have yes : nmF (t x) d → cif (nI k < 0 ∨ ¬ nmF (t x) d) 0 (2 ^ ix (w 11 (ix (nI k)))) = 2 ^ f := fun hn => by
      rw [cif_f (fun z => z.elim (fun y => absurd y (nI_pos (by omega))) (fun y => y hn)), show ix (nI k) = k from nI_clamp (by omega), efi]
    rw [e, if_neg (nI_pos (by omega)), sm_ck_pos hln.1, Option.bind_some, bI_ifn, Option.bind_some, bI_if, sm_ck_pos (am_t_pk (by decide)), sp_w10 hS hb, nI_clamp (show k < 2 ^ 31 by omega), sp_sm hS hb hk14, sm_ck_pos (sm_ia_nI (by decide) (by decide) (by decide) hk14), sm_ck_pos (am_t_pk (by decide)), put_rd (sc_sm hb hk14), r0, bd_eq, bd_eq, (bt_or a ha f hf).1, bd_eq, nI_1]
    by_cases q2 : (102 + d) ∈ t x 2
    · rw [if_pos q2, yes (Or.inl q2)]
    · rw [if_neg q2]
      by_cases q3 : (102 + d) ∈ t x 3
      · rw [if_pos q3, yes (Or.inr q3)]
      · rw [if_neg q3, cif_t (Or.inr (fun z => z.elim q2 q3)), Nat.or_zero]
theorem x_hangs (hS : SP P) (h : CW I R P 7 w t m nb ns ne) {x : Nat} (hx : x < nb) : fR_hangsOn (put I R) P (am_pk 311 0 7) (am_pk 7 0 11) (nI x) = some (nI (hgN w t ns x)) := by
  have hle := h.le
  have hb := h.1
  have hx7 : x < 7 := by omega
  unfold fR_hangsOn
  rw [sm_ck_pos (am_t_pk (by decide)), sp_w9 hS hb, nI_clamp (show x < 2 ^ 31 by omega), sp_bx hS hb hx7, sm_ck_pos (sm_ia_nI (by decide) (by decide) (by decide) hx7), sm_ck_pos (am_t_pk (by decide)), bd_eq, sm_ck_pos (h.2.2.2.1 x hx).1, show sm_fu = 19997 + 1 + 1 + 1 from rfl]
  show fR_hangsOn_B16 _ _ _ _ _ _ _ (nI 0) (nI 0) = _
  rw [x_hgD hS h hx (by decide) (by decide) rfl]
  show fR_hangsOn_B16 _ _ _ _ _ _ _ _ (nI 1) = _
  rw [x_hgD hS h hx (by decide) (by rw [Nat.zero_or]; exact hgD_lt h.2.2.1) rfl]
  show fR_hangsOn_B16 _ _ _ _ _ _ _ _ (nI 2) = _
  unfold fR_hangsOn_B16
  rw [if_pos (by decide), Nat.zero_or]
  rfl
theorem m_hangsL (hS : SP P) (h : MW R w t m nb ns ne) {x : Nat} (hx : x < nb) : ∀ (n s fu a : Nat), n < fu → s + n = ns → a < 128 → fM_hangsOn_L4 (put I R) P (fun l2 => some l2) fu (am_pk 330 0 13) (nI x) (nI a) (nI s) = some (nI (mgL w t x n s a))
  | 0, s, fu, a, h1, h2, ha => by
    obtain ⟨fu, rfl⟩ : ∃ n', fu = n' + 1 := ⟨fu - 1, by omega⟩
    have hle := h.le
    show fM_hangsOn_B4 _ _ _ _ _ _ _ _ = _
    unfold fM_hangsOn_B4
    simp (maxSteps := 1000000) (disch := first | omega | assumption) only [sm_bd, Option.bind_some, ck_tt, ck_in, ck_iw, ck_ia, ck_iz, ck_01, ck_in_0, ck_iw_0, cl_0, ck_in_1, ck_iw_1, cl_1, ck_in_2, ck_iw_2, cl_2, ck_in_3, ck_iw_3, cl_3, ck_in_4, ck_iw_4, cl_4, ck_in_5, ck_iw_5, cl_5, ck_in_6, ck_iw_6, cl_6, ck_in_7, ck_iw_7, cl_7, ck_in_8, ck_iw_8, cl_8, ck_in_9, ck_iw_9, cl_9, nI_clamp, lm_2, lm_4, lm_10, lm_14, lm_24, lm_80, lm_100, lm_1500, nI_add, nI_1, pk_m1, nI_pred, sp_330_0 hS, sp_330_1 hS, sp_330_2 hS, sp_330_3 hS, sp_330_4 hS, sp_330_5 hS, sp_330_6 hS, sp_330_7 hS, sp_330_8 hS, sp_330_9 hS, sp_330_10 hS, sp_330_11 hS, sp_330_12 hS, sp_330_13 hS, sp_330_14 hS, sp_330_15 hS, sp_330_16 hS, sp_330_17 hS, sp_330_18 hS, sp_330_19 hS, sp_330_20 hS, sp_330_21 hS, sp_330_22 hS, sp_330_23 hS, sp_330_24 hS, sp_330_25 hS, sp_330_26 hS, sp_330_30 hS, sp_330_31 hS, sp_330_33 hS, sp_330_34 hS, sp_330_35 hS, sp_330_36 hS, sp_330_41 hS, sp_330_42 hS, sp_330_43 hS, sp_330_44 hS, sp_330_47 hS, sp_330_48 hS, sp_330_49 hS, sp_330_51 hS, sp_330_52 hS, sp_330_54 hS, sp_330_55 hS, sp_330_56 hS, sp_330_57 hS, sp_330_58 hS, sp_330_61 hS, put_rd sc_330, put_up sc_330, put_rd sc_331, put_up sc_331, put_rd sc_332, put_up sc_332, put_rd sc_333, put_up sc_333, put_rd sc_334, put_up sc_334, put_rd sc_335, put_up sc_335, put_rd sc_336, put_up sc_336, put_rd sc_337, put_up sc_337, put_rd sc_338, put_up sc_338, put_rd sc_339, put_up sc_339, put_rd sc_340, put_up sc_340, put_rd sc_341, put_up sc_341, put_rd sc_342, put_up sc_342, put_rd sc_343, put_up sc_343, put_rd sc_344, put_up sc_344, put_rd sc_345, put_up sc_345, put_rd sc_346, put_up sc_346, put_rd sc_347, put_up sc_347, put_rd sc_348, put_up sc_348, put_rd sc_349, put_up sc_349, put_rd sc_350, put_up sc_350, put_rd sc_351, put_up sc_351, put_rd sc_352, put_up sc_352, put_rd sc_353, put_up sc_353, put_rd sc_354, put_up sc_354, put_rd sc_355, put_up sc_355, put_rd sc_356, put_up sc_356, put_rd sc_357, put_up sc_357, put_rd sc_358, put_up sc_358, put_rd sc_359, put_up sc_359, put_rd sc_360, put_up sc_360, put_rd sc_361, put_up sc_361, put_rd sc_362, put_up sc_362, put_rd sc_363, put_up sc_363, put_rd sc_364, put_up sc_364, put_rd sc_365, put_up sc_365, put_rd sc_366, put_up sc_366, put_rd sc_367, put_up sc_367, put_rd sc_368, put_up sc_368, put_rd sc_369, put_up sc_369, put_rd sc_370, put_up sc_370, put_rd sc_371, put_up sc_371, put_rd sc_372, put_up sc_372, put_rd sc_373, put_up sc_373, put_rd sc_374, put_up sc_374, put_rd sc_375, put_up sc_375, put_rd sc_376, put_up sc_376, put_rd sc_377, put_up sc_377, put_rd sc_378, put_up sc_378, h.n1]
    rw [if_pos (by rw [nI_leI (by omega) (by omega)]; omega)]
    rfl
  | n + 1, s, fu, a, h1, h2, ha => by
    obtain ⟨fu, rfl⟩ : ∃ n', fu = n' + 1 := ⟨fu - 1, by omega⟩
    have hle := h.le
    have hs : s < ns := by omega
    obtain ⟨fb, fo, tb, td, hfb, hfo, htb, htd, e11, e12, e13, e14, e46, e47⟩ := h.ends hs
    have nm := m_names (I := I) (R := R) hS (show x < 7 by omega) htd (h.2.2 x hx)
    have hfb7 : fb < 7 := by omega
    show fM_hangsOn_B4 _ _ _ _ _ _ _ _ = _
    unfold fM_hangsOn_B4 fM_hangsOn_J58
    simp (maxSteps := 1000000) (disch := first | omega | assumption) only [sm_bd, Option.bind_some, ck_tt, ck_in, ck_iw, ck_ia, ck_iz, ck_01, ck_in_0, ck_iw_0, cl_0, ck_in_1, ck_iw_1, cl_1, ck_in_2, ck_iw_2, cl_2, ck_in_3, ck_iw_3, cl_3, ck_in_4, ck_iw_4, cl_4, ck_in_5, ck_iw_5, cl_5, ck_in_6, ck_iw_6, cl_6, ck_in_7, ck_iw_7, cl_7, ck_in_8, ck_iw_8, cl_8, ck_in_9, ck_iw_9, cl_9, nI_clamp, lm_2, lm_4, lm_10, lm_14, lm_24, lm_80, lm_100, lm_1500, nI_add, nI_1, pk_m1, nI_pred, sp_330_0 hS, sp_330_1 hS, sp_330_2 hS, sp_330_3 hS, sp_330_4 hS, sp_330_5 hS, sp_330_6 hS, sp_330_7 hS, sp_330_8 hS, sp_330_9 hS, sp_330_10 hS, sp_330_11 hS, sp_330_12 hS, sp_330_13 hS, sp_330_14 hS, sp_330_15 hS, sp_330_16 hS, sp_330_17 hS, sp_330_18 hS, sp_330_19 hS, sp_330_20 hS, sp_330_21 hS, sp_330_22 hS, sp_330_23 hS, sp_330_24 hS, sp_330_25 hS, sp_330_26 hS, sp_330_30 hS, sp_330_31 hS, sp_330_33 hS, sp_330_34 hS, sp_330_35 hS, sp_330_36 hS, sp_330_41 hS, sp_330_42 hS, sp_330_43 hS, sp_330_44 hS, sp_330_47 hS, sp_330_48 hS, sp_330_49 hS, sp_330_51 hS, sp_330_52 hS, sp_330_54 hS, sp_330_55 hS, sp_330_56 hS, sp_330_57 hS, sp_330_58 hS, sp_330_61 hS, put_rd sc_330, put_up sc_330, put_rd sc_331, put_up sc_331, put_rd sc_332, put_up sc_332, put_rd sc_333, put_up sc_333, put_rd sc_334, put_up sc_334, put_rd sc_335, put_up sc_335, put_rd sc_336, put_up sc_336, put_rd sc_337, put_up sc_337, put_rd sc_338, put_up sc_338, put_rd sc_339, put_up sc_339, put_rd sc_340, put_up sc_340, put_rd sc_341, put_up sc_341, put_rd sc_342, put_up sc_342, put_rd sc_343, put_up sc_343, put_rd sc_344, put_up sc_344, put_rd sc_345, put_up sc_345, put_rd sc_346, put_up sc_346, put_rd sc_347, put_up sc_347, put_rd sc_348, put_up sc_348, put_rd sc_349, put_up sc_349, put_rd sc_350, put_up sc_350, put_rd sc_351, put_up sc_351, put_rd sc_352, put_up sc_352, put_rd sc_353, put_up sc_353, put_rd sc_354, put_up sc_354, put_rd sc_355, put_up sc_355, put_rd sc_356, put_up sc_356, put_rd sc_357, put_up sc_357, put_rd sc_358, put_up sc_358, put_rd sc_359, put_up sc_359, put_rd sc_360, put_up sc_360, put_rd sc_361, put_up sc_361, put_rd sc_362, put_up sc_362, put_rd sc_363, put_up sc_363, put_rd sc_364, put_up sc_364, put_rd sc_365, put_up sc_365, put_rd sc_366, put_up sc_366, put_rd sc_367, put_up sc_367, put_rd sc_368, put_up sc_368, put_rd sc_369, put_up sc_369, put_rd sc_370, put_up sc_370, put_rd sc_371, put_up sc_371, put_rd sc_372, put_up sc_372, put_rd sc_373, put_up sc_373, put_rd sc_374, put_up sc_374, put_rd sc_375, put_up sc_375, put_rd sc_376, put_up sc_376, put_rd sc_377, put_up sc_377, put_rd sc_378, put_up sc_378, h.n1, e47, e46, d10 (show tb < 100 by omega) (show td < 10 by omega), r10 (show tb < 100 by omega) (show td < 10 by omega), d10 (show fb < 100 by omega) (show fo < 10 by omega), nm, bI_if, (bt_or a ha fb hfb7).1]
    rw [if_neg (by rw [nI_leI (by omega) (by omega)]; omega)]
    show _ = some (nI (mgL w t x n (s + 1) (cif (w 13 s = nI x ∧ nmF (t x) (ix (w 14 s))) (a ||| 2 ^ ix (w 11 s)) a)))
    rw [e13, e14, e11, show ix (nI td) = td from nI_clamp (by omega), show ix (nI fb) = fb from nI_clamp (by omega)]
    by_cases q : nI tb = nI x
    · rw [if_neg (fun z => z q)]
      by_cases q2 : nmF (t x) td
      · rw [if_pos q2, cif_t ⟨q, q2⟩]
        exact m_hangsL hS h hx n (s + 1) fu _ (by omega) (by omega) (bt_or a ha fb hfb7).2
      · rw [if_neg q2, cif_f (fun z => q2 z.2)]
        exact m_hangsL hS h hx n (s + 1) fu _ (by omega) (by omega) ha
    · rw [if_pos q, cif_f (fun z => q z.1)]
      exact m_hangsL hS h hx n (s + 1) fu _ (by omega) (by omega) ha
theorem m_hangs (hS : SP P) (h : MW R w t m nb ns ne) {x : Nat} (hx : x < nb) : fM_hangsOn (put I R) P (am_pk 330 0 13) (nI x) = some (nI (hgN w t ns x)) := by
  have hle := h.le
  unfold fM_hangsOn
  refine (m_hangsL hS h hx ns 0 sm_fu 0 (sm_fu_lt (by omega)) (by omega) (by decide)).trans ?_
  rw [mg_eq h.2.1]
theorem op_hangs (h : INV I R P nx w t m nb ns ne) {a : Int32} : OK1 I R P nx (fX_hangs P (am_pk 2 0 12) a) (fM_hangs P (am_pk 330 0 13) a) := by
  have hS := h.sp
  have hle := h.mw.le
  by_cases hB : 0 ≤ a ∧ a < nI nb
  · obtain ⟨x, hx, rfl⟩ := ran_ix hB (by omega)
    refine ⟨nI (hgN w t ns x), R, R, ?_, ?_, w, t, m, nb, ns, ne, h⟩
    · unfold fX_hangs
      rw [sm_ck_pos (am_t_pk (by decide)), sp_2_0 hS, sm_ck_pos (am_t_pk (by decide)), h.cw.hasBox, Option.bind_some, bI_ifn, if_pos hB, sp_2_11 hS, sm_ck_pos (am_t_pk (by decide)), x_hangs hS h.cw hx, Option.bind_some]
    · unfold fM_hangs
      rw [sm_ck_pos (am_t_pk (by decide)), h.mw.isB hS, Option.bind_some, bI_if, if_pos hB, m_hangs hS h.mw hx, Option.bind_some]
  · refine h.fl (v := -1000001) (k := 0) (by decide) ?_ (fun R1 hM hc1 => ?_)
    · unfold fX_hangs
      rw [sm_ck_pos (am_t_pk (by decide)), sp_2_0 hS, sm_ck_pos (am_t_pk (by decide)), h.cw.hasBox, Option.bind_some, bI_ifn, if_neg hB, x_f1 hS, Option.bind_some]
    · unfold fM_hangs
      rw [sm_ck_pos (am_t_pk (by decide)), hM.isB hS, Option.bind_some, bI_if, if_neg hB, m_f1 hS, Option.bind_some]
end Hangs
