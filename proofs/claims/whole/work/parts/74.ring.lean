/-! ===== rings ===== -/
theorem bt_sub : ∀ g, g < 128 → ∀ s, s < 128 → (g ||| s) = s → g ≠ s → bcn g + 1 ≤ bcn s := by decide +kernel
theorem bt_127 : ∀ g, g < 128 → 7 ≤ bcn g → g = 127 := by decide +kernel
theorem bt_sup : ∀ s, s < 128 → (127 ||| s) = s → s = 127 := by decide +kernel
theorem bt_tr {a b c : Nat} (h1 : (a ||| b) = b) (h2 : (b ||| c) = c) : (a ||| c) = c := by
  rw [← h2, ← Nat.or_assoc, h1]
/-- one round: what the boxes of a set hang on is added -/
noncomputable def rdL (h : Nat → Nat) (g : Nat) : Nat → Nat → Nat → Nat
  | 0, _, s => s
  | n + 1, o, s => rdL h g n (o + 1) (if g.testBit o = true then s ||| h o else s)
theorem rdL_s {h : Nat → Nat} {g : Nat} : ∀ (n o s : Nat), (∀ j, o ≤ j → j < o + n → h j < 128) → s < 128 → rdL h g n o s < 128 ∧ (s ||| rdL h g n o s) = rdL h g n o s
  | 0, o, s, _, hs => ⟨hs, Nat.or_self s⟩
  | n + 1, o, s, hh, hs => by
    show rdL h g n (o + 1) _ < 128 ∧ (s ||| rdL h g n (o + 1) _) = rdL h g n (o + 1) _
    by_cases q : g.testBit o = true
    · rw [if_pos q]
      obtain ⟨i1, i2⟩ := rdL_s (h := h) (g := g) n (o + 1) (s ||| h o) (fun j h1 h2 => hh j (by omega) (by omega)) (bt_o2 hs (hh o (by omega) (by omega)))
      exact ⟨i1, bt_tr (by rw [← Nat.or_assoc, Nat.or_self]) i2⟩
    · rw [if_neg q]
      exact rdL_s n (o + 1) s (fun j h1 h2 => hh j (by omega) (by omega)) hs
/-- rounds until nothing is added, r at most -/
noncomputable def rcF (G : Nat → Nat) : Nat → Nat → Nat → Nat
  | 0, s, _ => s
  | r + 1, s, g => if g = s then s else rcF G r (G s) s
theorem rcF_lt {G : Nat → Nat} (hG : ∀ s, s < 128 → G s < 128) : ∀ (r s g : Nat), s < 128 → rcF G r s g < 128
  | 0, s, g, h => h
  | r + 1, s, g, h => by
    show (if g = s then s else rcF G r (G s) s) < 128
    split
    · exact h
    · exact rcF_lt hG r (G s) s (hG s h)
noncomputable def rcN (w : am_M) (t : Nat → Nat → List Nat) (nb ns x : Nat) : Nat := rcF (fun s => rdL (hgN w t ns) s nb 0 s) 7 (hgN w t ns x) 0
noncomputable def rgL (rc : Nat → Nat) (x g : Nat) : Nat → Nat → Nat → Nat
  | 0, _, a => a
  | n + 1, i, a => rgL rc x g n (i + 1) (if g.testBit i = true ∧ (rc i).testBit x = true then a ||| 2 ^ i else a)
noncomputable def rgN (w : am_M) (t : Nat → Nat → List Nat) (nb ns x : Nat) : Nat := rgL (rcN w t nb ns) x (rcN w t nb ns x) nb 0 0
theorem bt_oi : ∀ a, a < 128 → ∀ b, b < 128 → nI a ||| nI b = nI (a ||| b) := by decide +kernel
section Ring
variable {I R : am_M} {P : am_Q} {nx : Nat} {w : am_M} {t : Nat → Nat → List Nat} {m nb ns ne : Nat}
theorem G_lt (h : wiv w t m nb ns ne) {s : Nat} (hs : s < 128) : rdL (hgN w t ns) s nb 0 s < 128 := (rdL_s nb 0 s (fun j _ _ => hgN_lt h) hs).1
theorem rcN_lt (h : wiv w t m nb ns ne) {x : Nat} : rcN w t nb ns x < 128 := rcF_lt (fun s hs => G_lt h hs) 7 _ 0 (hgN_lt h)
theorem x_rdL (hS : SP P) (h : CW I R P 7 w t m nb ns ne) {g : Nat} {l5 : Int32} (hg : g < 128) {ex : Nat → Nat → Int32 → Int32 → Int32 → Option Int32} : ∀ (n o fu s : Nat), n < fu → o + n = nb → s < 128 → fR_reachedFrom_L32 (put I R) P ex fu (am_pk 311 0 7) (am_pk 7 0 11) (nI s) (nI g) l5 (nI o) = ex (am_pk 311 0 7) (am_pk 7 0 11) (nI (rdL (hgN w t ns) g n o s)) (nI g) l5
  | 0, o, fu, s, h1, h2, hs => by
    obtain ⟨fu, rfl⟩ : ∃ n', fu = n' + 1 := ⟨fu - 1, by omega⟩
    have hle := h.le
    show fR_reachedFrom_B32 _ _ _ _ _ _ _ _ _ _ = _
    unfold fR_reachedFrom_B32
    rw [sm_ck_pos (am_t_pk (by decide)), put_rd (sc_w0 h.1), h.c6, if_pos (by rw [nI_leI (by omega) (by omega)]; omega)]
    rfl
  | n + 1, o, fu, s, h1, h2, hs => by
    obtain ⟨fu, rfl⟩ : ∃ n', fu = n' + 1 := ⟨fu - 1, by omega⟩
    have hle := h.le
    have ho : o < nb := by omega
    have bt := bt_tst g hg o (by omega)
    have hh := hgN_lt h.2.2.1 (x := o)
    show fR_reachedFrom_B32 _ _ _ _ _ _ _ _ _ _ = ex _ _ (nI (rdL (hgN w t ns) g n (o + 1) (if g.testBit o = true then s ||| hgN w t ns o else s))) _ _
    unfold fR_reachedFrom_B32 fR_reachedFrom_J62
    rw [sm_ck_pos (am_t_pk (by decide)), put_rd (sc_w0 h.1), h.c6, if_neg (by rw [nI_leI (by omega) (by omega)]; omega), sm_ck_pos (am_t_pk (by decide)), x_hangs hS h ho, Option.bind_some, bd_eq, bd_eq, bd_eq, nI_1, bt_oi s hs _ hh]
    by_cases q : g.testBit o = true
    · rw [if_neg (fun z => z (bt.mpr q)), if_pos q]
      exact x_rdL hS h hg n (o + 1) fu _ (by omega) (by omega) (bt_o2 hs hh)
    · rw [if_pos (fun z => q (bt.mp z)), if_neg q]
      exact x_rdL hS h hg n (o + 1) fu _ (by omega) (by omega) hs
theorem x_rcL (hS : SP P) (h : CW I R P 7 w t m nb ns ne) : ∀ (r fu s g : Nat), r < fu → r ≤ 7 → s < 128 → g < 128 → fR_reachedFrom_L13 (put I R) P (fun l3 => some l3) fu (am_pk 311 0 7) (am_pk 7 0 11) (nI s) (nI g) (nI (7 - r)) = some (nI (rcF (fun s => rdL (hgN w t ns) s nb 0 s) r s g))
  | 0, fu, s, g, h1, h2, hs, hg => by
    obtain ⟨fu, rfl⟩ : ∃ n', fu = n' + 1 := ⟨fu - 1, by omega⟩
    show fR_reachedFrom_B13 _ _ _ _ _ _ _ _ _ = _
    unfold fR_reachedFrom_B13
    rw [if_pos (by decide)]
    rfl
  | r + 1, fu, s, g, h1, h2, hs, hg => by
    obtain ⟨fu, rfl⟩ : ∃ n', fu = n' + 1 := ⟨fu - 1, by omega⟩
    have hle := h.le
    show fR_reachedFrom_B13 _ _ _ _ _ _ _ _ _ = some (nI (if g = s then s else _))
    unfold fR_reachedFrom_B13
    rw [if_neg (by rw [l_7, nI_leI (by omega) (by omega)]; omega)]
    by_cases q : g = s
    · rw [if_pos (by rw [q]), if_pos q]
    · rw [if_neg (by rw [nI_eq (by omega) (by omega)]; exact q), if_neg q]
      refine (x_rdL hS h hs nb 0 sm_fu s (sm_fu_lt (by omega)) (by omega) hs).trans ?_
      rw [bd_eq, nI_1, show 7 - (r + 1) + 1 = 7 - r by omega]
      exact x_rcL hS h r fu _ s (by omega) (by omega) (G_lt h.2.2.1 hs) hs
theorem x_rc (hS : SP P) (h : CW I R P 7 w t m nb ns ne) {x : Nat} (hx : x < nb) : fR_reachedFrom (put I R) P (am_pk 311 0 7) (am_pk 7 0 11) (nI x) = some (nI (rcN w t nb ns x)) := by
  unfold fR_reachedFrom
  rw [sm_ck_pos (am_t_pk (by decide)), sm_ck_pos (am_t_pk (by decide)), x_hangs hS h hx, Option.bind_some]
  exact x_rcL hS h 7 sm_fu _ 0 (sm_fu_lt (by decide)) (by decide) (hgN_lt h.2.2.1) (by decide)
theorem x_rgL (hS : SP P) (h : CW I R P 7 w t m nb ns ne) {x g : Nat} (hx : x < nb) (hg : g < 128) : ∀ (n i fu a : Nat), n < fu → i + n = nb → a < 128 → fR_ringOf_L13 (put I R) P (fun l4 => some l4) fu (am_pk 311 0 7) (am_pk 7 0 11) (nI x) (nI g) (nI a) (nI i) = some (nI (rgL (rcN w t nb ns) x g n i a))
  | 0, i, fu, a, h1, h2, ha => by
    obtain ⟨fu, rfl⟩ : ∃ n', fu = n' + 1 := ⟨fu - 1, by omega⟩
    have hle := h.le
    show fR_ringOf_B13 _ _ _ _ _ _ _ _ _ _ = _
    unfold fR_ringOf_B13
    rw [sm_ck_pos (am_t_pk (by decide)), put_rd (sc_w0 h.1), h.c6, if_pos (by rw [nI_leI (by omega) (by omega)]; omega)]
    rfl
  | n + 1, i, fu, a, h1, h2, ha => by
    obtain ⟨fu, rfl⟩ : ∃ n', fu = n' + 1 := ⟨fu - 1, by omega⟩
    have hle := h.le
    have hi : i < nb := by omega
    have bt := bt_tst g hg i (by omega)
    have bt2 := bt_tst _ (rcN_lt h.2.2.1 (x := i)) x (by omega)
    have bo := bt_or a ha i (by omega)
    show fR_ringOf_B13 _ _ _ _ _ _ _ _ _ _ = some (nI (rgL _ x g n (i + 1) (if g.testBit i = true ∧ (rcN w t nb ns i).testBit x = true then a ||| 2 ^ i else a)))
    unfold fR_ringOf_B13 fR_ringOf_J56
    rw [sm_ck_pos (am_t_pk (by decide)), put_rd (sc_w0 h.1), h.c6, if_neg (by rw [nI_leI (by omega) (by omega)]; omega), sm_ck_pos (am_t_pk (by decide)), x_rc hS h hi, Option.bind_some, bd_eq, bd_eq, bd_eq, nI_1, bo.1]
    by_cases q : g.testBit i = true
    · rw [if_neg (fun z => z (bt.mpr q))]
      by_cases q2 : (rcN w t nb ns i).testBit x = true
      · rw [if_neg (fun z => z (bt2.mpr q2)), if_pos ⟨q, q2⟩]
        exact x_rgL hS h hx hg n (i + 1) fu _ (by omega) (by omega) bo.2
      · rw [if_pos (fun z => q2 (bt2.mp z)), if_neg (fun z => q2 z.2)]
        exact x_rgL hS h hx hg n (i + 1) fu _ (by omega) (by omega) ha
    · rw [if_pos (fun z => q (bt.mp z)), if_neg (fun z => q z.1)]
      exact x_rgL hS h hx hg n (i + 1) fu _ (by omega) (by omega) ha
theorem x_ring (hS : SP P) (h : CW I R P 7 w t m nb ns ne) {x : Nat} (hx : x < nb) : fR_ringOf (put I R) P (am_pk 311 0 7) (am_pk 7 0 11) (nI x) = some (nI (rgN w t nb ns x)) := by
  have hle := h.le
  unfold fR_ringOf
  rw [sm_ck_pos (am_t_pk (by decide)), sm_ck_pos (am_t_pk (by decide)), x_rc hS h hx, Option.bind_some]
  exact x_rgL hS h hx (rcN_lt h.2.2.1) nb 0 sm_fu 0 (sm_fu_lt (by omega)) (by omega) (by decide)
theorem m_rdL (hS : SP P) (h : MW R w t m nb ns ne) {g : Nat} (hg : g < 128) {ex : Nat → Int32 → Int32 → Option Int32} : ∀ (n o fu s : Nat), n < fu → o + n = nb → s < 128 → fM_allOn_L18 (put I R) P ex fu (am_pk 330 0 13) (nI s) (nI g) (nI o) = ex (am_pk 330 0 13) (nI (rdL (hgN w t ns) g n o s)) (nI g)
  | 0, o, fu, s, h1, h2, hs => by
    obtain ⟨fu, rfl⟩ : ∃ n', fu = n' + 1 := ⟨fu - 1, by omega⟩
    have hle := h.le
    show fM_allOn_B18 _ _ _ _ _ _ _ _ = _
    unfold fM_allOn_B18
    simp (maxSteps := 1000000) (disch := first | omega | assumption) only [sm_bd, Option.bind_some, ck_tt, ck_in, ck_iw, ck_ia, ck_iz, ck_01, ck_in_0, ck_iw_0, cl_0, ck_in_1, ck_iw_1, cl_1, ck_in_2, ck_iw_2, cl_2, ck_in_3, ck_iw_3, cl_3, ck_in_4, ck_iw_4, cl_4, ck_in_5, ck_iw_5, cl_5, ck_in_6, ck_iw_6, cl_6, ck_in_7, ck_iw_7, cl_7, ck_in_8, ck_iw_8, cl_8, ck_in_9, ck_iw_9, cl_9, nI_clamp, lm_2, lm_4, lm_10, lm_14, lm_24, lm_80, lm_100, lm_1500, nI_add, nI_1, pk_m1, nI_pred, sp_330_0 hS, sp_330_1 hS, sp_330_2 hS, sp_330_3 hS, sp_330_4 hS, sp_330_5 hS, sp_330_6 hS, sp_330_7 hS, sp_330_8 hS, sp_330_9 hS, sp_330_10 hS, sp_330_11 hS, sp_330_12 hS, sp_330_13 hS, sp_330_14 hS, sp_330_15 hS, sp_330_16 hS, sp_330_17 hS, sp_330_18 hS, sp_330_19 hS, sp_330_20 hS, sp_330_21 hS, sp_330_22 hS, sp_330_23 hS, sp_330_24 hS, sp_330_25 hS, sp_330_26 hS, sp_330_30 hS, sp_330_31 hS, sp_330_33 hS, sp_330_34 hS, sp_330_35 hS, sp_330_36 hS, sp_330_41 hS, sp_330_42 hS, sp_330_43 hS, sp_330_44 hS, sp_330_47 hS, sp_330_48 hS, sp_330_49 hS, sp_330_51 hS, sp_330_52 hS, sp_330_54 hS, sp_330_55 hS, sp_330_56 hS, sp_330_57 hS, sp_330_58 hS, sp_330_61 hS, put_rd sc_330, put_up sc_330, put_rd sc_331, put_up sc_331, put_rd sc_332, put_up sc_332, put_rd sc_333, put_up sc_333, put_rd sc_334, put_up sc_334, put_rd sc_335, put_up sc_335, put_rd sc_336, put_up sc_336, put_rd sc_337, put_up sc_337, put_rd sc_338, put_up sc_338, put_rd sc_339, put_up sc_339, put_rd sc_340, put_up sc_340, put_rd sc_341, put_up sc_341, put_rd sc_342, put_up sc_342, put_rd sc_343, put_up sc_343, put_rd sc_344, put_up sc_344, put_rd sc_345, put_up sc_345, put_rd sc_346, put_up sc_346, put_rd sc_347, put_up sc_347, put_rd sc_348, put_up sc_348, put_rd sc_349, put_up sc_349, put_rd sc_350, put_up sc_350, put_rd sc_351, put_up sc_351, put_rd sc_352, put_up sc_352, put_rd sc_353, put_up sc_353, put_rd sc_354, put_up sc_354, put_rd sc_355, put_up sc_355, put_rd sc_356, put_up sc_356, put_rd sc_357, put_up sc_357, put_rd sc_358, put_up sc_358, put_rd sc_359, put_up sc_359, put_rd sc_360, put_up sc_360, put_rd sc_361, put_up sc_361, put_rd sc_362, put_up sc_362, put_rd sc_363, put_up sc_363, put_rd sc_364, put_up sc_364, put_rd sc_365, put_up sc_365, put_rd sc_366, put_up sc_366, put_rd sc_367, put_up sc_367, put_rd sc_368, put_up sc_368, put_rd sc_369, put_up sc_369, put_rd sc_370, put_up sc_370, put_rd sc_371, put_up sc_371, put_rd sc_372, put_up sc_372, put_rd sc_373, put_up sc_373, put_rd sc_374, put_up sc_374, put_rd sc_375, put_up sc_375, put_rd sc_376, put_up sc_376, put_rd sc_377, put_up sc_377, put_rd sc_378, put_up sc_378, h.n0]
    rw [if_pos (by rw [nI_leI (by omega) (by omega)]; omega)]
    rfl
  | n + 1, o, fu, s, h1, h2, hs => by
    obtain ⟨fu, rfl⟩ : ∃ n', fu = n' + 1 := ⟨fu - 1, by omega⟩
    have hle := h.le
    have ho : o < nb := by omega
    have bt := bt_tst g hg o (by omega)
    have hh := hgN_lt h.2.1 (x := o)
    have z0 : nI s ||| 0 = nI s := by
      have := bt_oi s hs 0 (by decide)
      rw [Nat.or_zero] at this
      exact this
    show fM_allOn_B18 _ _ _ _ _ _ _ _ = ex _ (nI (rdL (hgN w t ns) g n (o + 1) (if g.testBit o = true then s ||| hgN w t ns o else s))) _
    unfold fM_allOn_B18 fM_allOn_J50
    simp (maxSteps := 1000000) (disch := first | omega | assumption) only [sm_bd, Option.bind_some, ck_tt, ck_in, ck_iw, ck_ia, ck_iz, ck_01, ck_in_0, ck_iw_0, cl_0, ck_in_1, ck_iw_1, cl_1, ck_in_2, ck_iw_2, cl_2, ck_in_3, ck_iw_3, cl_3, ck_in_4, ck_iw_4, cl_4, ck_in_5, ck_iw_5, cl_5, ck_in_6, ck_iw_6, cl_6, ck_in_7, ck_iw_7, cl_7, ck_in_8, ck_iw_8, cl_8, ck_in_9, ck_iw_9, cl_9, nI_clamp, lm_2, lm_4, lm_10, lm_14, lm_24, lm_80, lm_100, lm_1500, nI_add, nI_1, pk_m1, nI_pred, sp_330_0 hS, sp_330_1 hS, sp_330_2 hS, sp_330_3 hS, sp_330_4 hS, sp_330_5 hS, sp_330_6 hS, sp_330_7 hS, sp_330_8 hS, sp_330_9 hS, sp_330_10 hS, sp_330_11 hS, sp_330_12 hS, sp_330_13 hS, sp_330_14 hS, sp_330_15 hS, sp_330_16 hS, sp_330_17 hS, sp_330_18 hS, sp_330_19 hS, sp_330_20 hS, sp_330_21 hS, sp_330_22 hS, sp_330_23 hS, sp_330_24 hS, sp_330_25 hS, sp_330_26 hS, sp_330_30 hS, sp_330_31 hS, sp_330_33 hS, sp_330_34 hS, sp_330_35 hS, sp_330_36 hS, sp_330_41 hS, sp_330_42 hS, sp_330_43 hS, sp_330_44 hS, sp_330_47 hS, sp_330_48 hS, sp_330_49 hS, sp_330_51 hS, sp_330_52 hS, sp_330_54 hS, sp_330_55 hS, sp_330_56 hS, sp_330_57 hS, sp_330_58 hS, sp_330_61 hS, put_rd sc_330, put_up sc_330, put_rd sc_331, put_up sc_331, put_rd sc_332, put_up sc_332, put_rd sc_333, put_up sc_333, put_rd sc_334, put_up sc_334, put_rd sc_335, put_up sc_335, put_rd sc_336, put_up sc_336, put_rd sc_337, put_up sc_337, put_rd sc_338, put_up sc_338, put_rd sc_339, put_up sc_339, put_rd sc_340, put_up sc_340, put_rd sc_341, put_up sc_341, put_rd sc_342, put_up sc_342, put_rd sc_343, put_up sc_343, put_rd sc_344, put_up sc_344, put_rd sc_345, put_up sc_345, put_rd sc_346, put_up sc_346, put_rd sc_347, put_up sc_347, put_rd sc_348, put_up sc_348, put_rd sc_349, put_up sc_349, put_rd sc_350, put_up sc_350, put_rd sc_351, put_up sc_351, put_rd sc_352, put_up sc_352, put_rd sc_353, put_up sc_353, put_rd sc_354, put_up sc_354, put_rd sc_355, put_up sc_355, put_rd sc_356, put_up sc_356, put_rd sc_357, put_up sc_357, put_rd sc_358, put_up sc_358, put_rd sc_359, put_up sc_359, put_rd sc_360, put_up sc_360, put_rd sc_361, put_up sc_361, put_rd sc_362, put_up sc_362, put_rd sc_363, put_up sc_363, put_rd sc_364, put_up sc_364, put_rd sc_365, put_up sc_365, put_rd sc_366, put_up sc_366, put_rd sc_367, put_up sc_367, put_rd sc_368, put_up sc_368, put_rd sc_369, put_up sc_369, put_rd sc_370, put_up sc_370, put_rd sc_371, put_up sc_371, put_rd sc_372, put_up sc_372, put_rd sc_373, put_up sc_373, put_rd sc_374, put_up sc_374, put_rd sc_375, put_up sc_375, put_rd sc_376, put_up sc_376, put_rd sc_377, put_up sc_377, put_rd sc_378, put_up sc_378, h.n0, m_hangs hS h ho, bt_oi s hs _ hh, z0]
    rw [if_neg (by rw [nI_leI (by omega) (by omega)]; omega)]
    by_cases q : g.testBit o = true
    · rw [if_neg (fun z => z (bt.mpr q)), if_pos q]
      exact m_rdL hS h hg n (o + 1) fu _ (by omega) (by omega) (bt_o2 hs hh)
    · rw [if_pos (fun z => q (bt.mp z)), if_neg q]
      exact m_rdL hS h hg n (o + 1) fu _ (by omega) (by omega) hs
theorem m_rcL (hS : SP P) (h : MW R w t m nb ns ne) : ∀ (r fu s g : Nat), r < fu → s < 128 → g < 128 → (g ||| s) = s → 7 ≤ bcn g + r → fM_allOn_L8 (put I R) P (fun l2 => some l2) fu (am_pk 330 0 13) (nI s) (nI g) = some (nI (rcF (fun s => rdL (hgN w t ns) s nb 0 s) r s g))
  | 0, fu, s, g, h1, hs, hg, hsub, hc => by
    obtain ⟨fu, rfl⟩ : ∃ n', fu = n' + 1 := ⟨fu - 1, by omega⟩
    have e1 := bt_127 g hg (by omega)
    subst e1
    have e2 := bt_sup s hs hsub
    subst e2
    show fM_allOn_B8 _ _ _ _ _ _ _ = _
    unfold fM_allOn_B8
    rw [if_pos rfl]
    rfl
  | r + 1, fu, s, g, h1, hs, hg, hsub, hc => by
    obtain ⟨fu, rfl⟩ : ∃ n', fu = n' + 1 := ⟨fu - 1, by omega⟩
    have hle := h.le
    show fM_allOn_B8 _ _ _ _ _ _ _ = some (nI (if g = s then s else _))
    unfold fM_allOn_B8
    by_cases q : g = s
    · rw [if_pos (by rw [q]), if_pos q]
    · rw [if_neg (by rw [nI_eq (by omega) (by omega)]; exact q), if_neg q]
      refine (m_rdL hS h hs nb 0 sm_fu s (sm_fu_lt (by omega)) (by omega) hs).trans ?_
      have hb := bt_sub g hg s hs hsub q
      exact m_rcL hS h r fu _ s (by omega) (G_lt h.2.1 hs) hs (rdL_s nb 0 s (fun j _ _ => hgN_lt h.2.1) hs).2 (by omega)
theorem m_rc (hS : SP P) (h : MW R w t m nb ns ne) {x : Nat} (hx : x < nb) : fM_allOn (put I R) P (am_pk 330 0 13) (nI x) = some (nI (rcN w t nb ns x)) := by
  unfold fM_allOn
  rw [sm_ck_pos (am_t_pk (by decide)), m_hangs hS h hx, Option.bind_some]
  exact m_rcL hS h 7 sm_fu _ 0 (sm_fu_lt (by decide)) (hgN_lt h.2.1) (by decide) (Nat.zero_or _) (by show 7 ≤ 0 + 7; omega)
theorem m_rgL (hS : SP P) (h : MW R w t m nb ns ne) {x g : Nat} (hx : x < nb) (hg : g < 128) : ∀ (n i fu a : Nat), n < fu → i + n = nb → a < 128 → fM_ringOf_L11 (put I R) P (fun l2 => some l2) fu (am_pk 330 0 13) (nI x) (nI a) (nI g) (nI i) = some (nI (rgL (rcN w t nb ns) x g n i a))
  | 0, i, fu, a, h1, h2, ha => by
    obtain ⟨fu, rfl⟩ : ∃ n', fu = n' + 1 := ⟨fu - 1, by omega⟩
    have hle := h.le
    show fM_ringOf_B11 _ _ _ _ _ _ _ _ _ = _
    unfold fM_ringOf_B11
    simp (maxSteps := 1000000) (disch := first | omega | assumption) only [sm_bd, Option.bind_some, ck_tt, ck_in, ck_iw, ck_ia, ck_iz, ck_01, ck_in_0, ck_iw_0, cl_0, ck_in_1, ck_iw_1, cl_1, ck_in_2, ck_iw_2, cl_2, ck_in_3, ck_iw_3, cl_3, ck_in_4, ck_iw_4, cl_4, ck_in_5, ck_iw_5, cl_5, ck_in_6, ck_iw_6, cl_6, ck_in_7, ck_iw_7, cl_7, ck_in_8, ck_iw_8, cl_8, ck_in_9, ck_iw_9, cl_9, nI_clamp, lm_2, lm_4, lm_10, lm_14, lm_24, lm_80, lm_100, lm_1500, nI_add, nI_1, pk_m1, nI_pred, sp_330_0 hS, sp_330_1 hS, sp_330_2 hS, sp_330_3 hS, sp_330_4 hS, sp_330_5 hS, sp_330_6 hS, sp_330_7 hS, sp_330_8 hS, sp_330_9 hS, sp_330_10 hS, sp_330_11 hS, sp_330_12 hS, sp_330_13 hS, sp_330_14 hS, sp_330_15 hS, sp_330_16 hS, sp_330_17 hS, sp_330_18 hS, sp_330_19 hS, sp_330_20 hS, sp_330_21 hS, sp_330_22 hS, sp_330_23 hS, sp_330_24 hS, sp_330_25 hS, sp_330_26 hS, sp_330_30 hS, sp_330_31 hS, sp_330_33 hS, sp_330_34 hS, sp_330_35 hS, sp_330_36 hS, sp_330_41 hS, sp_330_42 hS, sp_330_43 hS, sp_330_44 hS, sp_330_47 hS, sp_330_48 hS, sp_330_49 hS, sp_330_51 hS, sp_330_52 hS, sp_330_54 hS, sp_330_55 hS, sp_330_56 hS, sp_330_57 hS, sp_330_58 hS, sp_330_61 hS, put_rd sc_330, put_up sc_330, put_rd sc_331, put_up sc_331, put_rd sc_332, put_up sc_332, put_rd sc_333, put_up sc_333, put_rd sc_334, put_up sc_334, put_rd sc_335, put_up sc_335, put_rd sc_336, put_up sc_336, put_rd sc_337, put_up sc_337, put_rd sc_338, put_up sc_338, put_rd sc_339, put_up sc_339, put_rd sc_340, put_up sc_340, put_rd sc_341, put_up sc_341, put_rd sc_342, put_up sc_342, put_rd sc_343, put_up sc_343, put_rd sc_344, put_up sc_344, put_rd sc_345, put_up sc_345, put_rd sc_346, put_up sc_346, put_rd sc_347, put_up sc_347, put_rd sc_348, put_up sc_348, put_rd sc_349, put_up sc_349, put_rd sc_350, put_up sc_350, put_rd sc_351, put_up sc_351, put_rd sc_352, put_up sc_352, put_rd sc_353, put_up sc_353, put_rd sc_354, put_up sc_354, put_rd sc_355, put_up sc_355, put_rd sc_356, put_up sc_356, put_rd sc_357, put_up sc_357, put_rd sc_358, put_up sc_358, put_rd sc_359, put_up sc_359, put_rd sc_360, put_up sc_360, put_rd sc_361, put_up sc_361, put_rd sc_362, put_up sc_362, put_rd sc_363, put_up sc_363, put_rd sc_364, put_up sc_364, put_rd sc_365, put_up sc_365, put_rd sc_366, put_up sc_366, put_rd sc_367, put_up sc_367, put_rd sc_368, put_up sc_368, put_rd sc_369, put_up sc_369, put_rd sc_370, put_up sc_370, put_rd sc_371, put_up sc_371, put_rd sc_372, put_up sc_372, put_rd sc_373, put_up sc_373, put_rd sc_374, put_up sc_374, put_rd sc_375, put_up sc_375, put_rd sc_376, put_up sc_376, put_rd sc_377, put_up sc_377, put_rd sc_378, put_up sc_378, h.n0]
    rw [if_pos (by rw [nI_leI (by omega) (by omega)]; omega)]
    rfl
  | n + 1, i, fu, a, h1, h2, ha => by
    obtain ⟨fu, rfl⟩ : ∃ n', fu = n' + 1 := ⟨fu - 1, by omega⟩
    have hle := h.le
    have hi : i < nb := by omega
    have bt := bt_tst g hg i (by omega)
    have bt2 := bt_tst _ (rcN_lt h.2.1 (x := i)) x (by omega)
    have bo := bt_or a ha i (by omega)
    have z0 : nI a ||| 0 = nI a := by
      have := bt_oi a ha 0 (by decide)
      rw [Nat.or_zero] at this
      exact this
    show fM_ringOf_B11 _ _ _ _ _ _ _ _ _ = some (nI (rgL _ x g n (i + 1) (if g.testBit i = true ∧ (rcN w t nb ns i).testBit x = true then a ||| 2 ^ i else a)))
    unfold fM_ringOf_B11 fM_ringOf_J54 fM_ringOf_J55
    simp (maxSteps := 1000000) (disch := first | omega | assumption) only [sm_bd, Option.bind_some, ck_tt, ck_in, ck_iw, ck_ia, ck_iz, ck_01, ck_in_0, ck_iw_0, cl_0, ck_in_1, ck_iw_1, cl_1, ck_in_2, ck_iw_2, cl_2, ck_in_3, ck_iw_3, cl_3, ck_in_4, ck_iw_4, cl_4, ck_in_5, ck_iw_5, cl_5, ck_in_6, ck_iw_6, cl_6, ck_in_7, ck_iw_7, cl_7, ck_in_8, ck_iw_8, cl_8, ck_in_9, ck_iw_9, cl_9, nI_clamp, lm_2, lm_4, lm_10, lm_14, lm_24, lm_80, lm_100, lm_1500, nI_add, nI_1, pk_m1, nI_pred, sp_330_0 hS, sp_330_1 hS, sp_330_2 hS, sp_330_3 hS, sp_330_4 hS, sp_330_5 hS, sp_330_6 hS, sp_330_7 hS, sp_330_8 hS, sp_330_9 hS, sp_330_10 hS, sp_330_11 hS, sp_330_12 hS, sp_330_13 hS, sp_330_14 hS, sp_330_15 hS, sp_330_16 hS, sp_330_17 hS, sp_330_18 hS, sp_330_19 hS, sp_330_20 hS, sp_330_21 hS, sp_330_22 hS, sp_330_23 hS, sp_330_24 hS, sp_330_25 hS, sp_330_26 hS, sp_330_30 hS, sp_330_31 hS, sp_330_33 hS, sp_330_34 hS, sp_330_35 hS, sp_330_36 hS, sp_330_41 hS, sp_330_42 hS, sp_330_43 hS, sp_330_44 hS, sp_330_47 hS, sp_330_48 hS, sp_330_49 hS, sp_330_51 hS, sp_330_52 hS, sp_330_54 hS, sp_330_55 hS, sp_330_56 hS, sp_330_57 hS, sp_330_58 hS, sp_330_61 hS, put_rd sc_330, put_up sc_330, put_rd sc_331, put_up sc_331, put_rd sc_332, put_up sc_332, put_rd sc_333, put_up sc_333, put_rd sc_334, put_up sc_334, put_rd sc_335, put_up sc_335, put_rd sc_336, put_up sc_336, put_rd sc_337, put_up sc_337, put_rd sc_338, put_up sc_338, put_rd sc_339, put_up sc_339, put_rd sc_340, put_up sc_340, put_rd sc_341, put_up sc_341, put_rd sc_342, put_up sc_342, put_rd sc_343, put_up sc_343, put_rd sc_344, put_up sc_344, put_rd sc_345, put_up sc_345, put_rd sc_346, put_up sc_346, put_rd sc_347, put_up sc_347, put_rd sc_348, put_up sc_348, put_rd sc_349, put_up sc_349, put_rd sc_350, put_up sc_350, put_rd sc_351, put_up sc_351, put_rd sc_352, put_up sc_352, put_rd sc_353, put_up sc_353, put_rd sc_354, put_up sc_354, put_rd sc_355, put_up sc_355, put_rd sc_356, put_up sc_356, put_rd sc_357, put_up sc_357, put_rd sc_358, put_up sc_358, put_rd sc_359, put_up sc_359, put_rd sc_360, put_up sc_360, put_rd sc_361, put_up sc_361, put_rd sc_362, put_up sc_362, put_rd sc_363, put_up sc_363, put_rd sc_364, put_up sc_364, put_rd sc_365, put_up sc_365, put_rd sc_366, put_up sc_366, put_rd sc_367, put_up sc_367, put_rd sc_368, put_up sc_368, put_rd sc_369, put_up sc_369, put_rd sc_370, put_up sc_370, put_rd sc_371, put_up sc_371, put_rd sc_372, put_up sc_372, put_rd sc_373, put_up sc_373, put_rd sc_374, put_up sc_374, put_rd sc_375, put_up sc_375, put_rd sc_376, put_up sc_376, put_rd sc_377, put_up sc_377, put_rd sc_378, put_up sc_378, h.n0, m_rc hS h hi, bo.1, z0]
    rw [if_neg (by rw [nI_leI (by omega) (by omega)]; omega)]
    by_cases q : g.testBit i = true
    · rw [if_neg (fun z => z (bt.mpr q))]
      by_cases q2 : (rcN w t nb ns i).testBit x = true
      · rw [if_neg (fun z => z (bt2.mpr q2)), if_pos ⟨q, q2⟩]
        exact m_rgL hS h hx hg n (i + 1) fu _ (by omega) (by omega) bo.2
      · rw [if_pos (fun z => q2 (bt2.mp z)), if_neg (fun z => q2 z.2)]
        exact m_rgL hS h hx hg n (i + 1) fu _ (by omega) (by omega) ha
    · rw [if_pos (fun z => q (bt.mp z)), if_neg (fun z => q z.1)]
      exact m_rgL hS h hx hg n (i + 1) fu _ (by omega) (by omega) ha
theorem m_ring (hS : SP P) (h : MW R w t m nb ns ne) {x : Nat} (hx : x < nb) : fM_ringOf (put I R) P (am_pk 330 0 13) (nI x) = some (nI (rgN w t nb ns x)) := by
  have hle := h.le
  unfold fM_ringOf
  rw [sm_ck_pos (am_t_pk (by decide)), m_rc hS h hx, Option.bind_some]
  exact m_rgL hS h hx (rcN_lt h.2.1) nb 0 sm_fu 0 (sm_fu_lt (by omega)) (by omega) (by decide)
theorem op_ring (h : INV I R P nx w t m nb ns ne) {a : Int32} : OK1 I R P nx (fX_ring P (am_pk 2 0 12) a) (fM_ring P (am_pk 330 0 13) a) := by
  have hS := h.sp
  have hle := h.mw.le
  by_cases hB : 0 ≤ a ∧ a < nI nb
  · obtain ⟨x, hx, rfl⟩ := ran_ix hB (by omega)
    refine ⟨nI (rgN w t nb ns x), R, R, ?_, ?_, w, t, m, nb, ns, ne, h⟩
    · unfold fX_ring
      rw [sm_ck_pos (am_t_pk (by decide)), sp_2_0 hS, sm_ck_pos (am_t_pk (by decide)), h.cw.hasBox, Option.bind_some, bI_ifn, if_pos hB, sp_2_11 hS, sm_ck_pos (am_t_pk (by decide)), x_ring hS h.cw hx, Option.bind_some]
    · unfold fM_ring
      rw [sm_ck_pos (am_t_pk (by decide)), h.mw.isB hS, Option.bind_some, bI_if, if_pos hB, m_ring hS h.mw hx, Option.bind_some]
  · refine h.fl (v := -1000001) (k := 0) (by decide) ?_ (fun R1 hM hc1 => ?_)
    · unfold fX_ring
      rw [sm_ck_pos (am_t_pk (by decide)), sp_2_0 hS, sm_ck_pos (am_t_pk (by decide)), h.cw.hasBox, Option.bind_some, bI_ifn, if_neg hB, x_f1 hS, Option.bind_some]
    · unfold fM_ring
      rw [sm_ck_pos (am_t_pk (by decide)), hM.isB hS, Option.bind_some, bI_if, if_neg hB, m_f1 hS, Option.bind_some]
end Ring
