/-! ===== the calls: tests of both sides ===== -/
def OK1 (I R : am_M) (P : am_Q) (nx : Nat) (X M : am_M → Option (Int32 × am_M)) : Prop := ∃ v R1 R2, X (put I R) = some (v, put I R1) ∧ M (put I R1) = some (v, put I R2) ∧ ∃ w t m nb ns ne, INV I R2 P nx w t m nb ns ne
theorem ran_ix {a : Int32} {n : Nat} (h : 0 ≤ a ∧ a < nI n) (hn : n ≤ 10000) : ∃ x, x < n ∧ a = nI x := ix_of (by omega) (i_nl.mpr h.1) h.2
/-- ten times a box and one of two -/
def endP (nb : Nat) (v : Int32) : Prop := 0 ≤ v ∧ (0 ≤ v / 10 ∧ v / 10 < nI nb) ∧ (0 ≤ sm_rem v 10 ∧ sm_rem v 10 < 2)
theorem endP.ix {nb : Nat} {v : Int32} (h : endP nb v) (hn : nb ≤ 7) : ∃ a c, a < nb ∧ c < 2 ∧ v = nI (10 * a + c) := by
  obtain ⟨-, h2, h3⟩ := h
  obtain ⟨a, ha, e1⟩ := ran_ix h2 (by omega)
  obtain ⟨c, hc, e2⟩ := ran_ix (n := 2) h3 (by omega)
  exact ⟨a, c, ha, hc, code10 e1 e2⟩
theorem h_w05 {v : Int32} : fM_within v 0 5 = some (bI (0 ≤ v ∧ v < 6)) := by
  rw [h_within]
  exact congrArg some (bI_c (and_congr Iff.rfl (by rw [i_le, i_lt]; show v.toInt ≤ 5 ↔ v.toInt < 6; omega)))
theorem h_w01 {v : Int32} : fM_within v 0 1 = some (bI (0 ≤ v ∧ v < 2)) := by
  rw [h_within]
  exact congrArg some (bI_c (and_congr Iff.rfl (by rw [i_le, i_lt]; show v.toInt ≤ 1 ↔ v.toInt < 2; omega)))
theorem h_w02 {v : Int32} : fM_within v 0 2 = some (bI (0 ≤ v ∧ v < 3)) := by
  rw [h_within]
  exact congrArg some (bI_c (and_congr Iff.rfl (by rw [i_le, i_lt]; show v.toInt ≤ 2 ↔ v.toInt < 3; omega)))
theorem h_w03 {v : Int32} : fM_isSheet v = some (bI (0 ≤ v ∧ v < 4)) := by
  unfold fM_isSheet
  rw [h_within, Option.bind_some, ck_01]
  exact congrArg some (bI_c (and_congr Iff.rfl (by rw [i_le, i_lt]; show v.toInt ≤ 3 ↔ v.toInt < 4; omega)))
section Tests
variable {I R : am_M} {P : am_Q} {b : Nat} {w : am_M} {t : Nat → Nat → List Nat} {m nb ns ne : Nat} {v : Int32}
theorem CW.hasBox (h : CW I R P b w t m nb ns ne) : fW_hasBox (put I R) P (am_pk b 0 11) v = some (bI (0 ≤ v ∧ v < nI nb)) := by rw [w_hasBox h.1, h.c6]
theorem CW.hasSeam (h : CW I R P b w t m nb ns ne) : fW_hasSeam (put I R) P (am_pk b 0 11) v = some (bI (0 ≤ v ∧ v < nI ns)) := by rw [w_hasSeam h.1, h.c7]
theorem CW.isNum (h : CW I R P b w t m nb ns ne) : fW_isNumber (put I R) P (am_pk b 0 11) v = some (bI (0 ≤ v ∧ v < nI m)) := by rw [w_isNumber h.1, h.c0]
theorem CW.isPair (h : CW I R P b w t m nb ns ne) : fW_isPair (put I R) P (am_pk b 0 11) v = some (bI (isPr m v)) := w_isPair h.1 h.c0
theorem CW.isEnd (h : CW I R P b w t m nb ns ne) : fW_isEnd (put I R) P (am_pk b 0 11) v = some (bI (endP nb v)) := by
  unfold fW_isEnd endP
  simp (disch := first | omega | assumption) only [sm_bd, Option.bind_some, ck_tt, ck_in, ck_iw, ck_ia, ck_iz, ck_01, ck_in_0, ck_iw_0, cl_0, ck_in_1, ck_iw_1, cl_1, ck_in_2, ck_iw_2, cl_2, ck_in_3, ck_iw_3, cl_3, ck_in_4, ck_iw_4, cl_4, ck_in_5, ck_iw_5, cl_5, ck_in_6, ck_iw_6, cl_6, ck_in_7, ck_iw_7, cl_7, ck_in_8, ck_iw_8, cl_8, ck_in_9, ck_iw_9, cl_9, nI_clamp, lm_2, lm_4, lm_10, lm_14, lm_24, lm_80, lm_100, lm_1500, nI_add, nI_1, pk_m1, nI_pred, h.hasBox, h_isDoor, bI_if]
  by_cases h0 : v < 0
  · rw [if_pos h0, bI_f (fun z => absurd z.1 (i_nle.mpr h0))]
  · rw [if_neg h0]
    by_cases h1 : 0 ≤ v / 10 ∧ v / 10 < nI nb
    · rw [if_pos h1]
      by_cases h2 : 0 ≤ sm_rem v 10 ∧ sm_rem v 10 < 2
      · rw [if_pos h2, bI_t ⟨i_nl.mp h0, h1, h2⟩]
      · rw [if_neg h2, bI_f (fun z => h2 z.2.2)]
    · rw [if_neg h1, bI_f (fun z => h1 z.2.1)]
theorem MW.isB (h : MW R w t m nb ns ne) (hS : SP P) : fM_isOf (put I R) P (am_pk 330 0 13) 0 v = some (bI (0 ≤ v ∧ v < nI nb)) := m_isOf hS (j := 0) (by decide) (by have := h.le; omega) h.n0
theorem MW.isSm (h : MW R w t m nb ns ne) (hS : SP P) : fM_isOf (put I R) P (am_pk 330 0 13) 1 v = some (bI (0 ≤ v ∧ v < nI ns)) := m_isOf hS (j := 1) (by decide) (by have := h.le; omega) h.n1
theorem MW.isP (h : MW R w t m nb ns ne) (hS : SP P) : fM_isPart (put I R) P (am_pk 330 0 13) v = some (bI (0 ≤ v ∧ v < nI m)) := m_isPart hS (by have := h.le; omega) h.n5
theorem MW.isPr (h : MW R w t m nb ns ne) (hS : SP P) : fM_arePair (put I R) P (am_pk 330 0 13) v = some (bI (isPr m v)) := m_arePair hS (by have := h.le; omega) h.n5
theorem MW.isEnd (h : MW R w t m nb ns ne) (hS : SP P) : fM_isEnd (put I R) P (am_pk 330 0 13) v = some (bI (endP nb v)) := by
  unfold fM_isEnd endP
  simp (disch := first | omega | assumption) only [sm_bd, Option.bind_some, ck_tt, ck_in, ck_iw, ck_ia, ck_iz, ck_01, ck_in_0, ck_iw_0, cl_0, ck_in_1, ck_iw_1, cl_1, ck_in_2, ck_iw_2, cl_2, ck_in_3, ck_iw_3, cl_3, ck_in_4, ck_iw_4, cl_4, ck_in_5, ck_iw_5, cl_5, ck_in_6, ck_iw_6, cl_6, ck_in_7, ck_iw_7, cl_7, ck_in_8, ck_iw_8, cl_8, ck_in_9, ck_iw_9, cl_9, nI_clamp, lm_2, lm_4, lm_10, lm_14, lm_24, lm_80, lm_100, lm_1500, nI_add, nI_1, pk_m1, nI_pred, h.isB hS, bI_if]
  by_cases h0 : v < 0
  · rw [if_pos h0, bI_f (fun z => absurd z.1 (i_nle.mpr h0))]
  · rw [if_neg h0]
    by_cases h1 : 0 ≤ v / 10 ∧ v / 10 < nI nb
    · rw [if_pos h1]
      by_cases h2 : (2 : Int32) ≤ sm_rem v 10
      · rw [if_pos h2, bI_f (fun z => absurd z.2.2.2 (i_nl.mpr h2))]
      · have h3 : 0 ≤ sm_rem v 10 := by
          have h0' := i_nl.mp h0
          rw [i_le, i_0] at h0' ⊢
          rw [rem_i, Int.tmod_eq_emod_of_nonneg h0']
          exact Int.emod_nonneg _ (by decide)
        rw [if_neg h2, bI_t ⟨i_nl.mp h0, h1, h3, i_nle.mp h2⟩]
    · rw [if_neg h1, bI_f (fun z => h1 z.2.1)]
theorem x_f1 (hS : SP P) : fX_found P (am_pk 2 0 12) (-1000001) (put I R) = some (-1000001, put I (am_up R 329 0 (R 329 0 + 1))) := x_found hS (by decide) fd_1
theorem m_f1 (hS : SP P) : fM_finds P (am_pk 330 0 13) (-1000001) (put I R) = some (-1000001, put I (am_up R 331 0 (R 331 0 + 1))) := m_finds hS (by decide) fd_1
theorem x_f2 (hS : SP P) : fX_found P (am_pk 2 0 12) (-1000002) (put I R) = some (-1000002, put I (am_up R 329 1 (R 329 1 + 1))) := x_found hS (by decide) fd_2
theorem m_f2 (hS : SP P) : fM_finds P (am_pk 330 0 13) (-1000002) (put I R) = some (-1000002, put I (am_up R 331 1 (R 331 1 + 1))) := m_finds hS (by decide) fd_2
theorem x_f3 (hS : SP P) : fX_found P (am_pk 2 0 12) (-1000003) (put I R) = some (-1000003, put I (am_up R 329 2 (R 329 2 + 1))) := x_found hS (by decide) fd_3
theorem m_f3 (hS : SP P) : fM_finds P (am_pk 330 0 13) (-1000003) (put I R) = some (-1000003, put I (am_up R 331 2 (R 331 2 + 1))) := m_finds hS (by decide) fd_3
theorem x_f4 (hS : SP P) : fX_found P (am_pk 2 0 12) (-1000004) (put I R) = some (-1000004, put I (am_up R 329 3 (R 329 3 + 1))) := x_found hS (by decide) fd_4
theorem m_f4 (hS : SP P) : fM_finds P (am_pk 330 0 13) (-1000004) (put I R) = some (-1000004, put I (am_up R 331 3 (R 331 3 + 1))) := m_finds hS (by decide) fd_4
theorem x_f5 (hS : SP P) : fX_found P (am_pk 2 0 12) (-1000005) (put I R) = some (-1000005, put I (am_up R 329 4 (R 329 4 + 1))) := x_found hS (by decide) fd_5
theorem m_f5 (hS : SP P) : fM_finds P (am_pk 330 0 13) (-1000005) (put I R) = some (-1000005, put I (am_up R 331 4 (R 331 4 + 1))) := m_finds hS (by decide) fd_5
theorem x_f6 (hS : SP P) : fX_found P (am_pk 2 0 12) (-1000006) (put I R) = some (-1000006, put I (am_up R 329 5 (R 329 5 + 1))) := x_found hS (by decide) fd_6
theorem m_f6 (hS : SP P) : fM_finds P (am_pk 330 0 13) (-1000006) (put I R) = some (-1000006, put I (am_up R 331 5 (R 331 5 + 1))) := m_finds hS (by decide) fd_6
theorem x_f7 (hS : SP P) : fX_found P (am_pk 2 0 12) (-1000007) (put I R) = some (-1000007, put I (am_up R 329 6 (R 329 6 + 1))) := x_found hS (by decide) fd_7
theorem m_f7 (hS : SP P) : fM_finds P (am_pk 330 0 13) (-1000007) (put I R) = some (-1000007, put I (am_up R 331 6 (R 331 6 + 1))) := m_finds hS (by decide) fd_7
end Tests
/-- what a call of the reference leaves alone when only its world changes -/
def frm (R R' : am_M) : Prop := ∀ c, (c < 332 ∨ 357 ≤ c) → c ≠ 358 → R' c = R c
theorem frm.rfl {R : am_M} : frm R R := fun _ _ _ => _root_.rfl
theorem frm.tr {R R' R'' : am_M} (h : frm R R') (h2 : frm R' R'') : frm R R'' := fun c a b => (h2 c a b).trans (h c a b)
theorem frm.up {R : am_M} {c k : Nat} {v : Int32} (h : 332 ≤ c ∧ c < 357) : frm R (am_up R c k v) := fun c' hc _ => by funext j; rw [am_up_ne (by omega)]
theorem frm.cl {R R' : am_M} (h : ∀ c, c ≠ 358 → R' c = R c) : frm R R' := fun c _ h2 => h c h2
section INVm
variable {I R R1 R2 : am_M} {P : am_Q} {nx : Nat} {w w' : am_M} {t t' : Nat → Nat → List Nat} {m nb ns ne m' nb' ns' ne' : Nat}
theorem INV.mw1 (h : INV I R P nx w t m nb ns ne) (f1 : fr 7 R R1) : MW R1 w t m nb ns ne := h.mw.fr (fun c h1 h2 => f1 c (by omega) (by omega))
theorem INV.mk2 (h : INV I R P nx w t m nb ns ne) (f1 : fr 7 R R1) (f2 : frm R1 R2) (h9 : hr9 w') (hC : CW I R1 P 7 w' t' m' nb' ns' ne') (hM : MW R2 w' t' m' nb' ns' ne') : ∃ w t m nb ns ne, INV I R2 P nx w t m nb ns ne := by
  have e : ∀ c, (c < 7 ∨ 36 ≤ c) → (c < 332 ∨ 357 ≤ c) → c ≠ 307 → c ≠ 358 → R2 c = R c := fun c h1 h2 h3 h4 => (f2 c h2 h4).trans (f1 c h1 h3)
  refine ⟨w', t', m', nb', ns', ne', h.1.kR (fun c hc => e c ?_ ?_ ?_ ?_) (fun k _ => by rw [e 330 (by decide) (by decide) (by decide) (by decide)]) (by rw [e 299 (by decide) (by decide) (by decide) (by decide)]) (fun j _ => by rw [e 357 (by decide) (by decide) (by decide) (by decide)]), h9, ?_, hM⟩
  · unfold kpc at hc; omega
  · unfold kpc at hc; omega
  · unfold kpc at hc; omega
  · unfold kpc at hc; omega
  · exact hC.fr (fun c h1 h2 => f2 c (by omega) (by omega)) (fun c hc => f2 c (by omega) (by omega))
theorem INV.mk2e {I0 R0 : am_M} (h : ∃ w t m nb ns ne, INV I R P nx w t m nb ns ne) : ∃ w t m nb ns ne, INV I R P nx w t m nb ns ne := h
theorem hr9.up {r c : Nat} {v : Int32} (h : hr9 w) (hr : ¬ (r = 0 ∧ c = 1)) : hr9 (am_up w r c v) := by
  obtain ⟨k, hk, e⟩ := h
  refine ⟨k, hk, ?_⟩
  unfold am_up
  rw [if_neg (fun z => hr ⟨z.1.symm, z.2.symm⟩)]; exact e
end INVm
