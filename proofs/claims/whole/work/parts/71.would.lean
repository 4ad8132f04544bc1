/-! ===== the call would ===== -/
section Would
variable {I R : am_M} {P : am_Q} {nx sl : Nat} {w : am_M} {t : Nat → Nat → List Nat} {m nb ns ne : Nat}
theorem h_w3 {v : Int32} : fM_within v 0 3 = some (bI (0 ≤ v ∧ v < 4)) := by
  rw [h_within]
  exact congrArg some (bI_c (and_congr Iff.rfl (by rw [i_le, i_lt]; show v.toInt ≤ 3 ↔ v.toInt < 4; omega)))
theorem op_would (h : INV I R P nx w t m nb ns ne) {a b c d e : Int32} : OK2 I R P nx sl (fX_would (am_pk 2 0 12) a b c d e) (fun Q => fM_would Q (am_pk 330 0 13) a b c d e) := by
  have hS := h.sp
  have hle := h.mw.le
  have hX : fX_would (am_pk 2 0 12) a b c d e (put I R) P nx sl = cif ((0 ≤ a ∧ a < nI nb) ∧ (0 ≤ b ∧ b < 4) ∧ isPr m c ∧ isPr m d ∧ (0 ≤ e ∧ e ≤ 999)) (fX_would_J61 (am_pk 2 0 12) a b c d e 1 (put I R) P nx sl) (fX_would_J60 (am_pk 2 0 12) a b c d e (put I R) P nx sl) := by
    unfold fX_would
    rw [sm_ck_pos (am_t_pk (by decide)), sp_2_0 hS, sm_ck_pos (am_t_pk (by decide)), h.cw.hasBox, Option.bind_some, bI_if, h.cw.isPair, Option.bind_some, bI_if, h.cw.isPair, Option.bind_some, bI_if]
    by_cases g1 : 0 ≤ a ∧ a < nI nb
    · rw [if_pos g1]
      by_cases g2 : b < 0
      · rw [if_pos g2, cif_f (fun z => absurd z.2.1.1 (i_nle.mpr g2))]
      · rw [if_neg g2]
        by_cases g3 : 4 ≤ b
        · rw [if_pos g3, cif_f (fun z => absurd z.2.1.2 (i_nl.mpr g3))]
        · rw [if_neg g3]
          by_cases g4 : isPr m c
          · rw [if_pos g4]
            by_cases g5 : isPr m d
            · rw [if_pos g5]
              by_cases g6 : e < 0
              · rw [if_pos g6, cif_f (fun z => absurd z.2.2.2.2.1 (i_nle.mpr g6))]
              · rw [if_neg g6]
                by_cases g7 : 999 < e
                · rw [if_pos g7, cif_f (fun z => absurd z.2.2.2.2.2 (i_nle.mpr g7))]
                · rw [if_neg g7, cif_t ⟨g1, ⟨i_nl.mp g2, i_nle.mp g3⟩, g4, g5, i_nl.mp g6, i_nl.mp g7⟩]
            · rw [if_neg g5, cif_f (fun z => g5 z.2.2.2.1)]
          · rw [if_neg g4, cif_f (fun z => g4 z.2.2.1)]
    · rw [if_neg g1, cif_f (fun z => g1 z.1)]
  have hM : ∀ Q, SP Q → ∀ R1, MW R1 w t m nb ns ne → fM_would Q (am_pk 330 0 13) a b c d e (put I R1) = cif ((0 ≤ a ∧ a < nI nb) ∧ (0 ≤ b ∧ b < 4) ∧ isPr m c ∧ isPr m d ∧ (0 ≤ e ∧ e ≤ 999)) (Option.bind (fM_worth Q (am_pk 330 0 13) a b e (c / 100) (sm_rem c 100) (d / 100) (sm_rem d 100) (put I R1)) fun y16 => some (y16.1, y16.2)) (some (-1000001, put I (am_up R1 331 0 (R1 331 0 + 1)))) := by
    intro Q hS R1 hM
    unfold fM_would
    rw [sm_ck_pos (am_t_pk (by decide)), hM.isB hS, Option.bind_some, bI_if, h_w3, Option.bind_some, bI_if, hM.isPr hS, Option.bind_some, bI_if, hM.isPr hS, Option.bind_some, bI_if, h_within, Option.bind_some, bI_ifn, m_f1 hS, Option.bind_some]
    by_cases g1 : 0 ≤ a ∧ a < nI nb
    · rw [if_pos g1]
      by_cases g2 : 0 ≤ b ∧ b < 4
      · rw [if_pos g2]
        by_cases g4 : isPr m c
        · rw [if_pos g4]
          by_cases g5 : isPr m d
          · rw [if_pos g5]
            by_cases g6 : 0 ≤ e ∧ e ≤ 999
            · rw [if_pos g6, cif_t ⟨g1, g2, g4, g5, g6⟩]
            · rw [if_neg g6, cif_f (fun z => g6 z.2.2.2.2)]
          · rw [if_neg g5, cif_f (fun z => g5 z.2.2.2.1)]
        · rw [if_neg g4, cif_f (fun z => g4 z.2.2.1)]
      · rw [if_neg g2, cif_f (fun z => g2 z.2.1)]
    · rw [if_neg g1, cif_f (fun z => g1 z.1)]
  by_cases hq : (0 ≤ a ∧ a < nI nb) ∧ (0 ≤ b ∧ b < 4) ∧ isPr m c ∧ isPr m d ∧ (0 ≤ e ∧ e ≤ 999)
  · obtain ⟨g1, g2, g4, g5, g6⟩ := hq
    have hq : (0 ≤ a ∧ a < nI nb) ∧ (0 ≤ b ∧ b < 4) ∧ isPr m c ∧ isPr m d ∧ (0 ≤ e ∧ e ≤ 999) := ⟨g1, g2, g4, g5, g6⟩
    obtain ⟨x, hx, rfl⟩ := ran_ix g1 (by omega)
    obtain ⟨l, hl, rfl⟩ := ran_ix (n := 4) g2 (by decide)
    have hx7 : x < 7 := by omega
    have hB := h.mw.2.1.2.1 x hx
    have h7 : sm_01 (R (7 + 8 + x) 7) := by
      rw [h.cw.rb hx (by decide)]
      exact hB.2.2.2.2.2.2.2.1
    obtain ⟨R1, q1, q2, q3⟩ := x_boxcopy (I := I) (nx := nx) (sl := sl) (P := P) (R := R) (sc_bx W7 hx7) sc_305 (by omega) h7
    have hP1 : ∀ a k, am_t a ≠ 1 → am_up P (am_pk 305 0 1) 10 (P (am_pk (7 + 8 + x) 0 1) 10) a k = P a k := fun a k ha => am_up_ne (fun z => ha (by rw [z]; exact am_t_pk (by decide)))
    have hS1 : SP (am_up P (am_pk 305 0 1) 10 (P (am_pk (7 + 8 + x) 0 1) 10)) := hS.kept hP1
    have hL : LB (am_up P (am_pk 305 0 1) 10 (P (am_pk (7 + 8 + x) 0 1) 10)) nx := h.1.1.2.2.1.up (h.1.1.2.2.1 _ (Or.inl ⟨7, x, W7, hx7, rfl⟩))
    have hpc : frPC P (am_up P (am_pk 305 0 1) 10 (P (am_pk (7 + 8 + x) 0 1) 10)) := ⟨hP1, fun c' _ hc => am_up_ne (bx_ne hc)⟩
    have hlp : am_up P (am_pk 305 0 1) 10 (P (am_pk (7 + 8 + x) 0 1) 10) (am_pk 305 0 1) 10 = P (am_pk (7 + 8 + x) 0 1) 10 := am_up_eq
    obtain ⟨R2, e2⟩ : ∃ R2, R2 = am_up (am_up (am_up (am_up R1 305 1 (c / 100)) 305 2 (sm_rem c 100)) 305 3 (d / 100)) 305 4 (sm_rem d 100) := ⟨_, rfl⟩
    have k2 : ∀ c', c' ≠ 305 → R2 c' = R c' := fun c' hc => by
      rw [e2]; funext j; rw [am_up_ne hc, am_up_ne hc, am_up_ne hc, am_up_ne hc, q3 c' hc]
    generalize hP' : am_up P (am_pk 305 0 1) 10 (P (am_pk (7 + 8 + x) 0 1) 10) = P1 at *
    have hln : lnr (put I R2) P1 (P1 (am_pk 305 0 1) 10) (t x) := by
      rw [hlp]
      exact ((h.cw.2.2.2.1 x hx).kept (put_okcl (fun c' hc => k2 c' (by omega)))).keptP hP1
    obtain ⟨R3, w1, w2⟩ := x_work (I := I) (R := R2) (h := e) hS1 hl sc_305 rfl hln hB.2.2.2.2.2.2.2.2 (le1 (m := m) (by omega) (by omega))
    have v1 : R2 305 1 = c / 100 := by rw [e2, am_up_nk (by decide), am_up_nk (by decide), am_up_nk (by decide), am_up_eq]
    have v2 : R2 305 2 = sm_rem c 100 := by rw [e2, am_up_nk (by decide), am_up_nk (by decide), am_up_eq]
    have v3 : R2 305 3 = d / 100 := by rw [e2, am_up_nk (by decide), am_up_eq]
    have v4 : R2 305 4 = sm_rem d 100 := by rw [e2, am_up_eq]
    rw [v1, v2, v3, v4] at w1
    have c3 : frC R R3 := fun c' _ a2 a3 => by rw [w2 c' a3, k2 c' a2]
    have hM3 : MW R3 w t m nb ns ne := h.mw.fr (fun c' c1 c4 => c3 c' (by omega) (by omega) (by omega))
    obtain ⟨R4, y1, y2⟩ := m_worth (I := I) (h := e) hS1 hx7 hl (show 1 ≤ m by omega) (by omega) hM3.n5 (hM3.2.2 x hx) hB.2.2.2.2.2.2.2.2 g4.2.1 g4.2.2 g5.2.1 g5.2.2
    have hfr : frR R3 R4 := ⟨fun c' hc => y2 c' (by omega), fun c' hc => y2 c' (by unfold kpc at hc; omega), fun k _ => by rw [y2 330 (by decide)], fun j _ => by rw [y2 357 (by decide)]⟩
    refine ⟨wkF (t x) l (c / 100) (sm_rem c 100) (d / 100) (sm_rem d 100) e (nI m), I, R3, P1, nx, sl, R4, ?_, ?_, h.bes c3 hpc hL (hM3.fr (fun c' c1 c4 => y2 c' (by omega))) hfr frI.rfl (Nat.le_refl _), frJ.rfl, Nat.le_refl _, by omega, by omega⟩
    · rw [hX, cif_t hq]
      unfold fX_would_J61 fB_tellStates fB_tellIn
      have m0 : R2 7 0 = nI m := by rw [k2 7 (by decide)]; exact h.cw.c0
      rw [if_pos (by decide), sm_ck_pos (am_t_pk (by decide)), sp_2_0 hS, sm_ck_pos (am_t_pk (by decide)), sp_w9 hS W7, sm_ck_pos (sm_ia_nI (by decide) (by decide) (by decide) hx7), sp_2_8 hS, sm_ck_pos (am_t_pk (by decide)), nI_clamp (show x < 2 ^ 31 by omega), sp_bx hS W7 hx7, q1, Option.bind_some]
      dsimp only
      rw [sp_2_8 hS1, sp_2_0 hS1, sp_2_9 hS1]
      simp only [ck_tt (show 1 < 32 by decide), ck_tt (show 11 < 32 by decide), ck_tt (show 6 < 32 by decide), sm_bd, Option.bind_some, put_up sc_305, if_neg (show ¬ ¬ True from fun z => z trivial), if_pos (show ¬ (1 : Int32) = 0 by decide), put_rd (sc_w0 W7), ← e2, m0, w1]
    · show fM_would P1 (am_pk 330 0 13) (nI x) (nI l) c d e (put I R3) = _
      rw [hM P1 hS1 R3 hM3, cif_t hq, y1, Option.bind_some]
  · refine h.fl2 (v := -1000001) (k := 0) (by decide) ?_ (fun R1 hM1 hc1 => ?_)
    · rw [hX, cif_f hq]
      unfold fX_would_J60 fX_would_J61
      rw [if_neg (fun z => z rfl), sm_ck_pos (am_t_pk (by decide)), x_f1 hS, Option.bind_some]
    · rw [hM P hS R1 hM1, cif_f hq]
end Would
