/-! ===== the calls change and drift ===== -/
/-- what the reference's call leaves alone -/
def frCh (R R' : am_M) : Prop := (∀ c, c ≠ 330 → c ≠ 357 → c ≠ 358 → c ≠ 377 → (c < 332 ∨ 357 ≤ c) → (c < 360 ∨ 364 ≤ c) → R' c = R c) ∧ (∀ k, k = 28 ∨ k = 29 → R' 330 k = R 330 k) ∧ R' 330 32 = 0 ∧ ∀ j, j < 10500 → R' 357 j = R 357 j
/-- both calls of the class, with what is answered at the end left open -/
noncomputable def chG (K : Int32 → am_M → am_Q → Nat → Nat → Option (Int32 × am_S)) (l0 : Nat) (l1 : Int32) (l2 : Int32) (I : am_M) (P : am_Q) (nx : Nat) (sl : Nat) : Option (Int32 × am_S) :=
  sm_ck (am_t l0 = 12) <|
  sm_ck (am_t (P l0 0) = 11) <|
  Option.bind (fW_hasBox I P (P l0 0) l1) fun y3 =>
  if y3 = 0 then
    (Option.bind (fX_found P l0 ((-1000001)) I) fun y5 => some (y5.1, y5.2, P, nx, sl))
  else
    (if l2 < 1 then
      (Option.bind (fX_found P l0 ((-1000001)) I) fun y5 => some (y5.1, y5.2, P, nx, sl))
    else
      (if l2 ≤ 30 then
        (sm_ck (am_t (P l0 7) = 10) <|
        Option.bind (fT_readAll P (P l0 7) I) fun y10 =>
        if y10.1 < 0 then
          (Option.bind (fT_linesRead (P l0 7) y10.2 P nx sl) fun y12 =>
          Option.bind (fX_firstChanged l0 l1 y12.1 l2 y12.2.1 y12.2.2.1 y12.2.2.2.1 y12.2.2.2.2) fun y13 =>
          if 0 ≤ y13.1 then
            (K y13.1 y13.2.1 y13.2.2.1 y13.2.2.2.1 y13.2.2.2.2)
          else
            (Option.bind (fX_found y13.2.2.1 l0 ((-1000004)) y13.2.1) fun y16 =>
            some (y16.1, y16.2, y13.2.2.1, y13.2.2.2.1, y13.2.2.2.2)))
        else
          (Option.bind (fX_found P l0 ((-1000003)) y10.2) fun y17 =>
          some (y17.1, y17.2, P, nx, sl)))
      else
        (Option.bind (fX_found P l0 ((-1000001)) I) fun y5 => some (y5.1, y5.2, P, nx, sl))))
theorem chG_c {l0 : Nat} {l1 l2 : Int32} {I : am_M} {P : am_Q} {nx sl : Nat} : fX_change l0 l1 l2 I P nx sl = chG (fun _ I P nx sl => sm_ck (am_t (P l0 1) = 11) <| some ((I (P l0 1) 1) - 1, I, P, nx, sl)) l0 l1 l2 I P nx sl := by
  unfold fX_change chG
  rfl
theorem chG_d {l0 : Nat} {l1 l2 : Int32} {I : am_M} {P : am_Q} {nx sl : Nat} : fX_drift l0 l1 l2 I P nx sl = chG (fun v I P nx sl => some (v, I, P, nx, sl)) l0 l1 l2 I P nx sl := by
  unfold fX_drift chG
  rfl
section OpC
variable {I R : am_M} {P : am_Q} {nx sl : Nat} {w : am_M} {t : Nat → Nat → List Nat} {m nb ns ne : Nat}
theorem m_chg (hS : SP P) {n k0 x : Nat} {M : List Nat} {fr to : Nat → Nat} {tx : Nat → List Nat} {v' : Int32} {R7 R8 : am_M} (h1n : 1 ≤ n) (hn : n ≤ 30) (hk0 : k0 ≤ 999) (e0 : w 0 1 = nI k0) (h : MW R w t m nb ns ne) (hx : x < nb) (h379 : 379 ≤ nx) (q1 : fM_isText P (am_pk 330 0 13) (put I R) = some (v', put I R7)) (q2 : R7 = am_up R8 330 32 0) (q3 : frW R R8) (q4 : v' = 1) (q5 : RMd R7 M) (q6 : RLn R7 fr to) (q7 : lnI M fr to tx) (q8 : M.length ≤ 80) : ∃ v I' R' nx' sl', fM_changes (am_pk 330 0 13) (nI x) (nI n) (put I R) P nx sl = some (v, put I' R', P, nx', sl') ∧ nx ≤ nx' ∧ nx' ≤ nx + 420 ∧ sl' ≤ sl + 840 ∧ MW R' w t m nb ns ne ∧ frCh R R' ∧ frI I I' ∧ ((∃ j s, fcF (fun i => hrN t m nb ns ne i w) (fun i => hrN (upX t x tx) m nb ns ne i w) ns n 0 = some (j, s) ∧ v = -1 ∧ R' 330 59 = nI (k0 + j) ∧ R' 330 60 = nI s) ∨ (fcF (fun i => hrN t m nb ns ne i w) (fun i => hrN (upX t x tx) m nb ns ne i w) ns n 0 = none ∧ v = -1000004)) := by
  have hle := h.le
  have f7 : ∀ c, c ≠ 330 → (c < 360 ∨ 364 ≤ c) → R7 c = R c := fun c a1 a2 => by rw [q2]; funext j; rw [am_up_ne a1, q3.1 c a1 a2]
  have g7 : ∀ k, k ≠ 32 → (k < 37 ∨ 41 ≤ k) → R7 330 k = R 330 k := fun k a1 a2 => by rw [q2, am_up_nk a1, q3.2 k a2]
  have m7 : MW R7 w t m nb ns ne := h.fr (fun c c1 c2 => f7 c (by omega) (by omega))
  obtain ⟨R9, s1, s2, s3, s4, s5, s6⟩ := m_save (I := I) (pl := 7) hS m7 (by decide)
  obtain ⟨ex1, hex1⟩ : ∃ ex1 : Nat → am_M → am_Q → Nat → Nat → Option (Int32 × am_S), ex1 = fun l0 I P nx sl => fM_changes_J199 l0 I P nx sl := ⟨_, rfl⟩
  obtain ⟨I10, R10, t1, t2, t3, t4, -⟩ := m_ch41 (P := P) hS (l1 := nI x) hn hk0 e0 (t := t) (m := m) (nb := nb) (ns := ns) (ne := ne) (ex := fun l0 l1 l2 I P nx sl =>
            sm_ck (am_t l0 = 13) <|
            Option.bind (fM_copiesAll P l0 7 0 I) fun y21 =>
            Option.bind (fM_takesText P l0 l1 y21) fun y22 =>
            sm_bd (am_up y22 l0 59 ((-1))) fun I23 =>
            fM_changes_L114 ex1 sm_fu l0 l2 0 I23 P nx sl) n 0 sm_fu I R9 nx sl (sm_fu_lt (by omega)) (by omega) h379 s3 (fun k' s' hk _ => absurd hk (Nat.not_lt_zero _))
  obtain ⟨R11, u1, u2, u3, u4⟩ := m_load (I := I10) (R := R10) (pl := 7) hS (s2.pk (R' := R10) (fun j _ _ => by rw [t3.1 357 (by decide) (by decide) (by decide) (by decide)])) (by decide)
  have p11 : ∀ c, c = 360 ∨ c = 361 ∨ c = 362 ∨ c = 363 → R11 c = R7 c := fun c hc => by rw [u3 c (by omega) (by omega), t3.1 c (by omega) (by omega) (by omega) (by omega), s4 c (by omega) (by omega)]
  have md : RMd R11 M := ⟨by rw [u4 37 (by decide), t3.2 37 (by decide) (by decide) (by decide), s5 37 (by decide)]; exact q5.1, q5.2.1.fr (fun k _ => by rw [p11 360 (by decide)]), q5.2.2.fr (fun k _ => by rw [p11 361 (by decide)])⟩
  obtain ⟨R12, a1, a2, a3⟩ := m_tkT (I := I10) hS u2 hx q8 md (fun l hl => by rw [p11 362 (by decide), p11 363 (by decide)]; exact q6 l hl) q7
  have m13 : MW (am_up R12 330 59 (-1)) w (upX t x tx) m nb ns ne := a2.fr (fun c c1 c2 => by funext j; rw [am_up_ne (by omega)])
  obtain ⟨I14, R14, nx14, sl14, b1, b2, b3, b4, b5, b6, b7⟩ := m_ch114 (P := P) (t := t) (t' := upX t x tx) (m := m) (nb := nb) (ns := ns) (ne := ne) hS hn hk0 e0 (ex := ex1) n 0 sm_fu I10 (am_up R12 330 59 (-1)) (nx + nb * n) (sl + 2 * (nb * n)) (sm_fu_lt (by omega)) (by omega) (by omega) m13 am_up_eq (fun k' s' hk hs => by rw [am_up_ne (by decide), a3 377 (by decide), u3 377 (by decide) (by decide)]; exact t2 k' s' hk hs)
  have e357 : ∀ j, R14 357 j = R9 357 j := fun j => by rw [b5.1 357 (by decide) (by decide) (by decide) (by decide), am_up_ne (by decide), a3 357 (by decide), u3 357 (by decide) (by decide), t3.1 357 (by decide) (by decide) (by decide) (by decide)]
  obtain ⟨R15, c1, c2, c3, c4⟩ := m_load (I := I14) (R := R14) (pl := 7) hS (s2.pk (R' := R14) (fun j _ _ => e357 j)) (by decide)
  have hnn : nb * n ≤ 7 * 30 := Nat.mul_le_mul hle.1 hn
  have hJ : fM_changes_J199 (am_pk 330 0 13) (put I14 R14) P nx14 sl14 = (if 0 ≤ R15 330 59 then some (-1, put I14 R15, P, nx14, sl14) else some (-1000004, put I14 R15, P, nx14, sl14)) := by
    unfold fM_changes_J199
    rw [sm_ck_pos (am_t_pk (by decide)), show fM_copiesAll P (am_pk 330 0 13) 7 0 (put I14 R14) = _ from c1, Option.bind_some, put_rd sc_330]
  have hrun : fM_changes (am_pk 330 0 13) (nI x) (nI n) (put I R) P nx sl = fM_changes_J199 (am_pk 330 0 13) (put I14 R14) P nx14 sl14 := by
    unfold fM_changes
    rw [sm_ck_pos (am_t_pk (by decide)), h.isB hS, Option.bind_some, bI_if, if_pos ⟨nI_pos' (by omega), by rw [nI_ltI (by omega) (by omega)]; exact hx⟩, h_within, Option.bind_some, bI_ifn, if_pos ⟨by rw [show (1 : Int32) = nI 1 from rfl, nI_leI (by decide) (by omega)]; exact h1n, by rw [show (30 : Int32) = nI 30 from rfl, nI_leI (by omega) (by decide)]; exact hn⟩, q1, Option.bind_some]
    dsimp only
    rw [q4, if_pos (by decide), show fM_copiesAll P (am_pk 330 0 13) 7 1 (put I R7) = _ from s1, Option.bind_some, ← hex1]
    refine Eq.trans t1 ?_
    rw [sm_ck_pos (am_t_pk (by decide)), show fM_copiesAll P (am_pk 330 0 13) 7 0 (put I10 R10) = _ from u1, Option.bind_some, a1, Option.bind_some, put_up sc_330, bd_eq]
    refine Eq.trans b1 ?_
    rw [hex1]
  have fr15 : frCh R R15 := by
    refine ⟨fun c d1 d2 d3 d4 d5 d6 => ?_, fun k hk => ?_, ?_, fun j hj => ?_⟩
    · rw [c3 c d5 d1, b5.1 c d1 d3 d4 d5]
      funext j
      rw [am_up_ne d1, a3 c (by omega), u3 c d5 d1, t3.1 c d1 d3 d4 d5, s4 c d2 d1, f7 c d1 d6]
    · rw [c4 k (by omega), b5.2 k (by omega) (by omega) (by omega), am_up_nk (by omega), a3 330 (by decide), u4 k (by omega), t3.2 k (by omega) (by omega) (by omega), s5 k (by omega), g7 k (by omega) (by omega)]
    · rw [c4 32 (by decide), b5.2 32 (by decide) (by decide) (by decide), am_up_nk (by decide), a3 330 (by decide), u4 32 (by decide), t3.2 32 (by decide) (by decide) (by decide), s5 32 (by decide), q2, am_up_eq]
    · rw [c3 357 (by decide) (by decide), e357 j, s6 j (by omega), f7 357 (by decide) (by decide)]
  have e59 : R15 330 59 = R14 330 59 := c4 59 (by decide)
  have e60 : R15 330 60 = R14 330 60 := c4 60 (by decide)
  rw [hrun, hJ]
  rcases b7 with ⟨j, s, d1, d2, d3⟩ | ⟨d1, d2⟩
  · have hj0 : 0 ≤ R15 330 59 := by
      rw [e59, d2]
      have : ∀ (d i : Nat) (u v : Nat → am_M) (j s : Nat), fcF u v ns d i = some (j, s) → j < i + d := by
        intro d
        induction d with
        | zero => intro i u v j s hh; exact absurd hh (by unfold fcF; simp)
        | succ d ih =>
          intro i u v j s hh
          cases hd : dfS (u (i + 1)) (v (i + 1)) ns 0 with
          | some s' =>
            rw [fcF_s hd] at hh
            injection hh with hh
            have := congrArg Prod.fst hh
            dsimp only at this
            omega
          | none =>
            rw [fcF_n hd] at hh
            have := ih (i + 1) u v j s hh
            omega
      have := this n 0 _ _ j s d1
      exact nI_pos' (by omega)
    rw [if_pos hj0]
    exact ⟨-1, I14, R15, nx14, sl14, rfl, by omega, by omega, by omega, c2, fr15, t4.tr b6, Or.inl ⟨j, s, d1, rfl, by rw [e59]; exact d2, by rw [e60]; exact d3⟩⟩
  · rw [e59, d2, if_neg (by decide)]
    exact ⟨-1000004, I14, R15, nx14, sl14, rfl, by omega, by omega, by omega, c2, fr15, t4.tr b6, Or.inr ⟨d1, rfl⟩⟩
/-- what both calls have in common -/
def chgR (I R : am_M) (P : am_Q) (nx sl : Nat) (a b : Int32) : Prop :=
  (∃ f k Ra Rb, k < 7 ∧ (-1000001) - f = nI k ∧ ¬ f = -1 ∧ (∀ K, chG K (am_pk 2 0 12) a b (put I R) P nx sl = some (f, put I (am_up Ra 329 k (Ra 329 k + 1)), P, nx, sl)) ∧ fM_changes (am_pk 330 0 13) a b (put I (am_up Ra 329 k (Ra 329 k + 1))) P nx sl = some (f, put I Rb, P, nx, sl) ∧ ∃ w t m nb ns ne, INV I (am_up Rb 331 k (Rb 331 k + 1)) P nx w t m nb ns ne) ∨
  (∃ I1 P1 sl1 Ra, SP P1 ∧ sl1 ≤ sl + 100 ∧ frJ nx I I1 ∧
    (((∀ K, chG K (am_pk 2 0 12) a b (put I R) P nx sl = some (-1000004, put I1 (am_up Ra 329 3 (Ra 329 3 + 1)), P1, nx + 4, sl1)) ∧ ∃ I2 Rb nx2 sl2, fM_changes (am_pk 330 0 13) a b (put I1 (am_up Ra 329 3 (Ra 329 3 + 1))) P1 (nx + 4) sl1 = some (-1000004, put I2 Rb, P1, nx2, sl2) ∧ nx2 ≤ nx + 424 ∧ nx ≤ nx2 ∧ sl2 ≤ sl1 + 840 ∧ frI I1 I2 ∧ ∃ w t m nb ns ne, INV I2 (am_up Rb 331 3 (Rb 331 3 + 1)) P1 nx2 w t m nb ns ne) ∨
    (∃ hr s, hr < 2000 ∧ s < 14 ∧ (∀ K, chG K (am_pk 2 0 12) a b (put I R) P nx sl = K (nI s) (put I1 Ra) P1 (nx + 4) sl1) ∧ Ra 36 1 = nI (hr + 1) ∧ ∃ I2 Rb nx2 sl2, fM_changes (am_pk 330 0 13) a b (put I1 Ra) P1 (nx + 4) sl1 = some (-1, put I2 Rb, P1, nx2, sl2) ∧ nx2 ≤ nx + 424 ∧ nx ≤ nx2 ∧ sl2 ≤ sl1 + 840 ∧ frI I1 I2 ∧ Rb 330 59 = nI hr ∧ Rb 330 60 = nI s ∧ ∃ w t m nb ns ne, INV I2 Rb P1 nx2 w t m nb ns ne)))
theorem op_chgR (h : INV I R P nx w t m nb ns ne) {a b : Int32} : chgR I R P nx sl a b := by
  have hS := h.sp
  have hle := h.mw.le
  obtain ⟨k0, hk0, ek0⟩ := h.2.1
  have bey : ¬ ((0 ≤ a ∧ a < nI nb) ∧ (1 ≤ b ∧ b ≤ 30)) → chgR I R P nx sl a b := by
    intro hno
    have m1 : MW (am_up R 329 0 (R 329 0 + 1)) w t m nb ns ne := h.mw.fr (fun c c1 c2 => by funext j; rw [am_up_ne (by omega)])
    refine Or.inl ⟨-1000001, 0, R, am_up R 329 0 (R 329 0 + 1), by decide, fd_1, by decide, fun K => ?_, ?_, w, t, m, nb, ns, ne, ?_⟩
    · unfold chG
      rw [sm_ck_pos (am_t_pk (by decide)), sp_2_0 hS, sm_ck_pos (am_t_pk (by decide)), h.cw.hasBox, Option.bind_some, bI_if]
      by_cases g1 : 0 ≤ a ∧ a < nI nb
      · rw [if_pos g1]
        by_cases g2 : b < 1
        · rw [if_pos g2, x_f1 hS, Option.bind_some]
        · rw [if_neg g2, if_neg (fun z => hno ⟨g1, i_nl.mp g2, z⟩), x_f1 hS, Option.bind_some]
      · rw [if_neg g1, x_f1 hS, Option.bind_some]
    · unfold fM_changes
      rw [sm_ck_pos (am_t_pk (by decide)), m1.isB hS, Option.bind_some, bI_if]
      by_cases g1 : 0 ≤ a ∧ a < nI nb
      · rw [if_pos g1, h_within, Option.bind_some, bI_ifn, if_neg (fun z => hno ⟨g1, z⟩)]
      · rw [if_neg g1]
    · rw [show am_up R 329 0 (R 329 0 + 1) 331 0 = R 331 0 from am_up_ne (by decide)]
      exact h.fnd (by decide)
  by_cases hB : 0 ≤ a ∧ a < nI nb
  · by_cases hN : 1 ≤ b ∧ b ≤ 30
    · obtain ⟨x, hx, rfl⟩ := ran_ix hB (by omega)
      obtain ⟨n, n1, n2, rfl⟩ := rng_nI (lo := 1) (hi := 30) hN.1 hN.2 (by decide) (by decide)
      have hx7 : x < 7 := by omega
      obtain ⟨by', nn, v, R1, hnn, hb, x1, x2, x3, x4⟩ := tp_read h
      have fc : ∀ c, c ≠ 299 → (c < 301 ∨ 305 ≤ c) → am_up R1 299 1 0 c = R c := fun c a1 a2 => by funext j; rw [am_up_ne a1, x2.1 c a1 a2]
      have hbn : ¬ nI n < 1 := by rw [show (1 : Int32) = nI 1 from rfl, nI_ltI (by omega) (by decide)]; omega
      rcases x3 with ⟨j, j1, j2, j3⟩ | ⟨S, s1, s2, s3, s4⟩
      · -- no text
        have m1 : MW (am_up (am_up R1 299 1 0) 329 2 (am_up R1 299 1 0 329 2 + 1)) w t m nb ns ne := h.mw.fr (fun c c1 c2 => by funext j; rw [am_up_ne (by omega), fc c (by omega) (by omega)])
        obtain ⟨v', R3, R4, y1, y2, y3, y4⟩ := x4 I P (am_up (am_up R1 299 1 0) 329 2 (am_up R1 299 1 0 329 2 + 1)) hS (Or.inr ⟨by rw [am_up_ne (by decide), fc 330 (by decide) (by decide)], by funext j; rw [am_up_ne (by decide), fc 359 (by decide) (by decide)]⟩)
        rcases y4 with ⟨q1, j', q2, q3⟩ | ⟨q1, S', M, tx, q2, q3, -⟩
        · have e29 : am_up R1 299 1 0 329 = R 329 := fc 329 (by decide) (by decide)
          have e31 : R3 331 = R 331 := by
            rw [y2]
            funext j
            rw [am_up_ne (by decide), y3.1 331 (by decide) (by decide), am_up_ne (by decide), fc 331 (by decide) (by decide)]
          have e3c : ∀ c, c ≠ 299 → c ≠ 330 → c ≠ 329 → (c < 301 ∨ 305 ≤ c) → (c < 360 ∨ 364 ≤ c) → R3 c = R c := fun c a1 a2 a3 a4 a5 => by
            rw [y2]
            funext j
            rw [am_up_ne a2, y3.1 c a2 a5, am_up_ne a3, fc c a1 a4]
          refine Or.inl ⟨-1000003, 2, am_up R1 299 1 0, R3, by decide, fd_3, by decide, fun K => ?_, ?_, ?_⟩
          · unfold chG
            rw [sm_ck_pos (am_t_pk (by decide)), sp_2_0 hS, sm_ck_pos (am_t_pk (by decide)), h.cw.hasBox, Option.bind_some, bI_if, if_pos hB, if_neg hbn, if_pos hN.2, sp_2_7 hS, sm_ck_pos (am_t_pk (by decide)), x1, Option.bind_some]
            dsimp only
            rw [j2, if_neg (nI_pos (by omega)), x_f3 hS, Option.bind_some]
          · unfold fM_changes
            rw [sm_ck_pos (am_t_pk (by decide)), m1.isB hS, Option.bind_some, bI_if, if_pos hB, h_within, Option.bind_some, bI_ifn, if_pos hN, y1, Option.bind_some]
            dsimp only
            rw [q1, if_neg (fun z => z rfl)]
          · refine ((h.wp).fnd (k := 2) (by decide)).bes2 ⟨fun c hc => ?_, fun c hc => ?_, fun k hk => ?_, ?_, fun j _ => ?_⟩ frPC.rfl h.1.1.2.2.1 (h.mw.fr (fun c c1 c2 => by funext j; rw [am_up_ne (by omega), e3c c (by omega) (by omega) (by omega) (by omega) (by omega)])) frI.rfl (Nat.le_refl _)
            · funext j
              rw [am_up_ne (by omega), am_up_ne (by omega), am_up_ne (by omega), am_up_ne (by omega), am_up_ne (by omega), e3c c (by omega) (by omega) (by omega) (by omega) (by omega)]
            · unfold kpc at hc
              by_cases z31 : c = 331
              · subst z31
                rw [e31]
                have ez : am_up (am_up R 299 1 0) 330 32 0 331 = R 331 := by funext j; rw [am_up_ne (by decide), am_up_ne (by decide)]
                rw [ez]
                refine upc (e31.trans ?_)
                funext j
                rw [am_up_ne (by decide), ez]
              · by_cases z29 : c = 329
                · subst z29
                  have ez : am_up (am_up R 299 1 0) 330 32 0 329 = R 329 := by funext j; rw [am_up_ne (by decide), am_up_ne (by decide)]
                  have e3 : R3 329 = am_up R 329 2 (R 329 2 + 1) 329 := by
                    rw [y2]
                    funext j
                    rw [am_up_ne (by decide), y3.1 329 (by decide) (by decide), e29]
                    exact congrFun (upc e29) j
                  rw [ez]
                  funext j
                  rw [am_up_ne (by decide), am_up_ne (by decide), e3]
                  exact (congrFun (upc ez) j).symm
                · funext j
                  rw [am_up_ne z31, am_up_ne z31, am_up_ne z29, am_up_ne (by omega), am_up_ne (by omega), e3c c (by omega) (by omega) z29 (by omega) (by omega)]
            · rw [am_up_ne (by decide), am_up_ne (by decide), am_up_ne (by decide), y2]
              by_cases z : k = 32
              · rw [z, am_up_eq, am_up_eq]
              · rw [am_up_nk z, am_up_nk z, y3.2 k (by omega), am_up_ne (by decide), fc 330 (by decide) (by decide), am_up_ne (by decide)]
            · rw [am_up_ne (by decide), am_up_ne (by decide), am_up_ne (by decide), am_up_ne (by decide), am_up_eq, y2, am_up_ne (by decide), y3.1 299 (by decide) (by decide), am_up_ne (by decide), am_up_eq]
            · rw [am_up_ne (by decide), am_up_ne (by decide), am_up_ne (by decide), am_up_ne (by decide), am_up_ne (by decide), e3c 357 (by decide) (by decide) (by decide) (by decide) (by decide)]
        · exact absurd (flt_no j1 q2 q3) (fun z => z)
      · -- a text
        obtain ⟨v0, R30, R40, y10, y20, y30, y40⟩ := x4 I P (am_up R1 299 1 0) hS (Or.inr ⟨by rw [fc 330 (by decide) (by decide)], fc 359 (by decide) (by decide)⟩)
        rcases y40 with ⟨q1, j', q2, q3⟩ | ⟨-, S0, M, tx, q2, q3, q4, -, -, q5, q6⟩
        · exact absurd (flt_no q3 s1 s2) (fun z => z)
        · have eS : S0 = S := by
            rw [s1] at q2
            have := congrArg Prod.snd q2
            injection this with this
            exact this.symm
          subst eS
          have ecs : (clS S0).cs = M := by show (pwF 110 S0.ws S0.cs).1 = M; rw [q4]
          obtain ⟨g1, -, -, -, -, -, -, gc, -, g3, g4⟩ := s4
          rw [ecs] at g1 gc
          have h379 := h.1.1.2.2.2
          -- the Lines, then two copies
          obtain ⟨I', P5, sl', o1, o2, o3, o4, o5, o6⟩ := x_lines (I := I) (R := am_up R1 299 1 0) (P := P) (nx := nx) (sl := sl) hS h379 q6 (by rw [am_up_nk (by decide)]; exact g1) (gc.fr (fun k _ => by rw [am_up_ne (by decide)])) (fun l hl => by rw [am_up_ne (by decide)]; exact g3 l hl) (fun l hl => by rw [am_up_ne (by decide)]; exact g4 l hl) q5
          have hb1 : ∀ i, P5 (am_pk i 0 1) 10 = P (am_pk i 0 1) 10 := fun i => o4 _ _ (fun z => by
            have := congrArg am_t z
            rw [am_t_pk (by decide), am_t_pk (by decide)] at this
            exact absurd this (by decide))
          have hP5 : ∀ a k, am_i a < nx → P5 a k = P a k := fun a k hia => o4 a k (pk_new (by decide) (by decide) hia)
          have hS5 : SP P5 := hS.kept2 (fun a k _ hia => hP5 a k (by omega))
          have L5 : LB P5 (nx + 4) := h.1.1.2.2.1.new o4
          have c0 : CW I' (am_up R1 299 1 0) P5 7 w t m nb ns ne := h.cw.keep h.1.1.2.2.1 (fun c a1 a2 => fc c (by omega) (by omega)) (fun c hc => fc c (by omega) (by omega)) (fun a k _ hia => hP5 a k hia) (fun i hi => hb1 _) o3
          obtain ⟨R3, P3, k1, k2, k3, k4, k5⟩ := x_copy (nx := nx + 4) (sl := sl') hS5 c0 W36 (by decide)
          have L3 : LB P3 (nx + 4) := L5.cpy W7 hle.1 k4
          have c3 : CW I' R3 P3 7 w t m nb ns ne := c0.keep L5 (fun c a1 a2 => k5 c (by omega)) (fun c hc => k5 c (by omega)) (fun a k ha _ => k4.1 a k ha) (fun i hi => k4.2.1 _ _ (by omega)) frJ.rfl
          obtain ⟨R4, P4, l1, l2, l3, l4, l5⟩ := x_copy (nx := nx + 4) (sl := sl') k3 c3 W65 (by decide)
          have L4 : LB P4 (nx + 4) := L3.cpy W7 hle.1 l4
          have c4 : CW I' R4 P4 7 w t m nb ns ne := c3.keep L3 (fun c a1 a2 => l5 c (by omega)) (fun c hc => l5 c (by omega)) (fun a k ha _ => l4.1 a k ha) (fun i hi => l4.2.1 _ _ (by omega)) frJ.rfl
          have d4 : CW I' R4 P4 36 w t m nb ns ne := k2.keep L3 (fun c a1 a2 => l5 c (by omega)) (fun c hc => l5 c (by omega)) (fun a k ha _ => l4.1 a k ha) (fun i hi => l4.2.1 _ _ (by omega)) frJ.rfl
          have f4 : ∀ c, (c < 36 ∨ 94 ≤ c) → R4 c = am_up R1 299 1 0 c := fun c hc => by rw [l5 c (by omega), k5 c (by omega)]
          have hP45 : ∀ a k, am_t a ≠ 1 → P4 a k = P5 a k := fun a k ha => (l4.1 a k ha).trans (k4.1 a k ha)
          have o5' : lnr (put I' R4) P4 (am_pk nx 0 4) tx := (o5.kept (put_okcl (fun c hc => f4 c (by omega)))).keptP hP45
          have tn : am_t (am_pk nx 0 4) ≠ 1 := by rw [am_t_pk (by decide)]; decide
          have o6' : lnb P4 (nx + 4) (am_pk nx 0 4) := ⟨o6.1, o6.2.1, by rw [hP45 _ _ tn]; exact o6.2.2.1, by rw [hP45 _ _ tn]; exact o6.2.2.2.1, by rw [hP45 _ _ tn]; exact o6.2.2.2.2⟩
          have hP6 : ∀ a k, am_t a ≠ 1 → am_up P4 (am_pk (65 + 8 + x) 0 1) 10 (am_pk nx 0 4) a k = P4 a k := fun a k ha => am_up_ne (fun z => ha (by rw [z]; exact am_t_pk (by decide)))
          have hP6' : ∀ a k, am_t a ≠ 1 → am_i a < nx → am_up P4 (am_pk (65 + 8 + x) 0 1) 10 (am_pk nx 0 4) a k = P a k := fun a k ha hia => by rw [hP6 a k ha, hP45 a k ha, hP5 a k hia]
          have hB6 : ∀ c, c ≠ 65 + 8 + x → am_up P4 (am_pk (65 + 8 + x) 0 1) 10 (am_pk nx 0 4) (am_pk c 0 1) 10 = P4 (am_pk c 0 1) 10 := fun c hc => am_up_ne (bx_ne hc)
          have hS6 : SP (am_up P4 (am_pk (65 + 8 + x) 0 1) 10 (am_pk nx 0 4)) := hS.kept2 (fun a k ha hia => hP6' a k ha (by omega))
          have L6 : LB (am_up P4 (am_pk (65 + 8 + x) 0 1) 10 (am_pk nx 0 4)) (nx + 4) := L4.up o6'
          have c65 := l2.tx (x := x) o5' (q5.wft q6)
          have c36 : CW I' R4 (am_up P4 (am_pk (65 + 8 + x) 0 1) 10 (am_pk nx 0 4)) 36 w t m nb ns ne := d4.keep L4 (fun _ _ _ => rfl) (fun _ _ => rfl) (fun a k ha _ => hP6 a k ha) (fun i hi => hB6 _ (by omega)) frJ.rfl
          have c7 : CW I' R4 (am_up P4 (am_pk (65 + 8 + x) 0 1) 10 (am_pk nx 0 4)) 7 w t m nb ns ne := c4.keep L4 (fun _ _ _ => rfl) (fun _ _ => rfl) (fun a k ha _ => hP6 a k ha) (fun i hi => hB6 _ (by omega)) frJ.rfl
          have hA' : apok I' := by
            have e : I' am_ap = I am_ap := o3 am_ap am_apt (by rw [am_api]; omega)
            unfold apok
            rw [e]; exact h.ap
          obtain ⟨Ra, r1, r2⟩ := x_fcL (nx := nx + 4) (sl := sl') (t := t) (t' := upX t x tx) hA' hS6 n2 hk0 ek0 n 0 sm_fu R4 (sm_fu_lt (by omega)) (by omega) c36 c65
          have fa : ∀ c, c ≠ 299 → (c < 301 ∨ 305 ≤ c) → (c < 36 ∨ 94 ≤ c) → c ≠ 307 → Ra c = R c := fun c a1 a2 a3 a4 => by rw [r1 c a3 a4, f4 c a3, fc c a1 a2]
          have a299 : Ra 299 1 = 0 := by rw [r1 299 (by decide) (by decide), f4 299 (by decide), am_up_eq]
          have c7a : CW I' Ra (am_up P4 (am_pk (65 + 8 + x) 0 1) 10 (am_pk nx 0 4)) 7 w t m nb ns ne := c7.fr (fun c a1 a2 => r1 c (by omega) (by omega)) (fun c hc => r1 c (by omega) (by omega))
          have hB94 : ∀ c, 94 ≤ c → c < 299 → am_up P4 (am_pk (65 + 8 + x) 0 1) 10 (am_pk nx 0 4) (am_pk c 0 1) 10 = P (am_pk c 0 1) 10 := fun c a1 a2 => by rw [hB6 c (by omega), l4.2.1 c 10 (by omega), k4.2.1 c 10 (by omega), hb1 c]
          have hfc : fX_firstChanged (am_pk 2 0 12) (nI x) (am_pk nx 0 4) (nI n) (put I' (am_up R1 299 1 0)) P5 (nx + 4) sl' = fX_firstChanged_L38 (fun l5 I P nx sl => some (l5, I, P, nx, sl)) (fun I P nx sl => some ((-1), I, P, nx, sl)) sm_fu (am_pk 2 0 12) (nI n) (nI 0) (put I' R4) (am_up P4 (am_pk (65 + 8 + x) 0 1) 10 (am_pk nx 0 4)) (nx + 4) sl' := by
            unfold fX_firstChanged
            rw [sm_ck_pos (am_t_pk (by decide)), sp_2_1 hS5, sm_ck_pos (am_t_pk (by decide)), sp_2_0 hS5, k1, Option.bind_some]
            dsimp only
            rw [sp_2_2 k3, sm_ck_pos (am_t_pk (by decide)), sp_2_0 k3, l1, Option.bind_some]
            dsimp only
            rw [sp_2_2 l3, sm_ck_pos (am_t_pk (by decide)), sp_w9 l3 W65, sm_ck_pos (sm_ia_nI (by decide) (by decide) (by decide) hx7), sm_ck_pos (am_t_pk (by decide)), nI_clamp (show x < 2 ^ 31 by omega), sp_bx l3 W65 hx7, sm_ck_pos (am_t_pk (by decide)), bd_eq]
            rfl
          have hG : ∀ K, chG K (am_pk 2 0 12) (nI x) (nI n) (put I R) P nx sl = Option.bind (fX_firstChanged_L38 (fun l5 I P nx sl => some (l5, I, P, nx, sl)) (fun I P nx sl => some ((-1), I, P, nx, sl)) sm_fu (am_pk 2 0 12) (nI n) (nI 0) (put I' R4) (am_up P4 (am_pk (65 + 8 + x) 0 1) 10 (am_pk nx 0 4)) (nx + 4) sl') (fun y13 =>
              if 0 ≤ y13.1 then
                (K y13.1 y13.2.1 y13.2.2.1 y13.2.2.2.1 y13.2.2.2.2)
              else
                (Option.bind (fX_found y13.2.2.1 (am_pk 2 0 12) ((-1000004)) y13.2.1) fun y16 =>
                some (y16.1, y16.2, y13.2.2.1, y13.2.2.2.1, y13.2.2.2.2))) := by
            intro K
            unfold chG
            rw [sm_ck_pos (am_t_pk (by decide)), sp_2_0 hS, sm_ck_pos (am_t_pk (by decide)), h.cw.hasBox, Option.bind_some, bI_if, if_pos hB, if_neg hbn, if_pos hN.2, sp_2_7 hS, sm_ck_pos (am_t_pk (by decide)), x1, Option.bind_some]
            dsimp only
            rw [s3, if_pos (by decide), o1, Option.bind_some]
            dsimp only
            rw [hfc]
          -- the reference from a memory like Ra
          have ref : ∀ Rc, (∀ c, c ≠ 329 → Rc c = Ra c) → ∃ v I2 Rb nx2 sl2, fM_changes (am_pk 330 0 13) (nI x) (nI n) (put I' Rc) (am_up P4 (am_pk (65 + 8 + x) 0 1) 10 (am_pk nx 0 4)) (nx + 4) sl' = some (v, put I2 Rb, am_up P4 (am_pk (65 + 8 + x) 0 1) 10 (am_pk nx 0 4), nx2, sl2) ∧ nx + 4 ≤ nx2 ∧ nx2 ≤ nx + 4 + 420 ∧ sl2 ≤ sl' + 840 ∧ MW Rb w t m nb ns ne ∧ frCh Rc Rb ∧ frI I' I2 ∧ ((∃ j s, fcF (fun i => hrN t m nb ns ne i w) (fun i => hrN (upX t x tx) m nb ns ne i w) ns n 0 = some (j, s) ∧ v = -1 ∧ Rb 330 59 = nI (k0 + j) ∧ Rb 330 60 = nI s) ∨ (fcF (fun i => hrN t m nb ns ne i w) (fun i => hrN (upX t x tx) m nb ns ne i w) ns n 0 = none ∧ v = -1000004)) := by
            intro Rc hRc
            have mc : MW Rc w t m nb ns ne := h.mw.fr (fun c c1 c2 => by rw [hRc c (by omega), fa c (by omega) (by omega) (by omega) (by omega)])
            obtain ⟨v', R7, R8, y1, y2, y3, y4⟩ := x4 I' _ Rc hS6 (Or.inr ⟨by rw [hRc 330 (by decide), fa 330 (by decide) (by decide) (by decide) (by decide)], by rw [hRc 359 (by decide), fa 359 (by decide) (by decide) (by decide) (by decide)]⟩)
            rcases y4 with ⟨p1, j', p2, p3⟩ | ⟨p1, S1, M1, tx1, p2, p3, p4, p5, p6, p7, p8⟩
            · exact absurd (flt_no p3 s1 s2) (fun z => z)
            · have eS : S1 = S0 := by
                rw [s1] at p2
                have := congrArg Prod.snd p2
                injection this with this
                exact this.symm
              subst eS
              have eM : M1 = M := by rw [q4] at p4; exact (congrArg Prod.fst p4).symm
              subst eM
              exact m_chg hS6 n1 n2 hk0 ek0 mc hx (by omega) y1 y2 y3 p1 p5 p6 q5 p8
          refine Or.inr ⟨I', _, sl', Ra, hS6, o2, o3, ?_⟩
          have base : ∀ (Rb : am_M) (I2 : am_M) (nx2 : Nat), MW Rb w t m nb ns ne → frI I' I2 → nx + 4 ≤ nx2 → frCh Ra Rb → (∃ w t m nb ns ne, INV I2 Rb (am_up P4 (am_pk (65 + 8 + x) 0 1) 10 (am_pk nx 0 4)) nx2 w t m nb ns ne) := by
            intro Rb I2 nx2 mb fi hn2 fb
            have fJ : frJ nx I I2 := o3.tr fi.J (Nat.le_refl nx)
            have e0 : ∀ c, c ≠ 299 → c ≠ 330 → am_up (am_up R 299 1 0) 330 32 0 c = R c := fun c h1 h2 => by funext j; rw [am_up_ne h2, am_up_ne h1]
            refine h.wp.mkP (fun c hc => ?_) (fun k hk => ?_) ?_ (fun j hj => ?_) hP6' hB94 fJ (L6.mono hn2) (by omega) h.2.1 ?_ mb
            · unfold kpc at hc
              rw [fb.1 c (by omega) (by omega) (by omega) (by omega) (by omega) (by omega), fa c (by omega) (by omega) (by omega) (by omega), e0 c (by omega) (by omega)]
            · by_cases z : k = 32
              · rw [z, am_up_eq]; exact fb.2.2.1
              · rw [am_up_nk z, am_up_ne (by decide), fb.2.1 k (by omega), fa 330 (by decide) (by decide) (by decide) (by decide)]
            · rw [am_up_ne (by decide), am_up_eq, fb.1 299 (by decide) (by decide) (by decide) (by decide) (by decide) (by decide)]
              exact a299
            · rw [fb.2.2.2 j hj, fa 357 (by decide) (by decide) (by decide) (by decide), e0 357 (by decide) (by decide)]
            · have c7b : CW I' Rb (am_up P4 (am_pk (65 + 8 + x) 0 1) 10 (am_pk nx 0 4)) 7 w t m nb ns ne := c7a.fr (fun c a1 a2 => fb.1 c (by omega) (by omega) (by omega) (by omega) (by omega) (by omega)) (fun c hc => fb.1 c (by omega) (by omega) (by omega) (by omega) (by omega) (by omega))
              exact c7b.keep L6 (fun _ _ _ => rfl) (fun _ _ => rfl) (fun _ _ _ _ => rfl) (fun _ _ => rfl) fi.J
          rcases r2 with ⟨j, s, z1, z2, z3, z4, z5⟩ | ⟨z1, z2⟩
          · refine Or.inr ⟨k0 + j, s, by omega, by omega, fun K => by
              rw [hG K, z5, Option.bind_some]
              dsimp only
              rw [if_pos (nI_pos' (by omega))], z4, ?_⟩
            obtain ⟨v, I2, Rb, nx2, sl2, w1, w2, w3, w4, w5, w6, w7, w8⟩ := ref Ra (fun _ _ => rfl)
            rcases w8 with ⟨j', s', u1, u2, u3, u4⟩ | ⟨u1, u2⟩
            · rw [z1] at u1
              injection u1 with u1
              have ej := congrArg Prod.fst u1
              have es := congrArg Prod.snd u1
              dsimp only at ej es
              subst ej
              subst es
              subst u2
              exact ⟨I2, Rb, nx2, sl2, w1, by omega, by omega, w4, w7, u3, u4, base Rb I2 nx2 w5 w7 w2 w6⟩
            · rw [z1] at u1
              exact absurd u1 (by simp)
          · refine Or.inl ⟨fun K => by
              rw [hG K, z2, Option.bind_some]
              dsimp only
              rw [if_neg (by decide), x_f4 hS6, Option.bind_some], ?_⟩
            obtain ⟨v, I2, Rb, nx2, sl2, w1, w2, w3, w4, w5, w6, w7, w8⟩ := ref (am_up Ra 329 3 (Ra 329 3 + 1)) (fun c hc => by funext j; rw [am_up_ne hc])
            rcases w8 with ⟨j', s', u1, -⟩ | ⟨u1, u2⟩
            · rw [z1] at u1
              exact absurd u1 (by simp)
            · subst u2
              refine ⟨I2, Rb, nx2, sl2, w1, by omega, by omega, w4, w7, ?_⟩
              -- without the findings it stands; add them
              have fRb : frCh Ra (am_up Rb 329 3 (Ra 329 3)) := by
                refine ⟨fun c d1 d2 d3 d4 d5 d6 => ?_, fun k hk => ?_, ?_, fun j hj => ?_⟩
                · have e := w6.1 c d1 d2 d3 d4 d5 d6
                  by_cases z : c = 329
                  · subst z
                    funext j
                    by_cases zj : j = 3
                    · rw [zj, am_up_eq]
                    · rw [am_up_nk zj, e, am_up_nk zj]
                  · funext j
                    rw [am_up_ne z, e, am_up_ne z]
                · rw [am_up_ne (by decide), w6.2.1 k hk, am_up_ne (by decide)]
                · rw [am_up_ne (by decide)]; exact w6.2.2.1
                · rw [am_up_ne (by decide), w6.2.2.2 j hj, am_up_ne (by decide)]
              obtain ⟨w', t', m', nb', ns', ne', hi⟩ := base (am_up Rb 329 3 (Ra 329 3)) I2 nx2 (w5.fr (fun c c1 c2 => by funext j; rw [am_up_ne (by omega)])) w7 w2 fRb
              have hf := hi.fnd (k := 3) (by decide)
              have e29 : Rb 329 3 = Ra 329 3 + 1 := by rw [w6.1 329 (by decide) (by decide) (by decide) (by decide) (by decide) (by decide), am_up_eq]
              have eq : am_up (am_up (am_up Rb 329 3 (Ra 329 3)) 329 3 (am_up Rb 329 3 (Ra 329 3) 329 3 + 1)) 331 3 (am_up Rb 329 3 (Ra 329 3) 331 3 + 1) = am_up Rb 331 3 (Rb 331 3 + 1) := by
                rw [am_up_eq, show am_up Rb 329 3 (Ra 329 3) 331 3 = Rb 331 3 from am_up_ne (by decide)]
                congr 1
                funext c j
                by_cases z : c = 329 ∧ j = 3
                · rw [z.1, z.2, am_up_eq, e29]
                · unfold am_up
                  rw [if_neg z, if_neg z]
              rw [eq] at hf
              exact ⟨w', t', m', nb', ns', ne', hf⟩
    · exact bey (fun z => hN z.2)
  · exact bey (fun z => hB z.1)
theorem op_change (h : INV I R P nx w t m nb ns ne) {a b : Int32} : OK3 I R P nx sl (fX_change (am_pk 2 0 12) a b) (fM_change (am_pk 330 0 13) a b) := by
  have hS := h.sp
  rcases op_chgR (sl := sl) h (a := a) (b := b) with ⟨f, k, Ra, Rb, hk, hf, h1, y1, y2, y3⟩ | ⟨I1, P1, sl1, Ra, hS1, y2, y3, y4⟩
  · refine ⟨f, I, am_up Ra 329 k (Ra 329 k + 1), P, nx, sl, I, am_up Rb 331 k (Rb 331 k + 1), nx, sl, ?_, ?_, y3, ⟨frJ.rfl, frJ.rfl⟩, Nat.le_refl _, by omega, by omega⟩
    · rw [chG_c, y1]
    · unfold fM_change
      rw [sm_ck_pos (am_t_pk (by decide)), y2, Option.bind_some]
      dsimp only
      rw [if_pos h1, m_finds hS hk hf, Option.bind_some]
  · rcases y4 with ⟨z1, I2, Rb, nx2, sl2, z2, z3, z4, z5, z6, z7⟩ | ⟨hr, s, z0, z00, z1, z2, I2, Rb, nx2, sl2, z3, z4, z5, z6, z7, z8, z9, z10⟩
    · refine ⟨-1000004, I1, am_up Ra 329 3 (Ra 329 3 + 1), P1, nx + 4, sl1, I2, am_up Rb 331 3 (Rb 331 3 + 1), nx2, sl2, ?_, ?_, z7, ⟨y3, y3.tr z6.J (Nat.le_refl nx)⟩, z4, by omega, by omega⟩
      · rw [chG_c, z1]
      · unfold fM_change
        rw [sm_ck_pos (am_t_pk (by decide)), z2, Option.bind_some]
        dsimp only
        rw [if_pos (by decide), m_f4 hS1, Option.bind_some]
    · refine ⟨nI hr, I1, Ra, P1, nx + 4, sl1, I2, Rb, nx2, sl2, ?_, ?_, z10, ⟨y3, y3.tr z7.J (Nat.le_refl nx)⟩, z5, by omega, by omega⟩
      · rw [chG_c, z1]
        show sm_ck (am_t (P1 (am_pk 2 0 12) 1) = 11) (some ((put I1 Ra) (P1 (am_pk 2 0 12) 1) 1 - 1, put I1 Ra, P1, nx + 4, sl1)) = _
        rw [sp_2_1 hS1, sm_ck_pos (am_t_pk (by decide)), put_rd (sc_w0 W36), z2, ← nI_dm, pk_m1]
      · unfold fM_change
        rw [sm_ck_pos (am_t_pk (by decide)), z3, Option.bind_some]
        dsimp only
        rw [if_neg (fun z => z rfl), put_rd sc_330, z8]
theorem op_drift (h : INV I R P nx w t m nb ns ne) {a b : Int32} : OK3 I R P nx sl (fX_drift (am_pk 2 0 12) a b) (fM_drift (am_pk 330 0 13) a b) := by
  have hS := h.sp
  rcases op_chgR (sl := sl) h (a := a) (b := b) with ⟨f, k, Ra, Rb, hk, hf, h1, y1, y2, y3⟩ | ⟨I1, P1, sl1, Ra, hS1, y2, y3, y4⟩
  · refine ⟨f, I, am_up Ra 329 k (Ra 329 k + 1), P, nx, sl, I, am_up Rb 331 k (Rb 331 k + 1), nx, sl, ?_, ?_, y3, ⟨frJ.rfl, frJ.rfl⟩, Nat.le_refl _, by omega, by omega⟩
    · rw [chG_d, y1]
    · unfold fM_drift
      rw [sm_ck_pos (am_t_pk (by decide)), y2, Option.bind_some]
      dsimp only
      rw [if_pos h1, m_finds hS hk hf, Option.bind_some]
  · rcases y4 with ⟨z1, I2, Rb, nx2, sl2, z2, z3, z4, z5, z6, z7⟩ | ⟨hr, s, z0, z00, z1, z2, I2, Rb, nx2, sl2, z3, z4, z5, z6, z7, z8, z9, z10⟩
    · refine ⟨-1000004, I1, am_up Ra 329 3 (Ra 329 3 + 1), P1, nx + 4, sl1, I2, am_up Rb 331 3 (Rb 331 3 + 1), nx2, sl2, ?_, ?_, z7, ⟨y3, y3.tr z6.J (Nat.le_refl nx)⟩, z4, by omega, by omega⟩
      · rw [chG_d, z1]
      · unfold fM_drift
        rw [sm_ck_pos (am_t_pk (by decide)), z2, Option.bind_some]
        dsimp only
        rw [if_pos (by decide), m_f4 hS1, Option.bind_some]
    · refine ⟨nI s, I1, Ra, P1, nx + 4, sl1, I2, Rb, nx2, sl2, ?_, ?_, z10, ⟨y3, y3.tr z7.J (Nat.le_refl nx)⟩, z5, by omega, by omega⟩
      · rw [chG_d, z1]
      · unfold fM_drift
        rw [sm_ck_pos (am_t_pk (by decide)), z3, Option.bind_some]
        dsimp only
        rw [if_neg (fun z => z rfl), put_rd sc_330, z9]
end OpC
