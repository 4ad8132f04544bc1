/-! ===== the call text: both ===== -/
section OpT
variable {I R : am_M} {P : am_Q} {nx sl : Nat} {w : am_M} {t : Nat → Nat → List Nat} {m nb ns ne : Nat}
theorem INV.wp (h : INV I R P nx w t m nb ns ne) : INV I (am_up (am_up R 299 1 0) 330 32 0) P nx w t m nb ns ne := by
  have e : ∀ c, c ≠ 299 → c ≠ 330 → am_up (am_up R 299 1 0) 330 32 0 c = R c := fun c h1 h2 => by funext j; rw [am_up_ne h2, am_up_ne h1]
  refine ⟨?_, h.2.1, ?_, ?_⟩
  · obtain ⟨g, r1, -, r3, r4, r5⟩ := h.1
    refine ⟨g, r1.k (e _ (by decide) (by decide)) (e _ (by decide) (by decide)) (e _ (by decide) (by decide)), ⟨0, by omega, by rw [am_up_ne (by decide), am_up_eq]; rfl, by rw [am_up_eq]; rfl, fun k hk => absurd hk (by omega)⟩, r3.k (fun c h1 h2 => e c (by omega) (by omega)) (e _ (by decide) (by decide)) (e _ (by decide) (by decide)) (e _ (by decide) (by decide)), r4.k g.2.2.1 (by rw [e 2 (by decide) (by decide)]) (by rw [am_up_nk (by decide), am_up_ne (by decide)]) (fun c h1 h2 => e c (by omega) (by omega)) (fun c hc => e c (by omega) (by omega)) (fun j _ _ => by rw [e 357 (by decide) (by decide)]), r5.k g.2.2.1 (e _ (by decide) (by decide)) (by rw [am_up_nk (by decide), am_up_ne (by decide)]) (fun c h1 h2 => e c (by omega) (by omega)) (fun c hc => e c (by omega) (by omega)) (fun j _ => by rw [e 357 (by decide) (by decide)])⟩
  · exact h.cw.fr (fun c h1 h2 => e c (by omega) (by omega)) (fun c hc => e c (by omega) (by omega))
  · exact h.mw.fr (fun c h1 h2 => e c (by omega) (by omega))
/-- a box's Lines are told -/
theorem CW.tx {b x lp : Nat} {tx : Nat → List Nat} (h : CW I R P b w t m nb ns ne) (hl : lnr (put I R) P lp tx) (hw : wft tx) : CW I R (am_up P (am_pk (b + 8 + x) 0 1) 10 lp) b w (upX t x tx) m nb ns ne := by
  have hP : ∀ a k, am_t a ≠ 1 → am_up P (am_pk (b + 8 + x) 0 1) 10 lp a k = P a k := fun a k ha => am_up_ne (fun z => ha (by rw [z]; exact am_t_pk (by decide)))
  obtain ⟨hb, h1, h2, h3, h4⟩ := h
  refine ⟨hb, h1, upX_w h2 hw, fun i hi => ?_, h4⟩
  unfold upX
  by_cases e : i = x
  · rw [if_pos e, e, am_up_eq]
    exact hl.keptP hP
  · rw [if_neg e, am_up_ne (bx_ne (by omega))]
    exact (h3 i hi).keptP hP
theorem LB.new {P' : am_Q} (h : LB P nx) (hP : ∀ a k, ¬ a = am_pk nx 0 4 → P' a k = P a k) : LB P' (nx + 4) := by
  intro c hc
  have e : P' (am_pk c 0 1) 10 = P (am_pk c 0 1) 10 := hP _ _ (fun z => by
    have := congrArg am_t z
    rw [am_t_pk (by decide), am_t_pk (by decide)] at this
    exact absurd this (by decide))
  rw [e]
  obtain ⟨h0, h1, h2, h3, h4⟩ := h c hc
  have en : ¬ P (am_pk c 0 1) 10 = am_pk nx 0 4 := pk_new (by decide) (by decide) h1
  exact ⟨h0, by omega, by rw [hP _ _ en]; omega, by rw [hP _ _ en]; omega, by rw [hP _ _ en]; omega⟩
/-- both have read the tape -/
theorem tp_read (h : INV I R P nx w t m nb ns ne) : ∃ b n v R1, n ≤ 80 ∧ (∀ k, k < n → b k < 256) ∧ fT_readAll P (am_pk 299 0 10) (put I R) = some (v, put I (am_up R1 299 1 0)) ∧ ((∀ c, c ≠ 299 → (c < 301 ∨ 305 ≤ c) → R1 c = R c) ∧ True) ∧ ((∃ j, fltP b n j ∧ v = nI j ∧ j ≤ 80) ∨ ∃ S, rnF b n 0 S00 = (n, some S) ∧ clP b n S ∧ v = -1 ∧ PSR R1 (clS S)) ∧ ∀ (I' : am_M) (P' : am_Q) (R2 : am_M), SP P' → RTp b n R2 ∨ R2 330 32 = R 330 32 ∧ R2 359 = R 359 → ∃ v' R3 R4, fM_isText P' (am_pk 330 0 13) (put I' R2) = some (v', put I' R3) ∧ R3 = am_up R4 330 32 0 ∧ frW R2 R4 ∧ itR b n v' R3 := by
  obtain ⟨n, hn, t1, t2, t3⟩ := h.1.2.2.1
  have hb : ∀ k, k < n → ix (R 359 k) < 256 ∧ R 359 k = nI (ix (R 359 k)) := fun k hk => by
    obtain ⟨-, c, hc, e⟩ := t3 k hk
    have : ix (R 359 k) = c := by rw [e]; exact nI_clamp (by omega)
    rw [this]; exact ⟨hc, e⟩
  obtain ⟨v, R1, y1, y2, y3⟩ := x_readAll (I := I) (b := fun k => ix (R 359 k)) h.sp hn (fun k hk => (hb k hk).1) t1 (fun k hk => (t3 k hk).1.trans (hb k hk).2)
  have eZ : am_up R1 299 1 0 = R1 := by
    funext c j
    by_cases e : c = 299 ∧ j = 1
    · rw [e.1, e.2, am_up_eq, y2.2, am_up_eq]
    · unfold am_up
      rw [if_neg e]
  refine ⟨fun k => ix (R 359 k), n, v, R1, hn, fun k hk => (hb k hk).1, by rw [eZ]; exact y1, ⟨fun c a1 a2 => by rw [y2.1 c a1 a2]; funext j; rw [am_up_ne a1], trivial⟩, ?_, fun I' P' R2 hS h2 => ?_⟩
  · rcases y3 with ⟨j, j1, j2⟩ | z
    · exact Or.inl ⟨j, j1, j2, Nat.le_trans j1.1 hn⟩
    · exact Or.inr z
  · refine m_isText hS hn (fun k hk => (hb k hk).1) ?_
    rcases h2 with z | ⟨z1, z2⟩
    · exact z
    · exact ⟨by rw [z1]; exact t2, fun k hk => by rw [z2]; exact (hb k hk).2⟩
/-- what reading leaves alone -/
def frTx (R R' : am_M) : Prop := (∀ c, c ≠ 299 → c ≠ 330 → (c < 301 ∨ 305 ≤ c) → (c < 360 ∨ 364 ≤ c) → R' c = R c) ∧ R' 299 1 = 0 ∧ R' 330 32 = 0 ∧ ∀ k, k ≠ 32 → (k < 37 ∨ 41 ≤ k) → R' 330 k = R 330 k
theorem frTx.V {R R' : am_M} (h : frTx R R') : frV (am_up (am_up R 299 1 0) 330 32 0) R' := by
  have e : ∀ c, c ≠ 299 → c ≠ 330 → am_up (am_up R 299 1 0) 330 32 0 c = R c := fun c h1 h2 => by funext j; rw [am_up_ne h2, am_up_ne h1]
  refine ⟨fun c hc => by rw [e c (by omega) (by omega)]; exact h.1 c (by omega) (by omega) (by omega) (by omega), fun c hc => ?_, fun k hk => ?_, by rw [am_up_ne (by decide), am_up_eq]; exact h.2.1, fun j _ => by rw [e 357 (by decide) (by decide), h.1 357 (by decide) (by decide) (by decide) (by decide)]⟩
  · unfold kpc at hc
    rw [e c (by omega) (by omega)]
    exact h.1 c (by omega) (by omega) (by omega) (by omega)
  · by_cases z : k = 32
    · rw [z, am_up_eq]; exact h.2.2.1
    · rw [am_up_nk z, am_up_ne (by decide)]
      exact h.2.2.2 k z (by omega)
theorem frTx.of {R R1 R4 : am_M} (y : (∀ c, c ≠ 299 → (c < 301 ∨ 305 ≤ c) → R1 c = R c) ∧ True) (z : frW (am_up R1 299 1 0) R4) : frTx R (am_up R4 330 32 0) := by
  refine ⟨fun c a1 a2 a3 a4 => ?_, ?_, am_up_eq, fun k k1 k2 => ?_⟩
  · funext j
    rw [am_up_ne a2, z.1 c a2 a4, am_up_ne a1, y.1 c a1 a3]
  · rw [am_up_ne (by decide), z.1 299 (by decide) (by decide), am_up_eq]
  · rw [am_up_nk k1, z.2 k k2, am_up_ne (by decide), y.1 330 (by decide) (by decide)]
theorem op_text (h : INV I R P nx w t m nb ns ne) {a : Int32} : OK2 I R P nx sl (fX_text (am_pk 2 0 12) a) (fun Q => fM_text Q (am_pk 330 0 13) a) := by
  have hS := h.sp
  have hle := h.mw.le
  by_cases hB : 0 ≤ a ∧ a < nI nb
  · obtain ⟨x, hx, rfl⟩ := ran_ix hB (by omega)
    have hx7 : x < 7 := by omega
    obtain ⟨b, n, v, R1, hn, hb, x1, x2, x3, x4⟩ := tp_read h
    have m2 : MW (am_up R1 299 1 0) w t m nb ns ne := h.mw.fr (fun c c1 c2 => by funext j; rw [am_up_ne (by omega), x2.1 c (by omega) (by omega)])
    have e32 : am_up R1 299 1 0 330 32 = R 330 32 := by rw [am_up_ne (by decide), x2.1 330 (by decide) (by decide)]
    have e359 : am_up R1 299 1 0 359 = R 359 := by funext j; rw [am_up_ne (by decide), x2.1 359 (by decide) (by decide)]
    rcases x3 with ⟨j, j1, j2, j3⟩ | ⟨S, s1, s2, s3, s4⟩
    · -- a fault
      obtain ⟨v', R3, R4, y1, y2, y3, y4⟩ := x4 I P (am_up R1 299 1 0) hS (Or.inr ⟨e32, e359⟩)
      have hT : frTx R R3 := by rw [y2]; exact frTx.of x2 y3
      have m3 : MW R3 w t m nb ns ne := h.mw.fr (fun c c1 c2 => hT.1 c (by omega) (by omega) (by omega) (by omega))
      rcases y4 with ⟨q1, j', q2, q3⟩ | ⟨q1, S', M, tx, q2, q3, -⟩
      · have ej := flt_u j1 q3
        refine ⟨nI j, I, am_up R1 299 1 0, P, nx, sl, R3, ?_, ?_, h.wp.bes2 hT.V frPC.rfl h.1.1.2.2.1 m3 frI.rfl (Nat.le_refl _), frJ.rfl, Nat.le_refl _, by omega, by omega⟩
        · unfold fX_text
          rw [sm_ck_pos (am_t_pk (by decide)), sp_2_0 hS, sm_ck_pos (am_t_pk (by decide)), h.cw.hasBox, Option.bind_some, bI_ifn, if_pos hB, sp_2_7 hS, sm_ck_pos (am_t_pk (by decide)), x1, Option.bind_some]
          dsimp only
          rw [j2, if_pos (nI_pos' (by omega))]
        · show fM_text P (am_pk 330 0 13) _ _ = _
          unfold fM_text
          rw [sm_ck_pos (am_t_pk (by decide)), m2.isB hS, Option.bind_some, bI_ifn, if_pos hB, y1, Option.bind_some]
          dsimp only
          rw [q1, if_neg (fun z => z rfl), put_rd sc_330, q2, ej]
      · exact absurd (flt_no j1 q2 q3) (fun z => z)
    · -- a text
      obtain ⟨z, z1, z2⟩ : ∃ z, pwF 110 S.ws S.cs = z ∧ z = ((clS S).cs, (clS S).ws) := ⟨_, rfl, rfl⟩
      -- what the reference will read
      obtain ⟨v0, R30, R40, y10, y20, y30, y40⟩ := x4 I P (am_up R1 299 1 0) hS (Or.inr ⟨e32, e359⟩)
      rcases y40 with ⟨q1, j', q2, q3⟩ | ⟨-, S0, M, tx, q2, q3, q4, -, -, q5, q6⟩
      · exact absurd (flt_no q3 s1 s2) (fun z => z)
      · have eS : S0 = S := by
          rw [s1] at q2
          have := congrArg Prod.snd q2
          injection this with this
          exact this.symm
        subst eS
        have ecs : (clS S0).cs = M := by show (pwF 110 S0.ws S0.cs).1 = M; rw [q4]
        obtain ⟨g1, -, -, -, -, -, -, gc, -, g3, g4⟩ := s4
        rw [ecs] at g1 gc
        have u299 : ∀ k, k ≠ 1 → am_up R1 299 1 0 299 k = R1 299 k := fun k hk => am_up_nk hk
        obtain ⟨I', P', sl', l1, l2, l3, l4, l5, l6⟩ := x_lines (I := I) (R := am_up R1 299 1 0) (P := P) (nx := nx) (sl := sl) hS h.1.1.2.2.2 q6 (by rw [u299 3 (by decide)]; exact g1) (gc.fr (fun k _ => by rw [am_up_ne (by decide)])) (fun l hl => by rw [am_up_ne (by decide)]; exact g3 l hl) (fun l hl => by rw [am_up_ne (by decide)]; exact g4 l hl) q5
        have hPk : ∀ a k, am_t a ≠ 1 → am_i a < nx → am_up P' (am_pk (7 + 8 + x) 0 1) 10 (am_pk nx 0 4) a k = P a k := fun a k ha hia => by
          rw [am_up_ne (fun z => ha (by rw [z]; exact am_t_pk (by decide)))]
          exact l4 a k (pk_new (by decide) (by decide) hia)
        have h379 := h.1.1.2.2.2
        have hS' : SP (am_up P' (am_pk (7 + 8 + x) 0 1) 10 (am_pk nx 0 4)) := hS.kept2 (fun a k ha hia => hPk a k ha (by omega))
        have hL' : LB (am_up P' (am_pk (7 + 8 + x) 0 1) 10 (am_pk nx 0 4)) (nx + 4) := (h.1.1.2.2.1.new l4).up l6
        have hb1 : ∀ i, P' (am_pk i 0 1) 10 = P (am_pk i 0 1) 10 := fun i => l4 _ _ (fun z => by
          have := congrArg am_t z
          rw [am_t_pk (by decide), am_t_pk (by decide)] at this
          exact absurd this (by decide))
        have fc : ∀ c, c ≠ 299 → (c < 301 ∨ 305 ≤ c) → am_up R1 299 1 0 c = R c := fun c a1 a2 => by funext j; rw [am_up_ne a1, x2.1 c a1 a2]
        have c1 : CW I' (am_up R1 299 1 0) P' 7 w t m nb ns ne := h.cw.keep h.1.1.2.2.1 (fun c a1 a2 => fc c (by omega) (by omega)) (fun c hc => fc c (by omega) (by omega)) (fun a k ha hia => l4 a k (pk_new (by decide) (by decide) hia)) (fun i hi => hb1 _) l3
        have c2 := c1.tx (x := x) l5 (q5.wft q6)
        obtain ⟨v', R3, R4, y1, y2, y3, y4⟩ := x4 I' _ (am_up R1 299 1 0) hS' (Or.inr ⟨e32, e359⟩)
        have hT : frTx R R3 := by rw [y2]; exact frTx.of x2 y3
        have m3 : MW R3 w t m nb ns ne := h.mw.fr (fun c c1 c2 => hT.1 c (by omega) (by omega) (by omega) (by omega))
        rcases y4 with ⟨p1, j', p2, p3⟩ | ⟨p1, S1, M1, tx1, p2, p3, p4, p5, p6, p7, p8⟩
        · exact absurd (flt_no p3 s1 s2) (fun z => z)
        · have eS : S1 = S0 := by
            rw [s1] at p2
            have := congrArg Prod.snd p2
            injection this with this
            exact this.symm
          subst eS
          have eM : M1 = M := by rw [q4] at p4; exact (congrArg Prod.fst p4).symm
          subst eM
          obtain ⟨R5, w1, w2, w3⟩ := m_tkT (I := I') hS' m3 hx p8 p5 p6 q5
          have c5 : CW I' R5 (am_up P' (am_pk (7 + 8 + x) 0 1) 10 (am_pk nx 0 4)) 7 w (upX t x tx) m nb ns ne := c2.fr (fun c a1 a2 => by rw [w3 c (by omega), hT.1 c (by omega) (by omega) (by omega) (by omega), fc c (by omega) (by omega)]) (fun c hc => by rw [w3 c (by omega), hT.1 c (by omega) (by omega) (by omega) (by omega), fc c (by omega) (by omega)])
          have hV := hT.V
          refine ⟨-1, I', am_up R1 299 1 0, _, nx + 4, sl', R5, ?_, ?_, h.wp.mkP (fun c hc => by rw [w3 c (by unfold kpc at hc; omega)]; exact hV.2.1 c hc) (fun k hk => by rw [w3 330 (by decide)]; exact hV.2.2.1 k hk) (by rw [w3 299 (by decide)]; exact hV.2.2.2.1) (fun j hj => by rw [w3 357 (by decide)]; exact hV.2.2.2.2 j hj) hPk (fun c a1 a2 => by rw [am_up_ne (bx_ne (by omega))]; exact hb1 c) l3 hL' (by omega) h.2.1 c5 w2, l3, by omega, by omega, by omega⟩
          · unfold fX_text
            rw [sm_ck_pos (am_t_pk (by decide)), sp_2_0 hS, sm_ck_pos (am_t_pk (by decide)), h.cw.hasBox, Option.bind_some, bI_ifn, if_pos hB, sp_2_7 hS, sm_ck_pos (am_t_pk (by decide)), x1, Option.bind_some]
            dsimp only
            rw [s3, if_neg (by decide), sp_w9 hS W7, sm_ck_pos (sm_ia_nI (by decide) (by decide) (by decide) hx7), l1, Option.bind_some]
            dsimp only
            rw [nI_clamp (show x < 2 ^ 31 by omega), sp_bx hS W7 hx7, sm_ck_pos (am_t_pk (by decide)), bd_eq]
          · show fM_text (am_up P' (am_pk (7 + 8 + x) 0 1) 10 (am_pk nx 0 4)) (am_pk 330 0 13) _ _ = _
            unfold fM_text
            rw [sm_ck_pos (am_t_pk (by decide)), m2.isB hS', Option.bind_some, bI_ifn, if_pos hB, y1, Option.bind_some]
            dsimp only
            rw [p1, if_pos (by decide), w1, Option.bind_some]
  · refine h.fl2 (v := -1000001) (k := 0) (by decide) ?_ (fun R1 hM hc1 => ?_)
    · unfold fX_text
      rw [sm_ck_pos (am_t_pk (by decide)), sp_2_0 hS, sm_ck_pos (am_t_pk (by decide)), h.cw.hasBox, Option.bind_some, bI_ifn, if_neg hB, x_f1 hS, Option.bind_some]
    · show fM_text P (am_pk 330 0 13) _ _ = _
      unfold fM_text
      rw [sm_ck_pos (am_t_pk (by decide)), hM.isB hS, Option.bind_some, bI_ifn, if_neg hB, m_f1 hS, Option.bind_some]
end OpT
