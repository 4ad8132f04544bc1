/-! ===== the calls answers and solve ===== -/
theorem rgL_lt {rc : Nat → Nat} {x g : Nat} : ∀ (n i a : Nat), i + n ≤ 7 → a < 128 → rgL rc x g n i a < 128
  | 0, _, _, _, h => h
  | n + 1, i, a, h1, h2 => by
    show rgL rc x g n (i + 1) (if g.testBit i = true ∧ (rc i).testBit x = true then a ||| 2 ^ i else a) < 128
    by_cases q : g.testBit i = true ∧ (rc i).testBit x = true
    · rw [if_pos q]; exact rgL_lt n (i + 1) _ (by omega) (bt_or a h2 i (by omega)).2
    · rw [if_neg q]; exact rgL_lt n (i + 1) _ (by omega) h2
theorem rgN_lt {w : am_M} {t : Nat → Nat → List Nat} {nb ns x : Nat} (h : nb ≤ 7) : rgN w t nb ns x < 128 := rgL_lt nb 0 0 (by omega) (by decide)
theorem upc {R R' : am_M} {c k : Nat} {v : Int32} (h : R' c = R c) : am_up R' c k v c = am_up R c k v c := by
  funext j
  unfold am_up
  rw [h]
/-- what counts beside the world -/
def frV (R R' : am_M) : Prop := (∀ c, c < 36 → R' c = R c) ∧ (∀ c, kpc c → R' c = R c) ∧ (∀ k, k = 28 ∨ k = 29 ∨ k = 32 → R' 330 k = R 330 k) ∧ R' 299 1 = R 299 1 ∧ ∀ j, j < 10500 → R' 357 j = R 357 j
/-- what the class's trials leave alone -/
def frX (R R' : am_M) : Prop := ∀ c, (c < 36 ∨ 94 ≤ c) → c ≠ 305 → c ≠ 307 → (c < 308 ∨ 320 ≤ c) → R' c = R c
/-- what the reference's trials leave alone -/
def frTr (R R' : am_M) : Prop := (∀ e, e ≠ 330 → e ≠ 340 → e ≠ 358 → (e < 364 ∨ 368 ≤ e) → R' e = R e) ∧ ∀ k, k ≠ 45 → k ≠ 46 → R' 330 k = R 330 k
section Solve
variable {I R : am_M} {P : am_Q} {nx sl : Nat} {w : am_M} {t : Nat → Nat → List Nat} {m nb ns ne : Nat}
theorem INV.bes2 {R2 I2 : am_M} {P1 : am_Q} {nx2 : Nat} (h : INV I R P nx w t m nb ns ne) (f : frV R R2) (p1 : frPC P P1) (hL : LB P1 nx) (hM : MW R2 w t m nb ns ne) (hI : frI I I2) (hn : nx ≤ nx2) : ∃ w t m nb ns ne, INV I2 R2 P1 nx2 w t m nb ns ne := by
  refine h.mkP f.2.1 f.2.2.1 f.2.2.2.1 f.2.2.2.2 (fun a k ha _ => p1.1 a k ha) (fun c h1 h2 => p1.2 c (by omega) (by omega)) hI.J (hL.mono hn) hn h.2.1 ?_ hM
  exact h.cw.keep h.1.1.2.2.1 (fun c h1 h2 => f.1 c (by omega)) (fun c hc => f.1 c (by omega)) (fun a k ha _ => p1.1 a k ha) (fun i hi => p1.2 _ (by omega) (by omega)) hI.J
theorem frX.V {R1 R3 : am_M} (f1 : frX R R1) (f2 : frTr R1 R3) : frV R R3 := by
  have key : ∀ c, (c < 36 ∨ 94 ≤ c) → c ≠ 305 → c ≠ 307 → (c < 308 ∨ 320 ≤ c) → c ≠ 330 → c ≠ 340 → c ≠ 358 → (c < 364 ∨ 368 ≤ c) → R3 c = R c := fun c a1 a2 a3 a4 a5 a6 a7 a8 => by rw [f2.1 c a5 a6 a7 a8, f1 c a1 a2 a3 a4]
  refine ⟨fun c hc => key c (by omega) (by omega) (by omega) (by omega) (by omega) (by omega) (by omega) (by omega), fun c hc => ?_, fun k hk => ?_, ?_, fun j _ => ?_⟩
  · unfold kpc at hc
    exact key c (by omega) (by omega) (by omega) (by omega) (by omega) (by omega) (by omega) (by omega)
  · rw [f2.2 k (by omega) (by omega), f1 330 (by decide) (by decide) (by decide) (by decide)]
  · rw [key 299 (by decide) (by decide) (by decide) (by decide) (by decide) (by decide) (by decide) (by decide)]
  · rw [key 357 (by decide) (by decide) (by decide) (by decide) (by decide) (by decide) (by decide) (by decide)]
theorem INV.okS {R1 R3 : am_M} {P1 : am_Q} (h : INV I R P nx w t m nb ns ne) (f1 : frX R R1) (p1 : frPC P P1) (hL : LB P1 nx) (f2 : frTr R1 R3) (hM : MW R3 w t m nb ns ne) : ∃ w t m nb ns ne, INV I R3 P1 nx w t m nb ns ne :=
  h.bes2 (f1.V f2) p1 hL hM frI.rfl (Nat.le_refl _)
theorem INV.flS {R1 R3 : am_M} {P1 : am_Q} {k : Nat} (hk : k < 7) (h : INV I R P nx w t m nb ns ne) (f1 : frX R R1) (p1 : frPC P P1) (hL : LB P1 nx) (f2 : frTr (am_up R1 329 k (R1 329 k + 1)) R3) (hM : MW R3 w t m nb ns ne) : ∃ w t m nb ns ne, INV I (am_up R3 331 k (R3 331 k + 1)) P1 nx w t m nb ns ne := by
  have e1 : R1 329 = R 329 := f1 329 (by decide) (by decide) (by decide) (by decide)
  have e2 : R3 331 = R 331 := by rw [f2.1 331 (by decide) (by decide) (by decide) (by decide)]; funext j; rw [am_up_ne (by decide), f1 331 (by decide) (by decide) (by decide) (by decide)]
  have e3 : R3 329 = am_up R 329 k (R 329 k + 1) 329 := by rw [f2.1 329 (by decide) (by decide) (by decide) (by decide), e1]; exact upc e1
  have h' := h.fnd (k := k) hk
  have key : ∀ c, (c < 36 ∨ 94 ≤ c) → c ≠ 305 → c ≠ 307 → (c < 308 ∨ 320 ≤ c) → c ≠ 330 → c ≠ 340 → c ≠ 358 → (c < 364 ∨ 368 ≤ c) → am_up R3 331 k (R3 331 k + 1) c = am_up (am_up R 329 k (R 329 k + 1)) 331 k (R 331 k + 1) c := fun c a1 a2 a3 a4 a5 a6 a7 a8 => by
    rw [e2]
    by_cases z : c = 331
    · rw [z]
      refine upc (e2.trans ?_)
      funext j; rw [am_up_ne (by decide)]
    · by_cases z2 : c = 329
      · rw [z2]; funext j; rw [am_up_ne (by decide), am_up_ne (by decide), e3]
      · funext j; rw [am_up_ne z, am_up_ne z, am_up_ne z2, f2.1 c a5 a6 a7 a8, am_up_ne z2, f1 c a1 a2 a3 a4]
  refine h'.bes2 ⟨fun c hc => key c (by omega) (by omega) (by omega) (by omega) (by omega) (by omega) (by omega) (by omega), fun c hc => ?_, fun j hj => ?_, ?_, fun j _ => ?_⟩ p1 hL (hM.fr (fun c c1 c2 => by funext j; rw [am_up_ne (by omega)])) frI.rfl (Nat.le_refl _)
  · unfold kpc at hc
    exact key c (by omega) (by omega) (by omega) (by omega) (by omega) (by omega) (by omega) (by omega)
  · rw [am_up_ne (by decide), am_up_ne (by decide), am_up_ne (by decide), f2.2 j (by omega) (by omega), am_up_ne (by decide), f1 330 (by decide) (by decide) (by decide) (by decide)]
  · rw [key 299 (by decide) (by decide) (by decide) (by decide) (by decide) (by decide) (by decide) (by decide)]
  · rw [key 357 (by decide) (by decide) (by decide) (by decide) (by decide) (by decide) (by decide) (by decide)]
theorem x_opA (hS : SP P) (h : CW I R P 7 w t m nb ns ne) {a : Int32} (ha : ¬ (0 ≤ a ∧ a < nI nb)) : fX_openRing (am_pk 2 0 12) a (put I R) P nx sl = some (-1000001, put I R, P, nx, sl) := by
  unfold fX_openRing
  rw [sm_ck_pos (am_t_pk (by decide)), sp_2_0 hS, sm_ck_pos (am_t_pk (by decide)), h.hasBox, Option.bind_some, bI_ifn, if_neg ha]
theorem x_opB (hS : SP P) (h : CW I R P 7 w t m nb ns ne) {x : Nat} (hx : x < nb) (hg : rgN w t nb ns x = 0) : fX_openRing (am_pk 2 0 12) (nI x) (put I R) P nx sl = some (-1000004, put I R, P, nx, sl) := by
  have hle := h.le
  unfold fX_openRing
  rw [sm_ck_pos (am_t_pk (by decide)), sp_2_0 hS, sm_ck_pos (am_t_pk (by decide)), h.hasBox, Option.bind_some, bI_ifn, if_pos ⟨nI_pos' (by omega), by rw [nI_ltI (by omega) (by omega)]; exact hx⟩, sp_2_11 hS, sm_ck_pos (am_t_pk (by decide)), x_ring hS h hx, Option.bind_some, hg, if_neg (fun z => z rfl)]
theorem x_opC (hS : SP P) (h : CW I R P 7 w t m nb ns ne) {x g : Nat} (hx : x < nb) (hg : rgN w t nb ns x = g) (h0 : g ≠ 0) (h3 : 3 < (rsN w ns g).1) : ∃ R', fX_openRing (am_pk 2 0 12) (nI x) (put I R) P nx sl = some (-1000007, put I R', P, nx, sl) ∧ frX R R' := by
  have hle := h.le
  have hg8 : g < 128 := by rw [← hg]; exact rgN_lt hle.1
  have hp := rsN_I (w := w) (ns := ns) (g := g)
  obtain ⟨R1, y1, y2, y3⟩ := x_gather hS hg8 h
  have hc : R1 311 2 = nI (rsN w ns g).1 := y2.1
  have hp1 := hp.1
  refine ⟨R1, ?_, fun c _ _ _ a4 => y3 c (by omega) (by omega)⟩
  unfold fX_openRing
  rw [sm_ck_pos (am_t_pk (by decide)), sp_2_0 hS, sm_ck_pos (am_t_pk (by decide)), h.hasBox, Option.bind_some, bI_ifn, if_pos ⟨nI_pos' (by omega), by rw [nI_ltI (by omega) (by omega)]; exact hx⟩, sp_2_11 hS, sm_ck_pos (am_t_pk (by decide)), x_ring hS h hx, Option.bind_some, hg, if_pos (by rw [show (0 : Int32) = nI 0 from rfl, nI_eq (by omega) (by decide)]; exact h0), y1, Option.bind_some, put_rd sc_311, hc, if_neg (by rw [show (3 : Int32) = nI 3 from rfl, nI_leI (by omega) (by decide)]; omega)]
theorem x_opD (hS : SP P) (hL : LB P nx) (h : CW I R P 7 w t m nb ns ne) {x g : Nat} (hx : x < nb) (hg : rgN w t nb ns x = g) (h0 : g ≠ 0) (h3 : (rsN w ns g).1 ≤ 3) : ∃ R' P', fX_openRing (am_pk 2 0 12) (nI x) (put I R) P nx sl = some (0, put I R', P', nx, sl) ∧ CW I R' P' 36 w t m nb ns ne ∧ rsH R' 312 311 2 (rsN w ns g) ∧ SP P' ∧ LB P' nx ∧ frX R R' ∧ frPC P P' := by
  have hle := h.le
  have hg8 : g < 128 := by rw [← hg]; exact rgN_lt hle.1
  obtain ⟨R1, y1, y2, y3⟩ := x_gather hS hg8 h
  have hc : R1 311 2 = nI (rsN w ns g).1 := y2.1
  have hc1 : CW I R1 P 7 w t m nb ns ne := h.fr (fun c c1 c2 => y3 c (by omega) (by omega)) (fun c hc => y3 c (by omega) (by omega))
  obtain ⟨R2, P2, z1, z2, z3, z4, z5, z6⟩ := x_side (nx := nx) (sl := sl) hS hL hc1
  refine ⟨R2, P2, ?_, z2, ⟨by rw [z5 311 (by decide) (by decide) (by decide)]; exact y2.1, fun k hk => by rw [z5 312 (by decide) (by decide) (by decide)]; exact y2.2 k hk⟩, z3, z4, fun c a1 a2 a3 a4 => by rw [z5 c a1 a2 a3, y3 c (by omega) (by omega)], z6⟩
  unfold fX_openRing
  rw [sm_ck_pos (am_t_pk (by decide)), sp_2_0 hS, sm_ck_pos (am_t_pk (by decide)), h.hasBox, Option.bind_some, bI_ifn, if_pos ⟨nI_pos' (by omega), by rw [nI_ltI (by omega) (by omega)]; exact hx⟩, sp_2_11 hS, sm_ck_pos (am_t_pk (by decide)), x_ring hS h hx, Option.bind_some, hg, if_pos (by rw [show (0 : Int32) = nI 0 from rfl, nI_eq (by omega) (by decide)]; exact h0), y1, Option.bind_some, put_rd sc_311, hc, if_pos (by rw [show (3 : Int32) = nI 3 from rfl, nI_leI (by omega) (by decide)]; omega), sp_2_1 hS, sm_ck_pos (am_t_pk (by decide)), z1, Option.bind_some]
theorem m_tkt (hS : SP P) (h : MW R w t m nb ns ne) {g : Nat} (hg : g < 128) : ∃ R1, fM_takesRing P (am_pk 330 0 13) (nI g) (put I R) = some (put I R1) ∧ R1 330 45 = nI (rsN w ns g).1 ∧ frTr R R1 ∧ MW R1 w t m nb ns ne ∧ ((rsN w ns g).1 ≤ 3 → ∃ R2, fM_triesAll P (am_pk 330 0 13) (put I R1) = some (put I R2) ∧ MW R2 w t m nb ns ne ∧ R2 330 45 = nI (rsN w ns g).1 ∧ R2 330 46 = nI (mrF (anP w t (rsN w ns g).2 m (rsN w ns g).1) (m ^ (rsN w ns g).1) 0 0 0).1 ∧ (0 < (mrF (anP w t (rsN w ns g).2 m (rsN w ns g).1) (m ^ (rsN w ns g).1) 0 0 0).1 → ∀ k, k < (rsN w ns g).1 → R2 366 k = nI (dgF m (rsN w ns g).1 (mrF (anP w t (rsN w ns g).2 m (rsN w ns g).1) (m ^ (rsN w ns g).1) 0 0 0).2 k)) ∧ frTr R R2) := by
  obtain ⟨R1, y1, y2, y3, y4⟩ := m_takes (I := I) hS hg h
  have hp := rsN_I (w := w) (ns := ns) (g := g)
  have m1 : MW R1 w t m nb ns ne := h.fr (fun c c1 c2 => y3 c (by omega) (by omega))
  refine ⟨R1, y1, y2.1, ⟨fun e a1 a2 a3 a4 => y3 e a1 (by omega), fun k a1 a2 => y4 k a1⟩, m1, fun hn => ?_⟩
  obtain ⟨R2, z1, z2, z3, z4, z5, z6⟩ := m_tries (I := I) hS m1 hn hp.ok y2.1 y2.2
  exact ⟨R2, z1, z2, by rw [z6 45 (by decide)]; exact y2.1, z3, z4, fun e a1 a2 a3 a4 => by rw [z5 e a1 a2 a3 (by omega) (by omega) (by omega), y3 e a1 (by omega)], fun k a1 a2 => by rw [z6 k a2, y4 k a1]⟩
theorem op_answers (h : INV I R P nx w t m nb ns ne) {a : Int32} : OK2 I R P nx sl (fX_answers (am_pk 2 0 12) a) (fun Q => fM_answers Q (am_pk 330 0 13) a) := by
  have hS := h.sp
  have hle := h.mw.le
  by_cases hB : 0 ≤ a ∧ a < nI nb
  · obtain ⟨x, hx, rfl⟩ := ran_ix hB (by omega)
    obtain ⟨g, hg⟩ : ∃ g, rgN w t nb ns x = g := ⟨_, rfl⟩
    have hg8 : g < 128 := by rw [← hg]; exact rgN_lt hle.1
    have hgn : g ≠ 0 → ¬ nI g = (0 : Int32) := fun z => by rw [show (0 : Int32) = nI 0 from rfl, nI_eq (by omega) (by decide)]; exact z
    have hp := rsN_I (w := w) (ns := ns) (g := g)
    by_cases h0 : g = 0
    · subst h0
      refine h.fl2 (v := -1000004) (k := 3) (by decide) ?_ (fun R1 hM hc1 => ?_)
      · unfold fX_answers
        rw [sm_ck_pos (am_t_pk (by decide)), x_opB hS h.cw hx hg, Option.bind_some]
        dsimp only
        rw [if_neg (by decide), x_f4 hS, Option.bind_some]
      · show fM_answers P (am_pk 330 0 13) _ _ = _
        unfold fM_answers
        rw [sm_ck_pos (am_t_pk (by decide)), hM.isB hS, Option.bind_some, bI_ifn, if_pos hB, m_ring hS hM hx, Option.bind_some, hg, if_neg (fun z => z rfl), m_f4 hS, Option.bind_some]
    · by_cases h3 : (rsN w ns g).1 ≤ 3
      · obtain ⟨R1, P1, x1, x2, x3, x4, x5, x6, x7⟩ := x_opD (nx := nx) (sl := sl) hS h.1.1.2.2.1 h.cw hx hg h0 h3
        obtain ⟨R2, y1, -, y3⟩ := x_search x4 x2 h3 (L := 1000000) (by decide) (by decide) hp x3
        have f2 : frX R R2 := fun c a1 a2 a3 a4 => by rw [y3 c (by omega) a3 (by omega), x6 c a1 a2 a3 a4]
        have m2 : MW R2 w t m nb ns ne := h.mw.fr (fun c c1 c2 => f2 c (by omega) (by omega) (by omega) (by omega))
        obtain ⟨R3, z1, z2, z3, z4, z5⟩ := m_tkt (I := I) x4 m2 hg8
        obtain ⟨R4, s1, s2, s3, s4, s5, s6⟩ := z5 h3
        have hpw := pw_le (m := m) (n := (rsN w ns g).1) hle.2.2.2.2 h3 (by omega)
        have e := srF_mr (an := anP w t (rsN w ns g).2 m (rsN w ns g).1) (L := 1000000) (m ^ (rsN w ns g).1) 0 0 0 (by omega)
        refine ⟨nI (mrF (anP w t (rsN w ns g).2 m (rsN w ns g).1) (m ^ (rsN w ns g).1) 0 0 0).1, I, R2, P1, nx, sl, R4, ?_, ?_, h.okS f2 x7 x5 s6 s2, frJ.rfl, Nat.le_refl _, by omega, by omega⟩
        · unfold fX_answers
          rw [sm_ck_pos (am_t_pk (by decide)), x1, Option.bind_some]
          dsimp only
          rw [if_pos rfl, sp_2_11 x4, sp_2_1 x4, sm_ck_pos (am_t_pk (by decide)), show (1000000 : Int32) = nI 1000000 from rfl, y1, Option.bind_some, e]
        · show fM_answers P1 (am_pk 330 0 13) _ _ = _
          unfold fM_answers
          rw [sm_ck_pos (am_t_pk (by decide)), m2.isB x4, Option.bind_some, bI_ifn, if_pos hB, m_ring x4 m2 hx, Option.bind_some, hg, if_pos (hgn h0), z1, Option.bind_some, put_rd sc_330, z2, if_pos (by rw [show (3 : Int32) = nI 3 from rfl, nI_leI (by omega) (by decide)]; omega), s1, Option.bind_some, put_rd sc_330, s4]
      · obtain ⟨R1, x1, x2⟩ := x_opC (nx := nx) (sl := sl) hS h.cw hx hg h0 (by omega)
        have m1 : MW (am_up R1 329 6 (R1 329 6 + 1)) w t m nb ns ne := h.mw.fr (fun c c1 c2 => by funext j; rw [am_up_ne (by omega), x2 c (by omega) (by omega) (by omega) (by omega)])
        obtain ⟨R3, z1, z2, z3, z4, -⟩ := m_tkt (I := I) hS m1 hg8
        have hp1 := hp.1
        refine ⟨-1000007, I, am_up R1 329 6 (R1 329 6 + 1), P, nx, sl, am_up R3 331 6 (R3 331 6 + 1), ?_, ?_, h.flS (by decide) x2 ⟨fun _ _ _ => rfl, fun _ _ _ => rfl⟩ h.1.1.2.2.1 z3 z4, frJ.rfl, Nat.le_refl _, by omega, by omega⟩
        · unfold fX_answers
          rw [sm_ck_pos (am_t_pk (by decide)), x1, Option.bind_some]
          dsimp only
          rw [if_neg (by decide), x_f7 hS, Option.bind_some]
        · show fM_answers P (am_pk 330 0 13) _ _ = _
          unfold fM_answers
          rw [sm_ck_pos (am_t_pk (by decide)), m1.isB hS, Option.bind_some, bI_ifn, if_pos hB, m_ring hS m1 hx, Option.bind_some, hg, if_pos (hgn h0), z1, Option.bind_some, put_rd sc_330, z2, if_neg (by rw [show (3 : Int32) = nI 3 from rfl, nI_leI (by omega) (by decide)]; omega), m_f7 hS, Option.bind_some]
  · refine h.fl2 (v := -1000001) (k := 0) (by decide) ?_ (fun R1 hM hc1 => ?_)
    · unfold fX_answers
      rw [sm_ck_pos (am_t_pk (by decide)), x_opA hS h.cw hB, Option.bind_some]
      dsimp only
      rw [if_neg (by decide), x_f1 hS, Option.bind_some]
    · show fM_answers P (am_pk 330 0 13) _ _ = _
      unfold fM_answers
      rw [sm_ck_pos (am_t_pk (by decide)), hM.isB hS, Option.bind_some, bI_ifn, if_neg hB, m_f1 hS, Option.bind_some]
theorem op_solve (h : INV I R P nx w t m nb ns ne) {a b : Int32} : OK2 I R P nx sl (fX_solve (am_pk 2 0 12) a b) (fun Q => fM_solve Q (am_pk 330 0 13) a b) := by
  have hS := h.sp
  have hle := h.mw.le
  by_cases hB : 0 ≤ a ∧ a < nI nb
  · by_cases hb0 : 0 ≤ b
    · obtain ⟨x, hx, rfl⟩ := ran_ix hB (by omega)
      obtain ⟨g, hg⟩ : ∃ g, rgN w t nb ns x = g := ⟨_, rfl⟩
      have hg8 : g < 128 := by rw [← hg]; exact rgN_lt hle.1
      have hgn : g ≠ 0 → ¬ nI g = (0 : Int32) := fun z => by rw [show (0 : Int32) = nI 0 from rfl, nI_eq (by omega) (by decide)]; exact z
      have hp := rsN_I (w := w) (ns := ns) (g := g)
      by_cases h0 : g = 0
      · subst h0
        refine h.fl2 (v := -1000004) (k := 3) (by decide) ?_ (fun R1 hM hc1 => ?_)
        · unfold fX_solve
          rw [if_pos hb0, sm_ck_pos (am_t_pk (by decide)), x_opB hS h.cw hx hg, Option.bind_some]
          dsimp only
          rw [if_neg (by decide), x_f4 hS, Option.bind_some]
        · show fM_solve P (am_pk 330 0 13) _ _ _ = _
          unfold fM_solve
          rw [sm_ck_pos (am_t_pk (by decide)), hM.isB hS, Option.bind_some, bI_if, if_pos hB, if_pos hb0, m_ring hS hM hx, Option.bind_some, hg, if_neg (fun z => z rfl), m_f4 hS, Option.bind_some]
      · by_cases h3 : (rsN w ns g).1 ≤ 3
        · obtain ⟨R1, P1, x1, x2, x3, x4, x5, x6, x7⟩ := x_opD (nx := nx) (sl := sl) hS h.1.1.2.2.1 h.cw hx hg h0 h3
          have x31 : R1 311 2 = nI (rsN w ns g).1 := x3.1
          -- nothing is found
          have leaf : ∀ R2, frX R R2 → (fX_solve (am_pk 2 0 12) (nI x) b (put I R) P nx sl = some (-1000004, put I (am_up R2 329 3 (R2 329 3 + 1)), P1, nx, sl)) → ((mrF (anP w t (rsN w ns g).2 m (rsN w ns g).1) (m ^ (rsN w ns g).1) 0 0 0).1 = 0 ∨ nI (rsN w ns g).1 ≤ b) → OK2 I R P nx sl (fX_solve (am_pk 2 0 12) (nI x) b) (fun Q => fM_solve Q (am_pk 330 0 13) (nI x) b) := by
            intro R2 f2 hX hor
            have m1 : MW (am_up R2 329 3 (R2 329 3 + 1)) w t m nb ns ne := h.mw.fr (fun c c1 c2 => by funext j; rw [am_up_ne (by omega), f2 c (by omega) (by omega) (by omega) (by omega)])
            obtain ⟨R3, z1, z2, z3, z4, z5⟩ := m_tkt (I := I) x4 m1 hg8
            obtain ⟨R4, s1, s2, s3, s4, s5, s6⟩ := z5 h3
            refine ⟨-1000004, I, am_up R2 329 3 (R2 329 3 + 1), P1, nx, sl, am_up R4 331 3 (R4 331 3 + 1), hX, ?_, h.flS (by decide) f2 x7 x5 s6 s2, frJ.rfl, Nat.le_refl _, by omega, by omega⟩
            show fM_solve P1 (am_pk 330 0 13) _ _ _ = _
            unfold fM_solve
            rw [sm_ck_pos (am_t_pk (by decide)), m1.isB x4, Option.bind_some, bI_if, if_pos hB, if_pos hb0, m_ring x4 m1 hx, Option.bind_some, hg, if_pos (hgn h0), z1, Option.bind_some, put_rd sc_330, z2, if_pos (by rw [show (3 : Int32) = nI 3 from rfl, nI_leI (by omega) (by decide)]; omega), s1, Option.bind_some, put_rd sc_330, put_rd sc_330, s4, s3, m_f4 x4, Option.bind_some]
            by_cases c0 : nI (mrF (anP w t (rsN w ns g).2 m (rsN w ns g).1) (m ^ (rsN w ns g).1) 0 0 0).1 = (0 : Int32)
            · rw [if_pos c0]
            · rw [if_neg c0, if_neg]
              rcases hor with z | z
              · rw [z] at c0; exact absurd rfl c0
              · exact i_nl.mpr z
          by_cases hbc : nI (rsN w ns g).1 ≤ b
          · refine leaf R1 x6 ?_ (Or.inr hbc)
            unfold fX_solve
            rw [if_pos hb0, sm_ck_pos (am_t_pk (by decide)), x1, Option.bind_some]
            dsimp only
            rw [if_pos rfl]
            simp only [sp_2_11 x4, put_rd sc_311, x31]
            rw [sm_ck_pos (am_t_pk (by decide)), if_pos hbc, x_f4 x4, Option.bind_some]
          · obtain ⟨R2, y1, y2, y3⟩ := x_search x4 x2 h3 (L := 1) (by decide) (by decide) hp x3
            have f2 : frX R R2 := fun c a1 a2 a3 a4 => by rw [y3 c (by omega) a3 (by omega), x6 c a1 a2 a3 a4]
            have e1 := srF_1 (an := anP w t (rsN w ns g).2 m (rsN w ns g).1) (m ^ (rsN w ns g).1) 0 0
            rcases e1 with ⟨e1, e2⟩ | ⟨e1, e2, e3⟩
            · refine leaf R2 f2 ?_ (Or.inl e1)
              unfold fX_solve
              rw [if_pos hb0, sm_ck_pos (am_t_pk (by decide)), x1, Option.bind_some]
              dsimp only
              rw [if_pos rfl]
              simp only [sp_2_11 x4, sp_2_1 x4, put_rd sc_311, x31]
              rw [sm_ck_pos (am_t_pk (by decide)), if_neg hbc, show (1 : Int32) = nI 1 from rfl, y1, Option.bind_some, e2]
              dsimp only
              rw [if_neg (fun z => z rfl), x_f4 x4, Option.bind_some]
              rfl
            · obtain ⟨i, hi, rfl⟩ := ran_ix (n := (rsN w ns g).1) ⟨hb0, i_nle.mp hbc⟩ (by omega)
              have m2 : MW R2 w t m nb ns ne := h.mw.fr (fun c c1 c2 => f2 c (by omega) (by omega) (by omega) (by omega))
              obtain ⟨R3, z1, z2, z3, z4, z5⟩ := m_tkt (I := I) x4 m2 hg8
              obtain ⟨R4, s1, s2, s3, s4, s5, s6⟩ := z5 h3
              have v1 := y2 (by omega) i hi
              have v2 := s5 e1 i hi
              rw [e3] at v1
              have hml := mrF_le (an := anP w t (rsN w ns g).2 m (rsN w ns g).1) (m ^ (rsN w ns g).1) 0 0 0
              have hpw := pw_le (m := m) (n := (rsN w ns g).1) hle.2.2.2.2 h3 (by omega)
              refine ⟨nI (dgF m (rsN w ns g).1 (mrF (anP w t (rsN w ns g).2 m (rsN w ns g).1) (m ^ (rsN w ns g).1) 0 0 0).2 i), I, R2, P1, nx, sl, R4, ?_, ?_, h.okS f2 x7 x5 s6 s2, frJ.rfl, Nat.le_refl _, by omega, by omega⟩
              · unfold fX_solve
                rw [if_pos hb0, sm_ck_pos (am_t_pk (by decide)), x1, Option.bind_some]
                dsimp only
                rw [if_pos rfl]
                simp only [sp_2_11 x4, sp_2_1 x4, sp_311_3 x4, put_rd sc_311, x31]
                rw [sm_ck_pos (am_t_pk (by decide)), if_neg hbc, show (1 : Int32) = nI 1 from rfl, y1, Option.bind_some, e2]
                dsimp only
                rw [if_pos (by decide), sm_ck_pos (sm_in_nI (by decide) (by omega)), nI_clamp (show i < 2 ^ 31 by omega), put_rd sc_313, v1]
              · show fM_solve P1 (am_pk 330 0 13) _ _ _ = _
                unfold fM_solve
                rw [sm_ck_pos (am_t_pk (by decide)), m2.isB x4, Option.bind_some, bI_if, if_pos hB, if_pos hb0, m_ring x4 m2 hx, Option.bind_some, hg, if_pos (hgn h0), z1, Option.bind_some, put_rd sc_330, z2, if_pos (by rw [show (3 : Int32) = nI 3 from rfl, nI_leI (by omega) (by decide)]; omega), s1, Option.bind_some, put_rd sc_330, put_rd sc_330, s4, s3, if_neg (by rw [show (0 : Int32) = nI 0 from rfl, nI_eq (by omega) (by decide)]; omega), if_pos (i_nle.mp hbc), sp_330_43 x4, sm_ck_pos (sm_in_nI (by decide) (by omega)), nI_clamp (show i < 2 ^ 31 by omega), put_rd sc_366, v2]
        · obtain ⟨R1, x1, x2⟩ := x_opC (nx := nx) (sl := sl) hS h.cw hx hg h0 (by omega)
          have m1 : MW (am_up R1 329 6 (R1 329 6 + 1)) w t m nb ns ne := h.mw.fr (fun c c1 c2 => by funext j; rw [am_up_ne (by omega), x2 c (by omega) (by omega) (by omega) (by omega)])
          obtain ⟨R3, z1, z2, z3, z4, -⟩ := m_tkt (I := I) hS m1 hg8
          have hp1 := hp.1
          refine ⟨-1000007, I, am_up R1 329 6 (R1 329 6 + 1), P, nx, sl, am_up R3 331 6 (R3 331 6 + 1), ?_, ?_, h.flS (by decide) x2 ⟨fun _ _ _ => rfl, fun _ _ _ => rfl⟩ h.1.1.2.2.1 z3 z4, frJ.rfl, Nat.le_refl _, by omega, by omega⟩
          · unfold fX_solve
            rw [if_pos hb0, sm_ck_pos (am_t_pk (by decide)), x1, Option.bind_some]
            dsimp only
            rw [if_neg (by decide), x_f7 hS, Option.bind_some]
          · show fM_solve P (am_pk 330 0 13) _ _ _ = _
            unfold fM_solve
            rw [sm_ck_pos (am_t_pk (by decide)), m1.isB hS, Option.bind_some, bI_if, if_pos hB, if_pos hb0, m_ring hS m1 hx, Option.bind_some, hg, if_pos (hgn h0), z1, Option.bind_some, put_rd sc_330, z2, if_neg (by rw [show (3 : Int32) = nI 3 from rfl, nI_leI (by omega) (by decide)]; omega), m_f7 hS, Option.bind_some]
    · refine h.fl2 (v := -1000001) (k := 0) (by decide) ?_ (fun R1 hM hc1 => ?_)
      · unfold fX_solve
        rw [if_neg hb0, sm_ck_pos (am_t_pk (by decide)), x_f1 hS, Option.bind_some]
      · show fM_solve P (am_pk 330 0 13) _ _ _ = _
        unfold fM_solve
        rw [sm_ck_pos (am_t_pk (by decide)), hM.isB hS, Option.bind_some, bI_if, if_pos hB, if_neg hb0, m_f1 hS, Option.bind_some]
  · refine h.fl2 (v := -1000001) (k := 0) (by decide) ?_ (fun R1 hM hc1 => ?_)
    · unfold fX_solve
      by_cases hb0 : 0 ≤ b
      · rw [if_pos hb0, sm_ck_pos (am_t_pk (by decide)), x_opA hS h.cw hB, Option.bind_some]
        dsimp only
        rw [if_neg (by decide), x_f1 hS, Option.bind_some]
      · rw [if_neg hb0, sm_ck_pos (am_t_pk (by decide)), x_f1 hS, Option.bind_some]
    · show fM_solve P (am_pk 330 0 13) _ _ _ = _
      unfold fM_solve
      rw [sm_ck_pos (am_t_pk (by decide)), hM.isB hS, Option.bind_some, bI_if, if_neg hB, m_f1 hS, Option.bind_some]
end Solve
