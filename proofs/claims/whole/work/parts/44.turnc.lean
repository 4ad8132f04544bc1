/-! ===== the class's turn ===== -/
/-- nothing else has changed than the World at b (and the Reckoner's row) -/
def fr (b : Nat) (R R' : am_M) : Prop := ∀ c, (c < b ∨ b + 29 ≤ c) → c ≠ 307 → R' c = R c
theorem fr.rfl {b : Nat} {R : am_M} : fr b R R := fun _ _ _ => _root_.rfl
theorem fr.tr {b : Nat} {R R' R'' : am_M} (h : fr b R R') (h2 : fr b R' R'') : fr b R R'' := fun c hc h7 => (h2 c hc h7).trans (h c hc h7)
theorem fr.up {b : Nat} {R : am_M} {c k : Nat} {v : Int32} (h : b ≤ c ∧ c < b + 29) : fr b R (am_up R c k v) := fun c' hc _ => by funext j; rw [am_up_ne (by omega)]
theorem fr.cl {b : Nat} {R R' : am_M} (h : ∀ c, c ≠ 307 → R' c = R c) : fr b R R' := fun c _ h7 => h c h7
theorem fr.cl2 {b : Nat} {R R' : am_M} (h : ∀ c, c ≠ b → c ≠ 307 → R' c = R c) : fr b R R' := fun c hc h7 => h c (by omega) h7
section CWr
variable {I R : am_M} {P : am_Q} {b : Nat} {w : am_M} {t : Nat → Nat → List Nat} {m nb ns ne : Nat}
theorem CW.c0 (h : CW I R P b w t m nb ns ne) : R b 0 = nI m := (h.rs (by decide)).trans h.2.2.1.1.1
theorem CW.c6 (h : CW I R P b w t m nb ns ne) : R b 6 = nI nb := (h.rs (by decide)).trans h.2.2.1.1.2.2.2.1
theorem CW.c7 (h : CW I R P b w t m nb ns ne) : R b 7 = nI ns := (h.rs (by decide)).trans h.2.2.1.1.2.2.2.2.2.1
theorem CW.c8 (h : CW I R P b w t m nb ns ne) : R b 8 = nI ne := (h.rs (by decide)).trans h.2.2.1.1.2.2.2.2.2.2.2.1
theorem x_door (hS : SP P) (h : CW I R P b w t m nb ns ne) {x d : Nat} {dn : Int32} (hx : x < nb) (hd : d < 2) {ex : Nat → Nat → Nat → am_M → Option am_M} {r : Nat → Nat → Int32 → Int32 → Nat → Int32 → am_M → Option am_M} :
    ∃ R', fH_takeTurn_B11 P ex r (am_pk 308 0 3) (am_pk b 0 11) (nI x) dn (am_pk (b + 8 + x) 0 1) (nI d) (put I R) = r (am_pk 308 0 3) (am_pk b 0 11) (nI x) dn (am_pk (b + 8 + x) 0 1) (nI (d + 1)) (put I R') ∧ CW I R' P b (drF w t m ns x d dn) t m nb ns ne ∧ fr b R R' := by
  have hle := h.le
  have hb := h.1
  unfold fH_takeTurn_B11 fH_takeTurn_J46 drF
  have h2 : ¬ (2 : Int32) ≤ nI d := by rw [l_2, nI_leI (by omega) (by omega)]; omega
  simp (disch := first | omega | assumption) only [sm_bd, Option.bind_some, ck_tt, ck_in, ck_iw, ck_ia, ck_iz, ck_01, ck_in_0, ck_iw_0, cl_0, ck_in_1, ck_iw_1, cl_1, ck_in_2, ck_iw_2, cl_2, ck_in_3, ck_iw_3, cl_3, ck_in_4, ck_iw_4, cl_4, ck_in_5, ck_iw_5, cl_5, ck_in_6, ck_iw_6, cl_6, ck_in_7, ck_iw_7, cl_7, ck_in_8, ck_iw_8, cl_8, ck_in_9, ck_iw_9, cl_9, nI_clamp, lm_2, lm_4, lm_10, lm_14, lm_24, lm_80, lm_100, lm_1500, nI_add, nI_1, pk_m1, nI_pred, x_seamInto hS hb hx hle.1 hd h.c6, h.2.2.2.2 x hx d hd, if_neg h2]
  rcases sinF_cases w x d ns 0 with e | ⟨k, k1, k2, e, -⟩
  · rw [e, if_pos (by decide), if_pos (by decide)]
    exact ⟨R, rfl, h, fr.rfl⟩
  · have hk : k < ns := by omega
    rw [e, if_neg (nI_pos (by omega)), if_neg (nI_pos (by omega))]
    obtain ⟨R1, q1, q2, q3⟩ := x_passed hS h (dn := dn) hk
    have ei : ix (nI k) = k := nI_clamp (by omega)
    rw [q1, ei]
    simp only [Option.bind_some]
    have hr := psF_ran (dn := dn) h.2.2.1 hk
    unfold fB_tellIn
    simp (disch := first | omega | assumption) only [sm_bd, Option.bind_some, ck_tt, ck_in, ck_iw, ck_ia, ck_iz, ck_01, ck_in_0, ck_iw_0, cl_0, ck_in_1, ck_iw_1, cl_1, ck_in_2, ck_iw_2, cl_2, ck_in_3, ck_iw_3, cl_3, ck_in_4, ck_iw_4, cl_4, ck_in_5, ck_iw_5, cl_5, ck_in_6, ck_iw_6, cl_6, ck_in_7, ck_iw_7, cl_7, ck_in_8, ck_iw_8, cl_8, ck_in_9, ck_iw_9, cl_9, nI_clamp, lm_2, lm_4, lm_10, lm_14, lm_24, lm_80, lm_100, lm_1500, nI_add, nI_1, pk_m1, nI_pred, put_up (sc_bx hb (show x < 7 by omega))]
    rcases (show d = 0 ∨ d = 1 by omega) with rfl | rfl
    · rw [if_neg (fun z => z rfl)]
      simp only [Option.bind_some]
      exact ⟨_, rfl, q2.wr (r := 4) (c := x) (Or.inr (Or.inl ⟨by decide, by decide, by omega⟩)) hr (aC_b b 3 x (by decide)), (fr.cl2 q3).tr (fr.up (by omega))⟩
    · rw [if_pos (by decide)]
      simp only [Option.bind_some]
      exact ⟨_, rfl, q2.wr (r := 5) (c := x) (Or.inr (Or.inl ⟨by decide, by decide, by omega⟩)) hr (aC_b b 4 x (by decide)), (fr.cl2 q3).tr (fr.up (by omega))⟩
end CWr
noncomputable def trn1 (w : am_M) (t : Nat → Nat → List Nat) (m x : Nat) : am_M := cif (wrkF w x) (am_up (am_up w 3 x (otF w t m x 1)) 2 x (otF w t m x 0)) w
def trn2 (w : am_M) (x : Nat) : am_M := am_up (am_up (am_up w 8 x 1) 9 x (w 4 x)) 10 x (w 5 x)
noncomputable def trn3 (w : am_M) (x : Nat) : am_M := cif (w 2 x = 0 ∧ w 1 x = 2) (am_up (am_up w 2 x (w 6 x)) 0 3 (w 0 3 + 1)) w
noncomputable def turnF (w : am_M) (t : Nat → Nat → List Nat) (m ns x : Nat) (dn : Int32) : am_M := trn3 (trn2 (trn1 (drF (drF w t m ns x 0 dn) t m ns x 1 dn) t m x) x) x
section CWt
variable {I R : am_M} {P : am_Q} {b : Nat} {w : am_M} {t : Nat → Nat → List Nat} {m nb ns ne : Nat}
theorem okb {r x nb : Nat} (h1 : 1 ≤ r) (h2 : r ≤ 10) (hx : x < nb) (hn : nb ≤ 7) : okrc r x := Or.inr (Or.inl ⟨h1, h2, by omega⟩)
theorem x_turnJ (hA : apok I) (h : CW I R P b w t m nb ns ne) {x : Nat} (hx : x < nb) : ∃ R', fH_takeTurn_J110 P (am_pk b 0 11) (am_pk (b + 8 + x) 0 1) (put I R) = some (put I R') ∧ CW I R' P b (trn3 (trn2 w x) x) t m nb ns ne ∧ fr b R R' := by
  have hle := h.le
  have hb := h.1
  have hsc := sc_bx hb (show x < 7 by omega)
  unfold fH_takeTurn_J110
  simp (disch := first | omega | assumption) only [sm_bd, Option.bind_some, ck_tt, ck_in, ck_iw, ck_ia, ck_iz, ck_01, ck_in_0, ck_iw_0, cl_0, ck_in_1, ck_iw_1, cl_1, ck_in_2, ck_iw_2, cl_2, ck_in_3, ck_iw_3, cl_3, ck_in_4, ck_iw_4, cl_4, ck_in_5, ck_iw_5, cl_5, ck_in_6, ck_iw_6, cl_6, ck_in_7, ck_iw_7, cl_7, ck_in_8, ck_iw_8, cl_8, ck_in_9, ck_iw_9, cl_9, nI_clamp, lm_2, lm_4, lm_10, lm_14, lm_24, lm_80, lm_100, lm_1500, nI_add, nI_1, pk_m1, nI_pred, put_rd hsc, put_up hsc, put_rd (sc_w0 hb), put_up (sc_w0 hb)]
  have h1 := h.wr (r := 8) (c := x) (v := 1) (okb (by decide) (by decide) hx hle.1) (Or.inr rfl) (aC_b b 7 x (by decide))
  have e4 : R (b + 8 + x) 3 = w 4 x := h.rb hx (by decide)
  have e5 : R (b + 8 + x) 4 = w 5 x := h.rb hx (by decide)
  have h2 := h1.wr (r := 9) (c := x) (v := w 4 x) (okb (by decide) (by decide) hx hle.1) trivial (aC_b b 8 x (by decide))
  have h3 := h2.wr (r := 10) (c := x) (v := w 5 x) (okb (by decide) (by decide) hx hle.1) trivial (aC_b b 9 x (by decide))
  have f3 : fr b R (am_up (am_up (am_up R (b + 8 + x) 7 1) (b + 8 + x) 8 (w 4 x)) (b + 8 + x) 9 (w 5 x)) := (fr.up (by omega)).tr ((fr.up (by omega)).tr (fr.up (by omega)))
  have g1 : am_up R (b + 8 + x) 7 1 (b + 8 + x) 3 = w 4 x := by rw [am_up_nk (by decide), e4]
  have g2 : am_up (am_up R (b + 8 + x) 7 1) (b + 8 + x) 8 (w 4 x) (b + 8 + x) 4 = w 5 x := by rw [am_up_nk (by decide), am_up_nk (by decide), e5]
  rw [g1, g2]
  change CW I _ P b (trn2 w x) t m nb ns ne at h3
  revert h3 f3
  generalize am_up (am_up (am_up R (b + 8 + x) 7 1) (b + 8 + x) 8 (w 4 x)) (b + 8 + x) 9 (w 5 x) = R3
  intro f3 h3
  have q1 : R3 (b + 8 + x) 1 = trn2 w x 2 x := h3.rb hx (by decide)
  have q0 : R3 (b + 8 + x) 0 = trn2 w x 1 x := h3.rb hx (by decide)
  have q6 : R3 (b + 8 + x) 5 = trn2 w x 6 x := h3.rb hx (by decide)
  obtain ⟨⟨k, hk, ek⟩, -, -, -, -, hj, -⟩ := h3.2.2.1.2.1 x hx
  rw [q1, q0, ek, l_2, h_isUnder hA hk (by decide), q6]
  simp only [Option.bind_some, bI_if]
  unfold trn3
  by_cases p0 : trn2 w x 2 x = 0
  · rw [if_neg (fun z => z p0)]
    have eu : undF (nI k) (nI 2) ↔ trn2 w x 1 x = 2 := by
      rw [ek, l_2]
      unfold undF
      refine ⟨?_, fun z => Or.inr (Or.inl z)⟩
      rintro (z | z | z | z)
      · exact absurd z (by decide)
      · exact z
      · exact absurd z.1 (by decide)
      · exact absurd z.1 (by decide)
    by_cases u : undF (nI k) (nI 2)
    · rw [if_pos u, cif_t ⟨p0, eu.mp u⟩]
      have h4 := h3.wr (r := 2) (c := x) (v := trn2 w x 6 x) (okb (by decide) (by decide) hx hle.1) hj (aC_b b 1 x (by decide))
      have e03 : am_up R3 (b + 8 + x) 1 (trn2 w x 6 x) b 3 = trn2 w x 0 3 := by rw [am_up_ne (by omega)]; exact h3.rs (by decide)
      have h5 := h4.wr (r := 0) (c := 3) (v := trn2 w x 0 3 + 1) (Or.inl ⟨rfl, by decide⟩) (Or.inl rfl) rfl
      rw [e03]
      exact ⟨_, rfl, h5, f3.tr ((fr.up (by omega)).tr (fr.up (by omega)))⟩
    · rw [if_neg u, cif_f (fun z => u (eu.mpr z.2))]
      exact ⟨_, rfl, h3, f3⟩
  · rw [if_pos p0, cif_f (fun z => p0 z.1)]
    exact ⟨_, rfl, h3, f3⟩
theorem x_turn (hS : SP P) (hA : apok I) (h : CW I R P b w t m nb ns ne) {x : Nat} {dn : Int32} (hx : x < nb) : ∃ R', fH_takeTurn P (am_pk 308 0 3) (am_pk b 0 11) (nI x) dn (put I R) = some (put I R') ∧ CW I R' P b (turnF w t m ns x dn) t m nb ns ne ∧ fr b R R' := by
  have hle := h.le
  have hb := h.1
  unfold fH_takeTurn
  simp (disch := first | omega | assumption) only [sm_bd, Option.bind_some, ck_tt, ck_in, ck_iw, ck_ia, ck_iz, ck_01, ck_in_0, ck_iw_0, cl_0, ck_in_1, ck_iw_1, cl_1, ck_in_2, ck_iw_2, cl_2, ck_in_3, ck_iw_3, cl_3, ck_in_4, ck_iw_4, cl_4, ck_in_5, ck_iw_5, cl_5, ck_in_6, ck_iw_6, cl_6, ck_in_7, ck_iw_7, cl_7, ck_in_8, ck_iw_8, cl_8, ck_in_9, ck_iw_9, cl_9, nI_clamp, lm_2, lm_4, lm_10, lm_14, lm_24, lm_80, lm_100, lm_1500, nI_add, nI_1, pk_m1, nI_pred, sp_w9 hS hb, sp_bx hS hb]
  obtain ⟨R1, q1, h1, f1⟩ := x_door hS h (dn := dn) hx (show 0 < 2 by decide)
  obtain ⟨R2, q2, h2, f2⟩ := x_door hS h1 (dn := dn) hx (show 1 < 2 by decide)
  rw [show sm_fu = 19997 + 1 + 1 + 1 from rfl]
  show ∃ R', fH_takeTurn_B11 P _ _ _ _ _ _ _ (nI 0) _ = _ ∧ _
  rw [q1]
  show ∃ R', fH_takeTurn_B11 P _ _ _ _ _ _ _ (nI 1) _ = _ ∧ _
  rw [q2]
  show ∃ R', fH_takeTurn_B11 P _ _ _ _ _ _ _ (nI 2) _ = _ ∧ _
  unfold fH_takeTurn_B11
  rw [if_pos (by decide)]
  dsimp only
  rw [x_worksNow h2 hx]
  simp (disch := first | omega | assumption) only [sm_bd, Option.bind_some, ck_tt, ck_in, ck_iw, ck_ia, ck_iz, ck_01, ck_in_0, ck_iw_0, cl_0, ck_in_1, ck_iw_1, cl_1, ck_in_2, ck_iw_2, cl_2, ck_in_3, ck_iw_3, cl_3, ck_in_4, ck_iw_4, cl_4, ck_in_5, ck_iw_5, cl_5, ck_in_6, ck_iw_6, cl_6, ck_in_7, ck_iw_7, cl_7, ck_in_8, ck_iw_8, cl_8, ck_in_9, ck_iw_9, cl_9, nI_clamp, lm_2, lm_4, lm_10, lm_14, lm_24, lm_80, lm_100, lm_1500, nI_add, nI_1, pk_m1, nI_pred, bI_if, sp_308_0 hS]
  unfold turnF trn1
  generalize drF (drF w t m ns x 0 dn) t m ns x 1 dn = w2 at h2
  by_cases hw : wrkF w2 x
  · rw [if_pos hw, cif_t hw, put_rd (sc_w0 hb), put_rd (sc_w0 hb), h2.c0, h2.rs (by decide)]
    obtain ⟨R3, q3, f3, h3⟩ := h2.work hS (hh := w2 0 1) hx (show 0 < 4 by decide)
    rw [l_0, q3]
    simp only [Option.bind_some]
    rw [put_rd (sc_w0 hb), put_rd (sc_w0 hb), h3.c0, h3.rs (by decide)]
    obtain ⟨R4, q4, f4, h4⟩ := h3.work hS (hh := w2 0 1) hx (show 1 < 4 by decide)
    rw [l_1, q4]
    simp only [Option.bind_some]
    rw [put_up (sc_bx hb (show x < 7 by omega)), put_up (sc_bx hb (show x < 7 by omega))]
    have hB := h2.2.2.1.2.1 x hx
    have h5 := h4.wr (r := 3) (c := x) (v := otF w2 t m x 1) (okb (by decide) (by decide) hx hle.1) (wkF_ran hle.2.2.2.1 hle.2.2.2.2 hB.2.1 hB.2.2.1) (aC_b b 2 x (by decide))
    have h6 := h5.wr (r := 2) (c := x) (v := otF w2 t m x 0) (okb (by decide) (by decide) hx hle.1) (wkF_ran hle.2.2.2.1 hle.2.2.2.2 hB.2.1 hB.2.2.1) (aC_b b 1 x (by decide))
    obtain ⟨R7, q7, h7, f7⟩ := x_turnJ hA h6 hx
    exact ⟨R7, q7, h7, f1.tr (f2.tr ((fr.cl f3).tr ((fr.cl f4).tr ((fr.up (by omega)).tr ((fr.up (by omega)).tr f7)))))⟩
  · rw [if_neg hw, cif_f hw]
    obtain ⟨R7, q7, h7, f7⟩ := x_turnJ hA h2 hx
    exact ⟨R7, q7, h7, f1.tr (f2.tr f7)⟩
end CWt
