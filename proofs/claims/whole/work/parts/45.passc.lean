/-! ===== an hour, as a value; the class's pass ===== -/
def evtF (e : Nat) (w : am_M) : am_M := if w 22 e = w 0 1 then am_up w 2 (ix (w 23 e)) (w 24 e) else w
noncomputable def trsF (t : Nat → Nat → List Nat) (m ns : Nat) (i : Nat) (s : am_M × Int32) : am_M × Int32 := (turnF s.1 t m ns (ix (s.1 21 i)) s.2, s.2 ||| sm_shl 1 (turnF s.1 t m ns (ix (s.1 21 i)) s.2 21 i))
def farF (x y m : Int32) : Int32 := sm_min (partF (x - y) m) (partF (y - x) m)
def inF (w : am_M) (s : Nat) : Int32 := if w 14 s = 0 then w 4 (ix (w 13 s)) else w 5 (ix (w 13 s))
def snF (w : am_M) (t : Nat → Nat → List Nat) (m s : Nat) : Int32 := otF w t m (ix (w 11 s)) (2 + ix (w 12 s))
def ofF (w : am_M) (t : Nat → Nat → List Nat) (m s : Nat) : Int32 := farF (inF w s) (snF w t m s) (nI m)
def stlF (t : Nat → Nat → List Nat) (m : Nat) (s : Nat) (z : am_M × Int32) : am_M × Int32 := (am_up (am_up (am_up (am_up z.1 18 s (sm_min (z.1 18 s + ofF z.1 t m s) 99999)) 17 s (z.1 16 s)) 16 s (z.1 15 s)) 15 s (snF z.1 t m s), z.2 + ofF z.1 t m s)
noncomputable def hr1 (w : am_M) (ne : Nat) : am_M := lpF evtF 0 ne w
noncomputable def hr2 (w : am_M) (t : Nat → Nat → List Nat) (m nb ns : Nat) : am_M := (lpF (trsF t m ns) 0 nb (w, 0)).1
noncomputable def hr3 (w : am_M) (t : Nat → Nat → List Nat) (m ns : Nat) : am_M × Int32 := lpF (stlF t m) 0 ns (w, 0)
noncomputable def hrs (w : am_M) (t : Nat → Nat → List Nat) (m nb ns ne : Nat) : am_M × Int32 := hr3 (hr2 (hr1 w ne) t m nb ns) t m ns
noncomputable def hourF (w : am_M) (t : Nat → Nat → List Nat) (m nb ns ne : Nat) : am_M := am_up (hrs w t m nb ns ne).1 0 1 ((hrs w t m nb ns ne).1 0 1 + 1)
noncomputable def offF (w : am_M) (t : Nat → Nat → List Nat) (m nb ns ne : Nat) : Int32 := (hrs w t m nb ns ne).2
theorem lpF_s {σ : Type} (f : Nat → σ → σ) (i n : Nat) (s : σ) : lpF f i (n + 1) s = lpF f (i + 1) n (f i s) := rfl
theorem ran_nI {m : Nat} {v : Int32} (h : ran m v) (hm : m ≤ 16) : ∃ k, k < m ∧ v = nI k := ix_of (by omega) (i_nl.mpr h.1) h.2
theorem sm_min_le {x y : Int32} : sm_min x y = x ∨ sm_min x y = y := by unfold sm_min; split <;> simp
theorem ofF_ran {w : am_M} {t : Nat → Nat → List Nat} {m s : Nat} (h1 : 2 ≤ m) (h2 : m ≤ 16) : ran m (ofF w t m s) := by
  unfold ofF farF
  rcases sm_min_le (x := partF (inF w s - snF w t m s) (nI m)) (y := partF (snF w t m s - inF w s) (nI m)) with e | e <;> rw [e] <;> exact partF_ran h1 h2
theorem owes_ok {k j : Nat} (hk : k ≤ 99999) (hj : j < 16) : ∃ z, z ≤ 99999 ∧ sm_min (nI k + nI j) 99999 = nI z := by
  rw [nI_add, show (99999 : Int32) = nI 99999 from rfl]
  unfold sm_min
  by_cases e : 99999 < k + j
  · rw [if_pos (by rw [nI_ltI (by decide) (by omega)]; exact e)]
    exact ⟨99999, Nat.le_refl _, rfl⟩
  · rw [if_neg (by rw [nI_ltI (by decide) (by omega)]; exact e)]
    exact ⟨k + j, by omega, rfl⟩
theorem snF_ran {w : am_M} {t : Nat → Nat → List Nat} {m nb ns ne s : Nat} (h : wiv w t m nb ns ne) (hs : s < ns) : ran m (snF w t m s) := by
  obtain ⟨⟨fb, hfb, e11⟩, -⟩ := h.2.2.1 s hs
  have hB := h.2.1 fb hfb
  obtain ⟨-, m1, m2, -⟩ := h.1
  have hnb : nb ≤ 7 := h.1.2.2.2.2.1
  unfold snF otF ix
  rw [e11, nI_clamp (by omega)]
  exact wkF_ran m1 m2 hB.2.1 hB.2.2.1
section CWp
variable {I : am_M} {P : am_Q} {b : Nat} {t : Nat → Nat → List Nat} {m nb ns ne : Nat}
theorem x_events (hS : SP P) {ex : Nat → Nat → am_M → Option (Int32 × am_M)} : ∀ (n e fu : Nat) (R w : am_M), n < fu → e + n = ne → CW I R P b w t m nb ns ne → ∃ R', fH_pass_L2 P ex fu (am_pk 308 0 3) (am_pk b 0 11) (nI e) (put I R) = ex (am_pk 308 0 3) (am_pk b 0 11) (put I R') ∧ CW I R' P b (lpF evtF e n w) t m nb ns ne ∧ fr b R R'
  | 0, e, fu, R, w, h1, h2, h => by
    obtain ⟨fu, rfl⟩ : ∃ n', fu = n' + 1 := ⟨fu - 1, by omega⟩
    have hb := h.1
    have hle := h.le
    refine ⟨R, ?_, h, fr.rfl⟩
    show fH_pass_B2 P _ _ _ _ _ _ = _
    unfold fH_pass_B2
    simp (disch := first | omega | assumption) only [sm_bd, Option.bind_some, ck_tt, ck_in, ck_iw, ck_ia, ck_iz, ck_01, ck_in_0, ck_iw_0, cl_0, ck_in_1, ck_iw_1, cl_1, ck_in_2, ck_iw_2, cl_2, ck_in_3, ck_iw_3, cl_3, ck_in_4, ck_iw_4, cl_4, ck_in_5, ck_iw_5, cl_5, ck_in_6, ck_iw_6, cl_6, ck_in_7, ck_iw_7, cl_7, ck_in_8, ck_iw_8, cl_8, ck_in_9, ck_iw_9, cl_9, nI_clamp, lm_2, lm_4, lm_10, lm_14, lm_24, lm_80, lm_100, lm_1500, nI_add, nI_1, pk_m1, nI_pred, sp_w9 hS hb, sp_w10 hS hb, sp_w11 hS hb, sp_w12 hS hb, sp_w13 hS hb, sp_w14 hS hb, sp_w15 hS hb, put_rd (sc_w0 hb), put_up (sc_w0 hb), put_rd (sc_w3 hb), put_up (sc_w3 hb), put_rd (sc_w4 hb), put_up (sc_w4 hb), put_rd (sc_w5 hb), put_up (sc_w5 hb), put_rd (sc_w6 hb), put_up (sc_w6 hb), put_rd (sc_w7 hb), put_up (sc_w7 hb), h.c8]
    rw [if_pos (by rw [nI_leI (by omega) (by omega)]; omega)]
  | n + 1, e, fu, R, w, h1, h2, h => by
    obtain ⟨fu, rfl⟩ : ∃ n', fu = n' + 1 := ⟨fu - 1, by omega⟩
    have hb := h.1
    have hle := h.le
    have he : e < ne := by omega
    obtain ⟨-, ⟨k, hk, ek⟩, hv⟩ := h.2.2.1.2.2.2.2.2 e he
    show ∃ R', fH_pass_B2 P _ _ _ _ _ _ = _ ∧ _
    unfold fH_pass_B2 fH_pass_J43
    have r5 : R (b + 5) e = w 22 e := h.re (k := 0) he (by decide)
    have r6 : R (b + 6) e = w 23 e := h.re (k := 1) he (by decide)
    have r7 : R (b + 7) e = w 24 e := h.re (k := 2) he (by decide)
    have r1 : R b 1 = w 0 1 := h.rs (by decide)
    simp (disch := first | omega | assumption) only [sm_bd, Option.bind_some, ck_tt, ck_in, ck_iw, ck_ia, ck_iz, ck_01, ck_in_0, ck_iw_0, cl_0, ck_in_1, ck_iw_1, cl_1, ck_in_2, ck_iw_2, cl_2, ck_in_3, ck_iw_3, cl_3, ck_in_4, ck_iw_4, cl_4, ck_in_5, ck_iw_5, cl_5, ck_in_6, ck_iw_6, cl_6, ck_in_7, ck_iw_7, cl_7, ck_in_8, ck_iw_8, cl_8, ck_in_9, ck_iw_9, cl_9, nI_clamp, lm_2, lm_4, lm_10, lm_14, lm_24, lm_80, lm_100, lm_1500, nI_add, nI_1, pk_m1, nI_pred, sp_w9 hS hb, sp_w10 hS hb, sp_w11 hS hb, sp_w12 hS hb, sp_w13 hS hb, sp_w14 hS hb, sp_w15 hS hb, put_rd (sc_w0 hb), put_up (sc_w0 hb), put_rd (sc_w3 hb), put_up (sc_w3 hb), put_rd (sc_w4 hb), put_up (sc_w4 hb), put_rd (sc_w5 hb), put_up (sc_w5 hb), put_rd (sc_w6 hb), put_up (sc_w6 hb), put_rd (sc_w7 hb), put_up (sc_w7 hb), h.c8, r5, r6, r7, r1, ek, sp_bx hS hb, put_up (sc_bx hb (show k < 7 by omega))]
    rw [if_neg (by rw [nI_leI (by omega) (by omega)]; omega), lpF_s]
    unfold evtF
    by_cases ev : w 22 e = w 0 1
    · rw [if_neg (fun z => z ev), if_pos ev, ek, show ix (nI k) = k from nI_clamp (by omega)]
      have h2' := h.wr (r := 2) (c := k) (v := w 24 e) (okb (by decide) (by decide) hk hle.1) hv (aC_b b 1 k (by decide))
      obtain ⟨R', q1, q2, q3⟩ := x_events hS (ex := ex) n (e + 1) fu _ _ (by omega) (by omega) h2'
      exact ⟨R', q1, q2, (fr.up (by omega)).tr q3⟩
    · rw [if_pos ev, if_neg ev]
      exact x_events hS (ex := ex) n (e + 1) fu _ _ (by omega) (by omega) h
theorem x_turns (hS : SP P) (hA : apok I) {ex : Nat → Nat → am_M → Option (Int32 × am_M)} : ∀ (n i fu : Nat) (R w : am_M) (dn : Int32), n < fu → i + n = nb → CW I R P b w t m nb ns ne → ∃ R', fH_pass_L53 P ex fu (am_pk 308 0 3) (am_pk b 0 11) dn (nI i) (put I R) = ex (am_pk 308 0 3) (am_pk b 0 11) (put I R') ∧ CW I R' P b (lpF (trsF t m ns) i n (w, dn)).1 t m nb ns ne ∧ fr b R R'
  | 0, i, fu, R, w, dn, h1, h2, h => by
    obtain ⟨fu, rfl⟩ : ∃ n', fu = n' + 1 := ⟨fu - 1, by omega⟩
    have hb := h.1
    have hle := h.le
    refine ⟨R, ?_, h, fr.rfl⟩
    show fH_pass_B53 P _ _ _ _ _ _ _ = _
    unfold fH_pass_B53
    simp (disch := first | omega | assumption) only [sm_bd, Option.bind_some, ck_tt, ck_in, ck_iw, ck_ia, ck_iz, ck_01, ck_in_0, ck_iw_0, cl_0, ck_in_1, ck_iw_1, cl_1, ck_in_2, ck_iw_2, cl_2, ck_in_3, ck_iw_3, cl_3, ck_in_4, ck_iw_4, cl_4, ck_in_5, ck_iw_5, cl_5, ck_in_6, ck_iw_6, cl_6, ck_in_7, ck_iw_7, cl_7, ck_in_8, ck_iw_8, cl_8, ck_in_9, ck_iw_9, cl_9, nI_clamp, lm_2, lm_4, lm_10, lm_14, lm_24, lm_80, lm_100, lm_1500, nI_add, nI_1, pk_m1, nI_pred, sp_w9 hS hb, sp_w10 hS hb, sp_w11 hS hb, sp_w12 hS hb, sp_w13 hS hb, sp_w14 hS hb, sp_w15 hS hb, put_rd (sc_w0 hb), put_up (sc_w0 hb), put_rd (sc_w3 hb), put_up (sc_w3 hb), put_rd (sc_w4 hb), put_up (sc_w4 hb), put_rd (sc_w5 hb), put_up (sc_w5 hb), put_rd (sc_w6 hb), put_up (sc_w6 hb), put_rd (sc_w7 hb), put_up (sc_w7 hb), h.c6]
    rw [if_pos (by rw [nI_leI (by omega) (by omega)]; omega)]
  | n + 1, i, fu, R, w, dn, h1, h2, h => by
    obtain ⟨fu, rfl⟩ : ∃ n', fu = n' + 1 := ⟨fu - 1, by omega⟩
    have hb := h.1
    have hle := h.le
    have hi : i < nb := by omega
    obtain ⟨x, hx, ex1⟩ := h.2.2.1.2.2.2.2.1.1 i hi
    obtain ⟨R1, q1, h3, f1⟩ := x_turn hS hA h (dn := dn) hx
    show ∃ R', fH_pass_B53 P _ _ _ _ _ _ _ = _ ∧ _
    unfold fH_pass_B53
    simp (disch := first | omega | assumption) only [sm_bd, Option.bind_some, ck_tt, ck_in, ck_iw, ck_ia, ck_iz, ck_01, ck_in_0, ck_iw_0, cl_0, ck_in_1, ck_iw_1, cl_1, ck_in_2, ck_iw_2, cl_2, ck_in_3, ck_iw_3, cl_3, ck_in_4, ck_iw_4, cl_4, ck_in_5, ck_iw_5, cl_5, ck_in_6, ck_iw_6, cl_6, ck_in_7, ck_iw_7, cl_7, ck_in_8, ck_iw_8, cl_8, ck_in_9, ck_iw_9, cl_9, nI_clamp, lm_2, lm_4, lm_10, lm_14, lm_24, lm_80, lm_100, lm_1500, nI_add, nI_1, pk_m1, nI_pred, sp_w9 hS hb, sp_w10 hS hb, sp_w11 hS hb, sp_w12 hS hb, sp_w13 hS hb, sp_w14 hS hb, sp_w15 hS hb, put_rd (sc_w0 hb), put_up (sc_w0 hb), put_rd (sc_w3 hb), put_up (sc_w3 hb), put_rd (sc_w4 hb), put_up (sc_w4 hb), put_rd (sc_w5 hb), put_up (sc_w5 hb), put_rd (sc_w6 hb), put_up (sc_w6 hb), put_rd (sc_w7 hb), put_up (sc_w7 hb), h.c6, h.ro hi, ex1, q1, h3.ro hi]
    rw [if_neg (by rw [nI_leI (by omega) (by omega)]; omega), lpF_s]
    have es : trsF t m ns i (w, dn) = (turnF w t m ns x dn, dn ||| sm_shl 1 (turnF w t m ns x dn 21 i)) := by
      unfold trsF
      simp only [ex1]
      rw [show ix (nI x) = x from nI_clamp (by omega)]
    rw [es]
    obtain ⟨R', p1, p2, p3⟩ := x_turns hS hA (ex := ex) n (i + 1) fu _ _ (dn ||| sm_shl 1 (turnF w t m ns x dn 21 i)) (by omega) (by omega) h3
    exact ⟨R', p1, p2, f1.tr p3⟩
theorem x_settle1 (hS : SP P) {R w : am_M} {sum : Int32} {s : Nat} (h : CW I R P b w t m nb ns ne) (hs : s < ns) {ex : Int32 → am_M → Option (Int32 × am_M)} {r : Nat → Nat → Int32 → Int32 → am_M → Option (Int32 × am_M)} : ∃ R', fH_settleAll_B4 P ex r (am_pk 308 0 3) (am_pk b 0 11) sum (nI s) (put I R) = r (am_pk 308 0 3) (am_pk b 0 11) (stlF t m s (w, sum)).2 (nI (s + 1)) (put I R') ∧ CW I R' P b (stlF t m s (w, sum)).1 t m nb ns ne ∧ fr b R R' := by
  have hb := h.1
  have hle := h.le
  have hm1 : (1 : Int32) ≤ nI m := le1 (by omega) (by omega)
  obtain ⟨⟨fb, hfb, e11⟩, ⟨fo, hfo, e12⟩, ⟨tb, htb, e13⟩, ⟨td, htd, e14⟩, -, -, -, ⟨ow, how, e18⟩, -⟩ := h.2.2.1.2.2.1 s hs
  have hsc := sc_sm hb (show s < 14 by omega)
  have hsf := sc_bx hb (show fb < 7 by omega)
  have hst := sc_bx hb (show tb < 7 by omega)
  have g0 : R (b + 15 + s) 0 = nI fb := (h.rm hs (by decide)).trans e11
  have g1 : R (b + 15 + s) 1 = nI fo := (h.rm hs (by decide)).trans e12
  have g2 : R (b + 15 + s) 2 = nI tb := (h.rm hs (by decide)).trans e13
  obtain ⟨R1, q1, q2, h1⟩ := h.work hS (hh := w 0 1) hfb (show 2 + fo < 4 by omega)
  have k3 : R1 (b + 15 + s) 3 = w 14 s := h1.rm hs (by decide)
  have ka : R1 (b + 8 + tb) 3 = w 4 tb := h1.rb htb (by decide)
  have kb : R1 (b + 8 + tb) 4 = w 5 tb := h1.rb htb (by decide)
  have es : snF w t m s = wkF (t fb) (2 + fo) (w 2 fb) (w 3 fb) (w 4 fb) (w 5 fb) (w 0 1) (nI m) := by
    unfold snF otF ix
    rw [e11, e12, nI_clamp (by omega), nI_clamp (by omega)]
  rw [← es] at q1
  have r1 : R b 1 = w 0 1 := h.rs (by decide)
  have key : ∃ R', fH_settleAll_J87 P r (am_pk 308 0 3) (am_pk b 0 11) sum (nI s) (am_pk (b + 15 + s) 0 8) (snF w t m s) (inF w s) (put I R1) = r (am_pk 308 0 3) (am_pk b 0 11) (stlF t m s (w, sum)).2 (nI (s + 1)) (put I R') ∧ CW I R' P b (stlF t m s (w, sum)).1 t m nb ns ne ∧ fr b R1 R' := by
    unfold fH_settleAll_J87 fX_farOf fS_settle
    simp (disch := first | omega | assumption) only [sm_bd, Option.bind_some, ck_tt, ck_in, ck_iw, ck_ia, ck_iz, ck_01, ck_in_0, ck_iw_0, cl_0, ck_in_1, ck_iw_1, cl_1, ck_in_2, ck_iw_2, cl_2, ck_in_3, ck_iw_3, cl_3, ck_in_4, ck_iw_4, cl_4, ck_in_5, ck_iw_5, cl_5, ck_in_6, ck_iw_6, cl_6, ck_in_7, ck_iw_7, cl_7, ck_in_8, ck_iw_8, cl_8, ck_in_9, ck_iw_9, cl_9, nI_clamp, lm_2, lm_4, lm_10, lm_14, lm_24, lm_80, lm_100, lm_1500, nI_add, nI_1, pk_m1, nI_pred, sp_w9 hS hb, sp_w10 hS hb, sp_w11 hS hb, sp_w12 hS hb, sp_w13 hS hb, sp_w14 hS hb, sp_w15 hS hb, put_rd (sc_w0 hb), put_up (sc_w0 hb), put_rd (sc_w3 hb), put_up (sc_w3 hb), put_rd (sc_w4 hb), put_up (sc_w4 hb), put_rd (sc_w5 hb), put_up (sc_w5 hb), put_rd (sc_w6 hb), put_up (sc_w6 hb), put_rd (sc_w7 hb), put_up (sc_w7 hb), h1.c0, h_restBy hm1, put_rd hsc, put_up hsc]
    have er := h1.2.2.1.2.2.1 s hs
    obtain ⟨oj, hoj, eoj⟩ := ran_nI (ofF_ran (w := w) (t := t) (s := s) hle.2.2.2.1 hle.2.2.2.2) hle.2.2.2.2
    have o7 : R1 (b + 15 + s) 7 = w 18 s := h1.rm hs (by decide)
    have o5 : R1 (b + 15 + s) 5 = w 16 s := h1.rm hs (by decide)
    have o4 : R1 (b + 15 + s) 4 = w 15 s := h1.rm hs (by decide)
    have oks : ∀ r, 11 ≤ r → r ≤ 20 → okrc r s := fun r a1 a2 => Or.inr (Or.inr (Or.inl ⟨a1, a2, by omega⟩))
    have w1 := h1.wr (r := 18) (c := s) (v := sm_min (w 18 s + ofF w t m s) 99999) (oks _ (by decide) (by decide)) (by rw [e18, eoj]; exact owes_ok how (by omega)) (aC_m b 7 s (by decide))
    have w2 := w1.wr (r := 17) (c := s) (v := w 16 s) (oks _ (by decide) (by decide)) er.2.2.2.2.2.1 (aC_m b 6 s (by decide))
    have w3 := w2.wr (r := 16) (c := s) (v := w 15 s) (oks _ (by decide) (by decide)) er.2.2.2.2.1 (aC_m b 5 s (by decide))
    have w4 := w3.wr (r := 15) (c := s) (v := snF w t m s) (oks _ (by decide) (by decide)) (snF_ran h.2.2.1 hs) (aC_m b 4 s (by decide))
    have eo : sm_min (partF (inF w s - snF w t m s) (nI m)) (partF (snF w t m s - inF w s) (nI m)) = ofF w t m s := rfl
    rw [eo, o7]
    simp (disch := first | omega | assumption) only [am_up_eq, am_up_nk, o5, o4]
    exact ⟨_, rfl, w4, (fr.up (by omega)).tr ((fr.up (by omega)).tr ((fr.up (by omega)).tr (fr.up (by omega))))⟩
  obtain ⟨R2, p1, p2, p3⟩ := key
  refine ⟨R2, ?_, p2, (fr.cl q2).tr p3⟩
  unfold fH_settleAll_B4
  simp (disch := first | omega | assumption) only [sm_bd, Option.bind_some, ck_tt, ck_in, ck_iw, ck_ia, ck_iz, ck_01, ck_in_0, ck_iw_0, cl_0, ck_in_1, ck_iw_1, cl_1, ck_in_2, ck_iw_2, cl_2, ck_in_3, ck_iw_3, cl_3, ck_in_4, ck_iw_4, cl_4, ck_in_5, ck_iw_5, cl_5, ck_in_6, ck_iw_6, cl_6, ck_in_7, ck_iw_7, cl_7, ck_in_8, ck_iw_8, cl_8, ck_in_9, ck_iw_9, cl_9, nI_clamp, lm_2, lm_4, lm_10, lm_14, lm_24, lm_80, lm_100, lm_1500, nI_add, nI_1, pk_m1, nI_pred, sp_w9 hS hb, sp_w10 hS hb, sp_w11 hS hb, sp_w12 hS hb, sp_w13 hS hb, sp_w14 hS hb, sp_w15 hS hb, put_rd (sc_w0 hb), put_up (sc_w0 hb), put_rd (sc_w3 hb), put_up (sc_w3 hb), put_rd (sc_w4 hb), put_up (sc_w4 hb), put_rd (sc_w5 hb), put_up (sc_w5 hb), put_rd (sc_w6 hb), put_up (sc_w6 hb), put_rd (sc_w7 hb), put_up (sc_w7 hb), h.c7, h.c0, r1, sp_sm hS hb, sp_bx hS hb, put_rd hsc, put_rd hst, g0, g1, g2, sp_308_0 hS]
  rw [if_neg (by rw [nI_leI (by omega) (by omega)]; omega), l_2, nI_add, q1]
  simp (disch := first | omega | assumption) only [sm_bd, Option.bind_some, ck_tt, ck_in, ck_iw, ck_ia, ck_iz, ck_01, ck_in_0, ck_iw_0, cl_0, ck_in_1, ck_iw_1, cl_1, ck_in_2, ck_iw_2, cl_2, ck_in_3, ck_iw_3, cl_3, ck_in_4, ck_iw_4, cl_4, ck_in_5, ck_iw_5, cl_5, ck_in_6, ck_iw_6, cl_6, ck_in_7, ck_iw_7, cl_7, ck_in_8, ck_iw_8, cl_8, ck_in_9, ck_iw_9, cl_9, nI_clamp, lm_2, lm_4, lm_10, lm_14, lm_24, lm_80, lm_100, lm_1500, nI_add, nI_1, pk_m1, nI_pred, put_rd hsc, put_rd hst, k3, ka, kb]
  have ei : inF w s = if w 14 s = 0 then w 4 tb else w 5 tb := by
    unfold inF
    rw [e13, show ix (nI tb) = tb from nI_clamp (by omega)]
  rw [ei] at p1
  by_cases d0 : w 14 s = 0
  · rw [if_neg (fun z => z d0)]
    rw [if_pos d0] at p1
    exact p1
  · rw [if_pos d0]
    rw [if_neg d0] at p1
    exact p1
theorem x_settles (hS : SP P) : ∀ (n s fu : Nat) (R w : am_M) (sum : Int32), n < fu → s + n = ns → CW I R P b w t m nb ns ne → ∃ R', fH_settleAll_L4 P (fun l2 I => some (l2, I)) fu (am_pk 308 0 3) (am_pk b 0 11) sum (nI s) (put I R) = some ((lpF (stlF t m) s n (w, sum)).2, put I R') ∧ CW I R' P b (lpF (stlF t m) s n (w, sum)).1 t m nb ns ne ∧ fr b R R'
  | 0, s, fu, R, w, sum, h1, h2, h => by
    obtain ⟨fu, rfl⟩ : ∃ n', fu = n' + 1 := ⟨fu - 1, by omega⟩
    have hb := h.1
    have hle := h.le
    refine ⟨R, ?_, h, fr.rfl⟩
    show fH_settleAll_B4 P _ _ _ _ _ _ _ = _
    unfold fH_settleAll_B4
    simp (disch := first | omega | assumption) only [sm_bd, Option.bind_some, ck_tt, ck_in, ck_iw, ck_ia, ck_iz, ck_01, ck_in_0, ck_iw_0, cl_0, ck_in_1, ck_iw_1, cl_1, ck_in_2, ck_iw_2, cl_2, ck_in_3, ck_iw_3, cl_3, ck_in_4, ck_iw_4, cl_4, ck_in_5, ck_iw_5, cl_5, ck_in_6, ck_iw_6, cl_6, ck_in_7, ck_iw_7, cl_7, ck_in_8, ck_iw_8, cl_8, ck_in_9, ck_iw_9, cl_9, nI_clamp, lm_2, lm_4, lm_10, lm_14, lm_24, lm_80, lm_100, lm_1500, nI_add, nI_1, pk_m1, nI_pred, sp_w9 hS hb, sp_w10 hS hb, sp_w11 hS hb, sp_w12 hS hb, sp_w13 hS hb, sp_w14 hS hb, sp_w15 hS hb, put_rd (sc_w0 hb), put_up (sc_w0 hb), put_rd (sc_w3 hb), put_up (sc_w3 hb), put_rd (sc_w4 hb), put_up (sc_w4 hb), put_rd (sc_w5 hb), put_up (sc_w5 hb), put_rd (sc_w6 hb), put_up (sc_w6 hb), put_rd (sc_w7 hb), put_up (sc_w7 hb), h.c7]
    rw [if_pos (by rw [nI_leI (by omega) (by omega)]; omega)]
    rfl
  | n + 1, s, fu, R, w, sum, h1, h2, h => by
    obtain ⟨fu, rfl⟩ : ∃ n', fu = n' + 1 := ⟨fu - 1, by omega⟩
    have hs : s < ns := by omega
    obtain ⟨R1, q1, q2, q3⟩ := x_settle1 hS (sum := sum) h hs (ex := fun l2 I => some (l2, I)) (r := fH_settleAll_L4 P (fun l2 I => some (l2, I)) fu)
    obtain ⟨R2, p1, p2, p3⟩ := x_settles hS n (s + 1) fu R1 _ (stlF t m s (w, sum)).2 (by omega) (by omega) q2
    refine ⟨R2, ?_, ?_, q3.tr p3⟩
    · show fH_settleAll_B4 P _ _ _ _ _ _ _ = _
      rw [q1, p1, lpF_s]
    · rw [lpF_s]; exact p2
/-- the class's pass -/
theorem x_pass (hS : SP P) (hA : apok I) {R w : am_M} (h : CW I R P b w t m nb ns ne) (hh : ∃ k, k < 2000 ∧ (hrs w t m nb ns ne).1 0 1 = nI k) : ∃ R', fH_pass P (am_pk 308 0 3) (am_pk b 0 11) (put I R) = some (offF w t m nb ns ne, put I R') ∧ CW I R' P b (hourF w t m nb ns ne) t m nb ns ne ∧ fr b R R' := by
  have hb := h.1
  have hle := h.le
  unfold fH_pass
  obtain ⟨R1, q1, h1, f1⟩ := x_events hS (ex := fun l0 l1 I =>
      fH_pass_L53 P (fun l0 l1 I =>
          sm_ck (am_t l0 = 3) <|
          sm_ck (am_t l1 = 11) <|
          Option.bind (fH_settleAll P l0 l1 I) fun y21 =>
          sm_bd (am_up y21.2 l1 1 ((y21.2 l1 1) + 1)) fun I22 =>
          some (y21.1, I22)) sm_fu l0 l1 0 0 I) ne 0 sm_fu R w (sm_fu_lt (by omega)) (by omega) h
  obtain ⟨R2, q2, h2, f2⟩ := x_turns hS hA (ex := fun l0 l1 I =>
          sm_ck (am_t l0 = 3) <|
          sm_ck (am_t l1 = 11) <|
          Option.bind (fH_settleAll P l0 l1 I) fun y21 =>
          sm_bd (am_up y21.2 l1 1 ((y21.2 l1 1) + 1)) fun I22 =>
          some (y21.1, I22)) nb 0 sm_fu R1 _ 0 (sm_fu_lt (by omega)) (by omega) h1
  obtain ⟨R3, q3, h3, f3⟩ := x_settles hS ns 0 sm_fu R2 _ 0 (sm_fu_lt (by omega)) (by omega) h2
  obtain ⟨k, hk, ek⟩ := hh
  have e1 : R3 b 1 = (hrs w t m nb ns ne).1 0 1 := h3.rs (by decide)
  have h4 := h3.wr (r := 0) (c := 1) (v := (hrs w t m nb ns ne).1 0 1 + 1) (Or.inl ⟨rfl, by decide⟩) (Or.inr (Or.inr (Or.inr (Or.inl ⟨rfl, k + 1, by omega, by rw [ek, nI_1]⟩)))) rfl
  refine ⟨am_up R3 b 1 ((hrs w t m nb ns ne).1 0 1 + 1), ?_, h4, f1.tr (f2.tr (f3.tr (fr.up (by omega))))⟩
  refine q1.trans ?_
  refine q2.trans ?_
  unfold fH_settleAll
  rw [show fH_settleAll_L4 P (fun l2 I => some (l2, I)) sm_fu (am_pk 308 0 3) (am_pk b 0 11) 0 0 (put I R2) = _ from q3]
  simp (disch := first | omega | assumption) only [sm_bd, Option.bind_some, ck_tt, ck_in, ck_iw, ck_ia, ck_iz, ck_01, ck_in_0, ck_iw_0, cl_0, ck_in_1, ck_iw_1, cl_1, ck_in_2, ck_iw_2, cl_2, ck_in_3, ck_iw_3, cl_3, ck_in_4, ck_iw_4, cl_4, ck_in_5, ck_iw_5, cl_5, ck_in_6, ck_iw_6, cl_6, ck_in_7, ck_iw_7, cl_7, ck_in_8, ck_iw_8, cl_8, ck_in_9, ck_iw_9, cl_9, nI_clamp, lm_2, lm_4, lm_10, lm_14, lm_24, lm_80, lm_100, lm_1500, nI_add, nI_1, pk_m1, nI_pred, sp_w9 hS hb, sp_w10 hS hb, sp_w11 hS hb, sp_w12 hS hb, sp_w13 hS hb, sp_w14 hS hb, sp_w15 hS hb, put_rd (sc_w0 hb), put_up (sc_w0 hb), put_rd (sc_w3 hb), put_up (sc_w3 hb), put_rd (sc_w4 hb), put_up (sc_w4 hb), put_rd (sc_w5 hb), put_up (sc_w5 hb), put_rd (sc_w6 hb), put_up (sc_w6 hb), put_rd (sc_w7 hb), put_up (sc_w7 hb), e1]
  rfl
end CWp
