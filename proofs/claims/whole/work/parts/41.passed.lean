/-! ===== what a seam passes ===== -/
def ix (x : Int32) : Nat := x.toNatClampNeg
/-- what box i tells at out o (a letter) -/
def otF (w : am_M) (t : Nat → Nat → List Nat) (m i l : Nat) : Int32 := wkF (t i) l (w 2 i) (w 3 i) (w 4 i) (w 5 i) (w 0 1) (nI m)
def psF (w : am_M) (t : Nat → Nat → List Nat) (m s : Nat) (dn : Int32) : Int32 := if (sm_shr dn (w 11 s)) &&& 1 = 1 then otF w t m (ix (w 11 s)) (2 + ix (w 12 s)) else gsF (w 0 2) (nI m) (w 15 s) (w 16 s) (w 17 s)
/-- whether it leaves what was said, for the first time -/
def lfF (w : am_M) (s : Nat) (v : Int32) : am_M := if w 0 4 < 0 ∧ ¬ (w 19 s ≤ v ∧ v ≤ w 20 s) then am_up (am_up w 0 4 (w 0 1)) 0 5 (nI s) else w
section Passed
variable {I R : am_M} {P : am_Q} {b : Nat} {w : am_M} {t : Nat → Nat → List Nat} {m nb ns ne : Nat}
theorem x_passed81 (h : CW I R P b w t m nb ns ne) {s : Nat} {v : Int32} (hs : s < ns) : ∃ R', fH_passed_J81 P (am_pk b 0 11) (nI s) (am_pk (b + 15 + s) 0 8) v (put I R) = some (v, put I R') ∧ CW I R' P b (lfF w s v) t m nb ns ne ∧ ∀ c, c ≠ b → R' c = R c := by
  have hle := h.le
  have hb := h.1
  have hsc := sc_sm hb (show s < 14 by omega)
  have hgo : ∃ R', fH_passed_J110 P (am_pk b 0 11) (nI s) v (put I R) = some (v, put I R') ∧ CW I R' P b (am_up (am_up w 0 4 (w 0 1)) 0 5 (nI s)) t m nb ns ne ∧ ∀ c, c ≠ b → R' c = R c := by
    unfold fH_passed_J110
    simp only [sm_bd]
    rw [sm_ck_pos (am_t_pk (by decide)), put_rd (sc_w0 hb), h.rs (by decide), put_up (sc_w0 hb), put_up (sc_w0 hb)]
    refine ⟨_, rfl, ?_, fun c hc => by funext k; rw [am_up_ne hc, am_up_ne hc]⟩
    have h1 := h.wr (r := 0) (c := 4) (v := w 0 1) (Or.inl ⟨rfl, by decide⟩) (Or.inr (Or.inl rfl)) rfl
    exact h1.wr (r := 0) (c := 5) (v := nI s) (Or.inl ⟨rfl, by decide⟩) (Or.inr (Or.inr (Or.inl rfl))) rfl
  have hst : ∃ R', some (v, put I R) = some (v, put I R') ∧ CW I R' P b w t m nb ns ne ∧ ∀ c, c ≠ b → R' c = R c := ⟨R, rfl, h, fun _ _ => rfl⟩
  unfold fH_passed_J81 lfF
  rw [sm_ck_pos (am_t_pk (by decide)), put_rd (sc_w0 hb), h.rs (by decide), sm_ck_pos (am_t_pk (by decide)), put_rd hsc, put_rd hsc, h.rm hs (by decide), h.rm hs (by decide)]
  by_cases h4 : 0 ≤ w 0 4
  · rw [if_pos h4, if_neg (fun z => absurd z.1 (i_nl.mpr h4))]
    exact hst
  · rw [if_neg h4]
    by_cases h5 : v < w 19 s
    · rw [if_pos h5, if_pos ⟨i_nle.mp h4, fun z => absurd z.1 (i_nle.mpr h5)⟩]
      exact hgo
    · rw [if_neg h5]
      by_cases h6 : v ≤ w 20 s
      · rw [if_pos h6, if_neg (fun z => z.2 ⟨i_nl.mp h5, h6⟩)]
        exact hst
      · rw [if_neg h6, if_pos ⟨i_nle.mp h4, fun z => h6 z.2⟩]
        exact hgo
theorem x_passed (hS : SP P) (h : CW I R P b w t m nb ns ne) {s : Nat} {dn : Int32} (hs : s < ns) : ∃ R', fH_passed P (am_pk 308 0 3) (am_pk b 0 11) (nI s) dn (put I R) = some (psF w t m s dn, put I R') ∧ CW I R' P b (lfF w s (psF w t m s dn)) t m nb ns ne ∧ ∀ c, c ≠ b → c ≠ 307 → R' c = R c := by
  have hle := h.le
  have hb := h.1
  have hbr := hb.rng
  have hsc := sc_sm hb (show s < 14 by omega)
  obtain ⟨⟨fb, hfb, e11⟩, ⟨fo, hfo, e12⟩, -⟩ := h.2.2.1.2.2.1 s hs
  have hm : R b 0 = nI m := (h.rs (by decide)).trans h.2.2.1.1.1
  unfold fH_passed psF
  simp only [sm_bd]
  rw [sm_ck_pos (am_t_pk (by decide)), sp_w10 hS hb, nI_clamp (show s < 2 ^ 31 by omega), sp_sm hS hb (show s < 14 by omega), sm_ck_pos (sm_ia_nI (by decide) (by decide) (by decide) (show s < 14 by omega)), sm_ck_pos (am_t_pk (by decide)), put_rd hsc, h.rm hs (by decide), e11]
  by_cases hd : (sm_shr dn (nI fb)) &&& 1 = 1
  · rw [if_neg (fun z => z hd), if_pos hd]
    unfold fH_passed_J26
    rw [if_neg (by decide), sm_ck_pos (am_t_pk (by decide)), sm_ck_pos (am_t_pk (by decide)), sm_ck_pos (am_t_pk (by decide)), sp_w9 hS hb, put_rd hsc, put_rd hsc, h.rm hs (by decide), h.rm hs (by decide), e11, e12, sm_ck_pos (sm_ia_nI (by decide) (by decide) (by decide) (show fb < 7 by omega)), sp_308_0 hS, sm_ck_pos (am_t_pk (by decide)), nI_clamp (show fb < 2 ^ 31 by omega), sp_bx hS hb (show fb < 7 by omega), put_rd (sc_w0 hb), put_rd (sc_w0 hb), hm, h.rs (by decide), l_2, nI_add]
    obtain ⟨R1, q1, q2, q3⟩ := h.work hS (hh := w 0 1) hfb (show 2 + fo < 4 by omega)
    rw [q1, Option.bind_some]
    obtain ⟨R2, p1, p2, p3⟩ := x_passed81 q3 (v := wkF (t fb) (2 + fo) (w 2 fb) (w 3 fb) (w 4 fb) (w 5 fb) (w 0 1) (nI m)) hs
    have eo : otF w t m (ix (nI fb)) (2 + ix (nI fo)) = wkF (t fb) (2 + fo) (w 2 fb) (w 3 fb) (w 4 fb) (w 5 fb) (w 0 1) (nI m) := by
      unfold otF ix
      rw [nI_clamp (by omega), nI_clamp (by omega)]
    rw [e12] at *
    rw [eo]
    exact ⟨R2, p1, p2, fun c h1 h2 => (p3 c h1).trans (q2 c h2)⟩
  · rw [if_pos hd, if_neg hd]
    unfold fH_passed_J26
    rw [if_pos rfl, sm_ck_pos (am_t_pk (by decide)), sm_ck_pos (am_t_pk (by decide)), put_rd (sc_w0 hb), put_rd (sc_w0 hb), hm, h.rs (by decide), x_guess hsc (le1 (by omega) (by omega)), Option.bind_some, h.rm hs (by decide), h.rm hs (by decide), h.rm hs (by decide)]
    obtain ⟨R2, p1, p2, p3⟩ := x_passed81 h (v := gsF (w 0 2) (nI m) (w 15 s) (w 16 s) (w 17 s)) hs
    exact ⟨R2, p1, p2, fun c h1 _ => p3 c h1⟩
end Passed
