/-! ===== the call would ===== -/
section Would
variable {I R : am_M} {P : am_Q} {nx sl : Nat} {w : am_M} {t : Nat → Nat → List Nat} {m nb ns ne : Nat}
theorem isPr.ran {v : Int32} (h : isPr m v) : ran m (v / 100) ∧ ran m (sm_rem v 100) := ⟨h.2.1, h.2.2⟩
theorem op_would (h : INV I R P nx w t m nb ns ne) {a b c d e : Int32} : OK2 I R P nx sl (fX_would (am_pk 2 0 12) a b c d e) (fun Q => fM_would Q (am_pk 330 0 13) a b c d e) := by
  have hS := h.sp
  have hle := h.mw.le
  have hF : ∀ (q : Prop), (∀ R1, MW R1 w t m nb ns ne → fM_would P (am_pk 330 0 13) a b c d e (put I R1) = some (-1000001, put I (am_up R1 331 0 (R1 331 0 + 1)))) → fX_would (am_pk 2 0 12) a b c d e (put I R) P nx sl = fX_would_J60 (am_pk 2 0 12) a b c d e (put I R) P nx sl → OK2 I R P nx sl (fX_would (am_pk 2 0 12) a b c d e) (fun Q => fM_would Q (am_pk 330 0 13) a b c d e) := by
    intro _ hm hx
    refine h.fl2 (v := -1000001) (k := 0) (by decide) ?_ (fun R1 hM hc1 => hm R1 hM)
    rw [hx]
    unfold fX_would_J60 fX_would_J61
    rw [if_neg (fun z => z rfl), sm_ck_pos (am_t_pk (by decide)), x_f1 hS, Option.bind_some]
  have hb0 : ∀ (X : Option (Int32 × am_S)), (fX_would (am_pk 2 0 12) a b c d e (put I R) P nx sl = if 0 ≤ a ∧ a < nI nb then (if b < 0 then fX_would_J60 (am_pk 2 0 12) a b c d e (put I R) P nx sl else if 4 ≤ b then fX_would_J60 (am_pk 2 0 12) a b c d e (put I R) P nx sl else if isPr m c then (if isPr m d then (if e < 0 then fX_would_J60 (am_pk 2 0 12) a b c d e (put I R) P nx sl else if 999 < e then fX_would_J60 (am_pk 2 0 12) a b c d e (put I R) P nx sl else fX_would_J61 (am_pk 2 0 12) a b c d e 1 (put I R) P nx sl) else fX_would_J60 (am_pk 2 0 12) a b c d e (put I R) P nx sl) else fX_would_J60 (am_pk 2 0 12) a b c d e (put I R) P nx sl) else fX_would_J60 (am_pk 2 0 12) a b c d e (put I R) P nx sl) := by
    intro _
    unfold fX_would
    rw [sm_ck_pos (am_t_pk (by decide)), sp_2_0 hS, sm_ck_pos (am_t_pk (by decide)), h.cw.hasBox, Option.bind_some, bI_if, h.cw.isPair, Option.bind_some, bI_if, h.cw.isPair, Option.bind_some, bI_if]
  sorry
end Would
