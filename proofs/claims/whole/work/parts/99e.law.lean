/-! ===== the law ===== -/
theorem a63 {v : Int32} : ∃ c, c < 64 ∧ v &&& 63 = nI c := ⟨_, Nat.mod_lt _ (by decide), pk_and v 6 rfl⟩
section Law
variable {I R : am_M} {P : am_Q} {nx sl : Nat} {w : am_M} {t : Nat → Nat → List Nat} {m nb ns ne : Nat}
/-- one call of both -/
def stL (I R : am_M) (P : am_Q) (nx sl : Nat) (F : am_M → am_Q → Nat → Nat → Option (Int32 × am_S)) (B : Option (Int32 × am_S)) : Prop := ∃ I' R' P' nx' sl', B = F (put I' R') P' nx' sl' ∧ (∃ w t m nb ns ne, INV I' R' P' nx' w t m nb ns ne) ∧ frJ nx I I' ∧ nx ≤ nx' ∧ nx' ≤ nx + 700 ∧ sl' ≤ sl + 2000
set_option maxRecDepth 100000 in
theorem law_B {L i : Nat} {e18_241 : am_M → am_Q → Nat → Nat → Option (Int32 × am_S)} {e18_284 : am_M → am_Q → Nat → Nat → Option (Int32 × am_S)} {e18_317 : am_M → am_Q → Nat → Nat → Option (Int32 × am_S)} {e18_350 : am_M → am_Q → Nat → Nat → Option (Int32 × am_S)} {e18_383 : am_M → am_Q → Nat → Nat → Option (Int32 × am_S)} {e18_426 : am_M → am_Q → Nat → Nat → Option (Int32 × am_S)} {e18_459 : am_M → am_Q → Nat → Nat → Option (Int32 × am_S)} {e18_492 : am_M → am_Q → Nat → Nat → Option (Int32 × am_S)} {e18_515 : am_M → am_Q → Nat → Nat → Option (Int32 × am_S)} {e18_528 : am_M → am_Q → Nat → Nat → Option (Int32 × am_S)} {e18_591 : am_M → am_Q → Nat → Nat → Option (Int32 × am_S)} {e18_624 : am_M → am_Q → Nat → Nat → Option (Int32 × am_S)} {e18_657 : am_M → am_Q → Nat → Nat → Option (Int32 × am_S)} {e18_700 : am_M → am_Q → Nat → Nat → Option (Int32 × am_S)} {e18_723 : am_M → am_Q → Nat → Nat → Option (Int32 × am_S)} {e18_746 : am_M → am_Q → Nat → Nat → Option (Int32 × am_S)} {e18_769 : am_M → am_Q → Nat → Nat → Option (Int32 × am_S)} {e18_792 : am_M → am_Q → Nat → Nat → Option (Int32 × am_S)} {e18_815 : am_M → am_Q → Nat → Nat → Option (Int32 × am_S)} {e18_848 : am_M → am_Q → Nat → Nat → Option (Int32 × am_S)} {e18_871 : am_M → am_Q → Nat → Nat → Option (Int32 × am_S)} {e18_894 : am_M → am_Q → Nat → Nat → Option (Int32 × am_S)} {e18_917 : am_M → am_Q → Nat → Nat → Option (Int32 × am_S)} {e18_940 : am_M → am_Q → Nat → Nat → Option (Int32 × am_S)} {e18_983 : am_M → am_Q → Nat → Nat → Option (Int32 × am_S)} {e18_996 : am_M → am_Q → Nat → Nat → Option (Int32 × am_S)} {e18_1019 : am_M → am_Q → Nat → Nat → Option (Int32 × am_S)} {e18_1032 : am_M → am_Q → Nat → Nat → Option (Int32 × am_S)} {e18_1055 : am_M → am_Q → Nat → Nat → Option (Int32 × am_S)} {e18_1088 : am_M → am_Q → Nat → Nat → Option (Int32 × am_S)} {e18_1121 : am_M → am_Q → Nat → Nat → Option (Int32 × am_S)} {e18_1154 : am_M → am_Q → Nat → Nat → Option (Int32 × am_S)} {e18_1187 : am_M → am_Q → Nat → Nat → Option (Int32 × am_S)} {e18_1220 : am_M → am_Q → Nat → Nat → Option (Int32 × am_S)} {e18_1253 : am_M → am_Q → Nat → Nat → Option (Int32 × am_S)} {e18_1296 : am_M → am_Q → Nat → Nat → Option (Int32 × am_S)} {e18_1339 : am_M → am_Q → Nat → Nat → Option (Int32 × am_S)} {e18_1402 : am_M → am_Q → Nat → Nat → Option (Int32 × am_S)} {e18_1415 : am_M → am_Q → Nat → Nat → Option (Int32 × am_S)} {e18_1428 : am_M → am_Q → Nat → Nat → Option (Int32 × am_S)} {e18_1441 : am_M → am_Q → Nat → Nat → Option (Int32 × am_S)} {e18_1464 : am_M → am_Q → Nat → Nat → Option (Int32 × am_S)} {e18_1487 : am_M → am_Q → Nat → Nat → Option (Int32 × am_S)} {e18_1495 : am_M → am_Q → Nat → Nat → Option (Int32 × am_S)} {r18 : Nat → Nat → Nat → Int32 → am_M → am_Q → Nat → Nat → Option (Int32 × am_S)} (h : INV I R P nx w t m nb ns ne) (hL : L < 16384) (hi : 6 * i + 6 ≤ L) : stL I R P nx sl (r18 (am_sp L) (am_pk 2 0 12) (am_pk 330 0 13) (nI (6 * (i + 1)))) (fLaw_law_B18 e18_241 e18_284 e18_317 e18_350 e18_383 e18_426 e18_459 e18_492 e18_515 e18_528 e18_591 e18_624 e18_657 e18_700 e18_723 e18_746 e18_769 e18_792 e18_815 e18_848 e18_871 e18_894 e18_917 e18_940 e18_983 e18_996 e18_1019 e18_1032 e18_1055 e18_1088 e18_1121 e18_1154 e18_1187 e18_1220 e18_1253 e18_1296 e18_1339 e18_1402 e18_1415 e18_1428 e18_1441 e18_1464 e18_1487 e18_1495 r18 (am_sp L) (am_pk 2 0 12) (am_pk 330 0 13) (nI (6 * i)) (put I R) P nx sl) := by
  have hsp : am_sp L = am_pk 0 L 20 := rfl
  have ht : am_t (am_sp L) = 20 := am_t_pk (by decide)
  have hn : am_n (am_sp L) = L := am_n_pk hL (by decide)
  have hai : am_i (am_sp L) = 0 := am_i_pk hL (by decide)
  have hdy : am_i (am_sp L) < 2 ∨ 379 ≤ am_i (am_sp L) := Or.inl (by omega)
  have h379 := h.1.1.2.2.2
  have rd : ∀ (I' R' : am_M) (k : Nat), put I' R' (am_sp L) k = I' (am_sp L) k := fun I' R' k => put_dy hdy
  have kp : ∀ I', frJ nx I I' → I' (am_sp L) = I (am_sp L) := fun I' hf => hf _ ht (by omega)
  have n1 : nI (6 * i) + 1 = nI (6 * i + 1) := by rw [show (1 : Int32) = nI 1 from rfl, nI_add]
  have n2 : nI (6 * i) + 2 = nI (6 * i + 2) := by rw [show (2 : Int32) = nI 2 from rfl, nI_add]
  have n3 : nI (6 * i) + 3 = nI (6 * i + 3) := by rw [show (3 : Int32) = nI 3 from rfl, nI_add]
  have n4 : nI (6 * i) + 4 = nI (6 * i + 4) := by rw [show (4 : Int32) = nI 4 from rfl, nI_add]
  have n5 : nI (6 * i) + 5 = nI (6 * i + 5) := by rw [show (5 : Int32) = nI 5 from rfl, nI_add]
  have hin : ∀ k, k < 6 → sm_in (am_sp L) (nI (6 * i + k)) := fun k hk => sm_in_nI hL (by omega)
  have c0 : (nI (6 * i + 0)).toNatClampNeg = 6 * i + 0 := nI_clamp (by omega)
  have c1 : (nI (6 * i + 1)).toNatClampNeg = 6 * i + 1 := nI_clamp (by omega)
  have c2 : (nI (6 * i + 2)).toNatClampNeg = 6 * i + 2 := nI_clamp (by omega)
  have c3 : (nI (6 * i + 3)).toNatClampNeg = 6 * i + 3 := nI_clamp (by omega)
  have c4 : (nI (6 * i + 4)).toNatClampNeg = 6 * i + 4 := nI_clamp (by omega)
  have c5 : (nI (6 * i + 5)).toNatClampNeg = 6 * i + 5 := nI_clamp (by omega)
  have hJ : ∀ M Q n s, fLaw_law_J1489 r18 (am_sp L) (am_pk 2 0 12) (am_pk 330 0 13) (nI (6 * i)) M Q n s = r18 (am_sp L) (am_pk 2 0 12) (am_pk 330 0 13) (nI (6 * (i + 1))) M Q n s := fun M Q n s => by
    unfold fLaw_law_J1489
    rw [bd_eq, show (6 : Int32) = nI 6 from rfl, nI_add, show 6 * i + 6 = 6 * (i + 1) by omega]
  have h12 : am_t (am_pk 2 0 12) = 12 := am_t_pk (by decide)
  have h13 : am_t (am_pk 330 0 13) = 13 := am_t_pk (by decide)
  obtain ⟨c, hc, ec⟩ := a63 (v := I (am_sp L) (6 * i))
  unfold fLaw_law_B18
  rw [sm_ck_pos ht, sm_ck_pos (by rw [ht]; decide), hn, if_neg (by
    rw [show Int32.ofNat L - 6 = nI (L - 6) from by
      obtain ⟨k, rfl⟩ : ∃ k, L = k + 6 := ⟨L - 6, by omega⟩
      rw [Nat.add_sub_cancel, show Int32.ofNat (k + 6) = nI (k + 6) from rfl, ← nI_add, show (6 : Int32) = nI 6 from rfl, Int32.add_sub_cancel], nI_ltI (by omega) (by omega)]
    omega), sm_ck_pos (show sm_in (am_sp L) (nI (6 * i)) from hin 0 (by decide)), nI_clamp (show 6 * i < 2 ^ 31 by omega), rd, ec, bd_eq, n1, n2, n3, n4, n5, c1, c2, c3, c4, c5]
  by_cases q0 : nI c = 0
  · rw [if_pos q0]
    obtain ⟨v, R1, R2, y1, y2, y3⟩ := op_whole h (a := I (am_sp L) (6 * i + 1))
    rw [sm_ck_pos h12, sm_ck_pos (hin 1 (by decide)), rd, y1, Option.bind_some]
    dsimp only
    rw [sm_ck_pos h13, sm_ck_pos (hin 1 (by decide)), rd, y2, Option.bind_some]
    dsimp only
    rw [if_pos rfl, hJ]
    exact ⟨I, R2, P, nx, sl, rfl, y3, frJ.rfl, Nat.le_refl _, by omega, by omega⟩
  · rw [if_neg q0]
    by_cases q1 : nI c = 1
    · rw [if_pos q1]
      obtain ⟨v, I1, R1, P1, nx1, sl1, R2, y1, y2, y3, y4, y5, y6, y7⟩ := op_box (sl := sl) h (a := I (am_sp L) (6 * i + 1)) (b := I (am_sp L) (6 * i + 2)) (c := I (am_sp L) (6 * i + 3))
      rw [sm_ck_pos h12, sm_ck_pos (hin 1 (by decide)), sm_ck_pos (hin 2 (by decide)), sm_ck_pos (hin 3 (by decide)), rd, rd, rd, y1, Option.bind_some]
      dsimp only
      rw [sm_ck_pos h13, sm_ck_pos (hin 1 (by decide)), sm_ck_pos (hin 2 (by decide)), sm_ck_pos (hin 3 (by decide)), rd, rd, rd, kp I1 y4, show fM_box P1 (am_pk 330 0 13) (I (am_sp L) (6 * i + 1)) (I (am_sp L) (6 * i + 2)) (I (am_sp L) (6 * i + 3)) (put I1 R1) = _ from y2, Option.bind_some]
      dsimp only
      rw [if_pos rfl, hJ]
      exact ⟨I1, R2, P1, nx1, sl1, rfl, y3, y4, y5, y6, y7⟩
    · rw [if_neg q1]
      by_cases q2 : nI c = 2
      · rw [if_pos q2]
        obtain ⟨v, R1, R2, y1, y2, y3⟩ := op_as h (a := I (am_sp L) (6 * i + 1)) (b := I (am_sp L) (6 * i + 2))
        rw [sm_ck_pos h12, sm_ck_pos (hin 1 (by decide)), sm_ck_pos (hin 2 (by decide)), rd, rd, y1, Option.bind_some]
        dsimp only
        rw [sm_ck_pos h13, sm_ck_pos (hin 1 (by decide)), sm_ck_pos (hin 2 (by decide)), rd, rd, y2, Option.bind_some]
        dsimp only
        rw [if_pos rfl, hJ]
        exact ⟨I, R2, P, nx, sl, rfl, y3, frJ.rfl, Nat.le_refl _, by omega, by omega⟩
      · rw [if_neg q2]
        by_cases q3 : nI c = 3
        · rw [if_pos q3]
          obtain ⟨v, R1, R2, y1, y2, y3⟩ := op_of h (a := I (am_sp L) (6 * i + 1)) (b := I (am_sp L) (6 * i + 2))
          rw [sm_ck_pos h12, sm_ck_pos (hin 1 (by decide)), sm_ck_pos (hin 2 (by decide)), rd, rd, y1, Option.bind_some]
          dsimp only
          rw [sm_ck_pos h13, sm_ck_pos (hin 1 (by decide)), sm_ck_pos (hin 2 (by decide)), rd, rd, y2, Option.bind_some]
          dsimp only
          rw [if_pos rfl, hJ]
          exact ⟨I, R2, P, nx, sl, rfl, y3, frJ.rfl, Nat.le_refl _, by omega, by omega⟩
        · rw [if_neg q3]
          by_cases q4 : nI c = 4
          · rw [if_pos q4]
            obtain ⟨v, R1, R2, y1, y2, y3⟩ := op_set h (a := I (am_sp L) (6 * i + 1)) (b := I (am_sp L) (6 * i + 2))
            rw [sm_ck_pos h12, sm_ck_pos (hin 1 (by decide)), sm_ck_pos (hin 2 (by decide)), rd, rd, y1, Option.bind_some]
            dsimp only
            rw [sm_ck_pos h13, sm_ck_pos (hin 1 (by decide)), sm_ck_pos (hin 2 (by decide)), rd, rd, y2, Option.bind_some]
            dsimp only
            rw [if_pos rfl, hJ]
            exact ⟨I, R2, P, nx, sl, rfl, y3, frJ.rfl, Nat.le_refl _, by omega, by omega⟩
          · rw [if_neg q4]
            by_cases q5 : nI c = 5
            · rw [if_pos q5]
              obtain ⟨v, R1, R2, y1, y2, y3⟩ := op_in h (a := I (am_sp L) (6 * i + 1)) (b := I (am_sp L) (6 * i + 2)) (c := I (am_sp L) (6 * i + 3))
              rw [sm_ck_pos h12, sm_ck_pos (hin 1 (by decide)), sm_ck_pos (hin 2 (by decide)), sm_ck_pos (hin 3 (by decide)), rd, rd, rd, y1, Option.bind_some]
              dsimp only
              rw [sm_ck_pos h13, sm_ck_pos (hin 1 (by decide)), sm_ck_pos (hin 2 (by decide)), sm_ck_pos (hin 3 (by decide)), rd, rd, rd, y2, Option.bind_some]
              dsimp only
              rw [if_pos rfl, hJ]
              exact ⟨I, R2, P, nx, sl, rfl, y3, frJ.rfl, Nat.le_refl _, by omega, by omega⟩
            · rw [if_neg q5]
              by_cases q6 : nI c = 6
              · rw [if_pos q6]
                obtain ⟨v, R1, R2, y1, y2, y3⟩ := op_time h (a := I (am_sp L) (6 * i + 1)) (b := I (am_sp L) (6 * i + 2))
                rw [sm_ck_pos h12, sm_ck_pos (hin 1 (by decide)), sm_ck_pos (hin 2 (by decide)), rd, rd, y1, Option.bind_some]
                dsimp only
                rw [sm_ck_pos h13, sm_ck_pos (hin 1 (by decide)), sm_ck_pos (hin 2 (by decide)), rd, rd, y2, Option.bind_some]
                dsimp only
                rw [if_pos rfl, hJ]
                exact ⟨I, R2, P, nx, sl, rfl, y3, frJ.rfl, Nat.le_refl _, by omega, by omega⟩
              · rw [if_neg q6]
                by_cases q7 : nI c = 7
                · rw [if_pos q7]
                  obtain ⟨v, R1, R2, y1, y2, y3⟩ := op_feed h (a := I (am_sp L) (6 * i + 1)) (b := I (am_sp L) (6 * i + 2))
                  rw [sm_ck_pos h12, sm_ck_pos (hin 1 (by decide)), sm_ck_pos (hin 2 (by decide)), rd, rd, y1, Option.bind_some]
                  dsimp only
                  rw [sm_ck_pos h13, sm_ck_pos (hin 1 (by decide)), sm_ck_pos (hin 2 (by decide)), rd, rd, y2, Option.bind_some]
                  dsimp only
                  rw [if_pos rfl, hJ]
                  exact ⟨I, R2, P, nx, sl, rfl, y3, frJ.rfl, Nat.le_refl _, by omega, by omega⟩
                · rw [if_neg q7]
                  by_cases q8 : nI c = 8
                  · rw [if_pos q8]
                    obtain ⟨v, I1, R1, P1, nx1, sl1, R2, y1, y2, y3, y4, y5, y6, y7⟩ := op_text (sl := sl) h (a := I (am_sp L) (6 * i + 1))
                    rw [sm_ck_pos h12, sm_ck_pos (hin 1 (by decide)), rd, y1, Option.bind_some]
                    dsimp only
                    rw [sm_ck_pos h13, sm_ck_pos (hin 1 (by decide)), rd, kp I1 y4, show fM_text P1 (am_pk 330 0 13) (I (am_sp L) (6 * i + 1)) (put I1 R1) = _ from y2, Option.bind_some]
                    dsimp only
                    rw [if_pos rfl, hJ]
                    exact ⟨I1, R2, P1, nx1, sl1, rfl, y3, y4, y5, y6, y7⟩
                  · rw [if_neg q8]
                    by_cases q9 : nI c = 9
                    · rw [if_pos q9]
                      obtain ⟨v, R1, R2, y1, y2, y3⟩ := op_wipe h 
                      rw [sm_ck_pos h12, y1, Option.bind_some]
                      dsimp only
                      rw [sm_ck_pos h13, y2, Option.bind_some]
                      dsimp only
                      rw [if_pos rfl, hJ]
                      exact ⟨I, R2, P, nx, sl, rfl, y3, frJ.rfl, Nat.le_refl _, by omega, by omega⟩
                    · rw [if_neg q9]
                      by_cases q10 : nI c = 10
                      · rw [if_pos q10]
                        obtain ⟨v, I1, R1, P1, nx1, sl1, R2, y1, y2, y3, y4, y5, y6, y7⟩ := op_would (sl := sl) h (a := I (am_sp L) (6 * i + 1)) (b := I (am_sp L) (6 * i + 2)) (c := I (am_sp L) (6 * i + 3)) (d := I (am_sp L) (6 * i + 4)) (e := I (am_sp L) (6 * i + 5))
                        rw [sm_ck_pos h12, sm_ck_pos (hin 1 (by decide)), sm_ck_pos (hin 2 (by decide)), sm_ck_pos (hin 3 (by decide)), sm_ck_pos (hin 4 (by decide)), sm_ck_pos (hin 5 (by decide)), rd, rd, rd, rd, rd, y1, Option.bind_some]
                        dsimp only
                        rw [sm_ck_pos h13, sm_ck_pos (hin 1 (by decide)), sm_ck_pos (hin 2 (by decide)), sm_ck_pos (hin 3 (by decide)), sm_ck_pos (hin 4 (by decide)), sm_ck_pos (hin 5 (by decide)), rd, rd, rd, rd, rd, kp I1 y4, show fM_would P1 (am_pk 330 0 13) (I (am_sp L) (6 * i + 1)) (I (am_sp L) (6 * i + 2)) (I (am_sp L) (6 * i + 3)) (I (am_sp L) (6 * i + 4)) (I (am_sp L) (6 * i + 5)) (put I1 R1) = _ from y2, Option.bind_some]
                        dsimp only
                        rw [if_pos rfl, hJ]
                        exact ⟨I1, R2, P1, nx1, sl1, rfl, y3, y4, y5, y6, y7⟩
                      · rw [if_neg q10]
                        by_cases q11 : nI c = 11
                        · rw [if_pos q11]
                          obtain ⟨v, R1, R2, y1, y2, y3⟩ := op_seam h (a := I (am_sp L) (6 * i + 1)) (b := I (am_sp L) (6 * i + 2))
                          rw [sm_ck_pos h12, sm_ck_pos (hin 1 (by decide)), sm_ck_pos (hin 2 (by decide)), rd, rd, y1, Option.bind_some]
                          dsimp only
                          rw [sm_ck_pos h13, sm_ck_pos (hin 1 (by decide)), sm_ck_pos (hin 2 (by decide)), rd, rd, y2, Option.bind_some]
                          dsimp only
                          rw [if_pos rfl, hJ]
                          exact ⟨I, R2, P, nx, sl, rfl, y3, frJ.rfl, Nat.le_refl _, by omega, by omega⟩
                        · rw [if_neg q11]
                          by_cases q12 : nI c = 12
                          · rw [if_pos q12]
                            obtain ⟨v, R1, R2, y1, y2, y3⟩ := op_seamIs h (a := I (am_sp L) (6 * i + 1)) (b := I (am_sp L) (6 * i + 2))
                            rw [sm_ck_pos h12, sm_ck_pos (hin 1 (by decide)), sm_ck_pos (hin 2 (by decide)), rd, rd, y1, Option.bind_some]
                            dsimp only
                            rw [sm_ck_pos h13, sm_ck_pos (hin 1 (by decide)), sm_ck_pos (hin 2 (by decide)), rd, rd, y2, Option.bind_some]
                            dsimp only
                            rw [if_pos rfl, hJ]
                            exact ⟨I, R2, P, nx, sl, rfl, y3, frJ.rfl, Nat.le_refl _, by omega, by omega⟩
                          · rw [if_neg q12]
                            by_cases q13 : nI c = 13
                            · rw [if_pos q13]
                              obtain ⟨v, R1, R2, y1, y2, y3⟩ := op_say h (a := I (am_sp L) (6 * i + 1)) (b := I (am_sp L) (6 * i + 2)) (c := I (am_sp L) (6 * i + 3))
                              rw [sm_ck_pos h12, sm_ck_pos (hin 1 (by decide)), sm_ck_pos (hin 2 (by decide)), sm_ck_pos (hin 3 (by decide)), rd, rd, rd, y1, Option.bind_some]
                              dsimp only
                              rw [sm_ck_pos h13, sm_ck_pos (hin 1 (by decide)), sm_ck_pos (hin 2 (by decide)), sm_ck_pos (hin 3 (by decide)), rd, rd, rd, y2, Option.bind_some]
                              dsimp only
                              rw [if_pos rfl, hJ]
                              exact ⟨I, R2, P, nx, sl, rfl, y3, frJ.rfl, Nat.le_refl _, by omega, by omega⟩
                            · rw [if_neg q13]
                              by_cases q14 : nI c = 14
                              · rw [if_pos q14]
                                obtain ⟨v, R1, R2, y1, y2, y3⟩ := op_guess h (a := I (am_sp L) (6 * i + 1))
                                rw [sm_ck_pos h12, sm_ck_pos (hin 1 (by decide)), rd, y1, Option.bind_some]
                                dsimp only
                                rw [sm_ck_pos h13, sm_ck_pos (hin 1 (by decide)), rd, y2, Option.bind_some]
                                dsimp only
                                rw [if_pos rfl, hJ]
                                exact ⟨I, R2, P, nx, sl, rfl, y3, frJ.rfl, Nat.le_refl _, by omega, by omega⟩
                              · rw [if_neg q14]
                                by_cases q15 : nI c = 15
                                · rw [if_pos q15]
                                  obtain ⟨v, R1, R2, y1, y2, y3⟩ := op_guessed h (a := I (am_sp L) (6 * i + 1))
                                  rw [sm_ck_pos h12, sm_ck_pos (hin 1 (by decide)), rd, y1, Option.bind_some]
                                  dsimp only
                                  rw [sm_ck_pos h13, sm_ck_pos (hin 1 (by decide)), rd, y2, Option.bind_some]
                                  dsimp only
                                  rw [if_pos rfl, hJ]
                                  exact ⟨I, R2, P, nx, sl, rfl, y3, frJ.rfl, Nat.le_refl _, by omega, by omega⟩
                                · rw [if_neg q15]
                                  by_cases q16 : nI c = 16
                                  · rw [if_pos q16]
                                    obtain ⟨v, R1, R2, y1, y2, y3⟩ := op_hangs h (a := I (am_sp L) (6 * i + 1))
                                    rw [sm_ck_pos h12, sm_ck_pos (hin 1 (by decide)), rd, y1, Option.bind_some]
                                    dsimp only
                                    rw [sm_ck_pos h13, sm_ck_pos (hin 1 (by decide)), rd, y2, Option.bind_some]
                                    dsimp only
                                    rw [if_pos rfl, hJ]
                                    exact ⟨I, R2, P, nx, sl, rfl, y3, frJ.rfl, Nat.le_refl _, by omega, by omega⟩
                                  · rw [if_neg q16]
                                    by_cases q17 : nI c = 17
                                    · rw [if_pos q17]
                                      obtain ⟨v, R1, R2, y1, y2, y3⟩ := op_ring h (a := I (am_sp L) (6 * i + 1))
                                      rw [sm_ck_pos h12, sm_ck_pos (hin 1 (by decide)), rd, y1, Option.bind_some]
                                      dsimp only
                                      rw [sm_ck_pos h13, sm_ck_pos (hin 1 (by decide)), rd, y2, Option.bind_some]
                                      dsimp only
                                      rw [if_pos rfl, hJ]
                                      exact ⟨I, R2, P, nx, sl, rfl, y3, frJ.rfl, Nat.le_refl _, by omega, by omega⟩
                                    · rw [if_neg q17]
                                      by_cases q18 : nI c = 18
                                      · rw [if_pos q18]
                                        obtain ⟨v, I1, R1, P1, nx1, sl1, R2, y1, y2, y3, y4, y5, y6, y7⟩ := op_answers (sl := sl) h (a := I (am_sp L) (6 * i + 1))
                                        rw [sm_ck_pos h12, sm_ck_pos (hin 1 (by decide)), rd, y1, Option.bind_some]
                                        dsimp only
                                        rw [sm_ck_pos h13, sm_ck_pos (hin 1 (by decide)), rd, kp I1 y4, show fM_answers P1 (am_pk 330 0 13) (I (am_sp L) (6 * i + 1)) (put I1 R1) = _ from y2, Option.bind_some]
                                        dsimp only
                                        rw [if_pos rfl, hJ]
                                        exact ⟨I1, R2, P1, nx1, sl1, rfl, y3, y4, y5, y6, y7⟩
                                      · rw [if_neg q18]
                                        by_cases q19 : nI c = 19
                                        · rw [if_pos q19]
                                          obtain ⟨v, I1, R1, P1, nx1, sl1, R2, y1, y2, y3, y4, y5, y6, y7⟩ := op_solve (sl := sl) h (a := I (am_sp L) (6 * i + 1)) (b := I (am_sp L) (6 * i + 2))
                                          rw [sm_ck_pos h12, sm_ck_pos (hin 1 (by decide)), sm_ck_pos (hin 2 (by decide)), rd, rd, y1, Option.bind_some]
                                          dsimp only
                                          rw [sm_ck_pos h13, sm_ck_pos (hin 1 (by decide)), sm_ck_pos (hin 2 (by decide)), rd, rd, kp I1 y4, show fM_solve P1 (am_pk 330 0 13) (I (am_sp L) (6 * i + 1)) (I (am_sp L) (6 * i + 2)) (put I1 R1) = _ from y2, Option.bind_some]
                                          dsimp only
                                          rw [if_pos rfl, hJ]
                                          exact ⟨I1, R2, P1, nx1, sl1, rfl, y3, y4, y5, y6, y7⟩
                                        · rw [if_neg q19]
                                          by_cases q20 : nI c = 20
                                          · rw [if_pos q20]
                                            obtain ⟨v, R1, R2, y1, y2, y3⟩ := op_order h (a := I (am_sp L) (6 * i + 1))
                                            rw [sm_ck_pos h12, sm_ck_pos (hin 1 (by decide)), rd, y1, Option.bind_some]
                                            dsimp only
                                            rw [sm_ck_pos h13, sm_ck_pos (hin 1 (by decide)), rd, y2, Option.bind_some]
                                            dsimp only
                                            rw [if_pos rfl, hJ]
                                            exact ⟨I, R2, P, nx, sl, rfl, y3, frJ.rfl, Nat.le_refl _, by omega, by omega⟩
                                          · rw [if_neg q20]
                                            by_cases q21 : nI c = 21
                                            · rw [if_pos q21]
                                              obtain ⟨v, R1, R2, y1, y2, y3⟩ := op_at h (a := I (am_sp L) (6 * i + 1))
                                              rw [sm_ck_pos h12, sm_ck_pos (hin 1 (by decide)), rd, y1, Option.bind_some]
                                              dsimp only
                                              rw [sm_ck_pos h13, sm_ck_pos (hin 1 (by decide)), rd, y2, Option.bind_some]
                                              dsimp only
                                              rw [if_pos rfl, hJ]
                                              exact ⟨I, R2, P, nx, sl, rfl, y3, frJ.rfl, Nat.le_refl _, by omega, by omega⟩
                                            · rw [if_neg q21]
                                              by_cases q22 : nI c = 22
                                              · rw [if_pos q22]
                                                obtain ⟨v, I1, R1, P1, nx1, sl1, I2, R2, nx2, sl2, y1, y2, y3, ⟨y0, y4⟩, y5, y6, y7⟩ := op_step (sl := sl) h (a := I (am_sp L) (6 * i + 1))
                                                rw [sm_ck_pos h12, sm_ck_pos (hin 1 (by decide)), rd, y1, Option.bind_some]
                                                dsimp only
                                                have ek : I1 (am_sp L) = I (am_sp L) := kp I1 y0
                                                rw [sm_ck_pos h13, sm_ck_pos (hin 1 (by decide)), rd, ek, y2, Option.bind_some]
                                                dsimp only
                                                rw [if_pos rfl, hJ]
                                                exact ⟨I2, R2, P1, nx2, sl2, rfl, y3, y4, y5, y6, y7⟩
                                              · rw [if_neg q22]
                                                by_cases q23 : nI c = 23
                                                · rw [if_pos q23]
                                                  obtain ⟨v, I1, R1, P1, nx1, sl1, R2, y1, y2, y3, y4, y5, y6, y7⟩ := op_back (sl := sl) h (a := I (am_sp L) (6 * i + 1))
                                                  rw [sm_ck_pos h12, sm_ck_pos (hin 1 (by decide)), rd, y1, Option.bind_some]
                                                  dsimp only
                                                  rw [sm_ck_pos h13, sm_ck_pos (hin 1 (by decide)), rd, kp I1 y4, show fM_back P1 (am_pk 330 0 13) (I (am_sp L) (6 * i + 1)) (put I1 R1) = _ from y2, Option.bind_some]
                                                  dsimp only
                                                  rw [if_pos rfl, hJ]
                                                  exact ⟨I1, R2, P1, nx1, sl1, rfl, y3, y4, y5, y6, y7⟩
                                                · rw [if_neg q23]
                                                  by_cases q24 : nI c = 24
                                                  · rw [if_pos q24]
                                                    obtain ⟨v, R1, R2, y1, y2, y3⟩ := op_event h (a := I (am_sp L) (6 * i + 1)) (b := I (am_sp L) (6 * i + 2)) (c := I (am_sp L) (6 * i + 3))
                                                    rw [sm_ck_pos h12, sm_ck_pos (hin 1 (by decide)), sm_ck_pos (hin 2 (by decide)), sm_ck_pos (hin 3 (by decide)), rd, rd, rd, y1, Option.bind_some]
                                                    dsimp only
                                                    rw [sm_ck_pos h13, sm_ck_pos (hin 1 (by decide)), sm_ck_pos (hin 2 (by decide)), sm_ck_pos (hin 3 (by decide)), rd, rd, rd, y2, Option.bind_some]
                                                    dsimp only
                                                    rw [if_pos rfl, hJ]
                                                    exact ⟨I, R2, P, nx, sl, rfl, y3, frJ.rfl, Nat.le_refl _, by omega, by omega⟩
                                                  · rw [if_neg q24]
                                                    by_cases q25 : nI c = 25
                                                    · rw [if_pos q25]
                                                      obtain ⟨v, R1, R2, y1, y2, y3⟩ := op_next h 
                                                      rw [sm_ck_pos h12, y1, Option.bind_some]
                                                      dsimp only
                                                      rw [sm_ck_pos h13, y2, Option.bind_some]
                                                      dsimp only
                                                      rw [if_pos rfl, hJ]
                                                      exact ⟨I, R2, P, nx, sl, rfl, y3, frJ.rfl, Nat.le_refl _, by omega, by omega⟩
                                                    · rw [if_neg q25]
                                                      by_cases q26 : nI c = 26
                                                      · rw [if_pos q26]
                                                        obtain ⟨v, R1, R2, y1, y2, y3⟩ := op_left h (a := I (am_sp L) (6 * i + 1))
                                                        rw [sm_ck_pos h12, sm_ck_pos (hin 1 (by decide)), rd, y1, Option.bind_some]
                                                        dsimp only
                                                        rw [sm_ck_pos h13, sm_ck_pos (hin 1 (by decide)), rd, y2, Option.bind_some]
                                                        dsimp only
                                                        rw [if_pos rfl, hJ]
                                                        exact ⟨I, R2, P, nx, sl, rfl, y3, frJ.rfl, Nat.le_refl _, by omega, by omega⟩
                                                      · rw [if_neg q26]
                                                        by_cases q27 : nI c = 27
                                                        · rw [if_pos q27]
                                                          obtain ⟨v, I1, R1, P1, nx1, sl1, I2, R2, nx2, sl2, y1, y2, y3, ⟨y0, y4⟩, y5, y6, y7⟩ := op_off (sl := sl) h 
                                                          rw [sm_ck_pos h12, y1, Option.bind_some]
                                                          dsimp only
                                                          rw [sm_ck_pos h13, y2, Option.bind_some]
                                                          dsimp only
                                                          rw [if_pos rfl, hJ]
                                                          exact ⟨I2, R2, P1, nx2, sl2, rfl, y3, y4, y5, y6, y7⟩
                                                        · rw [if_neg q27]
                                                          by_cases q28 : nI c = 28
                                                          · rw [if_pos q28]
                                                            obtain ⟨v, I1, R1, P1, nx1, sl1, I2, R2, nx2, sl2, y1, y2, y3, ⟨y0, y4⟩, y5, y6, y7⟩ := op_best (sl := sl) h (a := I (am_sp L) (6 * i + 1))
                                                            rw [sm_ck_pos h12, sm_ck_pos (hin 1 (by decide)), rd, y1, Option.bind_some]
                                                            dsimp only
                                                            have ek : I1 (am_sp L) = I (am_sp L) := kp I1 y0
                                                            rw [sm_ck_pos h13, sm_ck_pos (hin 1 (by decide)), rd, ek, y2, Option.bind_some]
                                                            dsimp only
                                                            rw [if_pos rfl, hJ]
                                                            exact ⟨I2, R2, P1, nx2, sl2, rfl, y3, y4, y5, y6, y7⟩
                                                          · rw [if_neg q28]
                                                            by_cases q29 : nI c = 29
                                                            · rw [if_pos q29]
                                                              obtain ⟨v, R1, R2, y1, y2, y3⟩ := op_end h (a := I (am_sp L) (6 * i + 1)) (b := I (am_sp L) (6 * i + 2))
                                                              rw [sm_ck_pos h12, sm_ck_pos (hin 1 (by decide)), sm_ck_pos (hin 2 (by decide)), rd, rd, y1, Option.bind_some]
                                                              dsimp only
                                                              rw [sm_ck_pos h13, sm_ck_pos (hin 1 (by decide)), sm_ck_pos (hin 2 (by decide)), rd, rd, y2, Option.bind_some]
                                                              dsimp only
                                                              rw [if_pos rfl, hJ]
                                                              exact ⟨I, R2, P, nx, sl, rfl, y3, frJ.rfl, Nat.le_refl _, by omega, by omega⟩
                                                            · rw [if_neg q29]
                                                              by_cases q30 : nI c = 30
                                                              · rw [if_pos q30]
                                                                obtain ⟨v, R1, R2, y1, y2, y3⟩ := op_lay h (a := I (am_sp L) (6 * i + 1)) (b := I (am_sp L) (6 * i + 2))
                                                                rw [sm_ck_pos h12, sm_ck_pos (hin 1 (by decide)), sm_ck_pos (hin 2 (by decide)), rd, rd, y1, Option.bind_some]
                                                                dsimp only
                                                                rw [sm_ck_pos h13, sm_ck_pos (hin 1 (by decide)), sm_ck_pos (hin 2 (by decide)), rd, rd, y2, Option.bind_some]
                                                                dsimp only
                                                                rw [if_pos rfl, hJ]
                                                                exact ⟨I, R2, P, nx, sl, rfl, y3, frJ.rfl, Nat.le_refl _, by omega, by omega⟩
                                                              · rw [if_neg q30]
                                                                by_cases q31 : nI c = 31
                                                                · rw [if_pos q31]
                                                                  obtain ⟨v, I1, R1, P1, nx1, sl1, I2, R2, nx2, sl2, y1, y2, y3, ⟨y0, y4⟩, y5, y6, y7⟩ := op_change (sl := sl) h (a := I (am_sp L) (6 * i + 1)) (b := I (am_sp L) (6 * i + 2))
                                                                  rw [sm_ck_pos h12, sm_ck_pos (hin 1 (by decide)), sm_ck_pos (hin 2 (by decide)), rd, rd, y1, Option.bind_some]
                                                                  dsimp only
                                                                  have ek : I1 (am_sp L) = I (am_sp L) := kp I1 y0
                                                                  rw [sm_ck_pos h13, sm_ck_pos (hin 1 (by decide)), sm_ck_pos (hin 2 (by decide)), rd, rd, ek, y2, Option.bind_some]
                                                                  dsimp only
                                                                  rw [if_pos rfl, hJ]
                                                                  exact ⟨I2, R2, P1, nx2, sl2, rfl, y3, y4, y5, y6, y7⟩
                                                                · rw [if_neg q31]
                                                                  by_cases q32 : nI c = 32
                                                                  · rw [if_pos q32]
                                                                    obtain ⟨v, I1, R1, P1, nx1, sl1, I2, R2, nx2, sl2, y1, y2, y3, ⟨y0, y4⟩, y5, y6, y7⟩ := op_drift (sl := sl) h (a := I (am_sp L) (6 * i + 1)) (b := I (am_sp L) (6 * i + 2))
                                                                    rw [sm_ck_pos h12, sm_ck_pos (hin 1 (by decide)), sm_ck_pos (hin 2 (by decide)), rd, rd, y1, Option.bind_some]
                                                                    dsimp only
                                                                    have ek : I1 (am_sp L) = I (am_sp L) := kp I1 y0
                                                                    rw [sm_ck_pos h13, sm_ck_pos (hin 1 (by decide)), sm_ck_pos (hin 2 (by decide)), rd, rd, ek, y2, Option.bind_some]
                                                                    dsimp only
                                                                    rw [if_pos rfl, hJ]
                                                                    exact ⟨I2, R2, P1, nx2, sl2, rfl, y3, y4, y5, y6, y7⟩
                                                                  · rw [if_neg q32]
                                                                    by_cases q33 : nI c = 33
                                                                    · rw [if_pos q33]
                                                                      obtain ⟨v, I1, R1, P1, nx1, sl1, I2, R2, nx2, sl2, y1, y2, y3, ⟨y0, y4⟩, y5, y6, y7⟩ := op_judge (sl := sl) h (a := I (am_sp L) (6 * i + 1)) (b := I (am_sp L) (6 * i + 2))
                                                                      rw [sm_ck_pos h12, sm_ck_pos (hin 1 (by decide)), sm_ck_pos (hin 2 (by decide)), rd, rd, y1, Option.bind_some]
                                                                      dsimp only
                                                                      have ek : I1 (am_sp L) = I (am_sp L) := kp I1 y0
                                                                      rw [sm_ck_pos h13, sm_ck_pos (hin 1 (by decide)), sm_ck_pos (hin 2 (by decide)), rd, rd, ek, y2, Option.bind_some]
                                                                      dsimp only
                                                                      rw [if_pos rfl, hJ]
                                                                      exact ⟨I2, R2, P1, nx2, sl2, rfl, y3, y4, y5, y6, y7⟩
                                                                    · rw [if_neg q33]
                                                                      by_cases q34 : nI c = 34
                                                                      · rw [if_pos q34]
                                                                        obtain ⟨v, I1, R1, P1, nx1, sl1, I2, R2, nx2, sl2, y1, y2, y3, ⟨y0, y4⟩, y5, y6, y7⟩ := op_beside (sl := sl) h (a := I (am_sp L) (6 * i + 1)) (b := I (am_sp L) (6 * i + 2))
                                                                        rw [sm_ck_pos h12, sm_ck_pos (hin 1 (by decide)), sm_ck_pos (hin 2 (by decide)), rd, rd, y1, Option.bind_some]
                                                                        dsimp only
                                                                        have ek : I1 (am_sp L) = I (am_sp L) := kp I1 y0
                                                                        rw [sm_ck_pos h13, sm_ck_pos (hin 1 (by decide)), sm_ck_pos (hin 2 (by decide)), rd, rd, ek, y2, Option.bind_some]
                                                                        dsimp only
                                                                        rw [if_pos rfl, hJ]
                                                                        exact ⟨I2, R2, P1, nx2, sl2, rfl, y3, y4, y5, y6, y7⟩
                                                                      · rw [if_neg q34]
                                                                        by_cases q35 : nI c = 35
                                                                        · rw [if_pos q35]
                                                                          obtain ⟨v, R1, R2, y1, y2, y3⟩ := op_sheet h (a := I (am_sp L) (6 * i + 1)) (b := I (am_sp L) (6 * i + 2)) (c := I (am_sp L) (6 * i + 3))
                                                                          rw [sm_ck_pos h12, sm_ck_pos (hin 1 (by decide)), sm_ck_pos (hin 2 (by decide)), sm_ck_pos (hin 3 (by decide)), rd, rd, rd, y1, Option.bind_some]
                                                                          dsimp only
                                                                          rw [sm_ck_pos h13, sm_ck_pos (hin 1 (by decide)), sm_ck_pos (hin 2 (by decide)), sm_ck_pos (hin 3 (by decide)), rd, rd, rd, y2, Option.bind_some]
                                                                          dsimp only
                                                                          rw [if_pos rfl, hJ]
                                                                          exact ⟨I, R2, P, nx, sl, rfl, y3, frJ.rfl, Nat.le_refl _, by omega, by omega⟩
                                                                        · rw [if_neg q35]
                                                                          by_cases q36 : nI c = 36
                                                                          · rw [if_pos q36]
                                                                            obtain ⟨v, R1, R2, y1, y2, y3⟩ := op_write h (a := I (am_sp L) (6 * i + 1)) (b := I (am_sp L) (6 * i + 2)) (c := I (am_sp L) (6 * i + 3))
                                                                            rw [sm_ck_pos h12, sm_ck_pos (hin 1 (by decide)), sm_ck_pos (hin 2 (by decide)), sm_ck_pos (hin 3 (by decide)), rd, rd, rd, y1, Option.bind_some]
                                                                            dsimp only
                                                                            rw [sm_ck_pos h13, sm_ck_pos (hin 1 (by decide)), sm_ck_pos (hin 2 (by decide)), sm_ck_pos (hin 3 (by decide)), rd, rd, rd, y2, Option.bind_some]
                                                                            dsimp only
                                                                            rw [if_pos rfl, hJ]
                                                                            exact ⟨I, R2, P, nx, sl, rfl, y3, frJ.rfl, Nat.le_refl _, by omega, by omega⟩
                                                                          · rw [if_neg q36]
                                                                            by_cases q37 : nI c = 37
                                                                            · rw [if_pos q37]
                                                                              obtain ⟨v, R1, R2, y1, y2, y3⟩ := op_copy h (a := I (am_sp L) (6 * i + 1)) (b := I (am_sp L) (6 * i + 2)) (c := I (am_sp L) (6 * i + 3)) (d := I (am_sp L) (6 * i + 4)) (n := I (am_sp L) (6 * i + 5))
                                                                              rw [sm_ck_pos h12, sm_ck_pos (hin 1 (by decide)), sm_ck_pos (hin 2 (by decide)), sm_ck_pos (hin 3 (by decide)), sm_ck_pos (hin 4 (by decide)), sm_ck_pos (hin 5 (by decide)), rd, rd, rd, rd, rd, y1, Option.bind_some]
                                                                              dsimp only
                                                                              rw [sm_ck_pos h13, sm_ck_pos (hin 1 (by decide)), sm_ck_pos (hin 2 (by decide)), sm_ck_pos (hin 3 (by decide)), sm_ck_pos (hin 4 (by decide)), sm_ck_pos (hin 5 (by decide)), rd, rd, rd, rd, rd, y2, Option.bind_some]
                                                                              dsimp only
                                                                              rw [if_pos rfl, hJ]
                                                                              exact ⟨I, R2, P, nx, sl, rfl, y3, frJ.rfl, Nat.le_refl _, by omega, by omega⟩
                                                                            · rw [if_neg q37]
                                                                              by_cases q38 : nI c = 38
                                                                              · rw [if_pos q38]
                                                                                obtain ⟨v, I1, R1, P1, nx1, sl1, R2, y1, y2, y3, y4, y5, y6, y7⟩ := op_image (sl := sl) h 
                                                                                rw [sm_ck_pos h12, y1, Option.bind_some]
                                                                                dsimp only
                                                                                rw [sm_ck_pos h13, show fM_image P1 (am_pk 330 0 13) (put I1 R1) = _ from y2, Option.bind_some]
                                                                                dsimp only
                                                                                rw [if_pos rfl, hJ]
                                                                                exact ⟨I1, R2, P1, nx1, sl1, rfl, y3, y4, y5, y6, y7⟩
                                                                              · rw [if_neg q38]
                                                                                by_cases q39 : nI c = 39
                                                                                · rw [if_pos q39]
                                                                                  obtain ⟨v, I1, R1, P1, nx1, sl1, R2, y1, y2, y3, y4, y5, y6, y7⟩ := op_undo (sl := sl) h 
                                                                                  rw [sm_ck_pos h12, y1, Option.bind_some]
                                                                                  dsimp only
                                                                                  rw [sm_ck_pos h13, show fM_undo P1 (am_pk 330 0 13) (put I1 R1) = _ from y2, Option.bind_some]
                                                                                  dsimp only
                                                                                  rw [if_pos rfl, hJ]
                                                                                  exact ⟨I1, R2, P1, nx1, sl1, rfl, y3, y4, y5, y6, y7⟩
                                                                                · rw [if_neg q39]
                                                                                  by_cases q40 : nI c = 40
                                                                                  · rw [if_pos q40]
                                                                                    obtain ⟨v, R1, R2, y1, y2, y3⟩ := op_tear h 
                                                                                    rw [sm_ck_pos h12, y1, Option.bind_some]
                                                                                    dsimp only
                                                                                    rw [sm_ck_pos h13, y2, Option.bind_some]
                                                                                    dsimp only
                                                                                    rw [if_pos rfl, hJ]
                                                                                    exact ⟨I, R2, P, nx, sl, rfl, y3, frJ.rfl, Nat.le_refl _, by omega, by omega⟩
                                                                                  · rw [if_neg q40]
                                                                                    by_cases q41 : nI c = 41
                                                                                    · rw [if_pos q41]
                                                                                      obtain ⟨v, R1, R2, y1, y2, y3⟩ := op_count h (a := I (am_sp L) (6 * i + 1))
                                                                                      rw [sm_ck_pos h12, sm_ck_pos (hin 1 (by decide)), rd, y1, Option.bind_some]
                                                                                      dsimp only
                                                                                      rw [sm_ck_pos h13, sm_ck_pos (hin 1 (by decide)), rd, y2, Option.bind_some]
                                                                                      dsimp only
                                                                                      rw [if_pos rfl, hJ]
                                                                                      exact ⟨I, R2, P, nx, sl, rfl, y3, frJ.rfl, Nat.le_refl _, by omega, by omega⟩
                                                                                    · rw [if_neg q41]
                                                                                      by_cases q42 : nI c = 42
                                                                                      · rw [if_pos q42]
                                                                                        obtain ⟨v, R1, R2, y1, y2, y3⟩ := op_status h (a := I (am_sp L) (6 * i + 1))
                                                                                        rw [sm_ck_pos h12, sm_ck_pos (hin 1 (by decide)), rd, y1, Option.bind_some]
                                                                                        dsimp only
                                                                                        rw [sm_ck_pos h13, sm_ck_pos (hin 1 (by decide)), rd, y2, Option.bind_some]
                                                                                        dsimp only
                                                                                        rw [if_pos rfl, hJ]
                                                                                        exact ⟨I, R2, P, nx, sl, rfl, y3, frJ.rfl, Nat.le_refl _, by omega, by omega⟩
                                                                                      · rw [if_neg q42]
                                                                                        rw [hJ]
                                                                                        exact ⟨I, R, P, nx, sl, rfl, ⟨w, t, m, nb, ns, ne, h⟩, frJ.rfl, Nat.le_refl _, by omega, by omega⟩
end Law
