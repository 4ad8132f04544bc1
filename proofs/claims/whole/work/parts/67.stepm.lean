/-! ===== the reference's step; the call step ===== -/
theorem l_1500 : (1500 : Int32) = nI 1500 := rfl
theorem l_7500 : (7500 : Int32) = nI 7500 := rfl
def frT (R R' : am_M) : Prop := (∀ c, c ≠ 330 → c ≠ 357 → c ≠ 358 → (c < 332 ∨ 357 ≤ c) → R' c = R c) ∧ (∀ k, k ≠ 27 → k ≠ 28 → k ≠ 50 → R' 330 k = R 330 k) ∧ ∀ j, 9000 ≤ j → R' 357 j = R 357 j
theorem frT.rfl {R : am_M} : frT R R := ⟨fun _ _ _ _ _ => _root_.rfl, fun _ _ _ _ => _root_.rfl, fun _ _ => _root_.rfl⟩
theorem frT.tr {R R' R'' : am_M} (h : frT R R') (h2 : frT R' R'') : frT R R'' := ⟨fun c a1 a2 a3 a4 => (h2.1 c a1 a2 a3 a4).trans (h.1 c a1 a2 a3 a4), fun k a1 a2 a3 => (h2.2.1 k a1 a2 a3).trans (h.2.1 k a1 a2 a3), fun j hj => (h2.2.2 j hj).trans (h.2.2 j hj)⟩
section StepM
variable {P : am_Q} {w : am_M} {t : Nat → Nat → List Nat} {m nb ns ne : Nat}
theorem m_shiftL (hS : SP P) {I : am_M} {nx sl : Nat} {l1 l2 : Int32} {ex : Nat → Int32 → Int32 → am_M → am_Q → Nat → Nat → Option (Int32 × am_S)} : ∀ (d k fu : Nat) (R : am_M), d < fu → k + d = 7500 → fM_step_L56 ex fu (am_pk 330 0 13) l1 l2 (nI k) (put I R) P nx sl = ex (am_pk 330 0 13) l1 l2 (put I (am_set R 357 (fun j => if k ≤ j ∧ j < 7500 then R 357 (j + 1500) else R 357 j))) P nx sl
  | 0, k, fu, R, h1, h2 => by
    obtain ⟨fu, rfl⟩ : ∃ n', fu = n' + 1 := ⟨fu - 1, by omega⟩
    show fM_step_B56 _ _ _ _ _ _ _ _ _ _ = _
    unfold fM_step_B56
    rw [if_pos (by rw [l_7500, nI_leI (by omega) (by omega)]; omega)]
    have e : am_set R 357 (fun j => if k ≤ j ∧ j < 7500 then R 357 (j + 1500) else R 357 j) = R := by
      funext x i
      unfold am_set
      dsimp only
      split
      · rename_i z; subst z; rw [if_neg (by omega)]
      · rfl
    rw [e]
  | d + 1, k, fu, R, h1, h2 => by
    obtain ⟨fu, rfl⟩ : ∃ n', fu = n' + 1 := ⟨fu - 1, by omega⟩
    show fM_step_B56 _ _ _ _ _ _ _ _ _ _ = _
    unfold fM_step_B56
    rw [if_neg (by rw [l_7500, nI_leI (by omega) (by omega)]; omega), sm_ck_pos (am_t_pk (by decide)), sp_330_26 hS, l_1500, nI_add, nI_clamp (show k < 2 ^ 31 by omega), nI_clamp (show k + 1500 < 2 ^ 31 by omega), sm_ck_pos (sm_in_nI (by decide) (by omega)), sm_ck_pos (sm_iw_nI (by decide) (by decide) (by omega)), bd_eq, bd_eq, put_rd sc_357, put_up sc_357, nI_1, m_shiftL hS d (k + 1) fu _ (by omega) (by omega)]
    congr 2
    funext x i
    unfold am_set am_up
    dsimp only
    by_cases e : x = 357
    · rw [if_pos e, if_pos e]
      by_cases e2 : k + 1 ≤ i ∧ i < 7500
      · rw [if_pos e2, if_neg (fun z => by omega), if_pos (by omega)]
      · rw [if_neg e2]
        by_cases e3 : i = k
        · rw [if_pos ⟨rfl, e3⟩, if_pos (by omega), e3]
        · rw [if_neg (fun z => e3 z.2), if_neg (by omega)]
    · rw [if_neg e, if_neg e, if_neg (fun z => e z.1)]
/-- saving at the next place, and an hour -/
theorem m_J95 (hS : SP P) {I R : am_M} {nx sl n i k0 : Nat} {q : Nat × (Nat → WV)} {ws : Nat × (Nat → WV)} (hn379 : 379 ≤ nx) (h : MW R w t m nb ns ne) (hq : q.1 < 6) (h28 : R 330 28 = nI q.1) (hE : ∀ j, j < q.1 → MWv (PK R j) (q.2 j)) (hk : k0 < 2000) (e0 : w 0 1 = nI k0) {r : Nat → Int32 → Int32 → am_M → am_Q → Nat → Nat → Option (Int32 × am_S)} : ∃ I' R', fM_step_J95 r (am_pk 330 0 13) (nI n) (nI i) (put I R) P nx sl = r (am_pk 330 0 13) (nI n) (nI (i + 1)) (put I' R') P (nx + nb) (sl + 2 * nb) ∧ MW R' (hourF w t m nb ns ne) t m nb ns ne ∧ HM R' (q.1 + 1, fun j => if j = q.1 then (w, t, m, nb, ns, ne) else q.2 j) ∧ frT R R' ∧ frI I I' := by
  obtain ⟨R1, q1, k1, k2, k3, k4, k5⟩ := m_save (I := I) (pl := q.1) hS h (by omega)
  have h1 : MW (am_up R1 330 28 (nI (q.1 + 1))) w t m nb ns ne := k2.fr (fun c h1 h2 => by funext j; rw [am_up_ne (by omega)])
  obtain ⟨I2, R2, q2, l1, l2, l3, l4⟩ := m_hour (I := I) (nx := nx) (sl := sl) hS h1 hn379 hk e0
  have r28 : R1 330 28 = nI q.1 := by rw [k4 28 (by decide)]; exact h28
  have r357 : ∀ j, (j < 1500 * q.1 ∨ 1500 * q.1 + 1500 ≤ j) → R2 357 j = R 357 j := fun j hj => by rw [l3.1 357 (by decide) (by decide) (by decide), am_up_ne (by decide), k5 j hj]
  refine ⟨I2, R2, ?_, l1, ⟨by show q.1 + 1 ≤ 6; omega, ?_, fun j hj => ?_⟩, ⟨fun c a1 a2 a3 a4 => ?_, fun k a1 a2 a3 => ?_, fun j hj => r357 j (by omega)⟩, l4⟩
  · unfold fM_step_J95
    rw [sm_ck_pos (am_t_pk (by decide)), put_rd sc_330, h28, q1, Option.bind_some, bd_eq, put_rd sc_330, r28, nI_1, put_up sc_330, q2, Option.bind_some, bd_eq, nI_1]
  · rw [l3.2 28 (by decide), am_up_eq]
  · have hj : j < q.1 + 1 := hj
    show MWv _ (if j = q.1 then (w, t, m, nb, ns, ne) else q.2 j)
    by_cases e : j = q.1
    · subst e
      rw [if_pos rfl]
      exact k1.pk (fun i h1 h2 => by rw [l3.1 357 (by decide) (by decide) (by decide), am_up_ne (by decide)])
    · rw [if_neg e]
      exact MW.pk (hE j (by omega)) (fun i h1 h2 => r357 i (by omega))
  · rw [l3.1 c a1 a3 a4]
    funext j
    rw [am_up_ne a1, k3 c a2 a1]
  · rw [l3.2 k a3, am_up_nk a2, k4 k a1]
theorem m_push (hS : SP P) {I R : am_M} {nx sl n i k0 : Nat} {q : Nat × (Nat → WV)} (hn379 : 379 ≤ nx) (h : MW R w t m nb ns ne) (hH : HM R q) (hi : i < n) (hn : n ≤ 50) (hk : k0 < 2000) (e0 : w 0 1 = nI k0) {ex : Nat → am_M → am_Q → Nat → Nat → Option (Int32 × am_S)} {r : Nat → Int32 → Int32 → am_M → am_Q → Nat → Nat → Option (Int32 × am_S)} : ∃ I' R', fM_step_B40 ex r (am_pk 330 0 13) (nI n) (nI i) (put I R) P nx sl = r (am_pk 330 0 13) (nI n) (nI (i + 1)) (put I' R') P (nx + nb) (sl + 2 * nb) ∧ MW R' (hourF w t m nb ns ne) t m nb ns ne ∧ HM R' (psh q (w, t, m, nb, ns, ne)) ∧ frT R R' ∧ frI I I' := by
  obtain ⟨y1, y2, y3⟩ := hH
  have hnle : ¬ nI n ≤ nI i := by rw [nI_leI (by omega) (by omega)]; omega
  by_cases hq : q.1 < 6
  · obtain ⟨I', R', z1, z2, z3, z4, z5⟩ := m_J95 (I := I) (nx := nx) (sl := sl) (n := n) (i := i) (r := r) (ws := q) hS hn379 h hq y2 y3 hk e0
    refine ⟨I', R', ?_, z2, ?_, z4, z5⟩
    · unfold fM_step_B40
      rw [if_neg hnle, sm_ck_pos (am_t_pk (by decide)), put_rd sc_330, y2, if_pos (by rw [l_6, nI_eq (by omega) (by omega)]; omega)]
      exact z1
    · unfold psh
      rw [if_pos hq]; exact z3
  · have h6 : q.1 = 6 := by omega
    obtain ⟨R1, e1⟩ : ∃ R1, R1 = am_up (am_set R 357 (fun j => if 0 ≤ j ∧ j < 7500 then R 357 (j + 1500) else R 357 j)) 330 28 (nI 5) := ⟨_, rfl⟩
    have g1 : ∀ c, c ≠ 330 → c ≠ 357 → R1 c = R c := fun c a1 a2 => by rw [e1]; funext j; rw [am_up_ne a1, am_set_ne a2]
    have g2 : ∀ j, j < 7500 → R1 357 j = R 357 (j + 1500) := fun j hj => by rw [e1, am_up_ne (by decide), am_set_eq, if_pos ⟨by omega, hj⟩]
    have g3 : ∀ j, 7500 ≤ j → R1 357 j = R 357 j := fun j hj => by rw [e1, am_up_ne (by decide), am_set_eq, if_neg (by omega)]
    have g4 : ∀ k, k ≠ 28 → R1 330 k = R 330 k := fun k hk => by rw [e1, am_up_nk hk, am_set_ne (by decide)]
    have g5 : R1 330 28 = nI 5 := by rw [e1, am_up_eq]
    have h1 : MW R1 w t m nb ns ne := h.fr (fun c a1 a2 => g1 c (by omega) (by omega))
    obtain ⟨I', R', z1, z2, z3, z4, z5⟩ := m_J95 (I := I) (nx := nx) (sl := sl) (n := n) (i := i) (r := r) (ws := q) (q := (5, fun j => q.2 (j + 1))) hS hn379 h1 (by show 5 < 6; omega) g5 (fun j hj => by
      have hj : j < 5 := hj
      refine MW.cg (y3 (j + 1) (by omega)) (fun c k a1 a2 a3 => ?_)
      have := ofT_le a1 a2
      show R1 357 (1500 * j + ofT c + k) = R 357 (1500 * (j + 1) + ofT c + k)
      rw [g2 _ (by omega), show 1500 * j + ofT c + k + 1500 = 1500 * (j + 1) + ofT c + k by omega]) hk e0
    refine ⟨I', R', ?_, z2, ?_, frT.tr ⟨fun c a1 a2 a3 a4 => g1 c a1 a2, fun k a1 a2 a3 => g4 k a2, fun j hj => g3 j (by omega)⟩ z4, z5⟩
    · unfold fM_step_B40
      rw [if_neg hnle, sm_ck_pos (am_t_pk (by decide)), put_rd sc_330, y2, h6, if_neg (fun z => z (by decide))]
      refine Eq.trans (m_shiftL hS 7500 0 sm_fu R (sm_fu_lt (by omega)) (by omega)) ?_
      have e28 : am_set R 357 (fun j => if 0 ≤ j ∧ j < 7500 then R 357 (j + 1500) else R 357 j) 330 28 = nI 6 := by rw [am_set_ne (by decide), y2, h6]
      rw [sm_ck_pos (am_t_pk (by decide)), bd_eq, put_rd sc_330, e28, show nI 6 - 1 = nI 5 from nI_pred 5, put_up sc_330, ← e1]
      exact z1
    · unfold psh
      rw [if_neg hq]; exact z3
theorem m_stepL (hS : SP P) {n k0 : Nat} (hn : n ≤ 50) (hk : k0 + n ≤ 999) (e0 : w 0 1 = nI k0) {ex : Nat → am_M → am_Q → Nat → Nat → Option (Int32 × am_S)} : ∀ (d i fu : Nat) (I R : am_M) (nx sl : Nat) (q : Nat × (Nat → WV)), d < fu → i + d = n → 379 ≤ nx → MW R (hrN t m nb ns ne i w) t m nb ns ne → HM R q →
    ∃ I' R', fM_step_L40 ex fu (am_pk 330 0 13) (nI n) (nI i) (put I R) P nx sl = ex (am_pk 330 0 13) (put I' R') P (nx + nb * d) (sl + 2 * (nb * d)) ∧ MW R' (hrN t m nb ns ne n w) t m nb ns ne ∧ HM R' (pshs (fun j => (hrN t m nb ns ne (i + j) w, t, m, nb, ns, ne)) d q) ∧ frT R R' ∧ frI I I'
  | 0, i, fu, I, R, nx, sl, q, h1, h2, h3, hM, hH => by
    obtain ⟨fu, rfl⟩ : ∃ n', fu = n' + 1 := ⟨fu - 1, by omega⟩
    have hi : i = n := by omega
    subst hi
    refine ⟨I, R, ?_, hM, hH, frT.rfl, frI.rfl⟩
    show fM_step_B40 _ _ _ _ _ _ _ _ _ = _
    unfold fM_step_B40
    rw [if_pos (by rw [nI_leI (by omega) (by omega)]; omega)]
    rfl
  | d + 1, i, fu, I, R, nx, sl, q, h1, h2, h3, hM, hH => by
    obtain ⟨fu, rfl⟩ : ∃ n', fu = n' + 1 := ⟨fu - 1, by omega⟩
    have e1 := hrN_01 (t := t) (m := m) (nb := nb) (ns := ns) (ne := ne) e0 i
    obtain ⟨I1, R1, z1, z2, z3, z4, z5⟩ := m_push (I := I) (nx := nx) (sl := sl) (n := n) (i := i) (ex := ex) (r := fM_step_L40 ex fu) hS h3 hM hH (by omega) hn (show k0 + i < 2000 by omega) e1
    obtain ⟨I2, R2, y1, y2, y3, y4, y5⟩ := m_stepL hS hn hk e0 (ex := ex) d (i + 1) fu I1 R1 (nx + nb) (sl + 2 * nb) _ (by omega) (by omega) (by omega) z2 z3
    refine ⟨I2, R2, ?_, y2, ?_, z4.tr y4, z5.tr y5⟩
    · show fM_step_B40 _ _ _ _ _ _ _ _ _ = _
      rw [z1, y1]
      have en : nx + nb + nb * d = nx + nb * (d + 1) := by rw [Nat.mul_succ]; omega
      have es : sl + 2 * nb + 2 * (nb * d) = sl + 2 * (nb * (d + 1)) := by rw [Nat.mul_succ]; omega
      rw [en, es]
    · have key : ∀ (k : Nat) (a : Nat → WV) (q : Nat × (Nat → WV)), pshs (fun j => a (1 + j)) k (psh q (a 0)) = pshs a (k + 1) q := by
        intro k
        induction k with
        | zero => intro a q; rfl
        | succ k ih =>
          intro a q
          show psh (pshs (fun j => a (1 + j)) k (psh q (a 0))) (a (1 + k)) = psh (pshs a (k + 1) q) (a (k + 1))
          rw [ih a q, show 1 + k = k + 1 by omega]
      have := key d (fun j => (hrN t m nb ns ne (i + j) w, t, m, nb, ns, ne)) q
      rw [← this]
      have e2 : (fun j => (hrN t m nb ns ne (i + 1 + j) w, t, m, nb, ns, ne)) = (fun j => ((fun j => ((hrN t m nb ns ne (i + j) w, t, m, nb, ns, ne) : WV)) (1 + j))) := by
        funext j
        show (hrN t m nb ns ne (i + 1 + j) w, t, m, nb, ns, ne) = (hrN t m nb ns ne (i + (1 + j)) w, t, m, nb, ns, ne)
        rw [Nat.add_assoc]
      rw [e2] at y3
      exact y3
end StepM
