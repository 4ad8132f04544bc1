/-! ===== calls beside the world: off, beside, judge, would ===== -/
def frC (R R' : am_M) : Prop := ∀ c, (c < 36 ∨ 94 ≤ c) → c ≠ 305 → c ≠ 307 → R' c = R c
def frPC (P P' : am_Q) : Prop := (∀ a k, am_t a ≠ 1 → P' a k = P a k) ∧ ∀ c, (c < 36 ∨ 94 ≤ c) → c ≠ 305 → P' (am_pk c 0 1) 10 = P (am_pk c 0 1) 10
/-- what the reference's trials leave alone -/
def frR (R R' : am_M) : Prop := (∀ c, c < 330 → R' c = R c) ∧ (∀ c, kpc c → R' c = R c) ∧ (∀ k, k = 28 ∨ k = 29 ∨ k = 32 → R' 330 k = R 330 k) ∧ ∀ j, j < 10500 → R' 357 j = R 357 j
/-- a trial at a place -/
def frO (pl : Nat) (R R' : am_M) : Prop := (∀ c, c ≠ 330 → c ≠ 357 → c ≠ 358 → (c < 332 ∨ 357 ≤ c) → R' c = R c) ∧ (∀ k, k ≠ 27 → k ≠ 50 → R' 330 k = R 330 k) ∧ ∀ j, (j < 1500 * pl ∨ 1500 * pl + 1500 ≤ j) → R' 357 j = R 357 j
theorem frO.R {pl : Nat} {R R' : am_M} (h : frO pl R R') (hp : 7 ≤ pl) : frR R R' := ⟨fun c hc => h.1 c (by omega) (by omega) (by omega) (by omega), fun c hc => h.1 c (by unfold kpc at hc; omega) (by unfold kpc at hc; omega) (by unfold kpc at hc; omega) (by unfold kpc at hc; omega), fun k hk => h.2.1 k (by omega) (by omega), fun j hj => h.2.2 j (by omega)⟩
section Bes
variable {I R : am_M} {P : am_Q} {nx sl : Nat} {w : am_M} {t : Nat → Nat → List Nat} {m nb ns ne : Nat}
theorem INV.bes {R1 R2 I2 : am_M} {P1 : am_Q} {nx2 : Nat} (h : INV I R P nx w t m nb ns ne) (c1 : frC R R1) (p1 : frPC P P1) (hL : LB P1 nx) (hM : MW R2 w t m nb ns ne) (r2 : frR R1 R2) (hI : frI I I2) (hn : nx ≤ nx2) : ∃ w t m nb ns ne, INV I2 R2 P1 nx2 w t m nb ns ne := by
  refine h.mkP (fun c hc => (r2.2.1 c hc).trans (c1 c (by unfold kpc at hc; omega) (by unfold kpc at hc; omega) (by unfold kpc at hc; omega))) (fun k hk => by rw [r2.2.2.1 k hk, c1 330 (by decide) (by decide) (by decide)]) (by rw [r2.1 299 (by decide), c1 299 (by decide) (by decide) (by decide)]) (fun j hj => by rw [r2.2.2.2 j hj, c1 357 (by decide) (by decide) (by decide)]) (fun a k ha _ => p1.1 a k ha) (fun c h1 h2 => p1.2 c (by omega) (by omega)) hI.J (hL.mono hn) hn h.2.1 ?_ hM
  exact h.cw.keep h.1.1.2.2.1 (fun c h1 h2 => by rw [r2.1 c (by omega), c1 c (by omega) (by omega) (by omega)]) (fun c hc => by rw [r2.1 c (by omega), c1 c (by omega) (by omega) (by omega)]) (fun a k ha _ => p1.1 a k ha) (fun i hi => p1.2 _ (by omega) (by omega)) hI.J
/-- the world is laid beside -/
theorem x_side (hS : SP P) (hL : LB P nx) (h : CW I R P 7 w t m nb ns ne) : ∃ R' P', fW_copyFrom (am_pk 36 0 11) (am_pk 7 0 11) (put I R) P nx sl = some (put I R', P', nx, sl) ∧ CW I R' P' 36 w t m nb ns ne ∧ SP P' ∧ LB P' nx ∧ frC R R' ∧ frPC P P' := by
  have hle := h.le
  obtain ⟨R1, P1, q1, c1, hS1, f1, g1⟩ := x_copy (nx := nx) (sl := sl) hS h W36 (by decide)
  exact ⟨R1, P1, q1, c1, hS1, hL.cpy W7 hle.1 f1, fun c h1 _ _ => g1 c (by omega), f1.1, fun c h1 _ => f1.2.1 c 10 (by omega)⟩
theorem m_off (hS : SP P) (h : MW R w t m nb ns ne) (hn : 379 ≤ nx) {k : Nat} (hk : k < 2000) (ek : w 0 1 = nI k) : ∃ I' R', fM_offBy (am_pk 330 0 13) (put I R) P nx sl = some (offF w t m nb ns ne, put I' R', P, nx + nb, sl + 2 * nb) ∧ MW R' w t m nb ns ne ∧ frO 8 R R' ∧ frI I I' := by
  obtain ⟨R1, q1, k1, k2, k3, k4, k5⟩ := m_save (I := I) (pl := 8) hS h (by decide)
  obtain ⟨I2, R2, q2, l1, l2, l3, l4⟩ := m_hour (I := I) (nx := nx) (sl := sl) hS k2 hn hk ek
  obtain ⟨R3, q3, m1, m2, m3⟩ := m_load (I := I2) (R := R2) (pl := 8) hS (k1.pk (R' := R2) (fun j _ _ => by rw [l3.1 357 (by decide) (by decide) (by decide)])) (by decide)
  refine ⟨I2, R3, ?_, m1, ⟨fun c a1 a2 a3 a4 => ?_, fun k a1 a2 => ?_, fun j hj => ?_⟩, l4⟩
  · unfold fM_offBy
    rw [sm_ck_pos (am_t_pk (by decide)), show fM_copiesAll P (am_pk 330 0 13) 8 1 (put I R) = _ from q1, Option.bind_some, q2, Option.bind_some]
    dsimp only
    rw [bd_eq, put_rd sc_330, l2, show fM_copiesAll P (am_pk 330 0 13) 8 0 (put I2 R2) = _ from q3, Option.bind_some]
  · rw [m2 c a4 a1, l3.1 c a1 a3 a4, k3 c a2 a1]
  · rw [m3 k a1, l3.2 k a2, k4 k a1]
  · rw [m2 357 (by decide) (by decide), l3.1 357 (by decide) (by decide) (by decide), k5 j hj]
theorem op_off (h : INV I R P nx w t m nb ns ne) : OK3 I R P nx sl (fX_off (am_pk 2 0 12)) (fM_off (am_pk 330 0 13)) := by
  have hS := h.sp
  have hle := h.mw.le
  obtain ⟨k0, hk0, ek0⟩ := h.2.1
  obtain ⟨R1, P1, x1, x2, x3, x4, x5, x6⟩ := x_side (nx := nx) (sl := sl) hS h.1.1.2.2.1 h.cw
  obtain ⟨R2, y1, y2, y3⟩ := x_pass x3 h.ap x2 ⟨k0, by omega, hrs_01.trans ek0⟩
  have c2 : frC R R2 := fun c a1 a2 a3 => by rw [y3 c (by omega) a3, x5 c a1 a2 a3]
  have hM1 : MW R2 w t m nb ns ne := h.mw.fr (fun c c1 c3 => c2 c (by omega) (by omega) (by omega))
  obtain ⟨I3, R3, z1, z2, z3, z4⟩ := m_off (I := I) (nx := nx) (sl := sl) x3 hM1 h.1.1.2.2.2 (show k0 < 2000 by omega) ek0
  refine ⟨offF w t m nb ns ne, I, R2, P1, nx, sl, I3, R3, nx + nb, sl + 2 * nb, ?_, ?_, h.bes c2 x6 x4 z2 (z3.R (by decide)) z4 (by omega), ⟨frJ.rfl, z4.J⟩, by omega, by omega, by omega⟩
  · unfold fX_off
    rw [sm_ck_pos (am_t_pk (by decide)), sp_2_1 hS, sp_2_0 hS, sm_ck_pos (am_t_pk (by decide)), x1, Option.bind_some]
    dsimp only
    rw [sp_2_10 x3, sp_2_1 x3, sm_ck_pos (am_t_pk (by decide)), y1, Option.bind_some]
  · unfold fM_off
    rw [sm_ck_pos (am_t_pk (by decide)), z1, Option.bind_some]
theorem x_besL (hA : apok I) (hS : SP P) {n k0 : Nat} (hn : n ≤ 30) (hk : k0 ≤ 999) (e0 : w 0 1 = nI k0) {ex : Nat → am_M → am_Q → Nat → Nat → Option (Int32 × am_S)} : ∀ (d i fu : Nat) (R : am_M), d < fu → i + d = n → CW I R P 36 (hrN t m nb ns ne i w) t m nb ns ne → ∃ R', fX_beside_L45 ex fu (am_pk 2 0 12) (nI n) (nI i) (put I R) P nx sl = ex (am_pk 2 0 12) (put I R') P nx sl ∧ CW I R' P 36 (hrN t m nb ns ne n w) t m nb ns ne ∧ fr 36 R R'
  | 0, i, fu, R, h1, h2, h => by
    obtain ⟨fu, rfl⟩ : ∃ n', fu = n' + 1 := ⟨fu - 1, by omega⟩
    have hi : i = n := by omega
    subst hi
    refine ⟨R, ?_, h, fr.rfl⟩
    show fX_beside_B45 _ _ _ _ _ _ _ _ _ = _
    unfold fX_beside_B45
    rw [if_pos (by rw [nI_leI (by omega) (by omega)]; omega)]
  | d + 1, i, fu, R, h1, h2, h => by
    obtain ⟨fu, rfl⟩ : ∃ n', fu = n' + 1 := ⟨fu - 1, by omega⟩
    have e1 := hrN_01 (t := t) (m := m) (nb := nb) (ns := ns) (ne := ne) e0 i
    obtain ⟨R1, y1, y2, y3⟩ := x_pass hS hA h ⟨k0 + i, by omega, hrs_01.trans e1⟩
    obtain ⟨R', z1, z2, z3⟩ := x_besL hA hS hn hk e0 (ex := ex) d (i + 1) fu R1 (by omega) (by omega) y2
    refine ⟨R', ?_, z2, y3.tr z3⟩
    show fX_beside_B45 _ _ _ _ _ _ _ _ _ = _
    unfold fX_beside_B45
    rw [if_neg (by rw [nI_leI (by omega) (by omega)]; omega), sm_ck_pos (am_t_pk (by decide)), sp_2_10 hS, sm_ck_pos (am_t_pk (by decide)), sp_2_1 hS, y1, Option.bind_some, bd_eq, nI_1]
    exact z1
theorem m_besL (hS : SP P) {n k0 : Nat} (hn : n ≤ 30) (hk : k0 ≤ 999) (e0 : w 0 1 = nI k0) {ex : Nat → am_M → am_Q → Nat → Nat → Option (Int32 × am_S)} : ∀ (d i fu : Nat) (I R : am_M) (nx sl : Nat), d < fu → i + d = n → 379 ≤ nx → MW R (hrN t m nb ns ne i w) t m nb ns ne → ∃ I' R', fM_beside_L43 ex fu (am_pk 330 0 13) (nI n) (nI i) (put I R) P nx sl = ex (am_pk 330 0 13) (put I' R') P (nx + nb * d) (sl + 2 * (nb * d)) ∧ MW R' (hrN t m nb ns ne n w) t m nb ns ne ∧ frM R R' ∧ frI I I'
  | 0, i, fu, I, R, nx, sl, h1, h2, h3, h => by
    obtain ⟨fu, rfl⟩ : ∃ n', fu = n' + 1 := ⟨fu - 1, by omega⟩
    have hi : i = n := by omega
    subst hi
    refine ⟨I, R, ?_, h, frM.rfl, frI.rfl⟩
    show fM_beside_B43 _ _ _ _ _ _ _ _ _ = _
    unfold fM_beside_B43
    rw [if_pos (by rw [nI_leI (by omega) (by omega)]; omega)]
    rfl
  | d + 1, i, fu, I, R, nx, sl, h1, h2, h3, h => by
    obtain ⟨fu, rfl⟩ : ∃ n', fu = n' + 1 := ⟨fu - 1, by omega⟩
    have e1 := hrN_01 (t := t) (m := m) (nb := nb) (ns := ns) (ne := ne) e0 i
    obtain ⟨I1, R1, y1, y2, y3, y4, y5⟩ := m_hour (I := I) (nx := nx) (sl := sl) hS h h3 (show k0 + i < 2000 by omega) e1
    obtain ⟨I2, R2, z1, z2, z3, z4⟩ := m_besL hS hn hk e0 (ex := ex) d (i + 1) fu I1 R1 (nx + nb) (sl + 2 * nb) (by omega) (by omega) (by omega) y2
    refine ⟨I2, R2, ?_, z2, y4.tr z3, y5.tr z4⟩
    show fM_beside_B43 _ _ _ _ _ _ _ _ _ = _
    unfold fM_beside_B43
    rw [if_neg (by rw [nI_leI (by omega) (by omega)]; omega), sm_ck_pos (am_t_pk (by decide)), y1, Option.bind_some, bd_eq, nI_1]
    have en : nx + nb + nb * d = nx + nb * (d + 1) := by rw [Nat.mul_succ]; omega
    have es : sl + 2 * nb + 2 * (nb * d) = sl + 2 * (nb * (d + 1)) := by rw [Nat.mul_succ]; omega
    rw [← en, ← es]
    exact z1
theorem op_beside (h : INV I R P nx w t m nb ns ne) {a b : Int32} : OK3 I R P nx sl (fX_beside (am_pk 2 0 12) a b) (fM_beside (am_pk 330 0 13) a b) := by
  have hS := h.sp
  have hle := h.mw.le
  obtain ⟨k0, hk0, ek0⟩ := h.2.1
  by_cases hr : 0 ≤ a ∧ a < 3
  · by_cases hb2 : 0 ≤ b ∧ b ≤ 30
    · have ha : a = 0 ∨ a = 1 ∨ a = 2 := by
        obtain ⟨k, hk, rfl⟩ := ran_ix (n := 3) hr (by decide)
        rcases (show k = 0 ∨ k = 1 ∨ k = 2 by omega) with rfl | rfl | rfl
        · exact Or.inl rfl
        · exact Or.inr (Or.inl rfl)
        · exact Or.inr (Or.inr rfl)
      obtain ⟨n, n1, n2, rfl⟩ := rng_nI (lo := 0) (hi := 30) hb2.1 hb2.2 (by decide) (by decide)
      obtain ⟨R1, P1, x1, x2, x3, x4, x5, x6⟩ := x_side (nx := nx) (sl := sl) hS h.1.1.2.2.1 h.cw
      have c2 := x2.wr (r := 0) (c := 2) (v := a) (Or.inl ⟨rfl, by decide⟩) (Or.inr (Or.inr (Or.inr (Or.inr ⟨rfl, ha⟩)))) rfl
      have ek1 : am_up w 0 2 a 0 1 = nI k0 := by rw [am_up_nk (by decide)]; exact ek0
      obtain ⟨R2, y1, y2, y3⟩ := x_besL (nx := nx) (sl := sl) h.ap x3 n2 hk0 ek1 (t := t) (m := m) (nb := nb) (ns := ns) (ne := ne) (ex := fun l0 I P nx sl =>
            sm_ck (am_t l0 = 12) <|
            sm_ck (am_t (P l0 1) = 11) <|
            Option.bind (fW_owesOfAll I P (P l0 1)) fun y21 =>
            some (y21, I, P, nx, sl)) n 0 sm_fu _ (sm_fu_lt (by omega)) (by omega) c2
      have c3 : frC R R2 := fun c a1 a2 a3 => by
        rw [y3 c (by omega) a3]
        funext j
        rw [am_up_ne (by omega), x5 c a1 a2 a3]
      have hM1 : MW R2 w t m nb ns ne := h.mw.fr (fun c c1 c4 => c3 c (by omega) (by omega) (by omega))
      obtain ⟨R3, q1, k1, k2, k3, k4, k5⟩ := m_save (I := I) (pl := 7) x3 hM1 (by decide)
      have m2 := k2.wr (r := 0) (c := 2) (v := a) (Or.inl ⟨rfl, by decide⟩) (Or.inr (Or.inr (Or.inr (Or.inr ⟨rfl, ha⟩)))) (show aM 0 2 = (332, 6) from rfl)
      obtain ⟨I4, R4, q2, l1, l2, l3⟩ := m_besL x3 n2 hk0 ek1 (t := t) (m := m) (nb := nb) (ns := ns) (ne := ne) (ex := fun l0 I P nx sl =>
          sm_ck (am_t l0 = 13) <|
          Option.bind (fM_allOwes I P l0) fun y16 =>
          Option.bind (fM_copiesAll P l0 7 0 I) fun y17 =>
          some (y16, y17, P, nx, sl)) n 0 sm_fu I _ nx sl (sm_fu_lt (by omega)) (by omega) h.1.1.2.2.2 m2
      obtain ⟨R5, q3, o1, o2, o3⟩ := m_load (I := I4) (R := R4) (pl := 7) x3 (k1.pk (R' := R4) (fun j _ _ => by rw [l2.1 357 (by decide) (by decide) (by decide), am_up_ne (by decide)])) (by decide)
      have hnn : nb * n ≤ 7 * 30 := Nat.mul_le_mul hle.1 n2
      have hfr : frR R2 R5 := by
        have key : ∀ c, c ≠ 330 → c ≠ 357 → c ≠ 358 → (c < 332 ∨ 357 ≤ c) → R5 c = R2 c := fun c a1 a2 a3 a4 => by
          rw [o2 c a4 a1, l2.1 c a1 a3 a4]
          funext j
          rw [am_up_ne (by omega), k3 c a2 a1]
        refine ⟨fun c hc => key c (by omega) (by omega) (by omega) (by omega), fun c hc => key c (by unfold kpc at hc; omega) (by unfold kpc at hc; omega) (by unfold kpc at hc; omega) (by unfold kpc at hc; omega), fun k hk => ?_, fun j hj => ?_⟩
        · rw [o3 k (by omega), l2.2 k (by omega), am_up_ne (by decide), k4 k (by omega)]
        · rw [o2 357 (by decide) (by decide), l2.1 357 (by decide) (by decide) (by decide), am_up_ne (by decide), k5 j (by omega)]
      refine ⟨lpF (owF (hrN t m nb ns ne n (am_up w 0 2 a))) 0 ns 0, I, R2, P1, nx, sl, I4, R5, nx + nb * n, sl + 2 * (nb * n), ?_, ?_, h.bes c3 x6 x4 o1 hfr l3 (by omega), ⟨frJ.rfl, l3.J⟩, by omega, by omega, by omega⟩
      · unfold fX_beside
        rw [h_isRule, Option.bind_some, bI_if, if_pos hr, if_neg (i_nl.mpr hb2.1), if_pos hb2.2, sm_ck_pos (am_t_pk (by decide)), sp_2_1 hS, sp_2_0 hS, sm_ck_pos (am_t_pk (by decide)), x1, Option.bind_some]
        dsimp only
        rw [sp_2_1 x3, sm_ck_pos (am_t_pk (by decide)), bd_eq, put_up (sc_w0 W36)]
        refine Eq.trans y1 ?_
        rw [sm_ck_pos (am_t_pk (by decide)), sp_2_1 x3, sm_ck_pos (am_t_pk (by decide)), y2.owes x3, Option.bind_some]
      · unfold fM_beside
        rw [h_w02, Option.bind_some, bI_if, if_pos hr, h_within, Option.bind_some, bI_ifn, if_pos hb2, sm_ck_pos (am_t_pk (by decide)), show fM_copiesAll P1 (am_pk 330 0 13) 7 1 (put I R2) = _ from q1, Option.bind_some, sp_330_1 x3, sm_ck_pos (iwl l_6 (by decide) (by decide) (by decide)), bd_eq, cl_6, put_up sc_332]
        refine Eq.trans q2 ?_
        rw [sm_ck_pos (am_t_pk (by decide)), l1.owes x3, Option.bind_some, show fM_copiesAll P1 (am_pk 330 0 13) 7 0 (put I4 R4) = _ from q3, Option.bind_some]
    · refine h.fl3 (v := -1000001) (k := 0) (by decide) ?_ (fun R1 hM hc1 => ?_)
      · unfold fX_beside
        rw [h_isRule, Option.bind_some, bI_if, if_pos hr]
        by_cases h1 : b < 0
        · rw [if_pos h1, sm_ck_pos (am_t_pk (by decide)), x_f1 hS, Option.bind_some]
        · rw [if_neg h1, if_neg (fun z => hb2 ⟨i_nl.mp h1, z⟩), sm_ck_pos (am_t_pk (by decide)), x_f1 hS, Option.bind_some]
      · unfold fM_beside
        rw [h_w02, Option.bind_some, bI_if, if_pos hr, h_within, Option.bind_some, bI_ifn, if_neg hb2, sm_ck_pos (am_t_pk (by decide)), m_f1 hS, Option.bind_some]
  · refine h.fl3 (v := -1000001) (k := 0) (by decide) ?_ (fun R1 hM hc1 => ?_)
    · unfold fX_beside
      rw [h_isRule, Option.bind_some, bI_if, if_neg hr, sm_ck_pos (am_t_pk (by decide)), x_f1 hS, Option.bind_some]
    · unfold fM_beside
      rw [h_w02, Option.bind_some, bI_if, if_neg hr, sm_ck_pos (am_t_pk (by decide)), m_f1 hS, Option.bind_some]
end Bes
