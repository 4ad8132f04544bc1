/-! ===== the class's copyFrom ===== -/
theorem ck_cp {ρ : Type} {x : Option ρ} {c c' n n' k : Nat} (hc : 2 ≤ c) (hc' : 2 ≤ c') (hk : k ≤ n) (hk' : k ≤ n') (hn : n < 16384) (hn' : n' < 16384) : sm_ck (sm_cp (am_pk c n 20) 0 (am_pk c' n' 20) 0 (nI k)) x = x := by
  refine sm_ck_pos ⟨am_t_pk (by decide), am_t_pk (by decide), ?_, ?_, by decide, by decide, nI_pos (by omega), ?_, ?_⟩
  · rw [am_i_pk hn' (by decide)]; exact hc'
  · rw [am_i_pk hn (by decide)]; exact hc
  · rw [cl_0, nI_clamp (by omega), am_n_pk hn (by decide)]; omega
  · rw [cl_0, nI_clamp (by omega), am_n_pk hn' (by decide)]; omega
theorem ck_cpn {ρ : Type} {x : Option ρ} {c c' n n' k : Nat} (hc : 2 ≤ c) (hc' : 2 ≤ c') (hk : k ≤ n) (hk' : k ≤ n') (hn : n < 16384) (hn' : n' < 16384) : sm_ck (sm_cp (am_pk c n 20) (nI 0) (am_pk c' n' 20) (nI 0) (nI k)) x = x := ck_cp hc hc' hk hk' hn hn'
set_option maxRecDepth 100000 in
theorem sp_nb : ∀ q ∈ sp_l, am_t q.1 ≠ 1 := by decide
theorem SP.kept {P P' : am_Q} (h : SP P) (hP : ∀ a k, am_t a ≠ 1 → P' a k = P a k) : SP P' := by
  obtain ⟨h1, h2, h3, h4⟩ := h
  have kd : ∀ i n t, t < 32 → t ≠ 1 → am_t (am_pk i n t) ≠ 1 := fun i n t a b => by rw [am_t_pk a]; exact b
  refine ⟨fun q hq => (hP _ _ (sp_nb q hq)).trans (h1 q hq), fun b hb => ?_, fun i hi => (hP _ _ (kd _ _ _ (by decide) (by decide))).trans (h3 i hi), fun i hi => (hP _ _ (kd _ _ _ (by decide) (by decide))).trans (h4 i hi)⟩
  obtain ⟨g1, g2, g3, g4, g5, g6, g7, g8, g9⟩ := h2 b hb
  have e := hP (am_pk b 0 11)
  have kk := kd b 0 11 (by decide) (by decide)
  exact ⟨(e _ kk).trans g1, (e _ kk).trans g2, (e _ kk).trans g3, (e _ kk).trans g4, (e _ kk).trans g5, (e _ kk).trans g6, (e _ kk).trans g7, fun i hi => (hP _ _ (kd _ _ _ (by decide) (by decide))).trans (g8 i hi), fun i hi => (hP _ _ (kd _ _ _ (by decide) (by decide))).trans (g9 i hi)⟩
section CC
variable {I : am_M} {nx sl : Nat}
theorem x_boxcopy {R : am_M} {P : am_Q} {c c' : Nat} (hc : sc c 0 1) (hc' : sc c' 0 1) (hne : ¬ c = c') (h7 : sm_01 (R c 7)) : ∃ R', fB_copyFrom (am_pk c' 0 1) (am_pk c 0 1) (put I R) P nx sl = some (put I R', am_up P (am_pk c' 0 1) 10 (P (am_pk c 0 1) 10), nx, sl) ∧ (∀ k, k < 10 → R' c' k = R c k) ∧ ∀ x, x ≠ c' → R' x = R x := by
  unfold fB_copyFrom
  simp (disch := first | omega | assumption) only [sm_bd, Option.bind_some, ck_tt, ck_in, ck_iw, ck_ia, ck_iz, ck_01, ck_in_0, ck_iw_0, cl_0, ck_in_1, ck_iw_1, cl_1, ck_in_2, ck_iw_2, cl_2, ck_in_3, ck_iw_3, cl_3, ck_in_4, ck_iw_4, cl_4, ck_in_5, ck_iw_5, cl_5, ck_in_6, ck_iw_6, cl_6, ck_in_7, ck_iw_7, cl_7, ck_in_8, ck_iw_8, cl_8, ck_in_9, ck_iw_9, cl_9, nI_clamp, lm_2, lm_4, lm_10, lm_14, lm_24, lm_80, lm_100, lm_1500, nI_add, nI_1, pk_m1, nI_pred, put_rd hc, put_up hc', am_up_ne hne, sm_ck_pos h7]
  refine ⟨_, rfl, fun k hk => ?_, fun x hx => ?_⟩
  · rcases (show k = 0 ∨ k = 1 ∨ k = 2 ∨ k = 3 ∨ k = 4 ∨ k = 5 ∨ k = 6 ∨ k = 7 ∨ k = 8 ∨ k = 9 by omega) with rfl | rfl | rfl | rfl | rfl | rfl | rfl | rfl | rfl | rfl <;> simp (disch := decide) only [am_up_eq, am_up_nk]
  · funext j
    simp only [am_up_ne hx]
theorem x_seamcopy {R : am_M} {P : am_Q} {c c' : Nat} (hc : sc c 0 8) (hc' : sc c' 0 8) (hne : ¬ c = c') : ∃ R', fS_copyFrom P (am_pk c' 0 8) (am_pk c 0 8) (put I R) = some (put I R') ∧ (∀ k, k < 10 → R' c' k = R c k) ∧ ∀ x, x ≠ c' → R' x = R x := by
  unfold fS_copyFrom
  simp (disch := first | omega | assumption) only [sm_bd, Option.bind_some, ck_tt, ck_in, ck_iw, ck_ia, ck_iz, ck_01, ck_in_0, ck_iw_0, cl_0, ck_in_1, ck_iw_1, cl_1, ck_in_2, ck_iw_2, cl_2, ck_in_3, ck_iw_3, cl_3, ck_in_4, ck_iw_4, cl_4, ck_in_5, ck_iw_5, cl_5, ck_in_6, ck_iw_6, cl_6, ck_in_7, ck_iw_7, cl_7, ck_in_8, ck_iw_8, cl_8, ck_in_9, ck_iw_9, cl_9, nI_clamp, lm_2, lm_4, lm_10, lm_14, lm_24, lm_80, lm_100, lm_1500, nI_add, nI_1, pk_m1, nI_pred, put_rd hc, put_up hc', am_up_ne hne]
  refine ⟨_, rfl, fun k hk => ?_, fun x hx => ?_⟩
  · rcases (show k = 0 ∨ k = 1 ∨ k = 2 ∨ k = 3 ∨ k = 4 ∨ k = 5 ∨ k = 6 ∨ k = 7 ∨ k = 8 ∨ k = 9 by omega) with rfl | rfl | rfl | rfl | rfl | rfl | rfl | rfl | rfl | rfl <;> simp (disch := decide) only [am_up_eq, am_up_nk]
  · funext j
    simp only [am_up_ne hx]
/-- i boxes are copied -/
def cpB (R0 : am_M) (P0 : am_Q) (b b' i : Nat) (R : am_M) (P : am_Q) : Prop := (∀ c, (c < b' + 8 ∨ b' + 8 + i ≤ c) → R c = R0 c) ∧ (∀ j, j < i → ∀ k, k < 10 → R (b' + 8 + j) k = R0 (b + 8 + j) k) ∧ (∀ a k, am_t a ≠ 1 → P a k = P0 a k) ∧ (∀ c k, (c < b' + 8 ∨ b' + 8 + i ≤ c) → P (am_pk c 0 1) k = P0 (am_pk c 0 1) k) ∧ ∀ j, j < i → P (am_pk (b' + 8 + j) 0 1) 10 = P0 (am_pk (b + 8 + j) 0 1) 10
theorem bx_ne {c c' : Nat} (h : ¬ c = c') : ¬ am_pk c 0 1 = am_pk c' 0 1 := fun z => h (am_pk_inj (by decide) (by decide) (by decide) (by decide) z).1
theorem x_copyB {ex : Nat → Nat → am_M → am_Q → Nat → Nat → Option (am_S)} {b b' nb : Nat} {R0 : am_M} {P0 : am_Q} (hb : isW b) (hb' : isW b') (hne : b ≠ b') (hnb : nb ≤ 7) (h6 : R0 b' 6 = nI nb) (h01 : ∀ i, i < nb → sm_01 (R0 (b + 8 + i) 7)) (hS0 : SP P0) :
    ∀ (n i fu : Nat) (R : am_M) (P : am_Q), n < fu → i + n = nb → cpB R0 P0 b b' i R P → ∃ R' P', fW_copyFrom_L74 ex fu (am_pk b' 0 11) (am_pk b 0 11) (nI i) (put I R) P nx sl = ex (am_pk b' 0 11) (am_pk b 0 11) (put I R') P' nx sl ∧ cpB R0 P0 b b' nb R' P'
  | 0, i, fu, R, P, h1, h2, h => by
    obtain ⟨fu, rfl⟩ : ∃ n', fu = n' + 1 := ⟨fu - 1, by omega⟩
    have hi : i = nb := by omega
    subst hi
    refine ⟨R, P, ?_, h⟩
    show fW_copyFrom_B74 _ _ _ _ _ _ _ _ _ = _
    unfold fW_copyFrom_B74
    rw [put_rd (sc_w0 hb'), h.1 b' (by omega), h6]
    simp (disch := first | omega | assumption) only [sm_bd, Option.bind_some, ck_tt, ck_in, ck_iw, ck_ia, ck_iz, ck_01, ck_in_0, ck_iw_0, cl_0, ck_in_1, ck_iw_1, cl_1, ck_in_2, ck_iw_2, cl_2, ck_in_3, ck_iw_3, cl_3, ck_in_4, ck_iw_4, cl_4, ck_in_5, ck_iw_5, cl_5, ck_in_6, ck_iw_6, cl_6, ck_in_7, ck_iw_7, cl_7, ck_in_8, ck_iw_8, cl_8, ck_in_9, ck_iw_9, cl_9, nI_clamp, lm_2, lm_4, lm_10, lm_14, lm_24, lm_80, lm_100, lm_1500, nI_add, nI_1, pk_m1, nI_pred]
    rw [if_pos (by rw [nI_leI (by omega) (by omega)]; omega)]
  | n + 1, i, fu, R, P, h1, h2, h => by
    obtain ⟨fu, rfl⟩ : ∃ n', fu = n' + 1 := ⟨fu - 1, by omega⟩
    have hi : i < nb := by omega
    have hap := hb.apart hb' hne
    obtain ⟨c1, c2, c3, c4, c5⟩ := h
    have hS : SP P := hS0.kept c3
    have es : R (b + 8 + i) = R0 (b + 8 + i) := c1 _ (by omega)
    obtain ⟨R1, q1, q2, q3⟩ := x_boxcopy (I := I) (nx := nx) (sl := sl) (P := P) (R := R) (sc_bx hb (show i < 7 by omega)) (sc_bx hb' (show i < 7 by omega)) (by omega) (by rw [es]; exact h01 i hi)
    show ∃ R' P', fW_copyFrom_B74 _ _ _ _ _ _ _ _ _ = _ ∧ _
    unfold fW_copyFrom_B74
    simp (disch := first | omega | assumption) only [sm_bd, Option.bind_some, ck_tt, ck_in, ck_iw, ck_ia, ck_iz, ck_01, ck_in_0, ck_iw_0, cl_0, ck_in_1, ck_iw_1, cl_1, ck_in_2, ck_iw_2, cl_2, ck_in_3, ck_iw_3, cl_3, ck_in_4, ck_iw_4, cl_4, ck_in_5, ck_iw_5, cl_5, ck_in_6, ck_iw_6, cl_6, ck_in_7, ck_iw_7, cl_7, ck_in_8, ck_iw_8, cl_8, ck_in_9, ck_iw_9, cl_9, nI_clamp, lm_2, lm_4, lm_10, lm_14, lm_24, lm_80, lm_100, lm_1500, nI_add, nI_1, pk_m1, nI_pred, put_rd (sc_w0 hb'), sp_w9 hS hb, sp_w9 hS hb', sp_bx hS hb, sp_bx hS hb', q1, c1 b' (by omega), h6]
    rw [if_neg (by rw [nI_leI (by omega) (by omega)]; omega)]
    refine x_copyB hb hb' hne hnb h6 h01 hS0 n (i + 1) fu _ _ (by omega) (by omega) ⟨fun c hc => ?_, fun j hj k hk => ?_, fun a k ha => ?_, fun c k hc => ?_, fun j hj => ?_⟩
    · rw [q3 c (by omega), c1 c (by omega)]
    · by_cases e : j = i
      · subst e
        rw [q2 k hk, es]
      · rw [q3 _ (by omega), c2 j (by omega) k hk]
    · rw [am_up_ne (fun z => ha (by rw [z]; exact am_t_pk (by decide))), c3 a k ha]
    · rw [am_up_ne (bx_ne (by omega)), c4 c k (by omega)]
    · by_cases e : j = i
      · subst e
        rw [am_up_eq, c4 _ _ (by omega)]
      · rw [am_up_ne (bx_ne (by omega)), c5 j (by omega)]
/-- i seams are copied -/
def cpS (R0 : am_M) (b b' i : Nat) (R : am_M) : Prop := (∀ c, (c < b' + 15 ∨ b' + 15 + i ≤ c) → R c = R0 c) ∧ ∀ j, j < i → ∀ k, k < 10 → R (b' + 15 + j) k = R0 (b + 15 + j) k
theorem x_copyS {ex : Nat → Nat → am_M → am_Q → Nat → Nat → Option (am_S)} {b b' ns : Nat} {R0 : am_M} {P : am_Q} (hb : isW b) (hb' : isW b') (hne : b ≠ b') (hns : ns ≤ 14) (h7 : R0 b' 7 = nI ns) (hS : SP P) :
    ∀ (n i fu : Nat) (R : am_M), n < fu → i + n = ns → cpS R0 b b' i R → ∃ R', fW_copyFrom_L105 ex fu (am_pk b' 0 11) (am_pk b 0 11) (nI i) (put I R) P nx sl = ex (am_pk b' 0 11) (am_pk b 0 11) (put I R') P nx sl ∧ cpS R0 b b' ns R'
  | 0, i, fu, R, h1, h2, h => by
    obtain ⟨fu, rfl⟩ : ∃ n', fu = n' + 1 := ⟨fu - 1, by omega⟩
    have hi : i = ns := by omega
    subst hi
    refine ⟨R, ?_, h⟩
    show fW_copyFrom_B105 _ _ _ _ _ _ _ _ _ = _
    unfold fW_copyFrom_B105
    rw [put_rd (sc_w0 hb'), h.1 b' (by omega), h7]
    simp (disch := first | omega | assumption) only [sm_bd, Option.bind_some, ck_tt, ck_in, ck_iw, ck_ia, ck_iz, ck_01, ck_in_0, ck_iw_0, cl_0, ck_in_1, ck_iw_1, cl_1, ck_in_2, ck_iw_2, cl_2, ck_in_3, ck_iw_3, cl_3, ck_in_4, ck_iw_4, cl_4, ck_in_5, ck_iw_5, cl_5, ck_in_6, ck_iw_6, cl_6, ck_in_7, ck_iw_7, cl_7, ck_in_8, ck_iw_8, cl_8, ck_in_9, ck_iw_9, cl_9, nI_clamp, lm_2, lm_4, lm_10, lm_14, lm_24, lm_80, lm_100, lm_1500, nI_add, nI_1, pk_m1, nI_pred]
    rw [if_pos (by rw [nI_leI (by omega) (by omega)]; omega)]
  | n + 1, i, fu, R, h1, h2, h => by
    obtain ⟨fu, rfl⟩ : ∃ n', fu = n' + 1 := ⟨fu - 1, by omega⟩
    have hi : i < ns := by omega
    have hap := hb.apart hb' hne
    obtain ⟨c1, c2⟩ := h
    have es : R (b + 15 + i) = R0 (b + 15 + i) := c1 _ (by omega)
    obtain ⟨R1, q1, q2, q3⟩ := x_seamcopy (I := I) (P := P) (R := R) (sc_sm hb (show i < 14 by omega)) (sc_sm hb' (show i < 14 by omega)) (by omega)
    show ∃ R', fW_copyFrom_B105 _ _ _ _ _ _ _ _ _ = _ ∧ _
    unfold fW_copyFrom_B105
    simp (disch := first | omega | assumption) only [sm_bd, Option.bind_some, ck_tt, ck_in, ck_iw, ck_ia, ck_iz, ck_01, ck_in_0, ck_iw_0, cl_0, ck_in_1, ck_iw_1, cl_1, ck_in_2, ck_iw_2, cl_2, ck_in_3, ck_iw_3, cl_3, ck_in_4, ck_iw_4, cl_4, ck_in_5, ck_iw_5, cl_5, ck_in_6, ck_iw_6, cl_6, ck_in_7, ck_iw_7, cl_7, ck_in_8, ck_iw_8, cl_8, ck_in_9, ck_iw_9, cl_9, nI_clamp, lm_2, lm_4, lm_10, lm_14, lm_24, lm_80, lm_100, lm_1500, nI_add, nI_1, pk_m1, nI_pred, put_rd (sc_w0 hb'), sp_w10 hS hb, sp_w10 hS hb', sp_sm hS hb, sp_sm hS hb', q1, c1 b' (by omega), h7]
    rw [if_neg (by rw [nI_leI (by omega) (by omega)]; omega)]
    refine x_copyS hb hb' hne hns h7 hS n (i + 1) fu _ (by omega) (by omega) ⟨fun c hc => ?_, fun j hj k hk => ?_⟩
    · rw [q3 c (by omega), c1 c (by omega)]
    · by_cases e : j = i
      · subst e
        rw [q2 k hk, es]
      · rw [q3 _ (by omega), c2 j (by omega) k hk]
/-- what a copy leaves alone of the references, and where it takes Lines from -/
def frP (b b' nb : Nat) (P P' : am_Q) : Prop := (∀ a k, am_t a ≠ 1 → P' a k = P a k) ∧ (∀ c k, (c < b' + 8 ∨ b' + 8 + nb ≤ c) → P' (am_pk c 0 1) k = P (am_pk c 0 1) k) ∧ ∀ j, j < nb → P' (am_pk (b' + 8 + j) 0 1) 10 = P (am_pk (b + 8 + j) 0 1) 10
theorem lnr.keptP {M : am_M} {P P' : am_Q} {lp : Nat} {t : Nat → List Nat} (h : lnr M P lp t) (hP : ∀ a k, am_t a ≠ 1 → P' a k = P a k) : lnr M P' lp t := by
  obtain ⟨h0, cc, nc, cs, ce, h1, h2, h3, h4, o, h5⟩ := h
  have hl : am_t lp ≠ 1 := by rw [h0]; decide
  exact ⟨h0, cc, nc, cs, ce, by rw [hP _ _ hl]; exact h1, h2, by rw [hP _ _ hl]; exact h3, by rw [hP _ _ hl]; exact h4, o, h5⟩
theorem CW.cpy {R R' : am_M} {P P' : am_Q} {b b' : Nat} {w : am_M} {t : Nat → Nat → List Nat} {m nb ns ne : Nat} (h : CW I R P b w t m nb ns ne) (hb' : isW b') (h0 : ∀ k, k < 9 → R' b' k = R b k) (hB : ∀ i, i < nb → ∀ k, k < 10 → R' (b' + 8 + i) k = R (b + 8 + i) k) (hM : ∀ i, i < ns → ∀ k, k < 10 → R' (b' + 15 + i) k = R (b + 15 + i) k) (hO : ∀ i, i < nb → R' (b' + 3) i = R (b + 3) i) (hT : ∀ i, i < 2 * nb → R' (b' + 4) i = R (b + 4) i) (hE : ∀ j, j < 3 → ∀ i, i < ne → R' (b' + 5 + j) i = R (b + 5 + j) i) (hP : frP b b' nb P P') (hR : ∀ c, c = 4 ∨ c = 5 ∨ c = 6 → R' c = R c) : CW I R' P' b' w t m nb ns ne := by
  have hle := h.le
  obtain ⟨hb, h1, h2, h3, h4⟩ := h
  obtain ⟨n1, n2, n3⟩ := h2.cnt
  refine ⟨hb', fun r c hrc => ?_, h2, fun i hi => ?_, fun x hx d hd => ?_⟩
  · have hok := hrc.ok ⟨by omega, by omega, by omega⟩
    have e1 := h1 r c hrc
    rw [vC_rd hok] at e1 ⊢
    rw [← e1]
    unfold wrl at hrc
    rw [n1, n2, n3] at hrc
    rcases hrc with ⟨rfl, hc⟩ | ⟨a1, a2, a3⟩ | ⟨a1, a2, a3⟩ | ⟨rfl, a3⟩ | ⟨a1, a2, a3⟩
    · exact h0 c hc
    · have ea : ∀ b, aC b r c = (b + 8 + c, r - 1) := fun b => by unfold aC; rw [if_neg (by omega), if_pos (by omega)]
      rw [ea, ea]
      exact hB c a3 (r - 1) (by omega)
    · have ea : ∀ b, aC b r c = (b + 15 + c, r - 11) := fun b => by unfold aC; rw [if_neg (by omega), if_neg (by omega), if_pos (by omega)]
      rw [ea, ea]
      exact hM c a3 (r - 11) (by omega)
    · exact hO c a3
    · have ea : ∀ b, aC b r c = (b + (r - 17), c) := fun b => by unfold aC; rw [if_neg (by omega), if_neg (by omega), if_neg (by omega), if_neg (by omega)]
      rw [ea, ea]
      have e := hE (r - 22) (by omega) c a3
      rw [show b' + 5 + (r - 22) = b' + (r - 17) by omega, show b + 5 + (r - 22) = b + (r - 17) by omega] at e
      exact e
  · rw [hP.2.2 i hi]
    exact ((h3 i hi).kept (put_okcl hR)).keptP hP.1
  · rw [hT _ (by omega)]; exact h4 x hx d hd
theorem x_copy {R : am_M} {P : am_Q} {b b' : Nat} {w : am_M} {t : Nat → Nat → List Nat} {m nb ns ne : Nat} (hS : SP P) (h : CW I R P b w t m nb ns ne) (hb' : isW b') (hne : b ≠ b') : ∃ R' P', fW_copyFrom (am_pk b' 0 11) (am_pk b 0 11) (put I R) P nx sl = some (put I R', P', nx, sl) ∧ CW I R' P' b' w t m nb ns ne ∧ SP P' ∧ frP b b' nb P P' ∧ ∀ c, (c < b' ∨ b' + 29 ≤ c) → R' c = R c := by
  have hle := h.le
  have hb := h.1
  have hap := hb.apart hb' hne
  have hne' : ¬ b = b' := hne
  have hrng := hb'.rng
  unfold fW_copyFrom
  simp (disch := first | omega | assumption) only [sm_bd, Option.bind_some, ck_tt, ck_in, ck_iw, ck_ia, ck_iz, ck_01, ck_in_0, ck_iw_0, cl_0, ck_in_1, ck_iw_1, cl_1, ck_in_2, ck_iw_2, cl_2, ck_in_3, ck_iw_3, cl_3, ck_in_4, ck_iw_4, cl_4, ck_in_5, ck_iw_5, cl_5, ck_in_6, ck_iw_6, cl_6, ck_in_7, ck_iw_7, cl_7, ck_in_8, ck_iw_8, cl_8, ck_in_9, ck_iw_9, cl_9, nI_clamp, lm_2, lm_4, lm_10, lm_14, lm_24, lm_80, lm_100, lm_1500, nI_add, nI_1, pk_m1, nI_pred, put_rd (sc_w0 hb), put_up (sc_w0 hb'), am_up_ne hne']
  have a0 : ∀ k, k < 9 → (am_up (am_up (am_up (am_up (am_up (am_up (am_up (am_up (am_up R b' 0 (R b 0)) b' 1 (R b 1)) b' 2 (R b 2)) b' 3 (R b 3)) b' 4 (R b 4)) b' 5 (R b 5)) b' 6 (R b 6)) b' 7 (R b 7)) b' 8 (R b 8)) b' k = R b k := by
    intro k hk
    rcases (show k = 0 ∨ k = 1 ∨ k = 2 ∨ k = 3 ∨ k = 4 ∨ k = 5 ∨ k = 6 ∨ k = 7 ∨ k = 8 by omega) with rfl | rfl | rfl | rfl | rfl | rfl | rfl | rfl | rfl <;> simp (disch := decide) only [am_up_eq, am_up_nk]
  have b0 : ∀ c, c ≠ b' → (am_up (am_up (am_up (am_up (am_up (am_up (am_up (am_up (am_up R b' 0 (R b 0)) b' 1 (R b 1)) b' 2 (R b 2)) b' 3 (R b 3)) b' 4 (R b 4)) b' 5 (R b 5)) b' 6 (R b 6)) b' 7 (R b 7)) b' 8 (R b 8)) c = R c := by
    intro c hc
    funext j
    simp only [am_up_ne hc]
  generalize am_up (am_up (am_up (am_up (am_up (am_up (am_up (am_up (am_up R b' 0 (R b 0)) b' 1 (R b 1)) b' 2 (R b 2)) b' 3 (R b 3)) b' 4 (R b 4)) b' 5 (R b 5)) b' 6 (R b 6)) b' 7 (R b 7)) b' 8 (R b 8) = R1 at a0 b0
  have a6 : R1 b' 6 = nI nb := (a0 6 (by decide)).trans h.c6
  have a7 : R1 b' 7 = nI ns := (a0 7 (by decide)).trans h.c7
  have a8 : R1 b' 8 = nI ne := (a0 8 (by decide)).trans h.c8
  obtain ⟨R2, P2, q2, c1, c2, c3, c4, c5⟩ := x_copyB (I := I) (nx := nx) (sl := sl) (ex := fun l0 l1 I P nx sl =>
      fW_copyFrom_L105 (fun l0 l1 I P nx sl =>
          sm_ck (am_t l1 = 11) <|
          sm_ck (am_t l0 = 11) <|
          sm_ck (sm_cp (P l1 11) 0 (P l0 11) 0 (I l0 6)) <|
          sm_bd (am_set I (P l0 11) (va_cpy (I (P l1 11)) (I (P l0 11)) (0 : Int32).toNatClampNeg (0 : Int32).toNatClampNeg (I l0 6).toNatClampNeg)) fun I31 =>
          sm_ck (sm_cp (P l1 12) 0 (P l0 12) 0 (2 * (I31 l0 6))) <|
          sm_bd (am_set I31 (P l0 12) (va_cpy (I31 (P l1 12)) (I31 (P l0 12)) (0 : Int32).toNatClampNeg (0 : Int32).toNatClampNeg (2 * (I31 l0 6)).toNatClampNeg)) fun I33 =>
          sm_ck (sm_cp (P l1 13) 0 (P l0 13) 0 (I33 l0 8)) <|
          sm_bd (am_set I33 (P l0 13) (va_cpy (I33 (P l1 13)) (I33 (P l0 13)) (0 : Int32).toNatClampNeg (0 : Int32).toNatClampNeg (I33 l0 8).toNatClampNeg)) fun I35 =>
          sm_ck (sm_cp (P l1 14) 0 (P l0 14) 0 (I35 l0 8)) <|
          sm_bd (am_set I35 (P l0 14) (va_cpy (I35 (P l1 14)) (I35 (P l0 14)) (0 : Int32).toNatClampNeg (0 : Int32).toNatClampNeg (I35 l0 8).toNatClampNeg)) fun I37 =>
          sm_ck (sm_cp (P l1 15) 0 (P l0 15) 0 (I37 l0 8)) <|
          sm_bd (am_set I37 (P l0 15) (va_cpy (I37 (P l1 15)) (I37 (P l0 15)) (0 : Int32).toNatClampNeg (0 : Int32).toNatClampNeg (I37 l0 8).toNatClampNeg)) fun I39 =>
          some (I39, P, nx, sl)) sm_fu l0 l1 0 I P nx sl) hb hb' hne hle.1 a6 (fun i hi => by rw [b0 _ (by omega), h.rb hi (by decide)]; exact (h.2.2.1.2.1 i hi).2.2.2.2.2.2.2.1) hS nb 0 sm_fu R1 P (sm_fu_lt (by omega)) (by omega) ⟨fun _ _ => rfl, fun j hj => absurd hj (by omega), fun _ _ _ => rfl, fun _ _ _ => rfl, fun j hj => absurd hj (by omega)⟩
  have hS2 : SP P2 := hS.kept c3
  obtain ⟨R3, q3, d1, d2⟩ := x_copyS (I := I) (nx := nx) (sl := sl) (ex := fun l0 l1 I P nx sl =>
          sm_ck (am_t l1 = 11) <|
          sm_ck (am_t l0 = 11) <|
          sm_ck (sm_cp (P l1 11) 0 (P l0 11) 0 (I l0 6)) <|
          sm_bd (am_set I (P l0 11) (va_cpy (I (P l1 11)) (I (P l0 11)) (0 : Int32).toNatClampNeg (0 : Int32).toNatClampNeg (I l0 6).toNatClampNeg)) fun I31 =>
          sm_ck (sm_cp (P l1 12) 0 (P l0 12) 0 (2 * (I31 l0 6))) <|
          sm_bd (am_set I31 (P l0 12) (va_cpy (I31 (P l1 12)) (I31 (P l0 12)) (0 : Int32).toNatClampNeg (0 : Int32).toNatClampNeg (2 * (I31 l0 6)).toNatClampNeg)) fun I33 =>
          sm_ck (sm_cp (P l1 13) 0 (P l0 13) 0 (I33 l0 8)) <|
          sm_bd (am_set I33 (P l0 13) (va_cpy (I33 (P l1 13)) (I33 (P l0 13)) (0 : Int32).toNatClampNeg (0 : Int32).toNatClampNeg (I33 l0 8).toNatClampNeg)) fun I35 =>
          sm_ck (sm_cp (P l1 14) 0 (P l0 14) 0 (I35 l0 8)) <|
          sm_bd (am_set I35 (P l0 14) (va_cpy (I35 (P l1 14)) (I35 (P l0 14)) (0 : Int32).toNatClampNeg (0 : Int32).toNatClampNeg (I35 l0 8).toNatClampNeg)) fun I37 =>
          sm_ck (sm_cp (P l1 15) 0 (P l0 15) 0 (I37 l0 8)) <|
          sm_bd (am_set I37 (P l0 15) (va_cpy (I37 (P l1 15)) (I37 (P l0 15)) (0 : Int32).toNatClampNeg (0 : Int32).toNatClampNeg (I37 l0 8).toNatClampNeg)) fun I39 =>
          some (I39, P, nx, sl)) hb hb' hne hle.2.1 (R0 := R2) (by rw [c1 b' (by omega)]; exact a7) hS2 ns 0 sm_fu R2 (sm_fu_lt (by omega)) (by omega) ⟨fun _ _ => rfl, fun j hj => absurd hj (by omega)⟩
  have r36 : R3 b' 6 = nI nb := by rw [d1 b' (by omega), c1 b' (by omega)]; exact a6
  have r38 : R3 b' 8 = nI ne := by rw [d1 b' (by omega), c1 b' (by omega)]; exact a8
  have out : ∀ c, (c < b' ∨ b' + 29 ≤ c) → R3 c = R c := fun c hc => by rw [d1 c (by omega), c1 c (by omega), b0 c (by omega)]
  have lo : ∀ j, 1 ≤ j → j < 8 → R3 (b' + j) = R (b' + j) := fun j h1 h2 => by rw [d1 _ (by omega), c1 _ (by omega), b0 _ (by omega)]
  have ne3 : ∀ i j, i ≠ j → ¬ b' + i = b' + j := fun i j hij => by omega
  have nb3 : ∀ i j, i < 29 → j < 29 → ¬ b + i = b' + j := fun i j _ _ => by omega
  have n00 : ∀ j, 1 ≤ j → ¬ b' = b' + j := fun j _ => by omega
  simp (disch := first | omega | assumption) only [sm_bd, Option.bind_some, ck_tt, ck_in, ck_iw, ck_ia, ck_iz, ck_01, ck_in_0, ck_iw_0, cl_0, ck_in_1, ck_iw_1, cl_1, ck_in_2, ck_iw_2, cl_2, ck_in_3, ck_iw_3, cl_3, ck_in_4, ck_iw_4, cl_4, ck_in_5, ck_iw_5, cl_5, ck_in_6, ck_iw_6, cl_6, ck_in_7, ck_iw_7, cl_7, ck_in_8, ck_iw_8, cl_8, ck_in_9, ck_iw_9, cl_9, nI_clamp, lm_2, lm_4, lm_10, lm_14, lm_24, lm_80, lm_100, lm_1500, nI_add, nI_1, pk_m1, nI_pred] at q2 q3
  simp only [l_0] at q2 q3 ⊢
  rw [q2, q3]
  simp (disch := first | omega | assumption) only [sm_bd, Option.bind_some, ck_tt, ck_in, ck_iw, ck_ia, ck_iz, ck_01, ck_in_0, ck_iw_0, cl_0, ck_in_1, ck_iw_1, cl_1, ck_in_2, ck_iw_2, cl_2, ck_in_3, ck_iw_3, cl_3, ck_in_4, ck_iw_4, cl_4, ck_in_5, ck_iw_5, cl_5, ck_in_6, ck_iw_6, cl_6, ck_in_7, ck_iw_7, cl_7, ck_in_8, ck_iw_8, cl_8, ck_in_9, ck_iw_9, cl_9, nI_clamp, lm_2, lm_4, lm_10, lm_14, lm_24, lm_80, lm_100, lm_1500, nI_add, nI_1, pk_m1, nI_pred, sp_w11 hS2 hb, sp_w12 hS2 hb, sp_w13 hS2 hb, sp_w14 hS2 hb, sp_w15 hS2 hb, sp_w11 hS2 hb', sp_w12 hS2 hb', sp_w13 hS2 hb', sp_w14 hS2 hb', sp_w15 hS2 hb', put_rd (sc_w0 hb'), put_rd' (sc_w3 hb), put_rd' (sc_w3 hb'), put_rd' (sc_w4 hb), put_rd' (sc_w4 hb'), put_rd' (sc_w5 hb), put_rd' (sc_w5 hb'), put_rd' (sc_w6 hb), put_rd' (sc_w6 hb'), put_rd' (sc_w7 hb), put_rd' (sc_w7 hb'), put_set (sc_w3 hb'), put_set (sc_w4 hb'), put_set (sc_w5 hb'), put_set (sc_w6 hb'), put_set (sc_w7 hb'), r36, r38, am_setne, ck_cp, ck_cpn]
  refine ⟨_, P2, rfl, ?_, hS2, ⟨c3, c4, c5⟩, ?_⟩
  · refine h.cpy hb' (fun k hk => ?_) (fun i hi k hk => ?_) (fun i hi k hk => ?_) (fun i hi => ?_) (fun i hi => ?_) (fun j hj i hi => ?_) ⟨c3, c4, c5⟩ (fun c hc => ?_)
    · simp (disch := first | omega | assumption) only [am_setne]
      rw [d1 b' (by omega), c1 b' (by omega)]; exact a0 k hk
    · simp (disch := first | omega | assumption) only [am_setne]
      rw [d1 _ (by omega), c2 i hi k hk, b0 _ (by omega)]
    · simp (disch := first | omega | assumption) only [am_setne]
      rw [d2 i hi k hk, c1 _ (by omega), b0 _ (by omega)]
    · simp (disch := first | omega | assumption) only [am_setne, am_set_eq]
      rw [pk_cpy_in (by omega) (by omega), out _ (by omega)]
      congr 1; omega
    · simp (disch := first | omega | assumption) only [am_setne, am_set_eq]
      rw [pk_cpy_in (by omega) (by omega), out _ (by omega)]
      congr 1; omega
    · rcases (show j = 0 ∨ j = 1 ∨ j = 2 by omega) with rfl | rfl | rfl
      · simp (disch := first | omega | assumption) only [am_setne, am_set_eq, Nat.add_zero]
        rw [pk_cpy_in (by omega) (by omega), out _ (by omega)]
        congr 1; omega
      · simp (disch := first | omega | assumption) only [am_setne, am_set_eq, show b' + 5 + 1 = b' + 6 from rfl]
        rw [pk_cpy_in (by omega) (by omega), out _ (by omega)]
        show R (b + 6) _ = R (b + 6) i
        congr 1; omega
      · simp (disch := first | omega | assumption) only [am_setne, am_set_eq, show b' + 5 + 2 = b' + 7 from rfl]
        rw [pk_cpy_in (by omega) (by omega), out _ (by omega)]
        show R (b + 7) _ = R (b + 7) i
        congr 1; omega
    · simp (disch := first | omega | assumption) only [am_setne]
      exact out c (by omega)
  · intro c hc
    simp (disch := first | omega | assumption) only [am_setne]
    exact out c hc
end CC
