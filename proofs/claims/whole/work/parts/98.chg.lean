/-! ===== another text beside: change and drift ===== -/
noncomputable def dfS (u v : am_M) : Nat → Nat → Option Nat
  | 0, _ => none
  | d + 1, s => cif (u 15 s = v 15 s) (dfS u v d (s + 1)) (some s)
theorem dfS_l {u v : am_M} : ∀ (d s : Nat), dfS u v (d + 1) s = match dfS u v d s with
    | some k => some k
    | none => cif (u 15 (s + d) = v 15 (s + d)) none (some (s + d))
  | 0, s => rfl
  | d + 1, s => by
    show cif (u 15 s = v 15 s) (dfS u v (d + 1) (s + 1)) (some s) = match cif (u 15 s = v 15 s) (dfS u v d (s + 1)) (some s) with
      | some k => some k
      | none => cif (u 15 (s + (d + 1)) = v 15 (s + (d + 1))) none (some (s + (d + 1)))
    by_cases q : u 15 s = v 15 s
    · rw [cif_t q, cif_t q, dfS_l d (s + 1), show s + 1 + d = s + (d + 1) by omega]
    · rw [cif_f q, cif_f q]
theorem dfS_b {u v : am_M} : ∀ (d s k : Nat), dfS u v d s = some k → s ≤ k ∧ k < s + d
  | 0, s, k, h => absurd h (by unfold dfS; simp)
  | d + 1, s, k, h => by
    have h : cif (u 15 s = v 15 s) (dfS u v d (s + 1)) (some s) = some k := h
    by_cases q : u 15 s = v 15 s
    · rw [cif_t q] at h
      have := dfS_b d (s + 1) k h
      omega
    · rw [cif_f q] at h
      injection h with h
      omega
/-- the hour and the seam at which they differ first -/
noncomputable def fcF (u v : Nat → am_M) (ns : Nat) : Nat → Nat → Option (Nat × Nat)
  | 0, _ => none
  | d + 1, i => match dfS (u (i + 1)) (v (i + 1)) ns 0 with
    | some s => some (i, s)
    | none => fcF u v ns d (i + 1)
theorem fcF_s {u v : Nat → am_M} {ns d i s : Nat} (h : dfS (u (i + 1)) (v (i + 1)) ns 0 = some s) : fcF u v ns (d + 1) i = some (i, s) := by
  show (match dfS (u (i + 1)) (v (i + 1)) ns 0 with
    | some s => some (i, s)
    | none => fcF u v ns d (i + 1)) = _
  rw [h]
theorem fcF_n {u v : Nat → am_M} {ns d i : Nat} (h : dfS (u (i + 1)) (v (i + 1)) ns 0 = none) : fcF u v ns (d + 1) i = fcF u v ns d (i + 1) := by
  show (match dfS (u (i + 1)) (v (i + 1)) ns 0 with
    | some s => some (i, s)
    | none => fcF u v ns d (i + 1)) = _
  rw [h]
section Chg
variable {I R : am_M} {P : am_Q} {nx sl : Nat} {w : am_M} {t t' : Nat → Nat → List Nat} {m nb ns ne : Nat}
theorem x_cmp (hS : SP P) {u v : am_M} {l1 l2 : Int32} (h : CW I R P 36 u t m nb ns ne) (h' : CW I R P 65 v t' m nb ns ne) {e1 : Int32 → am_M → am_Q → Nat → Nat → Option (Int32 × am_S)} {e2 : Nat → Int32 → Int32 → am_M → am_Q → Nat → Nat → Option (Int32 × am_S)} : ∀ (d s fu : Nat), d < fu → s + d = ns → fX_firstChanged_L71 e1 e2 fu (am_pk 2 0 12) l1 l2 (nI s) (put I R) P nx sl = match dfS u v d s with
    | some k => e1 (nI k) (put I R) P nx sl
    | none => e2 (am_pk 2 0 12) l1 l2 (put I R) P nx sl
  | 0, s, fu, h1, h2 => by
    obtain ⟨fu, rfl⟩ : ∃ n', fu = n' + 1 := ⟨fu - 1, by omega⟩
    have hle := h.le
    show fX_firstChanged_B71 _ _ _ _ _ _ _ _ _ _ _ = e2 _ _ _ _ _ _ _
    unfold fX_firstChanged_B71
    rw [sm_ck_pos (am_t_pk (by decide)), sp_2_1 hS, sm_ck_pos (am_t_pk (by decide)), put_rd (sc_w0 h.1), h.c7, if_pos (by rw [nI_leI (by omega) (by omega)]; omega)]
  | d + 1, s, fu, h1, h2 => by
    obtain ⟨fu, rfl⟩ : ∃ n', fu = n' + 1 := ⟨fu - 1, by omega⟩
    have hle := h.le
    have hs14 : s < 14 := by omega
    have r1 : R (36 + 15 + s) 4 = u 15 s := h.rm (show s < ns by omega) (by decide)
    have r2 : R (65 + 15 + s) 4 = v 15 s := h'.rm (show s < ns by omega) (by decide)
    show fX_firstChanged_B71 _ _ _ _ _ _ _ _ _ _ _ = match cif (u 15 s = v 15 s) (dfS u v d (s + 1)) (some s) with
      | some k => e1 (nI k) (put I R) P nx sl
      | none => e2 (am_pk 2 0 12) l1 l2 (put I R) P nx sl
    unfold fX_firstChanged_B71
    simp only [sp_2_1 hS, sp_2_2 hS, sp_w10 hS h.1, sp_w10 hS h'.1, nI_clamp (show s < 2 ^ 31 by omega), sp_sm hS h.1 hs14, sp_sm hS h'.1 hs14, put_rd (sc_sm h.1 hs14), put_rd (sc_sm h'.1 hs14), r1, r2]
    rw [sm_ck_pos (am_t_pk (by decide)), sm_ck_pos (am_t_pk (by decide)), put_rd (sc_w0 h.1), h.c7, if_neg (by rw [nI_leI (by omega) (by omega)]; omega), sm_ck_pos (sm_ia_nI (by decide) (by decide) (by decide) hs14), sm_ck_pos (am_t_pk (by decide)), sm_ck_pos (am_t_pk (by decide)), sm_ck_pos (sm_ia_nI (by decide) (by decide) (by decide) hs14), sm_ck_pos (am_t_pk (by decide)), bd_eq, nI_1]
    by_cases q : u 15 s = v 15 s
    · rw [if_pos q, cif_t q]
      exact x_cmp hS h h' d (s + 1) fu (by omega) (by omega)
    · rw [if_neg q, cif_f q]
theorem x_fcL (hA : apok I) (hS : SP P) {n k0 : Nat} (hn : n ≤ 30) (hk : k0 ≤ 999) (e0 : w 0 1 = nI k0) : ∀ (d i fu : Nat) (R : am_M), d < fu → i + d = n → CW I R P 36 (hrN t m nb ns ne i w) t m nb ns ne → CW I R P 65 (hrN t' m nb ns ne i w) t' m nb ns ne → ∃ R', (∀ c, (c < 36 ∨ 94 ≤ c) → c ≠ 307 → R' c = R c) ∧ ((∃ j s, fcF (fun i => hrN t m nb ns ne i w) (fun i => hrN t' m nb ns ne i w) ns d i = some (j, s) ∧ j < n ∧ s < ns ∧ R' 36 1 = nI (k0 + j + 1) ∧ fX_firstChanged_L38 (fun l5 I P nx sl => some (l5, I, P, nx, sl)) (fun I P nx sl => some ((-1), I, P, nx, sl)) fu (am_pk 2 0 12) (nI n) (nI i) (put I R) P nx sl = some (nI s, put I R', P, nx, sl)) ∨ (fcF (fun i => hrN t m nb ns ne i w) (fun i => hrN t' m nb ns ne i w) ns d i = none ∧ fX_firstChanged_L38 (fun l5 I P nx sl => some (l5, I, P, nx, sl)) (fun I P nx sl => some ((-1), I, P, nx, sl)) fu (am_pk 2 0 12) (nI n) (nI i) (put I R) P nx sl = some (-1, put I R', P, nx, sl)))
  | 0, i, fu, R, h1, h2, h, h' => by
    obtain ⟨fu, rfl⟩ : ∃ n', fu = n' + 1 := ⟨fu - 1, by omega⟩
    refine ⟨R, fun _ _ _ => rfl, Or.inr ⟨rfl, ?_⟩⟩
    show fX_firstChanged_B38 _ _ _ _ _ _ _ _ _ _ = _
    unfold fX_firstChanged_B38
    rw [if_pos (by rw [nI_leI (by omega) (by omega)]; omega)]
  | d + 1, i, fu, R, h1, h2, h, h' => by
    obtain ⟨fu, rfl⟩ : ∃ n', fu = n' + 1 := ⟨fu - 1, by omega⟩
    have hle := h.le
    have e1 := hrN_01 (t := t) (m := m) (nb := nb) (ns := ns) (ne := ne) e0 i
    have e2 := hrN_01 (t := t') (m := m) (nb := nb) (ns := ns) (ne := ne) e0 i
    obtain ⟨R1, y1, y2, y3⟩ := x_pass hS hA h ⟨k0 + i, by omega, hrs_01.trans e1⟩
    have c1 : CW I R1 P 65 (hrN t' m nb ns ne i w) t' m nb ns ne := h'.fr (fun c a1 a2 => y3 c (by omega) (by omega)) (fun c hc => y3 c (by omega) (by omega))
    obtain ⟨R2, z1, z2, z3⟩ := x_pass hS hA c1 ⟨k0 + i, by omega, hrs_01.trans e2⟩
    have c2 : CW I R2 P 36 (hrN t m nb ns ne (i + 1) w) t m nb ns ne := y2.fr (fun c a1 a2 => z3 c (by omega) (by omega)) (fun c hc => z3 c (by omega) (by omega))
    have c3 : CW I R2 P 65 (hrN t' m nb ns ne (i + 1) w) t' m nb ns ne := z2
    have f2 : ∀ c, (c < 36 ∨ 94 ≤ c) → c ≠ 307 → R2 c = R c := fun c a1 a2 => by rw [z3 c (by omega) a2, y3 c (by omega) a2]
    have run : fX_firstChanged_L38 (fun l5 I P nx sl => some (l5, I, P, nx, sl)) (fun I P nx sl => some ((-1), I, P, nx, sl)) (fu + 1) (am_pk 2 0 12) (nI n) (nI i) (put I R) P nx sl = match dfS (hrN t m nb ns ne (i + 1) w) (hrN t' m nb ns ne (i + 1) w) ns 0 with
        | some k => some (nI k, put I R2, P, nx, sl)
        | none => fX_firstChanged_L38 (fun l5 I P nx sl => some (l5, I, P, nx, sl)) (fun I P nx sl => some ((-1), I, P, nx, sl)) fu (am_pk 2 0 12) (nI n) (nI (i + 1)) (put I R2) P nx sl := by
      show fX_firstChanged_B38 _ _ _ _ _ _ _ _ _ _ = _
      unfold fX_firstChanged_B38
      rw [if_neg (by rw [nI_leI (by omega) (by omega)]; omega), sm_ck_pos (am_t_pk (by decide)), sp_2_10 hS, sm_ck_pos (am_t_pk (by decide)), sp_2_1 hS, y1, Option.bind_some, sp_2_2 hS, z1, Option.bind_some]
      refine Eq.trans (x_cmp hS c2 c3 ns 0 sm_fu (sm_fu_lt (by omega)) (by omega)) ?_
      cases dfS (hrN t m nb ns ne (i + 1) w) (hrN t' m nb ns ne (i + 1) w) ns 0 with
      | none =>
        show sm_bd _ _ = _
        rw [bd_eq, nI_1]
      | some k => rfl
    rw [run]
    cases hd : dfS (hrN t m nb ns ne (i + 1) w) (hrN t' m nb ns ne (i + 1) w) ns 0 with
    | some s =>
      have hb := dfS_b ns 0 s hd
      refine ⟨R2, f2, Or.inl ⟨i, s, fcF_s hd, by omega, by omega, ?_, rfl⟩⟩
      rw [c2.rs (k := 1) (by decide), hrN_01 e0 (i + 1)]
      rfl
    | none =>
      obtain ⟨R', w1, w2⟩ := x_fcL hA hS hn hk e0 d (i + 1) fu R2 (by omega) (by omega) c2 c3
      refine ⟨R', fun c a1 a2 => by rw [w1 c a1 a2, f2 c a1 a2], ?_⟩
      rw [fcF_n hd]
      exact w2
/-! the reference -/
theorem m_ch53 (hS : SP P) {u : am_M} {k : Nat} {l1 l2 : Int32} (hk : k < 30) {ex : Nat → Int32 → Int32 → Int32 → am_M → am_Q → Nat → Nat → Option (Int32 × am_S)} : ∀ (d s fu : Nat) (R : am_M), d < fu → s + d = ns → MW R u t m nb ns ne → (∀ s', s' < s → R 377 (14 * k + s') = u 15 s') → ∃ R', fM_changes_L53 ex fu (am_pk 330 0 13) l1 l2 (nI k) (nI s) (put I R) P nx sl = ex (am_pk 330 0 13) l1 l2 (nI k) (put I R') P nx sl ∧ (∀ s', s' < ns → R' 377 (14 * k + s') = u 15 s') ∧ (∀ c, c ≠ 377 → R' c = R c) ∧ ∀ j, j < 14 * k → R' 377 j = R 377 j
  | 0, s, fu, R, h1, h2, h, h3 => by
    obtain ⟨fu, rfl⟩ : ∃ n', fu = n' + 1 := ⟨fu - 1, by omega⟩
    have hle := h.le
    refine ⟨R, ?_, fun s' hs => h3 s' (by omega), fun _ _ => rfl, fun _ _ => rfl⟩
    show fM_changes_B53 _ _ _ _ _ _ _ _ _ _ _ = _
    unfold fM_changes_B53
    rw [sm_ck_pos (am_t_pk (by decide)), sp_330_1 hS, sm_ck_pos (inl l_1 (by decide) (by decide)), cl_1, put_rd sc_332, h.n1, if_pos (by rw [nI_leI (by omega) (by omega)]; omega)]
  | d + 1, s, fu, R, h1, h2, h, h3 => by
    obtain ⟨fu, rfl⟩ : ∃ n', fu = n' + 1 := ⟨fu - 1, by omega⟩
    have hle := h.le
    have e14 : (14 : Int32) * nI k + nI s = nI (14 * k + s) := by rw [show (14 : Int32) = nI 14 from rfl, pk_mul, nI_add]
    have r48 : R 348 s = u 15 s := h.s15 (show s < ns by omega)
    obtain ⟨R', y1, y2, y3, y4⟩ := m_ch53 hS hk (l1 := l1) (l2 := l2) (ex := ex) d (s + 1) fu (am_up R 377 (14 * k + s) (u 15 s)) (by omega) (by omega) (h.fr (fun c c1 c2 => by funext j; rw [am_up_ne (by omega)])) (fun s' hs => by
      by_cases e : s' = s
      · rw [e, am_up_eq]
      · rw [am_up_nk (by omega)]; exact h3 s' (by omega))
    refine ⟨R', ?_, y2, fun c hc => by rw [y3 c hc]; funext j; rw [am_up_ne hc], fun j hj => by rw [y4 j hj, am_up_nk (by omega)]⟩
    show fM_changes_B53 _ _ _ _ _ _ _ _ _ _ _ = _
    unfold fM_changes_B53
    rw [sm_ck_pos (am_t_pk (by decide)), sp_330_1 hS, sm_ck_pos (inl l_1 (by decide) (by decide)), cl_1, put_rd sc_332, h.n1, if_neg (by rw [nI_leI (by omega) (by omega)]; omega), sp_330_17 hS, sp_330_58 hS, e14, sm_ck_pos (sm_in_nI (by decide) (by omega)), sm_ck_pos (sm_iw_nI (by decide) (by decide) (by omega)), nI_clamp (show 14 * k + s < 2 ^ 31 by omega), nI_clamp (show s < 2 ^ 31 by omega), put_rd sc_348, r48, put_up sc_377, bd_eq, bd_eq, nI_1]
    exact y1
/-- what the reference's trial leaves alone -/
def frHc (R R' : am_M) : Prop := (∀ c, c ≠ 330 → c ≠ 358 → c ≠ 377 → (c < 332 ∨ 357 ≤ c) → R' c = R c) ∧ ∀ k, k ≠ 50 → k ≠ 59 → k ≠ 60 → R' 330 k = R 330 k
theorem frHc.rfl {R : am_M} : frHc R R := ⟨fun _ _ _ _ _ => _root_.rfl, fun _ _ _ _ => _root_.rfl⟩
theorem frHc.tr {R R' R'' : am_M} (h : frHc R R') (h2 : frHc R' R'') : frHc R R'' := ⟨fun c a1 a2 a3 a4 => (h2.1 c a1 a2 a3 a4).trans (h.1 c a1 a2 a3 a4), fun k a1 a2 a3 => (h2.2 k a1 a2 a3).trans (h.2 k a1 a2 a3)⟩
theorem frM.Hc {R R' : am_M} (h : frM R R') : frHc R R' := ⟨fun c a1 a2 _ a4 => h.1 c a1 a2 a4, fun k a1 _ _ => h.2 k a1⟩
theorem m_ch41 (hS : SP P) {n k0 : Nat} {l1 : Int32} (hn : n ≤ 30) (hk0 : k0 ≤ 999) (e0 : w 0 1 = nI k0) {ex : Nat → Int32 → Int32 → am_M → am_Q → Nat → Nat → Option (Int32 × am_S)} : ∀ (d k fu : Nat) (I R : am_M) (nx sl : Nat), d < fu → k + d = n → 379 ≤ nx → MW R (hrN t m nb ns ne k w) t m nb ns ne → (∀ k' s', k' < k → s' < ns → R 377 (14 * k' + s') = hrN t m nb ns ne (k' + 1) w 15 s') → ∃ I' R', fM_changes_L41 ex fu (am_pk 330 0 13) l1 (nI n) (nI k) (put I R) P nx sl = ex (am_pk 330 0 13) l1 (nI n) (put I' R') P (nx + nb * d) (sl + 2 * (nb * d)) ∧ (∀ k' s', k' < n → s' < ns → R' 377 (14 * k' + s') = hrN t m nb ns ne (k' + 1) w 15 s') ∧ frHc R R' ∧ frI I I' ∧ R' 330 59 = R 330 59
  | 0, k, fu, I, R, nx, sl, h1, h2, h3, h, hl => by
    obtain ⟨fu, rfl⟩ : ∃ n', fu = n' + 1 := ⟨fu - 1, by omega⟩
    refine ⟨I, R, ?_, fun k' s' hk hs => hl k' s' (by omega) hs, frHc.rfl, frI.rfl, rfl⟩
    show fM_changes_B41 _ _ _ _ _ _ _ _ _ _ = _
    unfold fM_changes_B41
    rw [if_pos (by rw [nI_leI (by omega) (by omega)]; omega)]
    rfl
  | d + 1, k, fu, I, R, nx, sl, h1, h2, h3, h, hl => by
    obtain ⟨fu, rfl⟩ : ∃ n', fu = n' + 1 := ⟨fu - 1, by omega⟩
    have hle := h.le
    have e1 := hrN_01 (t := t) (m := m) (nb := nb) (ns := ns) (ne := ne) e0 k
    obtain ⟨I1, R1, y1, y2, y3, y4, y5⟩ := m_hour (I := I) (nx := nx) (sl := sl) hS h h3 (show k0 + k < 2000 by omega) e1
    have y2' : MW R1 (hrN t m nb ns ne (k + 1) w) t m nb ns ne := y2
    obtain ⟨R2, z1, z2, z3, z4⟩ := m_ch53 (I := I1) (P := P) (nx := nx + nb) (sl := sl + 2 * nb) hS (show k < 30 by omega) (l1 := l1) (l2 := nI n) (ex := fun l0 l1 l2 l3 I P nx sl => sm_bd (l3 + 1) fun x19 => fM_changes_L41 ex fu l0 l1 l2 x19 I P nx sl) ns 0 sm_fu R1 (sm_fu_lt (by omega)) (by omega) y2' (fun s' hs => absurd hs (Nat.not_lt_zero _))
    have m2 : MW R2 (hrN t m nb ns ne (k + 1) w) t m nb ns ne := y2'.fr (fun c c1 c2 => z3 c (by omega))
    have e77 : R1 377 = R 377 := y4.1 377 (by decide) (by decide) (by decide)
    obtain ⟨I3, R3, w1, w2, w3, w4, w5⟩ := m_ch41 hS hn hk0 e0 (ex := ex) d (k + 1) fu I1 R2 (nx + nb) (sl + 2 * nb) (by omega) (by omega) (by omega) m2 (fun k' s' hk hs => by
      by_cases e : k' = k
      · rw [e]; exact z2 s' hs
      · have hs14 : s' < 14 := by omega
        rw [z4 _ (by omega), e77]; exact hl k' s' (by omega) hs)
    refine ⟨I3, R3, ?_, w2, y4.Hc.tr (frHc.tr (R' := R2) ⟨fun c a1 a2 a3 a4 => z3 c a3, fun j _ _ _ => by rw [z3 330 (by decide)]⟩ w3), y5.tr w4, by rw [w5, z3 330 (by decide), y4.2 59 (by decide)]⟩
    show fM_changes_B41 _ _ _ _ _ _ _ _ _ _ = _
    unfold fM_changes_B41
    rw [if_neg (by rw [nI_leI (by omega) (by omega)]; omega), sm_ck_pos (am_t_pk (by decide)), y1, Option.bind_some]
    refine Eq.trans z1 ?_
    have en : nx + nb + nb * d = nx + nb * (d + 1) := by rw [Nat.mul_succ]; omega
    have es : sl + 2 * nb + 2 * (nb * d) = sl + 2 * (nb * (d + 1)) := by rw [Nat.mul_succ]; omega
    rw [bd_eq, nI_1, ← en, ← es]
    exact w1
theorem m_ch148 (hS : SP P) {u v : am_M} {k : Nat} {l2 l4 : Int32} (hk : k < 30) {ex : Nat → Int32 → Int32 → am_M → am_Q → Nat → Nat → Option (Int32 × am_S)} : ∀ (i fu : Nat) (R : am_M), i < fu → i ≤ ns → MW R v t m nb ns ne → (∀ s', s' < ns → R 377 (14 * k + s') = u 15 s') → ∃ R', fM_changes_L148 ex fu (am_pk 330 0 13) l2 (nI k) l4 (nI i + (-1)) (put I R) P nx sl = ex (am_pk 330 0 13) l2 (nI k) (put I R') P nx sl ∧ (∀ c, c ≠ 330 → R' c = R c) ∧ (∀ j, j ≠ 59 → j ≠ 60 → R' 330 j = R 330 j) ∧ ((∃ s, dfS u v i 0 = some s ∧ R' 330 59 = l4 ∧ R' 330 60 = nI s) ∨ (dfS u v i 0 = none ∧ R' 330 59 = R 330 59 ∧ R' 330 60 = R 330 60))
  | 0, fu, R, h1, h2, h, h3 => by
    obtain ⟨fu, rfl⟩ : ∃ n', fu = n' + 1 := ⟨fu - 1, by omega⟩
    refine ⟨R, ?_, fun _ _ => rfl, fun _ _ _ => rfl, Or.inr ⟨rfl, rfl, rfl⟩⟩
    show fM_changes_B148 _ _ _ _ _ _ _ _ _ _ _ = _
    unfold fM_changes_B148
    rw [if_pos nI_dm1]
  | i + 1, fu, R, h1, h2, h, h3 => by
    obtain ⟨fu, rfl⟩ : ∃ n', fu = n' + 1 := ⟨fu - 1, by omega⟩
    have hle := h.le
    have e14 : (14 : Int32) * nI k + nI i = nI (14 * k + i) := by rw [show (14 : Int32) = nI 14 from rfl, pk_mul, nI_add]
    have r48 : R 348 i = v 15 i := h.s15 (show i < ns by omega)
    have r77 : R 377 (14 * k + i) = u 15 i := h3 i (by omega)
    have dl := dfS_l (u := u) (v := v) i 0
    rw [Nat.zero_add] at dl
    show ∃ R', fM_changes_B148 _ _ _ _ _ _ _ _ _ _ _ = _ ∧ _
    unfold fM_changes_B148 fM_changes_J187
    rw [pk_m1, if_neg (nI_pos (by omega)), sm_ck_pos (am_t_pk (by decide)), sp_330_17 hS, sp_330_58 hS, e14, sm_ck_pos (sm_in_nI (by decide) (by omega)), sm_ck_pos (sm_in_nI (by decide) (by omega)), nI_clamp (show 14 * k + i < 2 ^ 31 by omega), nI_clamp (show i < 2 ^ 31 by omega), put_rd sc_348, put_rd sc_377, r48, r77, bd_eq, put_up sc_330, bd_eq, put_up sc_330, bd_eq, bd_eq]
    by_cases q : v 15 i = u 15 i
    · rw [if_pos q]
      rw [cif_t q.symm] at dl
      obtain ⟨R', y1, y2, y3, y4⟩ := m_ch148 hS hk (l2 := l2) (l4 := l4) (ex := ex) i fu R (by omega) (by omega) h h3
      refine ⟨R', y1, y2, y3, ?_⟩
      rcases y4 with ⟨s, a1, a2, a3⟩ | ⟨a1, a2, a3⟩
      · rw [a1] at dl
        exact Or.inl ⟨s, dl, a2, a3⟩
      · rw [a1] at dl
        exact Or.inr ⟨dl, a2, a3⟩
    · rw [if_neg q]
      rw [cif_f (fun z => q z.symm)] at dl
      obtain ⟨R', y1, y2, y3, y4⟩ := m_ch148 hS hk (l2 := l2) (l4 := l4) (ex := ex) i fu (am_up (am_up R 330 59 l4) 330 60 (nI i)) (by omega) (by omega) (h.fr (fun c c1 c2 => by funext j; rw [am_up_ne (by omega), am_up_ne (by omega)])) (fun s' hs => by rw [am_up_ne (by decide), am_up_ne (by decide)]; exact h3 s' hs)
      refine ⟨R', y1, fun c hc => by rw [y2 c hc]; funext j; rw [am_up_ne hc, am_up_ne hc], fun j a1 a2 => by rw [y3 j a1 a2, am_up_nk a2, am_up_nk a1], ?_⟩
      rcases y4 with ⟨s, a1, a2, a3⟩ | ⟨a1, a2, a3⟩
      · rw [a1] at dl
        exact Or.inl ⟨s, dl, a2, a3⟩
      · rw [a1] at dl
        refine Or.inl ⟨i, dl, ?_, ?_⟩
        · rw [a2, am_up_nk (by decide), am_up_eq]
        · rw [a3, am_up_eq]
theorem m_ch114 (hS : SP P) {n k0 : Nat} (hn : n ≤ 30) (hk0 : k0 ≤ 999) (e0 : w 0 1 = nI k0) {ex : Nat → am_M → am_Q → Nat → Nat → Option (Int32 × am_S)} : ∀ (d k fu : Nat) (I R : am_M) (nx sl : Nat), d < fu → k + d = n → 379 ≤ nx → MW R (hrN t' m nb ns ne k w) t' m nb ns ne → R 330 59 = -1 → (∀ k' s', k' < n → s' < ns → R 377 (14 * k' + s') = hrN t m nb ns ne (k' + 1) w 15 s') → ∃ I' R' nx' sl', fM_changes_L114 ex fu (am_pk 330 0 13) (nI n) (nI k) (put I R) P nx sl = ex (am_pk 330 0 13) (put I' R') P nx' sl' ∧ nx ≤ nx' ∧ nx' ≤ nx + nb * d ∧ sl' ≤ sl + 2 * (nb * d) ∧ frHc R R' ∧ frI I I' ∧ ((∃ j s, fcF (fun i => hrN t m nb ns ne i w) (fun i => hrN t' m nb ns ne i w) ns d k = some (j, s) ∧ R' 330 59 = nI (k0 + j) ∧ R' 330 60 = nI s) ∨ (fcF (fun i => hrN t m nb ns ne i w) (fun i => hrN t' m nb ns ne i w) ns d k = none ∧ R' 330 59 = -1))
  | 0, k, fu, I, R, nx, sl, h1, h2, h3, h, h59, hl => by
    obtain ⟨fu, rfl⟩ : ∃ n', fu = n' + 1 := ⟨fu - 1, by omega⟩
    refine ⟨I, R, nx, sl, ?_, Nat.le_refl _, by omega, by omega, frHc.rfl, frI.rfl, Or.inr ⟨rfl, h59⟩⟩
    show fM_changes_B114 _ _ _ _ _ _ _ _ _ = _
    unfold fM_changes_B114
    rw [if_pos (by rw [nI_leI (by omega) (by omega)]; omega)]
  | d + 1, k, fu, I, R, nx, sl, h1, h2, h3, h, h59, hl => by
    obtain ⟨fu, rfl⟩ : ∃ n', fu = n' + 1 := ⟨fu - 1, by omega⟩
    have hle := h.le
    have e1 := hrN_01 (t := t') (m := m) (nb := nb) (ns := ns) (ne := ne) e0 k
    have n3 : R 332 3 = nI (k0 + k) := h.n3.trans e1
    obtain ⟨I1, R1, y1, y2, y3, y4, y5⟩ := m_hour (I := I) (nx := nx) (sl := sl) hS h h3 (show k0 + k < 2000 by omega) e1
    have y2' : MW R1 (hrN t' m nb ns ne (k + 1) w) t' m nb ns ne := y2
    have e77 : R1 377 = R 377 := y4.1 377 (by decide) (by decide) (by decide)
    obtain ⟨R2, z1, z2, z3, z4⟩ := m_ch148 (I := I1) (P := P) (nx := nx + nb) (sl := sl + 2 * nb) hS (show k < 30 by omega) (u := hrN t m nb ns ne (k + 1) w) (l2 := nI n) (l4 := nI (k0 + k)) (ex := fun l0 l2 l3 I P nx sl => sm_bd (l3 + 1) fun x40 => fM_changes_L114 ex fu l0 l2 x40 I P nx sl) ns sm_fu R1 (sm_fu_lt (by omega)) (Nat.le_refl _) y2' (fun s' hs => by rw [e77]; exact hl k s' (by omega) hs)
    have run : fM_changes_L114 ex (fu + 1) (am_pk 330 0 13) (nI n) (nI k) (put I R) P nx sl = fM_changes_L114 ex fu (am_pk 330 0 13) (nI n) (nI (k + 1)) (put I1 R2) P (nx + nb) (sl + 2 * nb) := by
      show fM_changes_B114 _ _ _ _ _ _ _ _ _ = _
      unfold fM_changes_B114
      rw [if_neg (by rw [nI_leI (by omega) (by omega)]; omega), sm_ck_pos (am_t_pk (by decide)), put_rd sc_330, h59, if_neg (by decide), sp_330_1 hS, sm_ck_pos (inl l_3 (by decide) (by decide)), cl_3, put_rd sc_332, n3, bd_eq, y1, Option.bind_some]
      dsimp only
      rw [sp_330_1 hS, sm_ck_pos (inl l_1 (by decide) (by decide)), cl_1, put_rd sc_332, y2'.n1, ← nI_dm, bd_eq]
      refine Eq.trans z1 ?_
      rw [bd_eq, nI_1]
    have f2 : frHc R R2 := y4.Hc.tr ⟨fun c a1 a2 a3 a4 => z2 c a1, fun j a1 a2 a3 => z3 j a2 a3⟩
    have en : nx + nb + nb * d = nx + nb * (d + 1) := by rw [Nat.mul_succ]; omega
    have es : sl + 2 * nb + 2 * (nb * d) = sl + 2 * (nb * (d + 1)) := by rw [Nat.mul_succ]; omega
    rw [run]
    rcases z4 with ⟨s, a1, a2, a3⟩ | ⟨a1, a2, a3⟩
    · refine ⟨I1, R2, nx + nb, sl + 2 * nb, ?_, by omega, by omega, by omega, f2, y5, Or.inl ⟨k, s, fcF_s a1, a2, a3⟩⟩
      obtain ⟨fu, rfl⟩ : ∃ n', fu = n' + 1 := ⟨fu - 1, by omega⟩
      show fM_changes_B114 _ _ _ _ _ _ _ _ _ = _
      unfold fM_changes_B114
      by_cases q : nI n ≤ nI (k + 1)
      · rw [if_pos q]
      · rw [if_neg q, sm_ck_pos (am_t_pk (by decide)), put_rd sc_330, a2, if_pos (nI_pos' (by omega))]
    · obtain ⟨I3, R3, nx3, sl3, w1, w2, w3, w4, w5, w6, w7⟩ := m_ch114 hS hn hk0 e0 (ex := ex) d (k + 1) fu I1 R2 (nx + nb) (sl + 2 * nb) (by omega) (by omega) (by omega) (y2'.fr (fun c c1 c2 => z2 c (by omega))) (by rw [a2, y4.2 59 (by decide)]; exact h59) (fun k' s' hk hs => by rw [z2 377 (by decide), e77]; exact hl k' s' hk hs)
      refine ⟨I3, R3, nx3, sl3, w1, by omega, by omega, by omega, f2.tr w5, y5.tr w6, ?_⟩
      rw [fcF_n a1]
      exact w7
end Chg
