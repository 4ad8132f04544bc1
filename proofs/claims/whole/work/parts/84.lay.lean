/-! ===== the calls end and lay ===== -/
theorem h_isM {v : Int32} : fX_isMachines v = some (bI (1 ≤ v ∧ v ≤ 3)) := by
  unfold fX_isMachines
  by_cases h1 : v < 1
  · rw [if_pos h1, bI_f (fun z => absurd z.1 (i_nle.mpr h1))]
  · rw [if_neg h1]
    by_cases h2 : 3 < v
    · rw [if_pos h2, bI_f (fun z => absurd z.2 (i_nle.mpr h2))]
    · rw [if_neg h2, bI_t ⟨i_nl.mp h1, i_nl.mp h2⟩]
theorem le_pm {v : Int32} {q : Nat} (h1 : 1 ≤ q) (h2 : q ≤ 3) : (0 ≤ v ∧ v ≤ nI q - 1) ↔ (0 ≤ v ∧ v < nI q) := by
  obtain ⟨p, rfl⟩ : ∃ p, q = p + 1 := ⟨q - 1, by omega⟩
  refine and_congr Iff.rfl ?_
  rw [← nI_dm, pk_m1, i_le, i_lt, nI_toInt (by omega), nI_toInt (by omega)]
  omega
/-- the smallest and where it is first -/
def lyF (T : Nat → Nat) : Nat → Nat → Nat → Nat → Nat × Nat
  | 0, _, b, i => (b, i)
  | d + 1, v, b, i => if T v < b then lyF T d (v + 1) (T v) v else lyF T d (v + 1) b i
section Lay
variable {I R : am_M} {P : am_Q} {nx sl : Nat} {w : am_M} {t : Nat → Nat → List Nat} {m nb ns ne : Nat}
theorem frV.of {R R' : am_M} (e : ∀ c, (c < 308 ∨ 320 ≤ c) → (c < 371 ∨ 378 ≤ c) → R' c = R c) : frV R R' := by
  refine ⟨fun c hc => e c (by omega) (by omega), fun c hc => ?_, fun k hk => ?_, ?_, fun j _ => ?_⟩
  · unfold kpc at hc
    exact e c (by omega) (by omega)
  · rw [e 330 (by decide) (by decide)]
  · rw [e 299 (by decide) (by decide)]
  · rw [e 357 (by decide) (by decide)]
theorem INV.okE {R2 : am_M} (h : INV I R P nx w t m nb ns ne) (e : ∀ c, (c < 308 ∨ 320 ≤ c) → (c < 371 ∨ 378 ≤ c) → R2 c = R c) : ∃ w t m nb ns ne, INV I R2 P nx w t m nb ns ne :=
  h.bes2 (frV.of e) ⟨fun _ _ _ => rfl, fun _ _ _ => rfl⟩ h.1.1.2.2.1 (h.mw.fr (fun c c1 c2 => e c (by omega) (by omega))) frI.rfl (Nat.le_refl _)
theorem x_blwL (hS : SP P) {s n : Nat} {q : Int32} (hs : s < 4) (hn : n ≤ 24) (h1 : R (321 + 2 * s) 1 = nI n) : ∀ (d k fu : Nat), d < fu → k + d = n → fE_areBelow_L2 (put I R) P (some 0) (some 1) fu (am_pk (321 + 2 * s) 0 9) q (nI k) = some (bI (∀ i, k ≤ i → i < n → 0 ≤ R (322 + 2 * s) i ∧ R (322 + 2 * s) i < q))
  | 0, k, fu, hd, h2 => by
    obtain ⟨fu, rfl⟩ : ∃ n', fu = n' + 1 := ⟨fu - 1, by omega⟩
    show fE_areBelow_B2 _ _ _ _ _ _ _ _ = _
    unfold fE_areBelow_B2
    rw [sm_ck_pos (am_t_pk (by decide)), put_rd (sc_sh hs), h1, if_pos (by rw [nI_leI (by omega) (by omega)]; omega), bI_t (fun i a b => absurd b (by omega))]
  | d + 1, k, fu, hd, h2 => by
    obtain ⟨fu, rfl⟩ : ∃ n', fu = n' + 1 := ⟨fu - 1, by omega⟩
    show fE_areBelow_B2 _ _ _ _ _ _ _ _ = _
    unfold fE_areBelow_B2
    rw [sm_ck_pos (am_t_pk (by decide)), put_rd (sc_sh hs), h1, if_neg (by rw [nI_leI (by omega) (by omega)]; omega), sp_sn hS hs, nI_clamp (show k < 2 ^ 31 by omega), put_rd (sc_sn hs), sm_ck_pos (sm_in_nI (by decide) (by omega)), sm_ck_pos (sm_in_nI (by decide) (by omega)), bd_eq, nI_1]
    by_cases a : R (322 + 2 * s) k < 0
    · rw [if_pos a, bI_f (fun z => absurd (z k (Nat.le_refl _) (by omega)).1 (i_nle.mpr a))]
    · rw [if_neg a]
      by_cases b : R (322 + 2 * s) k < q
      · rw [if_pos b, x_blwL hS hs hn h1 d (k + 1) fu (by omega) (by omega)]
        refine congrArg some (bI_c ⟨fun z i a1 a2 => ?_, fun z i a1 a2 => z i (by omega) a2⟩)
        by_cases e : i = k
        · rw [e]; exact ⟨i_nl.mp a, b⟩
        · exact z i (by omega) a2
      · rw [if_neg b, bI_f (fun z => b (z k (Nat.le_refl _) (by omega)).2)]
theorem m_enL (hS : SP P) {s n q : Nat} (hs : s < 4) (hn : n ≤ 7) (h1 : 1 ≤ q) (h2 : q ≤ 3) {e1 e2 : Nat → am_M → Option (Int32 × am_M)} : ∀ (d k fu : Nat) (R : am_M), d < fu → k + d = n → R 369 s = nI n → (∀ i, i < k → R 373 i = R 370 (24 * s + i)) → ∃ R', fM_end_L65 P e1 e2 fu (am_pk 330 0 13) (nI q) (nI s) (nI k) (put I R) = cif (∀ i, k ≤ i → i < n → 0 ≤ R 370 (24 * s + i) ∧ R 370 (24 * s + i) < nI q) (e2 (am_pk 330 0 13) (put I R')) (e1 (am_pk 330 0 13) (put I R')) ∧ ((∀ i, k ≤ i → i < n → 0 ≤ R 370 (24 * s + i) ∧ R 370 (24 * s + i) < nI q) → ∀ i, i < n → R' 373 i = R 370 (24 * s + i)) ∧ ∀ c, c ≠ 373 → R' c = R c
  | 0, k, fu, R, hd, hk, h9, h3 => by
    obtain ⟨fu, rfl⟩ : ∃ n', fu = n' + 1 := ⟨fu - 1, by omega⟩
    refine ⟨R, ?_, fun _ i hi => h3 i (by omega), fun _ _ => rfl⟩
    show fM_end_B65 _ _ _ _ _ _ _ _ _ = _
    unfold fM_end_B65
    rw [sm_ck_pos (am_t_pk (by decide)), sp_330_48 hS, sm_ck_pos (sm_in_nI (by decide) (by omega)), nI_clamp (show s < 2 ^ 31 by omega), put_rd sc_369, h9, if_pos (by rw [nI_leI (by omega) (by omega)]; omega), cif_t (fun i a b => absurd b (by omega))]
  | d + 1, k, fu, R, hd, hk, h9, h3 => by
    obtain ⟨fu, rfl⟩ : ∃ n', fu = n' + 1 := ⟨fu - 1, by omega⟩
    have e24 : (24 : Int32) * nI s + nI k = nI (24 * s + k) := by rw [show (24 : Int32) = nI 24 from rfl, pk_mul, nI_add]
    have run : ∀ rr, fM_end_B65 P e1 e2 rr (am_pk 330 0 13) (nI q) (nI s) (nI k) (put I R) = cif (0 ≤ R 370 (24 * s + k) ∧ R 370 (24 * s + k) < nI q) (rr (am_pk 330 0 13) (nI q) (nI s) (nI (k + 1)) (put I (am_up R 373 k (R 370 (24 * s + k))))) (e1 (am_pk 330 0 13) (put I R)) := by
      intro rr
      unfold fM_end_B65
      rw [sm_ck_pos (am_t_pk (by decide)), sp_330_48 hS, sm_ck_pos (sm_in_nI (by decide) (by omega)), nI_clamp (show s < 2 ^ 31 by omega), put_rd sc_369, h9, if_neg (by rw [nI_leI (by omega) (by omega)]; omega), sp_330_49 hS, sp_330_54 hS, e24, sm_ck_pos (sm_in_nI (by decide) (by omega)), sm_ck_pos (sm_in_nI (by decide) (by omega)), sm_ck_pos (sm_iw_nI (by decide) (by decide) (by omega)), nI_clamp (show 24 * s + k < 2 ^ 31 by omega), nI_clamp (show k < 2 ^ 31 by omega), put_rd sc_370, put_up sc_373, h_within, Option.bind_some, bI_ifn, bd_eq, bd_eq, nI_1]
      by_cases a : 0 ≤ R 370 (24 * s + k) ∧ R 370 (24 * s + k) < nI q
      · rw [cif_t a, if_pos ((le_pm h1 h2).mpr a)]
      · rw [cif_f a, if_neg (fun z => a ((le_pm h1 h2).mp z))]
    show ∃ R', fM_end_B65 _ _ _ _ _ _ _ _ _ = _ ∧ _
    rw [run]
    by_cases a : 0 ≤ R 370 (24 * s + k) ∧ R 370 (24 * s + k) < nI q
    · rw [cif_t a]
      have ea : ∀ i, am_up R 373 k (R 370 (24 * s + k)) 370 i = R 370 i := fun i => am_up_ne (by decide)
      obtain ⟨R', y1, y2, y3⟩ := m_enL hS hs hn h1 h2 (e1 := e1) (e2 := e2) d (k + 1) fu (am_up R 373 k (R 370 (24 * s + k))) (by omega) (by omega) (by rw [am_up_ne (by decide)]; exact h9) (fun i hi => by
        rw [ea]
        by_cases e : i = k
        · rw [e, am_up_eq]
        · rw [am_up_nk e]; exact h3 i (by omega))
      simp only [ea] at y1 y2
      have eqv : (∀ i, k ≤ i → i < n → 0 ≤ R 370 (24 * s + i) ∧ R 370 (24 * s + i) < nI q) ↔ (∀ i, k + 1 ≤ i → i < n → 0 ≤ R 370 (24 * s + i) ∧ R 370 (24 * s + i) < nI q) := ⟨fun z i a1 a2 => z i (by omega) a2, fun z i a1 a2 => by
        by_cases e : i = k
        · rw [e]; exact a
        · exact z i (by omega) a2⟩
      rw [propext eqv]
      exact ⟨R', y1, y2, fun c hc => by rw [y3 c hc]; funext j; rw [am_up_ne hc]⟩
    · have no : ¬ (∀ i, k ≤ i → i < n → 0 ≤ R 370 (24 * s + i) ∧ R 370 (24 * s + i) < nI q) := fun z => a (z k (Nat.le_refl _) (by omega))
      rw [cif_f a]
      exact ⟨R, by rw [cif_f no], fun z => absurd z no, fun _ _ => rfl⟩
theorem x_endAs (hS : SP P) (h : CW I R P 7 w t m nb ns ne) {s : Nat} (hs : s < 4) {f : Nat → Nat} (hf : ∀ b, b < nb → f b < 3) (hf1 : ∀ b, b < nb → R (322 + 2 * s) b = nI (f b)) : ∃ R', fC_endAs P (am_pk 314 0 5) (am_pk 7 0 11) (am_pk (322 + 2 * s) 24 20) (put I R) = some (nI (enT w nb ns f), put I R') ∧ ∀ c, (c < 315 ∨ 320 ≤ c) → R' c = R c := by
  have hle := h.le
  have ef : ∀ c, c ≠ 315 → am_set R 315 (va_cpy (R (322 + 2 * s)) (R 315) 0 0 nb) c = R c := fun c hc => am_setne hc
  have e3 : ∀ b, b < nb → am_set R 315 (va_cpy (R (322 + 2 * s)) (R 315) 0 0 nb) 315 b = nI (f b) := fun b hb => by
    rw [am_set_eq, pk_cpy_in (by omega) (by omega), show 0 + (b - 0) = b by omega]
    exact hf1 b hb
  have h1 : CW I (am_set R 315 (va_cpy (R (322 + 2 * s)) (R 315) 0 0 nb)) P 7 w t m nb ns ne := h.fr (fun c c1 c2 => ef c (by omega)) (fun c hc => ef c (by omega))
  obtain ⟨R1, y1, y2, y3⟩ := x_waits hS h1
  have h2 : CW I R1 P 7 w t m nb ns ne := h1.fr (fun c c1 c2 => y3 c (by omega)) (fun c hc => y3 c (by omega))
  obtain ⟨R2, z1, z2⟩ := x_endB hS h2 hf (B := 1000) (by decide) y2 (fun b hb => by rw [y3 315 (by decide)]; exact e3 b hb)
  have hT := enT_bd h.2.2.1 (f := f)
  rw [cif_t (by omega)] at z1
  refine ⟨R2, ?_, fun c hc => by rw [z2 c (by omega) (by omega), y3 c (by omega), ef c (by omega)]⟩
  unfold fC_endAs
  rw [sm_ck_pos (am_t_pk (by decide)), sm_ck_pos (am_t_pk (by decide)), sm_ck_pos (am_t_pk (by decide)), sp_314_0 hS, put_rd (sc_w0 h.1), h.c6, ck_cp (by omega) (by decide) (by omega) (by omega) (by decide) (by decide), cl_0, nI_clamp (show nb < 2 ^ 31 by omega), put_rd' (sc_sn hs), put_rd' sc_315, put_set sc_315, bd_eq, y1, Option.bind_some, show (1000 : Int32) = nI 1000 from rfl, z1, Option.bind_some]
theorem op_end (h : INV I R P nx w t m nb ns ne) {a b : Int32} : OK1 I R P nx (fX_end P (am_pk 2 0 12) a b) (fM_end P (am_pk 330 0 13) a b) := by
  have hS := h.sp
  have hle := h.mw.le
  by_cases ha : 1 ≤ a ∧ a ≤ 3
  · by_cases hb : 0 ≤ b ∧ b < 4
    · obtain ⟨q, q1, q2, rfl⟩ := rng_nI (lo := 1) (hi := 3) ha.1 ha.2 (by decide) (by decide)
      obtain ⟨s, hs, rfl⟩ := ran_ix (n := 4) hb (by decide)
      obtain ⟨o1, o2, ⟨z, hz, o3⟩, o4, o5⟩ := h.1.2.2.2.1 s hs
      have hs4 : s < 4 := hs
      by_cases g1 : R 368 s = 0
      · have g1' : R (321 + 2 * s) 2 = 0 := by rw [← o2]; exact g1
        refine h.fl (v := -1000006) (k := 5) (by decide) ?_ (fun R1 hM hc1 => ?_)
        · unfold fX_end
          rw [h_isM, Option.bind_some, bI_if, if_pos ha, h_isSheet, Option.bind_some, bI_ifn, if_pos hb, sm_ck_pos (am_t_pk (by decide)), sp_2_13 hS, sm_ck_pos (sm_ia_nI (by decide) (by decide) (by decide) hs), nI_clamp (show s < 2 ^ 31 by omega), sp_sh hS hs, sm_ck_pos (am_t_pk (by decide)), x_miss hS hs, Option.bind_some, bI_if, if_pos g1', x_f6 hS, Option.bind_some]
        · unfold fM_end
          rw [h_within, Option.bind_some, bI_if, if_pos ha, h_w03, Option.bind_some, bI_ifn, if_pos hb, sm_ck_pos (am_t_pk (by decide)), sp_330_47 hS, sm_ck_pos (sm_in_nI (by decide) hs), nI_clamp (show s < 2 ^ 31 by omega), put_rd sc_368, hc1 368 (by decide), if_neg (fun y => y g1), m_f6 hS, Option.bind_some]
      · have g1' : ¬ R (321 + 2 * s) 2 = 0 := by rw [← o2]; exact g1
        by_cases g2 : R 369 s = nI nb
        · have g2' : R (321 + 2 * s) 1 = nI nb := o1.symm.trans g2
          have bl : fE_areBelow (put I R) P (am_pk (321 + 2 * s) 0 9) (nI q) = _ := x_blwL (q := nI q) hS hs (by omega) g2' nb 0 sm_fu (sm_fu_lt (by omega)) (by omega)
          have eqv : (∀ i, 0 ≤ i → i < nb → 0 ≤ R (322 + 2 * s) i ∧ R (322 + 2 * s) i < nI q) ↔ (∀ i, 0 ≤ i → i < nb → 0 ≤ R 370 (24 * s + i) ∧ R 370 (24 * s + i) < nI q) := ⟨fun y i a1 a2 => ((itm_ran (n := q) (o5 i (by omega)) (by omega)).1).mp (y i a1 a2), fun y i a1 a2 => ((itm_ran (n := q) (o5 i (by omega)) (by omega)).1).mpr (y i a1 a2)⟩
          rw [bI_c eqv] at bl
          by_cases g3 : ∀ i, 0 ≤ i → i < nb → 0 ≤ R 370 (24 * s + i) ∧ R 370 (24 * s + i) < nI q
          · have fx : ∀ i, i < nb → ∃ f, f < q ∧ R 370 (24 * s + i) = nI f := fun i hi => ran_ix (g3 i (Nat.zero_le _) hi) (by omega)
            have hf : ∀ i, i < nb → ix (R 370 (24 * s + i)) < 3 := fun i hi => by
              obtain ⟨f, f1, f2⟩ := fx i hi
              rw [f2, show ix (nI f) = f from nI_clamp (by omega)]; omega
            have hf2 : ∀ i, i < nb → R 370 (24 * s + i) = nI (ix (R 370 (24 * s + i))) := fun i hi => by
              obtain ⟨f, f1, f2⟩ := fx i hi
              rw [f2, show ix (nI f) = f from nI_clamp (by omega)]
            have hf3 : ∀ i, i < nb → R (322 + 2 * s) i = nI (ix (R 370 (24 * s + i))) := fun i hi => ((itm_ran (n := q) (o5 i (by omega)) (by omega)).2 (g3 i (Nat.zero_le _) hi)).trans (hf2 i hi)
            obtain ⟨R1, x1, x2⟩ := x_endAs hS h.cw hs (f := fun i => ix (R 370 (24 * s + i))) hf hf3
            have m1 : MW R1 w t m nb ns ne := h.mw.fr (fun c c1 c2 => x2 c (by omega))
            obtain ⟨R2, y1, y2, y3⟩ := m_enL (I := I) (P := P) (n := nb) (q := q) hS hs hle.1 q1 q2 (e1 := fun l0 I =>
              sm_ck (am_t l0 = 13) <|
              Option.bind (fM_finds P l0 ((-1000001)) I) fun y24 =>
              some (y24.1, y24.2)) (e2 := fun l0 I =>
              sm_ck (am_t l0 = 13) <|
              Option.bind (fM_endOf P l0 I) fun y26 =>
              some (y26.1, y26.2)) nb 0 sm_fu R1 (sm_fu_lt (by omega)) (by omega) (by rw [x2 369 (by decide)]; exact g2) (fun i hi => absurd hi (Nat.not_lt_zero _))
            rw [x2 370 (by decide)] at y1 y2
            rw [cif_t g3] at y1
            have m2 : MW R2 w t m nb ns ne := m1.fr (fun c c1 c2 => y3 c (by omega))
            obtain ⟨R3, z1, z2⟩ := m_endOf (I := I) hS m2 (f := fun i => ix (R 370 (24 * s + i))) hf (fun i hi => (y2 g3 i hi).trans (hf2 i hi))
            refine ⟨nI (enT w nb ns (fun i => ix (R 370 (24 * s + i)))), R1, R3, ?_, ?_, h.okE (fun c c1 c2 => by rw [z2 c (by omega) (by omega), y3 c (by omega), x2 c (by omega)])⟩
            · unfold fX_end
              rw [h_isM, Option.bind_some, bI_if, if_pos ha, h_isSheet, Option.bind_some, bI_ifn, if_pos hb, sm_ck_pos (am_t_pk (by decide)), sp_2_13 hS, sm_ck_pos (sm_ia_nI (by decide) (by decide) (by decide) hs), nI_clamp (show s < 2 ^ 31 by omega), sp_sh hS hs, sm_ck_pos (am_t_pk (by decide)), x_miss hS hs, Option.bind_some, bI_if, if_neg g1', sm_ck_pos (sm_ia_nI (by decide) (by decide) (by decide) hs), sp_2_0 hS, sm_ck_pos (am_t_pk (by decide)), put_rd (sc_sh hs), put_rd (sc_w0 W7), g2', h.cw.c6, if_pos rfl, sm_ck_pos (sm_ia_nI (by decide) (by decide) (by decide) hs), bl, Option.bind_some, bI_ifn, if_pos g3, sm_ck_pos (sm_ia_nI (by decide) (by decide) (by decide) hs), sp_2_12 hS, sm_ck_pos (am_t_pk (by decide)), sp_sn hS hs, x1, Option.bind_some]
            · unfold fM_end
              rw [h_within, Option.bind_some, bI_if, if_pos ha, h_w03, Option.bind_some, bI_ifn, if_pos hb, sm_ck_pos (am_t_pk (by decide)), sp_330_47 hS, sp_330_48 hS, sp_330_1 hS, sm_ck_pos (sm_in_nI (by decide) hs), nI_clamp (show s < 2 ^ 31 by omega), put_rd sc_368, x2 368 (by decide), if_pos g1, sm_ck_pos (sm_in_nI (by decide) hs), sm_ck_pos (inl l_0 (by decide) (by decide)), cl_0, put_rd sc_369, put_rd sc_332, x2 369 (by decide), g2, m1.n0, if_pos rfl]
              refine Eq.trans y1 ?_
              rw [sm_ck_pos (am_t_pk (by decide)), z1, Option.bind_some]
          · have m1 : MW (am_up R 329 0 (R 329 0 + 1)) w t m nb ns ne := h.mw.fr (fun c c1 c2 => by funext j; rw [am_up_ne (by omega)])
            obtain ⟨R2, y1, -, y3⟩ := m_enL (I := I) (P := P) (n := nb) (q := q) hS hs hle.1 q1 q2 (e1 := fun l0 I =>
              sm_ck (am_t l0 = 13) <|
              Option.bind (fM_finds P l0 ((-1000001)) I) fun y24 =>
              some (y24.1, y24.2)) (e2 := fun l0 I =>
              sm_ck (am_t l0 = 13) <|
              Option.bind (fM_endOf P l0 I) fun y26 =>
              some (y26.1, y26.2)) nb 0 sm_fu (am_up R 329 0 (R 329 0 + 1)) (sm_fu_lt (by omega)) (by omega) (by rw [am_up_ne (by decide)]; exact g2) (fun i hi => absurd hi (Nat.not_lt_zero _))
            have e70 : am_up R 329 0 (R 329 0 + 1) 370 = R 370 := by funext j; rw [am_up_ne (by decide)]
            rw [e70, cif_f g3] at y1
            have e31 : R2 331 = R 331 := by rw [y3 331 (by decide)]; funext j; rw [am_up_ne (by decide)]
            refine ⟨-1000001, am_up R 329 0 (R 329 0 + 1), am_up R2 331 0 (R2 331 0 + 1), ?_, ?_, (h.fnd (k := 0) (by decide)).okE (fun c c1 c2 => ?_)⟩
            · unfold fX_end
              rw [h_isM, Option.bind_some, bI_if, if_pos ha, h_isSheet, Option.bind_some, bI_ifn, if_pos hb, sm_ck_pos (am_t_pk (by decide)), sp_2_13 hS, sm_ck_pos (sm_ia_nI (by decide) (by decide) (by decide) hs), nI_clamp (show s < 2 ^ 31 by omega), sp_sh hS hs, sm_ck_pos (am_t_pk (by decide)), x_miss hS hs, Option.bind_some, bI_if, if_neg g1', sm_ck_pos (sm_ia_nI (by decide) (by decide) (by decide) hs), sp_2_0 hS, sm_ck_pos (am_t_pk (by decide)), put_rd (sc_sh hs), put_rd (sc_w0 W7), g2', h.cw.c6, if_pos rfl, sm_ck_pos (sm_ia_nI (by decide) (by decide) (by decide) hs), bl, Option.bind_some, bI_ifn, if_neg g3, x_f1 hS, Option.bind_some]
            · have e8 : am_up R 329 0 (R 329 0 + 1) 368 s = R 368 s := am_up_ne (by decide)
              have e9 : am_up R 329 0 (R 329 0 + 1) 369 s = nI nb := by rw [am_up_ne (by decide)]; exact g2
              unfold fM_end
              rw [h_within, Option.bind_some, bI_if, if_pos ha, h_w03, Option.bind_some, bI_ifn, if_pos hb, sm_ck_pos (am_t_pk (by decide)), sp_330_47 hS, sp_330_48 hS, sp_330_1 hS, sm_ck_pos (sm_in_nI (by decide) hs), nI_clamp (show s < 2 ^ 31 by omega), put_rd sc_368, e8, if_pos g1, sm_ck_pos (sm_in_nI (by decide) hs), sm_ck_pos (inl l_0 (by decide) (by decide)), cl_0, put_rd sc_369, put_rd sc_332, e9, m1.n0, if_pos rfl]
              refine Eq.trans y1 ?_
              rw [sm_ck_pos (am_t_pk (by decide)), m_f1 hS, Option.bind_some]
            · rw [e31]
              by_cases z1 : c = 331
              · rw [z1]
                refine upc (e31.trans ?_)
                funext j; rw [am_up_ne (by decide)]
              · funext j; rw [am_up_ne z1, am_up_ne z1, y3 c (by omega)]
        · have g2' : ¬ R (321 + 2 * s) 1 = nI nb := by rw [← o1]; exact g2
          refine h.fl (v := -1000007) (k := 6) (by decide) ?_ (fun R1 hM hc1 => ?_)
          · unfold fX_end
            rw [h_isM, Option.bind_some, bI_if, if_pos ha, h_isSheet, Option.bind_some, bI_ifn, if_pos hb, sm_ck_pos (am_t_pk (by decide)), sp_2_13 hS, sm_ck_pos (sm_ia_nI (by decide) (by decide) (by decide) hs), nI_clamp (show s < 2 ^ 31 by omega), sp_sh hS hs, sm_ck_pos (am_t_pk (by decide)), x_miss hS hs, Option.bind_some, bI_if, if_neg g1', sm_ck_pos (sm_ia_nI (by decide) (by decide) (by decide) hs), sp_2_0 hS, sm_ck_pos (am_t_pk (by decide)), put_rd (sc_sh hs), put_rd (sc_w0 W7), h.cw.c6, if_neg g2', x_f7 hS, Option.bind_some]
          · unfold fM_end
            rw [h_within, Option.bind_some, bI_if, if_pos ha, h_w03, Option.bind_some, bI_ifn, if_pos hb, sm_ck_pos (am_t_pk (by decide)), sp_330_47 hS, sp_330_48 hS, sp_330_1 hS, sm_ck_pos (sm_in_nI (by decide) hs), nI_clamp (show s < 2 ^ 31 by omega), put_rd sc_368, hc1 368 (by decide), if_pos g1, sm_ck_pos (sm_in_nI (by decide) hs), sm_ck_pos (inl l_0 (by decide) (by decide)), cl_0, put_rd sc_369, put_rd sc_332, hc1 369 (by decide), hM.n0, if_neg g2, m_f7 hS, Option.bind_some]
    · refine h.fl (v := -1000001) (k := 0) (by decide) ?_ (fun R1 hM hc1 => ?_)
      · unfold fX_end
        rw [h_isM, Option.bind_some, bI_if, if_pos ha, h_isSheet, Option.bind_some, bI_ifn, if_neg hb, sm_ck_pos (am_t_pk (by decide)), x_f1 hS, Option.bind_some]
      · unfold fM_end
        rw [h_within, Option.bind_some, bI_if, if_pos ha, h_w03, Option.bind_some, bI_ifn, if_neg hb, sm_ck_pos (am_t_pk (by decide)), m_f1 hS, Option.bind_some]
  · refine h.fl (v := -1000001) (k := 0) (by decide) ?_ (fun R1 hM hc1 => ?_)
    · unfold fX_end
      rw [h_isM, Option.bind_some, bI_if, if_neg ha, sm_ck_pos (am_t_pk (by decide)), x_f1 hS, Option.bind_some]
    · unfold fM_end
      rw [h_within, Option.bind_some, bI_if, if_neg ha, sm_ck_pos (am_t_pk (by decide)), m_f1 hS, Option.bind_some]
end Lay
