/-! ===== the call step ===== -/
section Step
variable {I R : am_M} {P : am_Q} {nx sl : Nat} {w : am_M} {t : Nat → Nat → List Nat} {m nb ns ne : Nat}
theorem frI.ap {I' : am_M} (h : frI I I') (hA : apok I) : apok I' := by
  have e : I' am_ap = I am_ap := h am_ap (by rw [am_apt]; decide)
  unfold apok
  rw [e]; exact hA
theorem KP.v {b pl : Nat} (h : KP I R P b pl) : ∃ W : WV, hr9 W.1 ∧ CWv I R P b W ∧ MWv (PK R pl) W := by
  obtain ⟨w, t, m, nb, ns, ne, h1, h2, h3⟩ := h
  exact ⟨(w, t, m, nb, ns, ne), h1, h2, h3⟩
theorem op_step (h : INV I R P nx w t m nb ns ne) {a : Int32} : OK3 I R P nx sl (fX_step (am_pk 2 0 12) a) (fM_step (am_pk 330 0 13) a) := by
  have hS := h.sp
  have hle := h.mw.le
  obtain ⟨k0, hk0, ek0⟩ := h.2.1
  have r1 : R 7 1 = nI k0 := (h.cw.rs (by decide)).trans ek0
  by_cases hr : 1 ≤ a ∧ a ≤ 50
  · obtain ⟨n, n1, n2, rfl⟩ := rng_nI (lo := 1) (hi := 50) hr.1 hr.2 (by decide) (by decide)
    have h1 : ¬ nI n < 1 := i_nl.mpr hr.1
    by_cases h2 : nI k0 + nI n ≤ 999
    · have hkn : k0 + n ≤ 999 := by rw [nI_add, l_999, nI_leI (by omega) (by omega)] at h2; exact h2
      obtain ⟨g, q1, q2, q3, ⟨i1, i2, i3⟩, f, n0, b1, b2, b3, b4, b5, b6⟩ := h.1
      have hch : ∀ i, ∃ W : WV, i < n0 → hr9 W.1 ∧ CWv I R P (125 + 29 * ((f + i) % 6)) W ∧ MWv (PK R i) W := fun i => by
        by_cases hi : i < n0
        · obtain ⟨W, hW⟩ := (b6 i hi).v
          exact ⟨W, fun _ => hW⟩
        · exact ⟨(w, t, m, nb, ns, ne), fun z => absurd z hi⟩
      obtain ⟨E, hE⟩ := Classical.axiomOfChoice hch
      have hX : HX I R P f (n0, E) := ⟨b1, b2, b3, b4, fun i hi => (hE i hi).2.1⟩
      obtain ⟨R1, P1, f1, x1, x2, x3, x4, x5, x6, x7⟩ := x_stepL (sl := sl) h.ap n2 hkn ek0 (t := t) (m := m) (nb := nb) (ns := ns) (ne := ne) (ex := fun l0 I P nx sl =>
            sm_ck (am_t l0 = 12) <|
            sm_ck (am_t (P l0 0) = 11) <|
            some (I (P l0 0) 1, I, P, nx, sl)) n 0 sm_fu R P f (n0, E) (sm_fu_lt (by omega)) (by omega) hS g.2.2.1 h.cw hX (Or.inr trivial)
      have hM1 : MW R1 w t m nb ns ne := h.mw.fr (fun c c1 c2 => x6 c (by omega) (by omega) (by omega) (by omega))
      have hH : HM R1 (n0, E) := ⟨b2, by rw [x6 330 (by decide) (by decide) (by decide) (by decide)]; exact b5, fun i hi => MW.pk (hE i hi).2.2 (fun j _ _ => by rw [x6 357 (by decide) (by decide) (by decide) (by decide)])⟩
      obtain ⟨I2, R2, m1, m2, m3, m4, m5⟩ := m_stepL x4 n2 hkn ek0 (t := t) (m := m) (nb := nb) (ns := ns) (ne := ne) (ex := fun l0 I P nx sl =>
          sm_ck (am_t l0 = 13) <|
          sm_ck (sm_in (P l0 1) 3) <|
          some (I (P l0 1) (3 : Int32).toNatClampNeg, I, P, nx, sl)) n 0 sm_fu I R1 nx sl (n0, E) (sm_fu_lt (by omega)) (by omega) g.2.2.2 hM1 hH
      have hnn : nb * n ≤ 7 * 50 := Nat.mul_le_mul hle.1 n2
      have v1 : R1 7 1 = hrN t m nb ns ne n w 0 1 := x2.rs (by decide)
      have v2 : R2 332 3 = hrN t m nb ns ne n w 0 1 := m2.n3
      have e : ∀ c, (c < 7 ∨ 36 ≤ c) → c ≠ 307 → c ≠ 123 → (c < 125 ∨ 299 ≤ c) → c ≠ 330 → c ≠ 357 → c ≠ 358 → (c < 332 ∨ 357 ≤ c) → R2 c = R c := fun c a1 a2 a3 a4 a5 a6 a7 a8 => (m4.1 c a5 a6 a7 a8).trans (x6 c a1 a2 a3 a4)
      have ek : ∀ c, kpc c → c ≠ 123 → (c < 125 ∨ 299 ≤ c) → R2 c = R c := fun c hc a1 a2 => e c (by unfold kpc at hc; omega) (by unfold kpc at hc; omega) a1 a2 (by unfold kpc at hc; omega) (by unfold kpc at hc; omega) (by unfold kpc at hc; omega) (by unfold kpc at hc; omega)
      have e12 : ∀ c, (c < 330 ∨ 359 ≤ c) → R2 c = R1 c := fun c hc => m4.1 c (by omega) (by omega) (by omega) (by omega)
      have hJ : frJ nx I I2 := m5.J
      refine ⟨hrN t m nb ns ne n w 0 1, I, R1, P1, nx, sl, I2, R2, nx + nb * n, sl + 2 * (nb * n), ?_, ?_, ⟨hrN t m nb ns ne n w, t, m, nb, ns, ne, ?_, ⟨k0 + n, hkn, hrN_01 ek0 n⟩, ?_, m2⟩, ⟨frJ.rfl, hJ⟩, by omega, by omega, by omega⟩
      · unfold fX_step
        rw [if_neg h1, if_pos hr.2, sm_ck_pos (am_t_pk (by decide)), sp_2_0 hS, sm_ck_pos (am_t_pk (by decide)), put_rd (sc_w0 W7), r1, if_pos h2]
        refine Eq.trans x1 ?_
        rw [sm_ck_pos (am_t_pk (by decide)), sp_2_0 x4, sm_ck_pos (am_t_pk (by decide)), put_rd (sc_w0 W7), v1]
      · have n3 : R1 332 3 = nI k0 := hM1.n3.trans ek0
        unfold fM_step
        rw [h_within, Option.bind_some, bI_ifn, if_pos hr, sm_ck_pos (am_t_pk (by decide)), sp_330_1 x4, sm_ck_pos (inl l_3 (by decide) (by decide)), cl_3, put_rd sc_332, n3, if_pos h2]
        refine Eq.trans m1 ?_
        rw [sm_ck_pos (am_t_pk (by decide)), sp_330_1 x4, sm_ck_pos (inl l_3 (by decide) (by decide)), cl_3, put_rd sc_332, v2]
      · refine ⟨⟨x4, m5.ap h.ap, x5.mono (by omega), Nat.le_trans g.2.2.2 (by omega)⟩, q1.k (ek _ (by unfold kpc; omega) (by decide) (by decide)) (ek _ (by unfold kpc; omega) (by decide) (by decide)) (ek _ (by unfold kpc; omega) (by decide) (by decide)), q2.k (by rw [e12 299 (by decide), x6 299 (by decide) (by decide) (by decide) (by decide)]) (by rw [m4.2.1 32 (by decide) (by decide) (by decide), x6 330 (by decide) (by decide) (by decide) (by decide)]) (ek _ (by unfold kpc; omega) (by decide) (by decide)) (ek _ (by unfold kpc; omega) (by decide) (by decide)), q3.k (fun c c1 c2 => ek c (by unfold kpc; omega) (by omega) (by omega)) (ek _ (by unfold kpc; omega) (by decide) (by decide)) (ek _ (by unfold kpc; omega) (by decide) (by decide)) (ek _ (by unfold kpc; omega) (by decide) (by decide)), ⟨?_, ?_, fun z => ?_⟩, ?_⟩
        · rw [ek 2 (by unfold kpc; omega) (by decide) (by decide)]; exact i1
        · rw [m4.2.1 29 (by decide) (by decide) (by decide), x6 330 (by decide) (by decide) (by decide) (by decide), ek 2 (by unfold kpc; omega) (by decide) (by decide)]; exact i2
        · rw [ek 2 (by unfold kpc; omega) (by decide) (by decide)] at z
          exact (i3 z).keep g.2.2.1 (fun c c1 c2 => ek c (by unfold kpc; omega) (by omega) (by omega)) (fun c hc => ek c (by unfold kpc; omega) (by omega) (by omega)) (fun a k ha _ => x7.1 a k ha) (fun i hi => x7.2 _ (by omega)) hJ (fun j j1 j2 => by rw [m4.2.2 j (by omega), x6 357 (by decide) (by decide) (by decide) (by decide)])
        · obtain ⟨y1, y2, y3, y4, y5⟩ := x3
          obtain ⟨u1, u2, u3⟩ := m3
          have sX := pshs_s (fun j => ((hrN t m nb ns ne (max 0 (n - 6) + j) w, t, m, nb, ns, ne) : WV)) (E := E) b2 (n - max 0 (n - 6))
          have sM := pshs_s (fun j => ((hrN t m nb ns ne (0 + j) w, t, m, nb, ns, ne) : WV)) (E := E) b2 n
          have hL : min 6 (n0 + (n - max 0 (n - 6))) = min 6 (n0 + n) := by omega
          refine ⟨f1, min 6 (n0 + n), y1, by omega, by rw [e12 123 (by decide)]; exact y3, ?_, ?_, fun i hi => ?_⟩
          · rw [e12 123 (by decide), y4, sX.1, hL]
          · rw [u2, sM.1]
          · have cx := y5 i (by rw [sX.1, hL]; exact hi)
            have cm := u3 i (by rw [sM.1]; exact hi)
            have heq : (pshs (fun j => ((hrN t m nb ns ne (max 0 (n - 6) + j) w, t, m, nb, ns, ne) : WV)) (n - max 0 (n - 6)) (n0, E)).2 i = (pshs (fun j => ((hrN t m nb ns ne (0 + j) w, t, m, nb, ns, ne) : WV)) n (n0, E)).2 i := by
              rw [sX.2 i (by rw [hL]; exact hi), sM.2 i hi]
              by_cases c6 : n ≤ 6
              · rw [show max 0 (n - 6) = 0 by omega, show n - 0 = n by omega]
              · rw [if_neg (by omega), if_neg (by omega)]
                rw [show max 0 (n - 6) + (n0 + (n - max 0 (n - 6)) - min 6 (n0 + (n - max 0 (n - 6))) + i - n0) = 0 + (n0 + n - min 6 (n0 + n) + i - n0) by omega]
            rw [heq] at cx
            have h9 : hr9 ((pshs (fun j => ((hrN t m nb ns ne (0 + j) w, t, m, nb, ns, ne) : WV)) n (n0, E)).2 i).1 := by
              rw [sM.2 i hi]
              split
              · rename_i z
                exact (hE _ z).1
              · exact ⟨k0 + (0 + (n0 + n - min 6 (n0 + n) + i - n0)), by omega, hrN_01 ek0 _⟩
            have hm : (f1 + i) % 6 < 6 := Nat.mod_lt _ (by decide)
            exact ⟨_, _, _, _, _, _, h9, CW.keep cx x5 (fun c c1 c2 => e12 c (by omega)) (fun c hc => e12 c (by omega)) (fun _ _ _ _ => rfl) (fun _ _ => rfl) hJ, cm⟩
      · exact x2.keep x5 (fun c c1 c2 => e12 c (by omega)) (fun c hc => e12 c (by omega)) (fun _ _ _ _ => rfl) (fun _ _ => rfl) hJ
    · refine h.fl3 (v := -1000002) (k := 1) (by decide) ?_ (fun R1 hM hc1 => ?_)
      · unfold fX_step
        rw [if_neg h1, if_pos hr.2, sm_ck_pos (am_t_pk (by decide)), sp_2_0 hS, sm_ck_pos (am_t_pk (by decide)), put_rd (sc_w0 W7), r1, if_neg h2, x_f2 hS, Option.bind_some]
      · have n3 : R1 332 3 = nI k0 := hM.n3.trans ek0
        unfold fM_step
        rw [h_within, Option.bind_some, bI_ifn, if_pos hr, sm_ck_pos (am_t_pk (by decide)), sp_330_1 hS, sm_ck_pos (inl l_3 (by decide) (by decide)), cl_3, put_rd sc_332, n3, if_neg h2, m_f2 hS, Option.bind_some]
  · refine h.fl3 (v := -1000001) (k := 0) (by decide) ?_ (fun R1 hM hc1 => ?_)
    · unfold fX_step
      by_cases h1 : a < 1
      · rw [if_pos h1, sm_ck_pos (am_t_pk (by decide)), x_f1 hS, Option.bind_some]
      · rw [if_neg h1, if_neg (fun z => hr ⟨i_nl.mp h1, z⟩), sm_ck_pos (am_t_pk (by decide)), x_f1 hS, Option.bind_some]
    · unfold fM_step
      rw [h_within, Option.bind_some, bI_ifn, if_neg hr, sm_ck_pos (am_t_pk (by decide)), m_f1 hS, Option.bind_some]
end Step
