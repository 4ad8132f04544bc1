/-! ===== the end of a laying: both ===== -/
section EndD
variable {I R : am_M} {P : am_Q} {nx : Nat} {w : am_M} {t : Nat → Nat → List Nat} {m nb ns ne : Nat}
theorem upN_eq {f : Nat → Nat} {k v : Nat} : upN f k v k = v := if_pos rfl
theorem upN_ne {f : Nat → Nat} {k v i : Nat} (h : i ≠ k) : upN f k v i = f i := if_neg h
theorem x_ebO (hS : SP P) {f : Nat → Nat} (hf : ∀ b, b < nb → f b < 3) {B : Nat} (hB : B ≤ 1000) : ∀ (d j fu T : Nat) (E M : Nat → Nat) (R : am_M), d < fu → j + d = nb → CW I R P 7 w t m nb ns ne → (∀ j', j' < nb → wtP w ns R j') → (∀ b, b < nb → R 315 b = nI (f b)) → (∀ k, k < 3 → R 317 k = nI (M k)) → (∀ e, e < j → R 318 (od w e) = nI (E (od w e))) → (∀ a, E a ≤ 9 * j) → (∀ a, M a ≤ 9 * j) → T ≤ 9 * j → (T < B ∨ T = 0) → ∃ R', fC_endBelow_L13 P (fun l2 I => some (l2, I)) (fun l3 I => some (l3, I)) fu (am_pk 314 0 5) (am_pk 7 0 11) (nI B) (nI T) (nI j) (put I R) = some (nI (cif (enF w ns f d j E M T < B) (enF w ns f d j E M T) B), put I R') ∧ ∀ c, c ≠ 317 → c ≠ 318 → R' c = R c
  | 0, j, fu, T, E, M, R, h1, h2, h, hW, hf1, hM1, hE1, hE, hM, hT, hTB => by
    obtain ⟨fu, rfl⟩ : ∃ n', fu = n' + 1 := ⟨fu - 1, by omega⟩
    have hle := h.le
    refine ⟨R, ?_, fun _ _ _ => rfl⟩
    show fC_endBelow_B13 _ _ _ _ _ _ _ _ _ _ = some (nI (cif (T < B) T B), _)
    unfold fC_endBelow_B13
    rw [sm_ck_pos (am_t_pk (by decide)), put_rd (sc_w0 h.1), h.c6, if_pos (by rw [nI_leI (by omega) (by omega)]; omega)]
    by_cases q : T < B
    · rw [cif_t q]
    · rw [cif_f q, show T = B by omega]
  | d + 1, j, fu, T, E, M, R, h1, h2, h, hW, hf1, hM1, hE1, hE, hM, hT, hTB => by
    obtain ⟨fu, rfl⟩ : ∃ n', fu = n' + 1 := ⟨fu - 1, by omega⟩
    have hle := h.le
    have hw := h.1
    have hjn : j < nb := by omega
    obtain ⟨ho, eo⟩ := h.2.2.1.odp hjn
    have ho7 : od w j < 7 := by omega
    have ro : R (7 + 3) j = nI (od w j) := (h.ro hjn).trans eo
    have hfb := hf _ ho
    obtain ⟨k, hk1, hk2, ek, ekx⟩ := h.2.2.1.tm ho
    have r6 : R (7 + 8 + od w j) 6 = nI k := (h.rb ho (by decide)).trans ek
    have hv := enV_c h.2.2.1 (f := f) (E := E) (M := M) hjn
    rw [ekx] at hv
    have hvb := enV_le h.2.2.1 (f := f) hjn hE hM
    have e315 : R 315 (od w j) = nI (f (od w j)) := hf1 _ ho
    have e317 : R 317 (f (od w j)) = nI (M (f (od w j))) := hM1 _ hfb
    have hMb := hM (f (od w j))
    have run : ∀ rr, fC_endBelow_B13 P (fun l2 I => some (l2, I)) (fun l3 I => some (l3, I)) rr (am_pk 314 0 5) (am_pk 7 0 11) (nI B) (nI T) (nI j) (put I R) = if max T (enV w ns f j E M) < B then rr (am_pk 314 0 5) (am_pk 7 0 11) (nI B) (nI (max T (enV w ns f j E M))) (nI (j + 1)) (put I (am_up (am_up R 318 (od w j) (nI (enV w ns f j E M))) 317 (f (od w j)) (nI (enV w ns f j E M)))) else some (nI B, put I (am_up (am_up R 318 (od w j) (nI (enV w ns f j E M))) 317 (f (od w j)) (nI (enV w ns f j E M)))) := by
      intro rr
      unfold fC_endBelow_B13
      rw [sm_ck_pos (am_t_pk (by decide)), put_rd (sc_w0 hw), h.c6, if_neg (by rw [nI_leI (by omega) (by omega)]; omega), sp_w11 hS hw, nI_clamp (show j < 2 ^ 31 by omega), put_rd (sc_w3 hw), ro, sm_ck_pos (sm_in_nI (by decide) (by omega)), bd_eq, sm_ck_pos (am_t_pk (by decide)), sp_314_0 hS, sp_314_2 hS, nI_clamp (show od w j < 2 ^ 31 by omega), put_rd sc_315, e315, sm_ck_pos (sm_in_nI (by decide) ho7), bd_eq, nI_clamp (show f (od w j) < 2 ^ 31 by omega), put_rd sc_317, e317, sm_ck_pos (sm_in_nI (by decide) hfb), bd_eq, show (0 : Int32) = nI 0 from rfl, x_ebL hS h hjn (hW j hjn) hE1 (fun a => by have := hE a; omega) j 0 sm_fu _ (sm_fu_lt (by omega)) (by omega) (by omega)]
      dsimp only
      rw [sm_ck_pos (am_t_pk (by decide)), sm_ck_pos (am_t_pk (by decide)), sp_w9 hS hw, sp_314_3 hS, sp_314_2 hS, nI_clamp (show od w j < 2 ^ 31 by omega), nI_clamp (show f (od w j) < 2 ^ 31 by omega), sp_bx hS hw ho7, sm_ck_pos (sm_ia_nI (by decide) (by decide) (by decide) ho7), sm_ck_pos (am_t_pk (by decide)), sm_ck_pos (sm_iw_nI (by decide) (by decide) ho7), put_rd (sc_bx hw ho7), r6, nI_add, hv, put_up sc_318, bd_eq, sm_ck_pos (sm_in_nI (by decide) ho7), sm_ck_pos (sm_iw_nI (by decide) (by decide) hfb), put_rd sc_318, am_up_eq, put_up sc_317, bd_eq, sm_ck_pos (sm_in_nI (by decide) ho7), put_rd sc_318, am_up_ne (by decide), am_up_eq, mx_i (by omega) (by omega), bd_eq, bd_eq, nI_1]
      by_cases q : max T (enV w ns f j E M) < B
      · rw [if_pos q, if_pos (by rw [nI_ltI (by omega) (by omega)]; exact q)]
      · rw [if_neg q, if_neg (by rw [nI_ltI (by omega) (by omega)]; exact q)]
    show ∃ R', fC_endBelow_B13 _ _ _ _ _ _ _ _ _ _ = some (nI (cif (enF w ns f d (j + 1) (upN E (od w j) (enV w ns f j E M)) (upN M (f (od w j)) (enV w ns f j E M)) (max T (enV w ns f j E M)) < B) (enF w ns f d (j + 1) (upN E (od w j) (enV w ns f j E M)) (upN M (f (od w j)) (enV w ns f j E M)) (max T (enV w ns f j E M))) B), put I R') ∧ _
    rw [run]
    have fr1 : ∀ c, c ≠ 317 → c ≠ 318 → am_up (am_up R 318 (od w j) (nI (enV w ns f j E M))) 317 (f (od w j)) (nI (enV w ns f j E M)) c = R c := fun c a1 a2 => by funext i; rw [am_up_ne a1, am_up_ne a2]
    by_cases q : max T (enV w ns f j E M) < B
    · rw [if_pos q]
      obtain ⟨R', y1, y2⟩ := x_ebO hS hf hB d (j + 1) fu (max T (enV w ns f j E M)) (upN E (od w j) (enV w ns f j E M)) (upN M (f (od w j)) (enV w ns f j E M)) (am_up (am_up R 318 (od w j) (nI (enV w ns f j E M))) 317 (f (od w j)) (nI (enV w ns f j E M))) (by omega) (by omega) (h.fr (fun c a1 a2 => fr1 c (by omega) (by omega)) (fun c hc => fr1 c (by omega) (by omega))) (fun j' hj' => by
          obtain ⟨W, w1, w2, w3⟩ := hW j' hj'
          exact ⟨W, w1, by rw [fr1 319 (by decide) (by decide)]; exact w2, w3⟩) (fun b hb => by rw [fr1 315 (by decide) (by decide)]; exact hf1 b hb) (fun k hk => by
          by_cases e : k = f (od w j)
          · rw [e, am_up_eq, upN_eq]
          · rw [am_up_nk e, am_up_ne (by decide), upN_ne e]; exact hM1 k hk) (fun e he => by
          rw [am_up_ne (by decide)]
          by_cases z : e = j
          · rw [z, am_up_eq, upN_eq]
          · have hne : od w e ≠ od w j := fun y => z (h.2.2.1.odi (by omega) hjn y)
            rw [am_up_nk hne, upN_ne hne]; exact hE1 e (by omega)) (upN_le hE hvb (by omega)) (upN_le hM hvb (by omega)) (by omega) (Or.inl q)
      exact ⟨R', y1, fun c a1 a2 => by rw [y2 c a1 a2, fr1 c a1 a2]⟩
    · rw [if_neg q]
      have := enF_le (w := w) (ns := ns) (f := f) d (j + 1) (upN E (od w j) (enV w ns f j E M)) (upN M (f (od w j)) (enV w ns f j E M)) (max T (enV w ns f j E M))
      exact ⟨_, by rw [cif_f (by omega)], fr1⟩
theorem x_endB (hS : SP P) (h : CW I R P 7 w t m nb ns ne) {f : Nat → Nat} (hf : ∀ b, b < nb → f b < 3) {B : Nat} (hB : B ≤ 1000) (hW : ∀ j', j' < nb → wtP w ns R j') (hf1 : ∀ b, b < nb → R 315 b = nI (f b)) : ∃ R', fC_endBelow P (am_pk 314 0 5) (am_pk 7 0 11) (nI B) (put I R) = some (nI (cif (enT w nb ns f < B) (enT w nb ns f) B), put I R') ∧ ∀ c, c ≠ 317 → c ≠ 318 → R' c = R c := by
  have hle := h.le
  have ef : ∀ c, c ≠ 317 → am_set R 317 (fun i => if i < 3 then 0 else R 317 i) c = R c := fun c hc => am_setne hc
  have e3 : am_set R 317 (fun i => if i < 3 then 0 else R 317 i) 317 = fun i => if i < 3 then 0 else R 317 i := am_set_eq
  have h1 : CW I (am_set R 317 (fun i => if i < 3 then 0 else R 317 i)) P 7 w t m nb ns ne := h.fr (fun c c1 c2 => ef c (by omega)) (fun c hc => ef c (by omega))
  obtain ⟨R', y1, y2⟩ := x_ebO hS hf hB nb 0 sm_fu 0 (fun _ => 0) (fun _ => 0) _ (sm_fu_lt (by omega)) (by omega) h1 (fun j' hj' => by
    obtain ⟨W, w1, w2, w3⟩ := hW j' hj'
    exact ⟨W, w1, by rw [ef 319 (by decide)]; exact w2, w3⟩) (fun b hb => by rw [ef 315 (by decide)]; exact hf1 b hb) (fun k hk => by
    rw [e3]
    show (if k < 3 then (0 : Int32) else _) = _
    rw [if_pos hk]; rfl) (fun e he => absurd he (Nat.not_lt_zero _)) (fun _ => Nat.zero_le _) (fun _ => Nat.zero_le _) (Nat.zero_le _) (Or.inr rfl)
  refine ⟨R', ?_, fun c a1 a2 => by rw [y2 c a1 a2, ef c a1]⟩
  unfold fC_endBelow
  rw [sm_ck_pos (am_t_pk (by decide)), sp_314_2 hS, x_fill sc_317, Option.bind_some]
  exact y1
theorem m_eoL (hS : SP P) (h : MW R w t m nb ns ne) {j A : Nat} {E : Nat → Nat} {l1 l3 : Int32} (hj : j < nb) (hA : ahB w j A) (hE : ∀ e, e < j → R 376 (od w e) = nI (E (od w e))) (hEb : ∀ a, E a ≤ 63) {ex : Nat → Int32 → Int32 → Int32 → Int32 → Int32 → am_M → Option (Int32 × am_M)} : ∀ (d s fu v : Nat), d < fu → s + d = ns → v ≤ 63 → fM_endOf_L61 P ex fu (am_pk 330 0 13) l1 (nI A) l3 (nI (od w j)) (nI v) (nI s) (put I R) = ex (am_pk 330 0 13) l1 (nI A) l3 (nI (od w j)) (nI (mxF (ahP w j (od w j)) (fun s => E (ix (w 11 s))) d s v)) (put I R)
  | 0, s, fu, v, h1, h2, hv => by
    obtain ⟨fu, rfl⟩ : ∃ n', fu = n' + 1 := ⟨fu - 1, by omega⟩
    have hle := h.le
    show fM_endOf_B61 _ _ _ _ _ _ _ _ _ _ _ = _
    unfold fM_endOf_B61
    rw [sm_ck_pos (am_t_pk (by decide)), sp_330_1 hS, sm_ck_pos (inl l_1 (by decide) (by decide)), cl_1, put_rd sc_332, h.n1, if_pos (by rw [nI_leI (by omega) (by omega)]; omega)]
    rfl
  | d + 1, s, fu, v, h1, h2, hv => by
    obtain ⟨fu, rfl⟩ : ∃ n', fu = n' + 1 := ⟨fu - 1, by omega⟩
    have hle := h.le
    have hs : s < ns := by omega
    obtain ⟨fb, fo, tb, td, hfb, hfo, htb, htd, e11, e12, e13, e14, e46, e47⟩ := h.ends hs
    have hoj : od w j < 7 := by have := (h.2.1.odp hj).1; omega
    have e11x : ix (w 11 s) = fb := by rw [e11]; exact nI_clamp (by omega)
    have bt := bt_tst A hA.1 fb (by omega)
    have ba := hA.2 fb (by omega)
    have hEf := hEb fb
    have hv' : cif (ahP w j (od w j) s) (max v (E (ix (w 11 s)))) v ≤ 63 := by
      rw [e11x]
      by_cases q : ahP w j (od w j) s
      · rw [cif_t q]; omega
      · rw [cif_f q]; exact hv
    show fM_endOf_B61 _ _ _ _ _ _ _ _ _ _ _ = ex _ _ _ _ _ (nI (mxF _ _ d (s + 1) (cif (ahP w j (od w j) s) (max v (E (ix (w 11 s)))) v))) _
    rw [← m_eoL hS h hj hA hE hEb (l1 := l1) (l3 := l3) (ex := ex) d (s + 1) fu _ (by omega) (by omega) hv']
    unfold fM_endOf_B61 fM_endOf_J130
    rw [sm_ck_pos (am_t_pk (by decide)), sp_330_1 hS, sm_ck_pos (inl l_1 (by decide) (by decide)), cl_1, put_rd sc_332, h.n1, if_neg (by rw [nI_leI (by omega) (by omega)]; omega), sp_330_15 hS, sp_330_16 hS, sp_330_57 hS, nI_clamp (show s < 2 ^ 31 by omega), put_rd sc_346, put_rd sc_347, e46, e47, sm_ck_pos (sm_in_nI (by decide) (by omega)), d10 (by omega) (by omega), bd_eq, sm_ck_pos (sm_in_nI (by decide) (by omega)), d10 (by omega) (by omega), nI_clamp (show fb < 2 ^ 31 by omega), put_rd sc_376, sm_ck_pos (sm_in_nI (by decide) (by omega)), sm_ck_pos (sm_in_nI (by decide) (by omega)), e11x]
    simp only [bd_eq, nI_1]
    by_cases q1 : nI tb = nI (od w j)
    · rw [if_neg (fun z => z q1)]
      by_cases q2 : A.testBit fb = true
      · obtain ⟨e, e1, e2⟩ := ba.mp q2
        have hr : R 376 fb = nI (E fb) := by rw [← e2]; exact hE e e1
        rw [if_neg (fun z => z (bt.mpr q2)), hr, cif_t (show ahP w j (od w j) s from ⟨e13.trans q1, e, e1, by rw [e11x]; exact e2⟩)]
        by_cases q3 : E fb ≤ v
        · rw [if_pos (by rw [nI_leI (by omega) (by omega)]; exact q3), Nat.max_eq_left q3]
        · rw [if_neg (by rw [nI_leI (by omega) (by omega)]; exact q3), Nat.max_eq_right (by omega)]
      · rw [if_pos (fun z => q2 (bt.mp z)), cif_f (show ¬ ahP w j (od w j) s from fun ⟨_, e, e1, e2⟩ => q2 (ba.mpr ⟨e, e1, by rw [← e11x]; exact e2⟩))]
    · rw [if_pos q1, cif_f (show ¬ ahP w j (od w j) s from fun z => q1 (e13.symm.trans z.1))]
theorem m_eoO (hS : SP P) {f : Nat → Nat} (hf : ∀ b, b < nb → f b < 3) : ∀ (d j fu T A : Nat) (E M : Nat → Nat) (R : am_M), d < fu → j + d = nb → MW R w t m nb ns ne → ahB w j A → (∀ b, b < nb → R 373 b = nI (f b)) → (∀ k, k < 3 → R 375 k = nI (M k)) → (∀ e, e < j → R 376 (od w e) = nI (E (od w e))) → (∀ a, E a ≤ 9 * j) → (∀ a, M a ≤ 9 * j) → T ≤ 9 * j → ∃ R', fM_endOf_L26 P (fun l1 I => some (l1, I)) fu (am_pk 330 0 13) (nI T) (nI A) (nI j) (put I R) = some (nI (enF w ns f d j E M T), put I R') ∧ ∀ c, c ≠ 375 → c ≠ 376 → R' c = R c
  | 0, j, fu, T, A, E, M, R, h1, h2, h, hA, hf1, hM1, hE1, hE, hM, hT => by
    obtain ⟨fu, rfl⟩ : ∃ n', fu = n' + 1 := ⟨fu - 1, by omega⟩
    have hle := h.le
    refine ⟨R, ?_, fun _ _ _ => rfl⟩
    show fM_endOf_B26 _ _ _ _ _ _ _ _ = some (nI T, _)
    unfold fM_endOf_B26
    rw [sm_ck_pos (am_t_pk (by decide)), sp_330_1 hS, sm_ck_pos (inl l_0 (by decide) (by decide)), cl_0, put_rd sc_332, h.n0, if_pos (by rw [nI_leI (by omega) (by omega)]; omega)]
  | d + 1, j, fu, T, A, E, M, R, h1, h2, h, hA, hf1, hM1, hE1, hE, hM, hT => by
    obtain ⟨fu, rfl⟩ : ∃ n', fu = n' + 1 := ⟨fu - 1, by omega⟩
    have hle := h.le
    have hjn : j < nb := by omega
    obtain ⟨ho, eo⟩ := h.2.1.odp hjn
    have ho7 : od w j < 7 := by omega
    have ro : R 338 j = nI (od w j) := (h.bo hjn).trans eo
    have hfb := hf _ ho
    obtain ⟨k, hk1, hk2, ek, ekx⟩ := h.2.1.tm ho
    have r6 : R 337 (od w j) = nI k := (h.b7 ho).trans ek
    have hv : mxF (ahP w j (od w j)) (fun s => E (ix (w 11 s))) ns 0 (M (f (od w j))) + k = enV w ns f j E M := by unfold enV; rw [ekx]
    have hvb := enV_le h.2.1 (f := f) hjn hE hM
    have e315 : R 373 (od w j) = nI (f (od w j)) := hf1 _ ho
    have e317 : R 375 (f (od w j)) = nI (M (f (od w j))) := hM1 _ hfb
    have hMb := hM (f (od w j))
    have e73 : am_up R 376 (od w j) (nI (enV w ns f j E M)) 373 (od w j) = nI (f (od w j)) := by rw [am_up_ne (by decide)]; exact e315
    have run : ∀ rr, fM_endOf_B26 P (fun l1 I => some (l1, I)) rr (am_pk 330 0 13) (nI T) (nI A) (nI j) (put I R) = rr (am_pk 330 0 13) (nI (max T (enV w ns f j E M))) (nI (A ||| 2 ^ od w j)) (nI (j + 1)) (put I (am_up (am_up R 376 (od w j) (nI (enV w ns f j E M))) 375 (f (od w j)) (nI (enV w ns f j E M)))) := by
      intro rr
      unfold fM_endOf_B26
      rw [sm_ck_pos (am_t_pk (by decide)), sp_330_1 hS, sm_ck_pos (inl l_0 (by decide) (by decide)), cl_0, put_rd sc_332, h.n0, if_neg (by rw [nI_leI (by omega) (by omega)]; omega), sp_330_7 hS, nI_clamp (show j < 2 ^ 31 by omega), put_rd sc_338, ro, sm_ck_pos (sm_in_nI (by decide) (by omega)), bd_eq, sp_330_54 hS, sp_330_56 hS, nI_clamp (show od w j < 2 ^ 31 by omega), put_rd sc_373, e315, sm_ck_pos (sm_in_nI (by decide) ho7), nI_clamp (show f (od w j) < 2 ^ 31 by omega), put_rd sc_375, e317, sm_ck_pos (sm_in_nI (by decide) hfb), bd_eq, show (0 : Int32) = nI 0 from rfl, m_eoL hS h hjn hA hE1 (fun a => by have := hE a; omega) ns 0 sm_fu _ (sm_fu_lt (by omega)) (by omega) (by omega)]
      unfold fM_endOf_J194
      rw [sm_ck_pos (am_t_pk (by decide)), sp_330_6 hS, sp_330_57 hS, sp_330_54 hS, sp_330_56 hS, nI_clamp (show od w j < 2 ^ 31 by omega), put_rd sc_337, r6, nI_add, hv, sm_ck_pos (sm_in_nI (by decide) ho7), sm_ck_pos (sm_iw_nI (by decide) (by decide) ho7), put_up sc_376, bd_eq, put_rd sc_373, e73, nI_clamp (show f (od w j) < 2 ^ 31 by omega), put_rd sc_376, am_up_eq, sm_ck_pos (sm_in_nI (by decide) ho7), sm_ck_pos (sm_in_nI (by decide) ho7), sm_ck_pos (sm_iw_nI (by decide) (by decide) hfb), put_up sc_375, bd_eq, sm_ck_pos (sm_in_nI (by decide) ho7), sm_ck_pos (sm_in_nI (by decide) ho7), put_rd sc_376, am_up_ne (by decide), am_up_eq, (bt_or A hA.1 (od w j) ho7).1, bd_eq, bd_eq, nI_1]
      by_cases q : enV w ns f j E M ≤ T
      · rw [if_pos (by rw [nI_leI (by omega) (by omega)]; exact q), Nat.max_eq_left q]
      · rw [if_neg (by rw [nI_leI (by omega) (by omega)]; exact q), Nat.max_eq_right (by omega), bd_eq, bd_eq]
    show ∃ R', fM_endOf_B26 _ _ _ _ _ _ _ _ = some (nI (enF w ns f d (j + 1) (upN E (od w j) (enV w ns f j E M)) (upN M (f (od w j)) (enV w ns f j E M)) (max T (enV w ns f j E M))), put I R') ∧ _
    rw [run]
    have fr1 : ∀ c, c ≠ 375 → c ≠ 376 → am_up (am_up R 376 (od w j) (nI (enV w ns f j E M))) 375 (f (od w j)) (nI (enV w ns f j E M)) c = R c := fun c a1 a2 => by funext i; rw [am_up_ne a1, am_up_ne a2]
    obtain ⟨R', y1, y2⟩ := m_eoO hS hf d (j + 1) fu (max T (enV w ns f j E M)) (A ||| 2 ^ od w j) (upN E (od w j) (enV w ns f j E M)) (upN M (f (od w j)) (enV w ns f j E M)) (am_up (am_up R 376 (od w j) (nI (enV w ns f j E M))) 375 (f (od w j)) (nI (enV w ns f j E M))) (by omega) (by omega) (h.fr (fun c a1 a2 => fr1 c (by omega) (by omega))) (hA.add h.2.1 hjn) (fun b hb => by rw [fr1 373 (by decide) (by decide)]; exact hf1 b hb) (fun k hk => by
        by_cases e : k = f (od w j)
        · rw [e, am_up_eq, upN_eq]
        · rw [am_up_nk e, am_up_ne (by decide), upN_ne e]; exact hM1 k hk) (fun e he => by
        rw [am_up_ne (by decide)]
        by_cases z : e = j
        · rw [z, am_up_eq, upN_eq]
        · have hne : od w e ≠ od w j := fun y => z (h.2.1.odi (by omega) hjn y)
          rw [am_up_nk hne, upN_ne hne]; exact hE1 e (by omega)) (upN_le hE hvb (by omega)) (upN_le hM hvb (by omega)) (by omega)
    exact ⟨R', y1, fun c a1 a2 => by rw [y2 c a1 a2, fr1 c a1 a2]⟩
theorem m_eo6 (hS : SP P) {l1 l2 : Int32} {ex : Nat → Int32 → Int32 → am_M → Option (Int32 × am_M)} : ∀ (d i fu : Nat) (R : am_M), d < fu → i + d = 3 → (∀ k, k < i → R 375 k = 0) → ∃ R', fM_endOf_L6 P ex fu (am_pk 330 0 13) l1 l2 (nI i) (put I R) = ex (am_pk 330 0 13) l1 l2 (put I R') ∧ (∀ k, k < 3 → R' 375 k = 0) ∧ ∀ c, c ≠ 375 → R' c = R c
  | 0, i, fu, R, h1, h2, h3 => by
    obtain ⟨fu, rfl⟩ : ∃ n', fu = n' + 1 := ⟨fu - 1, by omega⟩
    refine ⟨R, ?_, fun k hk => h3 k (by omega), fun _ _ => rfl⟩
    show fM_endOf_B6 _ _ _ _ _ _ _ _ = _
    unfold fM_endOf_B6
    rw [show (3 : Int32) = nI 3 from rfl, if_pos (by rw [nI_leI (by omega) (by omega)]; omega)]
  | d + 1, i, fu, R, h1, h2, h3 => by
    obtain ⟨fu, rfl⟩ : ∃ n', fu = n' + 1 := ⟨fu - 1, by omega⟩
    obtain ⟨R', y1, y2, y3⟩ := m_eo6 hS (l1 := l1) (l2 := l2) (ex := ex) d (i + 1) fu (am_up R 375 i 0) (by omega) (by omega) (fun k hk => by
      by_cases e : k = i
      · rw [e, am_up_eq]
      · rw [am_up_nk e]; exact h3 k (by omega))
    refine ⟨R', ?_, y2, fun c hc => by rw [y3 c hc]; funext k; rw [am_up_ne hc]⟩
    show fM_endOf_B6 _ _ _ _ _ _ _ _ = _
    unfold fM_endOf_B6
    rw [show (3 : Int32) = nI 3 from rfl, if_neg (by rw [nI_leI (by omega) (by omega)]; omega), sm_ck_pos (am_t_pk (by decide)), sp_330_56 hS, sm_ck_pos (sm_iw_nI (by decide) (by decide) (by omega)), nI_clamp (show i < 2 ^ 31 by omega), put_up sc_375, bd_eq, bd_eq, nI_1]
    exact y1
theorem m_endOf (hS : SP P) (h : MW R w t m nb ns ne) {f : Nat → Nat} (hf : ∀ b, b < nb → f b < 3) (hf1 : ∀ b, b < nb → R 373 b = nI (f b)) : ∃ R', fM_endOf P (am_pk 330 0 13) (put I R) = some (nI (enT w nb ns f), put I R') ∧ ∀ c, c ≠ 375 → c ≠ 376 → R' c = R c := by
  have hle := h.le
  obtain ⟨R1, y1, y2, y3⟩ := m_eo6 (I := I) (P := P) hS (l1 := 0) (l2 := 0) (ex := fun l0 l1 l2 I => fM_endOf_L26 P (fun l1 I => some (l1, I)) sm_fu l0 l1 l2 0 I) 3 0 sm_fu R (sm_fu_lt (by omega)) (by omega) (fun k hk => absurd hk (Nat.not_lt_zero _))
  obtain ⟨R', z1, z2⟩ := m_eoO (I := I) hS hf nb 0 sm_fu 0 0 (fun _ => 0) (fun _ => 0) R1 (sm_fu_lt (by omega)) (by omega) (h.fr (fun c a1 a2 => y3 c (by omega))) ahB.zero (fun b hb => by rw [y3 373 (by decide)]; exact hf1 b hb) (fun k hk => y2 k hk) (fun e he => absurd he (Nat.not_lt_zero _)) (fun _ => Nat.zero_le _) (fun _ => Nat.zero_le _) (Nat.zero_le _)
  refine ⟨R', ?_, fun c a1 a2 => by rw [z2 c a1 a2, y3 c a1]⟩
  unfold fM_endOf
  exact y1.trans z1
end EndD
