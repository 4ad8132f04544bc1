/-! ===== the reference's trials ===== -/
section Trm
variable {I R : am_M} {P : am_Q} {nx : Nat} {w : am_M} {t : Nat → Nat → List Nat} {m nb ns ne : Nat}
theorem m_dr10 {tb td : Nat} (h1 : tb < 7) (h2 : td < 2) : fM_doorOf (nI (10 * tb + td)) = some (nI (2 * tb + td)) := by
  unfold fM_doorOf
  rw [d10 (by omega) (by omega), r10 (by omega) (by omega), lm_2, nI_add]
theorem m_tr1 (hS : SP P) (hw : wiv w t m nb ns ne) {n : Nat} {q : Nat → Nat} {l1 l2 : Int32} (hn : n ≤ 3) (hq : qok ns n q) {ex : Nat → Int32 → Int32 → am_M → Option am_M} : ∀ (i fu x : Nat) (R u : am_M), i < fu → i ≤ n → x < 1000000 → MW R u t m nb ns ne → ofD w q n u → (∀ k, k < n → R 364 k = nI (q k)) → ∃ R', fM_triesAll_L75 P ex fu (am_pk 330 0 13) l1 l2 (nI x) (nI i + (-1)) (put I R) = ex (am_pk 330 0 13) l1 l2 (put I R') ∧ MW R' (dwF w q m i x u) t m nb ns ne ∧ (∀ k, k < i → R' 365 k = nI (dgF m i x k)) ∧ (∀ k, i ≤ k → R' 365 k = R 365 k) ∧ ∀ c, c ≠ 340 → c ≠ 365 → R' c = R c
  | 0, fu, x, R, u, h1, h2, hx, h, ho, h3 => by
    obtain ⟨fu, rfl⟩ : ∃ n', fu = n' + 1 := ⟨fu - 1, by omega⟩
    refine ⟨R, ?_, h, fun k hk => absurd hk (Nat.not_lt_zero _), fun _ _ => rfl, fun _ _ _ => rfl⟩
    show fM_triesAll_B75 _ _ _ _ _ _ _ _ _ = _
    unfold fM_triesAll_B75
    rw [if_pos nI_dm1]
  | i + 1, fu, x, R, u, h1, h2, hx, h, ho, h3 => by
    obtain ⟨fu, rfl⟩ : ∃ n', fu = n' + 1 := ⟨fu - 1, by omega⟩
    have hle := h.le
    have hi : i < n := by omega
    have hs := hq.1 i hi
    have hs14 : q i < 14 := by omega
    obtain ⟨fb, fo, tb, td, hfb, hfo, htb, htd, e11, e12, e13, e14, e46, e47⟩ := h.ends hs
    obtain ⟨tb', td', htb', htd', a1, a2, a3, a4⟩ := hw.drc hs
    have eb : tb = tb' := by
      rw [ho.row hw hq (by decide) (by decide), a1, nI_eq (by omega) (by omega)] at e13
      exact e13.symm
    have ed : td = td' := by
      rw [ho.row hw hq (by decide) (by decide), a2, nI_eq (by omega) (by omega)] at e14
      exact e14.symm
    subst eb
    subst ed
    have hm0 : ¬ nI m = (0 : Int32) := by rw [show (0 : Int32) = nI 0 from rfl, nI_eq (by omega) (by decide)]; omega
    have hrem : sm_rem (nI x) (nI m) = nI (x % m) := pk_rem (by omega) (by omega) (by omega)
    have hdv : nI x / nI m = nI (x / m) := pk_div (by omega) (by omega) (by omega)
    have hxm : x % m < m := Nat.mod_lt _ (by omega)
    have g5 : am_up R 365 i (nI (x % m)) 332 5 = nI m := by rw [am_up_ne (by decide)]; exact h.n5
    have g4 : am_up R 365 i (nI (x % m)) 364 i = nI (q i) := by rw [am_up_ne (by decide)]; exact h3 i hi
    have g7 : am_up R 365 i (nI (x % m)) 347 (q i) = nI (10 * tb + td) := by rw [am_up_ne (by decide)]; exact e47
    have run : ∀ rr, fM_triesAll_B75 P ex rr (am_pk 330 0 13) l1 l2 (nI x) (nI i) (put I R) = rr (am_pk 330 0 13) l1 l2 (nI (x / m)) (nI i + (-1)) (put I (am_up (am_up R 365 i (nI (x % m))) 340 (2 * tb + td) (nI (x % m)))) := by
      intro rr
      unfold fM_triesAll_B75
      rw [if_neg (nI_pos (by omega)), sm_ck_pos (am_t_pk (by decide)), sp_330_1 hS, sp_330_42 hS, sp_330_41 hS, sp_330_16 hS, sp_330_9 hS, sm_ck_pos (inl l_5 (by decide) (by decide)), cl_5, put_rd sc_332, h.n5, sm_ck_pos hm0, nI_clamp (show i < 2 ^ 31 by omega), hrem, put_up sc_365, sm_ck_pos (sm_iw_nI (by decide) (by decide) (by omega)), bd_eq, sm_ck_pos (inl l_5 (by decide) (by decide)), put_rd sc_332, g5, sm_ck_pos hm0, hdv, bd_eq, put_rd sc_364, g4, nI_clamp (show q i < 2 ^ 31 by omega), put_rd sc_347, g7, sm_ck_pos (sm_in_nI (by decide) (by omega)), sm_ck_pos (sm_in_nI (by decide) hs14), m_dr10 (by omega) htd, Option.bind_some, nI_clamp (show 2 * tb + td < 2 ^ 31 by omega), put_rd sc_365, am_up_eq, put_up sc_340, sm_ck_pos (sm_in_nI (by decide) (by omega)), sm_ck_pos (sm_iw_nI (by decide) (by decide) (by omega)), bd_eq, bd_eq]
    have hr : ran m (nI (x % m)) := ⟨nI_pos' (by omega), by rw [nI_ltI (by omega) (by omega)]; exact hxm⟩
    have c0 : MW (am_up R 365 i (nI (x % m))) u t m nb ns ne := h.fr (fun c c1 c2 => by funext k; rw [am_up_ne (by omega)])
    have c1 : MW (am_up (am_up R 365 i (nI (x % m))) 340 (2 * tb + td) (nI (x % m))) (am_up u (drR w (q i)) (dcR w (q i)) (nI (x % m))) t m nb ns ne := by
      rw [a3, a4]
      rcases (show td = 0 ∨ td = 1 by omega) with rfl | rfl
      · exact c0.wr (r := 4) (c := tb) (Or.inr (Or.inl ⟨by decide, by decide, by omega⟩)) hr rfl
      · exact c0.wr (r := 5) (c := tb) (Or.inr (Or.inl ⟨by decide, by decide, by omega⟩)) hr rfl
    show ∃ R', fM_triesAll_B75 _ _ _ _ _ _ _ _ _ = _ ∧ MW R' (dwF w q m i (x / m) (am_up u (drR w (q i)) (dcR w (q i)) (nI (x % m)))) t m nb ns ne ∧ _
    rw [pk_m1, run]
    obtain ⟨R', y1, y2, y3, y4, y5⟩ := m_tr1 hS hw (l1 := l1) (l2 := l2) hn hq (ex := ex) i fu (x / m) _ _ (by omega) (by omega) (Nat.lt_of_le_of_lt (Nat.div_le_self _ _) hx) c1 (ho.up hi) (fun k hk => by rw [am_up_ne (by decide), am_up_ne (by decide)]; exact h3 k hk)
    refine ⟨R', y1, y2, fun k hk => ?_, fun k hk => ?_, fun c c1 c2 => ?_⟩
    · show _ = nI (if k = i then x % m else dgF m i (x / m) k)
      by_cases e : k = i
      · rw [if_pos e, e, y4 i (Nat.le_refl _), am_up_ne (by decide), am_up_eq]
      · rw [if_neg e]; exact y3 k (by omega)
    · rw [y4 k (by omega), am_up_ne (by decide), am_up_nk (by omega)]
    · rw [y5 c c1 c2]; funext k; rw [am_up_ne c1, am_up_ne c2]
theorem m_tr2 (hS : SP P) {u : am_M} {n : Nat} {q f : Nat → Nat} {l1 l2 : Int32} (hn : n ≤ 3) (hq : qok ns n q) {ex : Nat → Int32 → Int32 → Int32 → am_M → Option am_M} : ∀ (d k fu : Nat) (R : am_M) (b : Prop), d < fu → k + d = n → MW R u t m nb ns ne → R 330 45 = nI n → (∀ j, j < n → R 364 j = nI (q j)) → (∀ j, j < n → R 365 j = nI (f j)) → ∃ R', fM_triesAll_L143 P ex fu (am_pk 330 0 13) l1 l2 (bI b) (nI k) (put I R) = ex (am_pk 330 0 13) l1 l2 (bI (b ∧ ∀ j, k ≤ j → j < n → snF u t m (q j) = nI (f j))) (put I R') ∧ MW R' u t m nb ns ne ∧ ∀ c, c ≠ 358 → R' c = R c
  | 0, k, fu, R, b, h1, h2, h, h45, h3, h4 => by
    obtain ⟨fu, rfl⟩ : ∃ n', fu = n' + 1 := ⟨fu - 1, by omega⟩
    refine ⟨R, ?_, h, fun _ _ => rfl⟩
    show fM_triesAll_B143 _ _ _ _ _ _ _ _ _ = _
    unfold fM_triesAll_B143
    rw [sm_ck_pos (am_t_pk (by decide)), put_rd sc_330, h45, if_pos (by rw [nI_leI (by omega) (by omega)]; omega), bI_c (show b ↔ (b ∧ ∀ j, k ≤ j → j < n → snF u t m (q j) = nI (f j)) from ⟨fun y => ⟨y, fun j a1 a2 => absurd a2 (by omega)⟩, fun y => y.1⟩)]
  | d + 1, k, fu, R, b, h1, h2, h, h45, h3, h4 => by
    obtain ⟨fu, rfl⟩ : ∃ n', fu = n' + 1 := ⟨fu - 1, by omega⟩
    have hle := h.le
    have hk : k < n := by omega
    have hs := hq.1 k hk
    have hs14 : q k < 14 := by omega
    obtain ⟨fb, fo, tb, td, hfb, hfo, htb, htd, e11, e12, e13, e14, e46, e47⟩ := h.ends hs
    obtain ⟨R1, y1, y2, y3⟩ := h.out (I := I) hS hfb hfo
    have es : otF u t m fb (2 + fo) = snF u t m (q k) := by
      unfold snF ix
      rw [e11, e12, nI_clamp (by omega), nI_clamp (by omega)]
    rw [es] at y1
    have r5 : R1 365 k = nI (f k) := by rw [y3 365 (by decide)]; exact h4 k hk
    have run : ∀ rr, fM_triesAll_B143 P ex rr (am_pk 330 0 13) l1 l2 (bI b) (nI k) (put I R) = cif b (cif (snF u t m (q k) = nI (f k)) (rr (am_pk 330 0 13) l1 l2 1 (nI (k + 1)) (put I R1)) (rr (am_pk 330 0 13) l1 l2 0 (nI (k + 1)) (put I R1))) (rr (am_pk 330 0 13) l1 l2 0 (nI (k + 1)) (put I R)) := by
      intro rr
      unfold fM_triesAll_B143 fM_triesAll_J199 fM_triesAll_J200
      rw [sm_ck_pos (am_t_pk (by decide)), put_rd sc_330, h45, if_neg (by rw [nI_leI (by omega) (by omega)]; omega), sp_330_41 hS, sp_330_15 hS, sp_330_42 hS, nI_clamp (show k < 2 ^ 31 by omega), put_rd sc_364, h3 k hk, nI_clamp (show q k < 2 ^ 31 by omega), put_rd sc_346, e46, sm_ck_pos (sm_in_nI (by decide) (by omega)), sm_ck_pos (sm_in_nI (by decide) hs14), bd_eq, d10 (by omega) (by omega), r10 (by omega) (by omega), y1, Option.bind_some, bI_if]
      dsimp only
      simp only [bd_eq, put_rd sc_365, r5, nI_1]
      rw [sm_ck_pos (sm_in_nI (by decide) (by omega))]
      by_cases a : b
      · rw [if_pos a, cif_t a]
        by_cases z : snF u t m (q k) = nI (f k)
        · rw [if_neg (fun y => y z), cif_t z]
        · rw [if_pos z, cif_f z]
      · rw [if_neg a, cif_f a]
    have r' : ∀ (R2 : am_M) (b' : Prop), MW R2 u t m nb ns ne → (∀ c, c ≠ 358 → R2 c = R c) → ∃ R', fM_triesAll_L143 P ex fu (am_pk 330 0 13) l1 l2 (bI b') (nI (k + 1)) (put I R2) = ex (am_pk 330 0 13) l1 l2 (bI (b' ∧ ∀ j, k + 1 ≤ j → j < n → snF u t m (q j) = nI (f j))) (put I R') ∧ MW R' u t m nb ns ne ∧ ∀ c, c ≠ 358 → R' c = R c := by
      intro R2 b' g1 g2
      obtain ⟨R', z1, z2, z3⟩ := m_tr2 hS (l1 := l1) (l2 := l2) hn hq (ex := ex) d (k + 1) fu R2 b' (by omega) (by omega) g1 (by rw [g2 330 (by decide)]; exact h45) (fun j hj => by rw [g2 364 (by decide)]; exact h3 j hj) (fun j hj => by rw [g2 365 (by decide)]; exact h4 j hj)
      exact ⟨R', z1, z2, fun c hc => by rw [z3 c hc, g2 c hc]⟩
    show ∃ R', fM_triesAll_B143 _ _ _ _ _ _ _ _ _ = _ ∧ _
    rw [run]
    by_cases a : b
    · rw [cif_t a]
      by_cases z : snF u t m (q k) = nI (f k)
      · rw [cif_t z, ← bI_t a]
        obtain ⟨R', z1, z2, z3⟩ := r' R1 b y2 y3
        refine ⟨R', ?_, z2, z3⟩
        rw [z1, bI_c (show (b ∧ ∀ j, k + 1 ≤ j → j < n → snF u t m (q j) = nI (f j)) ↔ (b ∧ ∀ j, k ≤ j → j < n → snF u t m (q j) = nI (f j)) from ⟨fun y => ⟨a, fun j a1 a2 => by
          by_cases e : j = k
          · rw [e]; exact z
          · exact y.2 j (by omega) a2⟩, fun y => ⟨a, fun j a1 a2 => y.2 j (by omega) a2⟩⟩)]
      · rw [cif_f z, ← bI_f (show ¬ False from fun y => y)]
        obtain ⟨R', z1, z2, z3⟩ := r' R1 False y2 y3
        refine ⟨R', ?_, z2, z3⟩
        rw [z1, bI_c (show (False ∧ ∀ j, k + 1 ≤ j → j < n → snF u t m (q j) = nI (f j)) ↔ (b ∧ ∀ j, k ≤ j → j < n → snF u t m (q j) = nI (f j)) from ⟨fun y => y.1.elim, fun y => absurd (y.2 k (Nat.le_refl _) hk) z⟩)]
    · rw [cif_f a, ← bI_f (show ¬ False from fun y => y)]
      obtain ⟨R', z1, z2, z3⟩ := r' R False h (fun _ _ => rfl)
      refine ⟨R', ?_, z2, z3⟩
      rw [z1, bI_c (show (False ∧ ∀ j, k + 1 ≤ j → j < n → snF u t m (q j) = nI (f j)) ↔ (b ∧ ∀ j, k ≤ j → j < n → snF u t m (q j) = nI (f j)) from ⟨fun y => y.1.elim, fun y => absurd y.1 a⟩)]
end Trm
