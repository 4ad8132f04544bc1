/-! ===== the reference's trials: all ===== -/
section Trm2
variable {I R : am_M} {P : am_Q} {nx : Nat} {w : am_M} {t : Nat → Nat → List Nat} {m nb ns ne : Nat}
theorem m_tr3 (hS : SP P) {n : Nat} {f : Nat → Nat} {l1 l2 : Int32} (hn : n ≤ 3) {ex : Nat → Int32 → Int32 → Int32 → am_M → Option am_M} : ∀ (d k fu : Nat) (R : am_M), d < fu → k + d = n → R 330 45 = nI n → R 330 46 = 0 → (∀ j, j < n → R 365 j = nI (f j)) → (∀ j, j < k → R 366 j = nI (f j)) → ∃ R', fM_triesAll_L211 P ex fu (am_pk 330 0 13) l1 l2 1 (nI k) (put I R) = ex (am_pk 330 0 13) l1 l2 1 (put I R') ∧ (∀ j, j < n → R' 366 j = nI (f j)) ∧ ∀ c, c ≠ 366 → R' c = R c
  | 0, k, fu, R, h1, h2, h45, h46, h3, h4 => by
    obtain ⟨fu, rfl⟩ : ∃ n', fu = n' + 1 := ⟨fu - 1, by omega⟩
    refine ⟨R, ?_, fun j hj => h4 j (by omega), fun _ _ => rfl⟩
    show fM_triesAll_B211 _ _ _ _ _ _ _ _ _ = _
    unfold fM_triesAll_B211
    rw [sm_ck_pos (am_t_pk (by decide)), put_rd sc_330, h45, if_pos (by rw [nI_leI (by omega) (by omega)]; omega)]
  | d + 1, k, fu, R, h1, h2, h45, h46, h3, h4 => by
    obtain ⟨fu, rfl⟩ : ∃ n', fu = n' + 1 := ⟨fu - 1, by omega⟩
    have hk : k < n := by omega
    have run : ∀ rr, fM_triesAll_B211 P ex rr (am_pk 330 0 13) l1 l2 1 (nI k) (put I R) = rr (am_pk 330 0 13) l1 l2 1 (nI (k + 1)) (put I (am_up R 366 k (nI (f k)))) := by
      intro rr
      unfold fM_triesAll_B211
      rw [sm_ck_pos (am_t_pk (by decide)), put_rd sc_330, put_rd sc_330, h45, h46, if_neg (by rw [nI_leI (by omega) (by omega)]; omega), if_neg (by decide), if_neg (fun z => z rfl), sp_330_42 hS, sp_330_43 hS, nI_clamp (show k < 2 ^ 31 by omega), put_rd sc_365, h3 k hk, put_up sc_366, sm_ck_pos (sm_in_nI (by decide) (by omega)), sm_ck_pos (sm_iw_nI (by decide) (by decide) (by omega)), bd_eq, bd_eq, nI_1]
    show ∃ R', fM_triesAll_B211 _ _ _ _ _ _ _ _ _ = _ ∧ _
    rw [run]
    obtain ⟨R', y1, y2, y3⟩ := m_tr3 hS (l1 := l1) (l2 := l2) hn (ex := ex) d (k + 1) fu (am_up R 366 k (nI (f k))) (by omega) (by omega) (by rw [am_up_ne (by decide)]; exact h45) (by rw [am_up_ne (by decide)]; exact h46) (fun j hj => by rw [am_up_ne (by decide)]; exact h3 j hj) (fun j hj => by
      by_cases e : j = k
      · rw [e, am_up_eq]
      · rw [am_up_nk e]; exact h4 j (by omega))
    exact ⟨R', y1, y2, fun c hc => by rw [y3 c hc]; funext j; rw [am_up_ne hc]⟩
theorem m_tr3n {n fu : Nat} {l1 l2 l4 : Int32} {ex : Nat → Int32 → Int32 → Int32 → am_M → Option am_M} (h0 : 0 < fu) (h : l4 = 0 ∨ ¬ R 330 46 = 0) : fM_triesAll_L211 P ex fu (am_pk 330 0 13) l1 l2 l4 0 (put I R) = ex (am_pk 330 0 13) l1 l2 l4 (put I R) := by
  obtain ⟨fu, rfl⟩ : ∃ n', fu = n' + 1 := ⟨fu - 1, by omega⟩
  show fM_triesAll_B211 _ _ _ _ _ _ _ _ _ = _
  unfold fM_triesAll_B211
  rw [sm_ck_pos (am_t_pk (by decide)), put_rd sc_330, put_rd sc_330]
  by_cases a : R 330 45 ≤ 0
  · rw [if_pos a]
  · rw [if_neg a]
    by_cases b : l4 = 0
    · rw [if_pos b]
    · rw [if_neg b, if_pos (h.resolve_left b)]
theorem m_j252 {c v : Nat} {b : Prop} {l1 : Int32} {r60 : Nat → Int32 → Int32 → am_M → Option am_M} (h : R 330 46 = nI c) : fM_triesAll_J252 P r60 (am_pk 330 0 13) l1 (nI v) (bI b) (put I R) = r60 (am_pk 330 0 13) l1 (nI (v + 1)) (put I (am_up R 330 46 (nI (cif b (c + 1) c)))) := by
  unfold fM_triesAll_J252 fM_triesAll_J267
  rw [sm_ck_pos (am_t_pk (by decide)), put_rd sc_330, h, bI_if]
  by_cases a : b
  · rw [if_pos a, cif_t a, sm_ck_pos (am_t_pk (by decide)), bd_eq, bd_eq, put_up sc_330, nI_1, nI_1]
  · rw [if_neg a, cif_f a, sm_ck_pos (am_t_pk (by decide)), bd_eq, bd_eq, put_up sc_330, nI_1, Int32.add_zero]
/-- one trial -/
theorem m_tri (hS : SP P) (hw : wiv w t m nb ns ne) {n v c b : Nat} {q : Nat → Nat} {l1 : Int32} (hn : n ≤ 3) (hq : qok ns n q) (hv0 : v < 5000) (hc : c < 5000) {R u : am_M} (h : MW R u t m nb ns ne) (ho : ofD w q n u) (h45 : R 330 45 = nI n) (h46 : R 330 46 = nI c) (h3 : ∀ k, k < n → R 364 k = nI (q k)) (h6 : 0 < c → ∀ k, k < n → R 366 k = nI (dgF m n b k)) {e60 : Nat → am_M → Option am_M} {r60 : Nat → Int32 → Int32 → am_M → Option am_M} (hl : ¬ l1 ≤ nI v) : ∃ R', fM_triesAll_B60 P e60 r60 (am_pk 330 0 13) l1 (nI v) (put I R) = r60 (am_pk 330 0 13) l1 (nI (v + 1)) (put I R') ∧ MW R' (dwN w q m n v) t m nb ns ne ∧ R' 330 46 = nI (cif (anP w t q m n v) (c + 1) c) ∧ (0 < cif (anP w t q m n v) (c + 1) c → ∀ k, k < n → R' 366 k = nI (dgF m n (cif (anP w t q m n v) (if c = 0 then v else b) b) k)) ∧ (∀ e, e ≠ 330 → e ≠ 340 → e ≠ 358 → e ≠ 365 → e ≠ 366 → R' e = R e) ∧ ∀ k, k ≠ 46 → R' 330 k = R 330 k := by
  have hle := h.le
  obtain ⟨s1, s2⟩ := dwF_s hw hq (g := dgF m n v) n v u (Nat.le_refl _) ho (fun _ _ => rfl) (fun k a1 a2 => absurd a2 (by omega))
  have eu : dwF w q m n v u = dwN w q m n v := s1.eq (dwN_s hw hq).1 s2 (dwN_s hw hq).2
  obtain ⟨R1, y1, y2, y3, y4, y5⟩ := m_tr1 (I := I) hS hw (l1 := l1) (l2 := nI v) hn hq (ex := fun l0 l1 l2 I => fM_triesAll_L143 P (fun l0 l1 l2 l4 I => fM_triesAll_L211 P (fun l0 l1 l2 l4 I => fM_triesAll_J252 P r60 l0 l1 l2 l4 I) sm_fu l0 l1 l2 l4 0 I) sm_fu l0 l1 l2 1 0 I) n sm_fu v R u (sm_fu_lt (by omega)) (Nat.le_refl _) (by omega) h ho h3
  rw [eu] at y2
  obtain ⟨R2, z1, z2, z3⟩ := m_tr2 (I := I) (P := P) hS (l1 := l1) (l2 := nI v) (f := dgF m n v) hn hq (ex := fun l0 l1 l2 l4 I => fM_triesAll_L211 P (fun l0 l1 l2 l4 I => fM_triesAll_J252 P r60 l0 l1 l2 l4 I) sm_fu l0 l1 l2 l4 0 I) n 0 sm_fu R1 True (sm_fu_lt (by omega)) (by omega) y2 (by rw [y5 330 (by decide) (by decide)]; exact h45) (fun j hj => by rw [y5 364 (by decide) (by decide)]; exact h3 j hj) y3
  rw [bI_t trivial, bI_c (show (True ∧ ∀ j, 0 ≤ j → j < n → snF (dwN w q m n v) t m (q j) = nI (dgF m n v j)) ↔ anP w t q m n v from ⟨fun y k hk => y.2 k (Nat.zero_le _) hk, fun y => ⟨trivial, fun j _ hj => y j hj⟩⟩)] at z1
  have f2 : ∀ e, e ≠ 340 → e ≠ 358 → e ≠ 365 → R2 e = R e := fun e e1 e2 e3 => by rw [z3 e e2, y5 e e1 e3]
  have k45 : R2 330 45 = nI n := by rw [f2 330 (by decide) (by decide) (by decide)]; exact h45
  have k46 : R2 330 46 = nI c := by rw [f2 330 (by decide) (by decide) (by decide)]; exact h46
  have k65 : ∀ j, j < n → R2 365 j = nI (dgF m n v j) := fun j hj => by rw [z3 365 (by decide)]; exact y3 j hj
  have t3 : ∃ R3, fM_triesAll_L211 P (fun l0 l1 l2 l4 I => fM_triesAll_J252 P r60 l0 l1 l2 l4 I) sm_fu (am_pk 330 0 13) l1 (nI v) (bI (anP w t q m n v)) 0 (put I R2) = fM_triesAll_J252 P r60 (am_pk 330 0 13) l1 (nI v) (bI (anP w t q m n v)) (put I R3) ∧ (0 < cif (anP w t q m n v) (c + 1) c → ∀ k, k < n → R3 366 k = nI (dgF m n (cif (anP w t q m n v) (if c = 0 then v else b) b) k)) ∧ ∀ e, e ≠ 366 → R3 e = R2 e := by
    by_cases a : anP w t q m n v
    · rw [bI_t a, cif_t a, cif_t a]
      by_cases c0 : c = 0
      · rw [if_pos c0]
        obtain ⟨R3, x1, x2, x3⟩ := m_tr3 (I := I) (P := P) hS (l1 := l1) (l2 := nI v) (f := dgF m n v) hn (ex := fun l0 l1 l2 l4 I => fM_triesAll_J252 P r60 l0 l1 l2 l4 I) n 0 sm_fu R2 (sm_fu_lt (by omega)) (by omega) k45 (by rw [k46, c0]; rfl) k65 (fun j hj => absurd hj (Nat.not_lt_zero _))
        exact ⟨R3, x1, fun _ => x2, x3⟩
      · rw [if_neg c0]
        refine ⟨R2, m_tr3n (n := n) (sm_fu_lt (by omega)) (Or.inr ?_), fun _ k hk => ?_, fun _ _ => rfl⟩
        · rw [k46, show (0 : Int32) = nI 0 from rfl, nI_eq (by omega) (by decide)]; exact c0
        · rw [f2 366 (by decide) (by decide) (by decide)]; exact h6 (by omega) k hk
    · rw [bI_f a, cif_f a, cif_f a]
      exact ⟨R2, m_tr3n (n := n) (sm_fu_lt (by omega)) (Or.inl rfl), fun c0 k hk => by rw [f2 366 (by decide) (by decide) (by decide)]; exact h6 c0 k hk, fun _ _ => rfl⟩
  obtain ⟨R3, x1, x2, x3⟩ := t3
  refine ⟨am_up R3 330 46 (nI (cif (anP w t q m n v) (c + 1) c)), ?_, ?_, by rw [am_up_eq], fun a k hk => by rw [am_up_ne (by decide)]; exact x2 a k hk, fun e e1 e2 e3 e4 e5 => ?_, fun k hk => ?_⟩
  · unfold fM_triesAll_B60
    rw [if_neg hl, sm_ck_pos (am_t_pk (by decide)), bd_eq, put_rd sc_330, h45, ← nI_dm, y1]
    refine Eq.trans z1 ?_
    rw [x1, m_j252 (by rw [x3 330 (by decide)]; exact k46)]
  · exact z2.fr (fun e e1 e2 => by funext j; rw [am_up_ne (by omega), x3 e (by omega)])
  · funext j; rw [am_up_ne e1, x3 e e5, f2 e e2 e3 e4]
  · rw [am_up_nk hk, x3 330 (by decide), f2 330 (by decide) (by decide) (by decide)]
theorem m_trL (hS : SP P) (hw : wiv w t m nb ns ne) {n : Nat} {q : Nat → Nat} (hn : n ≤ 3) (hq : qok ns n q) {ex : Nat → am_M → Option am_M} : ∀ (d v fu c b : Nat) (R u : am_M), d < fu → v + d = m ^ n → c ≤ v → MW R u t m nb ns ne → ofD w q n u → R 330 45 = nI n → R 330 46 = nI c → (∀ k, k < n → R 364 k = nI (q k)) → (0 < c → ∀ k, k < n → R 366 k = nI (dgF m n b k)) → ∃ R', fM_triesAll_L60 P ex fu (am_pk 330 0 13) (nI (m ^ n)) (nI v) (put I R) = ex (am_pk 330 0 13) (put I R') ∧ R' 330 46 = nI (mrF (anP w t q m n) d v c b).1 ∧ (0 < (mrF (anP w t q m n) d v c b).1 → ∀ k, k < n → R' 366 k = nI (dgF m n (mrF (anP w t q m n) d v c b).2 k)) ∧ (∀ e, e ≠ 330 → e ≠ 340 → e ≠ 358 → e ≠ 365 → e ≠ 366 → R' e = R e) ∧ ∀ k, k ≠ 46 → R' 330 k = R 330 k
  | 0, v, fu, c, b, R, u, h1, h2, hc, h, ho, h45, h46, h3, h6 => by
    obtain ⟨fu, rfl⟩ : ∃ n', fu = n' + 1 := ⟨fu - 1, by omega⟩
    have hle := h.le
    have hp := pw_le (m := m) (n := n) hle.2.2.2.2 hn (by omega)
    refine ⟨R, ?_, h46, h6, fun _ _ _ _ _ _ => rfl, fun _ _ => rfl⟩
    show fM_triesAll_B60 _ _ _ _ _ _ _ = _
    unfold fM_triesAll_B60
    rw [if_pos (by rw [nI_leI (by omega) (by omega)]; omega)]
  | d + 1, v, fu, c, b, R, u, h1, h2, hc, h, ho, h45, h46, h3, h6 => by
    obtain ⟨fu, rfl⟩ : ∃ n', fu = n' + 1 := ⟨fu - 1, by omega⟩
    have hle := h.le
    have hp := pw_le (m := m) (n := n) hle.2.2.2.2 hn (by omega)
    obtain ⟨R1, y1, y2, y3, y4, y5, y6⟩ := m_tri (I := I) (P := P) hS hw (l1 := nI (m ^ n)) (v := v) hn hq (by omega) (by omega) h ho h45 h46 h3 h6 (e60 := ex) (r60 := fM_triesAll_L60 P ex fu) (by rw [nI_leI (by omega) (by omega)]; omega)
    obtain ⟨R', z1, z2, z3, z4, z5⟩ := m_trL hS hw hn hq (ex := ex) d (v + 1) fu (cif (anP w t q m n v) (c + 1) c) (cif (anP w t q m n v) (if c = 0 then v else b) b) R1 (dwN w q m n v) (by omega) (by omega) (by
      by_cases a : anP w t q m n v
      · rw [cif_t a]; omega
      · rw [cif_f a]; omega) y2 (dwN_s hw hq).1 (by rw [y6 45 (by decide)]; exact h45) y3 (fun k hk => by rw [y5 364 (by decide) (by decide) (by decide) (by decide) (by decide)]; exact h3 k hk) y4
    have em : mrF (anP w t q m n) (d + 1) v c b = mrF (anP w t q m n) d (v + 1) (cif (anP w t q m n v) (c + 1) c) (cif (anP w t q m n v) (if c = 0 then v else b) b) := by
      show cif _ _ _ = _
      by_cases a : anP w t q m n v
      · rw [cif_t a, cif_t a, cif_t a]
      · rw [cif_f a, cif_f a, cif_f a]
    rw [em]
    refine ⟨R', ?_, z2, z3, fun e e1 e2 e3 e4 e5 => by rw [z4 e e1 e2 e3 e4 e5, y5 e e1 e2 e3 e4 e5], fun k hk => by rw [z5 k hk, y6 k hk]⟩
    show fM_triesAll_B60 _ _ _ _ _ _ _ = _
    rw [y1, z1]
theorem m_tr4 (hS : SP P) {ex : Nat → am_M → Option am_M} : ∀ (d i fu : Nat) (R : am_M), d < fu → i + d = 14 → (∀ j, j < i → R 367 j = R 340 j) → ∃ R', fM_triesAll_L2 P ex fu (am_pk 330 0 13) (nI i) (put I R) = ex (am_pk 330 0 13) (put I R') ∧ (∀ j, j < 14 → R' 367 j = R 340 j) ∧ ∀ c, c ≠ 367 → R' c = R c
  | 0, i, fu, R, h1, h2, h3 => by
    obtain ⟨fu, rfl⟩ : ∃ n', fu = n' + 1 := ⟨fu - 1, by omega⟩
    refine ⟨R, ?_, fun j hj => h3 j (by omega), fun _ _ => rfl⟩
    show fM_triesAll_B2 _ _ _ _ _ _ = _
    unfold fM_triesAll_B2
    rw [show (14 : Int32) = nI 14 from rfl, if_pos (by rw [nI_leI (by omega) (by omega)]; omega)]
  | d + 1, i, fu, R, h1, h2, h3 => by
    obtain ⟨fu, rfl⟩ : ∃ n', fu = n' + 1 := ⟨fu - 1, by omega⟩
    have run : ∀ rr, fM_triesAll_B2 P ex rr (am_pk 330 0 13) (nI i) (put I R) = rr (am_pk 330 0 13) (nI (i + 1)) (put I (am_up R 367 i (R 340 i))) := by
      intro rr
      unfold fM_triesAll_B2
      rw [show (14 : Int32) = nI 14 from rfl, if_neg (by rw [nI_leI (by omega) (by omega)]; omega), sm_ck_pos (am_t_pk (by decide)), sp_330_9 hS, sp_330_44 hS, nI_clamp (show i < 2 ^ 31 by omega), put_rd sc_340, put_up sc_367, sm_ck_pos (sm_in_nI (by decide) (by omega)), sm_ck_pos (sm_iw_nI (by decide) (by decide) (by omega)), bd_eq, bd_eq, nI_1]
    show ∃ R', fM_triesAll_B2 _ _ _ _ _ _ = _ ∧ _
    rw [run]
    obtain ⟨R', y1, y2, y3⟩ := m_tr4 hS (ex := ex) d (i + 1) fu (am_up R 367 i (R 340 i)) (by omega) (by omega) (fun j hj => by
      rw [am_up_ne (p := 340) (by decide)]
      by_cases e : j = i
      · rw [e, am_up_eq]
      · rw [am_up_nk e]; exact h3 j (by omega))
    exact ⟨R', y1, fun j hj => by rw [y2 j hj, am_up_ne (by decide)], fun c hc => by rw [y3 c hc]; funext j; rw [am_up_ne hc]⟩
theorem m_tr5 (hS : SP P) : ∀ (d i fu : Nat) (R : am_M), d < fu → i + d = 14 → (∀ j, j < i → R 340 j = R 367 j) → ∃ R', fM_triesAll_L279 P (fun I => some I) fu (am_pk 330 0 13) (nI i) (put I R) = some (put I R') ∧ (∀ j, j < 14 → R' 340 j = R 367 j) ∧ ∀ c, c ≠ 340 → R' c = R c
  | 0, i, fu, R, h1, h2, h3 => by
    obtain ⟨fu, rfl⟩ : ∃ n', fu = n' + 1 := ⟨fu - 1, by omega⟩
    refine ⟨R, ?_, fun j hj => h3 j (by omega), fun _ _ => rfl⟩
    show fM_triesAll_B279 _ _ _ _ _ _ = _
    unfold fM_triesAll_B279
    rw [show (14 : Int32) = nI 14 from rfl, if_pos (by rw [nI_leI (by omega) (by omega)]; omega)]
  | d + 1, i, fu, R, h1, h2, h3 => by
    obtain ⟨fu, rfl⟩ : ∃ n', fu = n' + 1 := ⟨fu - 1, by omega⟩
    have run : ∀ rr, fM_triesAll_B279 P (fun I => some I) rr (am_pk 330 0 13) (nI i) (put I R) = rr (am_pk 330 0 13) (nI (i + 1)) (put I (am_up R 340 i (R 367 i))) := by
      intro rr
      unfold fM_triesAll_B279
      rw [show (14 : Int32) = nI 14 from rfl, if_neg (by rw [nI_leI (by omega) (by omega)]; omega), sm_ck_pos (am_t_pk (by decide)), sp_330_9 hS, sp_330_44 hS, nI_clamp (show i < 2 ^ 31 by omega), put_rd sc_367, put_up sc_340, sm_ck_pos (sm_in_nI (by decide) (by omega)), sm_ck_pos (sm_iw_nI (by decide) (by decide) (by omega)), bd_eq, bd_eq, nI_1]
    show ∃ R', fM_triesAll_B279 _ _ _ _ _ _ = _ ∧ _
    rw [run]
    obtain ⟨R', y1, y2, y3⟩ := m_tr5 hS d (i + 1) fu (am_up R 340 i (R 367 i)) (by omega) (by omega) (fun j hj => by
      rw [am_up_ne (p := 367) (by decide)]
      by_cases e : j = i
      · rw [e, am_up_eq]
      · rw [am_up_nk e]; exact h3 j (by omega))
    exact ⟨R', y1, fun j hj => by rw [y2 j hj, am_up_ne (by decide)], fun c hc => by rw [y3 c hc]; funext j; rw [am_up_ne hc]⟩
theorem m_tr6 (hS : SP P) (h5 : R 332 5 = nI m) {n : Nat} (h45 : R 330 45 = nI n) (hn : n ≤ 3) {ex : Nat → Int32 → am_M → Option am_M} : ∀ (d i fu : Nat), d < fu → i + d = n → fM_triesAll_L30 P ex fu (am_pk 330 0 13) (nI (m ^ i)) (nI i) (put I R) = ex (am_pk 330 0 13) (nI (m ^ n)) (put I R)
  | 0, i, fu, h1, h2 => by
    obtain ⟨fu, rfl⟩ : ∃ n', fu = n' + 1 := ⟨fu - 1, by omega⟩
    have e : i = n := by omega
    subst e
    show fM_triesAll_B30 _ _ _ _ _ _ _ = _
    unfold fM_triesAll_B30
    rw [sm_ck_pos (am_t_pk (by decide)), put_rd sc_330, h45, if_pos (by rw [nI_leI (by omega) (by omega)]; omega)]
  | d + 1, i, fu, h1, h2 => by
    obtain ⟨fu, rfl⟩ : ∃ n', fu = n' + 1 := ⟨fu - 1, by omega⟩
    show fM_triesAll_B30 _ _ _ _ _ _ _ = _
    unfold fM_triesAll_B30
    rw [sm_ck_pos (am_t_pk (by decide)), put_rd sc_330, h45, if_neg (by rw [nI_leI (by omega) (by omega)]; omega), sp_330_1 hS, sm_ck_pos (inl l_5 (by decide) (by decide)), cl_5, put_rd sc_332, h5, bd_eq, bd_eq, pk_mul, nI_1, ← Nat.pow_succ]
    exact m_tr6 hS h5 h45 hn d (i + 1) fu (by omega) (by omega)
theorem m_tries (hS : SP P) (h : MW R w t m nb ns ne) {n : Nat} {q : Nat → Nat} (hn : n ≤ 3) (hq : qok ns n q) (h45 : R 330 45 = nI n) (h3 : ∀ k, k < n → R 364 k = nI (q k)) : ∃ R', fM_triesAll P (am_pk 330 0 13) (put I R) = some (put I R') ∧ MW R' w t m nb ns ne ∧ R' 330 46 = nI (mrF (anP w t q m n) (m ^ n) 0 0 0).1 ∧ (0 < (mrF (anP w t q m n) (m ^ n) 0 0 0).1 → ∀ k, k < n → R' 366 k = nI (dgF m n (mrF (anP w t q m n) (m ^ n) 0 0 0).2 k)) ∧ (∀ e, e ≠ 330 → e ≠ 340 → e ≠ 358 → e ≠ 365 → e ≠ 366 → e ≠ 367 → R' e = R e) ∧ ∀ k, k ≠ 46 → R' 330 k = R 330 k := by
  have hle := h.le
  have hpw := pw_le (m := m) (n := n) hle.2.2.2.2 hn (by omega)
  obtain ⟨R1, y1, y2, y3⟩ := m_tr4 (I := I) (P := P) hS (ex := fun l0 I => fM_triesAll_L30 P (fun l0 l1 I => sm_ck (am_t l0 = 13) <| sm_bd (am_up I l0 46 0) fun I13 => fM_triesAll_L60 P (fun l0 I => fM_triesAll_L279 P (fun I => some I) sm_fu l0 0 I) sm_fu l0 l1 0 I13) sm_fu l0 1 0 I) 14 0 sm_fu R (sm_fu_lt (by omega)) (by omega) (fun j hj => absurd hj (Nat.not_lt_zero _))
  have m1 : MW R1 w t m nb ns ne := h.fr (fun c c1 c2 => y3 c (by omega))
  have a45 : R1 330 45 = nI n := by rw [y3 330 (by decide)]; exact h45
  have m2 : MW (am_up R1 330 46 0) w t m nb ns ne := m1.fr (fun c c1 c2 => by funext j; rw [am_up_ne (by omega)])
  obtain ⟨R2, z1, z2, z3, z4, z5⟩ := m_trL (I := I) (P := P) hS h.2.1 hn hq (ex := fun l0 I => fM_triesAll_L279 P (fun I => some I) sm_fu l0 0 I) (m ^ n) 0 sm_fu 0 0 (am_up R1 330 46 0) w (sm_fu_lt (by omega)) (by omega) (Nat.le_refl _) m2 (fun _ _ _ => rfl) (by rw [am_up_nk (by decide)]; exact a45) (by rw [am_up_eq]; rfl) (fun k hk => by rw [am_up_ne (by decide), y3 364 (by decide)]; exact h3 k hk) (fun a => absurd a (Nat.lt_irrefl _))
  obtain ⟨R3, x1, x2, x3⟩ := m_tr5 (I := I) (P := P) hS 14 0 sm_fu R2 (sm_fu_lt (by omega)) (by omega) (fun j hj => absurd hj (Nat.not_lt_zero _))
  have g67 : ∀ j, j < 14 → R3 340 j = R 340 j := fun j hj => by
    rw [x2 j hj, z4 367 (by decide) (by decide) (by decide) (by decide) (by decide), am_up_ne (by decide), y2 j hj]
  have g : ∀ e, e ≠ 330 → e ≠ 340 → e ≠ 358 → e ≠ 365 → e ≠ 366 → e ≠ 367 → R3 e = R e := fun e e1 e2 e3 e4 e5 e6 => by
    rw [x3 e e2, z4 e e1 e2 e3 e4 e5]; funext j; rw [am_up_ne e1, y3 e e6]
  refine ⟨R3, ?_, ?_, ?_, fun a k hk => ?_, g, fun k hk => ?_⟩
  · unfold fM_triesAll
    refine Eq.trans y1 ?_
    refine Eq.trans (m_tr6 hS m1.n5 a45 hn n 0 sm_fu (sm_fu_lt (by omega)) (by omega)) ?_
    rw [sm_ck_pos (am_t_pk (by decide)), bd_eq, put_up sc_330]
    exact Eq.trans z1 x1
  · refine h.cg (fun c k c1 c2 ck => ?_)
    by_cases e : c = 340
    · subst e; exact g67 k ck
    · rw [g c (by omega) e (by omega) (by omega) (by omega) (by omega)]
  · rw [x3 330 (by decide)]; exact z2
  · rw [x3 366 (by decide)]; exact z3 a k hk
  · rw [x3 330 (by decide), z5 k hk, am_up_nk hk, y3 330 (by decide)]
end Trm2
