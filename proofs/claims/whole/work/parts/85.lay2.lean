/-! ===== lay ===== -/
theorem pw3 {q n : Nat} (h1 : q ≤ 3) (h2 : n ≤ 7) : q ^ n ≤ 2187 := Nat.le_trans (Nat.pow_le_pow_left h1 n) (Nat.pow_le_pow_right (n := 3) (by decide) h2)
theorem lyF_le {T : Nat → Nat} : ∀ (d v b i : Nat), (lyF T d v b i).1 ≤ b
  | 0, _, _, _ => Nat.le_refl _
  | d + 1, v, b, i => by
    show (if T v < b then lyF T d (v + 1) (T v) v else lyF T d (v + 1) b i).1 ≤ b
    by_cases q : T v < b
    · rw [if_pos q]; have := lyF_le (T := T) d (v + 1) (T v) v; omega
    · rw [if_neg q]; exact lyF_le d (v + 1) b i
noncomputable def lyT (w : am_M) (nb ns q v : Nat) : Nat := enT w nb ns (dgF q nb v)
section Lay2
variable {I R : am_M} {P : am_Q} {nx sl : Nat} {w : am_M} {t : Nat → Nat → List Nat} {m nb ns ne : Nat}
theorem x_layL (hS : SP P) {q : Nat} (q1 : 1 ≤ q) (q2 : q ≤ 3) : ∀ (d v fu best bi : Nat) (R : am_M), d < fu → v + d = q ^ nb → best ≤ 1000 → CW I R P 7 w t m nb ns ne → (∀ j', j' < nb → wtP w ns R j') → (v < q ^ nb → ∀ b, b < nb → R 315 b = nI (dgF q nb v b)) → (best < 1000 → ∀ b, b < nb → R 316 b = nI (dgF q nb bi b)) → ∃ R', fC_findLaying_L45 P (fun l4 I => some (l4, I)) fu (am_pk 314 0 5) (am_pk 7 0 11) (nI q) (nI (q ^ nb)) (nI best) (nI v) (put I R) = some (nI (lyF (lyT w nb ns q) d v best bi).1, put I R') ∧ ((lyF (lyT w nb ns q) d v best bi).1 < 1000 → ∀ b, b < nb → R' 316 b = nI (dgF q nb (lyF (lyT w nb ns q) d v best bi).2 b)) ∧ ∀ c, (c < 315 ∨ 320 ≤ c) → R' c = R c
  | 0, v, fu, best, bi, R, h1, h2, hb, h, hW, h5, h6 => by
    obtain ⟨fu, rfl⟩ : ∃ n', fu = n' + 1 := ⟨fu - 1, by omega⟩
    have hp := pw3 q2 h.le.1
    refine ⟨R, ?_, h6, fun _ _ => rfl⟩
    show fC_findLaying_B45 _ _ _ _ _ _ _ _ _ _ = _
    unfold fC_findLaying_B45
    rw [if_pos (by rw [nI_leI (by omega) (by omega)]; omega)]
    rfl
  | d + 1, v, fu, best, bi, R, h1, h2, hb, h, hW, h5, h6 => by
    obtain ⟨fu, rfl⟩ : ∃ n', fu = n' + 1 := ⟨fu - 1, by omega⟩
    have hle := h.le
    have hp := pw3 q2 hle.1
    have hv : v < q ^ nb := by omega
    have hT : lyT w nb ns q v ≤ 63 := enT_bd h.2.2.1
    obtain ⟨R1, y1, y2⟩ := x_endB hS h (f := dgF q nb v) (fun b _ => Nat.lt_of_lt_of_le (dgF_lt (by omega) nb v b) q2) hb hW (h5 hv)
    have y1' : fC_endBelow P (am_pk 314 0 5) (am_pk 7 0 11) (nI best) (put I R) = some (nI (cif (lyT w nb ns q v < best) (lyT w nb ns q v) best), put I R1) := y1
    have c1 : CW I R1 P 7 w t m nb ns ne := h.fr (fun c a1 a2 => y2 c (by omega) (by omega)) (fun c hc => y2 c (by omega) (by omega))
    -- the rest, from a memory R2
    have J : ∀ (R2 : am_M) (best2 bi2 : Nat), best2 ≤ 1000 → (∀ c, c ≠ 316 → R2 c = R1 c) → (best2 < 1000 → ∀ b, b < nb → R2 316 b = nI (dgF q nb bi2 b)) → ∃ R', fC_findLaying_J88 P (fC_findLaying_L45 P (fun l4 I => some (l4, I)) fu) (am_pk 314 0 5) (am_pk 7 0 11) (nI q) (nI (q ^ nb)) (nI best2) (nI v) (put I R2) = some (nI (lyF (lyT w nb ns q) d (v + 1) best2 bi2).1, put I R') ∧ ((lyF (lyT w nb ns q) d (v + 1) best2 bi2).1 < 1000 → ∀ b, b < nb → R' 316 b = nI (dgF q nb (lyF (lyT w nb ns q) d (v + 1) best2 bi2).2 b)) ∧ ∀ c, (c < 315 ∨ 320 ≤ c) → R' c = R c := by
      intro R2 best2 bi2 e1 e2 e3
      have c2 : CW I R2 P 7 w t m nb ns ne := c1.fr (fun c a1 a2 => e2 c (by omega)) (fun c hc => e2 c (by omega))
      obtain ⟨R3, z1, z2, z3, z4⟩ := x_adv (I := I) (P := P) (R := R2) sc_315 (by decide) q1 (by omega) hle.1 hv (fun b hb => by rw [e2 315 (by decide), y2 315 (by decide) (by decide)]; exact h5 hv b hb)
      obtain ⟨R', x1, x2, x3⟩ := x_layL hS q1 q2 d (v + 1) fu best2 bi2 R3 (by omega) (by omega) e1 (c2.fr (fun c a1 a2 => z4 c (by omega)) (fun c hc => z4 c (by omega))) (fun j' hj' => by
        obtain ⟨W, w1, w2, w3⟩ := hW j' hj'
        exact ⟨W, w1, by rw [z4 319 (by decide), e2 319 (by decide), y2 319 (by decide) (by decide)]; exact w2, w3⟩) (fun hh => z2 hh) (fun hh b hb => by rw [z4 316 (by decide)]; exact e3 hh b hb)
      refine ⟨R', ?_, x2, fun c hc => by rw [x3 c hc, z4 c (by omega), e2 c (by omega), y2 c (by omega) (by omega)]⟩
      unfold fC_findLaying_J88
      rw [sm_ck_pos (am_t_pk (by decide)), sm_ck_pos (am_t_pk (by decide)), sp_314_0 hS, put_rd (sc_w0 h.1), c2.c6, z1, Option.bind_some, bd_eq, nI_1]
      exact x1
    show ∃ R', fC_findLaying_B45 _ _ _ _ _ _ _ _ _ _ = some (nI (if lyT w nb ns q v < best then lyF (lyT w nb ns q) d (v + 1) (lyT w nb ns q v) v else lyF (lyT w nb ns q) d (v + 1) best bi).1, put I R') ∧ ((if lyT w nb ns q v < best then lyF (lyT w nb ns q) d (v + 1) (lyT w nb ns q v) v else lyF (lyT w nb ns q) d (v + 1) best bi).1 < 1000 → ∀ b, b < nb → R' 316 b = nI (dgF q nb (if lyT w nb ns q v < best then lyF (lyT w nb ns q) d (v + 1) (lyT w nb ns q v) v else lyF (lyT w nb ns q) d (v + 1) best bi).2 b)) ∧ _
    unfold fC_findLaying_B45
    rw [if_neg (by rw [nI_leI (by omega) (by omega)]; omega), sm_ck_pos (am_t_pk (by decide)), sm_ck_pos (am_t_pk (by decide)), y1', Option.bind_some]
    dsimp only
    by_cases g : lyT w nb ns q v < best
    · rw [cif_t g, if_pos g, if_neg (by rw [nI_leI (by omega) (by omega)]; omega), sp_314_0 hS, sp_314_1 hS, put_rd (sc_w0 h.1), c1.c6, ck_cp (by decide) (by decide) hle.1 hle.1 (by decide) (by decide), cl_0, nI_clamp (show nb < 2 ^ 31 by omega), put_rd' sc_315, put_rd' sc_316, put_set sc_316, bd_eq]
      refine J _ _ _ (by omega) (fun c hc => am_setne hc) (fun _ b hb => ?_)
      rw [am_set_eq, pk_cpy_in (by omega) (by omega), show 0 + (b - 0) = b by omega, y2 315 (by decide) (by decide)]
      exact h5 hv b hb
    · rw [cif_f g, if_neg g, if_pos (by rw [nI_leI (by omega) (by omega)]; omega)]
      exact J R1 best bi hb (fun _ _ => rfl) (fun hh b hb => by rw [y2 316 (by decide) (by decide)]; exact h6 hh b hb)
theorem x_layP (h : CW I R P 7 w t m nb ns ne) {q : Nat} {ex : Nat → Nat → Int32 → Int32 → am_M → Option (Int32 × am_M)} : ∀ (d i fu : Nat), d < fu → i + d = nb → fC_findLaying_L5 P ex fu (am_pk 314 0 5) (am_pk 7 0 11) (nI q) (nI (q ^ i)) (nI i) (put I R) = ex (am_pk 314 0 5) (am_pk 7 0 11) (nI q) (nI (q ^ nb)) (put I R)
  | 0, i, fu, h1, h2 => by
    obtain ⟨fu, rfl⟩ : ∃ n', fu = n' + 1 := ⟨fu - 1, by omega⟩
    have hle := h.le
    have e : i = nb := by omega
    subst e
    show fC_findLaying_B5 _ _ _ _ _ _ _ _ _ = _
    unfold fC_findLaying_B5
    rw [sm_ck_pos (am_t_pk (by decide)), put_rd (sc_w0 h.1), h.c6, if_pos (by rw [nI_leI (by omega) (by omega)]; omega)]
  | d + 1, i, fu, h1, h2 => by
    obtain ⟨fu, rfl⟩ : ∃ n', fu = n' + 1 := ⟨fu - 1, by omega⟩
    have hle := h.le
    show fC_findLaying_B5 _ _ _ _ _ _ _ _ _ = _
    unfold fC_findLaying_B5
    rw [sm_ck_pos (am_t_pk (by decide)), put_rd (sc_w0 h.1), h.c6, if_neg (by rw [nI_leI (by omega) (by omega)]; omega), bd_eq, bd_eq, pk_mul, nI_1, ← Nat.pow_succ]
    exact x_layP h d (i + 1) fu (by omega) (by omega)
theorem x_lay (hS : SP P) (h : CW I R P 7 w t m nb ns ne) {q : Nat} (q1 : 1 ≤ q) (q2 : q ≤ 3) : ∃ R', fC_findLaying P (am_pk 314 0 5) (am_pk 7 0 11) (nI q) (put I R) = some (nI (lyF (lyT w nb ns q) (q ^ nb) 0 1000 0).1, put I R') ∧ ((lyF (lyT w nb ns q) (q ^ nb) 0 1000 0).1 < 1000 → ∀ b, b < nb → R' 316 b = nI (dgF q nb (lyF (lyT w nb ns q) (q ^ nb) 0 1000 0).2 b)) ∧ ∀ c, (c < 315 ∨ 320 ≤ c) → R' c = R c := by
  have hle := h.le
  have hp := pw3 q2 hle.1
  have ef : ∀ c, c ≠ 315 → am_set R 315 (fun i => if i < 7 then 0 else R 315 i) c = R c := fun c hc => am_setne hc
  have h1 : CW I (am_set R 315 (fun i => if i < 7 then 0 else R 315 i)) P 7 w t m nb ns ne := h.fr (fun c c1 c2 => ef c (by omega)) (fun c hc => ef c (by omega))
  obtain ⟨R1, y1, y2, y3⟩ := x_waits hS h1
  have h2 : CW I R1 P 7 w t m nb ns ne := h1.fr (fun c c1 c2 => y3 c (by omega)) (fun c hc => y3 c (by omega))
  obtain ⟨R', z1, z2, z3⟩ := x_layL hS q1 q2 (q ^ nb) 0 sm_fu 1000 0 R1 (sm_fu_lt (by omega)) (by omega) (Nat.le_refl _) h2 y2 (fun _ b hb => by
    rw [y3 315 (by decide), am_set_eq, dgF_0]
    show (if b < 7 then (0 : Int32) else _) = 0
    rw [if_pos (by omega)]) (fun z => absurd z (by decide))
  refine ⟨R', ?_, z2, fun c hc => by rw [z3 c hc, y3 c (by omega), ef c (by omega)]⟩
  unfold fC_findLaying
  rw [show (1 : Int32) = nI (q ^ 0) from rfl, show (0 : Int32) = nI 0 from rfl, x_layP h nb 0 sm_fu (sm_fu_lt (by omega)) (by omega), sm_ck_pos (am_t_pk (by decide)), sp_314_0 hS, show nI 0 = (0 : Int32) from rfl, x_fill sc_315, Option.bind_some, sm_ck_pos (am_t_pk (by decide)), y1, Option.bind_some]
  exact z1
theorem m_lyd (hS : SP P) {q : Nat} (q1 : 1 ≤ q) (q2 : q ≤ 3) {l2 l3 l4 l5 : Int32} {ex : Nat → Int32 → Int32 → Int32 → Int32 → Int32 → am_M → Option (Int32 × am_M)} : ∀ (i fu x : Nat) (R : am_M), i < fu → i ≤ 7 → x < 1000000 → ∃ R', fM_lay_L82 P ex fu (am_pk 330 0 13) (nI q) l2 l3 l4 l5 (nI x) (nI i + (-1)) (put I R) = ex (am_pk 330 0 13) (nI q) l2 l3 l4 l5 (put I R') ∧ (∀ k, k < i → R' 373 k = nI (dgF q i x k)) ∧ (∀ k, i ≤ k → R' 373 k = R 373 k) ∧ ∀ c, c ≠ 373 → R' c = R c
  | 0, fu, x, R, h1, h2, hx => by
    obtain ⟨fu, rfl⟩ : ∃ n', fu = n' + 1 := ⟨fu - 1, by omega⟩
    refine ⟨R, ?_, fun k hk => absurd hk (Nat.not_lt_zero _), fun _ _ => rfl, fun _ _ => rfl⟩
    show fM_lay_B82 _ _ _ _ _ _ _ _ _ _ _ _ = _
    unfold fM_lay_B82
    rw [if_pos nI_dm1]
  | i + 1, fu, x, R, h1, h2, hx => by
    obtain ⟨fu, rfl⟩ : ∃ n', fu = n' + 1 := ⟨fu - 1, by omega⟩
    have hm0 : ¬ nI q = (0 : Int32) := by rw [show (0 : Int32) = nI 0 from rfl, nI_eq (by omega) (by decide)]; omega
    have hrem : sm_rem (nI x) (nI q) = nI (x % q) := pk_rem (by omega) (by omega) (by omega)
    have hdv : nI x / nI q = nI (x / q) := pk_div (by omega) (by omega) (by omega)
    have run : ∀ rr, fM_lay_B82 P ex rr (am_pk 330 0 13) (nI q) l2 l3 l4 l5 (nI x) (nI i) (put I R) = rr (am_pk 330 0 13) (nI q) l2 l3 l4 l5 (nI (x / q)) (nI i + (-1)) (put I (am_up R 373 i (nI (x % q)))) := by
      intro rr
      unfold fM_lay_B82
      rw [if_neg (nI_pos (by omega)), sm_ck_pos (am_t_pk (by decide)), sm_ck_pos hm0, sp_330_54 hS, sm_ck_pos (sm_iw_nI (by decide) (by decide) (by omega)), nI_clamp (show i < 2 ^ 31 by omega), hrem, put_up sc_373, bd_eq, sm_ck_pos hm0, hdv, bd_eq, bd_eq]
    show ∃ R', fM_lay_B82 _ _ _ _ _ _ _ _ _ _ _ _ = _ ∧ _
    rw [pk_m1, run]
    obtain ⟨R', y1, y2, y3, y4⟩ := m_lyd hS q1 q2 (l2 := l2) (l3 := l3) (l4 := l4) (l5 := l5) (ex := ex) i fu (x / q) (am_up R 373 i (nI (x % q))) (by omega) (by omega) (Nat.lt_of_le_of_lt (Nat.div_le_self _ _) hx)
    refine ⟨R', y1, fun k hk => ?_, fun k hk => ?_, fun c hc => by rw [y4 c hc]; funext k; rw [am_up_ne hc]⟩
    · show _ = nI (if k = i then x % q else dgF q i (x / q) k)
      by_cases e : k = i
      · rw [if_pos e, e, y3 i (Nat.le_refl _), am_up_eq]
      · rw [if_neg e]; exact y2 k (by omega)
    · rw [y3 k (by omega), am_up_nk (by omega)]
theorem m_lyc (hS : SP P) {l1 l2 l3 l4 l5 : Int32} {ex : Nat → Int32 → Int32 → Int32 → Int32 → Int32 → am_M → Option (Int32 × am_M)} : ∀ (d k fu : Nat) (R : am_M), d < fu → k + d = nb → MW R w t m nb ns ne → (∀ j, j < k → R 374 j = R 373 j) → ∃ R', fM_lay_L135 P ex fu (am_pk 330 0 13) l1 l2 l3 l4 l5 (nI k) (put I R) = ex (am_pk 330 0 13) l1 l2 l3 l4 l5 (put I R') ∧ (∀ j, j < nb → R' 374 j = R 373 j) ∧ ∀ c, c ≠ 374 → R' c = R c
  | 0, k, fu, R, h1, h2, h, h3 => by
    obtain ⟨fu, rfl⟩ : ∃ n', fu = n' + 1 := ⟨fu - 1, by omega⟩
    have hle := h.le
    refine ⟨R, ?_, fun j hj => h3 j (by omega), fun _ _ => rfl⟩
    show fM_lay_B135 _ _ _ _ _ _ _ _ _ _ _ = _
    unfold fM_lay_B135
    rw [sm_ck_pos (am_t_pk (by decide)), sp_330_1 hS, sm_ck_pos (inl l_0 (by decide) (by decide)), cl_0, put_rd sc_332, h.n0, if_pos (by rw [nI_leI (by omega) (by omega)]; omega)]
  | d + 1, k, fu, R, h1, h2, h, h3 => by
    obtain ⟨fu, rfl⟩ : ∃ n', fu = n' + 1 := ⟨fu - 1, by omega⟩
    have hle := h.le
    obtain ⟨R', y1, y2, y3⟩ := m_lyc hS (l1 := l1) (l2 := l2) (l3 := l3) (l4 := l4) (l5 := l5) (ex := ex) d (k + 1) fu (am_up R 374 k (R 373 k)) (by omega) (by omega) (h.fr (fun c c1 c2 => by funext j; rw [am_up_ne (by omega)])) (fun j hj => by
      rw [am_up_ne (p := 373) (by decide)]
      by_cases e : j = k
      · rw [e, am_up_eq]
      · rw [am_up_nk e]; exact h3 j (by omega))
    refine ⟨R', ?_, fun j hj => by rw [y2 j hj, am_up_ne (by decide)], fun c hc => by rw [y3 c hc]; funext j; rw [am_up_ne hc]⟩
    show fM_lay_B135 _ _ _ _ _ _ _ _ _ _ _ = _
    unfold fM_lay_B135
    rw [sm_ck_pos (am_t_pk (by decide)), sp_330_1 hS, sm_ck_pos (inl l_0 (by decide) (by decide)), cl_0, put_rd sc_332, h.n0, if_neg (by rw [nI_leI (by omega) (by omega)]; omega), sp_330_54 hS, sp_330_55 hS, sm_ck_pos (sm_in_nI (by decide) (by omega)), sm_ck_pos (sm_iw_nI (by decide) (by decide) (by omega)), nI_clamp (show k < 2 ^ 31 by omega), put_rd sc_373, put_up sc_374, bd_eq, bd_eq, nI_1]
    exact y1
theorem m_ly1 (hS : SP P) (h : MW R w t m nb ns ne) {q v : Nat} (q1 : 1 ≤ q) (q2 : q ≤ 3) (hv : v < 5000) {l2 l3 l4 : Int32} (hl : ¬ l3 ≤ nI v) {e62 : Nat → Int32 → Int32 → am_M → Option (Int32 × am_M)} {r62 : Nat → Int32 → Int32 → Int32 → Int32 → Int32 → am_M → Option (Int32 × am_M)} : ∃ R', fM_lay_B62 P e62 r62 (am_pk 330 0 13) (nI q) l2 l3 l4 (nI v) (put I R) = r62 (am_pk 330 0 13) (nI q) l2 l3 (cif (l4 < 0 ∨ ¬ l4 ≤ nI (lyT w nb ns q v)) (nI (lyT w nb ns q v)) l4) (nI (v + 1)) (put I R') ∧ ((l4 < 0 ∨ ¬ l4 ≤ nI (lyT w nb ns q v)) → ∀ b, b < nb → R' 374 b = nI (dgF q nb v b)) ∧ (¬ (l4 < 0 ∨ ¬ l4 ≤ nI (lyT w nb ns q v)) → R' 374 = R 374) ∧ ∀ c, (c < 373 ∨ 377 ≤ c) → R' c = R c := by
  have hle := h.le
  obtain ⟨R1, y1, y2, y3, y4⟩ := m_lyd (I := I) (P := P) hS q1 q2 (l2 := l2) (l3 := l3) (l4 := l4) (l5 := nI v) (ex := fun l0 l1 l2 l3 l4 l5 I =>
        sm_ck (am_t l0 = 13) <|
        Option.bind (fM_endOf P l0 I) fun y24 =>
        if l4 < 0 then
          (fM_lay_J128 P r62 l0 l1 l2 l3 l5 y24.1 y24.2)
        else
          (if l4 ≤ y24.1 then
            (fM_lay_J166 P r62 l0 l1 l2 l3 l4 l5 y24.2)
          else
            (fM_lay_J128 P r62 l0 l1 l2 l3 l5 y24.1 y24.2))) nb sm_fu v R (sm_fu_lt (by omega)) hle.1 (by omega)
  have m1 : MW R1 w t m nb ns ne := h.fr (fun c c1 c2 => y4 c (by omega))
  obtain ⟨R2, z1, z2⟩ := m_endOf (I := I) hS m1 (f := dgF q nb v) (fun b _ => Nat.lt_of_lt_of_le (dgF_lt (by omega) nb v b) q2) y2
  have z1' : fM_endOf P (am_pk 330 0 13) (put I R1) = some (nI (lyT w nb ns q v), put I R2) := z1
  have m2 : MW R2 w t m nb ns ne := m1.fr (fun c c1 c2 => z2 c (by omega) (by omega))
  obtain ⟨R3, x1, x2, x3⟩ := m_lyc (I := I) (P := P) hS (l1 := nI q) (l2 := l2) (l3 := l3) (l4 := nI (lyT w nb ns q v)) (l5 := nI v) (ex := fun l0 l1 l2 l3 l4 l5 I => fM_lay_J166 P r62 l0 l1 l2 l3 l4 l5 I) nb 0 sm_fu R2 (sm_fu_lt (by omega)) (by omega) m2 (fun j hj => absurd hj (Nat.not_lt_zero _))
  have J166 : ∀ l (I' : am_M), fM_lay_J166 P r62 (am_pk 330 0 13) (nI q) l2 l3 l (nI v) I' = r62 (am_pk 330 0 13) (nI q) l2 l3 l (nI (v + 1)) I' := fun l I' => by
    unfold fM_lay_J166
    rw [bd_eq, nI_1]
  have J128 : fM_lay_J128 P r62 (am_pk 330 0 13) (nI q) l2 l3 (nI v) (nI (lyT w nb ns q v)) (put I R2) = r62 (am_pk 330 0 13) (nI q) l2 l3 (nI (lyT w nb ns q v)) (nI (v + 1)) (put I R3) := by
    unfold fM_lay_J128
    refine Eq.trans x1 ?_
    exact J166 _ _
  have main : fM_lay_B62 P e62 r62 (am_pk 330 0 13) (nI q) l2 l3 l4 (nI v) (put I R) = (if l4 < 0 then r62 (am_pk 330 0 13) (nI q) l2 l3 (nI (lyT w nb ns q v)) (nI (v + 1)) (put I R3) else if l4 ≤ nI (lyT w nb ns q v) then r62 (am_pk 330 0 13) (nI q) l2 l3 l4 (nI (v + 1)) (put I R2) else r62 (am_pk 330 0 13) (nI q) l2 l3 (nI (lyT w nb ns q v)) (nI (v + 1)) (put I R3)) := by
    unfold fM_lay_B62
    rw [if_neg hl, sm_ck_pos (am_t_pk (by decide)), sp_330_1 hS, sm_ck_pos (inl l_0 (by decide) (by decide)), cl_0, put_rd sc_332, h.n0, bd_eq, ← nI_dm, y1]
    rw [sm_ck_pos (am_t_pk (by decide)), z1', Option.bind_some]
    dsimp only
    rw [J128, J166]
  rw [main]
  have g3 : ∀ b, b < nb → R3 374 b = nI (dgF q nb v b) := fun b hb => by rw [x2 b hb, z2 373 (by decide) (by decide)]; exact y2 b hb
  have f2 : ∀ c, (c < 373 ∨ 377 ≤ c) → R2 c = R c := fun c hc => by rw [z2 c (by omega) (by omega), y4 c (by omega)]
  have f3 : ∀ c, (c < 373 ∨ 377 ≤ c) → R3 c = R c := fun c hc => by rw [x3 c (by omega), f2 c hc]
  by_cases a : l4 < 0
  · rw [if_pos a, cif_t (Or.inl a)]
    exact ⟨R3, rfl, fun _ => g3, fun z => absurd (Or.inl a) z, f3⟩
  · rw [if_neg a]
    by_cases b : l4 ≤ nI (lyT w nb ns q v)
    · rw [if_pos b, cif_f (fun z => z.elim a (fun y => y b))]
      exact ⟨R2, rfl, fun z => absurd z (fun z => z.elim a (fun y => y b)), fun _ => by rw [z2 374 (by decide) (by decide), y4 374 (by decide)], f2⟩
    · rw [if_neg b, cif_t (Or.inr b)]
      exact ⟨R3, rfl, fun _ => g3, fun z => absurd (Or.inr b) z, f3⟩
theorem m_lyL (hS : SP P) {q : Nat} (q1 : 1 ≤ q) (q2 : q ≤ 3) {l2 : Int32} {ex : Nat → Int32 → Int32 → am_M → Option (Int32 × am_M)} : ∀ (d v fu best bi : Nat) (R : am_M), d < fu → v + d = q ^ nb → best ≤ 1000 → MW R w t m nb ns ne → (∀ b, b < nb → R 374 b = nI (dgF q nb bi b)) → ∃ R', fM_lay_L62 P ex fu (am_pk 330 0 13) (nI q) l2 (nI (q ^ nb)) (nI best) (nI v) (put I R) = ex (am_pk 330 0 13) l2 (nI (lyF (lyT w nb ns q) d v best bi).1) (put I R') ∧ (∀ b, b < nb → R' 374 b = nI (dgF q nb (lyF (lyT w nb ns q) d v best bi).2 b)) ∧ ∀ c, (c < 373 ∨ 377 ≤ c) → R' c = R c
  | 0, v, fu, best, bi, R, h1, h2, hb, h, h3 => by
    obtain ⟨fu, rfl⟩ : ∃ n', fu = n' + 1 := ⟨fu - 1, by omega⟩
    have hle := h.le
    have hp := pw3 q2 hle.1
    refine ⟨R, ?_, h3, fun _ _ => rfl⟩
    show fM_lay_B62 _ _ _ _ _ _ _ _ _ _ = _
    unfold fM_lay_B62
    rw [if_pos (by rw [nI_leI (by omega) (by omega)]; omega)]
    rfl
  | d + 1, v, fu, best, bi, R, h1, h2, hb, h, h3 => by
    obtain ⟨fu, rfl⟩ : ∃ n', fu = n' + 1 := ⟨fu - 1, by omega⟩
    have hle := h.le
    have hp := pw3 q2 hle.1
    have hT : lyT w nb ns q v ≤ 63 := enT_bd h.2.1
    obtain ⟨R1, y1, y2, y3, y4⟩ := m_ly1 (I := I) (P := P) hS h (v := v) q1 q2 (by omega) (l2 := l2) (l3 := nI (q ^ nb)) (l4 := nI best) (by rw [nI_leI (by omega) (by omega)]; omega) (e62 := ex) (r62 := fM_lay_L62 P ex fu)
    have m1 : MW R1 w t m nb ns ne := h.fr (fun c c1 c2 => y4 c (by omega))
    have eqv : (nI best < 0 ∨ ¬ nI best ≤ nI (lyT w nb ns q v)) ↔ lyT w nb ns q v < best := by
      rw [nI_leI (by omega) (by omega)]
      exact ⟨fun z => z.elim (fun y => absurd y (nI_pos (by omega))) (fun y => by omega), fun z => Or.inr (by omega)⟩
    rw [propext eqv] at y1 y2 y3
    show ∃ R' : am_M, fM_lay_B62 _ _ _ _ _ _ _ _ _ _ = ex _ _ (nI (if lyT w nb ns q v < best then lyF (lyT w nb ns q) d (v + 1) (lyT w nb ns q v) v else lyF (lyT w nb ns q) d (v + 1) best bi).1) _ ∧ (∀ b, b < nb → R' 374 b = nI (dgF q nb (if lyT w nb ns q v < best then lyF (lyT w nb ns q) d (v + 1) (lyT w nb ns q v) v else lyF (lyT w nb ns q) d (v + 1) best bi).2 b)) ∧ _
    rw [y1]
    by_cases g : lyT w nb ns q v < best
    · rw [cif_t g, if_pos g]
      obtain ⟨R', z1, z2, z3⟩ := m_lyL hS q1 q2 (l2 := l2) (ex := ex) d (v + 1) fu (lyT w nb ns q v) v R1 (by omega) (by omega) (by omega) m1 (y2 g)
      exact ⟨R', z1, z2, fun c hc => by rw [z3 c hc, y4 c hc]⟩
    · rw [cif_f g, if_neg g]
      obtain ⟨R', z1, z2, z3⟩ := m_lyL hS q1 q2 (l2 := l2) (ex := ex) d (v + 1) fu best bi R1 (by omega) (by omega) hb m1 (fun b hb => by rw [y3 g]; exact h3 b hb)
      exact ⟨R', z1, z2, fun c hc => by rw [z3 c hc, y4 c hc]⟩
theorem m_lyP (hS : SP P) (h : MW R w t m nb ns ne) {q : Nat} {l2 : Int32} {ex : Nat → Int32 → Int32 → Int32 → am_M → Option (Int32 × am_M)} : ∀ (d i fu : Nat), d < fu → i + d = nb → fM_lay_L35 P ex fu (am_pk 330 0 13) (nI q) l2 (nI (q ^ i)) (nI i) (put I R) = ex (am_pk 330 0 13) (nI q) l2 (nI (q ^ nb)) (put I R)
  | 0, i, fu, h1, h2 => by
    obtain ⟨fu, rfl⟩ : ∃ n', fu = n' + 1 := ⟨fu - 1, by omega⟩
    have hle := h.le
    have e : i = nb := by omega
    subst e
    show fM_lay_B35 _ _ _ _ _ _ _ _ _ = _
    unfold fM_lay_B35
    rw [sm_ck_pos (am_t_pk (by decide)), sp_330_1 hS, sm_ck_pos (inl l_0 (by decide) (by decide)), cl_0, put_rd sc_332, h.n0, if_pos (by rw [nI_leI (by omega) (by omega)]; omega)]
  | d + 1, i, fu, h1, h2 => by
    obtain ⟨fu, rfl⟩ : ∃ n', fu = n' + 1 := ⟨fu - 1, by omega⟩
    have hle := h.le
    show fM_lay_B35 _ _ _ _ _ _ _ _ _ = _
    unfold fM_lay_B35
    rw [sm_ck_pos (am_t_pk (by decide)), sp_330_1 hS, sm_ck_pos (inl l_0 (by decide) (by decide)), cl_0, put_rd sc_332, h.n0, if_neg (by rw [nI_leI (by omega) (by omega)]; omega), bd_eq, bd_eq, pk_mul, nI_1, ← Nat.pow_succ]
    exact m_lyP hS h d (i + 1) fu (by omega) (by omega)
theorem m_lay (hS : SP P) (h : MW R w t m nb ns ne) {q : Nat} (q1 : 1 ≤ q) (q2 : q ≤ 3) {l2 : Int32} : ∃ R', fM_lay_J30 P (am_pk 330 0 13) (nI q) l2 (put I R) = (if ¬ l2 = -1 then (sm_ck (am_t (am_pk 330 0 13) = 13) <| sm_ck (sm_in (P (am_pk 330 0 13) 55) l2) <| some (put I R' (P (am_pk 330 0 13) 55) l2.toNatClampNeg, put I R')) else some (nI (lyF (lyT w nb ns q) (q ^ nb) 0 1000 0).1, put I R')) ∧ (∀ b, b < nb → R' 374 b = nI (dgF q nb (lyF (lyT w nb ns q) (q ^ nb) 0 1000 0).2 b)) ∧ ∀ c, (c < 373 ∨ 377 ≤ c) → R' c = R c := by
  have hle := h.le
  have hp := pw3 q2 hle.1
  have hp0 : 0 < q ^ nb := Nat.pow_pos q1
  obtain ⟨n', hn'⟩ : ∃ n', q ^ nb = n' + 1 := ⟨q ^ nb - 1, by omega⟩
  have hT : lyT w nb ns q 0 ≤ 63 := enT_bd h.2.1
  obtain ⟨ex, hex⟩ : ∃ ex : Nat → Int32 → Int32 → am_M → Option (Int32 × am_M), ex = fun l0 l2 l4 I =>
          if ¬ l2 = ((-1)) then
            (sm_ck (am_t l0 = 13) <|
            sm_ck (sm_in (P l0 55) l2) <|
            some (I (P l0 55) l2.toNatClampNeg, I))
          else
            (some (l4, I)) := ⟨_, rfl⟩
  obtain ⟨R1, y1, y2, -, y4⟩ := m_ly1 (I := I) (P := P) hS h (v := 0) q1 q2 (by decide) (l2 := l2) (l3 := nI (q ^ nb)) (l4 := -1) (by rw [nI_leI (by omega) (by omega)]; omega) (e62 := ex) (r62 := fM_lay_L62 P ex 19999)
  rw [cif_t (Or.inl (by decide))] at y1
  have m1 : MW R1 w t m nb ns ne := h.fr (fun c c1 c2 => y4 c (by omega))
  obtain ⟨R', z1, z2, z3⟩ := m_lyL (I := I) (P := P) hS q1 q2 (l2 := l2) (ex := ex) n' 1 19999 (lyT w nb ns q 0) 0 R1 (by omega) (by omega) (by omega) m1 (y2 (Or.inl (by decide)))
  have e : lyF (lyT w nb ns q) (q ^ nb) 0 1000 0 = lyF (lyT w nb ns q) n' 1 (lyT w nb ns q 0) 0 := by
    rw [hn']
    show (if lyT w nb ns q 0 < 1000 then lyF (lyT w nb ns q) n' (0 + 1) (lyT w nb ns q 0) 0 else _) = _
    rw [if_pos (by omega)]
  rw [e]
  refine ⟨R', ?_, z2, fun c hc => by rw [z3 c hc, y4 c hc]⟩
  unfold fM_lay_J30
  rw [← hex]
  refine Eq.trans (m_lyP hS h nb 0 sm_fu (sm_fu_lt (by omega)) (by omega)) ?_
  rw [show sm_fu = 19999 + 1 from rfl]
  show fM_lay_B62 P ex (fM_lay_L62 P ex 19999) _ _ _ _ (-1) (nI 0) _ = _
  rw [y1]
  refine Eq.trans z1 ?_
  rw [hex]
theorem op_lay (h : INV I R P nx w t m nb ns ne) {a b : Int32} : OK1 I R P nx (fX_lay P (am_pk 2 0 12) a b) (fM_lay P (am_pk 330 0 13) a b) := by
  have hS := h.sp
  have hle := h.mw.le
  by_cases ha : 1 ≤ a ∧ a ≤ 3
  · obtain ⟨q, q1, q2, rfl⟩ := rng_nI (lo := 1) (hi := 3) ha.1 ha.2 (by decide) (by decide)
    by_cases hb : b = -1 ∨ (0 ≤ b ∧ b < nI nb)
    · obtain ⟨R1, x1, x2, x3⟩ := x_lay hS h.cw q1 q2
      have m1 : MW R1 w t m nb ns ne := h.mw.fr (fun c c1 c2 => x3 c (by omega))
      obtain ⟨R2, y1, y2, y3⟩ := m_lay (I := I) hS m1 q1 q2 (l2 := b)
      have hpos : 0 < q ^ nb := Nat.pow_pos q1
      have hlt : (lyF (lyT w nb ns q) (q ^ nb) 0 1000 0).1 < 1000 := by
        obtain ⟨n', hn'⟩ : ∃ n', q ^ nb = n' + 1 := ⟨q ^ nb - 1, by omega⟩
        have hT : lyT w nb ns q 0 ≤ 63 := enT_bd h.mw.2.1
        rw [hn']
        show (if lyT w nb ns q 0 < 1000 then lyF (lyT w nb ns q) n' (0 + 1) (lyT w nb ns q 0) 0 else _).1 < 1000
        rw [if_pos (by omega)]
        have := lyF_le (T := lyT w nb ns q) n' (0 + 1) (lyT w nb ns q 0) 0
        omega
      have hX : fX_lay P (am_pk 2 0 12) (nI q) b (put I R) = fX_lay_J30 P (am_pk 2 0 12) (nI q) b (put I R) := by
        unfold fX_lay
        rw [h_isM, Option.bind_some, bI_if, if_pos ha]
        by_cases g : b = -1
        · rw [if_pos g]
        · rw [if_neg g, sm_ck_pos (am_t_pk (by decide)), sp_2_0 hS, sm_ck_pos (am_t_pk (by decide)), h.cw.hasBox, Option.bind_some, bI_ifn, if_pos (hb.resolve_left g)]
      have hM : fM_lay P (am_pk 330 0 13) (nI q) b (put I R1) = fM_lay_J30 P (am_pk 330 0 13) (nI q) b (put I R1) := by
        unfold fM_lay
        rw [h_within, Option.bind_some, bI_if, if_pos ha]
        by_cases g : b = -1
        · rw [if_pos g]
        · rw [if_neg g, sm_ck_pos (am_t_pk (by decide)), m1.isB hS, Option.bind_some, bI_ifn, if_pos (hb.resolve_left g)]
      have hI := h.okE (R2 := R2) (fun c c1 c2 => by rw [y3 c (by omega), x3 c (by omega)])
      by_cases g : b = -1
      · refine ⟨nI (lyF (lyT w nb ns q) (q ^ nb) 0 1000 0).1, R1, R2, ?_, ?_, hI⟩
        · rw [hX]
          unfold fX_lay_J30
          rw [sm_ck_pos (am_t_pk (by decide)), sp_2_12 hS, sp_2_0 hS, sm_ck_pos (am_t_pk (by decide)), x1, Option.bind_some, if_neg (fun z => z g)]
        · rw [hM, y1, if_neg (fun z => z g)]
      · obtain ⟨i, hi, rfl⟩ := ran_ix (hb.resolve_left g) (by omega)
        have hi7 : i < 7 := by omega
        refine ⟨nI (dgF q nb (lyF (lyT w nb ns q) (q ^ nb) 0 1000 0).2 i), R1, R2, ?_, ?_, hI⟩
        · rw [hX]
          unfold fX_lay_J30
          rw [sm_ck_pos (am_t_pk (by decide)), sp_2_12 hS, sp_2_0 hS, sm_ck_pos (am_t_pk (by decide)), x1, Option.bind_some, if_pos g, sp_314_1 hS, sm_ck_pos (sm_in_nI (by decide) hi7), nI_clamp (show i < 2 ^ 31 by omega)]
          dsimp only
          rw [put_rd sc_316, x2 hlt i hi]
        · rw [hM, y1, if_pos g, sm_ck_pos (am_t_pk (by decide)), sp_330_55 hS, sm_ck_pos (sm_in_nI (by decide) hi7), nI_clamp (show i < 2 ^ 31 by omega), put_rd sc_374, y2 i hi]
    · have hb1 : ¬ b = -1 := fun z => hb (Or.inl z)
      have hb2 : ¬ (0 ≤ b ∧ b < nI nb) := fun z => hb (Or.inr z)
      refine h.fl (v := -1000001) (k := 0) (by decide) ?_ (fun R1 hM hc1 => ?_)
      · unfold fX_lay
        rw [h_isM, Option.bind_some, bI_if, if_pos ha, if_neg hb1, sm_ck_pos (am_t_pk (by decide)), sp_2_0 hS, sm_ck_pos (am_t_pk (by decide)), h.cw.hasBox, Option.bind_some, bI_ifn, if_neg hb2, x_f1 hS, Option.bind_some]
      · unfold fM_lay
        rw [h_within, Option.bind_some, bI_if, if_pos ha, if_neg hb1, sm_ck_pos (am_t_pk (by decide)), hM.isB hS, Option.bind_some, bI_ifn, if_neg hb2, m_f1 hS, Option.bind_some]
  · refine h.fl (v := -1000001) (k := 0) (by decide) ?_ (fun R1 hM hc1 => ?_)
    · unfold fX_lay
      rw [h_isM, Option.bind_some, bI_if, if_neg ha, sm_ck_pos (am_t_pk (by decide)), x_f1 hS, Option.bind_some]
    · unfold fM_lay
      rw [h_within, Option.bind_some, bI_if, if_neg ha, sm_ck_pos (am_t_pk (by decide)), m_f1 hS, Option.bind_some]
end Lay2
