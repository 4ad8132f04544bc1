/-! ===== the call text ===== -/
theorem lsR.get {R : am_M} {c : Nat} {f : Nat → Int32} : ∀ {M : List Nat} {i a : Nat}, lsR R c f M → M.reverse[i]? = some a → R c i = f a
  | [], i, a, _, e => absurd e (by simp)
  | x :: r, i, a, h, e => by
    rw [List.reverse_cons] at e
    by_cases q : i < r.length
    · rw [List.getElem?_append_left (by rw [List.length_reverse]; exact q)] at e
      exact lsR.get h.2 e
    · rw [List.getElem?_append_right (by rw [List.length_reverse]; omega), List.length_reverse] at e
      have hi : i - r.length = 0 := by
        by_cases z : i - r.length = 0
        · exact z
        · rw [List.getElem?_eq_none (by show 1 ≤ i - r.length; omega)] at e
          exact absurd e (by simp)
      rw [hi] at e
      have e' : some x = some a := e
      injection e' with e'
      rw [← e', show i = r.length by omega]
      exact h.1
theorem lnI.wft {M : List Nat} {fr to : Nat → Nat} {tx : Nat → List Nat} (h : lnI M fr to tx) (hM : M.length ≤ 80) : wft tx := by
  intro l hl
  rcases h l hl with ⟨-, -, e⟩ | ⟨-, -, e1, e2, e3, -⟩
  · exact Or.inl e
  · exact Or.inr ⟨e3, by omega⟩
theorem flt_u {b : Nat → Nat} {n j j' : Nat} (h : fltP b n j) (h' : fltP b n j') : j = j' := by
  rcases h.2 with e | ⟨S, e, -, ej⟩
  · rcases h'.2 with e' | ⟨S', e', -, ej'⟩
    · rw [e] at e'
      exact congrArg Prod.fst e'
    · rw [e] at e'
      exact absurd (congrArg Prod.snd e') (by simp)
  · rcases h'.2 with e' | ⟨S', e', -, ej'⟩
    · rw [e] at e'
      exact absurd (congrArg Prod.snd e') (by simp)
    · omega
theorem flt_no {b : Nat → Nat} {n j : Nat} {S : PS} (h : fltP b n j) (e : rnF b n 0 S00 = (n, some S)) (hc : clP b n S) : False := by
  rcases h.2 with e' | ⟨S', e', hn, -⟩
  · rw [e] at e'
    exact absurd (congrArg Prod.snd e') (by simp)
  · rw [e] at e'
    have := congrArg Prod.snd e'
    injection this with this
    rw [← this] at hn
    exact hn hc
section Lns
variable {I R : am_M} {P : am_Q} {nx sl : Nat}
theorem pk_new {c n t a : Nat} (hn : n < 16384) (ht : t < 32) (h : am_i a < c) : ¬ a = am_pk c n t := fun z => by
  rw [z, am_i_pk hn ht] at h; omega
/-- the codes, copied -/
theorem x_cpOf {nc : Nat} (h : nc ≤ 80) (hn : 379 ≤ nx) : ∃ I' sl', fA_copyOf (am_pk 301 80 20) (nI nc) (put I R) P nx sl = some (am_pk nx nc 20, put I' R, P, nx + 1, sl') ∧ sl' ≤ sl + 80 ∧ (∀ k, k < nc → I' (am_pk nx nc 20) k = R 301 k) ∧ ∀ a, ¬ a = am_pk nx nc 20 → I' a = I a := by
  have hi : am_i (am_pk nx nc 20) = nx := am_i_pk (by omega) (by decide)
  have hdy : am_i (am_pk nx nc 20) < 2 ∨ 379 ≤ am_i (am_pk nx nc 20) := Or.inr (by omega)
  unfold fA_copyOf
  rw [sm_ck_pos (am_t_pk (by decide)), sm_ck_pos (by rw [am_t_pk (by decide)]; decide), am_n_pk (by decide) (by decide), show Int32.ofNat 80 = nI 80 from rfl]
  by_cases q : nc = 80
  · subst q
    rw [if_neg (fun z => z rfl), sm_ck_pos (by rw [am_t_pk (by decide), am_i_pk (by decide) (by decide)]; decide)]
    unfold sm_cl
    dsimp only
    rw [am_n_pk (by decide) (by decide), sm_ck_pos (by rw [am_t_pk (by decide), hi]; exact ⟨rfl, by omega⟩), put_dset hdy]
    refine ⟨_, _, rfl, Nat.le_refl _, fun k _ => ?_, fun a ha => am_setne ha⟩
    rw [am_set_eq, put_rd sc_301]
  · have em : sm_min (nI 80) (nI nc) = nI nc := by
      unfold sm_min
      rw [if_pos (by rw [nI_ltI (by omega) (by omega)]; omega)]
    rw [if_pos (by rw [nI_eq (by omega) (by omega)]; exact q), sm_ck_pos (fun z => z.elim (nI_pos (by omega)) (by rw [nI_clamp (by omega)]; omega))]
    unfold sm_na
    dsimp only
    rw [nI_clamp (show nc < 2 ^ 31 by omega), sm_ck_pos (by rw [am_t_pk (by decide)]; decide), em, ck_cp (by decide) (by omega) (by omega) (Nat.le_refl _) (by decide) (by omega), cl_0, nI_clamp (show nc < 2 ^ 31 by omega), put_dset hdy, put_dset hdy, bd_eq]
    refine ⟨_, _, rfl, by omega, fun k hk => ?_, fun a ha => by rw [am_setne ha, am_setne ha]⟩
    rw [am_set_eq, pk_cpy_in (by omega) (by omega), show 0 + (k - 0) = k by omega, put_rd sc_301]
theorem x_lines (hS : SP P) (hn : 379 ≤ nx) {M : List Nat} {fr to : Nat → Nat} {tx : Nat → List Nat} (hM : M.length ≤ 80) (h3 : R 299 3 = nI M.length) (hc : lsR R 301 nI M) (h4 : ∀ l, l < 4 → R 303 l = nI (fr l) + (-1)) (h5 : ∀ l, l < 4 → R 304 l = nI (to l)) (hI : lnI M fr to tx) : ∃ I' P' sl', fT_linesRead (am_pk 299 0 10) (put I R) P nx sl = some (am_pk nx 0 4, put I' R, P', nx + 4, sl') ∧ sl' ≤ sl + 100 ∧ frJ nx I I' ∧ (∀ a k, ¬ a = am_pk nx 0 4 → P' a k = P a k) ∧ lnr (put I' R) P' (am_pk nx 0 4) tx ∧ lnb P' (nx + 4) (am_pk nx 0 4) := by
  have t4 : am_t (am_pk nx 0 4) = 4 := am_t_pk (by decide)
  have i4 : am_i (am_pk nx 0 4) = nx := am_i_pk (by decide) (by decide)
  have d4 : am_i (am_pk nx 0 4) < 2 ∨ 379 ≤ am_i (am_pk nx 0 4) := Or.inr (by omega)
  have nT : ¬ am_pk 299 0 10 = am_pk nx 0 4 := fun z => by
    have := congrArg am_t z
    rw [am_t_pk (by decide), t4] at this
    exact absurd this (by decide)
  obtain ⟨I1, sl1, y1, y2, y3, y4⟩ := x_cpOf (I := am_set I (am_pk nx 0 4) (fun _ => 0)) (R := R) (P := am_set P (am_pk nx 0 4) (fun _ => 0)) (nx := nx + 1) (sl := sl + am_nf 4) hM (by omega)
  have i2 : am_i (am_pk (nx + 2) 4 20) = nx + 2 := am_i_pk (by decide) (by decide)
  have i3 : am_i (am_pk (nx + 3) 4 20) = nx + 3 := am_i_pk (by decide) (by decide)
  have i1 : am_i (am_pk (nx + 1) M.length 20) = nx + 1 := am_i_pk (by omega) (by decide)
  have d2 : am_i (am_pk (nx + 2) 4 20) < 2 ∨ 379 ≤ am_i (am_pk (nx + 2) 4 20) := Or.inr (by omega)
  have d3 : am_i (am_pk (nx + 3) 4 20) < 2 ∨ 379 ≤ am_i (am_pk (nx + 3) 4 20) := Or.inr (by omega)
  have d1 : am_i (am_pk (nx + 1) M.length 20) < 2 ∨ 379 ≤ am_i (am_pk (nx + 1) M.length 20) := Or.inr (by omega)
  obtain ⟨I3, eI⟩ : ∃ I3, I3 = am_set (am_set I1 (am_pk (nx + 2) 4 20) (R 303)) (am_pk (nx + 3) 4 20) (R 304) := ⟨_, rfl⟩
  obtain ⟨P3, eP⟩ : ∃ P3, P3 = am_up (am_up (am_up (am_set P (am_pk nx 0 4) (fun _ => 0)) (am_pk nx 0 4) 0 (am_pk (nx + 1) M.length 20)) (am_pk nx 0 4) 1 (am_pk (nx + 2) 4 20)) (am_pk nx 0 4) 2 (am_pk (nx + 3) 4 20) := ⟨_, rfl⟩
  have nf : am_nf 4 ≤ 10 := by decide
  have ne12 : ¬ am_pk (nx + 1) M.length 20 = am_pk (nx + 2) 4 20 := pk_new (by decide) (by decide) (by omega)
  have ne13 : ¬ am_pk (nx + 1) M.length 20 = am_pk (nx + 3) 4 20 := pk_new (by decide) (by decide) (by omega)
  have ne23 : ¬ am_pk (nx + 2) 4 20 = am_pk (nx + 3) 4 20 := pk_new (by decide) (by decide) (by omega)
  have g1 : ∀ k, k < M.length → I3 (am_pk (nx + 1) M.length 20) k = R 301 k := fun k hk => by rw [eI, am_setne ne13, am_setne ne12]; exact y3 k hk
  have g2 : I3 (am_pk (nx + 2) 4 20) = R 303 := by rw [eI, am_setne ne23, am_set_eq]
  have g3 : I3 (am_pk (nx + 3) 4 20) = R 304 := by rw [eI, am_set_eq]
  have p0 : P3 (am_pk nx 0 4) 0 = am_pk (nx + 1) M.length 20 := by rw [eP, am_up_nk (by decide), am_up_nk (by decide), am_up_eq]
  have p1 : P3 (am_pk nx 0 4) 1 = am_pk (nx + 2) 4 20 := by rw [eP, am_up_nk (by decide), am_up_eq]
  have p2 : P3 (am_pk nx 0 4) 2 = am_pk (nx + 3) 4 20 := by rw [eP, am_up_eq]
  refine ⟨I3, P3, sl1 + 4 + 4, ?_, by omega, ?_, ?_, ?_, ?_⟩
  · unfold fT_linesRead sm_nw
    dsimp only
    rw [sm_ck_pos (am_t_pk (by decide)), put_dset d4, put_rd sc_299, h3, show am_set P (am_pk nx 0 4) (fun _ => 0) (am_pk 299 0 10) 2 = am_pk 301 80 20 from by rw [am_setne nT]; exact sp_299_2 hS, y1, Option.bind_some]
    dsimp only
    rw [show am_set P (am_pk nx 0 4) (fun _ => 0) (am_pk 299 0 10) 6 = am_pk 303 4 20 from by rw [am_setne nT]; exact sp_299_6 hS, show am_set P (am_pk nx 0 4) (fun _ => 0) (am_pk 299 0 10) 7 = am_pk 304 4 20 from by rw [am_setne nT]; exact sp_299_7 hS, sm_ck_pos (by rw [am_t_pk (by decide), am_i_pk (by decide) (by decide)]; decide)]
    unfold sm_cl
    dsimp only
    rw [am_n_pk (by decide) (by decide), am_n_pk (by decide) (by decide), show nx + 1 + 1 = nx + 2 from rfl, sm_ck_pos (by rw [am_t_pk (by decide), i2]; exact ⟨rfl, by omega⟩), sm_ck_pos (by rw [am_t_pk (by decide), am_i_pk (by decide) (by decide)]; decide), show nx + 2 + 1 = nx + 3 from rfl, sm_ck_pos (by rw [am_t_pk (by decide), i3]; exact ⟨rfl, by omega⟩), put_rd' sc_303, put_dset d2, put_rd' sc_304, put_dset d3, ← eI]
    unfold fL_init3
    rw [sm_ck_pos t4, sm_ck_pos (am_t_pk (by decide)), bd_eq, sm_ck_pos (am_t_pk (by decide)), bd_eq, sm_ck_pos (am_t_pk (by decide)), bd_eq, ← eP, Option.bind_some]
  · intro a ha hia
    rw [eI, am_setne (pk_new (by decide) (by decide) (by omega)), am_setne (pk_new (by decide) (by decide) (by omega)), y4 a (pk_new (by omega) (by decide) (by omega)), am_setne (pk_new (by decide) (by decide) (by omega))]
  · intro a k ha
    rw [eP, am_up_ne ha, am_up_ne ha, am_up_ne ha, am_setne ha]
  · refine ⟨t4, nx + 1, M.length, nx + 2, nx + 3, p0, by omega, p1, p2, ⟨Or.inr (Or.inr (Or.inr (by omega))), Or.inr (Or.inr (Or.inr (by omega))), Or.inr (Or.inr (Or.inr (by omega)))⟩, fun l hl => ?_⟩
    rw [put_dy d2, put_dy d3, g2, g3, h4 l hl, h5 l hl]
    rcases hI l hl with ⟨a1, a2, a3⟩ | ⟨a1, a2, a3, a4, a5, a6⟩
    · refine ⟨fun _ => by rw [a1]; decide, fun z => absurd a3 z⟩
    · refine ⟨fun z => absurd z a2, fun _ => ⟨fr l - 1, ?_, by rw [a3], by omega, fun k hk => ?_⟩⟩
      · obtain ⟨f, hf⟩ : ∃ f, fr l = f + 1 := ⟨fr l - 1, by omega⟩
        rw [hf, pk_m1]; rfl
      · rw [put_dy d1, g1 _ (by omega)]
        exact hc.get (a6 k hk)
  · exact ⟨t4, by rw [i4]; omega, by rw [p0, i1]; omega, by rw [p1, i2]; omega, by rw [p2, i3]; omega⟩
theorem m_tk2 (hS : SP P) {x n : Nat} {l1 : Int32} (hl1 : l1 = nI x) (hx : x < 7) (hn : n ≤ 80) {ex : Nat → Int32 → am_M → Option am_M} : ∀ (d k fu : Nat) (R : am_M), d < fu → k + d = n → R 330 37 = nI n → (∀ j, j < k → R 344 (80 * x + j) = R 360 j ∧ R 345 (80 * x + j) = R 361 j) → ∃ R', fM_takesText_L2 P ex fu (am_pk 330 0 13) l1 (nI k) (put I R) = ex (am_pk 330 0 13) l1 (put I R') ∧ (∀ j, j < n → R' 344 (80 * x + j) = R 360 j ∧ R' 345 (80 * x + j) = R 361 j) ∧ (∀ c, c ≠ 344 → c ≠ 345 → R' c = R c) ∧ ∀ j, (j < 80 * x ∨ 80 * x + 80 ≤ j) → R' 344 j = R 344 j ∧ R' 345 j = R 345 j
  | 0, k, fu, R, h1, h2, h37, h3 => by
    obtain ⟨fu, rfl⟩ : ∃ n', fu = n' + 1 := ⟨fu - 1, by omega⟩
    refine ⟨R, ?_, fun j hj => h3 j (by omega), fun _ _ _ => rfl, fun _ _ => ⟨rfl, rfl⟩⟩
    show fM_takesText_B2 _ _ _ _ _ _ _ = _
    unfold fM_takesText_B2
    rw [sm_ck_pos (am_t_pk (by decide)), put_rd sc_330, h37, if_pos (by rw [nI_leI (by omega) (by omega)]; omega)]
  | d + 1, k, fu, R, h1, h2, h37, h3 => by
    obtain ⟨fu, rfl⟩ : ∃ n', fu = n' + 1 := ⟨fu - 1, by omega⟩
    have e80 : (80 : Int32) * l1 + nI k = nI (80 * x + k) := by rw [hl1, show (80 : Int32) = nI 80 from rfl, pk_mul, nI_add]
    obtain ⟨R', y1, y2, y3, y4⟩ := m_tk2 hS hl1 hx hn (ex := ex) d (k + 1) fu (am_up (am_up R 344 (80 * x + k) (R 360 k)) 345 (80 * x + k) (R 361 k)) (by omega) (by omega) (by rw [am_up_ne (by decide), am_up_ne (by decide)]; exact h37) (fun j hj => by
      rw [am_up_ne (p := 344) (by decide), am_up_ne (p := 360) (by decide), am_up_ne (p := 360) (by decide), am_up_ne (p := 361) (by decide), am_up_ne (p := 361) (by decide)]
      by_cases e : j = k
      · rw [e, am_up_eq, am_up_eq]; exact ⟨rfl, rfl⟩
      · rw [am_up_nk (by omega), am_up_nk (by omega), am_up_ne (by decide)]; exact h3 j (by omega))
    refine ⟨R', ?_, fun j hj => ?_, fun c a1 a2 => by rw [y3 c a1 a2]; funext j; rw [am_up_ne a2, am_up_ne a1], fun j hj => ?_⟩
    · show fM_takesText_B2 _ _ _ _ _ _ _ = _
      unfold fM_takesText_B2
      rw [sm_ck_pos (am_t_pk (by decide)), put_rd sc_330, h37, if_neg (by rw [nI_leI (by omega) (by omega)]; omega), sp_330_33 hS, sp_330_34 hS, sp_330_13 hS, sp_330_14 hS, e80, sm_ck_pos (sm_in_nI (by decide) (by omega)), sm_ck_pos (sm_iw_nI (by decide) (by decide) (by omega)), nI_clamp (show 80 * x + k < 2 ^ 31 by omega), nI_clamp (show k < 2 ^ 31 by omega), put_rd sc_360, put_up sc_344, bd_eq, sm_ck_pos (sm_in_nI (by decide) (by omega)), sm_ck_pos (sm_iw_nI (by decide) (by decide) (by omega)), put_rd sc_361, show am_up R 344 (80 * x + k) (R 360 k) 361 k = R 361 k from am_up_ne (by decide), put_up sc_345, bd_eq, bd_eq, nI_1]
      exact y1
    · obtain ⟨a1, a2⟩ := y2 j hj
      rw [a1, a2, am_up_ne (by decide), am_up_ne (by decide), am_up_ne (by decide), am_up_ne (by decide)]
      exact ⟨rfl, rfl⟩
    · obtain ⟨a1, a2⟩ := y4 j hj
      rw [a1, a2, am_up_ne (by decide), am_up_nk (by omega), am_up_nk (by omega), am_up_ne (by decide)]
      exact ⟨rfl, rfl⟩
theorem m_tk52 (hS : SP P) {x : Nat} {l1 : Int32} (hl1 : l1 = nI x) (hx : x < 7) : ∀ (d k fu : Nat) (R : am_M), d < fu → k + d = 4 → (∀ j, j < k → R 342 (4 * x + j) = R 362 j ∧ R 343 (4 * x + j) = R 363 j) → ∃ R', fM_takesText_L52 P (fun I => some I) fu (am_pk 330 0 13) l1 (nI k) (put I R) = some (put I R') ∧ (∀ j, j < 4 → R' 342 (4 * x + j) = R 362 j ∧ R' 343 (4 * x + j) = R 363 j) ∧ (∀ c, c ≠ 342 → c ≠ 343 → R' c = R c) ∧ ∀ j, (j < 4 * x ∨ 4 * x + 4 ≤ j) → R' 342 j = R 342 j ∧ R' 343 j = R 343 j
  | 0, k, fu, R, h1, h2, h3 => by
    obtain ⟨fu, rfl⟩ : ∃ n', fu = n' + 1 := ⟨fu - 1, by omega⟩
    refine ⟨R, ?_, fun j hj => h3 j (by omega), fun _ _ _ => rfl, fun _ _ => ⟨rfl, rfl⟩⟩
    show fM_takesText_B52 _ _ _ _ _ _ _ = _
    unfold fM_takesText_B52
    rw [if_pos (by rw [show (4 : Int32) = nI 4 from rfl, nI_leI (by decide) (by omega)]; omega)]
  | d + 1, k, fu, R, h1, h2, h3 => by
    obtain ⟨fu, rfl⟩ : ∃ n', fu = n' + 1 := ⟨fu - 1, by omega⟩
    have e80 : (4 : Int32) * l1 + nI k = nI (4 * x + k) := by rw [hl1, show (4 : Int32) = nI 4 from rfl, pk_mul, nI_add]
    obtain ⟨R', y1, y2, y3, y4⟩ := m_tk52 hS hl1 hx d (k + 1) fu (am_up (am_up R 342 (4 * x + k) (R 362 k)) 343 (4 * x + k) (R 363 k)) (by omega) (by omega) (fun j hj => by
      rw [am_up_ne (p := 342) (by decide), am_up_ne (p := 362) (by decide), am_up_ne (p := 362) (by decide), am_up_ne (p := 363) (by decide), am_up_ne (p := 363) (by decide)]
      by_cases e : j = k
      · rw [e, am_up_eq, am_up_eq]; exact ⟨rfl, rfl⟩
      · rw [am_up_nk (by omega), am_up_nk (by omega), am_up_ne (by decide)]; exact h3 j (by omega))
    refine ⟨R', ?_, fun j hj => ?_, fun c a1 a2 => by rw [y3 c a1 a2]; funext j; rw [am_up_ne a2, am_up_ne a1], fun j hj => ?_⟩
    · show fM_takesText_B52 _ _ _ _ _ _ _ = _
      unfold fM_takesText_B52
      rw [if_neg (by rw [show (4 : Int32) = nI 4 from rfl, nI_leI (by decide) (by omega)]; omega), sm_ck_pos (am_t_pk (by decide)), sp_330_35 hS, sp_330_36 hS, sp_330_11 hS, sp_330_12 hS, e80, sm_ck_pos (sm_in_nI (by decide) (by omega)), sm_ck_pos (sm_iw_nI (by decide) (by decide) (by omega)), nI_clamp (show 4 * x + k < 2 ^ 31 by omega), nI_clamp (show k < 2 ^ 31 by omega), put_rd sc_362, put_up sc_342, bd_eq, sm_ck_pos (sm_in_nI (by decide) (by omega)), sm_ck_pos (sm_iw_nI (by decide) (by decide) (by omega)), put_rd sc_363, show am_up R 342 (4 * x + k) (R 362 k) 363 k = R 363 k from am_up_ne (by decide), put_up sc_343, bd_eq, bd_eq, nI_1]
      exact y1
    · obtain ⟨a1, a2⟩ := y2 j hj
      rw [a1, a2, am_up_ne (by decide), am_up_ne (by decide), am_up_ne (by decide), am_up_ne (by decide)]
      exact ⟨rfl, rfl⟩
    · obtain ⟨a1, a2⟩ := y4 j hj
      rw [a1, a2, am_up_ne (by decide), am_up_nk (by omega), am_up_nk (by omega), am_up_ne (by decide)]
      exact ⟨rfl, rfl⟩
def upX (t : Nat → Nat → List Nat) (x : Nat) (tx : Nat → List Nat) : Nat → Nat → List Nat := fun i => if i = x then tx else t i
theorem upX_w {w : am_M} {t : Nat → Nat → List Nat} {m nb ns ne x : Nat} {tx : Nat → List Nat} (h : wiv w t m nb ns ne) (ht : wft tx) : wiv w (upX t x tx) m nb ns ne := by
  obtain ⟨h0, hB, hr⟩ := h
  refine ⟨h0, fun i hi => ?_, hr⟩
  obtain ⟨b1, b2, b3, b4, b5, b6, b7, b8, b9⟩ := hB i hi
  refine ⟨b1, b2, b3, b4, b5, b6, b7, b8, ?_⟩
  unfold upX
  by_cases e : i = x
  · rw [if_pos e]; exact ht
  · rw [if_neg e]; exact b9
theorem m_tkT (hS : SP P) {w : am_M} {t : Nat → Nat → List Nat} {m nb ns ne x : Nat} {M : List Nat} {fr to : Nat → Nat} {tx : Nat → List Nat} (h : MW R w t m nb ns ne) (hx : x < nb) (hM : M.length ≤ 80) (hm : RMd R M) (hL : RLn R fr to) (hI : lnI M fr to tx) : ∃ R', fM_takesText P (am_pk 330 0 13) (nI x) (put I R) = some (put I R') ∧ MW R' w (upX t x tx) m nb ns ne ∧ ∀ c, (c < 342 ∨ 346 ≤ c) → R' c = R c := by
  have hle := h.le
  obtain ⟨R1, y1, y2, y3, y4⟩ := m_tk2 (I := I) (P := P) hS (l1 := nI x) rfl (show x < 7 by omega) hM (ex := fun l0 l1 I => fM_takesText_L52 P (fun I => some I) sm_fu l0 l1 0 I) M.length 0 sm_fu R (sm_fu_lt (by omega)) (by omega) hm.1 (fun j hj => absurd hj (Nat.not_lt_zero _))
  obtain ⟨R2, z1, z2, z3, z4⟩ := m_tk52 (I := I) (P := P) hS (l1 := nI x) rfl (show x < 7 by omega) 4 0 sm_fu R1 (sm_fu_lt (by decide)) (by decide) (fun j hj => absurd hj (Nat.not_lt_zero _))
  have hfr : ∀ c, (c < 342 ∨ 346 ≤ c) → R2 c = R c := fun c hc => by rw [z3 c (by omega) (by omega), y3 c (by omega) (by omega)]
  refine ⟨R2, ?_, ?_, hfr⟩
  · unfold fM_takesText
    exact y1.trans z1
  · obtain ⟨h1, h2, h3⟩ := h
    refine ⟨fun r c hrc => ?_, upX_w h2 (hI.wft hM), fun i hi => ?_⟩
    · obtain ⟨n1, n2, n3⟩ := h2.cnt
      have hok := hrc.ok ⟨by omega, by omega, by omega⟩
      have hg := aM_rng hok
      rw [← h1 r c hrc]
      unfold vM
      rw [if_pos hok, if_pos hok, hfr _ hg.2.2]
    · intro l hl
      unfold upX
      by_cases e : i = x
      · subst e
        rw [if_pos rfl]
        have r62 := (z2 l hl).1
        have r63 := (z2 l hl).2
        rw [y3 362 (by decide) (by decide), (hL l hl).1] at r62
        rw [y3 363 (by decide) (by decide), (hL l hl).2] at r63
        have rd : ∀ k a, M.reverse[k]? = some a → k < M.length → R2 344 (80 * i + k) = (cdF a).1 ∧ R2 345 (80 * i + k) = (cdF a).2 := fun k a ha hk => by
          rw [z3 344 (by decide) (by decide), z3 345 (by decide) (by decide), (y2 k hk).1, (y2 k hk).2]
          exact ⟨hm.2.1.get ha, hm.2.2.get ha⟩
        rcases hI l hl with ⟨a1, a2, a3⟩ | ⟨a1, a2, a3, a4, a5, a6⟩
        · refine ⟨0, by rw [r62, a1], by rw [r63, a2, a3]; rfl, by rw [a3]; decide, fun k hk => ?_⟩
          rw [a3] at hk
          exact absurd hk (Nat.not_lt_zero _)
        · exact ⟨fr l - 1, r62, by rw [r63, a3], by omega, fun k hk => rd _ _ (a6 k hk) (by omega)⟩
      · rw [if_neg e]
        obtain ⟨f, f1, f2, f3, f4⟩ := h3 i hi l hl
        have e4 := z4 (4 * i + l) (by omega)
        refine ⟨f, by rw [e4.1, y3 342 (by decide) (by decide)]; exact f1, by rw [e4.2, y3 343 (by decide) (by decide)]; exact f2, f3, fun k hk => ?_⟩
        have e8 := y4 (80 * i + (f + k)) (by omega)
        rw [z3 344 (by decide) (by decide), z3 345 (by decide) (by decide), e8.1, e8.2]
        exact f4 k hk
end Lns
