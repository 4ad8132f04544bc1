/-! ===== the best order: the reference ===== -/
noncomputable def brF (T : List Nat → Int32) : List (List Nat) → Int32 × List Nat → Int32 × List Nat
  | [], z => z
  | r :: l, z => brF T l (cif (z.1 < 0 ∨ ¬ z.1 ≤ T r) (T r, r) z)
theorem brF_app {T : List Nat → Int32} : ∀ (l l' : List (List Nat)) (z : Int32 × List Nat), brF T (l ++ l') z = brF T l' (brF T l z)
  | [], _, _ => rfl
  | r :: l, l', z => brF_app l l' _
theorem brF_bs {T : List Nat → Int32} (hT : ∀ r, ¬ T r < 0) : ∀ (l : List (List Nat)) (z : Int32 × List Nat), ¬ z.1 < 0 → brF T l z = bsF T l z
  | [], _, _ => rfl
  | r :: l, z, h => by
    show brF T l (cif (z.1 < 0 ∨ ¬ z.1 ≤ T r) (T r, r) z) = bsF T l (cif (z.1 ≤ T r) z (T r, r))
    by_cases q : z.1 ≤ T r
    · rw [cif_f (fun y => y.elim h (fun y => y q)), cif_t q]
      exact brF_bs hT l z h
    · rw [cif_t (Or.inr q), cif_f q]
      exact brF_bs hT l (T r, r) (hT r)
theorem brF_1 {T : List Nat → Int32} {r : List Nat} {l : List (List Nat)} (hT : ∀ r, ¬ T r < 0) (h2 : T r < 1000000) : brF T (r :: l) (-1, []) = bsF T (r :: l) (1000000, []) := by
  show brF T l (cif ((-1 : Int32) < 0 ∨ ¬ (-1 : Int32) ≤ T r) (T r, r) (-1, [])) = bsF T l (cif ((1000000 : Int32) ≤ T r) (1000000, []) (T r, r))
  rw [cif_t (Or.inl (by decide)), cif_f (i_nle.mpr h2)]
  exact brF_bs hT l (T r, r) (hT r)
theorem bsF_ne {T : List Nat → Int32} : ∀ (l : List (List Nat)) (z : Int32 × List Nat), z.2 ≠ [] → (∀ r, r ∈ l → r ≠ []) → (bsF T l z).2 ≠ []
  | [], _, h, _ => h
  | r :: l, z, h, hr => by
    show (bsF T l (cif (z.1 ≤ T r) z (T r, r))).2 ≠ []
    by_cases q : z.1 ≤ T r
    · rw [cif_t q]; exact bsF_ne l z h (fun r' hr' => hr r' (List.mem_cons_of_mem _ hr'))
    · rw [cif_f q]; exact bsF_ne l _ (hr r (List.mem_cons_self ..)) (fun r' hr' => hr r' (List.mem_cons_of_mem _ hr'))
theorem toF_l {p : List Nat} {x j : Nat} (h : j < p.length) : toF (p ++ [x]) j = toF p j := by
  unfold toF
  simp only [List.getD_eq_getElem?_getD, List.getElem?_append_left h]
theorem toF_e {p : List Nat} {x : Nat} : toF (p ++ [x]) p.length = x := by
  unfold toF
  simp
theorem off_bd {t : Nat → Nat → List Nat} {m : Nat} (h1 : 2 ≤ m) (h2 : m ≤ 16) : ∀ (n s a : Nat) (w : am_M), a + 16 * n < 100000 → ∃ b, b ≤ a + 16 * n ∧ (lpF (stlF t m) s n (w, nI a)).2 = nI b
  | 0, _, a, _, _ => ⟨a, by omega, rfl⟩
  | n + 1, s, a, w, h => by
    obtain ⟨k, hk, ek⟩ := ran_nI (ofF_ran (w := w) (t := t) (s := s) h1 h2) h2
    have e : stlF t m s (w, nI a) = ((stlF t m s (w, nI a)).1, nI (a + k)) := by
      unfold stlF
      dsimp only
      rw [ek, nI_add]
    obtain ⟨b, hb, eb⟩ := off_bd h1 h2 n (s + 1) (a + k) (stlF t m s (w, nI a)).1 (by omega)
    refine ⟨b, by omega, ?_⟩
    rw [lpF_s, e]
    exact eb
theorem off_rng {w : am_M} {t : Nat → Nat → List Nat} {m nb ns ne : Nat} (h1 : 2 ≤ m) (h2 : m ≤ 16) (hs : ns ≤ 14) : ¬ offF w t m nb ns ne < 0 ∧ offF w t m nb ns ne < 1000000 := by
  obtain ⟨b, hb, e⟩ := off_bd (t := t) h1 h2 ns 0 0 (hr2 (hr1 w ne) t m nb ns) (by omega)
  have e' : offF w t m nb ns ne = nI b := e
  rw [e', show (1000000 : Int32) = nI 1000000 from rfl, nI_ltI (by omega) (by decide)]
  exact ⟨nI_pos (by omega), by omega⟩
def ofO (w : am_M) (nb : Nat) (u : am_M) : Prop := ∀ g, ordA u nb g = ordA w nb g
theorem ofO.ord {w u : am_M} {nb : Nat} {g : Nat → Int32} (h : ofO w nb u) : ofO w nb (ordA u nb g) := by
  intro g'
  rw [← h g']
  funext r c
  unfold ordA
  by_cases q : r = 21 ∧ c < nb
  · rw [if_pos q, if_pos q]
  · rw [if_neg q, if_neg q, if_neg q]
/-- between two rows -/
def OSt (w : am_M) (t : Nat → Nat → List Nat) (m nb ns ne : Nat) (R : am_M) (z : Int32 × List Nat) : Prop := (∃ u, MW R u t m nb ns ne ∧ ofO w nb u) ∧ R 330 53 = z.1 ∧ (z.2 ≠ [] → ∀ k, k < nb → R 372 k = nI (toF z.2 k))
def frB (R R' : am_M) : Prop := (∀ c, c ≠ 330 → c ≠ 357 → c ≠ 358 → c ≠ 371 → c ≠ 372 → (c < 332 ∨ 357 ≤ c) → R' c = R c) ∧ (∀ k, k ≠ 27 → k ≠ 50 → k ≠ 53 → R' 330 k = R 330 k) ∧ ∀ j, j < 12000 → R' 357 j = R 357 j
theorem frB.rfl {R : am_M} : frB R R := ⟨fun _ _ _ _ _ _ _ => _root_.rfl, fun _ _ _ _ => _root_.rfl, fun _ _ => _root_.rfl⟩
theorem frB.tr {R R' R'' : am_M} (h : frB R R') (h2 : frB R' R'') : frB R R'' := ⟨fun c a1 a2 a3 a4 a5 a6 => (h2.1 c a1 a2 a3 a4 a5 a6).trans (h.1 c a1 a2 a3 a4 a5 a6), fun k a1 a2 a3 => (h2.2.1 k a1 a2 a3).trans (h.2.1 k a1 a2 a3), fun j hj => (h2.2.2 j hj).trans (h.2.2 j hj)⟩
section BestM
variable {I R : am_M} {P : am_Q} {nx sl : Nat} {w : am_M} {t : Nat → Nat → List Nat} {m nb ns ne : Nat}
theorem m_or12 (hS : SP P) {n : Nat} (hn : n ≤ 5) {rc : Nat → Int32 → Int32 → am_M → am_Q → Nat → Nat → Option am_S} {ex : Nat → Int32 → am_M → am_Q → Nat → Nat → Option am_S} : ∀ (d j fu : Nat) (R : am_M), d < fu → j + d = n → (∀ i, i < j → R 338 i = R 371 i) → ∃ R', fM_orders_O_L12 rc ex fu (am_pk 330 0 13) (nI n) (nI j) (put I R) P nx sl = ex (am_pk 330 0 13) (nI n) (put I R') P nx sl ∧ (∀ i, i < n → R' 338 i = R 371 i) ∧ ∀ c, c ≠ 338 → R' c = R c
  | 0, j, fu, R, h1, h2, h3 => by
    obtain ⟨fu, rfl⟩ : ∃ n', fu = n' + 1 := ⟨fu - 1, by omega⟩
    refine ⟨R, ?_, fun i hi => h3 i (by omega), fun _ _ => rfl⟩
    show fM_orders_O_B12 _ _ _ _ _ _ _ _ _ _ = _
    unfold fM_orders_O_B12
    rw [if_pos (by rw [nI_leI (by omega) (by omega)]; omega)]
  | d + 1, j, fu, R, h1, h2, h3 => by
    obtain ⟨fu, rfl⟩ : ∃ n', fu = n' + 1 := ⟨fu - 1, by omega⟩
    obtain ⟨R', y1, y2, y3⟩ := m_or12 hS hn (rc := rc) (ex := ex) d (j + 1) fu (am_up R 338 j (R 371 j)) (by omega) (by omega) (fun i hi => by
      rw [am_up_ne (p := 371) (by decide)]
      by_cases e : i = j
      · rw [e, am_up_eq]
      · rw [am_up_nk e]; exact h3 i (by omega))
    refine ⟨R', ?_, fun i hi => by rw [y2 i hi, am_up_ne (by decide)], fun c hc => by rw [y3 c hc]; funext k; rw [am_up_ne hc]⟩
    show fM_orders_O_B12 _ _ _ _ _ _ _ _ _ _ = _
    unfold fM_orders_O_B12
    rw [if_neg (by rw [nI_leI (by omega) (by omega)]; omega), sm_ck_pos (am_t_pk (by decide)), sp_330_51 hS, sp_330_7 hS, sm_ck_pos (sm_in_nI (by decide) (by omega)), sm_ck_pos (sm_iw_nI (by decide) (by decide) (by omega)), nI_clamp (show j < 2 ^ 31 by omega), put_rd sc_371, put_up sc_338, bd_eq, bd_eq, nI_1]
    exact y1
theorem m_or63 (hS : SP P) {n : Nat} (hn : n ≤ 5) {rc : Nat → Int32 → Int32 → am_M → am_Q → Nat → Nat → Option am_S} : ∀ (d j fu : Nat) (R : am_M), d < fu → j + d = n → (∀ i, i < j → R 372 i = R 371 i) → ∃ R', fM_orders_O_L63 rc (fun I P nx sl => some (I, P, nx, sl)) fu (am_pk 330 0 13) (nI n) (nI j) (put I R) P nx sl = some (put I R', P, nx, sl) ∧ (∀ i, i < n → R' 372 i = R 371 i) ∧ ∀ c, c ≠ 372 → R' c = R c
  | 0, j, fu, R, h1, h2, h3 => by
    obtain ⟨fu, rfl⟩ : ∃ n', fu = n' + 1 := ⟨fu - 1, by omega⟩
    refine ⟨R, ?_, fun i hi => h3 i (by omega), fun _ _ => rfl⟩
    show fM_orders_O_B63 _ _ _ _ _ _ _ _ _ _ = _
    unfold fM_orders_O_B63
    rw [if_pos (by rw [nI_leI (by omega) (by omega)]; omega)]
  | d + 1, j, fu, R, h1, h2, h3 => by
    obtain ⟨fu, rfl⟩ : ∃ n', fu = n' + 1 := ⟨fu - 1, by omega⟩
    obtain ⟨R', y1, y2, y3⟩ := m_or63 hS hn (rc := rc) d (j + 1) fu (am_up R 372 j (R 371 j)) (by omega) (by omega) (fun i hi => by
      rw [am_up_ne (p := 371) (by decide)]
      by_cases e : i = j
      · rw [e, am_up_eq]
      · rw [am_up_nk e]; exact h3 i (by omega))
    refine ⟨R', ?_, fun i hi => by rw [y2 i hi, am_up_ne (by decide)], fun c hc => by rw [y3 c hc]; funext k; rw [am_up_ne hc]⟩
    show fM_orders_O_B63 _ _ _ _ _ _ _ _ _ _ = _
    unfold fM_orders_O_B63
    rw [if_neg (by rw [nI_leI (by omega) (by omega)]; omega), sm_ck_pos (am_t_pk (by decide)), sp_330_51 hS, sp_330_52 hS, sm_ck_pos (sm_in_nI (by decide) (by omega)), sm_ck_pos (sm_iw_nI (by decide) (by decide) (by omega)), nI_clamp (show j < 2 ^ 31 by omega), put_rd sc_371, put_up sc_372, bd_eq, bd_eq, nI_1]
    exact y1
/-- a whole row -/
theorem m_orV (hS : SP P) (h5 : nb ≤ 5) {k0 : Nat} (hk0 : k0 < 2000) (ek : w 0 1 = nI k0) (hn : 379 ≤ nx) {p : List Nat} (hp : rwP nb p) {z : Int32 × List Nat} (hO : OSt w t m nb ns ne R z) (hR : ∀ j, j < nb → R 371 j = nI (toF p j)) {us : Int32} {rc : Nat → Int32 → Int32 → am_M → am_Q → Nat → Nat → Option am_S} : ∃ I' R', fM_orders_O rc (am_pk 330 0 13) (nI nb) us (put I R) P nx sl = some (put I' R', P, nx + nb, sl + 2 * nb) ∧ OSt w t m nb ns ne R' (cif (z.1 < 0 ∨ ¬ z.1 ≤ orT w t m nb ns ne p) (orT w t m nb ns ne p, p) z) ∧ frB R R' ∧ (∀ j, R' 371 j = R 371 j) ∧ frI I I' := by
  obtain ⟨⟨u, hM, hu⟩, hz, hb⟩ := hO
  have hle := hM.le
  obtain ⟨R1, y1, y2, y3⟩ := m_or12 (I := I) (P := P) (nx := nx) (sl := sl) hS h5 (rc := rc) (ex := fun l0 l1 I P nx sl =>
        sm_ck (am_t l0 = 13) <|
        Option.bind (fM_offBy l0 I P nx sl) fun y19 =>
        if (y19.2.1 l0 53) < 0 then
          (fM_orders_O_J55 rc l0 l1 y19.1 y19.2.1 y19.2.2.1 y19.2.2.2.1 y19.2.2.2.2)
        else
          (if (y19.2.1 l0 53) ≤ y19.1 then
            (some (y19.2.1, y19.2.2.1, y19.2.2.2.1, y19.2.2.2.2))
          else
            (fM_orders_O_J55 rc l0 l1 y19.1 y19.2.1 y19.2.2.1 y19.2.2.2.1 y19.2.2.2.2))) nb 0 sm_fu R (sm_fu_lt (by omega)) (by omega) (fun i hi => absurd hi (Nat.not_lt_zero _))
  have m1 : MW R1 (orW w nb p) t m nb ns ne := by
    have := ordA_M (g := fun i => nI (toF p i)) hM (rowN_M (by omega) nb 0 0 hp.2) (R' := R1) (fun c a1 _ _ => y3 c a1) (fun i hi => (y2 i hi).trans (hR i hi))
    rw [hu] at this
    exact this
  obtain ⟨I2, R2, z1, z2, z3, z4⟩ := m_off (I := I) (nx := nx) (sl := sl) hS m1 hn hk0 ((ordA_r (by decide)).trans ek)
  have z1' : fM_offBy (am_pk 330 0 13) (put I R1) P nx sl = some (orT w t m nb ns ne p, put I2 R2, P, nx + nb, sl + 2 * nb) := z1
  have e53 : R2 330 53 = z.1 := by rw [z3.2.1 53 (by decide) (by decide), y3 330 (by decide)]; exact hz
  have e71 : R2 371 = R 371 := by rw [z3.1 371 (by decide) (by decide) (by decide) (by decide), y3 371 (by decide)]
  have e72 : R2 372 = R 372 := by rw [z3.1 372 (by decide) (by decide) (by decide) (by decide), y3 372 (by decide)]
  have f2 : frB R R2 := ⟨fun c a1 a2 a3 a4 a5 a6 => by rw [z3.1 c a1 a2 a3 a6, y3 c (by omega)], fun k a1 a2 a3 => by rw [z3.2.1 k a1 a2, y3 330 (by decide)], fun j hj => by rw [z3.2.2 j (by omega), y3 357 (by decide)]⟩
  obtain ⟨R3, x1, x2, x3⟩ := m_or63 (I := I2) (P := P) (nx := nx + nb) (sl := sl + 2 * nb) hS h5 (rc := rc) nb 0 sm_fu (am_up R2 330 53 (orT w t m nb ns ne p)) (sm_fu_lt (by omega)) (by omega) (fun i hi => absurd hi (Nat.not_lt_zero _))
  have J : fM_orders_O_J55 rc (am_pk 330 0 13) (nI nb) (orT w t m nb ns ne p) (put I2 R2) P (nx + nb) (sl + 2 * nb) = some (put I2 R3, P, nx + nb, sl + 2 * nb) := by
    unfold fM_orders_O_J55
    rw [sm_ck_pos (am_t_pk (by decide)), bd_eq, put_up sc_330]
    exact x1
  have main : fM_orders_O rc (am_pk 330 0 13) (nI nb) us (put I R) P nx sl = (if z.1 < 0 then some (put I2 R3, P, nx + nb, sl + 2 * nb) else if z.1 ≤ orT w t m nb ns ne p then some (put I2 R2, P, nx + nb, sl + 2 * nb) else some (put I2 R3, P, nx + nb, sl + 2 * nb)) := by
    unfold fM_orders_O
    rw [sm_ck_pos (am_t_pk (by decide)), sp_330_1 hS, sm_ck_pos (inl l_0 (by decide) (by decide)), cl_0, put_rd sc_332, hM.n0, if_neg (fun z => z rfl)]
    refine Eq.trans y1 ?_
    rw [sm_ck_pos (am_t_pk (by decide)), z1', Option.bind_some]
    dsimp only
    simp only [put_rd sc_330, e53, J]
  have o3 : OSt w t m nb ns ne R3 (orT w t m nb ns ne p, p) := by
    refine ⟨⟨orW w nb p, z2.fr (fun c a1 a2 => by rw [x3 c (by omega)]; funext j; rw [am_up_ne (by omega)]), fun g => ?_⟩, ?_, fun _ k hk => ?_⟩
    · have : ofO w nb w := fun _ => rfl
      exact this.ord g
    · rw [x3 330 (by decide), am_up_eq]
    · rw [x2 k hk, am_up_ne (by decide), e71]; exact hR k hk
  have f3 : frB R R3 := ⟨fun c a1 a2 a3 a4 a5 a6 => by rw [x3 c a5]; funext j; rw [am_up_ne a1, f2.1 c a1 a2 a3 a4 a5 a6], fun k a1 a2 a3 => by rw [x3 330 (by decide), am_up_nk a3, f2.2.1 k a1 a2 a3], fun j hj => by rw [x3 357 (by decide), am_up_ne (by decide), f2.2.2 j hj]⟩
  have g3 : ∀ j, R3 371 j = R 371 j := fun j => by rw [x3 371 (by decide), am_up_ne (by decide), e71]
  rw [main]
  by_cases q1 : z.1 < 0
  · rw [if_pos q1, cif_t (Or.inl q1)]
    exact ⟨I2, R3, rfl, o3, f3, g3, z4⟩
  · rw [if_neg q1]
    by_cases q2 : z.1 ≤ orT w t m nb ns ne p
    · rw [if_pos q2, cif_f (fun y => y.elim q1 (fun y => y q2))]
      refine ⟨I2, R2, rfl, ⟨⟨orW w nb p, z2, fun g => ?_⟩, e53, fun hb' k hk => by rw [e72]; exact hb hb' k hk⟩, f2, fun j => by rw [e71], z4⟩
      have : ofO w nb w := fun _ => rfl
      exact this.ord g
    · rw [if_neg q2, cif_t (Or.inr q2)]
      exact ⟨I2, R3, rfl, o3, f3, g3, z4⟩
def inB (p : List Nat) (us : Nat) : Prop := us < 128 ∧ ∀ x, x < 7 → (us.testBit x = true ↔ x ∈ p)
theorem inB.add {p : List Nat} {us x : Nat} (h : inB p us) (hx : x < 7) : inB (p ++ [x]) (us ||| 2 ^ x) := by
  refine ⟨(bt_or us h.1 x hx).2, fun y hy => ?_⟩
  rw [bt_set us h.1 x hx y hy, h.2 y hy, List.mem_append, List.mem_singleton]
/-- the rows from a beginning on, box x and later tried next -/
theorem m_orX (hS : SP P) (h5 : nb ≤ 5) {d us : Nat} {p : List Nat} (hus : inB p us) (hp : p.length < nb) {rc : Nat → Int32 → Int32 → am_M → am_Q → Nat → Nat → Option am_S} (ih : ∀ (x : Nat) (I R : am_M) (nx sl : Nat) (z : Int32 × List Nat), x < nb → ¬ x ∈ p → 379 ≤ nx → OSt w t m nb ns ne R z → (∀ j, j < p.length + 1 → R 371 j = nI (toF (p ++ [x]) j)) → (∀ r, r ∈ rwF nb d (p ++ [x]) → rwP nb r) → ∃ I' R', rc (am_pk 330 0 13) (nI (p.length + 1)) (nI (us ||| 2 ^ x)) (put I R) P nx sl = some (put I' R', P, nx + nb * (rwF nb d (p ++ [x])).length, sl + 2 * (nb * (rwF nb d (p ++ [x])).length)) ∧ OSt w t m nb ns ne R' (brF (orT w t m nb ns ne) (rwF nb d (p ++ [x])) z) ∧ frB R R' ∧ (∀ j, j < p.length + 1 → R' 371 j = R 371 j) ∧ frI I I') : ∀ (c x fu : Nat) (I R : am_M) (nx sl : Nat) (z : Int32 × List Nat), c < fu → x + c = nb → 379 ≤ nx → OSt w t m nb ns ne R z → (∀ j, j < p.length → R 371 j = nI (toF p j)) → (∀ r, r ∈ rwX (rwF nb d) p c x → rwP nb r) → ∃ I' R', fM_orders_O_L92 rc (fun I P nx sl => some (I, P, nx, sl)) fu (am_pk 330 0 13) (nI p.length) (nI us) (nI x) (put I R) P nx sl = some (put I' R', P, nx + nb * (rwX (rwF nb d) p c x).length, sl + 2 * (nb * (rwX (rwF nb d) p c x).length)) ∧ OSt w t m nb ns ne R' (brF (orT w t m nb ns ne) (rwX (rwF nb d) p c x) z) ∧ frB R R' ∧ (∀ j, j < p.length → R' 371 j = R 371 j) ∧ frI I I'
  | 0, x, fu, I, R, nx, sl, z, h1, h2, hn, hO, hR, hr => by
    obtain ⟨fu, rfl⟩ : ∃ n', fu = n' + 1 := ⟨fu - 1, by omega⟩
    obtain ⟨⟨u, hM, hu⟩, -⟩ := id hO
    have hle := hM.le
    refine ⟨I, R, ?_, hO, frB.rfl, fun _ _ => rfl, frI.rfl⟩
    show fM_orders_O_B92 _ _ _ _ _ _ _ _ _ _ _ = some (_, _, nx + nb * 0, sl + 2 * (nb * 0))
    unfold fM_orders_O_B92
    rw [sm_ck_pos (am_t_pk (by decide)), sp_330_1 hS, sm_ck_pos (inl l_0 (by decide) (by decide)), cl_0, put_rd sc_332, hM.n0, if_pos (by rw [nI_leI (by omega) (by omega)]; omega), Nat.mul_zero, Nat.mul_zero, Nat.add_zero, Nat.add_zero]
  | c + 1, x, fu, I, R, nx, sl, z, h1, h2, hn, hO, hR, hr => by
    obtain ⟨fu, rfl⟩ : ∃ n', fu = n' + 1 := ⟨fu - 1, by omega⟩
    obtain ⟨⟨u, hM, hu⟩, hz, hb⟩ := id hO
    have hle := hM.le
    have bt := bt_tst0 us hus.1 x (by omega)
    have bi := hus.2 x (by omega)
    have e : rwX (rwF nb d) p (c + 1) x = if x ∈ p then rwX (rwF nb d) p c (x + 1) else rwF nb d (p ++ [x]) ++ rwX (rwF nb d) p c (x + 1) := rfl
    show ∃ I' R', fM_orders_O_B92 _ _ _ _ _ _ _ _ _ _ _ = _ ∧ _
    unfold fM_orders_O_B92 fM_orders_O_J129
    rw [sm_ck_pos (am_t_pk (by decide)), sp_330_1 hS, sm_ck_pos (inl l_0 (by decide) (by decide)), cl_0, put_rd sc_332, hM.n0, if_neg (by rw [nI_leI (by omega) (by omega)]; omega)]
    by_cases q : x ∈ p
    · have q0 : ¬ (sm_shr (nI us) (nI x)) &&& 1 = 0 := fun y => by
        have := bt.mp y
        rw [bi.mpr q] at this
        exact absurd this (by decide)
      rw [if_pos q] at e
      rw [e] at hr ⊢
      rw [if_pos q0, bd_eq, nI_1]
      exact m_orX hS h5 hus hp ih c (x + 1) fu I R nx sl z (by omega) (by omega) hn hO hR hr
    · have q0 : (sm_shr (nI us) (nI x)) &&& 1 = 0 := bt.mpr (by
        cases hh : us.testBit x with
        | false => rfl
        | true => exact absurd (bi.mp hh) q)
      rw [if_neg q] at e
      rw [e] at hr ⊢
      have h7 : OSt w t m nb ns ne (am_up R 371 p.length (nI x)) z := ⟨⟨u, hM.fr (fun c a1 a2 => by funext j; rw [am_up_ne (by omega)]), hu⟩, by rw [am_up_ne (by decide)]; exact hz, fun hb' k hk => by rw [am_up_ne (by decide)]; exact hb hb' k hk⟩
      obtain ⟨I1, R1, y1, y2, y3, y4, y5⟩ := ih x I (am_up R 371 p.length (nI x)) nx sl z (by omega) q hn h7 (fun j hj => by
        by_cases e : j = p.length
        · rw [e, am_up_eq, toF_e]
        · rw [am_up_nk e, toF_l (by omega)]; exact hR j (by omega)) (fun r hr' => hr r (List.mem_append.mpr (Or.inl hr')))
      obtain ⟨I2, R2, z1, z2, z3, z4, z5⟩ := m_orX hS h5 hus hp ih c (x + 1) fu I1 R1 _ _ _ (by omega) (by omega) (show 379 ≤ nx + nb * (rwF nb d (p ++ [x])).length from Nat.le_trans hn (Nat.le_add_right _ _)) y2 (fun j hj => by rw [y4 j (by omega), am_up_nk (by omega)]; exact hR j hj) (fun r hr' => hr r (List.mem_append.mpr (Or.inr hr')))
      refine ⟨I2, R2, ?_, by rw [brF_app]; exact z2, frB.tr (R' := am_up R 371 p.length (nI x)) ⟨fun c a1 a2 a3 a4 a5 a6 => by funext j; rw [am_up_ne a4], fun k a1 a2 a3 => by rw [am_up_ne (by decide)], fun j hj => by rw [am_up_ne (by decide)]⟩ (y3.tr z3), fun j hj => by rw [z4 j hj, y4 j (by omega), am_up_nk (by omega)], y5.tr z5⟩
      rw [if_neg (fun y => y q0), sp_330_51 hS, sm_ck_pos (sm_iw_nI (by decide) (by decide) (by omega)), nI_clamp (show p.length < 2 ^ 31 by omega), put_up sc_371, bd_eq, nI_1, (bt_or us hus.1 x (by omega)).1, y1, Option.bind_some]
      dsimp only
      rw [bd_eq, nI_1, z1, List.length_append, Nat.mul_add, Nat.mul_add, Nat.add_assoc, Nat.add_assoc]
theorem m_ord (hS : SP P) (h5 : nb ≤ 5) {k0 : Nat} (hk0 : k0 < 2000) (ek : w 0 1 = nI k0) : ∀ (d f us : Nat) (p : List Nat) (I R : am_M) (nx sl : Nat) (z : Int32 × List Nat), d < f → p.length + d = nb → inB p us → 379 ≤ nx → OSt w t m nb ns ne R z → (∀ j, j < p.length → R 371 j = nI (toF p j)) → (∀ r, r ∈ rwF nb d p → rwP nb r) → ∃ I' R', fM_orders f (am_pk 330 0 13) (nI p.length) (nI us) (put I R) P nx sl = some (put I' R', P, nx + nb * (rwF nb d p).length, sl + 2 * (nb * (rwF nb d p).length)) ∧ OSt w t m nb ns ne R' (brF (orT w t m nb ns ne) (rwF nb d p) z) ∧ frB R R' ∧ (∀ j, j < p.length → R' 371 j = R 371 j) ∧ frI I I'
  | 0, f, us, p, I, R, nx, sl, z, h1, h2, hus, hn, hO, hR, hr => by
    obtain ⟨f, rfl⟩ : ∃ n', f = n' + 1 := ⟨f - 1, by omega⟩
    have e : p.length = nb := by omega
    obtain ⟨I', R', y1, y2, y3, y4, y5⟩ := m_orV (I := I) (sl := sl) (us := nI us) (rc := fM_orders f) hS h5 hk0 ek hn (hr p (List.mem_singleton.mpr rfl)) hO (fun j hj => hR j (by omega))
    refine ⟨I', R', ?_, y2, y3, fun j _ => y4 j, y5⟩
    show fM_orders_O _ _ _ _ _ _ _ _ = some (_, _, nx + nb * 1, sl + 2 * (nb * 1))
    rw [e, y1, Nat.mul_one]
  | d + 1, f, us, p, I, R, nx, sl, z, h1, h2, hus, hn, hO, hR, hr => by
    obtain ⟨f, rfl⟩ : ∃ n', f = n' + 1 := ⟨f - 1, by omega⟩
    obtain ⟨⟨u, hM, hu⟩, -⟩ := id hO
    have hle := hM.le
    obtain ⟨I', R', y1, y2, y3, y4, y5⟩ := m_orX (d := d) hS h5 hus (show p.length < nb by omega) (rc := fM_orders f) (fun x I R nx sl z hx hxp hn' hO' hR' hr' => by
      have hl : (p ++ [x]).length = p.length + 1 := by rw [List.length_append]; rfl
      have := m_ord hS h5 hk0 ek d f (us ||| 2 ^ x) (p ++ [x]) I R nx sl z (by omega) (by omega) (hus.add (by omega)) hn' hO' (fun j hj => hR' j (by omega)) hr'
      rw [hl] at this
      exact this) nb 0 sm_fu I R nx sl z (sm_fu_lt (by omega)) (by omega) hn hO hR hr
    refine ⟨I', R', ?_, y2, y3, y4, y5⟩
    show fM_orders_O _ _ _ _ _ _ _ _ = _
    unfold fM_orders_O
    rw [sm_ck_pos (am_t_pk (by decide)), sp_330_1 hS, sm_ck_pos (inl l_0 (by decide) (by decide)), cl_0, put_rd sc_332, hM.n0, if_pos (by rw [nI_eq (by omega) (by omega)]; omega)]
    exact y1
theorem op_best (h : INV I R P nx w t m nb ns ne) {a : Int32} : OK3 I R P nx sl (fX_best (am_pk 2 0 12) a) (fM_best (am_pk 330 0 13) a) := by
  have hS := h.sp
  have hle := h.mw.le
  obtain ⟨k0, hk0, ek0⟩ := h.2.1
  by_cases ha : a = -1 ∨ (0 ≤ a ∧ a < nI nb)
  · have hX : fX_best (am_pk 2 0 12) a (put I R) P nx sl = fX_best_J23 (am_pk 2 0 12) a (put I R) P nx sl := by
      unfold fX_best
      by_cases g : a = -1
      · rw [if_pos g]
      · rw [if_neg g, sm_ck_pos (am_t_pk (by decide)), sp_2_0 hS, sm_ck_pos (am_t_pk (by decide)), h.cw.hasBox, Option.bind_some, bI_ifn, if_pos (ha.resolve_left g)]
    have hM : ∀ P1 R1, SP P1 → MW R1 w t m nb ns ne → fM_best (am_pk 330 0 13) a (put I R1) P1 nx sl = fM_best_J21 (am_pk 330 0 13) a (put I R1) P1 nx sl := by
      intro P1 R1 hS1 hm
      unfold fM_best
      by_cases g : a = -1
      · rw [if_pos g]
      · rw [if_neg g, sm_ck_pos (am_t_pk (by decide)), hm.isB hS1, Option.bind_some, bI_ifn, if_pos (ha.resolve_left g)]
    by_cases h5 : nb ≤ 5
    · have l5 : nI nb ≤ 5 := by rw [show (5 : Int32) = nI 5 from rfl, nI_leI (by omega) (by decide)]; exact h5
      by_cases h0 : nb = 0
      · subst h0
        refine h.fl3 (v := -1000004) (k := 3) (by decide) ?_ (fun R1 hm hc1 => ?_)
        · rw [hX]
          unfold fX_best_J23
          rw [sm_ck_pos (am_t_pk (by decide)), sp_2_0 hS, sm_ck_pos (am_t_pk (by decide)), put_rd (sc_w0 W7), h.cw.c6, if_pos l5, if_neg (fun z => z rfl), x_f4 hS, Option.bind_some]
        · rw [hM P R1 hS hm]
          unfold fM_best_J21
          rw [sm_ck_pos (am_t_pk (by decide)), sp_330_1 hS, sm_ck_pos (inl l_0 (by decide) (by decide)), cl_0, put_rd sc_332, hm.n0, if_pos l5, sm_ck_pos (inl l_0 (by decide) (by decide)), if_neg (fun z => z rfl), m_f4 hS, Option.bind_some]
      · have n0 : ¬ nI nb = (0 : Int32) := by rw [show (0 : Int32) = nI 0 from rfl, nI_eq (by omega) (by decide)]; exact h0
        obtain ⟨R1, P1, x1, x2, x3, x4, x5, x6⟩ := x_best (nx := nx) (sl := sl) h.ap hS h.1.1.2.2.1 h.cw (by omega) h5 (show k0 < 2000 by omega) ek0
        have m1 : MW R1 w t m nb ns ne := h.mw.fr (fun c c1 c2 => x5 c (by omega) (by omega) (by omega) (by omega))
        obtain ⟨R2, q1, k1, k2, k3, k4, k5⟩ := m_save (I := I) (pl := 7) x3 m1 (by decide)
        have o2 : OSt w t m nb ns ne (am_up R2 330 53 (-1)) (-1, []) := ⟨⟨w, k2.fr (fun c c1 c2 => by funext j; rw [am_up_ne (by omega)]), fun _ => rfl⟩, am_up_eq, fun z => absurd rfl z⟩
        obtain ⟨r0, rest, e0, -⟩ := pm_hd (n := nb) (by omega) h0
        obtain ⟨I3, R3, q2, o3, f3, -, fi⟩ := m_ord (w := w) x3 h5 (show k0 < 2000 by omega) ek0 nb 8 0 [] I (am_up R2 330 53 (-1)) nx sl (-1, []) (by omega) (by show 0 + nb = nb; omega) ⟨by decide, fun x _ => by simp⟩ h.1.1.2.2.2 o2 (fun j hj => absurd hj (Nat.not_lt_zero _)) (pm_all (by omega) h0)
        have hlen : (rwF nb nb []).length = fcN nb := pm_len (by omega) h0
        have hfc := fcN_le nb (by omega)
        have hT : ∀ r, ¬ orT w t m nb ns ne r < 0 := fun r => (off_rng hle.2.2.2.1 hle.2.2.2.2 hle.2.1).1
        have hbr : brF (orT w t m nb ns ne) (rwF nb nb []) (-1, []) = bsF (orT w t m nb ns ne) (pm nb) (1000000, []) := by
          show brF (orT w t m nb ns ne) (pm nb) (-1, []) = _
          rw [e0]
          exact brF_1 hT (off_rng hle.2.2.2.1 hle.2.2.2.2 hle.2.1).2
        rw [hbr] at o3
        obtain ⟨-, o53, o72⟩ := o3
        have hne : (bsF (orT w t m nb ns ne) (pm nb) (1000000, [])).2 ≠ [] := by
          have hall := pm_all (n := nb) (by omega) h0
          have nn : ∀ r, r ∈ pm nb → r ≠ [] := fun r hr z => by
            have := (hall r hr).1
            rw [z] at this
            exact h0 this.symm
          rw [e0] at nn ⊢
          show (bsF (orT w t m nb ns ne) rest (cif ((1000000 : Int32) ≤ orT w t m nb ns ne r0) (1000000, []) (orT w t m nb ns ne r0, r0))).2 ≠ []
          rw [cif_f (show ¬ (1000000 : Int32) ≤ orT w t m nb ns ne r0 from i_nle.mpr (off_rng hle.2.2.2.1 hle.2.2.2.2 hle.2.1).2)]
          exact bsF_ne rest _ (nn r0 (List.mem_cons_self ..)) (fun r hr => nn r (List.mem_cons_of_mem _ hr))
        obtain ⟨R4, q3, p1, p2, p3⟩ := m_load (I := I3) (R := R3) (pl := 7) x3 (k1.pk (R' := R3) (fun j j1 j2 => by rw [f3.2.2 j (by omega), am_up_ne (by decide)])) (by decide)
        have hV : frV R R4 := by
          have key : ∀ c, (c < 36 ∨ 94 ≤ c) → c ≠ 305 → c ≠ 307 → (c < 308 ∨ 320 ≤ c) → c ≠ 330 → c ≠ 357 → c ≠ 358 → c ≠ 371 → c ≠ 372 → (c < 332 ∨ 357 ≤ c) → R4 c = R c := fun c a1 a2 a3 a4 a5 a6 a7 a8 a9 a10 => by
            rw [p2 c a10 a5, f3.1 c a5 a6 a7 a8 a9 a10]
            funext j
            rw [am_up_ne a5, k3 c a6 a5, x5 c a1 a2 a3 a4]
          refine ⟨fun c hc => key c (by omega) (by omega) (by omega) (by omega) (by omega) (by omega) (by omega) (by omega) (by omega) (by omega), fun c hc => ?_, fun k hk => ?_, ?_, fun j hj => ?_⟩
          · unfold kpc at hc
            exact key c (by omega) (by omega) (by omega) (by omega) (by omega) (by omega) (by omega) (by omega) (by omega) (by omega)
          · rw [p3 k (by omega), f3.2.1 k (by omega) (by omega) (by omega), am_up_nk (by omega), k4 k (by omega), x5 330 (by decide) (by decide) (by decide) (by decide)]
          · rw [key 299 (by decide) (by decide) (by decide) (by decide) (by decide) (by decide) (by decide) (by decide) (by decide) (by decide)]
          · rw [p2 357 (by decide) (by decide), f3.2.2 j (by omega), am_up_ne (by decide), k5 j (by omega), x5 357 (by decide) (by decide) (by decide) (by decide)]
        have hnn : nb * fcN nb ≤ 5 * 120 := Nat.mul_le_mul h5 hfc
        rw [hlen] at q2
        have hI := h.bes2 (nx2 := nx + nb * fcN nb) hV x6 x4 p1 fi (by omega)
        have e53 : R4 330 53 = (bsF (orT w t m nb ns ne) (pm nb) (1000000, [])).1 := by rw [p3 53 (by decide)]; exact o53
        have e72 : ∀ k, k < nb → R4 372 k = nI (toF (bsF (orT w t m nb ns ne) (pm nb) (1000000, [])).2 k) := fun k hk => by rw [p2 372 (by decide) (by decide)]; exact o72 hne k hk
        by_cases g : a = -1
        · refine ⟨(bsF (orT w t m nb ns ne) (pm nb) (1000000, [])).1, I, R1, P1, nx, sl, I3, R4, nx + nb * fcN nb, sl + 2 * (nb * fcN nb), ?_, ?_, hI, ⟨frJ.rfl, fi.J⟩, by omega, by omega, by omega⟩
          · rw [hX]
            unfold fX_best_J23
            rw [sm_ck_pos (am_t_pk (by decide)), sp_2_0 hS, sm_ck_pos (am_t_pk (by decide)), put_rd (sc_w0 W7), h.cw.c6, if_pos l5, if_pos n0, sp_2_10 hS, sp_2_1 hS, sm_ck_pos (am_t_pk (by decide)), x1, Option.bind_some]
            dsimp only
            rw [if_neg (fun z => z g)]
          · rw [hM P1 R1 x3 m1]
            unfold fM_best_J21
            rw [sm_ck_pos (am_t_pk (by decide)), sp_330_1 x3, sm_ck_pos (inl l_0 (by decide) (by decide)), cl_0, put_rd sc_332, m1.n0, if_pos l5, sm_ck_pos (inl l_0 (by decide) (by decide)), if_pos n0, show fM_copiesAll P1 (am_pk 330 0 13) 7 1 (put I R1) = _ from q1, Option.bind_some, bd_eq, put_up sc_330, show fM_orders 8 (am_pk 330 0 13) 0 0 (put I (am_up R2 330 53 (-1))) P1 nx sl = _ from q2, Option.bind_some]
            dsimp only
            rw [show fM_copiesAll P1 (am_pk 330 0 13) 7 0 (put I3 R3) = _ from q3, Option.bind_some, if_neg (fun z => z g), put_rd sc_330, e53]
        · obtain ⟨i, hi, rfl⟩ := ran_ix (ha.resolve_left g) (by omega)
          have hi5 : i < 5 := by omega
          refine ⟨nI (toF (bsF (orT w t m nb ns ne) (pm nb) (1000000, [])).2 i), I, R1, P1, nx, sl, I3, R4, nx + nb * fcN nb, sl + 2 * (nb * fcN nb), ?_, ?_, hI, ⟨frJ.rfl, fi.J⟩, by omega, by omega, by omega⟩
          · rw [hX]
            unfold fX_best_J23
            rw [sm_ck_pos (am_t_pk (by decide)), sp_2_0 hS, sm_ck_pos (am_t_pk (by decide)), put_rd (sc_w0 W7), h.cw.c6, if_pos l5, if_pos n0, sp_2_10 hS, sp_2_1 hS, sm_ck_pos (am_t_pk (by decide)), x1, Option.bind_some]
            dsimp only
            rw [if_pos g, sp_2_10 x3, sm_ck_pos (am_t_pk (by decide)), sp_308_2 x3, sm_ck_pos (sm_in_nI (by decide) hi5), nI_clamp (show i < 2 ^ 31 by omega), put_rd sc_310, x2 hne i hi]
          · rw [hM P1 R1 x3 m1]
            unfold fM_best_J21
            rw [sm_ck_pos (am_t_pk (by decide)), sp_330_1 x3, sm_ck_pos (inl l_0 (by decide) (by decide)), cl_0, put_rd sc_332, m1.n0, if_pos l5, sm_ck_pos (inl l_0 (by decide) (by decide)), if_pos n0, show fM_copiesAll P1 (am_pk 330 0 13) 7 1 (put I R1) = _ from q1, Option.bind_some, bd_eq, put_up sc_330, show fM_orders 8 (am_pk 330 0 13) 0 0 (put I (am_up R2 330 53 (-1))) P1 nx sl = _ from q2, Option.bind_some]
            dsimp only
            rw [show fM_copiesAll P1 (am_pk 330 0 13) 7 0 (put I3 R3) = _ from q3, Option.bind_some, if_pos g, sp_330_52 x3, sm_ck_pos (sm_in_nI (by decide) hi5), nI_clamp (show i < 2 ^ 31 by omega), put_rd sc_372, e72 i hi]
    · have l5 : ¬ nI nb ≤ 5 := by rw [show (5 : Int32) = nI 5 from rfl, nI_leI (by omega) (by decide)]; exact h5
      refine h.fl3 (v := -1000007) (k := 6) (by decide) ?_ (fun R1 hm hc1 => ?_)
      · rw [hX]
        unfold fX_best_J23
        rw [sm_ck_pos (am_t_pk (by decide)), sp_2_0 hS, sm_ck_pos (am_t_pk (by decide)), put_rd (sc_w0 W7), h.cw.c6, if_neg l5, x_f7 hS, Option.bind_some]
      · rw [hM P R1 hS hm]
        unfold fM_best_J21
        rw [sm_ck_pos (am_t_pk (by decide)), sp_330_1 hS, sm_ck_pos (inl l_0 (by decide) (by decide)), cl_0, put_rd sc_332, hm.n0, if_neg l5, m_f7 hS, Option.bind_some]
  · have g1 : ¬ a = -1 := fun z => ha (Or.inl z)
    have g2 : ¬ (0 ≤ a ∧ a < nI nb) := fun z => ha (Or.inr z)
    refine h.fl3 (v := -1000001) (k := 0) (by decide) ?_ (fun R1 hm hc1 => ?_)
    · unfold fX_best
      rw [if_neg g1, sm_ck_pos (am_t_pk (by decide)), sp_2_0 hS, sm_ck_pos (am_t_pk (by decide)), h.cw.hasBox, Option.bind_some, bI_ifn, if_neg g2, x_f1 hS, Option.bind_some]
    · unfold fM_best
      rw [if_neg g1, sm_ck_pos (am_t_pk (by decide)), hm.isB hS, Option.bind_some, bI_ifn, if_neg g2, m_f1 hS, Option.bind_some]
end BestM
