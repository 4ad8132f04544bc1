/-! ===== hours that are kept ===== -/
abbrev WV : Type := am_M × (Nat → Nat → List Nat) × Nat × Nat × Nat × Nat
def CWv (I R : am_M) (P : am_Q) (b : Nat) (W : WV) : Prop := CW I R P b W.1 W.2.1 W.2.2.1 W.2.2.2.1 W.2.2.2.2.1 W.2.2.2.2.2
def MWv (R : am_M) (W : WV) : Prop := MW R W.1 W.2.1 W.2.2.1 W.2.2.2.1 W.2.2.2.2.1 W.2.2.2.2.2
/-- one more is kept -/
def psh (q : Nat × (Nat → WV)) (W : WV) : Nat × (Nat → WV) := if q.1 < 6 then (q.1 + 1, fun i => if i = q.1 then W else q.2 i) else (6, fun i => if i = 5 then W else q.2 (i + 1))
/-- k more, a 0, a 1, .. -/
def pshs (a : Nat → WV) : Nat → Nat × (Nat → WV) → Nat × (Nat → WV)
  | 0, q => q
  | k + 1, q => psh (pshs a k q) (a k)
theorem pshs_s (a : Nat → WV) {n : Nat} {E : Nat → WV} (hn : n ≤ 6) : ∀ k, (pshs a k (n, E)).1 = min 6 (n + k) ∧ ∀ i, i < min 6 (n + k) → (pshs a k (n, E)).2 i = if n + k - min 6 (n + k) + i < n then E (n + k - min 6 (n + k) + i) else a (n + k - min 6 (n + k) + i - n)
  | 0 => by
    refine ⟨by show n = _; omega, fun i hi => ?_⟩
    rw [if_pos (by omega), show n + 0 - min 6 (n + 0) + i = i by omega]
    rfl
  | k + 1 => by
    obtain ⟨h1, h2⟩ := pshs_s a (E := E) hn k
    show (psh (pshs a k (n, E)) (a k)).1 = _ ∧ ∀ i, _ → (psh (pshs a k (n, E)) (a k)).2 i = _
    generalize pshs a k (n, E) = q at h1 h2
    unfold psh
    by_cases hq : q.1 < 6
    · rw [if_pos hq]
      refine ⟨by show q.1 + 1 = _; omega, fun i hi => ?_⟩
      show (if i = q.1 then a k else q.2 i) = _
      by_cases e : i = q.1
      · rw [if_pos e, if_neg (by omega)]; congr 1; omega
      · rw [if_neg e, h2 i (by omega), show n + (k + 1) - min 6 (n + (k + 1)) = n + k - min 6 (n + k) by omega]
    · rw [if_neg hq]
      refine ⟨by show 6 = _; omega, fun i hi => ?_⟩
      show (if i = 5 then a k else q.2 (i + 1)) = _
      by_cases e : i = 5
      · rw [if_pos e, if_neg (by omega)]; congr 1; omega
      · rw [if_neg e, h2 (i + 1) (by omega), show n + (k + 1) - min 6 (n + (k + 1)) + i = n + k - min 6 (n + k) + (i + 1) by omega]
/-- the class's kept hours -/
def HX (I R : am_M) (P : am_Q) (f : Nat) (q : Nat × (Nat → WV)) : Prop := f < 6 ∧ q.1 ≤ 6 ∧ R 123 1 = nI f ∧ R 123 2 = nI q.1 ∧ ∀ i, i < q.1 → CWv I R P (125 + 29 * ((f + i) % 6)) (q.2 i)
/-- the reference's kept hours -/
def HM (R : am_M) (q : Nat × (Nat → WV)) : Prop := q.1 ≤ 6 ∧ R 330 28 = nI q.1 ∧ ∀ i, i < q.1 → MWv (PK R i) (q.2 i)
/-- what keeping and passing leave alone -/
def frH (P P' : am_Q) : Prop := (∀ a k, am_t a ≠ 1 → P' a k = P a k) ∧ ∀ c, (c < 125 ∨ 299 ≤ c) → P' (am_pk c 0 1) 10 = P (am_pk c 0 1) 10
theorem frH.rfl {P : am_Q} : frH P P := ⟨fun _ _ _ => _root_.rfl, fun _ _ => _root_.rfl⟩
theorem frH.tr {P P' P'' : am_Q} (h : frH P P') (h2 : frH P' P'') : frH P P'' := ⟨fun a k ha => (h2.1 a k ha).trans (h.1 a k ha), fun c hc => (h2.2 c hc).trans (h.2 c hc)⟩
def frS (R R' : am_M) : Prop := ∀ c, (c < 7 ∨ 36 ≤ c) → c ≠ 307 → c ≠ 123 → (c < 125 ∨ 299 ≤ c) → R' c = R c
theorem frS.tr {R R' R'' : am_M} (h : frS R R') (h2 : frS R' R'') : frS R R'' := fun c a1 a2 a3 a4 => (h2 c a1 a2 a3 a4).trans (h c a1 a2 a3 a4)
section Keep
variable {I R : am_M} {P : am_Q} {nx sl : Nat} {w : am_M} {t : Nat → Nat → List Nat} {m nb ns ne : Nat}
theorem x_keep (hS : SP P) (hL : LB P nx) (h : CW I R P 7 w t m nb ns ne) {f : Nat} {q : Nat × (Nat → WV)} (hX : HX I R P f q) : ∃ R' P' f', fY_keep (am_pk 123 0 2) (am_pk 7 0 11) (put I R) P nx sl = some (put I R', P', nx, sl) ∧ CW I R' P' 7 w t m nb ns ne ∧ HX I R' P' f' (psh q (w, t, m, nb, ns, ne)) ∧ SP P' ∧ LB P' nx ∧ frS R R' ∧ frH P P' := by
  have hle := h.le
  obtain ⟨x1, x2, x3, x4, x5⟩ := hX
  have hmod : (f + q.1) % 6 < 6 := Nat.mod_lt _ (by decide)
  have hWt := Whi hmod
  obtain ⟨R1, P1, q1, c1, hS1, f1, g1⟩ := x_copy (nx := nx) (sl := sl) hS h hWt (by omega)
  have hL1 : LB P1 nx := hL.cpy W7 hle.1 f1
  have ei : sm_rem (nI f + nI q.1) 6 = nI ((f + q.1) % 6) := by
    unfold sm_rem
    rw [nI_add, l_6, pk_rem (by omega) (by decide) (by decide)]
  have r1 : R1 123 1 = nI f := by rw [g1 123 (by omega)]; exact x3
  have r2 : R1 123 2 = nI q.1 := by rw [g1 123 (by omega)]; exact x4
  have fH : frH P P1 := ⟨f1.1, fun c hc => f1.2.1 c 10 (by omega)⟩
  have run : fY_keep (am_pk 123 0 2) (am_pk 7 0 11) (put I R) P nx sl = if 6 ≤ nI q.1 then some (put I (am_up R1 123 1 (sm_rem (nI f + 1) 6)), P1, nx, sl) else some (put I (am_up R1 123 2 (nI q.1 + 1)), P1, nx, sl) := by
    unfold fY_keep
    rw [sm_ck_pos (am_t_pk (by decide)), put_rd sc_123, put_rd sc_123, x3, x4, ei, sp_123_0 hS, nI_clamp (show (f + q.1) % 6 < 2 ^ 31 by omega), sp_hi hS hmod, sm_ck_pos (sm_ia_nI (by decide) (by decide) (by decide) hmod), sm_ck_pos (am_t_pk (by decide)), sm_ck_pos (am_t_pk (by decide)), q1, Option.bind_some]
    dsimp only
    simp only [put_rd sc_123, r1, r2]
    by_cases e : (6 : Int32) ≤ nI q.1
    · rw [if_pos e, if_pos e, bd_eq, put_up sc_123]
    · rw [if_neg e, if_neg e, bd_eq, put_up sc_123]
  have hC7 : CW I R1 P1 7 w t m nb ns ne := h.keep hL (fun c h1 h2 => g1 c (by omega)) (fun c hc => g1 c (by omega)) (fun a k ha _ => f1.1 a k ha) (fun i hi => f1.2.1 _ 10 (by omega)) frJ.rfl
  have old : ∀ i, i < q.1 → (f + i) % 6 ≠ (f + q.1) % 6 → CWv I R1 P1 (125 + 29 * ((f + i) % 6)) (q.2 i) := fun i hi hne => by
    have hm : (f + i) % 6 < 6 := Nat.mod_lt _ (by decide)
    exact CW.keep (x5 i hi) hL (fun c h1 h2 => g1 c (by omega)) (fun c hc => g1 c (by omega)) (fun a k ha _ => f1.1 a k ha) (fun i hi => f1.2.1 _ 10 (by omega)) frJ.rfl
  have up : ∀ (k : Nat) (v : Int32) (b : Nat) (W : WV), b ≠ 123 → (124 ≤ b ∨ b + 29 ≤ 123) → CWv I R1 P1 b W → CWv I (am_up R1 123 k v) P1 b W := fun k v b W h1 h2 hc => CW.fr hc (fun c h1 h2 => by funext j; rw [am_up_ne (by omega)]) (fun c hc => by funext j; rw [am_up_ne (by omega)])
  by_cases hq : q.1 < 6
  · refine ⟨am_up R1 123 2 (nI q.1 + 1), P1, f, ?_, up _ _ 7 (w, t, m, nb, ns, ne) (by decide) (by decide) hC7, ?_, hS1, hL1, ?_, fH⟩
    · rw [run, if_neg (by rw [l_6, nI_leI (by omega) (by omega)]; omega)]
    · unfold psh
      rw [if_pos hq]
      refine ⟨x1, by show q.1 + 1 ≤ 6; omega, by rw [am_up_nk (by decide)]; exact r1, by rw [am_up_eq, nI_1], fun i hi => ?_⟩
      have hi : i < q.1 + 1 := hi
      have hm : (f + i) % 6 < 6 := Nat.mod_lt _ (by decide)
      show CWv _ _ _ _ (if i = q.1 then (w, t, m, nb, ns, ne) else q.2 i)
      by_cases e : i = q.1
      · subst e
        rw [if_pos rfl]
        exact up _ _ _ (w, t, m, nb, ns, ne) (by omega) (by omega) c1
      · rw [if_neg e]
        exact up _ _ _ _ (by omega) (by omega) (old i (by omega) (by omega))
    · intro c a1 a2 a3 a4
      funext j
      rw [am_up_ne a3, g1 c (by omega)]
  · have h6 : q.1 = 6 := by omega
    refine ⟨am_up R1 123 1 (sm_rem (nI f + 1) 6), P1, (f + 1) % 6, ?_, up _ _ 7 (w, t, m, nb, ns, ne) (by decide) (by decide) hC7, ?_, hS1, hL1, ?_, fH⟩
    · rw [run, if_pos (by rw [l_6, nI_leI (by omega) (by omega)]; omega)]
    · unfold psh
      rw [if_neg hq]
      refine ⟨Nat.mod_lt _ (by decide), by show 6 ≤ 6; omega, ?_, by rw [am_up_nk (by decide), r2, h6], fun i hi => ?_⟩
      · rw [am_up_eq]
        unfold sm_rem
        rw [nI_1, l_6, pk_rem (by omega) (by decide) (by decide)]
      · have hi : i < 6 := hi
        have hm : ((f + 1) % 6 + i) % 6 < 6 := Nat.mod_lt _ (by decide)
        show CWv _ _ _ _ (if i = 5 then (w, t, m, nb, ns, ne) else q.2 (i + 1))
        by_cases e : i = 5
        · subst e
          rw [if_pos rfl, show ((f + 1) % 6 + 5) % 6 = (f + q.1) % 6 by omega]
          exact up _ _ _ (w, t, m, nb, ns, ne) (by omega) (by omega) c1
        · rw [if_neg e, show ((f + 1) % 6 + i) % 6 = (f + (i + 1)) % 6 by omega]
          have hm2 : (f + (i + 1)) % 6 < 6 := Nat.mod_lt _ (by decide)
          exact up _ _ _ _ (by omega) (by omega) (old (i + 1) (by omega) (by omega))
    · intro c a1 a2 a3 a4
      funext j
      rw [am_up_ne a3, g1 c (by omega)]
/-- the world n hours on -/
noncomputable def hrN (t : Nat → Nat → List Nat) (m nb ns ne : Nat) : Nat → am_M → am_M
  | 0, w => w
  | n + 1, w => hourF (hrN t m nb ns ne n w) t m nb ns ne
theorem hourF_01 : hourF w t m nb ns ne 0 1 = w 0 1 + 1 := by
  unfold hourF
  rw [am_up_eq, hrs_01]
theorem hrN_01 {k : Nat} (h : w 0 1 = nI k) : ∀ n, hrN t m nb ns ne n w 0 1 = nI (k + n)
  | 0 => h
  | n + 1 => by
    show hourF _ t m nb ns ne 0 1 = _
    rw [hourF_01, hrN_01 h n, nI_1]; rfl
theorem x_passN (hS : SP P) (hA : apok I) (h : CW I R P 7 w t m nb ns ne) {k : Nat} (hk : k < 2000) (e : w 0 1 = nI k) : ∃ R', fH_pass P (am_pk 308 0 3) (am_pk 7 0 11) (put I R) = some (offF w t m nb ns ne, put I R') ∧ CW I R' P 7 (hourF w t m nb ns ne) t m nb ns ne ∧ fr 7 R R' := x_pass hS hA h ⟨k, hk, hrs_01.trans e⟩
/-- the class's step: from hour i on -/
theorem x_stepL (hA : apok I) {n k0 : Nat} (hn : n ≤ 50) (hk : k0 + n ≤ 999) (e0 : w 0 1 = nI k0) {ex : Nat → am_M → am_Q → Nat → Nat → Option (Int32 × am_S)} : ∀ (d i fu : Nat) (R : am_M) (P : am_Q) (f : Nat) (q : Nat × (Nat → WV)), d < fu → i + d = n → SP P → LB P nx → CW I R P 7 (hrN t m nb ns ne i w) t m nb ns ne → HX I R P f q → (i ≤ n - 6 ∨ True) →
    ∃ R' P' f', fX_step_L42 ex fu (am_pk 2 0 12) (nI n) (nI i) (put I R) P nx sl = ex (am_pk 2 0 12) (put I R') P' nx sl ∧ CW I R' P' 7 (hrN t m nb ns ne n w) t m nb ns ne ∧ HX I R' P' f' (pshs (fun j => (hrN t m nb ns ne (max i (n - 6) + j) w, t, m, nb, ns, ne)) (n - max i (n - 6)) q) ∧ SP P' ∧ LB P' nx ∧ frS R R' ∧ frH P P'
  | 0, i, fu, R, P, f, q, h1, h2, hS, hL, hC, hX, _ => by
    obtain ⟨fu, rfl⟩ : ∃ n', fu = n' + 1 := ⟨fu - 1, by omega⟩
    have hi : i = n := by omega
    subst hi
    refine ⟨R, P, f, ?_, hC, ?_, hS, hL, fun _ _ _ _ _ => rfl, frH.rfl⟩
    · show fX_step_B42 _ _ _ _ _ _ _ _ _ = _
      unfold fX_step_B42
      rw [if_pos (by rw [nI_leI (by omega) (by omega)]; omega)]
    · rw [show i - max i (i - 6) = 0 by omega]; exact hX
  | d + 1, i, fu, R, P, f, q, h1, h2, hS, hL, hC, hX, _ => by
    obtain ⟨fu, rfl⟩ : ∃ n', fu = n' + 1 := ⟨fu - 1, by omega⟩
    have e1 := hrN_01 (t := t) (m := m) (nb := nb) (ns := ns) (ne := ne) e0 i
    have hrest : ∀ (R1 : am_M) (P1 : am_Q) (f1 : Nat) (q1 : Nat × (Nat → WV)), SP P1 → LB P1 nx → CW I R1 P1 7 (hrN t m nb ns ne i w) t m nb ns ne → HX I R1 P1 f1 q1 → frS R R1 → frH P P1 → ∃ R' P' f', fX_step_J66 (fX_step_L42 ex fu) (am_pk 2 0 12) (nI n) (nI i) (put I R1) P1 nx sl = ex (am_pk 2 0 12) (put I R') P' nx sl ∧ CW I R' P' 7 (hrN t m nb ns ne n w) t m nb ns ne ∧ HX I R' P' f' (pshs (fun j => (hrN t m nb ns ne (max (i + 1) (n - 6) + j) w, t, m, nb, ns, ne)) (n - max (i + 1) (n - 6)) q1) ∧ SP P' ∧ LB P' nx ∧ frS R R' ∧ frH P P' := by
      intro R1 P1 f1 q1 hS1 hL1 hC1 hX1 s1 p1
      obtain ⟨R2, r1, r2, r3⟩ := x_passN hS1 hA hC1 (show k0 + i < 2000 by omega) e1
      have hX2 : HX I R2 P1 f1 q1 := by
        obtain ⟨y1, y2, y3, y4, y5⟩ := hX1
        refine ⟨y1, y2, by rw [r3 123 (by decide) (by decide)]; exact y3, by rw [r3 123 (by decide) (by decide)]; exact y4, fun i hi => ?_⟩
        have hm : (f1 + i) % 6 < 6 := Nat.mod_lt _ (by decide)
        exact CW.fr (y5 i hi) (fun c h1 h2 => r3 c (by omega) (by omega)) (fun c hc => r3 c (by omega) (by omega))
      obtain ⟨R', P', f', z1, z2, z3, z4, z5, z6, z7⟩ := x_stepL hA hn hk e0 (ex := ex) d (i + 1) fu R2 P1 f1 q1 (by omega) (by omega) hS1 hL1 r2 hX2 (Or.inr trivial)
      refine ⟨R', P', f', ?_, z2, z3, z4, z5, s1.tr (frS.tr (fun c a1 a2 a3 a4 => r3 c a1 a2) z6), p1.tr z7⟩
      unfold fX_step_J66
      rw [sm_ck_pos (am_t_pk (by decide)), sp_2_10 hS1, sm_ck_pos (am_t_pk (by decide)), sp_2_0 hS1, r1, Option.bind_some, bd_eq, nI_1]
      exact z1
    have hnle : ¬ nI n ≤ nI i := by rw [nI_leI (by omega) (by omega)]; omega
    by_cases h6 : 6 < n - i
    · obtain ⟨R', P', f', z1, z2, z3, z4⟩ := hrest R P f q hS hL hC hX (fun _ _ _ _ _ => rfl) frH.rfl
      refine ⟨R', P', f', ?_, z2, ?_, z4⟩
      · show fX_step_B42 _ _ _ _ _ _ _ _ _ = _
        unfold fX_step_B42
        rw [if_neg hnle, pk_sub (by omega), if_pos (by rw [l_6, nI_ltI (by decide) (by omega)]; exact h6)]
        exact z1
      · rw [show max i (n - 6) = max (i + 1) (n - 6) by omega]; exact z3
    · obtain ⟨R1, P1, f1, k1, k2, k3, k4, k5, k6, k7⟩ := x_keep (nx := nx) (sl := sl) hS hL hC hX
      obtain ⟨R', P', f', z1, z2, z3, z4⟩ := hrest R1 P1 f1 _ k4 k5 k2 k3 k6 k7
      refine ⟨R', P', f', ?_, z2, ?_, z4⟩
      · show fX_step_B42 _ _ _ _ _ _ _ _ _ = _
        unfold fX_step_B42
        rw [if_neg hnle, pk_sub (by omega), if_neg (by rw [l_6, nI_ltI (by decide) (by omega)]; exact h6), sm_ck_pos (am_t_pk (by decide)), sp_2_5 hS, sm_ck_pos (am_t_pk (by decide)), sp_2_0 hS, k1, Option.bind_some]
        exact z1
      · have em : max i (n - 6) = i := by omega
        have em2 : max (i + 1) (n - 6) = i + 1 := by omega
        rw [em2] at z3
        rw [em]
        have key : ∀ (k : Nat) (a : Nat → WV) (q : Nat × (Nat → WV)), pshs (fun j => a (1 + j)) k (psh q (a 0)) = pshs a (k + 1) q := by
          intro k
          induction k with
          | zero => intro a q; rfl
          | succ k ih =>
            intro a q
            show psh (pshs (fun j => a (1 + j)) k (psh q (a 0))) (a (1 + k)) = psh (pshs a (k + 1) q) (a (k + 1))
            rw [ih a q, show 1 + k = k + 1 by omega]
        have := key (n - (i + 1)) (fun j => (hrN t m nb ns ne (i + j) w, t, m, nb, ns, ne)) q
        rw [show n - (i + 1) + 1 = n - i by omega] at this
        rw [← this]
        have e2 : (fun j => (hrN t m nb ns ne (i + 1 + j) w, t, m, nb, ns, ne)) = (fun j => ((fun j => ((hrN t m nb ns ne (i + j) w, t, m, nb, ns, ne) : WV)) (1 + j))) := by
          funext j
          show (hrN t m nb ns ne (i + 1 + j) w, t, m, nb, ns, ne) = (hrN t m nb ns ne (i + (1 + j)) w, t, m, nb, ns, ne)
          rw [Nat.add_assoc]
        rw [e2] at z3
        exact z3
end Keep
