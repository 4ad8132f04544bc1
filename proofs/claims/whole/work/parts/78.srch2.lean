/-! ===== the search of the class ===== -/
noncomputable def srF (an : Nat → Prop) (L : Nat) : Nat → Nat → Nat → Nat × Nat
  | 0, v, c => (c, v)
  | d + 1, v, c => cif (an v) (if c + 1 < L then srF an L d (v + 1) (c + 1) else (c + 1, v)) (srF an L d (v + 1) c)
noncomputable def mrF (an : Nat → Prop) : Nat → Nat → Nat → Nat → Nat × Nat
  | 0, _, c, b => (c, b)
  | d + 1, v, c, b => cif (an v) (mrF an d (v + 1) (c + 1) (if c = 0 then v else b)) (mrF an d (v + 1) c b)
theorem srF_mr {an : Nat → Prop} {L : Nat} : ∀ (d v c b : Nat), c + d < L → (srF an L d v c).1 = (mrF an d v c b).1
  | 0, _, _, _, _ => rfl
  | d + 1, v, c, b, h => by
    show (cif _ _ _ : Nat × Nat).1 = (cif _ _ _ : Nat × Nat).1
    by_cases q : an v
    · rw [cif_t q, cif_t q, if_pos (by omega)]; exact srF_mr d _ _ _ (by omega)
    · rw [cif_f q, cif_f q]; exact srF_mr d _ _ _ (by omega)
theorem mrF_keep {an : Nat → Prop} : ∀ (d v c b : Nat), 0 < c → 0 < (mrF an d v c b).1 ∧ (mrF an d v c b).2 = b
  | 0, _, _, _, h => ⟨h, rfl⟩
  | d + 1, v, c, b, h => by
    show 0 < (cif _ _ _ : Nat × Nat).1 ∧ (cif _ _ _ : Nat × Nat).2 = b
    by_cases q : an v
    · rw [cif_t q, if_neg (by omega)]; exact mrF_keep d _ _ _ (by omega)
    · rw [cif_f q]; exact mrF_keep d _ _ _ h
theorem srF_1 {an : Nat → Prop} : ∀ (d v b : Nat), ((mrF an d v 0 b).1 = 0 ∧ (srF an 1 d v 0).1 = 0) ∨ (0 < (mrF an d v 0 b).1 ∧ (srF an 1 d v 0).1 = 1 ∧ (srF an 1 d v 0).2 = (mrF an d v 0 b).2)
  | 0, _, _ => Or.inl ⟨rfl, rfl⟩
  | d + 1, v, b => by
    show ((cif _ _ _ : Nat × Nat).1 = 0 ∧ (cif _ _ _ : Nat × Nat).1 = 0) ∨ (0 < (cif _ _ _ : Nat × Nat).1 ∧ (cif _ _ _ : Nat × Nat).1 = 1 ∧ (cif _ _ _ : Nat × Nat).2 = (cif _ _ _ : Nat × Nat).2)
    by_cases q : an v
    · rw [cif_t q, cif_t q, if_pos rfl, if_neg (show ¬ 0 + 1 < 1 by decide)]
      obtain ⟨k1, k2⟩ := mrF_keep (an := an) d (v + 1) (0 + 1) v (by decide)
      exact Or.inr ⟨k1, rfl, k2.symm⟩
    · rw [cif_f q, cif_f q]; exact srF_1 d _ _
theorem mrF_le {an : Nat → Prop} : ∀ (d v c b : Nat), (mrF an d v c b).1 ≤ c + d
  | 0, _, _, _ => Nat.le_refl _
  | d + 1, v, c, b => by
    show (cif _ _ _ : Nat × Nat).1 ≤ _
    by_cases q : an v
    · rw [cif_t q]; have := mrF_le (an := an) d (v + 1) (c + 1) (if c = 0 then v else b); omega
    · rw [cif_f q]; have := mrF_le (an := an) d (v + 1) c b; omega
theorem pw_le {m n : Nat} (h1 : m ≤ 16) (h2 : n ≤ 3) (h0 : 0 < m) : m ^ n ≤ 4096 := Nat.le_trans (Nat.pow_le_pow_left h1 n) (Nat.pow_le_pow_right (n := 16) (by decide) h2)
section Sch
variable {I R : am_M} {P : am_Q} {nx : Nat} {w : am_M} {t : Nat → Nat → List Nat} {m nb ns ne : Nat}
theorem x_schL (hS : SP P) (hw : wiv w t m nb ns ne) {n L : Nat} {q : Nat → Nat} (hn : n ≤ 3) (hL : L < 2000000) (hq : qok ns n q) : ∀ (d v fu c : Nat) (R u : am_M), d < fu → v + d = m ^ n → c ≤ v → CW I R P 36 u t m nb ns ne → ofD w q n u → (∀ k, k < n → R 312 k = nI (q k)) → (v < m ^ n → ∀ k, k < n → R 313 k = nI (dgF m n v k)) → ∃ R', fR_search_L50 P (fun l5 I => some (l5, I)) (fun l5 I => some (l5, I)) fu (am_pk 311 0 7) (am_pk 36 0 11) (nI L) (nI n) (nI (m ^ n)) (nI c) (nI v) (put I R) = some (nI (srF (anP w t q m n) L d v c).1, put I R') ∧ (c < L → L ≤ (srF (anP w t q m n) L d v c).1 → ∀ k, k < n → R' 313 k = nI (dgF m n (srF (anP w t q m n) L d v c).2 k)) ∧ ∀ e, (e < 36 ∨ 65 ≤ e) → e ≠ 307 → e ≠ 313 → R' e = R e
  | 0, v, fu, c, R, u, h1, h2, hc, h, ho, h3, h4 => by
    obtain ⟨fu, rfl⟩ : ∃ n', fu = n' + 1 := ⟨fu - 1, by omega⟩
    have hle := h.le
    have hp := pw_le (m := m) (n := n) hle.2.2.2.2 hn (by omega)
    refine ⟨R, ?_, fun a1 a2 => absurd a2 (by show ¬ L ≤ c; omega), fun _ _ _ _ => rfl⟩
    show fR_search_B50 _ _ _ _ _ _ _ _ _ _ _ _ = _
    unfold fR_search_B50
    rw [if_pos (by rw [nI_leI (by omega) (by omega)]; omega)]
    rfl
  | d + 1, v, fu, c, R, u, h1, h2, hc, h, ho, h3, h4 => by
    obtain ⟨fu, rfl⟩ : ∃ n', fu = n' + 1 := ⟨fu - 1, by omega⟩
    have hle := h.le
    have hp := pw_le (m := m) (n := n) hle.2.2.2.2 hn (by omega)
    obtain ⟨R1, y1, y2, y3⟩ := x_isA hS hw hn hq h ho (v := v) ⟨h3, h4 (by omega)⟩
    have t1 : tlH R1 q (dgF m n v) n := tlH.fr ⟨h3, h4 (by omega)⟩ y3
    obtain ⟨R2, z1, z2, z3, z4⟩ := x_adv (I := I) (P := P) (R := R1) sc_313 (by decide) (by omega) hle.2.2.2.2 hn (show v < m ^ n by omega) t1.2
    have c2 : CW I R2 P 36 (dwN w q m n v) t m nb ns ne := y2.fr (fun e e1 e2 => z4 e (by omega)) (fun e he => z4 e (by omega))
    have f2 : ∀ e, (e < 36 ∨ 65 ≤ e) → e ≠ 307 → e ≠ 313 → R2 e = R e := fun e e1 e2 e3 => by rw [z4 e e3, y3 e (by omega) e2]
    have hL1 : ∀ rr c', fR_search_J78 P rr (am_pk 311 0 7) (am_pk 36 0 11) (nI L) (nI n) (nI (m ^ n)) c' (nI v) (put I R1) = rr (am_pk 311 0 7) (am_pk 36 0 11) (nI L) (nI n) (nI (m ^ n)) c' (nI (v + 1)) (put I R2) := by
      intro rr c'
      unfold fR_search_J78
      rw [sm_ck_pos (am_t_pk (by decide)), sm_ck_pos (am_t_pk (by decide)), sp_311_3 hS, put_rd (sc_w0 h.1), y2.c0, z1, Option.bind_some, bd_eq, nI_1]
    have run : ∀ rr, fR_search_B50 P (fun l5 I => some (l5, I)) (fun l5 I => some (l5, I)) rr (am_pk 311 0 7) (am_pk 36 0 11) (nI L) (nI n) (nI (m ^ n)) (nI c) (nI v) (put I R) = cif (anP w t q m n v) (if c + 1 < L then rr (am_pk 311 0 7) (am_pk 36 0 11) (nI L) (nI n) (nI (m ^ n)) (nI (c + 1)) (nI (v + 1)) (put I R2) else some (nI (c + 1), put I R1)) (rr (am_pk 311 0 7) (am_pk 36 0 11) (nI L) (nI n) (nI (m ^ n)) (nI c) (nI (v + 1)) (put I R2)) := by
      intro rr
      unfold fR_search_B50
      rw [if_neg (by rw [nI_leI (by omega) (by omega)]; omega), sm_ck_pos (am_t_pk (by decide)), sm_ck_pos (am_t_pk (by decide)), y1, Option.bind_some]
      dsimp only
      rw [bI_if, hL1, bd_eq, hL1, nI_1]
      by_cases a : anP w t q m n v
      · rw [if_pos a, cif_t a]
        by_cases b : c + 1 < L
        · rw [if_pos b, if_pos (by rw [nI_ltI (by omega) (by omega)]; exact b)]
        · rw [if_neg b, if_neg (by rw [nI_ltI (by omega) (by omega)]; exact b)]
      · rw [if_neg a, cif_f a]
    have rec' : ∀ c', c' ≤ v + 1 → ∃ R', fR_search_L50 P (fun l5 I => some (l5, I)) (fun l5 I => some (l5, I)) fu (am_pk 311 0 7) (am_pk 36 0 11) (nI L) (nI n) (nI (m ^ n)) (nI c') (nI (v + 1)) (put I R2) = some (nI (srF (anP w t q m n) L d (v + 1) c').1, put I R') ∧ (c' < L → L ≤ (srF (anP w t q m n) L d (v + 1) c').1 → ∀ k, k < n → R' 313 k = nI (dgF m n (srF (anP w t q m n) L d (v + 1) c').2 k)) ∧ ∀ e, (e < 36 ∨ 65 ≤ e) → e ≠ 307 → e ≠ 313 → R' e = R e := by
      intro c' hc'
      obtain ⟨R', s1, s2, s3⟩ := x_schL hS hw hn hL hq d (v + 1) fu c' R2 (dwN w q m n v) (by omega) (by omega) hc' c2 (dwN_s hw hq).1 (fun k hk => by rw [z4 312 (by decide)]; exact t1.1 k hk) (fun hh => z2 hh)
      exact ⟨R', s1, s2, fun e e1 e2 e3 => by rw [s3 e e1 e2 e3, f2 e e1 e2 e3]⟩
    show ∃ R', fR_search_B50 _ _ _ _ _ _ _ _ _ _ _ _ = some (nI (cif (anP w t q m n v) (if c + 1 < L then srF (anP w t q m n) L d (v + 1) (c + 1) else (c + 1, v)) (srF (anP w t q m n) L d (v + 1) c)).1, put I R') ∧ (c < L → L ≤ (cif (anP w t q m n v) (if c + 1 < L then srF (anP w t q m n) L d (v + 1) (c + 1) else (c + 1, v)) (srF (anP w t q m n) L d (v + 1) c)).1 → ∀ k, k < n → R' 313 k = nI (dgF m n (cif (anP w t q m n v) (if c + 1 < L then srF (anP w t q m n) L d (v + 1) (c + 1) else (c + 1, v)) (srF (anP w t q m n) L d (v + 1) c)).2 k)) ∧ _
    rw [run]
    by_cases a : anP w t q m n v
    · rw [cif_t a, cif_t a]
      by_cases b : c + 1 < L
      · rw [if_pos b, if_pos b]
        obtain ⟨R', s1, s2, s3⟩ := rec' (c + 1) (by omega)
        exact ⟨R', s1, fun _ => s2 b, s3⟩
      · rw [if_neg b, if_neg b]
        exact ⟨R1, rfl, fun _ _ k hk => t1.2 k hk, fun e e1 e2 e3 => y3 e (by omega) e2⟩
    · rw [cif_f a, cif_f a]
      exact rec' c (by omega)
theorem x_schP (hS : SP P) (h : CW I R P 36 w t m nb ns ne) {n L : Nat} {ex : Nat → Nat → Int32 → Int32 → Int32 → am_M → Option (Int32 × am_M)} : ∀ (d i fu : Nat), d < fu → i + d = n → n ≤ 3 → fR_search_L23 P ex fu (am_pk 311 0 7) (am_pk 36 0 11) (nI L) (nI n) (nI (m ^ i)) (nI i) (put I R) = ex (am_pk 311 0 7) (am_pk 36 0 11) (nI L) (nI n) (nI (m ^ n)) (put I R)
  | 0, i, fu, h1, h2, h3 => by
    obtain ⟨fu, rfl⟩ : ∃ n', fu = n' + 1 := ⟨fu - 1, by omega⟩
    have e : i = n := by omega
    subst e
    show fR_search_B23 _ _ _ _ _ _ _ _ _ _ = _
    unfold fR_search_B23
    rw [if_pos (by rw [nI_leI (by omega) (by omega)]; omega)]
  | d + 1, i, fu, h1, h2, h3 => by
    obtain ⟨fu, rfl⟩ : ∃ n', fu = n' + 1 := ⟨fu - 1, by omega⟩
    show fR_search_B23 _ _ _ _ _ _ _ _ _ _ = _
    unfold fR_search_B23
    rw [if_neg (by rw [nI_leI (by omega) (by omega)]; omega), sm_ck_pos (am_t_pk (by decide)), bd_eq, bd_eq, put_rd (sc_w0 h.1), h.c0, pk_mul, nI_1, ← Nat.pow_succ]
    exact x_schP hS h d (i + 1) fu (by omega) (by omega) h3
theorem sm_min3 {n : Nat} (hn : n ≤ 3) : sm_min (nI n) 3 = nI n := by
  unfold sm_min
  rw [if_neg (by rw [show (3 : Int32) = nI 3 from rfl, nI_ltI (by decide) (by omega)]; omega)]
theorem x_search (hS : SP P) (h : CW I R P 36 w t m nb ns ne) {p : Nat × (Nat → Nat)} (hn : p.1 ≤ 3) {L : Nat} (hL : L < 2000000) (h0 : 0 < L) (hp : rsI ns p) (hH : rsH R 312 311 2 p) : ∃ R', fR_search P (am_pk 311 0 7) (am_pk 36 0 11) (nI L) (put I R) = some (nI (srF (anP w t p.2 m p.1) L (m ^ p.1) 0 0).1, put I R') ∧ (L ≤ (srF (anP w t p.2 m p.1) L (m ^ p.1) 0 0).1 → ∀ k, k < p.1 → R' 313 k = nI (dgF m p.1 (srF (anP w t p.2 m p.1) L (m ^ p.1) 0 0).2 k)) ∧ ∀ e, (e < 36 ∨ 65 ≤ e) → e ≠ 307 → e ≠ 313 → R' e = R e := by
  have hle := h.le
  have hpw := pw_le (m := m) (n := p.1) hle.2.2.2.2 hn (by omega)
  have ef : ∀ c, c ≠ 313 → am_set R 313 (fun i => if i < 3 then 0 else R 313 i) c = R c := fun c hc => by unfold am_set; funext j; rw [if_neg hc]
  have e3 : am_set R 313 (fun i => if i < 3 then 0 else R 313 i) 313 = fun i => if i < 3 then 0 else R 313 i := by unfold am_set; funext j; rw [if_pos rfl]
  have h1 : CW I (am_set R 313 (fun i => if i < 3 then 0 else R 313 i)) P 36 w t m nb ns ne := h.fr (fun c c1 c2 => ef c (by omega)) (fun c hc => ef c (by omega))
  obtain ⟨R', y1, y2, y3⟩ := x_schL hS h.2.2.1 hn hL hp.ok (m ^ p.1) 0 sm_fu 0 _ w (sm_fu_lt (by omega)) (by omega) (Nat.le_refl _) h1 (fun _ _ _ => rfl) (fun k hk => by rw [ef 312 (by decide)]; exact hH.2 k hk) (fun _ k hk => by
    rw [e3, dgF_0]
    show (if k < 3 then (0 : Int32) else _) = 0
    rw [if_pos (by omega)])
  refine ⟨R', ?_, y2 h0, fun e e1 e2 e4 => by rw [y3 e e1 e2 e4, ef e e4]⟩
  unfold fR_search
  rw [sm_ck_pos (am_t_pk (by decide)), put_rd sc_311, hH.1, bd_eq, sm_min3 hn, sp_311_3 hS, x_fill sc_313, Option.bind_some]
  refine Eq.trans (x_schP hS h1 p.1 0 sm_fu (sm_fu_lt (by omega)) (by omega) hn) ?_
  exact y1
end Sch
