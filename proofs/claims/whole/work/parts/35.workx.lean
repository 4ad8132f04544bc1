section WorkX2
variable {I : am_M} {P : am_Q}
theorem x_workL (hS : SP P) {R0 : am_M} {lp cc nc ce bc l e : Nat} {p q a b h m : Int32} {ex : Nat → am_M → Option (Int32 × am_M)} (hlp : am_t lp = 4) (hP0 : P lp 0 = am_pk cc nc 20) (hnc : nc < 16384) (hP2 : P lp 2 = am_pk ce 4 20) (hoc : okcl cc) (hoe : okcl ce) (hl : l < 4) (hend : put I R0 (am_pk ce 4 20) l = nI e) (hbc : sc bc 0 1) (hp : R0 bc 1 = p) (hq : R0 bc 2 = q) (ha : R0 bc 3 = a) (hb : R0 bc 4 = b) (hm : 1 ≤ m) (he : e ≤ nc) :
    ∀ (cs : List Nat) (n i : Nat) (st : List Int32) (R : am_M), cs.length < n → rpn cs st.length → st.length ≤ 12 → stk R 307 st → (∀ v ∈ st, 0 ≤ v ∧ v < m) → (∀ c, c ≠ 307 → R c = R0 c) → (∀ k (hk : k < cs.length), put I R0 (am_pk cc nc 20) (i + k) = nI cs[k]) → i + cs.length = e →
      ∃ R', fK_work_L45 P ex n (am_pk 306 0 6) (am_pk bc 0 1) (nI l) h m lp (nI st.length) (nI i) (put I R) = ex (am_pk 306 0 6) (put I R') ∧ (∀ c, c ≠ 307 → R' c = R0 c) ∧ stk R' 307 (evF (vlF p q a b h m) m cs st) := by
  intro cs
  induction cs with
  | nil =>
    intro n i st R hn hr h12 hst hge hR hcs hie
    obtain ⟨n, rfl⟩ : ∃ n', n = n' + 1 := ⟨n - 1, by omega⟩
    have hie : i = e := hie
    have hok : ∀ c n k, n < 16384 → okcl c → put I R (am_pk c n 20) k = put I R0 (am_pk c n 20) k := put_okcl (fun c hc => hR c (by omega))
    refine ⟨R, ?_, hR, hst⟩
    show fK_work_B45 P ex _ _ _ _ _ _ _ _ _ _ = _
    unfold fK_work_B45
    rw [hP2, nI_clamp (show l < 2 ^ 31 by omega), sm_ck_pos hlp, sm_ck_pos (sm_in_nI (by decide) hl), hok _ _ _ (by decide) hoe, hend, if_pos (by rw [nI_leI (by omega) (by omega)]; omega)]
  | cons c cs ih =>
    intro n i st R hn hr h12 hst hge hR hcs hie
    obtain ⟨n, rfl⟩ : ∃ n', n = n' + 1 := ⟨n - 1, by omega⟩
    have hlen : (c :: cs).length = cs.length + 1 := rfl
    rw [hlen] at hn hie
    have hok : ∀ c n k, n < 16384 → okcl c → put I R (am_pk c n 20) k = put I R0 (am_pk c n 20) k := put_okcl (fun c hc => hR c (by omega))
    have hc0 : put I R0 (am_pk cc nc 20) i = nI c := hcs 0 (by rw [hlen]; omega)
    have hrest : ∀ k (hk : k < cs.length), put I R0 (am_pk cc nc 20) (i + 1 + k) = nI cs[k] := by
      intro k hk
      have := hcs (k + 1) (by rw [hlen]; omega)
      rw [show i + 1 + k = i + (k + 1) by omega, this]; rfl
    have hbc307 : bc ≠ 307 := fun z => by rw [z] at hbc; exact absurd hbc.2.2 (by decide)
    show ∃ R', fK_work_B45 P ex _ _ _ _ _ _ _ _ _ _ = _ ∧ _
    unfold fK_work_B45
    rw [hP2, hP0, nI_clamp (show l < 2 ^ 31 by omega), nI_clamp (show i < 2 ^ 31 by omega), sm_ck_pos hlp, sm_ck_pos (sm_in_nI (by decide) hl), hok _ _ _ (by decide) hoe, hend, if_neg (by rw [nI_leI (by omega) (by omega)]; omega), sm_ck_pos (sm_in_nI hnc (by omega)), hok _ _ _ hnc hoc, hc0]
    simp only [sm_bd]
    unfold rpn at hr
    by_cases hc : c < 110
    · rw [if_pos hc] at hr
      obtain ⟨r1, r2, r3⟩ := hr
      rw [if_neg (by rw [show (110 : Int32) = nI 110 from rfl, nI_leI (by decide) (by omega)]; omega), sm_ck_pos (am_t_pk (by decide)), sp_306_0 hS, sm_ck_pos (by rw [am_t_pk (by decide)]; decide), am_n_pk (by decide) (by decide), if_neg (by rw [show Int32.ofNat 16 = nI 16 from rfl, nI_leI (by decide) (by omega)]; omega), sm_ck_pos (am_t_pk (by decide))]
      have hv := h_valueOf (P := P) (M := put I R) (c := c) (bc := bc) (h := h) (p := p) (q := q) (a := a) (b := b) r1 (by rw [put_rd hbc, hR _ hbc307]; exact hp) (by rw [put_rd hbc, hR _ hbc307]; exact hq) (by rw [put_rd hbc, hR _ hbc307]; exact ha) (by rw [put_rd hbc, hR _ hbc307]; exact hb) hm
      rw [← Option.bind_assoc, hv, Option.bind_some, sm_ck_pos (sm_iw_nI (by decide) (by decide) (by omega)), nI_clamp (show st.length < 2 ^ 31 by omega), put_up sc_307, nI_1]
      unfold fK_work_J153
      simp only [sm_bd]
      rw [nI_1]
      have := ih n (i + 1) (vlF p q a b h m c :: st) (am_up R 307 st.length (vlF p q a b h m c)) (by omega) r3 (by simp; omega) (stk_push hst) (fun v hv => by
        rcases List.mem_cons.mp hv with rfl | hv
        · exact partF_rg hm
        · exact hge v hv) (fun c' hc' => by funext k; rw [am_up_ne hc', hR c' hc']) hrest (by omega)
      have e1 : evF (vlF p q a b h m) m (c :: cs) st = evF (vlF p q a b h m) m cs (vlF p q a b h m c :: st) := by
        show (if c < 110 then _ else _) = _
        rw [if_pos hc]
      rw [e1]
      exact this
    · rw [if_neg hc] at hr
      obtain ⟨r1, r2, r3⟩ := hr
      obtain ⟨y, x, r, rfl⟩ : ∃ y x r, st = y :: x :: r := by
        match st, r2 with
        | y :: x :: r, _ => exact ⟨y, x, r, rfl⟩
      have hsl : (y :: x :: r).length = r.length + 1 + 1 := rfl
      obtain ⟨j1, j2, j3⟩ := stk_join (v := jnF m c x y) hst
      rw [hsl] at r2 r3 h12 ⊢
      have hr12 : r.length < 12 := by omega
      have hx0 : 0 ≤ x ∧ x < m := hge x (by simp)
      have hy0 : 0 ≤ y := (hge y (by simp)).1
      rw [if_pos (by rw [show (110 : Int32) = nI 110 from rfl, nI_leI (by decide) (by omega)]; omega), if_neg (by rw [l_1, nI_leI (by omega) (by decide)]; omega), pk_m1, nI_pred, sp_306_0 hS, nI_clamp (show r.length < 2 ^ 31 by omega), nI_clamp (show r.length + 1 < 2 ^ 31 by omega), sm_ck_pos (am_t_pk (by decide)), sm_ck_pos (sm_in_nI (by decide) (by omega)), sm_ck_pos (sm_in_nI (by decide) (by omega)), put_rd sc_307, put_rd sc_307, j1, j2, ← Option.bind_assoc, h_joined (by omega) r1 hm hx0 hy0, Option.bind_some, sm_ck_pos (sm_iw_nI (by decide) (by decide) (by omega)), put_up sc_307]
      unfold fK_work_J153
      simp only [sm_bd]
      rw [nI_1]
      have := ih n (i + 1) (jnF m c x y :: r) (am_up R 307 r.length (jnF m c x y)) (by omega) (by show rpn cs (r.length + 1); rw [show r.length + 1 = r.length + 1 + 1 - 1 by omega]; exact r3) (by simp; omega) j3 (fun v hv => by
        rcases List.mem_cons.mp hv with rfl | hv
        · exact jnF_rg hm hx0
        · exact hge v (by simp [hv])) (fun c' hc' => by funext k; rw [am_up_ne hc', hR c' hc']) hrest (by omega)
      have e1 : evF (vlF p q a b h m) m (c :: cs) (y :: x :: r) = evF (vlF p q a b h m) m cs (jnF m c x y :: r) := by
        show (if c < 110 then _ else _) = _
        rw [if_neg hc]
      rw [e1]
      exact this
theorem rpn_len : ∀ (cs : List Nat) (st : List Int32) (vl : Nat → Int32) (m : Int32), rpn cs st.length → (evF vl m cs st).length = 1
  | [], st, vl, m, h => h
  | c :: cs, st, vl, m, h => by
    unfold rpn at h
    show (if c < 110 then _ else _ : List Int32).length = 1
    by_cases hc : c < 110
    · rw [if_pos hc] at h ⊢
      exact rpn_len cs (vl c :: st) vl m h.2.2
    · rw [if_neg hc] at h ⊢
      match st, h with
      | y :: x :: r, h => exact rpn_len cs (jnF m c x y :: r) vl m h.2.2
/-- the class's work: a letter of a box by its text -/
theorem x_work (hS : SP P) {R : am_M} {lp bc l : Nat} {t : Nat → List Nat} {h m : Int32} (hl : l < 4) (hbc : sc bc 0 1) (hlp : P (am_pk bc 0 1) 10 = lp) (ht : lnr (put I R) P lp t) (hw : wft t) (hm : 1 ≤ m) :
    ∃ R', fK_work P (am_pk 306 0 6) (am_pk bc 0 1) (nI l) h m (put I R) = some (wkF t l (R bc 1) (R bc 2) (R bc 3) (R bc 4) h m, put I R') ∧ ∀ c, c ≠ 307 → R' c = R c := by
  obtain ⟨h0, cc, nc, cs, ce, h1, h2, h3, h4, ⟨o1, o2, o3⟩, h5⟩ := ht
  unfold fK_work wkF
  simp only [sm_bd]
  rw [sm_ck_pos (am_t_pk (by decide)), hlp, sm_ck_pos h0]
  unfold fL_has
  rw [sm_ck_pos h0, h3, nI_clamp (show l < 2 ^ 31 by omega), sm_ck_pos (sm_in_nI (by decide) hl)]
  by_cases e : t l = []
  · rw [if_pos ((h5 l hl).1 e), Option.bind_some, if_neg (by decide), if_pos e, put_rd hbc, put_rd hbc]
    refine ⟨R, ?_, fun _ _ => rfl⟩
    rcases (show l = 0 ∨ l = 1 ∨ l = 2 ∨ l = 3 by omega) with rfl | rfl | rfl | rfl <;> rfl
  · obtain ⟨s, g1, g2, g3, g4⟩ := (h5 l hl).2 e
    have hwl := (hw l hl).resolve_left e
    have hs : s < 2 ^ 31 := by omega
    rw [g1, if_neg (nI_pos hs), Option.bind_some, if_pos (by decide), if_neg e, sm_ck_pos (sm_in_nI (by decide) hl)]
    obtain ⟨R', q1, q2, q3⟩ := x_workL (I := I) (h := h) hS (R0 := R) (ex := fun l0 I => sm_ck (am_t l0 = 6) <| sm_ck (sm_in (P l0 0) 0) <| some (I (P l0 0) (0 : Int32).toNatClampNeg, I)) h0 h1 h2 h4 o1 o3 hl g2 hbc rfl rfl rfl rfl hm g3 (t l) sm_fu s [] R (sm_fu_lt (by omega)) hwl.1 (by decide) (fun k hk => absurd hk (by simp)) (fun v hv => absurd hv (by simp)) (fun _ _ => rfl) g4 rfl
    refine ⟨R', ?_, q2⟩
    refine q1.trans ?_
    rw [sm_ck_pos (am_t_pk (by decide)), sp_306_0 hS, sm_ck_pos (inl l_0 (by decide) (by decide)), cl_0, put_rd sc_307]
    have hlen := rpn_len (t l) [] (vlF (R bc 1) (R bc 2) (R bc 3) (R bc 4) h m) m hwl.1
    generalize evF (vlF (R bc 1) (R bc 2) (R bc 3) (R bc 4) h m) m (t l) [] = z at hlen q3
    match z, hlen with
    | [v], _ =>
      rw [q3 0 (by simp)]; rfl
end WorkX2
