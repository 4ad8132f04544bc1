section WorkM2
variable {I : am_M} {P : am_Q}
theorem m_worth (hS : SP P) {R : am_M} {x l mm : Nat} {t : Nat → List Nat} {p q a b h : Int32} (hx : x < 7) (hl : l < 4) (h1 : 1 ≤ mm) (h2 : mm < 1073741824) (hW : R 332 5 = nI mm) (ht : tmr R x t) (hw : wft t) (hp : 0 ≤ p ∧ p < nI mm) (hq : 0 ≤ q ∧ q < nI mm) (ha : 0 ≤ a ∧ a < nI mm) (hb : 0 ≤ b ∧ b < nI mm) :
    ∃ R', fM_worth P (am_pk 330 0 13) (nI x) (nI l) h p q a b (put I R) = some (wkF t l p q a b h (nI mm), put I R') ∧ ∀ c, c ≠ 358 → R' c = R c := by
  obtain ⟨f, f1, f2, f3, f4⟩ := ht l hl
  unfold fM_worth wkF
  simp only [sm_bd]
  rw [show (4 : Int32) = nI 4 from rfl, pk_mul, nI_add, sp_330_11 hS, sp_330_12 hS, nI_clamp (show 4 * x + l < 2 ^ 31 by omega), put_rd sc_342, put_rd sc_343, f1, f2, sm_ck_pos (am_t_pk (by decide)), sm_ck_pos (sm_in_nI (by decide) (by omega)), sm_ck_pos (sm_in_nI (by decide) (by omega))]
  by_cases e : t l = []
  · rw [if_neg (by rw [e]; exact fun z => z rfl), if_pos e]
    refine ⟨R, ?_, fun _ _ => rfl⟩
    rcases (show l = 0 ∨ l = 1 ∨ l = 2 ∨ l = 3 by omega) with rfl | rfl | rfl | rfl <;> rfl
  · have hwl := (hw l hl).resolve_left e
    have hpos : 0 < (t l).length := List.length_pos_iff.mpr e
    rw [if_pos (by rw [nI_eq (by omega) (by omega)]; omega), sm_ck_pos (sm_in_nI (by decide) (by omega)), if_neg e, l_80, pk_mul, nI_add]
    obtain ⟨R', q1, q2, q3⟩ := m_workL (I := I) (h := h) hS (R0 := R) (e := f + (t l).length) (ex := fun l0 I => sm_ck (am_t l0 = 13) <| sm_ck (sm_in (P l0 30) 0) <| some (I (P l0 30) (0 : Int32).toNatClampNeg, I)) hx hl h1 h2 hW f2 f3 hp hq ha hb (t l) sm_fu f [] R (sm_fu_lt (by omega)) hwl.1 (by decide) (fun k hk => absurd hk (by simp)) (fun _ hv => by cases hv) (fun _ _ => rfl) f4 rfl
    refine ⟨R', ?_, q2⟩
    refine q1.trans ?_
    rw [sm_ck_pos (am_t_pk (by decide)), sp_330_30 hS, sm_ck_pos (inl l_0 (by decide) (by decide)), cl_0, put_rd sc_358]
    have hlen := rpn_len (t l) [] (vlF p q a b h (nI mm)) (nI mm) hwl.1
    generalize evF (vlF p q a b h (nI mm)) (nI mm) (t l) [] = z at hlen q3
    match z, hlen with
    | [v], _ =>
      rw [q3 0 (by simp)]; rfl
theorem m_out (hS : SP P) {R : am_M} {x o mm : Nat} {t : Nat → List Nat} (hx : x < 7) (ho : o < 2) (h1 : 1 ≤ mm) (h2 : mm < 1073741824) (hW : R 332 5 = nI mm) (ht : tmr R x t) (hw : wft t) (hp : 0 ≤ R 334 x ∧ R 334 x < nI mm) (hq : 0 ≤ R 335 x ∧ R 335 x < nI mm) (ha : 0 ≤ R 340 (2 * x) ∧ R 340 (2 * x) < nI mm) (hb : 0 ≤ R 340 (2 * x + 1) ∧ R 340 (2 * x + 1) < nI mm) :
    ∃ R', fM_out P (am_pk 330 0 13) (nI x) (nI o) (put I R) = some (wkF t (2 + o) (R 334 x) (R 335 x) (R 340 (2 * x)) (R 340 (2 * x + 1)) (R 332 3) (nI mm), put I R') ∧ ∀ c, c ≠ 358 → R' c = R c := by
  obtain ⟨R', q1, q2⟩ := m_worth (I := I) (h := R 332 3) hS hx (show 2 + o < 4 by omega) h1 h2 hW ht hw hp hq ha hb
  refine ⟨R', ?_, q2⟩
  unfold fM_out
  rw [sm_ck_pos (am_t_pk (by decide)), sp_330_1 hS, sp_330_3 hS, sp_330_4 hS, sp_330_9 hS, l_2, l_1, pk_mul, nI_add, nI_add, nI_clamp (show x < 2 ^ 31 by omega), nI_clamp (show 2 * x < 2 ^ 31 by omega), nI_clamp (show 2 * x + 1 < 2 ^ 31 by omega), cl_3, put_rd sc_332, put_rd sc_334, put_rd sc_335, put_rd sc_340, put_rd sc_340, sm_ck_pos (inl l_3 (by decide) (by decide)), sm_ck_pos (sm_in_nI (by decide) hx), sm_ck_pos (sm_in_nI (by decide) hx), sm_ck_pos (sm_in_nI (by decide) (by omega)), sm_ck_pos (sm_in_nI (by decide) (by omega)), q1, Option.bind_some]
/-- a seam's guess -/
def gsF (rule m s0 s1 s2 : Int32) : Int32 := if rule = 1 then partF ((2 * s0) - s1) m else if rule = 2 then partF (((3 * s0) - (3 * s1)) + s2) m else s0
theorem x_guess {R : am_M} {c : Nat} {rule m : Int32} (hc : sc c 0 8) (hm : 1 ≤ m) : fS_guessBy (put I R) P (am_pk c 0 8) rule m = some (gsF rule m (R c 4) (R c 5) (R c 6)) := by
  unfold fS_guessBy gsF
  rw [put_rd hc, put_rd hc, put_rd hc]
  have ht : am_t (am_pk c 0 8) = 8 := am_t_pk (by decide)
  by_cases h1 : rule = 1
  · rw [if_pos h1, if_pos h1, sm_ck_pos ht, h_restBy hm, Option.bind_some]
  · rw [if_neg h1, if_neg h1]
    by_cases h2 : rule = 2
    · rw [if_pos h2, if_pos h2, sm_ck_pos ht, h_restBy hm, Option.bind_some]
    · rw [if_neg h2, if_neg h2, sm_ck_pos ht]
theorem m_guess (hS : SP P) {R : am_M} {s mm : Nat} (hs : s < 14) (h1 : 1 ≤ mm) (h2 : mm < 1073741824) (hW : R 332 5 = nI mm) (hr : R 332 6 = 0 ∨ R 332 6 = 1 ∨ R 332 6 = 2) : fM_guessFor (put I R) P (am_pk 330 0 13) (nI s) = some (gsF (R 332 6) (nI mm) (R 348 s) (R 349 s) (R 350 s)) := by
  unfold fM_guessFor gsF
  rw [sm_ck_pos (am_t_pk (by decide)), sp_330_1 hS, sp_330_17 hS, sp_330_18 hS, sp_330_19 hS, cl_6, nI_clamp (show s < 2 ^ 31 by omega), put_rd sc_332, put_rd sc_348, put_rd sc_349, put_rd sc_350, sm_ck_pos (inl l_6 (by decide) (by decide)), m_part hS h1 h2 hW, m_part hS h1 h2 hW]
  have hi : ∀ c, sm_in (am_pk c 14 20) (nI s) := fun c => sm_in_nI (by decide) hs
  rcases hr with e | e | e
  · rw [e, if_neg (by decide), if_neg (by decide), if_neg (by decide), sm_ck_pos (hi _)]
  · rw [e, if_pos (by decide), sm_ck_pos (inl l_6 (by decide) (by decide)), if_neg (by decide), if_pos rfl, sm_ck_pos (hi _), sm_ck_pos (hi _), Option.bind_some]
  · rw [e, if_pos (by decide), sm_ck_pos (inl l_6 (by decide) (by decide)), if_pos (by decide), if_neg (by decide), if_pos rfl, sm_ck_pos (hi _), sm_ck_pos (hi _), sm_ck_pos (hi _), Option.bind_some]
end WorkM2
