/-! ===== numbers of the whole ===== -/
theorem partF_rng {v : Int32} {m : Nat} (h1 : 1 ≤ m) (h2 : m < 1073741824) : 0 ≤ partF v (nI m) ∧ partF v (nI m) < nI m := by
  have hm : (nI m).toInt = (m : Int) := nI_toInt (by omega)
  have hb := tmod_bounds (a := v.toInt) (M := (m : Int)) (by omega)
  have hr := rem_i v (nI m)
  rw [hm] at hr
  rw [i_le, i_lt, hm, i_0]
  unfold partF
  split
  · rename_i h
    rw [i_le, i_0] at h
    omega
  · rename_i h
    rw [i_le, i_0] at h
    rw [addI (by omega) (by omega), hm]
    omega
theorem partF_fix {p : Int32} {m : Nat} (h2 : m < 1073741824) (h : 0 ≤ p ∧ p < nI m) : partF p (nI m) = p := by
  have hm : (nI m).toInt = (m : Int) := nI_toInt (by omega)
  rw [i_le, i_lt, hm, i_0] at h
  have hr := rem_i p (nI m)
  rw [hm, Int.tmod_eq_emod_of_nonneg h.1, Int.emod_eq_of_lt h.1 h.2] at hr
  have e : sm_rem p (nI m) = p := i_eq.mpr hr
  unfold partF
  rw [e, if_pos (by rw [i_le, i_0]; exact h.1)]
theorem partF_ge {x y : Int32} (hy : 1 ≤ y) (hx : 0 ≤ x) : 0 ≤ partF x y := by
  rw [partF_rem hx hy]
  rw [i_le, i_0] at hx
  rw [i_le] at hy
  have hy1 : 1 ≤ y.toInt := hy
  rw [i_le, i_0, rem_i, Int.tmod_eq_emod_of_nonneg hx]; exact Int.emod_nonneg _ (by omega)
theorem jnF_ge {m c : Nat} {x y : Int32} (h1 : 1 ≤ m) (h2 : m < 1073741824) (hx : 0 ≤ x) : 0 ≤ jnF (nI m) c x y := by
  unfold jnF
  split
  · exact (partF_rng h1 h2).1
  · split
    · exact (partF_rng h1 h2).1
    · split
      · exact (partF_rng h1 h2).1
      · split
        · rename_i hy; exact partF_ge hy hx
        · decide
theorem vlF_ge {m c : Nat} {p q a b h : Int32} (h1 : 1 ≤ m) (h2 : m < 1073741824) : 0 ≤ vlF p q a b h (nI m) c := (partF_rng h1 h2).1
theorem le1 {m : Nat} (h1 : 1 ≤ m) (h2 : m < 1073741824) : 1 ≤ nI m := by rw [l_1, nI_leI (by decide) (by omega)]; exact h1
/-! ===== the reference's text ===== -/
def cdF (c : Nat) : Int32 × Int32 := if c < 100 then (0, nI c) else if c < 110 then (1, nI (c - 100)) else (2, if c = 110 then 43 else if c = 111 then 45 else if c = 112 then 42 else 37)
/-- the reference's rows hold the text t of box x -/
def tmr (A : am_M) (x : Nat) (t : Nat → List Nat) : Prop := ∀ l, l < 4 → ∃ f, A 342 (4 * x + l) = nI f ∧ A 343 (4 * x + l) = nI (f + (t l).length) ∧ f + (t l).length ≤ 80 ∧ ∀ k (hk : k < (t l).length), A 344 (80 * x + (f + k)) = (cdF (t l)[k]).1 ∧ A 345 (80 * x + (f + k)) = (cdF (t l)[k]).2
section WorkM
variable {I : am_M} {P : am_Q}
theorem m_workL (hS : SP P) {R0 : am_M} {x l e mm : Nat} {p q a b h : Int32} {ex : Nat → am_M → Option (Int32 × am_M)} (hx : x < 7) (hl : l < 4) (h1 : 1 ≤ mm) (h2 : mm < 1073741824) (hW : R0 332 5 = nI mm) (hend : R0 343 (4 * x + l) = nI e) (he : e ≤ 80) (hp : 0 ≤ p ∧ p < nI mm) (hq : 0 ≤ q ∧ q < nI mm) (ha : 0 ≤ a ∧ a < nI mm) (hb : 0 ≤ b ∧ b < nI mm) :
    ∀ (cs : List Nat) (n i : Nat) (st : List Int32) (R : am_M), cs.length < n → rpn cs st.length → st.length ≤ 12 → stk R 358 st → (∀ v ∈ st, 0 ≤ v) → (∀ c, c ≠ 358 → R c = R0 c) → (∀ k (hk : k < cs.length), R0 344 (80 * x + (i + k)) = (cdF cs[k]).1 ∧ R0 345 (80 * x + (i + k)) = (cdF cs[k]).2) → i + cs.length = e →
      ∃ R', fM_worth_L55 P ex n (am_pk 330 0 13) (nI x) h p q a b (nI (4 * x + l)) (nI st.length) (nI (80 * x + i)) (put I R) = ex (am_pk 330 0 13) (put I R') ∧ (∀ c, c ≠ 358 → R' c = R0 c) ∧ stk R' 358 (evF (vlF p q a b h (nI mm)) (nI mm) cs st) := by
  intro cs
  induction cs with
  | nil =>
    intro n i st R hn hr h12 hst hge hR hcs hie
    obtain ⟨n, rfl⟩ : ∃ n', n = n' + 1 := ⟨n - 1, by omega⟩
    have hie : i = e := hie
    refine ⟨R, ?_, hR, hst⟩
    show fM_worth_B55 P ex _ _ _ _ _ _ _ _ _ _ _ _ = _
    unfold fM_worth_B55
    rw [sp_330_12 hS, nI_clamp (show 4 * x + l < 2 ^ 31 by omega), sm_ck_pos (am_t_pk (by decide)), sm_ck_pos (sm_in_nI (by decide) (by omega)), put_rd sc_343, hR 343 (by decide), hend, l_80, pk_mul, nI_add, if_pos (by rw [nI_leI (by omega) (by omega)]; omega)]
  | cons c cs ih =>
    intro n i st R hn hr h12 hst hge hR hcs hie
    obtain ⟨n, rfl⟩ : ∃ n', n = n' + 1 := ⟨n - 1, by omega⟩
    have hlen : (c :: cs).length = cs.length + 1 := rfl
    rw [hlen] at hn hie
    obtain ⟨hc1, hc2⟩ : R0 344 (80 * x + i) = (cdF c).1 ∧ R0 345 (80 * x + i) = (cdF c).2 := hcs 0 (by rw [hlen]; omega)
    have hrest : ∀ k (hk : k < cs.length), R0 344 (80 * x + (i + 1 + k)) = (cdF cs[k]).1 ∧ R0 345 (80 * x + (i + 1 + k)) = (cdF cs[k]).2 := by
      intro k hk
      have := hcs (k + 1) (by rw [hlen]; omega)
      rw [show i + 1 + k = i + (k + 1) by omega]; exact this
    have hWR : R 332 5 = nI mm := by rw [hR 332 (by decide)]; exact hW
    have hpart : ∀ v, fM_part (put I R) P (am_pk 330 0 13) v = some (partF v (nI mm)) := fun v => m_part hS h1 h2 hWR
    show ∃ R', fM_worth_B55 P ex _ _ _ _ _ _ _ _ _ _ _ _ = _ ∧ _
    unfold fM_worth_B55
    rw [sp_330_12 hS, sp_330_13 hS, sp_330_14 hS, sp_330_30 hS, nI_clamp (show 4 * x + l < 2 ^ 31 by omega), nI_clamp (show 80 * x + i < 2 ^ 31 by omega), sm_ck_pos (am_t_pk (by decide)), sm_ck_pos (sm_in_nI (by decide) (by omega)), put_rd sc_343, put_rd sc_344, put_rd sc_345, hR 343 (by decide), hR 344 (by decide), hR 345 (by decide), hend, hc1, hc2, l_80, pk_mul, nI_add, if_neg (by rw [nI_leI (by omega) (by omega)]; omega), sm_ck_pos (sm_in_nI (by decide) (by omega))]
    simp only [sm_bd, hpart, Option.bind_some]
    rw [sm_ck_pos (sm_in_nI (by decide) (by omega))]
    have fin : ∀ (v : Int32) (st' : List Int32) (R1 : am_M), evF (vlF p q a b h (nI mm)) (nI mm) (c :: cs) st = evF (vlF p q a b h (nI mm)) (nI mm) cs st' → rpn cs st'.length → st'.length ≤ 12 → stk R1 358 st' → (∀ v ∈ st', 0 ≤ v) → (∀ c, c ≠ 358 → R1 c = R0 c) → ∃ R', fM_worth_J285 P (fM_worth_L55 P ex n) (am_pk 330 0 13) (nI x) h p q a b (nI (4 * x + l)) (nI st'.length) (nI (80 * x + i)) (put I R1) = ex (am_pk 330 0 13) (put I R') ∧ (∀ c, c ≠ 358 → R' c = R0 c) ∧ stk R' 358 (evF (vlF p q a b h (nI mm)) (nI mm) (c :: cs) st) := by
      intro v st' R1 e1 e2 e3 e4 e5 e6
      unfold fM_worth_J285
      simp only [sm_bd]
      rw [nI_1, e1]
      exact ih n (i + 1) st' R1 (by omega) e2 e3 e4 e5 e6 hrest (by omega)
    have hin344 : sm_in (am_pk 344 560 20) (nI (80 * x + i)) := sm_in_nI (by decide) (by omega)
    have hR1 : ∀ v, ∀ c', c' ≠ 358 → am_up R 358 st.length v c' = R0 c' := fun v c' hc' => by funext k; rw [am_up_ne hc', hR c' hc']
    unfold rpn at hr
    by_cases hc : c < 110
    · rw [if_pos hc] at hr
      obtain ⟨r1, r2, r3⟩ := hr
      have hiw : sm_iw (am_pk 358 80 20) (nI st.length) := sm_iw_nI (by decide) (by decide) (by omega)
      have push : ∀ v, vlF p q a b h (nI mm) c = v → ∃ R', fM_worth_J285 P (fM_worth_L55 P ex n) (am_pk 330 0 13) (nI x) h p q a b (nI (4 * x + l)) (nI st.length + 1) (nI (80 * x + i)) (am_up (put I R) (am_pk 358 80 20) (nI st.length).toNatClampNeg v) = ex (am_pk 330 0 13) (put I R') ∧ (∀ c, c ≠ 358 → R' c = R0 c) ∧ stk R' 358 (evF (vlF p q a b h (nI mm)) (nI mm) (c :: cs) st) := by
        intro v hv
        rw [nI_1, nI_clamp (show st.length < 2 ^ 31 by omega), put_up sc_358]
        refine fin v (v :: st) _ ?_ r3 (by simp; omega) (stk_push hst) ?_ (hR1 v)
        · show (if c < 110 then _ else _) = _
          rw [if_pos hc, hv]
        · intro u hu
          rcases List.mem_cons.mp hu with rfl | hu
          · rw [← hv]; exact vlF_ge h1 h2
          · exact hge u hu
      have push2 : ∀ v, vlF p q a b h (nI mm) c = v → ∃ R', fM_worth_J175 P (fM_worth_L55 P ex n) (am_pk 330 0 13) (nI x) h p q a b (nI (4 * x + l)) (nI st.length) (nI (80 * x + i)) v (nI st.length) (am_pk 358 80 20) (put I R) = ex (am_pk 330 0 13) (put I R') ∧ (∀ c, c ≠ 358 → R' c = R0 c) ∧ stk R' 358 (evF (vlF p q a b h (nI mm)) (nI mm) (c :: cs) st) := by
        intro v hv
        unfold fM_worth_J175
        simp only [sm_bd]
        rw [sm_ck_pos hiw]
        exact push v hv
      by_cases h100 : c < 100
      · have e1 : cdF c = (0, nI c) := by unfold cdF; rw [if_pos h100]
        rw [e1]
        simp only []
        rw [if_neg (by decide), sm_ck_pos hiw]
        refine push _ ?_
        unfold vlF
        rw [if_neg (by omega), if_neg (by omega), if_neg (by omega), if_neg (by omega), if_neg (by omega)]
      · have e1 : cdF c = (1, nI (c - 100)) := by unfold cdF; rw [if_neg h100, if_pos hc]
        rw [e1]
        simp only []
        rw [if_pos (by decide), sm_ck_pos hin344, if_neg (by decide)]
        rcases (show c = 100 ∨ c = 101 ∨ c = 102 ∨ c = 103 ∨ c = 104 by omega) with rfl | rfl | rfl | rfl | rfl
        · rw [if_neg (by decide)]
          exact push2 p (partF_fix h2 hp)
        · rw [if_pos (by decide), if_neg (by decide)]
          exact push2 q (partF_fix h2 hq)
        · rw [if_pos (by decide), if_pos (by decide), if_neg (by decide)]
          exact push2 a (partF_fix h2 ha)
        · rw [if_pos (by decide), if_pos (by decide), if_pos (by decide), if_neg (by decide)]
          exact push2 b (partF_fix h2 hb)
        · rw [if_pos (by decide), if_pos (by decide), if_pos (by decide), if_pos (by decide)]
          exact push2 _ rfl
    · rw [if_neg hc] at hr
      obtain ⟨r1, r2, r3⟩ := hr
      obtain ⟨y, z, r, rfl⟩ : ∃ y z r, st = y :: z :: r := by
        match st, r2 with
        | y :: z :: r, _ => exact ⟨y, z, r, rfl⟩
      have hsl : (y :: z :: r).length = r.length + 1 + 1 := rfl
      have j0 := stk_join (v := (0 : Int32)) hst
      have hz0 : 0 ≤ z := hge z (by simp)
      have hy0 : 0 ≤ y := hge y (by simp)
      have pj : ∀ v, jnF (nI mm) c z y = v → ∃ R', fM_worth_J284 P (fM_worth_L55 P ex n) (am_pk 330 0 13) (nI x) h p q a b (nI (4 * x + l)) (nI (r.length + 1)) (nI (80 * x + i)) v (nI r.length) (am_pk 358 80 20) (put I R) = ex (am_pk 330 0 13) (put I R') ∧ (∀ c, c ≠ 358 → R' c = R0 c) ∧ stk R' 358 (evF (vlF p q a b h (nI mm)) (nI mm) (c :: cs) (y :: z :: r)) := by
        intro v hv
        unfold fM_worth_J284
        simp only [sm_bd]
        rw [sm_ck_pos (sm_iw_nI (by decide) (by decide) (by simp at h12; omega)), nI_clamp (show r.length < 2 ^ 31 by simp at h12; omega), put_up sc_358]
        refine fin v (v :: r) _ ?_ ?_ ?_ (stk_join (v := v) hst).2.2 ?_ (fun c' hc' => by funext k; rw [am_up_ne hc', hR c' hc'])
        · show (if c < 110 then _ else _) = _
          rw [if_neg hc, ← hv]
        · show rpn cs (r.length + 1)
          rw [hsl] at r3; exact r3
        · simp at h12 ⊢; omega
        · intro u hu
          rcases List.mem_cons.mp hu with rfl | hu
          · rw [← hv]; exact jnF_ge h1 h2 hz0
          · exact hge u (by simp [hu])
      rw [hsl] at h12 ⊢
      have e1 : cdF c = (2, if c = 110 then 43 else if c = 111 then 45 else if c = 112 then 42 else 37) := by unfold cdF; rw [if_neg (by omega), if_neg hc]
      rw [e1]
      simp only []
      rw [if_pos (by decide), sm_ck_pos hin344, if_pos (by decide), pk_m1, nI_pred, sm_ck_pos (sm_in_nI (by decide) (by omega)), nI_clamp (show r.length < 2 ^ 31 by omega), nI_clamp (show r.length + 1 < 2 ^ 31 by omega), put_rd sc_358, put_rd sc_358, j0.1, j0.2.1, sm_ck_pos (sm_in_nI (by decide) (by omega))]
      rcases (show c = 110 ∨ c = 111 ∨ c = 112 ∨ c = 113 by omega) with rfl | rfl | rfl | rfl
      · rw [if_neg (by decide)]
        exact pj _ rfl
      · rw [if_pos (by decide), if_neg (by decide)]
        exact pj _ rfl
      · rw [if_pos (by decide), if_pos (by decide), if_neg (by decide)]
        exact pj _ rfl
      · rw [if_pos (by decide), if_pos (by decide), if_pos (by decide)]
        by_cases hy : y = 0
        · rw [if_neg (fun w => w hy)]
          refine pj _ ?_
          unfold jnF
          rw [if_neg (by decide), if_neg (by decide), if_neg (by decide), if_neg (by rw [hy]; decide)]
        · rw [if_pos hy, sm_ck_pos hy]
          refine pj _ ?_
          have hy1 : 1 ≤ y := by
            rw [i_le] at hy0 ⊢
            have : y.toInt ≠ 0 := fun e => hy (i_eq.mpr e)
            have e0 : (0 : Int32).toInt = 0 := rfl
            have e1 : (1 : Int32).toInt = 1 := rfl
            omega
          unfold jnF
          rw [if_neg (by decide), if_neg (by decide), if_neg (by decide), if_pos hy1]
          exact partF_rem hz0 hy1
end WorkM
