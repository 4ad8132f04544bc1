/-! ===== small helpers of both sides ===== -/
theorem l_0 : (0 : Int32) = nI 0 := rfl
theorem l_1 : (1 : Int32) = nI 1 := rfl
theorem l_2 : (2 : Int32) = nI 2 := rfl
theorem l_3 : (3 : Int32) = nI 3 := rfl
theorem l_4 : (4 : Int32) = nI 4 := rfl
theorem l_5 : (5 : Int32) = nI 5 := rfl
theorem l_6 : (6 : Int32) = nI 6 := rfl
theorem l_7 : (7 : Int32) = nI 7 := rfl
theorem l_8 : (8 : Int32) = nI 8 := rfl
theorem l_9 : (9 : Int32) = nI 9 := rfl
theorem l_10 : (10 : Int32) = nI 10 := rfl
theorem l_11 : (11 : Int32) = nI 11 := rfl
theorem l_12 : (12 : Int32) = nI 12 := rfl
theorem l_13 : (13 : Int32) = nI 13 := rfl
theorem l_14 : (14 : Int32) = nI 14 := rfl
theorem l_15 : (15 : Int32) = nI 15 := rfl
theorem l_16 : (16 : Int32) = nI 16 := rfl
theorem l_17 : (17 : Int32) = nI 17 := rfl
theorem l_18 : (18 : Int32) = nI 18 := rfl
theorem l_19 : (19 : Int32) = nI 19 := rfl
theorem l_20 : (20 : Int32) = nI 20 := rfl
theorem l_21 : (21 : Int32) = nI 21 := rfl
theorem l_22 : (22 : Int32) = nI 22 := rfl
theorem l_23 : (23 : Int32) = nI 23 := rfl
theorem l_24 : (24 : Int32) = nI 24 := rfl
theorem l_25 : (25 : Int32) = nI 25 := rfl
theorem l_26 : (26 : Int32) = nI 26 := rfl
theorem l_27 : (27 : Int32) = nI 27 := rfl
theorem l_28 : (28 : Int32) = nI 28 := rfl
theorem l_29 : (29 : Int32) = nI 29 := rfl
theorem l_30 : (30 : Int32) = nI 30 := rfl
theorem l_31 : (31 : Int32) = nI 31 := rfl
theorem l_32 : (32 : Int32) = nI 32 := rfl
theorem l_33 : (33 : Int32) = nI 33 := rfl
theorem l_50 : (50 : Int32) = nI 50 := rfl
theorem l_80 : (80 : Int32) = nI 80 := rfl
theorem l_99 : (99 : Int32) = nI 99 := rfl
theorem l_100 : (100 : Int32) = nI 100 := rfl
theorem l_999 : (999 : Int32) = nI 999 := rfl
theorem l_1000 : (1000 : Int32) = nI 1000 := rfl
theorem inl {c n k : Nat} {x : Int32} (hx : x = nI k) (hn : n < 16384) (hk : k < n) : sm_in (am_pk c n 20) x := by rw [hx]; exact sm_in_nI hn hk
theorem iwl {c n k : Nat} {x : Int32} (hx : x = nI k) (hc : 2 ≤ c) (hn : n < 16384) (hk : k < n) : sm_iw (am_pk c n 20) x := by rw [hx]; exact sm_iw_nI hc hn hk
noncomputable def bI (c : Prop) : Int32 := @ite _ c (Classical.propDecidable c) 1 0
theorem bI_t {c : Prop} (h : c) : bI c = 1 := by unfold bI; rw [if_pos h]
theorem bI_f {c : Prop} (h : ¬ c) : bI c = 0 := by unfold bI; rw [if_neg h]
theorem bI_0 {c : Prop} : (bI c = 0) = ¬ c := by
  apply propext
  by_cases h : c
  · rw [bI_t h]; exact ⟨fun e => absurd e (by decide), fun e => absurd h e⟩
  · rw [bI_f h]; exact ⟨fun _ => h, fun _ => rfl⟩
theorem bI_01 {c : Prop} : sm_01 (bI c) := by
  by_cases h : c
  · rw [bI_t h]; exact Or.inr rfl
  · rw [bI_f h]; exact Or.inl rfl
theorem bI_c {c d : Prop} (h : c ↔ d) : bI c = bI d := by rw [propext h]
/-- two tests, one behind the other -/
theorem bI_if {ρ : Type} {c : Prop} {dc : Decidable (bI c = 0)} {x y : ρ} : @ite _ (bI c = 0) dc x y = @ite _ c (Classical.propDecidable c) y x := by
  by_cases h : c
  · rw [if_neg (by rw [bI_t h]; decide), if_pos h]
  · rw [if_pos (by rw [bI_f h]), if_neg h]
theorem bI_ifn {ρ : Type} {c : Prop} {dc : Decidable (¬ bI c = 0)} {x y : ρ} : @ite _ (¬ bI c = 0) dc x y = @ite _ c (Classical.propDecidable c) x y := by
  by_cases h : c
  · rw [if_pos (by rw [bI_t h]; decide), if_pos h]
  · rw [if_neg (by rw [bI_f h]; decide), if_neg h]
theorem i_nl {x y : Int32} : ¬ x < y ↔ y ≤ x := Int32.not_lt
theorem i_nle {x y : Int32} : ¬ x ≤ y ↔ y < x := Int32.not_le
theorem i_le {x y : Int32} : x ≤ y ↔ x.toInt ≤ y.toInt := Int32.le_iff_toInt_le
theorem i_lt {x y : Int32} : x < y ↔ x.toInt < y.toInt := Int32.lt_iff_toInt_lt
theorem i_0 : (0 : Int32).toInt = 0 := rfl
theorem i_eq {x y : Int32} : x = y ↔ x.toInt = y.toInt := ⟨fun h => by rw [h], fun h => Int32.toInt_inj.mp h⟩
theorem nI_m1 {n : Nat} (h : n < 1073741824) : (nI n - 1).toInt = (n : Int) - 1 := pk_sub_toInt (a := n) (b := 1) (by omega) (by decide)
theorem i_pred {v : Int32} {n : Nat} (h : n < 1073741824) : v ≤ nI n - 1 ↔ v < nI n := by
  rw [i_le, i_lt, nI_m1 h, nI_toInt (by omega)]; omega
theorem h_within {v lo hi : Int32} : fM_within v lo hi = some (bI (lo ≤ v ∧ v ≤ hi)) := by
  unfold fM_within
  split
  · rename_i h; rw [bI_f (fun z => absurd z.1 (i_nle.mpr h))]
  · rename_i h
    split
    · rename_i h2; rw [bI_f (fun z => absurd z.2 (i_nle.mpr h2))]
    · rename_i h2; rw [bI_t ⟨i_nl.mp h, i_nl.mp h2⟩]
theorem h_rng {v hi : Int32} : (if v < 0 then some 0 else if hi ≤ v then some 0 else some (1 : Int32)) = some (bI (0 ≤ v ∧ v < hi)) := by
  split
  · rename_i h; rw [bI_f (fun z => absurd z.1 (i_nle.mpr h))]
  · rename_i h
    split
    · rename_i h2; rw [bI_f (fun z => absurd z.2 (i_nl.mpr h2))]
    · rename_i h2; rw [bI_t ⟨i_nl.mp h, i_nle.mp h2⟩]
theorem h_isKind {v : Int32} : fX_isKind v = some (bI (0 ≤ v ∧ v < 6)) := h_rng
theorem h_isDoor {v : Int32} : fX_isDoor v = some (bI (0 ≤ v ∧ v < 2)) := h_rng
theorem h_isRule {v : Int32} : fX_isRule v = some (bI (0 ≤ v ∧ v < 3)) := h_rng
theorem h_isSheet {v : Int32} : fX_isSheet v = some (bI (0 ≤ v ∧ v < 4)) := h_rng
def partF (v m : Int32) : Int32 := if 0 ≤ sm_rem v m then sm_rem v m else sm_rem v m + m
theorem h_restBy {v m : Int32} (h : 1 ≤ m) : fX_restBy v m = some (partF v m) := by
  unfold fX_restBy
  rw [if_pos h, sm_ck_pos (fun e => by rw [e] at h; exact absurd h (by decide))]
  simp only [sm_bd, partF]
  split <;> rfl
section HelpR
variable {I R : am_M} {P : am_Q}
theorem x_found (hS : SP P) {v : Int32} {k : Nat} (hk : k < 7) (hv : (-1000001) - v = nI k) : fX_found P (am_pk 2 0 12) v (put I R) = some (v, put I (am_up R 329 k (R 329 k + 1))) := by
  unfold fX_found
  rw [hv]
  have h1 : ¬ nI k < 0 := nI_pos (by omega)
  have h2 : ¬ 7 ≤ nI k := by rw [l_7, nI_leI (by decide) (by omega)]; omega
  simp only [sm_bd]
  rw [if_neg h1, if_neg h2, sp_2_14 hS, nI_clamp (show k < 2 ^ 31 by omega), put_rd sc_329, put_up sc_329, sm_ck_pos (am_t_pk (by decide)), sm_ck_pos (sm_in_nI (by decide) hk), sm_ck_pos (sm_iw_nI (by decide) (by decide) hk)]
theorem m_finds (hS : SP P) {v : Int32} {k : Nat} (hk : k < 7) (hv : (-1000001) - v = nI k) : fM_finds P (am_pk 330 0 13) v (put I R) = some (v, put I (am_up R 331 k (R 331 k + 1))) := by
  unfold fM_finds
  simp only [sm_bd, hv, sp_330_0 hS, nI_clamp (show k < 2 ^ 31 by omega), put_rd sc_331, put_up sc_331]
  rw [sm_ck_pos (am_t_pk (by decide)), sm_ck_pos (sm_in_nI (by decide) hk), sm_ck_pos (sm_iw_nI (by decide) (by decide) hk)]
theorem fd_1 : (-1000001 : Int32) - (-1000001) = nI 0 := by decide
theorem fd_2 : (-1000001 : Int32) - (-1000002) = nI 1 := by decide
theorem fd_3 : (-1000001 : Int32) - (-1000003) = nI 2 := by decide
theorem fd_4 : (-1000001 : Int32) - (-1000004) = nI 3 := by decide
theorem fd_5 : (-1000001 : Int32) - (-1000005) = nI 4 := by decide
theorem fd_6 : (-1000001 : Int32) - (-1000006) = nI 5 := by decide
theorem fd_7 : (-1000001 : Int32) - (-1000007) = nI 6 := by decide
theorem m_isOf (hS : SP P) {j n : Nat} {v : Int32} (hj : j < 9) (hn : n < 1073741824) (hR : R 332 j = nI n) : fM_isOf (put I R) P (am_pk 330 0 13) (nI j) v = some (bI (0 ≤ v ∧ v < nI n)) := by
  unfold fM_isOf
  simp only [sp_330_1 hS, nI_clamp (show j < 2 ^ 31 by omega), put_rd sc_332, hR, h_within, Option.bind_some]
  rw [sm_ck_pos (am_t_pk (by decide)), sm_ck_pos (sm_in_nI (by decide) hj), sm_ck_pos bI_01, bI_c (and_congr Iff.rfl (i_pred hn))]
theorem m_isPart (hS : SP P) {n : Nat} {v : Int32} (hn : n < 1073741824) (hR : R 332 5 = nI n) : fM_isPart (put I R) P (am_pk 330 0 13) v = some (bI (0 ≤ v ∧ v < nI n)) := by
  unfold fM_isPart
  simp only [sp_330_1 hS, cl_5, put_rd sc_332, hR, h_within, Option.bind_some]
  rw [sm_ck_pos (am_t_pk (by decide)), sm_ck_pos (inl l_5 (by decide) (by decide)), sm_ck_pos bI_01, bI_c (and_congr Iff.rfl (i_pred hn))]
/-- 100 times a number and a number -/
def isPr (n : Nat) (v : Int32) : Prop := 0 ≤ v ∧ (0 ≤ v / 100 ∧ v / 100 < nI n) ∧ (0 ≤ sm_rem v 100 ∧ sm_rem v 100 < nI n)
theorem m_arePair (hS : SP P) {n : Nat} {v : Int32} (hn : n < 1073741824) (hR : R 332 5 = nI n) : fM_arePair (put I R) P (am_pk 330 0 13) v = some (bI (isPr n v)) := by
  unfold fM_arePair
  simp only [m_isPart hS hn hR, Option.bind_some, bI_if]
  unfold isPr
  split
  · rename_i h; rw [bI_f (fun z => absurd z.1 (i_nle.mpr h))]
  · rename_i h
    rw [sm_ck_pos (am_t_pk (by decide))]
    by_cases h1 : 0 ≤ v / 100 ∧ v / 100 < nI n
    · rw [if_pos h1]
      by_cases h2 : 0 ≤ sm_rem v 100 ∧ sm_rem v 100 < nI n
      · rw [if_pos h2, bI_t ⟨i_nl.mp h, h1, h2⟩]
      · rw [if_neg h2, bI_f (fun z => h2 z.2.2)]
    · rw [if_neg h1, bI_f (fun z => h1 z.2.1)]
theorem m_part (hS : SP P) {n : Nat} {v : Int32} (h1 : 1 ≤ n) (hn : n < 1073741824) (hR : R 332 5 = nI n) : fM_part (put I R) P (am_pk 330 0 13) v = some (partF v (nI n)) := by
  unfold fM_part
  simp only [sp_330_1 hS, cl_5, put_rd sc_332, hR, sm_bd]
  rw [sm_ck_pos (am_t_pk (by decide)), sm_ck_pos (inl l_5 (by decide) (by decide)), sm_ck_pos (nI_ne0 (by omega) (by omega)), sm_ck_pos (inl l_5 (by decide) (by decide))]
  unfold partF
  split <;> rfl
/-! the class's World -/
variable {b : Nat}
theorem w_hasBox (hb : isW b) {v : Int32} : fW_hasBox (put I R) P (am_pk b 0 11) v = some (bI (0 ≤ v ∧ v < R b 6)) := by
  unfold fW_hasBox
  simp only [put_rd (sc_w0 hb)]
  rw [sm_ck_pos (am_t_pk (by decide))]
  exact h_rng
theorem w_hasSeam (hb : isW b) {v : Int32} : fW_hasSeam (put I R) P (am_pk b 0 11) v = some (bI (0 ≤ v ∧ v < R b 7)) := by
  unfold fW_hasSeam
  simp only [put_rd (sc_w0 hb)]
  rw [sm_ck_pos (am_t_pk (by decide))]
  exact h_rng
theorem w_isNumber (hb : isW b) {v : Int32} : fW_isNumber (put I R) P (am_pk b 0 11) v = some (bI (0 ≤ v ∧ v < R b 0)) := by
  unfold fW_isNumber
  simp only [put_rd (sc_w0 hb)]
  rw [sm_ck_pos (am_t_pk (by decide))]
  exact h_rng
theorem w_isPair (hb : isW b) {v : Int32} {n : Nat} (hR : R b 0 = nI n) : fW_isPair (put I R) P (am_pk b 0 11) v = some (bI (isPr n v)) := by
  unfold fW_isPair
  simp only [w_isNumber hb, hR, Option.bind_some, bI_if]
  unfold isPr
  split
  · rename_i h; rw [bI_f (fun z => absurd z.1 (i_nle.mpr h))]
  · rename_i h
    rw [sm_ck_pos (am_t_pk (by decide))]
    by_cases h1 : 0 ≤ v / 100 ∧ v / 100 < nI n
    · rw [if_pos h1]
      by_cases h2 : 0 ≤ sm_rem v 100 ∧ sm_rem v 100 < nI n
      · rw [if_pos h2, bI_t ⟨i_nl.mp h, h1, h2⟩]
      · rw [if_neg h2, bI_f (fun z => h2 z.2.2)]
    · rw [if_neg h1, bI_f (fun z => h1 z.2.1)]
end HelpR
