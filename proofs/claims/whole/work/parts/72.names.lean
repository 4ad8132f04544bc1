/-! ===== what a text names; what a box hangs on ===== -/
/-- an out's line names door d -/
def nmF (tt : Nat → List Nat) (d : Nat) : Prop := (102 + d) ∈ tt 2 ∨ (102 + d) ∈ tt 3
section Names
variable {I R : am_M} {P : am_Q} {w : am_M} {t : Nat → Nat → List Nat} {m nb ns ne : Nat}
theorem x_namesL {lp l v e cc nc ce : Nat} (h0 : am_t lp = 4) (hP0 : P lp 0 = am_pk cc nc 20) (hnc : nc < 16384) (hP2 : P lp 2 = am_pk ce 4 20) (hl : l < 4) (hend : put I R (am_pk ce 4 20) l = nI e) (he : e ≤ nc) (hv : v < 1000) : ∀ (cs : List Nat) (i fu : Nat), cs.length < fu → i + cs.length = e → (∀ c ∈ cs, c < 1000) → (∀ k (hk : k < cs.length), put I R (am_pk cc nc 20) (i + k) = nI cs[k]) → fL_names_L17 (put I R) P (some 1) (some 0) fu lp (nI l) (nI v) (nI i) = some (bI (v ∈ cs))
  | [], i, fu, h1, h2, h3, h4 => by
    obtain ⟨fu, rfl⟩ : ∃ n', fu = n' + 1 := ⟨fu - 1, by omega⟩
    have h2 : i = e := h2
    show fL_names_B17 _ _ _ _ _ _ _ _ _ = _
    unfold fL_names_B17
    rw [sm_ck_pos h0, hP2, nI_clamp (show l < 2 ^ 31 by omega), sm_ck_pos (sm_in_nI (by decide) hl), hend, if_pos (by rw [nI_leI (by omega) (by omega)]; omega), bI_f (by simp)]
  | c :: cs, i, fu, h1, h2, h3, h4 => by
    obtain ⟨fu, rfl⟩ : ∃ n', fu = n' + 1 := ⟨fu - 1, by omega⟩
    have hlen : (c :: cs).length = cs.length + 1 := rfl
    rw [hlen] at h1 h2
    have c0 : put I R (am_pk cc nc 20) i = nI c := h4 0 (by rw [hlen]; omega)
    have hc : c < 1000 := h3 c (by simp)
    have ih := x_namesL h0 hP0 hnc hP2 hl hend he hv cs (i + 1) fu (by omega) (by omega) (fun c hc => h3 c (by simp [hc])) (fun k hk => by
      have := h4 (k + 1) (by rw [hlen]; omega)
      rw [show i + 1 + k = i + (k + 1) by omega, this]; rfl)
    show fL_names_B17 _ _ _ _ _ _ _ _ _ = _
    unfold fL_names_B17
    rw [sm_ck_pos h0, hP2, hP0, nI_clamp (show l < 2 ^ 31 by omega), nI_clamp (show i < 2 ^ 31 by omega), sm_ck_pos (sm_in_nI (by decide) hl), hend, if_neg (by rw [nI_leI (by omega) (by omega)]; omega), sm_ck_pos (sm_in_nI hnc (by omega)), c0, bd_eq, nI_1, ih]
    by_cases q : c = v
    · rw [if_neg (fun z => z (by rw [q])), bI_t (by simp [q])]
    · rw [if_pos (by rw [nI_eq (by omega) (by omega)]; exact q)]
      exact congrArg some (bI_c ⟨fun z => List.mem_cons_of_mem _ z, fun z => (List.mem_cons.mp z).resolve_left (fun y => q y.symm)⟩)
theorem rpn_lt : ∀ (cs : List Nat) (d : Nat), rpn cs d → ∀ c ∈ cs, c < 1000
  | [], _, _, c, h => absurd h (by simp)
  | a :: cs, d, h, c, hc => by
    unfold rpn at h
    by_cases q : a < 110
    · rw [if_pos q] at h
      rcases List.mem_cons.mp hc with rfl | hc
      · omega
      · exact rpn_lt cs _ h.2.2 c hc
    · rw [if_neg q] at h
      rcases List.mem_cons.mp hc with rfl | hc
      · omega
      · exact rpn_lt cs _ h.2.2 c hc
theorem wft.lt {tt : Nat → List Nat} (h : wft tt) {l : Nat} (hl : l < 4) : ∀ c ∈ tt l, c < 1000 := by
  intro c hc
  rcases h l hl with e | e
  · rw [e] at hc; exact absurd hc (by simp)
  · exact rpn_lt _ _ e.1 c hc
theorem wft.len {tt : Nat → List Nat} (h : wft tt) {l : Nat} (hl : l < 4) : (tt l).length ≤ 80 := by
  rcases h l hl with e | e
  · rw [e]; simp
  · exact e.2
theorem x_names {lp l v : Nat} {tt : Nat → List Nat} (ht : lnr (put I R) P lp tt) (hw : wft tt) (hl : l < 4) (hv : v < 1000) : fL_names (put I R) P lp (nI l) (nI v) = some (bI (v ∈ tt l)) := by
  obtain ⟨h0, cc, nc, cs, ce, q1, q2, q3, q4, oo, q5⟩ := ht
  unfold fL_names fL_has
  rw [sm_ck_pos h0, sm_ck_pos h0, q3, nI_clamp (show l < 2 ^ 31 by omega), sm_ck_pos (sm_in_nI (by decide) hl)]
  by_cases e : tt l = []
  · rw [if_pos ((q5 l hl).1 e), Option.bind_some, if_neg (fun z => z rfl), bI_f (by rw [e]; simp)]
  · obtain ⟨s, g1, g2, g3, g4⟩ := (q5 l hl).2 e
    have hlen := hw.len hl
    rw [g1, if_neg (nI_pos (by omega)), Option.bind_some, if_pos (by decide), sm_ck_pos (sm_in_nI (by decide) hl), bd_eq]
    exact x_namesL h0 q1 q2 q4 hl g2 g3 hv (tt l) s sm_fu (sm_fu_lt (by omega)) rfl (hw.lt hl) g4
theorem cdF_nm {c d : Nat} (hd : d < 2) : ((cdF c).1 = 1 ∧ (cdF c).2 = 2 + nI d) ↔ c = 102 + d := by
  unfold cdF
  by_cases h1 : c < 100
  · rw [if_pos h1]
    exact ⟨fun z => absurd (show (0 : Int32) = 1 from z.1) (by decide), fun z => by omega⟩
  · rw [if_neg h1]
    by_cases h2 : c < 110
    · rw [if_pos h2]
      show ((1 : Int32) = 1 ∧ nI (c - 100) = 2 + nI d) ↔ _
      rw [l_2, nI_add, nI_eq (by omega) (by omega)]
      exact ⟨fun z => by have := z.2; omega, fun z => ⟨rfl, by omega⟩⟩
    · rw [if_neg h2]
      exact ⟨fun z => absurd (show (2 : Int32) = 1 from z.1) (by decide), fun z => by omega⟩
theorem m_namesL (hS : SP P) {x l d e : Nat} (hx : x < 7) (hl : l < 4) (hd : d < 2) (hend : R 343 (4 * x + l) = nI e) (he : e ≤ 80) {ex : Nat → Int32 → Int32 → Int32 → Int32 → Option Int32} : ∀ (cs : List Nat) (i fu : Nat) (q : Prop), cs.length < fu → i + cs.length = e → (∀ k (hk : k < cs.length), R 344 (80 * x + (i + k)) = (cdF cs[k]).1 ∧ R 345 (80 * x + (i + k)) = (cdF cs[k]).2) → fM_names_L24 (put I R) P ex fu (am_pk 330 0 13) (nI x) (nI d) (bI q) (nI l) (nI i) = ex (am_pk 330 0 13) (nI x) (nI d) (bI (q ∨ (102 + d) ∈ cs)) (nI l)
  | [], i, fu, q, h1, h2, h4 => by
    obtain ⟨fu, rfl⟩ : ∃ n', fu = n' + 1 := ⟨fu - 1, by omega⟩
    have h2 : i = e := h2
    show fM_names_B24 _ _ _ _ _ _ _ _ _ _ = _
    unfold fM_names_B24
    rw [sm_ck_pos (am_t_pk (by decide)), sp_330_12 hS, lm_4, nI_add, nI_clamp (show 4 * x + l < 2 ^ 31 by omega), put_rd sc_343, hend, sm_ck_pos (sm_in_nI (by decide) (by omega)), if_pos (by rw [nI_leI (by omega) (by omega)]; omega), bI_c (show q ↔ (q ∨ (102 + d) ∈ ([] : List Nat)) from ⟨Or.inl, fun z => z.resolve_right (by simp)⟩)]
  | c :: cs, i, fu, q, h1, h2, h4 => by
    obtain ⟨fu, rfl⟩ : ∃ n', fu = n' + 1 := ⟨fu - 1, by omega⟩
    have hlen : (c :: cs).length = cs.length + 1 := rfl
    rw [hlen] at h1 h2
    obtain ⟨c1, c2⟩ : R 344 (80 * x + i) = (cdF c).1 ∧ R 345 (80 * x + i) = (cdF c).2 := h4 0 (by rw [hlen]; omega)
    have ih := fun q => m_namesL hS hx hl hd hend he (ex := ex) cs (i + 1) fu q (by omega) (by omega) (fun k hk => by
      have := h4 (k + 1) (by rw [hlen]; omega)
      rw [show i + 1 + k = i + (k + 1) by omega]; exact this)
    have ih1 : ∀ b : Int32, ∀ q' : Prop, bI q' = b → ((q' ∨ (102 + d) ∈ cs) ↔ (q ∨ (102 + d) ∈ c :: cs)) → fM_names_L24 (put I R) P ex fu (am_pk 330 0 13) (nI x) (nI d) b (nI l) (nI (i + 1)) = ex (am_pk 330 0 13) (nI x) (nI d) (bI (q ∨ (102 + d) ∈ c :: cs)) (nI l) := by
      intro b q' hb heq
      rw [← hb, ih q', bI_c heq]
    have key := cdF_nm (c := c) hd
    show fM_names_B24 _ _ _ _ _ _ _ _ _ _ = _
    unfold fM_names_B24 fM_names_J78 fM_names_J82 fM_names_J83
    simp (maxSteps := 1000000) (disch := first | omega | assumption) only [sm_bd, Option.bind_some, ck_tt, ck_in, ck_iw, ck_ia, ck_iz, ck_01, ck_in_0, ck_iw_0, cl_0, ck_in_1, ck_iw_1, cl_1, ck_in_2, ck_iw_2, cl_2, ck_in_3, ck_iw_3, cl_3, ck_in_4, ck_iw_4, cl_4, ck_in_5, ck_iw_5, cl_5, ck_in_6, ck_iw_6, cl_6, ck_in_7, ck_iw_7, cl_7, ck_in_8, ck_iw_8, cl_8, ck_in_9, ck_iw_9, cl_9, nI_clamp, lm_2, lm_4, lm_10, lm_14, lm_24, lm_80, lm_100, lm_1500, nI_add, nI_1, pk_m1, nI_pred, sp_330_0 hS, sp_330_1 hS, sp_330_2 hS, sp_330_3 hS, sp_330_4 hS, sp_330_5 hS, sp_330_6 hS, sp_330_7 hS, sp_330_8 hS, sp_330_9 hS, sp_330_10 hS, sp_330_11 hS, sp_330_12 hS, sp_330_13 hS, sp_330_14 hS, sp_330_15 hS, sp_330_16 hS, sp_330_17 hS, sp_330_18 hS, sp_330_19 hS, sp_330_20 hS, sp_330_21 hS, sp_330_22 hS, sp_330_23 hS, sp_330_24 hS, sp_330_25 hS, sp_330_26 hS, sp_330_30 hS, sp_330_31 hS, sp_330_33 hS, sp_330_34 hS, sp_330_35 hS, sp_330_36 hS, sp_330_41 hS, sp_330_42 hS, sp_330_43 hS, sp_330_44 hS, sp_330_47 hS, sp_330_48 hS, sp_330_49 hS, sp_330_51 hS, sp_330_52 hS, sp_330_54 hS, sp_330_55 hS, sp_330_56 hS, sp_330_57 hS, sp_330_58 hS, sp_330_61 hS, put_rd sc_330, put_up sc_330, put_rd sc_331, put_up sc_331, put_rd sc_332, put_up sc_332, put_rd sc_333, put_up sc_333, put_rd sc_334, put_up sc_334, put_rd sc_335, put_up sc_335, put_rd sc_336, put_up sc_336, put_rd sc_337, put_up sc_337, put_rd sc_338, put_up sc_338, put_rd sc_339, put_up sc_339, put_rd sc_340, put_up sc_340, put_rd sc_341, put_up sc_341, put_rd sc_342, put_up sc_342, put_rd sc_343, put_up sc_343, put_rd sc_344, put_up sc_344, put_rd sc_345, put_up sc_345, put_rd sc_346, put_up sc_346, put_rd sc_347, put_up sc_347, put_rd sc_348, put_up sc_348, put_rd sc_349, put_up sc_349, put_rd sc_350, put_up sc_350, put_rd sc_351, put_up sc_351, put_rd sc_352, put_up sc_352, put_rd sc_353, put_up sc_353, put_rd sc_354, put_up sc_354, put_rd sc_355, put_up sc_355, put_rd sc_356, put_up sc_356, put_rd sc_357, put_up sc_357, put_rd sc_358, put_up sc_358, put_rd sc_359, put_up sc_359, put_rd sc_360, put_up sc_360, put_rd sc_361, put_up sc_361, put_rd sc_362, put_up sc_362, put_rd sc_363, put_up sc_363, put_rd sc_364, put_up sc_364, put_rd sc_365, put_up sc_365, put_rd sc_366, put_up sc_366, put_rd sc_367, put_up sc_367, put_rd sc_368, put_up sc_368, put_rd sc_369, put_up sc_369, put_rd sc_370, put_up sc_370, put_rd sc_371, put_up sc_371, put_rd sc_372, put_up sc_372, put_rd sc_373, put_up sc_373, put_rd sc_374, put_up sc_374, put_rd sc_375, put_up sc_375, put_rd sc_376, put_up sc_376, put_rd sc_377, put_up sc_377, put_rd sc_378, put_up sc_378, hend, c1, c2, bI_ifn]
    rw [if_neg (by rw [nI_leI (by omega) (by omega)]; omega)]
    by_cases hq : q
    · rw [if_pos hq]
      exact ih1 1 True (bI_t trivial) ⟨fun _ => Or.inl hq, fun _ => Or.inl trivial⟩
    · rw [if_neg hq]
      by_cases e1 : (cdF c).1 = 1
      · rw [if_neg (fun z => z e1)]
        by_cases e2 : (cdF c).2 = 2 + nI d
        · rw [if_neg (fun z => z e2)]
          exact ih1 1 True (bI_t trivial) ⟨fun _ => Or.inr (by rw [key.mp ⟨e1, e2⟩]; simp), fun _ => Or.inl trivial⟩
        · rw [if_pos e2]
          exact ih1 0 False (bI_f (fun z => z)) ⟨fun z => Or.inr (List.mem_cons_of_mem _ (z.resolve_left (fun y => y))), fun z => Or.inr ((List.mem_cons.mp (z.resolve_left hq)).resolve_left (fun y => e2 (key.mpr y.symm).2))⟩
      · rw [if_pos e1]
        exact ih1 0 False (bI_f (fun z => z)) ⟨fun z => Or.inr (List.mem_cons_of_mem _ (z.resolve_left (fun y => y))), fun z => Or.inr ((List.mem_cons.mp (z.resolve_left hq)).resolve_left (fun y => e1 (key.mpr y.symm).1))⟩
theorem m_names (hS : SP P) {x d : Nat} {tt : Nat → List Nat} (hx : x < 7) (hd : d < 2) (ht : tmr R x tt) : fM_names (put I R) P (am_pk 330 0 13) (nI x) (nI d) = some (bI (nmF tt d)) := by
  have one : ∀ (l : Nat) (q : Prop) (r : Nat → Int32 → Int32 → Int32 → Int32 → Option Int32) (ex : Int32 → Option Int32), l < 4 → fM_names_B5 (put I R) P ex r (am_pk 330 0 13) (nI x) (nI d) (bI q) (nI l) = r (am_pk 330 0 13) (nI x) (nI d) (bI (q ∨ (102 + d) ∈ tt l)) (nI (l + 1)) := by
    intro l q r ex hl
    obtain ⟨f, f1, f2, f3, f4⟩ := ht l hl
    unfold fM_names_B5
    rw [if_neg (by rw [l_4, nI_leI (by omega) (by omega)]; omega), sm_ck_pos (am_t_pk (by decide)), sp_330_11 hS, lm_4, nI_add, nI_clamp (show 4 * x + l < 2 ^ 31 by omega), put_rd sc_342, f1, sm_ck_pos (sm_in_nI (by decide) (by omega)), bd_eq]
    refine (m_namesL hS hx hl hd f2 f3 (tt l) f sm_fu q (sm_fu_lt (by omega)) rfl f4).trans ?_
    rw [bd_eq, nI_1]
  unfold fM_names
  have e0 : (0 : Int32) = bI False := (bI_f (fun z => z)).symm
  rw [show sm_fu = 19997 + 1 + 1 + 1 from rfl]
  show fM_names_B5 _ _ _ _ _ _ _ 0 (nI 2) = _
  rw [e0, one 2 False _ _ (by decide)]
  show fM_names_B5 _ _ _ _ _ _ _ _ (nI 3) = _
  rw [one 3 _ _ _ (by decide)]
  show fM_names_B5 _ _ _ _ _ _ _ _ (nI 4) = _
  unfold fM_names_B5
  rw [if_pos (by decide)]
  dsimp only
  rw [ck_01]
  refine congrArg some (bI_c ?_)
  unfold nmF
  exact ⟨fun z => z.elim (fun y => Or.inl (y.resolve_left (fun f => f))) Or.inr, fun z => z.elim (fun y => Or.inl (Or.inr y)) Or.inr⟩
end Names
