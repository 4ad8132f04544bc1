/-! ===== what holds of a World's value ===== -/
def ran (m : Nat) (v : Int32) : Prop := 0 ≤ v ∧ v < nI m
def wi0 (w : am_M) (m nb ns ne : Nat) : Prop := w 0 0 = nI m ∧ 2 ≤ m ∧ m ≤ 16 ∧ w 0 6 = nI nb ∧ nb ≤ 7 ∧ w 0 7 = nI ns ∧ ns ≤ 14 ∧ w 0 8 = nI ne ∧ ne ≤ 20 ∧ (w 0 2 = 0 ∨ w 0 2 = 1 ∨ w 0 2 = 2) ∧ ∃ hh, hh ≤ 2000 ∧ w 0 1 = nI hh
def wiB (w : am_M) (t : Nat → Nat → List Nat) (m nb : Nat) : Prop := ∀ i, i < nb → (∃ k, k < 6 ∧ w 1 i = nI k) ∧ ran m (w 2 i) ∧ ran m (w 3 i) ∧ ran m (w 4 i) ∧ ran m (w 5 i) ∧ ran m (w 6 i) ∧ (∃ k, 1 ≤ k ∧ k ≤ 9 ∧ w 7 i = nI k) ∧ (w 8 i = 0 ∨ w 8 i = 1) ∧ wft (t i)
def wiS (w : am_M) (m nb ns : Nat) : Prop := ∀ s, s < ns → (∃ k, k < nb ∧ w 11 s = nI k) ∧ (∃ k, k < 2 ∧ w 12 s = nI k) ∧ (∃ k, k < nb ∧ w 13 s = nI k) ∧ (∃ k, k < 2 ∧ w 14 s = nI k) ∧ ran m (w 15 s) ∧ ran m (w 16 s) ∧ ran m (w 17 s) ∧ (∃ k, k ≤ 99999 ∧ w 18 s = nI k) ∧ ran m (w 19 s) ∧ ran m (w 20 s)
def wiD (w : am_M) (ns : Nat) : Prop := ∀ s s', s < ns → s' < ns → w 13 s = w 13 s' → w 14 s = w 14 s' → s = s'
def wiO (w : am_M) (nb : Nat) : Prop := (∀ i, i < nb → ∃ o, o < nb ∧ w 21 i = nI o) ∧ ∀ i j, i < nb → j < nb → w 21 i = w 21 j → i = j
def wiE (w : am_M) (m nb ne : Nat) : Prop := ∀ e, e < ne → (∃ k, k ≤ 999 ∧ w 22 e = nI k) ∧ (∃ k, k < nb ∧ w 23 e = nI k) ∧ ran m (w 24 e)
def wiv (w : am_M) (t : Nat → Nat → List Nat) (m nb ns ne : Nat) : Prop := wi0 w m nb ns ne ∧ wiB w t m nb ∧ wiS w m nb ns ∧ wiD w ns ∧ wiO w nb ∧ wiE w m nb ne
/-- the first seam from s on that goes to door d of box x; -1 if none of n does -/
def sinF (w : am_M) (x d : Nat) : Nat → Nat → Int32
  | _, 0 => -1
  | s, n + 1 => if w 13 s = nI x ∧ w 14 s = nI d then nI s else sinF w x d (s + 1) n
theorem sinF_cases (w : am_M) (x d : Nat) : ∀ (n s : Nat), sinF w x d s n = -1 ∨ ∃ k, s ≤ k ∧ k < s + n ∧ sinF w x d s n = nI k ∧ w 13 k = nI x ∧ w 14 k = nI d
  | 0, s => Or.inl rfl
  | n + 1, s => by
    by_cases h : w 13 s = nI x ∧ w 14 s = nI d
    · refine Or.inr ⟨s, Nat.le_refl _, by omega, ?_, h.1, h.2⟩
      show (if _ then _ else _) = _
      rw [if_pos h]
    · have e : sinF w x d s (n + 1) = sinF w x d (s + 1) n := by
        show (if _ then _ else _) = _
        rw [if_neg h]
      rw [e]
      rcases sinF_cases w x d n (s + 1) with h1 | ⟨k, h1, h2, h3⟩
      · exact Or.inl h1
      · exact Or.inr ⟨k, by omega, by omega, h3⟩
theorem code10 {v : Int32} {a c : Nat} (h1 : v / 10 = nI a) (h2 : sm_rem v 10 = nI c) : v = nI (10 * a + c) := by
  have e : v = sm_rem v 10 + v / 10 * 10 := by unfold sm_rem; rw [Int32.sub_add_cancel]
  rw [e, h1, h2, l_10, pk_mul, nI_add]
  congr 1; omega
section SeamTo
variable {I : am_M} {P : am_Q}
theorem m_seamToL (hS : SP P) {R w : am_M} {x d ns : Nat} (hx : x < 7) (hd : d < 2) (hns : ns ≤ 14) (hN : R 332 1 = nI ns) (hw : ∀ s, s < ns → ∃ a c, a < 7 ∧ c < 2 ∧ w 13 s = nI a ∧ w 14 s = nI c ∧ R 347 s = nI (10 * a + c)) :
    ∀ (n s fu : Nat), n < fu → s + n = ns → fM_seamTo_L2 (put I R) P (fun l3 => some l3) (some (-1)) fu (am_pk 330 0 13) (nI x) (nI d) (nI s) = some (sinF w x d s n)
  | 0, s, fu, h1, h2 => by
    obtain ⟨fu, rfl⟩ : ∃ n', fu = n' + 1 := ⟨fu - 1, by omega⟩
    show fM_seamTo_B2 _ P _ _ _ _ _ _ _ = _
    unfold fM_seamTo_B2
    rw [sm_ck_pos (am_t_pk (by decide)), sp_330_1 hS, cl_1, put_rd sc_332, hN, sm_ck_pos (inl l_1 (by decide) (by decide)), if_pos (by rw [nI_leI (by omega) (by omega)]; omega)]
    rfl
  | n + 1, s, fu, h1, h2 => by
    obtain ⟨fu, rfl⟩ : ∃ n', fu = n' + 1 := ⟨fu - 1, by omega⟩
    obtain ⟨a, c, ha, hc, w1, w2, w3⟩ := hw s (by omega)
    show fM_seamTo_B2 _ P _ _ _ _ _ _ _ = _
    unfold fM_seamTo_B2
    simp only [sm_bd]
    rw [sm_ck_pos (am_t_pk (by decide)), sp_330_1 hS, sp_330_16 hS, cl_1, nI_clamp (show s < 2 ^ 31 by omega), put_rd sc_332, put_rd sc_347, hN, w3, sm_ck_pos (inl l_1 (by decide) (by decide)), if_neg (by rw [nI_leI (by omega) (by omega)]; omega), sm_ck_pos (sm_in_nI (by decide) (by omega)), l_10, pk_mul, nI_add, nI_1, m_seamToL hS hx hd hns hN hw n (s + 1) fu (by omega) (by omega)]
    by_cases e : a = x ∧ c = d
    · obtain ⟨rfl, rfl⟩ := e
      rw [if_neg (fun z => z rfl)]
      show _ = some (if _ then _ else _)
      rw [if_pos ⟨w1, w2⟩]
    · rw [if_pos (by rw [nI_eq (by omega) (by omega)]; omega)]
      show _ = some (if _ then _ else _)
      rw [if_neg (fun z => e ⟨(nI_eq (by omega) (by omega)).mp (w1.symm.trans z.1), (nI_eq (by omega) (by omega)).mp (w2.symm.trans z.2)⟩)]
theorem m_seamTo (hS : SP P) {R w : am_M} {x d ns : Nat} (hx : x < 7) (hd : d < 2) (hns : ns ≤ 14) (hN : R 332 1 = nI ns) (hw : ∀ s, s < ns → ∃ a c, a < 7 ∧ c < 2 ∧ w 13 s = nI a ∧ w 14 s = nI c ∧ R 347 s = nI (10 * a + c)) :
    fM_seamTo (put I R) P (am_pk 330 0 13) (nI x) (nI d) = some (sinF w x d 0 ns) := by
  unfold fM_seamTo
  exact m_seamToL hS hx hd hns hN hw ns 0 sm_fu (sm_fu_lt (by omega)) (by omega)
theorem x_seamInto (hS : SP P) {R : am_M} {b x d nb : Nat} (hb : isW b) (hx : x < nb) (hnb : nb ≤ 7) (hd : d < 2) (hN : R b 6 = nI nb) : fW_seamInto (put I R) P (am_pk b 0 11) (nI x) (nI d) = some (R (b + 4) (2 * x + d)) := by
  unfold fW_seamInto
  rw [sm_ck_pos (am_t_pk (by decide)), w_hasBox hb, h_isDoor, Option.bind_some, Option.bind_some, hN, bI_if, bI_if, if_pos ⟨nI_pos' (by omega), (nI_ltI (by omega) (by omega)).mpr hx⟩, if_pos ⟨nI_pos' (by omega), by rw [l_2]; exact (nI_ltI (by omega) (by omega)).mpr hd⟩, sp_w12 hS hb, l_2, pk_mul, nI_add, nI_clamp (show 2 * x + d < 2 ^ 31 by omega), put_rd (sc_w4 hb), sm_ck_pos (sm_in_nI (by decide) (by omega))]
end SeamTo
