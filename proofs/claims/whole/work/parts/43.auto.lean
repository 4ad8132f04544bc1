/-! ===== rules for running the methods: checks that hold, literals ===== -/
section Auto
variable {ρ : Type} {x : Option ρ} {i n t c k : Nat}
theorem ck_tt (h : t < 32) : sm_ck (am_t (am_pk i n t) = t) x = x := sm_ck_pos (am_t_pk h)
theorem ck_in (hk : k < n) (hn : n < 16384) : sm_ck (sm_in (am_pk c n 20) (nI k)) x = x := sm_ck_pos (sm_in_nI hn hk)
theorem ck_iw (hc : 2 ≤ c) (hk : k < n) (hn : n < 16384) : sm_ck (sm_iw (am_pk c n 20) (nI k)) x = x := sm_ck_pos (sm_iw_nI hc hn hk)
theorem ck_ia (h1 : 22 ≤ t) (h2 : t < 26) (hk : k < n) (hn : n < 16384) : sm_ck (sm_ia (am_pk c n t) (nI k)) x = x := sm_ck_pos (sm_ia_nI h1 h2 hn hk)
theorem ck_iz (hk : k < n) (hn : n < 16384) : sm_ck (sm_iz (am_pk c n 21) (nI k)) x = x := sm_ck_pos (sm_iz_nI hn hk)
theorem ck_01 {q : Prop} : sm_ck (sm_01 (bI q)) x = x := sm_ck_pos bI_01
theorem ck_in_0 (hk : 0 < n) (hn : n < 16384) : sm_ck (sm_in (am_pk c n 20) 0) x = x := ck_in (k := 0) hk hn
theorem ck_iw_0 (hc : 2 ≤ c) (hk : 0 < n) (hn : n < 16384) : sm_ck (sm_iw (am_pk c n 20) 0) x = x := ck_iw (k := 0) hc hk hn
theorem ck_iz_0 (hk : 0 < n) (hn : n < 16384) : sm_ck (sm_iz (am_pk c n 21) 0) x = x := ck_iz (k := 0) hk hn
theorem ck_in_1 (hk : 1 < n) (hn : n < 16384) : sm_ck (sm_in (am_pk c n 20) 1) x = x := ck_in (k := 1) hk hn
theorem ck_iw_1 (hc : 2 ≤ c) (hk : 1 < n) (hn : n < 16384) : sm_ck (sm_iw (am_pk c n 20) 1) x = x := ck_iw (k := 1) hc hk hn
theorem ck_iz_1 (hk : 1 < n) (hn : n < 16384) : sm_ck (sm_iz (am_pk c n 21) 1) x = x := ck_iz (k := 1) hk hn
theorem ck_in_2 (hk : 2 < n) (hn : n < 16384) : sm_ck (sm_in (am_pk c n 20) 2) x = x := ck_in (k := 2) hk hn
theorem ck_iw_2 (hc : 2 ≤ c) (hk : 2 < n) (hn : n < 16384) : sm_ck (sm_iw (am_pk c n 20) 2) x = x := ck_iw (k := 2) hc hk hn
theorem ck_in_3 (hk : 3 < n) (hn : n < 16384) : sm_ck (sm_in (am_pk c n 20) 3) x = x := ck_in (k := 3) hk hn
theorem ck_iw_3 (hc : 2 ≤ c) (hk : 3 < n) (hn : n < 16384) : sm_ck (sm_iw (am_pk c n 20) 3) x = x := ck_iw (k := 3) hc hk hn
theorem ck_in_4 (hk : 4 < n) (hn : n < 16384) : sm_ck (sm_in (am_pk c n 20) 4) x = x := ck_in (k := 4) hk hn
theorem ck_iw_4 (hc : 2 ≤ c) (hk : 4 < n) (hn : n < 16384) : sm_ck (sm_iw (am_pk c n 20) 4) x = x := ck_iw (k := 4) hc hk hn
theorem ck_in_5 (hk : 5 < n) (hn : n < 16384) : sm_ck (sm_in (am_pk c n 20) 5) x = x := ck_in (k := 5) hk hn
theorem ck_iw_5 (hc : 2 ≤ c) (hk : 5 < n) (hn : n < 16384) : sm_ck (sm_iw (am_pk c n 20) 5) x = x := ck_iw (k := 5) hc hk hn
theorem ck_in_6 (hk : 6 < n) (hn : n < 16384) : sm_ck (sm_in (am_pk c n 20) 6) x = x := ck_in (k := 6) hk hn
theorem ck_iw_6 (hc : 2 ≤ c) (hk : 6 < n) (hn : n < 16384) : sm_ck (sm_iw (am_pk c n 20) 6) x = x := ck_iw (k := 6) hc hk hn
theorem ck_in_7 (hk : 7 < n) (hn : n < 16384) : sm_ck (sm_in (am_pk c n 20) 7) x = x := ck_in (k := 7) hk hn
theorem ck_iw_7 (hc : 2 ≤ c) (hk : 7 < n) (hn : n < 16384) : sm_ck (sm_iw (am_pk c n 20) 7) x = x := ck_iw (k := 7) hc hk hn
theorem ck_in_8 (hk : 8 < n) (hn : n < 16384) : sm_ck (sm_in (am_pk c n 20) 8) x = x := ck_in (k := 8) hk hn
theorem ck_iw_8 (hc : 2 ≤ c) (hk : 8 < n) (hn : n < 16384) : sm_ck (sm_iw (am_pk c n 20) 8) x = x := ck_iw (k := 8) hc hk hn
theorem ck_in_9 (hk : 9 < n) (hn : n < 16384) : sm_ck (sm_in (am_pk c n 20) 9) x = x := ck_in (k := 9) hk hn
theorem ck_iw_9 (hc : 2 ≤ c) (hk : 9 < n) (hn : n < 16384) : sm_ck (sm_iw (am_pk c n 20) 9) x = x := ck_iw (k := 9) hc hk hn
theorem lm_2 (a : Nat) : (2 : Int32) * nI a = nI (2 * a) := pk_mul 2 a
theorem lm_4 (a : Nat) : (4 : Int32) * nI a = nI (4 * a) := pk_mul 4 a
theorem lm_10 (a : Nat) : (10 : Int32) * nI a = nI (10 * a) := pk_mul 10 a
theorem lm_14 (a : Nat) : (14 : Int32) * nI a = nI (14 * a) := pk_mul 14 a
theorem lm_24 (a : Nat) : (24 : Int32) * nI a = nI (24 * a) := pk_mul 24 a
theorem lm_80 (a : Nat) : (80 : Int32) * nI a = nI (80 * a) := pk_mul 80 a
theorem lm_100 (a : Nat) : (100 : Int32) * nI a = nI (100 * a) := pk_mul 100 a
theorem lm_1500 (a : Nat) : (1500 : Int32) * nI a = nI (1500 * a) := pk_mul 1500 a
/-- a choice by a proposition -/
noncomputable def cif {α : Type} (q : Prop) (a b : α) : α := @ite _ q (Classical.propDecidable q) a b
theorem cif_t {α : Type} {q : Prop} {a b : α} (h : q) : cif q a b = a := by unfold cif; rw [if_pos h]
theorem cif_f {α : Type} {q : Prop} {a b : α} (h : ¬ q) : cif q a b = b := by unfold cif; rw [if_neg h]
theorem ite_cif {α : Type} {q : Prop} {dq : Decidable q} {a b : α} : @ite _ q dq a b = cif q a b := by
  by_cases h : q
  · rw [if_pos h, cif_t h]
  · rw [if_neg h, cif_f h]
theorem am_up_cm {α : Type} {f : Nat → Nat → α} {a k a2 k2 : Nat} {v v2 : α} (h : ¬ a = a2) : am_up (am_up f a k v) a2 k2 v2 = am_up (am_up f a2 k2 v2) a k v := by
  funext p j
  unfold am_up
  by_cases e : p = a ∧ j = k
  · rw [if_neg (fun z => h (e.1.symm.trans z.1)), if_pos e, if_pos e]
  · by_cases e2 : p = a2 ∧ j = k2
    · rw [if_pos e2, if_neg e, if_pos e2]
    · rw [if_neg e2, if_neg e, if_neg e, if_neg e2]
end Auto
/-! ===== the table of kinds ===== -/
def apok (I : am_M) : Prop := I am_ap 0 = -1 ∧ I am_ap 1 = nI 0 ∧ I am_ap 2 = nI 1 ∧ I am_ap 3 = nI 0 ∧ I am_ap 4 = nI 0 ∧ I am_ap 5 = nI 3
def undF (k j : Int32) : Prop := j = 0 ∨ k = j ∨ (j = 1 ∧ k = 2) ∨ (j = 3 ∧ k = 5)
theorem put_ap {I R : am_M} {k : Nat} : put I R am_ap k = I am_ap k := put_dy (Or.inl (by decide))
def undN (k j : Nat) : Int32 := if j = 0 ∨ k = j ∨ (j = 1 ∧ k = 2) ∨ (j = 3 ∧ k = 5) then 1 else 0
theorem undN_bI {k j : Nat} (hk : k < 6) (hj : j < 6) : undN k j = bI (undF (nI k) (nI j)) := by
  have e : (j = 0 ∨ k = j ∨ (j = 1 ∧ k = 2) ∨ (j = 3 ∧ k = 5)) ↔ undF (nI k) (nI j) := by
    unfold undF
    rw [l_0, l_1, l_2, l_3, l_5, nI_eq (by omega) (by omega), nI_eq (by omega) (by omega), nI_eq (by omega) (by omega), nI_eq (by omega) (by omega), nI_eq (by omega) (by omega), nI_eq (by omega) (by omega)]
  unfold undN bI
  by_cases h : j = 0 ∨ k = j ∨ (j = 1 ∧ k = 2) ∨ (j = 3 ∧ k = 5)
  · rw [if_pos h, if_pos (e.mp h)]
  · rw [if_neg h, if_neg (fun z => h (e.mpr z))]
theorem h_isUnder {I R : am_M} {P : am_Q} (hA : apok I) {k j : Nat} (hk : k < 6) (hj : j < 6) : fX_isUnder (put I R) P (nI k) (nI j) = some (bI (undF (nI k) (nI j))) := by
  obtain ⟨a0, a1, a2, a3, a4, a5⟩ := hA
  have st : ∀ (n i k : Nat), k < 6 → i < 6 → fX_isUnder_L4 (put I R) P (some 1) (some 0) (n + 1) (nI j) (nI k) (nI i) = if k = j then some 1 else fX_isUnder_L4 (put I R) P (some 1) (some 0) n (nI j) (I am_ap k) (nI (i + 1)) := by
    intro n i k hk hi
    show fX_isUnder_B4 _ _ _ _ _ _ _ _ = _
    unfold fX_isUnder_B4
    rw [if_neg (by rw [l_6, nI_leI (by omega) (by omega)]; omega), h_isKind, Option.bind_some, bI_if, if_pos ⟨nI_pos' (by omega), by rw [l_6, nI_ltI (by omega) (by omega)]; exact hk⟩, nI_clamp (by omega), put_ap, sm_ck_pos (show sm_in am_ap (nI k) from sm_in_nI (by decide) hk)]
    simp only [sm_bd, nI_1]
    by_cases e : k = j
    · rw [if_neg (fun z => z (by rw [e])), if_pos e]
    · rw [if_pos (by rw [nI_eq (by omega) (by omega)]; exact e), if_neg e]
  have en : ∀ (n i : Nat), i < 6 → fX_isUnder_L4 (put I R) P (some 1) (some 0) (n + 1) (nI j) (-1) (nI i) = some 0 := by
    intro n i hi
    show fX_isUnder_B4 _ _ _ _ _ _ _ _ = _
    unfold fX_isUnder_B4
    rw [if_neg (by rw [l_6, nI_leI (by omega) (by omega)]; omega), h_isKind, Option.bind_some, bI_if, if_neg (fun z => absurd z.1 (by decide))]
  rw [← undN_bI hk hj]
  have ej : j = 0 ∨ j = 1 ∨ j = 2 ∨ j = 3 ∨ j = 4 ∨ j = 5 := by omega
  have s0 : ∀ n i, i < 5 → fX_isUnder_L4 (put I R) P (some 1) (some 0) (n + 1 + 1) (nI j) (nI 0) (nI i) = some (undN 0 j) := by
    intro n i hi
    rw [st (n + 1) i 0 (by omega) (by omega), a0, en n (i + 1) (by omega)]
    rcases ej with rfl | rfl | rfl | rfl | rfl | rfl <;> rfl
  have s1 : ∀ n i, i < 4 → fX_isUnder_L4 (put I R) P (some 1) (some 0) (n + 1 + 1 + 1) (nI j) (nI 1) (nI i) = some (undN 1 j) := by
    intro n i hi
    rw [st (n + 1 + 1) i 1 (by omega) (by omega), a1, s0 n (i + 1) (by omega)]
    rcases ej with rfl | rfl | rfl | rfl | rfl | rfl <;> rfl
  have s3 : ∀ n i, i < 4 → fX_isUnder_L4 (put I R) P (some 1) (some 0) (n + 1 + 1 + 1) (nI j) (nI 3) (nI i) = some (undN 3 j) := by
    intro n i hi
    rw [st (n + 1 + 1) i 3 (by omega) (by omega), a3, s0 n (i + 1) (by omega)]
    rcases ej with rfl | rfl | rfl | rfl | rfl | rfl <;> rfl
  show fX_isUnder_L4 _ _ _ _ (19996 + 1 + 1 + 1 + 1) _ _ (nI 0) = _
  rcases (show k = 0 ∨ k = 1 ∨ k = 2 ∨ k = 3 ∨ k = 4 ∨ k = 5 by omega) with rfl | rfl | rfl | rfl | rfl | rfl
  · exact s0 _ 0 (by decide)
  · exact s1 _ 0 (by decide)
  · rw [st _ 0 2 (by decide) (by decide), a2, s1 _ (0 + 1) (by decide)]
    rcases ej with rfl | rfl | rfl | rfl | rfl | rfl <;> rfl
  · exact s3 _ 0 (by decide)
  · rw [st _ 0 4 (by decide) (by decide), a4, s0 _ (0 + 1) (by decide)]
    rcases ej with rfl | rfl | rfl | rfl | rfl | rfl <;> rfl
  · rw [st _ 0 5 (by decide) (by decide), a5, s3 _ (0 + 1) (by decide)]
    rcases ej with rfl | rfl | rfl | rfl | rfl | rfl <;> rfl
