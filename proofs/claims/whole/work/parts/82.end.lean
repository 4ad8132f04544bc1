/-! ===== when all is worked, on machines ===== -/
noncomputable def mxF (Q : Nat → Prop) (g : Nat → Nat) : Nat → Nat → Nat → Nat
  | 0, _, v => v
  | n + 1, s, v => mxF Q g n (s + 1) (cif (Q s) (max v (g s)) v)
theorem mxF_s {Q : Nat → Prop} {g : Nat → Nat} : ∀ (n s v : Nat), v ≤ mxF Q g n s v ∧ (∀ k, s ≤ k → k < s + n → Q k → g k ≤ mxF Q g n s v) ∧ (mxF Q g n s v = v ∨ ∃ k, s ≤ k ∧ k < s + n ∧ Q k ∧ mxF Q g n s v = g k)
  | 0, s, v => ⟨Nat.le_refl _, fun k h1 h2 => absurd h2 (by omega), Or.inl rfl⟩
  | n + 1, s, v => by
    show v ≤ mxF Q g n (s + 1) _ ∧ (∀ k, s ≤ k → k < s + (n + 1) → Q k → g k ≤ mxF Q g n (s + 1) _) ∧ (mxF Q g n (s + 1) _ = v ∨ ∃ k, s ≤ k ∧ k < s + (n + 1) ∧ Q k ∧ mxF Q g n (s + 1) _ = g k)
    obtain ⟨i1, i2, i3⟩ := mxF_s (Q := Q) (g := g) n (s + 1) (cif (Q s) (max v (g s)) v)
    by_cases q : Q s
    · rw [cif_t q] at i1 i2 i3 ⊢
      refine ⟨by omega, fun k h1 h2 hk => ?_, ?_⟩
      · by_cases e : k = s
        · subst e; omega
        · exact i2 k (by omega) (by omega) hk
      · rcases i3 with e | ⟨k, k1, k2, k3, k4⟩
        · rcases (show max v (g s) = v ∨ max v (g s) = g s by omega) with z | z
          · exact Or.inl (e.trans z)
          · exact Or.inr ⟨s, Nat.le_refl _, by omega, q, e.trans z⟩
        · exact Or.inr ⟨k, by omega, by omega, k3, k4⟩
    · rw [cif_f q] at i1 i2 i3 ⊢
      refine ⟨i1, fun k h1 h2 hk => ?_, ?_⟩
      · by_cases e : k = s
        · subst e; exact absurd hk q
        · exact i2 k (by omega) (by omega) hk
      · rcases i3 with e | ⟨k, k1, k2, k3, k4⟩
        · exact Or.inl e
        · exact Or.inr ⟨k, by omega, by omega, k3, k4⟩
theorem mxF_eq {Q Q' : Nat → Prop} {g g' : Nat → Nat} {n n' v : Nat} (h1 : ∀ k, k < n → Q k → ∃ k', k' < n' ∧ Q' k' ∧ g' k' = g k) (h2 : ∀ k, k < n' → Q' k → ∃ k', k' < n ∧ Q k' ∧ g k' = g' k) : mxF Q g n 0 v = mxF Q' g' n' 0 v := by
  obtain ⟨a1, a2, a3⟩ := mxF_s (Q := Q) (g := g) n 0 v
  obtain ⟨b1, b2, b3⟩ := mxF_s (Q := Q') (g := g') n' 0 v
  refine Nat.le_antisymm ?_ ?_
  · rcases a3 with e | ⟨k, -, k2, k3, k4⟩
    · rw [e]; exact b1
    · obtain ⟨k', c1, c2, c3⟩ := h1 k (by omega) k3
      rw [k4, ← c3]; exact b2 k' (by omega) (by omega) c2
  · rcases b3 with e | ⟨k, -, k2, k3, k4⟩
    · rw [e]; exact a1
    · obtain ⟨k', c1, c2, c3⟩ := h2 k (by omega) k3
      rw [k4, ← c3]; exact a2 k' (by omega) (by omega) c2
theorem mxF_le {Q : Nat → Prop} {g : Nat → Nat} {n s v B : Nat} (hv : v ≤ B) (hg : ∀ k, g k ≤ B) : mxF Q g n s v ≤ B := by
  obtain ⟨-, -, a3⟩ := mxF_s (Q := Q) (g := g) n s v
  rcases a3 with e | ⟨k, -, -, -, e⟩
  · omega
  · rw [e]; exact hg k
theorem mx_i {a b : Nat} (ha : a < 100000) (hb : b < 100000) : sm_max (nI a) (nI b) = nI (max a b) := by
  unfold sm_max
  by_cases h : a < b
  · rw [if_pos (by rw [nI_ltI (by omega) (by omega)]; exact h), Nat.max_eq_right (by omega)]
  · rw [if_neg (by rw [nI_ltI (by omega) (by omega)]; exact h), Nat.max_eq_left (by omega)]
def upN (f : Nat → Nat) (k v : Nat) : Nat → Nat := fun i => if i = k then v else f i
def od (w : am_M) (j : Nat) : Nat := ix (w 21 j)
/-- a seam that goes to b and comes from a box ahead of place j -/
def ahP (w : am_M) (j b s : Nat) : Prop := w 13 s = nI b ∧ ∃ e, e < j ∧ od w e = ix (w 11 s)
def fdP (w : am_M) (ns a b : Nat) : Prop := ∃ s, s < ns ∧ w 13 s = nI b ∧ ix (w 11 s) = a
noncomputable def enV (w : am_M) (ns : Nat) (f : Nat → Nat) (j : Nat) (E M : Nat → Nat) : Nat := mxF (ahP w j (od w j)) (fun s => E (ix (w 11 s))) ns 0 (M (f (od w j))) + ix (w 7 (od w j))
noncomputable def enF (w : am_M) (ns : Nat) (f : Nat → Nat) : Nat → Nat → (Nat → Nat) → (Nat → Nat) → Nat → Nat
  | 0, _, _, _, T => T
  | d + 1, j, E, M, T => enF w ns f d (j + 1) (upN E (od w j) (enV w ns f j E M)) (upN M (f (od w j)) (enV w ns f j E M)) (max T (enV w ns f j E M))
theorem enF_le {w : am_M} {ns : Nat} {f : Nat → Nat} : ∀ (d j : Nat) (E M : Nat → Nat) (T : Nat), T ≤ enF w ns f d j E M T
  | 0, _, _, _, _ => Nat.le_refl _
  | d + 1, j, E, M, T => by
    show T ≤ enF w ns f d (j + 1) _ _ (max T (enV w ns f j E M))
    have := enF_le (w := w) (ns := ns) (f := f) d (j + 1) (upN E (od w j) (enV w ns f j E M)) (upN M (f (od w j)) (enV w ns f j E M)) (max T (enV w ns f j E M))
    omega
/-- the whole: when all is worked if box b is laid on f b -/
noncomputable def enT (w : am_M) (nb ns : Nat) (f : Nat → Nat) : Nat := enF w ns f nb 0 (fun _ => 0) (fun _ => 0) 0
section EndP
variable {w : am_M} {t : Nat → Nat → List Nat} {m nb ns ne : Nat}
theorem wiv.odp (h : wiv w t m nb ns ne) {j : Nat} (hj : j < nb) : od w j < nb ∧ w 21 j = nI (od w j) := by
  have hle := h.le
  obtain ⟨o, ho, e⟩ := h.2.2.2.2.1.1 j hj
  have : od w j = o := by unfold od; rw [e]; exact nI_clamp (by omega)
  rw [this]; exact ⟨ho, e⟩
theorem wiv.odi (h : wiv w t m nb ns ne) {i j : Nat} (hi : i < nb) (hj : j < nb) (e : od w i = od w j) : i = j :=
  h.2.2.2.2.1.2 i j hi hj (by rw [(h.odp hi).2, (h.odp hj).2, e])
theorem wiv.tm (h : wiv w t m nb ns ne) {b : Nat} (hb : b < nb) : ∃ k, 1 ≤ k ∧ k ≤ 9 ∧ w 7 b = nI k ∧ ix (w 7 b) = k := by
  obtain ⟨k, h1, h2, e⟩ := (h.2.1 b hb).2.2.2.2.2.2.1
  exact ⟨k, h1, h2, e, by rw [e]; exact nI_clamp (by omega)⟩
theorem enV_le (h : wiv w t m nb ns ne) {f E M : Nat → Nat} {j : Nat} (hj : j < nb) (hE : ∀ a, E a ≤ 9 * j) (hM : ∀ a, M a ≤ 9 * j) : enV w ns f j E M ≤ 9 * (j + 1) := by
  obtain ⟨k, h1, h2, -, e⟩ := h.tm (h.odp hj).1
  unfold enV
  rw [e]
  have := mxF_le (Q := ahP w j (od w j)) (g := fun s => E (ix (w 11 s))) (n := ns) (s := 0) (hM (f (od w j))) (fun k => hE _)
  omega
theorem upN_le {f : Nat → Nat} {k v B B' : Nat} (h : ∀ a, f a ≤ B) (hv : v ≤ B') (hB : B ≤ B') : ∀ a, upN f k v a ≤ B' := by
  intro a
  unfold upN
  split
  · exact hv
  · exact Nat.le_trans (h a) hB
theorem enF_bd (h : wiv w t m nb ns ne) {f : Nat → Nat} : ∀ (d j : Nat) (E M : Nat → Nat) (T : Nat), j + d = nb → (∀ a, E a ≤ 9 * j) → (∀ a, M a ≤ 9 * j) → T ≤ 9 * j → enF w ns f d j E M T ≤ 9 * nb
  | 0, j, _, _, T, hj, _, _, hT => by show T ≤ 9 * nb; omega
  | d + 1, j, E, M, T, hj, hE, hM, hT => by
    have hv := enV_le h (f := f) (show j < nb by omega) hE hM
    exact enF_bd h d (j + 1) _ _ _ (by omega) (upN_le hE hv (by omega)) (upN_le hM hv (by omega)) (by omega)
theorem enT_bd (h : wiv w t m nb ns ne) {f : Nat → Nat} : enT w nb ns f ≤ 63 := by
  have hle := h.le
  have := enF_bd h (f := f) nb 0 (fun _ => 0) (fun _ => 0) 0 (by omega) (fun _ => Nat.zero_le _) (fun _ => Nat.zero_le _) (Nat.zero_le _)
  unfold enT
  omega
/-- only the boxes that are there count -/
theorem enV_cg (h : wiv w t m nb ns ne) {f f' E M : Nat → Nat} {j : Nat} (hj : j < nb) (hf : ∀ b, b < nb → f b = f' b) : enV w ns f j E M = enV w ns f' j E M := by
  unfold enV
  rw [hf _ (h.odp hj).1]
theorem enF_cg (h : wiv w t m nb ns ne) {f f' : Nat → Nat} (hf : ∀ b, b < nb → f b = f' b) : ∀ (d j : Nat) (E M : Nat → Nat) (T : Nat), j + d = nb → enF w ns f d j E M T = enF w ns f' d j E M T
  | 0, _, _, _, _, _ => rfl
  | d + 1, j, E, M, T, hj => by
    show enF w ns f d (j + 1) _ _ _ = enF w ns f' d (j + 1) _ _ _
    rw [enV_cg h (show j < nb by omega) hf, hf _ (h.odp (show j < nb by omega)).1]
    exact enF_cg h hf d (j + 1) _ _ _ (by omega)
theorem enT_cg (h : wiv w t m nb ns ne) {f f' : Nat → Nat} (hf : ∀ b, b < nb → f b = f' b) : enT w nb ns f = enT w nb ns f' := enF_cg h hf nb 0 _ _ _ (by omega)
theorem enV_c (h : wiv w t m nb ns ne) {f E M : Nat → Nat} {j : Nat} (hj : j < nb) : mxF (fun e => fdP w ns (od w e) (od w j)) (fun e => E (od w e)) j 0 (M (f (od w j))) + ix (w 7 (od w j)) = enV w ns f j E M := by
  unfold enV
  congr 1
  refine mxF_eq (fun e he hQ => ?_) (fun s hs hQ => ?_)
  · obtain ⟨s, hs, e1, e2⟩ := hQ
    exact ⟨s, hs, ⟨e1, e, he, e2.symm⟩, by show E (ix (w 11 s)) = E (od w e); rw [e2]⟩
  · obtain ⟨e1, e, he, e2⟩ := hQ
    exact ⟨e, he, ⟨s, hs, e1, e2.symm⟩, by show E (od w e) = E (ix (w 11 s)); rw [e2]⟩
end EndP
theorem bt_an : ∀ a, a < 128 → ∀ b, b < 7 → nI a &&& sm_shl 1 (nI b) = nI (a &&& 2 ^ b) ∧ (a &&& 2 ^ b) < 128 := by decide +kernel
theorem bt_ant : ∀ a, a < 128 → ∀ b, b < 7 → ∀ c, c < 7 → ((a &&& 2 ^ b).testBit c = true ↔ (a.testBit c = true ∧ c = b)) := by decide +kernel
noncomputable def waD (w : am_M) (ns A b d : Nat) : Nat := cif (sinF w b d 0 ns < 0) 0 (A &&& 2 ^ ix (w 11 (ix (sinF w b d 0 ns))))
/-- what the class keeps of the boxes that feed the box at place j -/
def wtP (w : am_M) (ns : Nat) (R : am_M) (j : Nat) : Prop := ∃ W, W < 128 ∧ R 319 (od w j) = nI W ∧ ∀ e, e < j → (W.testBit (od w e) = true ↔ fdP w ns (od w e) (od w j))
def ahB (w : am_M) (j A : Nat) : Prop := A < 128 ∧ ∀ a, a < 7 → (A.testBit a = true ↔ ∃ e, e < j ∧ od w e = a)
section EndC
variable {I R : am_M} {P : am_Q} {nx : Nat} {w : am_M} {t : Nat → Nat → List Nat} {m nb ns ne : Nat}
theorem ahB.add (hw : wiv w t m nb ns ne) {j A : Nat} (h : ahB w j A) (hj : j < nb) : ahB w (j + 1) (A ||| 2 ^ od w j) := by
  have hle := hw.le
  have ho := (hw.odp hj).1
  refine ⟨(bt_or A h.1 (od w j) (by omega)).2, fun a ha => ?_⟩
  rw [bt_set A h.1 (od w j) (by omega) a ha, h.2 a ha]
  constructor
  · rintro (⟨e, e1, e2⟩ | z)
    · exact ⟨e, by omega, e2⟩
    · exact ⟨j, by omega, z.symm⟩
  · rintro ⟨e, e1, e2⟩
    by_cases z : e = j
    · subst z; exact Or.inr e2.symm
    · exact Or.inl ⟨e, by omega, e2⟩
theorem ahB.zero : ahB w 0 0 := ⟨by decide, fun a ha => ⟨fun z => absurd z (by simp), fun ⟨e, h, _⟩ => absurd h (Nat.not_lt_zero _)⟩⟩
theorem waD_lt (h : wiv w t m nb ns ne) {A b d : Nat} (hA : A < 128) : waD w ns A b d < 128 := by
  have hle := h.le
  unfold waD
  by_cases q : sinF w b d 0 ns < 0
  · rw [cif_t q]; decide
  · rw [cif_f q]
    rcases sinF_cases w b d ns 0 with e | ⟨k, k1, k2, e, -⟩
    · exact absurd (by rw [e]; decide) q
    · rw [e, show ix (nI k) = k from nI_clamp (by omega)]
      obtain ⟨f, hf, -, ef⟩ := h.f7 (s := k) (by omega)
      rw [ef]; exact (bt_an A hA f hf).2
theorem waD_tb (h : wiv w t m nb ns ne) {A b d c : Nat} (hA : A < 128) (hc : c < 7) : (waD w ns A b d).testBit c = true ↔ (A.testBit c = true ∧ ∃ s, s < ns ∧ w 13 s = nI b ∧ w 14 s = nI d ∧ ix (w 11 s) = c) := by
  have hle := h.le
  unfold waD
  by_cases q : sinF w b d 0 ns < 0
  · rw [cif_t q]
    refine ⟨fun z => absurd z (by simp), ?_⟩
    rintro ⟨-, k, hk, e1, e2, -⟩
    rcases sinF_cases w b d ns 0 with e | ⟨j, j1, j2, e, -⟩
    · exact absurd ⟨e1, e2⟩ (sinF_none ns 0 (by omega) e k (by omega) (by omega))
    · rw [e] at q
      exact absurd q (nI_pos (by omega))
  · rw [cif_f q]
    rcases sinF_cases w b d ns 0 with e | ⟨k, k1, k2, e, e13, e14⟩
    · exact absurd (by rw [e]; decide) q
    · rw [e, show ix (nI k) = k from nI_clamp (by omega)]
      obtain ⟨f, hf, -, ef⟩ := h.f7 (s := k) (by omega)
      rw [ef, bt_ant A hA f hf c hc]
      constructor
      · rintro ⟨z1, z⟩
        exact ⟨z1, k, by omega, e13, e14, by rw [ef]; exact z.symm⟩
      · rintro ⟨z1, j, hj, g1, g2, g3⟩
        have : j = k := h.2.2.2.1 j k hj (by omega) (g1.trans e13.symm) (g2.trans e14.symm)
        subst this
        rw [ef] at g3
        exact ⟨z1, g3.symm⟩
theorem x_wt1 (hS : SP P) (h : CW I R P 7 w t m nb ns ne) {A b d V : Nat} {l3 : Int32} (hA : A < 128) (hb : b < nb) (hd : d < 2) (hV : V < 128) (hR : R 319 b = nI V) {ex : Nat → Nat → Int32 → Int32 → Int32 → am_M → Option am_M} {r : Nat → Nat → Int32 → Int32 → Int32 → Int32 → am_M → Option am_M} : ∃ R', fC_findWaits_B31 P ex r (am_pk 314 0 5) (am_pk 7 0 11) (nI A) l3 (nI b) (nI d) (put I R) = r (am_pk 314 0 5) (am_pk 7 0 11) (nI A) l3 (nI b) (nI (d + 1)) (put I R') ∧ R' 319 b = nI (V ||| waD w ns A b d) ∧ (∀ k, k ≠ b → R' 319 k = R 319 k) ∧ ∀ c, c ≠ 319 → R' c = R c := by
  have hle := h.le
  have hw := h.1
  have hb7 : b < 7 := by omega
  have hx := x_seamInto (I := I) hS hw hb hle.1 hd h.c6
  rw [h.2.2.2.2 b hb d hd] at hx
  rcases sinF_cases w b d ns 0 with e | ⟨k, k1, k2, e, -⟩
  · refine ⟨R, ?_, ?_, fun _ _ => rfl, fun _ _ => rfl⟩
    · unfold fC_findWaits_B31 fC_findWaits_J76
      rw [if_neg (by rw [l_2, nI_leI (by omega) (by omega)]; omega), sm_ck_pos (am_t_pk (by decide)), hx, Option.bind_some, e, if_pos (by decide), bd_eq, nI_1]
    · unfold waD
      rw [e, cif_t (by decide), Nat.or_zero]; exact hR
  · obtain ⟨f, hf, ef, efi⟩ := h.2.2.1.f7 (s := k) (by omega)
    have hk14 : k < 14 := by omega
    have r0 : R (7 + 15 + k) 0 = nI f := (h.rm (show k < ns by omega) (by decide)).trans ef
    have hwa : waD w ns A b d = A &&& 2 ^ f := by
      unfold waD
      rw [e, cif_f (nI_pos (by omega)), show ix (nI k) = k from nI_clamp (by omega), efi]
    have ba := bt_an A hA f hf
    refine ⟨am_up R 319 b (nI (V ||| waD w ns A b d)), ?_, am_up_eq, fun k hk => am_up_nk hk, fun c hc => by funext j; rw [am_up_ne hc]⟩
    unfold fC_findWaits_B31 fC_findWaits_J76
    rw [if_neg (by rw [l_2, nI_leI (by omega) (by omega)]; omega), sm_ck_pos (am_t_pk (by decide)), hx, Option.bind_some, e, if_neg (nI_pos (by omega)), sm_ck_pos (am_t_pk (by decide)), sp_314_4 hS, sp_w10 hS hw, nI_clamp (show k < 2 ^ 31 by omega), nI_clamp (show b < 2 ^ 31 by omega), sp_sm hS hw hk14, sm_ck_pos (sm_in_nI (by decide) hb7), sm_ck_pos (sm_ia_nI (by decide) (by decide) (by decide) hk14), sm_ck_pos (am_t_pk (by decide)), put_rd (sc_sm hw hk14), r0, put_rd sc_319, hR, sm_ck_pos (sm_iw_nI (by decide) (by decide) hb7), ba.1, bt_oi V hV _ ba.2, put_up sc_319, bd_eq, bd_eq, nI_1, hwa]
theorem x_wtL (hS : SP P) : ∀ (d j fu A : Nat) (R : am_M), d < fu → j + d = nb → CW I R P 7 w t m nb ns ne → ahB w j A → (∀ j', j' < j → wtP w ns R j') → ∃ R', fC_findWaits_L4 P (fun I => some I) fu (am_pk 314 0 5) (am_pk 7 0 11) (nI A) (nI j) (put I R) = some (put I R') ∧ (∀ j', j' < nb → wtP w ns R' j') ∧ ∀ c, c ≠ 319 → R' c = R c
  | 0, j, fu, A, R, h1, h2, h, hA, hj => by
    obtain ⟨fu, rfl⟩ : ∃ n', fu = n' + 1 := ⟨fu - 1, by omega⟩
    have hle := h.le
    refine ⟨R, ?_, fun j' hj' => hj j' (by omega), fun _ _ => rfl⟩
    show fC_findWaits_B4 _ _ _ _ _ _ _ _ = _
    unfold fC_findWaits_B4
    rw [sm_ck_pos (am_t_pk (by decide)), put_rd (sc_w0 h.1), h.c6, if_pos (by rw [nI_leI (by omega) (by omega)]; omega)]
  | d + 1, j, fu, A, R, h1, h2, h, hA, hj => by
    obtain ⟨fu, rfl⟩ : ∃ n', fu = n' + 1 := ⟨fu - 1, by omega⟩
    have hle := h.le
    have hw := h.1
    have hjn : j < nb := by omega
    obtain ⟨ho, eo⟩ := h.2.2.1.odp hjn
    have ho7 : od w j < 7 := by omega
    have ro : R (7 + 3) j = nI (od w j) := (h.ro hjn).trans eo
    have h0 : CW I (am_up R 319 (od w j) 0) P 7 w t m nb ns ne := h.fr (fun c c1 c2 => by funext k; rw [am_up_ne (by omega)]) (fun c hc => by funext k; rw [am_up_ne (by omega)])
    obtain ⟨R1, y1, y2, y3, y4⟩ := x_wt1 hS h0 (A := A) (b := od w j) (d := 0) (V := 0) (l3 := nI j) hA.1 ho (by decide) (by decide) am_up_eq (ex := fun l0 l1 l2 l3 l4 I => sm_bd (l2 ||| (sm_shl 1 l4)) fun x19 => sm_bd (l3 + 1) fun x20 => fC_findWaits_L4 P (fun I => some I) fu l0 l1 x19 x20 I) (r := fC_findWaits_L31 P (fun l0 l1 l2 l3 l4 I => sm_bd (l2 ||| (sm_shl 1 l4)) fun x19 => sm_bd (l3 + 1) fun x20 => fC_findWaits_L4 P (fun I => some I) fu l0 l1 x19 x20 I) (19997 + 1 + 1))
    rw [Nat.zero_or] at y2
    have c1 : CW I R1 P 7 w t m nb ns ne := h0.fr (fun c c1 c2 => y4 c (by omega)) (fun c hc => y4 c (by omega))
    obtain ⟨R2, z1, z2, z3, z4⟩ := x_wt1 hS c1 (A := A) (b := od w j) (d := 1) (l3 := nI j) hA.1 ho (by decide) (waD_lt h.2.2.1 hA.1) y2 (ex := fun l0 l1 l2 l3 l4 I => sm_bd (l2 ||| (sm_shl 1 l4)) fun x19 => sm_bd (l3 + 1) fun x20 => fC_findWaits_L4 P (fun I => some I) fu l0 l1 x19 x20 I) (r := fC_findWaits_L31 P (fun l0 l1 l2 l3 l4 I => sm_bd (l2 ||| (sm_shl 1 l4)) fun x19 => sm_bd (l3 + 1) fun x20 => fC_findWaits_L4 P (fun I => some I) fu l0 l1 x19 x20 I) (19997 + 1))
    have c2 : CW I R2 P 7 w t m nb ns ne := c1.fr (fun c c1 c2 => z4 c (by omega)) (fun c hc => z4 c (by omega))
    have key : wtP w ns R2 j := by
      refine ⟨_, bt_o2 (waD_lt h.2.2.1 hA.1) (waD_lt h.2.2.1 hA.1), z2, fun e he => ?_⟩
      have he7 : od w e < 7 := by have := (h.2.2.1.odp (show e < nb by omega)).1; omega
      rw [bt_t2, waD_tb h.2.2.1 hA.1 he7, waD_tb h.2.2.1 hA.1 he7]
      have ha : A.testBit (od w e) = true := (hA.2 _ he7).mpr ⟨e, he, rfl⟩
      constructor
      · rintro (⟨-, s, s1, s2, s3, s4⟩ | ⟨-, s, s1, s2, s3, s4⟩)
        · exact ⟨s, s1, s2, s4⟩
        · exact ⟨s, s1, s2, s4⟩
      · rintro ⟨s, s1, s2, s4⟩
        obtain ⟨-, -, -, ⟨dd, hdd, ed⟩, -⟩ := h.2.2.1.2.2.1 s s1
        rcases (show dd = 0 ∨ dd = 1 by omega) with rfl | rfl
        · exact Or.inl ⟨ha, s, s1, s2, ed, s4⟩
        · exact Or.inr ⟨ha, s, s1, s2, ed, s4⟩
    obtain ⟨R', x1, x2, x3⟩ := x_wtL hS d (j + 1) fu _ R2 (by omega) (by omega) c2 (hA.add h.2.2.1 hjn) (fun j' hj' => by
      by_cases e : j' = j
      · rw [e]; exact key
      · have hne : od w j' ≠ od w j := fun z => e (h.2.2.1.odi (by omega) hjn z)
        obtain ⟨W, w1, w2, w3⟩ := hj j' (by omega)
        exact ⟨W, w1, by rw [z3 _ hne, y3 _ hne, am_up_nk hne]; exact w2, w3⟩)
    refine ⟨R', ?_, x2, fun c hc => by rw [x3 c hc, z4 c hc, y4 c hc]; funext k; rw [am_up_ne hc]⟩
    show fC_findWaits_B4 _ _ _ _ _ _ _ _ = _
    unfold fC_findWaits_B4
    rw [sm_ck_pos (am_t_pk (by decide)), put_rd (sc_w0 hw), h.c6, if_neg (by rw [nI_leI (by omega) (by omega)]; omega), sp_w11 hS hw, nI_clamp (show j < 2 ^ 31 by omega), put_rd (sc_w3 hw), ro, sm_ck_pos (sm_in_nI (by decide) (by omega)), bd_eq, sm_ck_pos (am_t_pk (by decide)), sp_314_4 hS, sm_ck_pos (sm_iw_nI (by decide) (by decide) ho7), nI_clamp (show od w j < 2 ^ 31 by omega), put_up sc_319, bd_eq, show sm_fu = 19997 + 1 + 1 + 1 from rfl]
    show fC_findWaits_B31 P _ (fC_findWaits_L31 P _ (19997 + 1 + 1)) _ _ _ _ _ (nI 0) _ = _
    rw [y1]
    show fC_findWaits_B31 P _ (fC_findWaits_L31 P _ (19997 + 1)) _ _ _ _ _ (nI 1) _ = _
    rw [z1]
    show fC_findWaits_B31 P _ _ _ _ _ _ _ (nI 2) _ = _
    unfold fC_findWaits_B31
    rw [if_pos (by decide)]
    dsimp only
    rw [bd_eq, bd_eq, (bt_or A hA.1 (od w j) ho7).1, nI_1]
    exact x1
theorem x_waits (hS : SP P) (h : CW I R P 7 w t m nb ns ne) : ∃ R', fC_findWaits P (am_pk 314 0 5) (am_pk 7 0 11) (put I R) = some (put I R') ∧ (∀ j', j' < nb → wtP w ns R' j') ∧ ∀ c, c ≠ 319 → R' c = R c := by
  have hle := h.le
  exact x_wtL hS nb 0 sm_fu 0 R (sm_fu_lt (by omega)) (by omega) h ahB.zero (fun j' hj' => absurd hj' (Nat.not_lt_zero _))
theorem x_ebL (hS : SP P) (h : CW I R P 7 w t m nb ns ne) {j : Nat} {E : Nat → Nat} {l2 l3 l6 : Int32} (hj : j < nb) (hW : wtP w ns R j) (hE : ∀ e, e < j → R 318 (od w e) = nI (E (od w e))) (hEb : ∀ a, E a ≤ 63) {ex : Nat → Nat → Int32 → Int32 → Int32 → Int32 → Int32 → Int32 → am_M → Option (Int32 × am_M)} : ∀ (d e fu v : Nat), d < fu → e + d = j → v ≤ 63 → fC_endBelow_L52 P ex fu (am_pk 314 0 5) (am_pk 7 0 11) l2 l3 (nI j) (nI (od w j)) l6 (nI v) (nI e) (put I R) = ex (am_pk 314 0 5) (am_pk 7 0 11) l2 l3 (nI j) (nI (od w j)) l6 (nI (mxF (fun e => fdP w ns (od w e) (od w j)) (fun e => E (od w e)) d e v)) (put I R)
  | 0, e, fu, v, h1, h2, hv => by
    obtain ⟨fu, rfl⟩ : ∃ n', fu = n' + 1 := ⟨fu - 1, by omega⟩
    have hle := h.le
    show fC_endBelow_B52 _ _ _ _ _ _ _ _ _ _ _ _ _ = _
    unfold fC_endBelow_B52
    rw [if_pos (by rw [nI_leI (by omega) (by omega)]; omega)]
    rfl
  | d + 1, e, fu, v, h1, h2, hv => by
    obtain ⟨fu, rfl⟩ : ∃ n', fu = n' + 1 := ⟨fu - 1, by omega⟩
    have hle := h.le
    have hw := h.1
    obtain ⟨ho, eo⟩ := h.2.2.1.odp (show e < nb by omega)
    have ho7 : od w e < 7 := by omega
    have hoj : od w j < 7 := by have := (h.2.2.1.odp hj).1; omega
    have ro : R (7 + 3) e = nI (od w e) := (h.ro (show e < nb by omega)).trans eo
    obtain ⟨W, w1, w2, w3⟩ := hW
    have bt := bt_tst W w1 (od w e) ho7
    have hv' : cif (fdP w ns (od w e) (od w j)) (max v (E (od w e))) v ≤ 63 := by
      have := hEb (od w e)
      by_cases q : fdP w ns (od w e) (od w j)
      · rw [cif_t q]; omega
      · rw [cif_f q]; exact hv
    show fC_endBelow_B52 _ _ _ _ _ _ _ _ _ _ _ _ _ = ex _ _ _ _ _ _ _ (nI (mxF _ _ d (e + 1) (cif (fdP w ns (od w e) (od w j)) (max v (E (od w e))) v))) _
    rw [← x_ebL hS h hj ⟨W, w1, w2, w3⟩ hE hEb (l2 := l2) (l3 := l3) (l6 := l6) (ex := ex) d (e + 1) fu _ (by omega) (by omega) hv']
    unfold fC_endBelow_B52 fC_endBelow_J98
    rw [if_neg (by rw [nI_leI (by omega) (by omega)]; omega), sm_ck_pos (am_t_pk (by decide)), sp_w11 hS hw, nI_clamp (show e < 2 ^ 31 by omega), put_rd (sc_w3 hw), ro, sm_ck_pos (sm_in_nI (by decide) (by omega)), bd_eq, sm_ck_pos (am_t_pk (by decide)), sp_314_4 hS, sp_314_3 hS, nI_clamp (show od w j < 2 ^ 31 by omega), nI_clamp (show od w e < 2 ^ 31 by omega), put_rd sc_319, put_rd sc_318, w2, hE e (by omega), sm_ck_pos (sm_in_nI (by decide) hoj), sm_ck_pos (sm_in_nI (by decide) ho7), bd_eq, bd_eq, bd_eq, nI_1, mx_i (by omega) (by have := hEb (od w e); omega)]
    by_cases q : fdP w ns (od w e) (od w j)
    · rw [cif_t q, if_neg (fun z => z (bt.mpr ((w3 e (by omega)).mpr q)))]
    · rw [cif_f q, if_pos (fun z => q ((w3 e (by omega)).mp (bt.mp z)))]
end EndC
