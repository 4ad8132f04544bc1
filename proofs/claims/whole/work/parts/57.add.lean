/-! ===== a world that grows ===== -/
def rpq (Q : Nat → Nat → Prop) (v w : am_M) : Prop := ∀ r c, Q r c → v r c = w r c
theorem rpq.up {Q : Nat → Nat → Prop} {v w : am_M} (h : rpq Q v w) {r c : Nat} {x : Int32} : rpq (fun r' c' => Q r' c' ∨ (r' = r ∧ c' = c)) (am_up v r c x) (am_up w r c x) := by
  intro r' c' hq
  by_cases e : r' = r ∧ c' = c
  · obtain ⟨rfl, rfl⟩ := e
    rw [am_up_eq, am_up_eq]
  · have hq' := hq.resolve_right e
    unfold am_up
    rw [if_neg e, if_neg e]
    exact h r' c' hq'
theorem rpq.upm {Q Q' : Nat → Nat → Prop} {v w : am_M} {r c : Nat} {x : Int32} (h : rpq Q v w) (hq : ∀ r' c', Q' r' c' → Q r' c' ∨ (r' = r ∧ c' = c)) : rpq Q' (am_up v r c x) (am_up w r c x) := fun r' c' z => h.up r' c' (hq r' c' z)
def QS (nb ns ne k : Nat) : Nat → Nat → Prop := fun r c => (r = 0 ∧ c < 9) ∨ (1 ≤ r ∧ r ≤ 10 ∧ c < nb) ∨ (11 ≤ r ∧ r ≤ 20 ∧ c < ns) ∨ (r = 21 ∧ c < nb) ∨ (22 ≤ r ∧ r ≤ 24 ∧ c < ne) ∨ (c = ns ∧ 11 ≤ r ∧ r ≤ k)
theorem QS_s {nb ns ne k : Nat} : ∀ r c, QS nb ns ne (k + 1) r c → QS nb ns ne k r c ∨ (r = k + 1 ∧ c = ns) := by
  intro r c h
  unfold QS at h ⊢
  omega
def QB (nb ns ne k : Nat) : Nat → Nat → Prop := fun r c => (r = 0 ∧ c < 9) ∨ (1 ≤ r ∧ r ≤ 10 ∧ c < nb) ∨ (11 ≤ r ∧ r ≤ 20 ∧ c < ns) ∨ (r = 21 ∧ c < nb) ∨ (22 ≤ r ∧ r ≤ 24 ∧ c < ne) ∨ (c = nb ∧ 1 ≤ r ∧ r ≤ k)
theorem QB_s {nb ns ne k : Nat} : ∀ r c, QB nb ns ne (k + 1) r c → QB nb ns ne k r c ∨ (r = k + 1 ∧ c = nb) := by
  intro r c h
  unfold QB at h ⊢
  omega
theorem rep.q {v w : am_M} {nb ns ne : Nat} (h : rep v w) (h1 : wnb w = nb) (h2 : wns w = ns) (h3 : wne w = ne) : rpq (fun r c => (r = 0 ∧ c < 9) ∨ (1 ≤ r ∧ r ≤ 10 ∧ c < nb) ∨ (11 ≤ r ∧ r ≤ 20 ∧ c < ns) ∨ (r = 21 ∧ c < nb) ∨ (22 ≤ r ∧ r ≤ 24 ∧ c < ne)) v w := by
  intro r c hq
  refine h r c ?_
  unfold wrl
  rw [h1, h2, h3]; exact hq
theorem rep.of {v w : am_M} {nb ns ne : Nat} {Q : Nat → Nat → Prop} (h : rpq Q v w) (h1 : wnb w = nb) (h2 : wns w = ns) (h3 : wne w = ne) (hq : ∀ r c, ((r = 0 ∧ c < 9) ∨ (1 ≤ r ∧ r ≤ 10 ∧ c < nb) ∨ (11 ≤ r ∧ r ≤ 20 ∧ c < ns) ∨ (r = 21 ∧ c < nb) ∨ (22 ≤ r ∧ r ≤ 24 ∧ c < ne)) → Q r c) : rep v w := by
  intro r c hr
  unfold wrl at hr
  rw [h1, h2, h3] at hr
  exact h r c (hq r c hr)
section WIC
variable {w w' : am_M} {t t' : Nat → Nat → List Nat} {m nb ns ne : Nat}
theorem wiB_cg (h : wiB w t m nb) (e : ∀ r, 1 ≤ r → r ≤ 10 → ∀ i, i < nb → w' r i = w r i) (et : ∀ i, i < nb → t' i = t i) : wiB w' t' m nb := by
  intro i hi
  have := h i hi
  rw [e 1 (by decide) (by decide) i hi, e 2 (by decide) (by decide) i hi, e 3 (by decide) (by decide) i hi, e 4 (by decide) (by decide) i hi, e 5 (by decide) (by decide) i hi, e 6 (by decide) (by decide) i hi, e 7 (by decide) (by decide) i hi, e 8 (by decide) (by decide) i hi, et i hi]
  exact this
theorem wiS_cg {nb' : Nat} (h : wiS w m nb ns) (e : ∀ r, 11 ≤ r → r ≤ 20 → ∀ i, i < ns → w' r i = w r i) (hn : nb ≤ nb') : wiS w' m nb' ns := by
  intro i hi
  have := h i hi
  rw [e 11 (by decide) (by decide) i hi, e 12 (by decide) (by decide) i hi, e 13 (by decide) (by decide) i hi, e 14 (by decide) (by decide) i hi, e 15 (by decide) (by decide) i hi, e 16 (by decide) (by decide) i hi, e 17 (by decide) (by decide) i hi, e 18 (by decide) (by decide) i hi, e 19 (by decide) (by decide) i hi, e 20 (by decide) (by decide) i hi]
  obtain ⟨⟨a, a1, a2⟩, b, ⟨c, c1, c2⟩, r⟩ := this
  exact ⟨⟨a, by omega, a2⟩, b, ⟨c, by omega, c2⟩, r⟩
theorem wiD_cg (h : wiD w ns) (e : ∀ r, 13 ≤ r → r ≤ 14 → ∀ i, i < ns → w' r i = w r i) : wiD w' ns := by
  intro s s' h1 h2 e1 e2
  rw [e 13 (by decide) (by decide) s h1, e 13 (by decide) (by decide) s' h2] at e1
  rw [e 14 (by decide) (by decide) s h1, e 14 (by decide) (by decide) s' h2] at e2
  exact h s s' h1 h2 e1 e2
theorem wiO_cg (h : wiO w nb) (e : ∀ i, i < nb → w' 21 i = w 21 i) : wiO w' nb := by
  refine ⟨fun i hi => by rw [e i hi]; exact h.1 i hi, fun i j hi hj z => ?_⟩
  rw [e i hi, e j hj] at z
  exact h.2 i j hi hj z
theorem wiE_cg {nb' : Nat} (h : wiE w m nb ne) (e : ∀ r, 22 ≤ r → r ≤ 24 → ∀ i, i < ne → w' r i = w r i) (hn : nb ≤ nb') : wiE w' m nb' ne := by
  intro i hi
  have := h i hi
  rw [e 22 (by decide) (by decide) i hi, e 23 (by decide) (by decide) i hi, e 24 (by decide) (by decide) i hi]
  obtain ⟨a, ⟨c, c1, c2⟩, r⟩ := this
  exact ⟨a, ⟨c, by omega, c2⟩, r⟩
end WIC
theorem sinF_cg {w w' : am_M} {x d : Nat} : ∀ (n s : Nat), (∀ j, s ≤ j → j < s + n → w' 13 j = w 13 j ∧ w' 14 j = w 14 j) → sinF w' x d s n = sinF w x d s n
  | 0, _, _ => rfl
  | n + 1, s, h => by
    show (if _ then _ else _) = (if _ then _ else _)
    rw [(h s (by omega) (by omega)).1, (h s (by omega) (by omega)).2, sinF_cg n (s + 1) (fun j h1 h2 => h j (by omega) (by omega))]
theorem nI_nm1 {k : Nat} (h : k < 1000) : ¬ nI k = -1 := fun e => by
  have := nI_pos' (n := k) (by omega)
  rw [e] at this
  exact absurd this (by decide)
theorem sinF_none {w : am_M} {x d : Nat} : ∀ (n s : Nat), s + n < 1000 → sinF w x d s n = -1 → ∀ j, s ≤ j → j < s + n → ¬ (w 13 j = nI x ∧ w 14 j = nI d)
  | 0, s, _, _, j, h1, h2 => absurd h2 (by omega)
  | n + 1, s, hs, h, j, h1, h2 => by
    have h : (if w 13 s = nI x ∧ w 14 s = nI d then nI s else sinF w x d (s + 1) n) = -1 := h
    by_cases e : w 13 s = nI x ∧ w 14 s = nI d
    · rw [if_pos e] at h
      exact absurd h (nI_nm1 (by omega))
    · rw [if_neg e] at h
      by_cases ej : j = s
      · rw [ej]; exact e
      · exact sinF_none n (s + 1) (by omega) h j (by omega) (by omega)
theorem sinF_all {w : am_M} {x d : Nat} : ∀ (n s : Nat), (∀ j, s ≤ j → j < s + n → ¬ (w 13 j = nI x ∧ w 14 j = nI d)) → sinF w x d s n = -1
  | 0, _, _ => rfl
  | n + 1, s, h => by
    show (if _ then _ else _) = _
    rw [if_neg (h s (by omega) (by omega))]
    exact sinF_all n (s + 1) (fun j h1 h2 => h j (by omega) (by omega))
theorem sinF_ext {w : am_M} {x d : Nat} : ∀ (n s : Nat), s + n < 1000 → sinF w x d s (n + 1) = if sinF w x d s n = -1 then (if w 13 (s + n) = nI x ∧ w 14 (s + n) = nI d then nI (s + n) else -1) else sinF w x d s n
  | 0, s, hs => by
    show (if _ then _ else _) = (if (-1 : Int32) = -1 then _ else _)
    rw [if_pos (show (-1 : Int32) = -1 from rfl)]
    rfl
  | n + 1, s, hs => by
    have ih := sinF_ext (w := w) (x := x) (d := d) n (s + 1) (by omega)
    show (if w 13 s = nI x ∧ w 14 s = nI d then nI s else sinF w x d (s + 1) (n + 1)) = if (if w 13 s = nI x ∧ w 14 s = nI d then nI s else sinF w x d (s + 1) n) = -1 then _ else (if w 13 s = nI x ∧ w 14 s = nI d then nI s else sinF w x d (s + 1) n)
    by_cases e : w 13 s = nI x ∧ w 14 s = nI d
    · rw [if_pos e, if_pos e, if_neg (nI_nm1 (by omega))]
    · rw [if_neg e, if_neg e, ih, show s + 1 + n = s + (n + 1) by omega]
theorem vM_ends {A : am_M} {s a c cell r : Nat} (hs : s < 14) (ha : a < 100) (hc : c < 10) (hr : (cell = 346 ∧ r = 11) ∨ (cell = 347 ∧ r = 13)) : vM (am_up A cell s (nI (10 * a + c))) = am_up (am_up (vM A) r s (nI a)) (r + 1) s (nI c) := by
  funext r' c'
  by_cases h' : okrc r' c'
  · have hcell : ∀ r', okrc r' c' → ((aM r' c').1 = cell ↔ (r' = r ∨ r' = r + 1)) := by
      intro r' h'
      unfold okrc at h'
      rcases (show r' = 0 ∨ r' = 1 ∨ r' = 2 ∨ r' = 3 ∨ r' = 4 ∨ r' = 5 ∨ r' = 6 ∨ r' = 7 ∨ r' = 8 ∨ r' = 9 ∨ r' = 10 ∨ r' = 11 ∨ r' = 12 ∨ r' = 13 ∨ r' = 14 ∨ r' = 15 ∨ r' = 16 ∨ r' = 17 ∨ r' = 18 ∨ r' = 19 ∨ r' = 20 ∨ r' = 21 ∨ r' = 22 ∨ r' = 23 ∨ r' = 24 by omega) with rfl | rfl | rfl | rfl | rfl | rfl | rfl | rfl | rfl | rfl | rfl | rfl | rfl | rfl | rfl | rfl | rfl | rfl | rfl | rfl | rfl | rfl | rfl | rfl | rfl <;> simp [aM] <;> omega
    have hc1 := hcell r' h'
    by_cases e : r' = r ∨ r' = r + 1
    · have hslot : aM r' c' = (cell, c') := by
        rcases hr with ⟨rfl, rfl⟩ | ⟨rfl, rfl⟩
        · rcases e with rfl | rfl <;> rfl
        · rcases e with rfl | rfl <;> rfl
      unfold vM
      rw [if_pos h', hslot]
      by_cases es : c' = s
      · subst es
        simp only [am_up_eq]
        rcases hr with ⟨rfl, rfl⟩ | ⟨rfl, rfl⟩
        · rcases e with rfl | rfl
          · rw [if_pos (by decide), d10 ha hc, am_up_ne (by decide), am_up_eq]
          · rw [if_neg (by decide), if_pos (by decide), r10 ha hc, am_up_eq]
        · rcases e with rfl | rfl
          · rw [if_pos (by decide), d10 ha hc, am_up_ne (by decide), am_up_eq]
          · rw [if_neg (by decide), if_pos (by decide), r10 ha hc, am_up_eq]
      · rw [am_up_nk es, am_up_nk es, am_up_nk es, if_pos h', hslot]
    · have e1 : am_up A cell s (nI (10 * a + c)) (aM r' c').1 (aM r' c').2 = A (aM r' c').1 (aM r' c').2 := am_up_ne (fun z => e (hc1.mp z))
      rw [am_up_ne (fun z => e (Or.inr z)), am_up_ne (fun z => e (Or.inl z))]
      unfold vM
      rw [if_pos h', if_pos h', e1]
  · have n1 : ¬ (r' = r ∧ c' = s) := fun z => h' (by rw [z.1, z.2]; rcases hr with ⟨-, rfl⟩ | ⟨-, rfl⟩ <;> exact Or.inr (Or.inr (Or.inl ⟨by decide, by decide, hs⟩)))
    have n2 : ¬ (r' = r + 1 ∧ c' = s) := fun z => h' (by rw [z.1, z.2]; rcases hr with ⟨-, rfl⟩ | ⟨-, rfl⟩ <;> exact Or.inr (Or.inr (Or.inl ⟨by decide, by decide, hs⟩)))
    unfold am_up vM
    rw [if_neg h', if_neg n2, if_neg n1, if_neg h']
