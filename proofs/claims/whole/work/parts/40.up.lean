/-! ===== entries that may be written ===== -/
def upok (m r c : Nat) (v : Int32) : Prop := match r with
  | 0 => c = 3 ∨ c = 4 ∨ c = 5 ∨ (c = 1 ∧ ∃ hh, hh ≤ 2000 ∧ v = nI hh) ∨ (c = 2 ∧ (v = 0 ∨ v = 1 ∨ v = 2))
  | 2 => ran m v
  | 3 => ran m v
  | 4 => ran m v
  | 5 => ran m v
  | 7 => ∃ k, 1 ≤ k ∧ k ≤ 9 ∧ v = nI k
  | 8 => v = 0 ∨ v = 1
  | 9 => True
  | 10 => True
  | 15 => ran m v
  | 16 => ran m v
  | 17 => ran m v
  | 18 => ∃ k, k ≤ 99999 ∧ v = nI k
  | 19 => ran m v
  | 20 => ran m v
  | _ => False
theorem am_up_P {w : am_M} {r c r' c' : Nat} {v : Int32} {p : Int32 → Prop} (h : p (w r' c')) (hv : r' = r → c' = c → p v) : p (am_up w r c v r' c') := by
  unfold am_up
  split
  · rename_i e; exact hv e.1 e.2
  · exact h
theorem wiv_up {w : am_M} {t : Nat → Nat → List Nat} {m nb ns ne r c : Nat} {v : Int32} (h : wiv w t m nb ns ne) (hu : upok m r c v) : wiv (am_up w r c v) t m nb ns ne := by
  obtain ⟨h0, hB, hS, hD, hO, hE⟩ := h
  have n0 : ∀ k, k = 0 ∨ k = 6 ∨ k = 7 ∨ k = 8 → am_up w r c v 0 k = w 0 k := fun k hk => by
    unfold am_up
    rw [if_neg]
    rintro ⟨e1, e2⟩
    subst e1
    have hu : c = 3 ∨ c = 4 ∨ c = 5 ∨ (c = 1 ∧ ∃ hh, hh ≤ 2000 ∧ v = nI hh) ∨ (c = 2 ∧ (v = 0 ∨ v = 1 ∨ v = 2)) := hu
    rcases hu with e | e | e | e | e <;> first | omega | (have := e.1; omega)
  have nr : ∀ r', (∀ c v, upok m r' c v → False) → ∀ k, am_up w r c v r' k = w r' k := fun r' hf k => by
    unfold am_up
    rw [if_neg]
    rintro ⟨e1, e2⟩
    subst e1
    exact hf _ _ hu
  refine ⟨?_, ?_, ?_, ?_, ?_, ?_⟩
  · obtain ⟨a1, a2, a3, a4, a5, a6, a7, a8, a9, a10, a11⟩ := h0
    refine ⟨by rw [n0 0 (by decide)]; exact a1, a2, a3, by rw [n0 6 (by decide)]; exact a4, a5, by rw [n0 7 (by decide)]; exact a6, a7, by rw [n0 8 (by decide)]; exact a8, a9, ?_, ?_⟩
    · refine am_up_P (p := fun z => z = 0 ∨ z = 1 ∨ z = 2) a10 (fun e1 e2 => ?_)
      subst e1; subst e2
      have hu : 2 = 3 ∨ 2 = 4 ∨ 2 = 5 ∨ (2 = 1 ∧ ∃ hh, hh ≤ 2000 ∧ v = nI hh) ∨ (2 = 2 ∧ (v = 0 ∨ v = 1 ∨ v = 2)) := hu
      rcases hu with e | e | e | e | e
      · exact absurd e (by decide)
      · exact absurd e (by decide)
      · exact absurd e (by decide)
      · exact absurd e.1 (by decide)
      · exact e.2
    · refine am_up_P (p := fun z => ∃ hh, hh ≤ 2000 ∧ z = nI hh) a11 (fun e1 e2 => ?_)
      subst e1; subst e2
      have hu : 1 = 3 ∨ 1 = 4 ∨ 1 = 5 ∨ (1 = 1 ∧ ∃ hh, hh ≤ 2000 ∧ v = nI hh) ∨ (1 = 2 ∧ (v = 0 ∨ v = 1 ∨ v = 2)) := hu
      rcases hu with e | e | e | e | e
      · exact absurd e (by decide)
      · exact absurd e (by decide)
      · exact absurd e (by decide)
      · exact e.2
      · exact absurd e.1 (by decide)
  · intro i hi
    obtain ⟨a1, a2, a3, a4, a5, a6, a7, a8, a9⟩ := hB i hi
    refine ⟨by rw [nr 1 (fun _ _ z => z)]; exact a1, am_up_P a2 (fun e1 _ => by subst e1; exact hu), am_up_P a3 (fun e1 _ => by subst e1; exact hu), am_up_P a4 (fun e1 _ => by subst e1; exact hu), am_up_P a5 (fun e1 _ => by subst e1; exact hu), by rw [nr 6 (fun _ _ z => z)]; exact a6, am_up_P (p := fun z => ∃ k, 1 ≤ k ∧ k ≤ 9 ∧ z = nI k) a7 (fun e1 _ => by subst e1; exact hu), am_up_P (p := fun z => z = 0 ∨ z = 1) a8 (fun e1 _ => by subst e1; exact hu), a9⟩
  · intro s hs
    obtain ⟨a1, a2, a3, a4, a5, a6, a7, a8, a9, a10⟩ := hS s hs
    refine ⟨by rw [nr 11 (fun _ _ z => z)]; exact a1, by rw [nr 12 (fun _ _ z => z)]; exact a2, by rw [nr 13 (fun _ _ z => z)]; exact a3, by rw [nr 14 (fun _ _ z => z)]; exact a4, am_up_P a5 (fun e1 _ => by subst e1; exact hu), am_up_P a6 (fun e1 _ => by subst e1; exact hu), am_up_P a7 (fun e1 _ => by subst e1; exact hu), am_up_P (p := fun z => ∃ k, k ≤ 99999 ∧ z = nI k) a8 (fun e1 _ => by subst e1; exact hu), am_up_P a9 (fun e1 _ => by subst e1; exact hu), am_up_P a10 (fun e1 _ => by subst e1; exact hu)⟩
  · intro s s' h1 h2 e1 e2
    rw [nr 13 (fun _ _ z => z), nr 13 (fun _ _ z => z)] at e1
    rw [nr 14 (fun _ _ z => z), nr 14 (fun _ _ z => z)] at e2
    exact hD s s' h1 h2 e1 e2
  · refine ⟨fun i hi => by rw [nr 21 (fun _ _ z => z)]; exact hO.1 i hi, fun i j hi hj e => ?_⟩
    rw [nr 21 (fun _ _ z => z), nr 21 (fun _ _ z => z)] at e
    exact hO.2 i j hi hj e
  · intro e he
    obtain ⟨a1, a2, a3⟩ := hE e he
    exact ⟨by rw [nr 22 (fun _ _ z => z)]; exact a1, by rw [nr 23 (fun _ _ z => z)]; exact a2, by rw [nr 24 (fun _ _ z => z)]; exact a3⟩
theorem upok.ne {m r c : Nat} {v : Int32} (h : upok m r c v) : (r < 13 ∨ 14 < r) ∧ ¬ (r = 0 ∧ 6 ≤ c) := by
  refine ⟨?_, ?_⟩
  · rcases (show r < 13 ∨ r = 13 ∨ r = 14 ∨ 14 < r by omega) with e | rfl | rfl | e
    · exact Or.inl e
    · exact absurd h (fun z => z)
    · exact absurd h (fun z => z)
    · exact Or.inr e
  · rintro ⟨rfl, e6⟩
    have h : c = 3 ∨ c = 4 ∨ c = 5 ∨ (c = 1 ∧ ∃ hh, hh ≤ 2000 ∧ v = nI hh) ∨ (c = 2 ∧ (v = 0 ∨ v = 1 ∨ v = 2)) := h
    rcases h with e | e | e | e | e <;> first | omega | (have := e.1; omega)
section UPs
variable {I R : am_M} {P : am_Q} {b : Nat} {w : am_M} {t : Nat → Nat → List Nat} {m nb ns ne : Nat}
/-- one entry is written, by its cell and slot -/
theorem CW.wr (h : CW I R P b w t m nb ns ne) {r c cell slot : Nat} {v : Int32} (hok : okrc r c) (hu : upok m r c v) (ha : aC b r c = (cell, slot)) : CW I (am_up R cell slot v) P b (am_up w r c v) t m nb ns ne := by
  have := h.up (v := v) hok hu.ne.1 hu.ne.2 (wiv_up h.2.2.1 hu)
  rw [ha] at this
  exact this
theorem aC_b (b k i : Nat) (hk : k < 10) : aC b (k + 1) i = (b + 8 + i, k) := by
  unfold aC
  rw [if_neg (by omega), if_pos (by omega)]; rfl
theorem aC_s (b k : Nat) : aC b 0 k = (b, k) := rfl
theorem aC_m (b k i : Nat) (hk : k < 10) : aC b (k + 11) i = (b + 15 + i, k) := by
  unfold aC
  rw [if_neg (by omega), if_neg (by omega), if_pos (by omega)]; rfl
end UPs
