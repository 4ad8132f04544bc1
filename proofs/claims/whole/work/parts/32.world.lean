/-! ===== A WORLD AS A VALUE: w r c. Row 0: 0 whole, 1 hour, 2 rule, 3 leaps, 4 leftHour, 5 leftSeam, 6 boxes, 7 seams, 8 events. Boxes: 1 kind, 2 p, 3 q, 4 a, 5 b, 6 jump, 7 time, 8 turned, 9 lastA, 10 lastB. Seams: 11 fromBox, 12 out, 13 toBox, 14 door, 15 last, 16 before, 17 earlier, 18 owes, 19 low, 20 high. 21 order. Events: 22 hour, 23 box, 24 number ===== -/
def wnb (w : am_M) : Nat := (w 0 6).toNatClampNeg
def wns (w : am_M) : Nat := (w 0 7).toNatClampNeg
def wne (w : am_M) : Nat := (w 0 8).toNatClampNeg
/-- what there is room for -/
def okrc (r c : Nat) : Prop := (r = 0 ∧ c < 9) ∨ (1 ≤ r ∧ r ≤ 10 ∧ c < 7) ∨ (11 ≤ r ∧ r ≤ 20 ∧ c < 14) ∨ (r = 21 ∧ c < 7) ∨ (22 ≤ r ∧ r ≤ 24 ∧ c < 20)
/-- what counts -/
def wrl (w : am_M) (r c : Nat) : Prop := (r = 0 ∧ c < 9) ∨ (1 ≤ r ∧ r ≤ 10 ∧ c < wnb w) ∨ (11 ≤ r ∧ r ≤ 20 ∧ c < wns w) ∨ (r = 21 ∧ c < wnb w) ∨ (22 ≤ r ∧ r ≤ 24 ∧ c < wne w)
def wcap (w : am_M) : Prop := wnb w ≤ 7 ∧ wns w ≤ 14 ∧ wne w ≤ 20
theorem wrl.ok {w : am_M} {r c : Nat} (h : wrl w r c) (hc : wcap w) : okrc r c := by
  unfold wrl at h; unfold okrc; obtain ⟨h1, h2, h3⟩ := hc; omega
/-- where the class keeps it: cell and slot, in the World that begins at cell b -/
def aC (b r c : Nat) : Nat × Nat := if r = 0 then (b, c) else if r ≤ 10 then (b + 8 + c, r - 1) else if r ≤ 20 then (b + 15 + c, r - 11) else if r = 21 then (b + 3, c) else (b + (r - 17), c)
theorem aC_inj {b r c r' c' : Nat} (h : okrc r c) (h' : okrc r' c') (h1 : (aC b r c).1 = (aC b r' c').1) (h2 : (aC b r c).2 = (aC b r' c').2) : r = r' ∧ c = c' := by
  unfold okrc at h h'
  unfold aC at h1 h2
  repeat' split at h1
  all_goals (repeat' split at h2)
  all_goals (simp only [] at h1 h2; omega)
theorem aC_rng {b r c : Nat} (h : okrc r c) : b ≤ (aC b r c).1 ∧ (aC b r c).1 < b + 29 ∧ (aC b r c).1 ≠ b + 1 ∧ (aC b r c).1 ≠ b + 2 ∧ (aC b r c).1 ≠ b + 4 := by
  unfold okrc at h
  unfold aC
  repeat' split
  all_goals (first | omega | (simp only []; omega))
noncomputable def vC (R : am_M) (b : Nat) : am_M := fun r c => @ite _ (okrc r c) (Classical.propDecidable _) (R (aC b r c).1 (aC b r c).2) 0
theorem vC_rd {R : am_M} {b r c : Nat} (h : okrc r c) : vC R b r c = R (aC b r c).1 (aC b r c).2 := by unfold vC; rw [if_pos h]
theorem vC_up {R : am_M} {b r c : Nat} {v : Int32} (h : okrc r c) : vC (am_up R (aC b r c).1 (aC b r c).2 v) b = am_up (vC R b) r c v := by
  funext r' c'
  by_cases h' : okrc r' c'
  · rw [vC_rd h']
    by_cases e : r' = r ∧ c' = c
    · obtain ⟨rfl, rfl⟩ := e
      rw [am_up_eq, am_up_eq]
    · have hne : ¬ ((aC b r' c').1 = (aC b r c).1 ∧ (aC b r' c').2 = (aC b r c).2) := fun z => e (aC_inj h' h z.1 z.2)
      have e1 : am_up R (aC b r c).1 (aC b r c).2 v (aC b r' c').1 (aC b r' c').2 = R (aC b r' c').1 (aC b r' c').2 := by unfold am_up; rw [if_neg hne]
      have e2 : am_up (vC R b) r c v r' c' = vC R b r' c' := by unfold am_up; rw [if_neg e]
      rw [e1, e2, vC_rd h']
  · have e : ¬ (r' = r ∧ c' = c) := fun z => h' (by rw [z.1, z.2]; exact h)
    have e2 : am_up (vC R b) r c v r' c' = vC R b r' c' := by unfold am_up; rw [if_neg e]
    rw [e2]
    unfold vC
    rw [if_neg h', if_neg h']
theorem vC_congr {R R' : am_M} {b : Nat} (h : ∀ c, b ≤ c → c < b + 29 → c ≠ b + 1 → c ≠ b + 2 → c ≠ b + 4 → R' c = R c) : vC R' b = vC R b := by
  funext r c
  by_cases hr : okrc r c
  · rw [vC_rd hr, vC_rd hr]
    obtain ⟨h1, h2, h3, h4, h5⟩ := aC_rng (b := b) hr
    rw [h _ h1 h2 h3 h4 h5]
  · unfold vC
    rw [if_neg hr, if_neg hr]
/-- the reference: its rows by their cells (A = R for the live ones) -/
def aM (r c : Nat) : Nat × Nat := if r = 0 then (332, [5, 3, 6, 4, 7, 8, 0, 1, 2].getD c 0) else if r ≤ 3 then (332 + r, c) else if r = 4 then (340, 2 * c) else if r = 5 then (340, 2 * c + 1) else if r = 6 then (336, c) else if r = 7 then (337, c) else if r = 8 then (339, c) else if r = 9 then (341, 2 * c) else if r = 10 then (341, 2 * c + 1) else if r ≤ 12 then (346, c) else if r ≤ 14 then (347, c) else if r ≤ 20 then (333 + r, c) else if r = 21 then (338, c) else (332 + r, c)
def iM (cell slot : Nat) : Nat × Nat := if cell = 332 then (0, [6, 7, 8, 1, 3, 0, 2, 4, 5].getD slot 0) else if cell = 333 then (1, slot) else if cell = 334 then (2, slot) else if cell = 335 then (3, slot) else if cell = 336 then (6, slot) else if cell = 337 then (7, slot) else if cell = 338 then (21, slot) else if cell = 339 then (8, slot) else if cell = 340 then (if slot % 2 = 0 then (4, slot / 2) else (5, slot / 2)) else if cell = 341 then (if slot % 2 = 0 then (9, slot / 2) else (10, slot / 2)) else if cell < 354 then (cell - 333, slot) else (cell - 332, slot)
set_option maxRecDepth 100000 in
theorem iM_aM {r c : Nat} (h : okrc r c) (hr : r < 11 ∨ 14 < r) : iM (aM r c).1 (aM r c).2 = (r, c) := by
  unfold okrc at h
  rcases (show r = 0 ∨ r = 1 ∨ r = 2 ∨ r = 3 ∨ r = 4 ∨ r = 5 ∨ r = 6 ∨ r = 7 ∨ r = 8 ∨ r = 9 ∨ r = 10 ∨ r = 15 ∨ r = 16 ∨ r = 17 ∨ r = 18 ∨ r = 19 ∨ r = 20 ∨ r = 21 ∨ r = 22 ∨ r = 23 ∨ r = 24 by omega) with rfl | rfl | rfl | rfl | rfl | rfl | rfl | rfl | rfl | rfl | rfl | rfl | rfl | rfl | rfl | rfl | rfl | rfl | rfl | rfl | rfl
  · rcases (show c = 0 ∨ c = 1 ∨ c = 2 ∨ c = 3 ∨ c = 4 ∨ c = 5 ∨ c = 6 ∨ c = 7 ∨ c = 8 by omega) with rfl | rfl | rfl | rfl | rfl | rfl | rfl | rfl | rfl <;> rfl
  · rfl
  · rfl
  · rfl
  · show (if 2 * c % 2 = 0 then (4, 2 * c / 2) else (5, 2 * c / 2)) = (4, c)
    rw [if_pos (by omega), show 2 * c / 2 = c by omega]
  · show (if (2 * c + 1) % 2 = 0 then (4, (2 * c + 1) / 2) else (5, (2 * c + 1) / 2)) = (5, c)
    rw [if_neg (by omega), show (2 * c + 1) / 2 = c by omega]
  · rfl
  · rfl
  · rfl
  · show (if 2 * c % 2 = 0 then (9, 2 * c / 2) else (10, 2 * c / 2)) = (9, c)
    rw [if_pos (by omega), show 2 * c / 2 = c by omega]
  · show (if (2 * c + 1) % 2 = 0 then (9, (2 * c + 1) / 2) else (10, (2 * c + 1) / 2)) = (10, c)
    rw [if_neg (by omega), show (2 * c + 1) / 2 = c by omega]
  all_goals rfl
theorem aM_inj {r c r' c' : Nat} (h : okrc r c) (h' : okrc r' c') (hr : r < 11 ∨ 14 < r) (hr' : r' < 11 ∨ 14 < r') (h1 : (aM r c).1 = (aM r' c').1) (h2 : (aM r c).2 = (aM r' c').2) : r = r' ∧ c = c' := by
  have e1 := iM_aM h hr
  have e2 := iM_aM h' hr'
  rw [h1, h2, e2] at e1
  exact ⟨(congrArg Prod.fst e1).symm, (congrArg Prod.snd e1).symm⟩
/-- the value that the reference's rows hold -/
noncomputable def vM (A : am_M) : am_M := fun r c => @ite _ (okrc r c) (Classical.propDecidable _) (if r = 11 ∨ r = 13 then A (aM r c).1 (aM r c).2 / 10 else if r = 12 ∨ r = 14 then sm_rem (A (aM r c).1 (aM r c).2) 10 else A (aM r c).1 (aM r c).2) 0
theorem vM_rd {A : am_M} {r c : Nat} (h : okrc r c) (hr : r < 11 ∨ 14 < r) : vM A r c = A (aM r c).1 (aM r c).2 := by
  unfold vM; rw [if_pos h, if_neg (by omega), if_neg (by omega)]
theorem vM_up {A : am_M} {r c : Nat} {v : Int32} (h : okrc r c) (hr : r < 11 ∨ 14 < r) : vM (am_up A (aM r c).1 (aM r c).2 v) = am_up (vM A) r c v := by
  funext r' c'
  by_cases h' : okrc r' c'
  · by_cases hr' : r' < 11 ∨ 14 < r'
    · rw [vM_rd h' hr']
      by_cases e : r' = r ∧ c' = c
      · obtain ⟨rfl, rfl⟩ := e
        rw [am_up_eq, am_up_eq]
      · have hne : ¬ ((aM r' c').1 = (aM r c).1 ∧ (aM r' c').2 = (aM r c).2) := fun z => e (aM_inj h' h hr' hr z.1 z.2)
        have e1 : am_up A (aM r c).1 (aM r c).2 v (aM r' c').1 (aM r' c').2 = A (aM r' c').1 (aM r' c').2 := by unfold am_up; rw [if_neg hne]
        have e2 : am_up (vM A) r c v r' c' = vM A r' c' := by unfold am_up; rw [if_neg e]
        rw [e1, e2, vM_rd h' hr']
    · have e : ¬ (r' = r ∧ c' = c) := fun z => hr' (by rw [z.1]; exact hr)
      have e2 : am_up (vM A) r c v r' c' = vM A r' c' := by unfold am_up; rw [if_neg e]
      rw [e2]
      have hcell : (aM r' c').1 = 346 ∨ (aM r' c').1 = 347 := by
        rcases (show r' = 11 ∨ r' = 12 ∨ r' = 13 ∨ r' = 14 by omega) with rfl | rfl | rfl | rfl
        · exact Or.inl rfl
        · exact Or.inl rfl
        · exact Or.inr rfl
        · exact Or.inr rfl
      have hcell2 : (aM r c).1 ≠ 346 ∧ (aM r c).1 ≠ 347 := by
        unfold okrc at h
        rcases (show r = 0 ∨ r = 1 ∨ r = 2 ∨ r = 3 ∨ r = 4 ∨ r = 5 ∨ r = 6 ∨ r = 7 ∨ r = 8 ∨ r = 9 ∨ r = 10 ∨ r = 15 ∨ r = 16 ∨ r = 17 ∨ r = 18 ∨ r = 19 ∨ r = 20 ∨ r = 21 ∨ r = 22 ∨ r = 23 ∨ r = 24 by omega) with rfl | rfl | rfl | rfl | rfl | rfl | rfl | rfl | rfl | rfl | rfl | rfl | rfl | rfl | rfl | rfl | rfl | rfl | rfl | rfl | rfl <;> simp [aM]
      have hcne : ¬ (aM r' c').1 = (aM r c).1 := by
        rcases hcell with z | z
        · rw [z]; exact fun y => hcell2.1 y.symm
        · rw [z]; exact fun y => hcell2.2 y.symm
      have e1 : am_up A (aM r c).1 (aM r c).2 v (aM r' c').1 (aM r' c').2 = A (aM r' c').1 (aM r' c').2 := am_up_ne hcne
      unfold vM
      rw [e1]
  · have e : ¬ (r' = r ∧ c' = c) := fun z => h' (by rw [z.1, z.2]; exact h)
    have e2 : am_up (vM A) r c v r' c' = vM A r' c' := by unfold am_up; rw [if_neg e]
    rw [e2]
    unfold vM
    rw [if_neg h', if_neg h']
theorem aM_rng {r c : Nat} (h : okrc r c) : 332 ≤ (aM r c).1 ∧ (aM r c).1 < 357 ∧ ((aM r c).1 < 342 ∨ 346 ≤ (aM r c).1) := by
  unfold okrc at h
  rcases (show r = 0 ∨ r = 1 ∨ r = 2 ∨ r = 3 ∨ r = 4 ∨ r = 5 ∨ r = 6 ∨ r = 7 ∨ r = 8 ∨ r = 9 ∨ r = 10 ∨ r = 11 ∨ r = 12 ∨ r = 13 ∨ r = 14 ∨ r = 15 ∨ r = 16 ∨ r = 17 ∨ r = 18 ∨ r = 19 ∨ r = 20 ∨ r = 21 ∨ r = 22 ∨ r = 23 ∨ r = 24 by omega) with rfl | rfl | rfl | rfl | rfl | rfl | rfl | rfl | rfl | rfl | rfl | rfl | rfl | rfl | rfl | rfl | rfl | rfl | rfl | rfl | rfl | rfl | rfl | rfl | rfl <;> simp [aM]
theorem vM_congr {A A' : am_M} (h : ∀ c, 332 ≤ c → c < 357 → (c < 342 ∨ 346 ≤ c) → A' c = A c) : vM A' = vM A := by
  funext r c
  by_cases hr : okrc r c
  · obtain ⟨h1, h2, h3⟩ := aM_rng hr
    unfold vM
    rw [if_pos hr, if_pos hr, h _ h1 h2 h3]
  · unfold vM
    rw [if_neg hr, if_neg hr]
/-- v holds the value w, as far as it counts -/
def rep (v w : am_M) : Prop := ∀ r c, wrl w r c → v r c = w r c
theorem rep.up {v w : am_M} (h : rep v w) {r c : Nat} {x : Int32} (hr : ¬ (r = 0 ∧ 6 ≤ c)) : rep (am_up v r c x) (am_up w r c x) := by
  have hsc : ∀ c', 6 ≤ c' → am_up w r c x 0 c' = w 0 c' := fun c' hc' => by unfold am_up; rw [if_neg (fun z => hr ⟨z.1.symm, by omega⟩)]
  intro r' c' hrl
  have hrl' : wrl w r' c' := by
    unfold wrl wnb wns wne at hrl ⊢
    rw [hsc 6 (by decide), hsc 7 (by decide), hsc 8 (by decide)] at hrl
    exact hrl
  unfold am_up
  split
  · rfl
  · exact h r' c' hrl'
