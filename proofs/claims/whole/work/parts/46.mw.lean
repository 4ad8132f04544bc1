/-! ===== the reference's rows hold the value w with the texts t ===== -/
def MW (R : am_M) (w : am_M) (t : Nat → Nat → List Nat) (m nb ns ne : Nat) : Prop := rep (vM R) w ∧ wiv w t m nb ns ne ∧ ∀ i, i < nb → tmr R i (t i)
theorem tmr.kept {A A' : am_M} {x : Nat} {t : Nat → List Nat} (h : tmr A x t) (hA : ∀ c, 342 ≤ c → c < 346 → A' c = A c) : tmr A' x t := by
  intro l hl
  obtain ⟨f, f1, f2, f3, f4⟩ := h l hl
  refine ⟨f, by rw [hA 342 (by decide) (by decide)]; exact f1, by rw [hA 343 (by decide) (by decide)]; exact f2, f3, fun k hk => ?_⟩
  rw [hA 344 (by decide) (by decide), hA 345 (by decide) (by decide)]
  exact f4 k hk
section MWs
variable {R R' w : am_M} {t : Nat → Nat → List Nat} {m nb ns ne : Nat}
theorem wiv.le (h : wiv w t m nb ns ne) : nb ≤ 7 ∧ ns ≤ 14 ∧ ne ≤ 20 ∧ 2 ≤ m ∧ m ≤ 16 := by
  obtain ⟨⟨-, a1, a2, -, a3, -, a4, -, a5, -⟩, -⟩ := h
  exact ⟨a3, a4, a5, a1, a2⟩
theorem MW.le (h : MW R w t m nb ns ne) : nb ≤ 7 ∧ ns ≤ 14 ∧ ne ≤ 20 ∧ 2 ≤ m ∧ m ≤ 16 := h.2.1.le
theorem MW.n (h : MW R w t m nb ns ne) {k : Nat} (hk : k < 9) : R 332 ([5, 3, 6, 4, 7, 8, 0, 1, 2].getD k 0) = w 0 k := by
  have h1 := h.1 0 k (Or.inl ⟨rfl, hk⟩)
  rw [vM_rd (Or.inl ⟨rfl, hk⟩) (Or.inl (by decide))] at h1
  exact h1
theorem MW.n0 (h : MW R w t m nb ns ne) : R 332 0 = nI nb := (h.n (k := 6) (by decide)).trans h.2.1.1.2.2.2.1
theorem MW.n1 (h : MW R w t m nb ns ne) : R 332 1 = nI ns := (h.n (k := 7) (by decide)).trans h.2.1.1.2.2.2.2.2.1
theorem MW.n2 (h : MW R w t m nb ns ne) : R 332 2 = nI ne := (h.n (k := 8) (by decide)).trans h.2.1.1.2.2.2.2.2.2.2.1
theorem MW.n3 (h : MW R w t m nb ns ne) : R 332 3 = w 0 1 := h.n (k := 1) (by decide)
theorem MW.n4 (h : MW R w t m nb ns ne) : R 332 4 = w 0 3 := h.n (k := 3) (by decide)
theorem MW.n5 (h : MW R w t m nb ns ne) : R 332 5 = nI m := (h.n (k := 0) (by decide)).trans h.2.1.1.1
theorem MW.n6 (h : MW R w t m nb ns ne) : R 332 6 = w 0 2 := h.n (k := 2) (by decide)
theorem MW.n7 (h : MW R w t m nb ns ne) : R 332 7 = w 0 4 := h.n (k := 4) (by decide)
theorem MW.n8 (h : MW R w t m nb ns ne) : R 332 8 = w 0 5 := h.n (k := 5) (by decide)
theorem MW.bx (h : MW R w t m nb ns ne) {r x cell slot : Nat} (h1 : 1 ≤ r) (h2 : r ≤ 10) (hx : x < nb) (ha : aM r x = (cell, slot)) : R cell slot = w r x := by
  have hle := h.le
  have e := h.1 r x (Or.inr (Or.inl ⟨h1, h2, by rw [h.2.1.cnt.1]; exact hx⟩))
  rw [vM_rd (Or.inr (Or.inl ⟨h1, h2, by omega⟩)) (Or.inl (by omega)), ha] at e
  exact e
theorem MW.b1 (h : MW R w t m nb ns ne) {x : Nat} (hx : x < nb) : R 333 x = w 1 x := h.bx (by decide) (by decide) hx rfl
theorem MW.b2 (h : MW R w t m nb ns ne) {x : Nat} (hx : x < nb) : R 334 x = w 2 x := h.bx (by decide) (by decide) hx rfl
theorem MW.b3 (h : MW R w t m nb ns ne) {x : Nat} (hx : x < nb) : R 335 x = w 3 x := h.bx (by decide) (by decide) hx rfl
theorem MW.b4 (h : MW R w t m nb ns ne) {x : Nat} (hx : x < nb) : R 340 (2 * x) = w 4 x := h.bx (by decide) (by decide) hx rfl
theorem MW.b5 (h : MW R w t m nb ns ne) {x : Nat} (hx : x < nb) : R 340 (2 * x + 1) = w 5 x := h.bx (by decide) (by decide) hx rfl
theorem MW.b6 (h : MW R w t m nb ns ne) {x : Nat} (hx : x < nb) : R 336 x = w 6 x := h.bx (by decide) (by decide) hx rfl
theorem MW.b7 (h : MW R w t m nb ns ne) {x : Nat} (hx : x < nb) : R 337 x = w 7 x := h.bx (by decide) (by decide) hx rfl
theorem MW.b8 (h : MW R w t m nb ns ne) {x : Nat} (hx : x < nb) : R 339 x = w 8 x := h.bx (by decide) (by decide) hx rfl
theorem MW.b9 (h : MW R w t m nb ns ne) {x : Nat} (hx : x < nb) : R 341 (2 * x) = w 9 x := h.bx (by decide) (by decide) hx rfl
theorem MW.b10 (h : MW R w t m nb ns ne) {x : Nat} (hx : x < nb) : R 341 (2 * x + 1) = w 10 x := h.bx (by decide) (by decide) hx rfl
theorem MW.bo (h : MW R w t m nb ns ne) {x : Nat} (hx : x < nb) : R 338 x = w 21 x := by
  have hle := h.le
  have e := h.1 21 x (Or.inr (Or.inr (Or.inr (Or.inl ⟨rfl, by rw [h.2.1.cnt.1]; exact hx⟩))))
  rw [vM_rd (Or.inr (Or.inr (Or.inr (Or.inl ⟨rfl, by omega⟩)))) (Or.inr (by decide))] at e
  exact e
theorem MW.sx (h : MW R w t m nb ns ne) {r s cell slot : Nat} (h1 : 15 ≤ r) (h2 : r ≤ 20) (hs : s < ns) (ha : aM r s = (cell, slot)) : R cell slot = w r s := by
  have hle := h.le
  have e := h.1 r s (Or.inr (Or.inr (Or.inl ⟨by omega, h2, by rw [h.2.1.cnt.2.1]; exact hs⟩)))
  rw [vM_rd (Or.inr (Or.inr (Or.inl ⟨by omega, h2, by omega⟩))) (Or.inr (by omega)), ha] at e
  exact e
theorem MW.s15 (h : MW R w t m nb ns ne) {s : Nat} (hs : s < ns) : R 348 s = w 15 s := h.sx (by decide) (by decide) hs rfl
theorem MW.s16 (h : MW R w t m nb ns ne) {s : Nat} (hs : s < ns) : R 349 s = w 16 s := h.sx (by decide) (by decide) hs rfl
theorem MW.s17 (h : MW R w t m nb ns ne) {s : Nat} (hs : s < ns) : R 350 s = w 17 s := h.sx (by decide) (by decide) hs rfl
theorem MW.s18 (h : MW R w t m nb ns ne) {s : Nat} (hs : s < ns) : R 351 s = w 18 s := h.sx (by decide) (by decide) hs rfl
theorem MW.s19 (h : MW R w t m nb ns ne) {s : Nat} (hs : s < ns) : R 352 s = w 19 s := h.sx (by decide) (by decide) hs rfl
theorem MW.s20 (h : MW R w t m nb ns ne) {s : Nat} (hs : s < ns) : R 353 s = w 20 s := h.sx (by decide) (by decide) hs rfl
theorem MW.ends (h : MW R w t m nb ns ne) {s : Nat} (hs : s < ns) : ∃ fb fo tb td, fb < nb ∧ fo < 2 ∧ tb < nb ∧ td < 2 ∧ w 11 s = nI fb ∧ w 12 s = nI fo ∧ w 13 s = nI tb ∧ w 14 s = nI td ∧ R 346 s = nI (10 * fb + fo) ∧ R 347 s = nI (10 * tb + td) := by
  have hle := h.le
  obtain ⟨⟨fb, hfb, e11⟩, ⟨fo, hfo, e12⟩, ⟨tb, htb, e13⟩, ⟨td, htd, e14⟩, -⟩ := h.2.1.2.2.1 s hs
  have hw : ∀ r, 11 ≤ r → r ≤ 14 → vM R r s = w r s := fun r a1 a2 => h.1 r s (Or.inr (Or.inr (Or.inl ⟨a1, by omega, by rw [h.2.1.cnt.2.1]; exact hs⟩)))
  have ok : ∀ r, 11 ≤ r → r ≤ 14 → okrc r s := fun r a1 a2 => Or.inr (Or.inr (Or.inl ⟨a1, by omega, by omega⟩))
  have g11 := hw 11 (by decide) (by decide)
  have g12 := hw 12 (by decide) (by decide)
  have g13 := hw 13 (by decide) (by decide)
  have g14 := hw 14 (by decide) (by decide)
  unfold vM at g11 g12 g13 g14
  rw [if_pos (ok 11 (by decide) (by decide)), if_pos (by decide), e11] at g11
  rw [if_pos (ok 12 (by decide) (by decide)), if_neg (by decide), if_pos (by decide), e12] at g12
  rw [if_pos (ok 13 (by decide) (by decide)), if_pos (by decide), e13] at g13
  rw [if_pos (ok 14 (by decide) (by decide)), if_neg (by decide), if_pos (by decide), e14] at g14
  exact ⟨fb, fo, tb, td, hfb, hfo, htb, htd, e11, e12, e13, e14, code10 g11 g12, code10 g13 g14⟩
theorem MW.ex (h : MW R w t m nb ns ne) {r e cell slot : Nat} (h1 : 22 ≤ r) (h2 : r ≤ 24) (he : e < ne) (ha : aM r e = (cell, slot)) : R cell slot = w r e := by
  have hle := h.le
  have e1 := h.1 r e (Or.inr (Or.inr (Or.inr (Or.inr ⟨h1, h2, by rw [h.2.1.cnt.2.2]; exact he⟩))))
  rw [vM_rd (Or.inr (Or.inr (Or.inr (Or.inr ⟨h1, h2, by omega⟩)))) (Or.inr (by omega)), ha] at e1
  exact e1
theorem MW.e22 (h : MW R w t m nb ns ne) {e : Nat} (he : e < ne) : R 354 e = w 22 e := h.ex (by decide) (by decide) he rfl
theorem MW.e23 (h : MW R w t m nb ns ne) {e : Nat} (he : e < ne) : R 355 e = w 23 e := h.ex (by decide) (by decide) he rfl
theorem MW.e24 (h : MW R w t m nb ns ne) {e : Nat} (he : e < ne) : R 356 e = w 24 e := h.ex (by decide) (by decide) he rfl
theorem MW.fr (h : MW R w t m nb ns ne) (hR : ∀ c, 332 ≤ c → c < 357 → R' c = R c) : MW R' w t m nb ns ne := by
  refine ⟨?_, h.2.1, fun i hi => (h.2.2 i hi).kept (fun c h1 h2 => hR c (by omega) (by omega))⟩
  rw [vM_congr (fun c h1 h2 _ => hR c h1 h2)]
  exact h.1
theorem MW.wr (h : MW R w t m nb ns ne) {r c cell slot : Nat} {v : Int32} (hok : okrc r c) (hu : upok m r c v) (ha : aM r c = (cell, slot)) : MW (am_up R cell slot v) (am_up w r c v) t m nb ns ne := by
  have hr : r < 11 ∨ 14 < r := by
    rcases (show r < 11 ∨ r = 11 ∨ r = 12 ∨ r = 13 ∨ r = 14 ∨ 14 < r by omega) with e | rfl | rfl | rfl | rfl | e
    · exact Or.inl e
    · exact absurd hu (fun z => z)
    · exact absurd hu (fun z => z)
    · exact absurd hu (fun z => z)
    · exact absurd hu (fun z => z)
    · exact Or.inr e
  have hg := aM_rng hok
  rw [ha] at hg
  refine ⟨?_, wiv_up h.2.1 hu, fun i hi => (h.2.2 i hi).kept (fun c' h1 h2 => by funext k; rw [am_up_ne (by omega)])⟩
  have := vM_up (A := R) (v := v) hok hr
  rw [ha] at this
  rw [this]
  exact h.1.up hu.ne.2
end MWs
/-- what an hour of the reference leaves alone -/
def frM (R R' : am_M) : Prop := (∀ c, c ≠ 330 → c ≠ 358 → (c < 332 ∨ 357 ≤ c) → R' c = R c) ∧ ∀ k, k ≠ 50 → R' 330 k = R 330 k
theorem frM.rfl {R : am_M} : frM R R := ⟨fun _ _ _ _ => _root_.rfl, fun _ _ => _root_.rfl⟩
theorem frM.tr {R R' R'' : am_M} (h : frM R R') (h2 : frM R' R'') : frM R R'' := ⟨fun c a b d => (h2.1 c a b d).trans (h.1 c a b d), fun k hk => (h2.2 k hk).trans (h.2 k hk)⟩
theorem frM.up {R : am_M} {c k : Nat} {v : Int32} (h : 332 ≤ c ∧ c < 357) : frM R (am_up R c k v) := ⟨fun c' _ _ hc => by funext j; rw [am_up_ne (by omega)], fun j _ => by rw [am_up_ne (by omega)]⟩
theorem frM.cl {R R' : am_M} (h : ∀ c, c ≠ 358 → R' c = R c) : frM R R' := ⟨fun c _ h2 _ => h c h2, fun k _ => by rw [h 330 (by decide)]⟩
/-- only boolean rows are made -/
def frI (I I' : am_M) : Prop := ∀ a, am_t a ≠ 21 → I' a = I a
theorem frI.rfl {I : am_M} : frI I I := fun _ _ => _root_.rfl
theorem frI.tr {I I' I'' : am_M} (h : frI I I') (h2 : frI I' I'') : frI I I'' := fun a ha => (h2 a ha).trans (h a ha)
theorem frI.up {I : am_M} {a k : Nat} {v : Int32} (h : am_t a = 21) : frI I (am_up I a k v) := fun a' h' => by funext j; rw [am_up_ne (fun z => h' (by rw [z]; exact h))]
theorem frI.set {I : am_M} {a : Nat} {g : Nat → Int32} (h : am_t a = 21) : frI I (am_set I a g) := fun a' h' => am_setne (fun z => h' (by rw [z]; exact h))
