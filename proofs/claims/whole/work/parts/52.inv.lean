/-! ===== places: saving and loading ===== -/
theorem aM_ln {r c : Nat} (h : okrc r c) : (aM r c).2 < lnT (aM r c).1 := by
  unfold okrc at h
  rcases (show r = 0 ∨ r = 1 ∨ r = 2 ∨ r = 3 ∨ r = 4 ∨ r = 5 ∨ r = 6 ∨ r = 7 ∨ r = 8 ∨ r = 9 ∨ r = 10 ∨ r = 11 ∨ r = 12 ∨ r = 13 ∨ r = 14 ∨ r = 15 ∨ r = 16 ∨ r = 17 ∨ r = 18 ∨ r = 19 ∨ r = 20 ∨ r = 21 ∨ r = 22 ∨ r = 23 ∨ r = 24 by omega) with rfl | rfl | rfl | rfl | rfl | rfl | rfl | rfl | rfl | rfl | rfl | rfl | rfl | rfl | rfl | rfl | rfl | rfl | rfl | rfl | rfl | rfl | rfl | rfl | rfl
  · rcases (show c = 0 ∨ c = 1 ∨ c = 2 ∨ c = 3 ∨ c = 4 ∨ c = 5 ∨ c = 6 ∨ c = 7 ∨ c = 8 by omega) with rfl | rfl | rfl | rfl | rfl | rfl | rfl | rfl | rfl <;> decide
  · show c < lnT 333
    rw [show lnT 333 = 7 by decide]; omega
  · show c < lnT 334
    rw [show lnT 334 = 7 by decide]; omega
  · show c < lnT 335
    rw [show lnT 335 = 7 by decide]; omega
  · show 2 * c < lnT 340
    rw [show lnT 340 = 14 by decide]; omega
  · show 2 * c + 1 < lnT 340
    rw [show lnT 340 = 14 by decide]; omega
  · show c < lnT 336
    rw [show lnT 336 = 7 by decide]; omega
  · show c < lnT 337
    rw [show lnT 337 = 7 by decide]; omega
  · show c < lnT 339
    rw [show lnT 339 = 7 by decide]; omega
  · show 2 * c < lnT 341
    rw [show lnT 341 = 14 by decide]; omega
  · show 2 * c + 1 < lnT 341
    rw [show lnT 341 = 14 by decide]; omega
  · show c < lnT 346
    rw [show lnT 346 = 14 by decide]; omega
  · show c < lnT 346
    rw [show lnT 346 = 14 by decide]; omega
  · show c < lnT 347
    rw [show lnT 347 = 14 by decide]; omega
  · show c < lnT 347
    rw [show lnT 347 = 14 by decide]; omega
  · show c < lnT 348
    rw [show lnT 348 = 14 by decide]; omega
  · show c < lnT 349
    rw [show lnT 349 = 14 by decide]; omega
  · show c < lnT 350
    rw [show lnT 350 = 14 by decide]; omega
  · show c < lnT 351
    rw [show lnT 351 = 14 by decide]; omega
  · show c < lnT 352
    rw [show lnT 352 = 14 by decide]; omega
  · show c < lnT 353
    rw [show lnT 353 = 14 by decide]; omega
  · show c < lnT 338
    rw [show lnT 338 = 7 by decide]; omega
  · show c < lnT 354
    rw [show lnT 354 = 20 by decide]; omega
  · show c < lnT 355
    rw [show lnT 355 = 20 by decide]; omega
  · show c < lnT 356
    rw [show lnT 356 = 20 by decide]; omega
theorem ln_342 : lnT 342 = 28 := by decide
theorem ln_343 : lnT 343 = 28 := by decide
theorem ln_344 : lnT 344 = 560 := by decide
theorem ln_345 : lnT 345 = 560 := by decide
theorem MW.cg {A A' w : am_M} {t : Nat → Nat → List Nat} {m nb ns ne : Nat} (h : MW A w t m nb ns ne) (hA : ∀ c k, 332 ≤ c → c < 357 → k < lnT c → A' c k = A c k) : MW A' w t m nb ns ne := by
  have hle := h.le
  obtain ⟨h1, h2, h3⟩ := h
  obtain ⟨n1, n2, n3⟩ := h2.cnt
  refine ⟨fun r c hrc => ?_, h2, fun i hi l hl => ?_⟩
  · have hok := hrc.ok ⟨by omega, by omega, by omega⟩
    have hg := aM_rng hok
    have e := hA _ _ hg.1 hg.2.1 (aM_ln hok)
    rw [← h1 r c hrc]
    unfold vM
    rw [if_pos hok, if_pos hok, e]
  · obtain ⟨f, f1, f2, f3, f4⟩ := h3 i hi l hl
    refine ⟨f, ?_, ?_, f3, fun k hk => ?_⟩
    · rw [hA 342 _ (by decide) (by decide) (by rw [ln_342]; omega)]; exact f1
    · rw [hA 343 _ (by decide) (by decide) (by rw [ln_343]; omega)]; exact f2
    · rw [hA 344 _ (by decide) (by decide) (by rw [ln_344]; omega), hA 345 _ (by decide) (by decide) (by rw [ln_345]; omega)]; exact f4 k hk
/-- a save to a place leaves the rest alone -/
def frK (pl : Nat) (R R' : am_M) : Prop := (∀ x, x ≠ 357 → x ≠ 330 → R' x = R x) ∧ (∀ k, k ≠ 27 → R' 330 k = R 330 k) ∧ ∀ j, (j < 1500 * pl ∨ 1500 * pl + 1500 ≤ j) → R' 357 j = R 357 j
def frL (R R' : am_M) : Prop := (∀ x, (x < 332 ∨ 357 ≤ x) → x ≠ 330 → R' x = R x) ∧ ∀ k, k ≠ 27 → R' 330 k = R 330 k
section SL
variable {I : am_M} {P : am_Q} {R w : am_M} {t : Nat → Nat → List Nat} {m nb ns ne : Nat}
theorem m_save (hS : SP P) (h : MW R w t m nb ns ne) {pl : Nat} (hpl : pl < 9) : ∃ R', fM_copiesAll P (am_pk 330 0 13) (nI pl) 1 (put I R) = some (put I R') ∧ MW (PK R' pl) w t m nb ns ne ∧ MW R' w t m nb ns ne ∧ frK pl R R' := by
  obtain ⟨R', q, c1, c2, c3, c4, c5⟩ := m_copyO (I := I) (R := R) hS hpl
  have ho := ofT_le' (c := 357) (by decide) (by decide)
  exact ⟨R', q, h.cg (fun c k h1 h2 h3 => c5 c h1 h2 k h3), h.fr (fun c h1 h2 => c1 c (by omega) (by omega)), c1, c2, fun j hj => c4 j (by omega)⟩
theorem m_load (hS : SP P) {pl : Nat} (h : MW (PK R pl) w t m nb ns ne) (hpl : pl < 9) : ∃ R', fM_copiesAll P (am_pk 330 0 13) (nI pl) 0 (put I R) = some (put I R') ∧ MW R' w t m nb ns ne ∧ frL R R' := by
  obtain ⟨R', q, c1, c2, c3, c5⟩ := m_copyI (I := I) (R := R) hS hpl
  exact ⟨R', q, h.cg (fun c k h1 h2 h3 => c5 c h1 h2 k h3), c1, c2⟩
theorem MW.pk {R' : am_M} {pl : Nat} (h : MW (PK R pl) w t m nb ns ne) (hR : ∀ j, 1500 * pl ≤ j → j < 1500 * pl + 1500 → R' 357 j = R 357 j) : MW (PK R' pl) w t m nb ns ne := by
  refine h.cg (fun c k h1 h2 h3 => ?_)
  have := ofT_le h1 h2
  exact hR _ (by omega) (by omega)
end SL
/-! ===== what stands between two calls ===== -/
def hr9 (w : am_M) : Prop := ∃ k, k ≤ 999 ∧ w 0 1 = nI k
/-- the boxes' cells -/
def bxc (c : Nat) : Prop := (∃ b i, isW b ∧ i < 7 ∧ c = b + 8 + i) ∨ c = 305
def lnb (P : am_Q) (nx lp : Nat) : Prop := am_t lp = 4 ∧ am_i lp < nx ∧ am_i (P lp 0) < nx ∧ am_i (P lp 1) < nx ∧ am_i (P lp 2) < nx
/-- all Lines lie among the cells that are made -/
def LB (P : am_Q) (nx : Nat) : Prop := ∀ c, bxc c → lnb P nx (P (am_pk c 0 1) 10)
/-- the rows that were made stay as they are -/
def frJ (nx : Nat) (I I' : am_M) : Prop := ∀ a, am_t a = 20 → am_i a < nx → I' a = I a
theorem frI.J {nx : Nat} {I I' : am_M} (h : frI I I') : frJ nx I I' := fun a h1 _ => h a (by rw [h1]; decide)
theorem frJ.rfl {nx : Nat} {I : am_M} : frJ nx I I := fun _ _ _ => _root_.rfl
theorem frJ.tr {nx nx' : Nat} {I I' I'' : am_M} (h : frJ nx I I') (h2 : frJ nx' I' I'') (hn : nx ≤ nx') : frJ nx I I'' := fun a h1 h3 => (h2 a h1 (by omega)).trans (h a h1 h3)
/-- a kept world: in the class's World at b, in the reference's place pl -/
def KP (I R : am_M) (P : am_Q) (b pl : Nat) : Prop := ∃ w t m nb ns ne, hr9 w ∧ CW I R P b w t m nb ns ne ∧ MW (PK R pl) w t m nb ns ne
/-- findings of both are alike; the plain Lines tell nothing -/
def FND (R : am_M) : Prop := (∀ k, k < 7 → R 329 k = R 331 k) ∧ ∀ l, l < 4 → R 5 l < 0
def TAP (R : am_M) : Prop := ∃ n, n ≤ 80 ∧ R 299 1 = nI n ∧ R 330 32 = nI n ∧ ∀ k, k < n → R 300 k = R 359 k ∧ ∃ c, c < 256 ∧ R 359 k = nI c
/-- numbers of two sheets: alike, or neither is of any use -/
def itm (x y : Int32) : Prop := x = y ∨ (¬ (0 ≤ x ∧ x < 16) ∧ ¬ (0 ≤ y ∧ y < 16))
def SHS (R : am_M) : Prop := ∀ s, s < 4 → R 369 s = R (321 + 2 * s) 1 ∧ R 368 s = R (321 + 2 * s) 2 ∧ (∃ z, z ≤ 24 ∧ R 369 s = nI z) ∧ (R 368 s = 0 ∨ R 368 s = 8 ∨ R 368 s = 16 ∨ R 368 s = 32) ∧ ∀ k, k < 24 → itm (R (322 + 2 * s) k) (R 370 (24 * s + k))
def IMG (I R : am_M) (P : am_Q) : Prop := (R 2 4 = 0 ∨ R 2 4 = 1) ∧ R 330 29 = R 2 4 ∧ (R 2 4 = 1 → KP I R P 94 6)
def HST (I R : am_M) (P : am_Q) : Prop := ∃ f n, f < 6 ∧ n ≤ 6 ∧ R 123 1 = nI f ∧ R 123 2 = nI n ∧ R 330 28 = nI n ∧ ∀ i, i < n → KP I R P (125 + 29 * ((f + i) % 6)) i
def GLB (I : am_M) (P : am_Q) (nx : Nat) : Prop := SP P ∧ apok I ∧ LB P nx ∧ 379 ≤ nx
def REST (I R : am_M) (P : am_Q) (nx : Nat) : Prop := GLB I P nx ∧ FND R ∧ TAP R ∧ SHS R ∧ IMG I R P ∧ HST I R P
def INV (I R : am_M) (P : am_Q) (nx : Nat) (w : am_M) (t : Nat → Nat → List Nat) (m nb ns ne : Nat) : Prop := REST I R P nx ∧ hr9 w ∧ CW I R P 7 w t m nb ns ne ∧ MW R w t m nb ns ne
theorem W7 : isW 7 := Or.inl ⟨0, by decide, rfl⟩
theorem W36 : isW 36 := Or.inl ⟨1, by decide, rfl⟩
theorem W65 : isW 65 := Or.inl ⟨2, by decide, rfl⟩
theorem W94 : isW 94 := Or.inl ⟨3, by decide, rfl⟩
theorem Whi {i : Nat} (h : i < 6) : isW (125 + 29 * i) := Or.inr ⟨i, h, rfl⟩
set_option maxRecDepth 100000 in
theorem sp_lo : ∀ q ∈ sp_l, am_i q.1 < 379 := by decide
theorem SP.kept2 {P P' : am_Q} (h : SP P) (hP : ∀ a k, am_t a ≠ 1 → am_i a < 379 → P' a k = P a k) : SP P' := by
  obtain ⟨h1, h2, h3, h4⟩ := h
  have kd : ∀ i n t, t < 32 → t ≠ 1 → am_t (am_pk i n t) ≠ 1 := fun i n t a b => by rw [am_t_pk a]; exact b
  have ki : ∀ i n t, n < 16384 → t < 32 → i < 379 → am_i (am_pk i n t) < 379 := fun i n t a b c => by rw [am_i_pk a b]; exact c
  refine ⟨fun q hq => (hP _ _ (sp_nb q hq) (sp_lo q hq)).trans (h1 q hq), fun b hb => ?_, fun i hi => (hP _ _ (kd _ _ _ (by decide) (by decide)) (ki _ _ _ (by decide) (by decide) (by decide))).trans (h3 i hi), fun i hi => (hP _ _ (kd _ _ _ (by decide) (by decide)) (ki _ _ _ (by decide) (by decide) (by decide))).trans (h4 i hi)⟩
  have hr := hb.rng
  obtain ⟨g1, g2, g3, g4, g5, g6, g7, g8, g9⟩ := h2 b hb
  have e := hP (am_pk b 0 11)
  have kk := kd b 0 11 (by decide) (by decide)
  have kl := ki b 0 11 (by decide) (by decide) (by omega)
  exact ⟨(e _ kk kl).trans g1, (e _ kk kl).trans g2, (e _ kk kl).trans g3, (e _ kk kl).trans g4, (e _ kk kl).trans g5, (e _ kk kl).trans g6, (e _ kk kl).trans g7, fun i hi => (hP _ _ (kd _ _ _ (by decide) (by decide)) (ki _ _ _ (by decide) (by decide) (by omega))).trans (g8 i hi), fun i hi => (hP _ _ (kd _ _ _ (by decide) (by decide)) (ki _ _ _ (by decide) (by decide) (by omega))).trans (g9 i hi)⟩
theorem lnr.kept3 {I I' R R' : am_M} {P P' : am_Q} {nx lp : Nat} {t : Nat → List Nat} (h : lnr (put I R) P lp t) (hb : lnb P nx lp) (hP : ∀ a k, am_t a ≠ 1 → am_i a < nx → P' a k = P a k) (hI : frJ nx I I') (hR : ∀ c, c = 4 ∨ c = 5 ∨ c = 6 → R' c = R c) : lnr (put I' R') P' lp t := by
  obtain ⟨h0, cc, nc, cs, ce, h1, h2, h3, h4, ⟨o1, o2, o3⟩, h5⟩ := h
  obtain ⟨b0, b1, b2, b3, b4⟩ := hb
  have hl : am_t lp ≠ 1 := by rw [h0]; decide
  rw [h1, am_i_pk h2 (by decide)] at b2
  rw [h3, am_i_pk (by decide) (by decide)] at b3
  rw [h4, am_i_pk (by decide) (by decide)] at b4
  have key : ∀ c n k, n < 16384 → okcl c → c < nx → put I' R' (am_pk c n 20) k = put I R (am_pk c n 20) k := by
    intro c n k hn hc hx
    unfold put
    rw [am_i_pk hn (by decide)]
    by_cases hs : 2 ≤ c ∧ c < 379 ∧ am_pk c n 20 = st_c c
    · rw [if_pos hs, if_pos hs, hR c (by unfold okcl at hc; omega)]
    · rw [if_neg hs, if_neg hs, hI _ (am_t_pk (by decide)) (by rw [am_i_pk hn (by decide)]; exact hx)]
  refine ⟨h0, cc, nc, cs, ce, by rw [hP _ _ hl b1]; exact h1, h2, by rw [hP _ _ hl b1]; exact h3, by rw [hP _ _ hl b1]; exact h4, ⟨o1, o2, o3⟩, fun l hl => ⟨fun e => ?_, fun e => ?_⟩⟩
  · rw [key _ _ _ (by decide) o2 b3]; exact (h5 l hl).1 e
  · obtain ⟨s, g1, g2, g3, g4⟩ := (h5 l hl).2 e
    exact ⟨s, by rw [key _ _ _ (by decide) o2 b3]; exact g1, by rw [key _ _ _ (by decide) o3 b4]; exact g2, g3, fun k hk => by rw [key _ _ _ h2 o1 b2]; exact g4 k hk⟩
theorem CW.keep {I I' R R' : am_M} {P P' : am_Q} {nx b : Nat} {w : am_M} {t : Nat → Nat → List Nat} {m nb ns ne : Nat} (h : CW I R P b w t m nb ns ne) (hL : LB P nx) (hR : ∀ c, b ≤ c → c < b + 29 → R' c = R c) (hR2 : ∀ c, c = 4 ∨ c = 5 ∨ c = 6 → R' c = R c) (hP : ∀ a k, am_t a ≠ 1 → am_i a < nx → P' a k = P a k) (hPb : ∀ i, i < 7 → P' (am_pk (b + 8 + i) 0 1) 10 = P (am_pk (b + 8 + i) 0 1) 10) (hI : frJ nx I I') : CW I' R' P' b w t m nb ns ne := by
  have hle := h.le
  obtain ⟨hb, h1, h2, h3, h4⟩ := h
  refine ⟨hb, ?_, h2, fun i hi => ?_, fun x hx d hd => ?_⟩
  · rw [vC_congr (fun c h1 h2 _ _ _ => hR c h1 h2)]; exact h1
  · rw [hPb i (by omega)]
    exact (h3 i hi).kept3 (hL _ (Or.inl ⟨b, i, hb, by omega, rfl⟩)) hP hI hR2
  · rw [hR (b + 4) (by omega) (by omega)]; exact h4 x hx d hd
theorem KP.keep {I I' R R' : am_M} {P P' : am_Q} {nx b pl : Nat} (h : KP I R P b pl) (hL : LB P nx) (hR : ∀ c, b ≤ c → c < b + 29 → R' c = R c) (hR2 : ∀ c, c = 4 ∨ c = 5 ∨ c = 6 → R' c = R c) (hP : ∀ a k, am_t a ≠ 1 → am_i a < nx → P' a k = P a k) (hPb : ∀ i, i < 7 → P' (am_pk (b + 8 + i) 0 1) 10 = P (am_pk (b + 8 + i) 0 1) 10) (hI : frJ nx I I') (h7 : ∀ j, 1500 * pl ≤ j → j < 1500 * pl + 1500 → R' 357 j = R 357 j) : KP I' R' P' b pl := by
  obtain ⟨w, t, m, nb, ns, ne, h9, h1, h2⟩ := h
  exact ⟨w, t, m, nb, ns, ne, h9, h1.keep hL hR hR2 hP hPb hI, h2.pk h7⟩
/-- cells that tell what stands between two calls, but for the world itself -/
def kpc (c : Nat) : Prop := c = 2 ∨ (4 ≤ c ∧ c ≤ 6) ∨ (94 ≤ c ∧ c ≤ 298) ∨ c = 300 ∨ (321 ≤ c ∧ c ≤ 329) ∨ c = 331 ∨ c = 359 ∨ (368 ≤ c ∧ c ≤ 370)
theorem HST.wld {i : Nat} (f : Nat) (hf : f < 6) : ∃ k, k < 6 ∧ (f + i) % 6 = k := ⟨(f + i) % 6, Nat.mod_lt _ (by decide), rfl⟩
theorem REST.keep {I I' R R' : am_M} {P P' : am_Q} {nx nx' : Nat} (h : REST I R P nx) (hR : ∀ c, kpc c → R' c = R c) (h330 : ∀ k, k = 28 ∨ k = 29 ∨ k = 32 → R' 330 k = R 330 k) (h299 : R' 299 1 = R 299 1) (h357 : ∀ j, j < 10500 → R' 357 j = R 357 j) (hP : ∀ a k, am_t a ≠ 1 → am_i a < nx → P' a k = P a k) (hPb : ∀ c, 94 ≤ c → c < 299 → P' (am_pk c 0 1) 10 = P (am_pk c 0 1) 10) (hI : frJ nx I I') (hL : LB P' nx') (hn : nx ≤ nx') : REST I' R' P' nx' := by
  obtain ⟨⟨g1, g2, g3, g4⟩, h1, h2, h3, h4, h5⟩ := h
  have h2' : TAP R' := by
    obtain ⟨n, a1, a2, a3, a4⟩ := h2
    exact ⟨n, a1, by rw [h299]; exact a2, by rw [h330 32 (by decide)]; exact a3, fun k hk => by rw [hR 300 (by unfold kpc; omega), hR 359 (by unfold kpc; omega)]; exact a4 k hk⟩
  have h3' : SHS R' := by
    intro s hs
    have := h3 s hs
    rw [hR 369 (by unfold kpc; omega), hR 368 (by unfold kpc; omega), hR (321 + 2 * s) (by unfold kpc; omega), hR (322 + 2 * s) (by unfold kpc; omega), hR 370 (by unfold kpc; omega)]
    exact this
  have c456 : ∀ c, c = 4 ∨ c = 5 ∨ c = 6 → R' c = R c := fun c hc => hR c (by unfold kpc; omega)
  have hAp : apok I' := by
    have e : I' am_ap = I am_ap := hI am_ap am_apt (by rw [am_api]; omega)
    unfold apok
    rw [e]; exact g2
  refine ⟨⟨g1.kept2 (fun a k a1 a2 => hP a k a1 (by omega)), hAp, hL, by omega⟩, ?_, h2', h3', ?_, ?_⟩
  · refine ⟨fun k hk => ?_, fun l hl => ?_⟩
    · rw [hR 329 (by unfold kpc; omega), hR 331 (by unfold kpc; omega)]
      exact h1.1 k hk
    · rw [hR 5 (by unfold kpc; omega)]
      exact h1.2 l hl
  · obtain ⟨a1, a2, a3⟩ := h4
    refine ⟨by rw [hR 2 (by unfold kpc; omega)]; exact a1, by rw [h330 29 (by decide), hR 2 (by unfold kpc; omega)]; exact a2, fun e => ?_⟩
    rw [hR 2 (by unfold kpc; omega)] at e
    exact (a3 e).keep g3 (fun c h1 h2 => hR c (by unfold kpc; omega)) c456 hP (fun i hi => hPb _ (by omega) (by omega)) hI (fun j h1 h2 => h357 j (by omega))
  · obtain ⟨f, n, b1, b2, b3, b4, b5, b6⟩ := h5
    refine ⟨f, n, b1, b2, by rw [hR 123 (by unfold kpc; omega)]; exact b3, by rw [hR 123 (by unfold kpc; omega)]; exact b4, by rw [h330 28 (by decide)]; exact b5, fun i hi => ?_⟩
    have hm : (f + i) % 6 < 6 := Nat.mod_lt _ (by decide)
    exact (b6 i hi).keep g3 (fun c h1 h2 => hR c (by unfold kpc; omega)) c456 hP (fun j hj => hPb _ (by omega) (by omega)) hI (fun j h1 h2 => h357 j (by omega))
/-- only rows change -/
theorem REST.kR {I R R' : am_M} {P : am_Q} {nx : Nat} (h : REST I R P nx) (hR : ∀ c, kpc c → R' c = R c) (h330 : ∀ k, k = 28 ∨ k = 29 ∨ k = 32 → R' 330 k = R 330 k) (h299 : R' 299 1 = R 299 1) (h357 : ∀ j, j < 10500 → R' 357 j = R 357 j) : REST I R' P nx :=
  h.keep hR h330 h299 h357 (fun _ _ _ _ => rfl) (fun _ _ _ => rfl) frJ.rfl h.1.2.2.1 (Nat.le_refl _)
section INVs
variable {I R : am_M} {P : am_Q} {nx : Nat} {w : am_M} {t : Nat → Nat → List Nat} {m nb ns ne : Nat}
theorem INV.sp (h : INV I R P nx w t m nb ns ne) : SP P := h.1.1.1
theorem INV.ap (h : INV I R P nx w t m nb ns ne) : apok I := h.1.1.2.1
theorem INV.cw (h : INV I R P nx w t m nb ns ne) : CW I R P 7 w t m nb ns ne := h.2.2.1
theorem INV.mw (h : INV I R P nx w t m nb ns ne) : MW R w t m nb ns ne := h.2.2.2
/-- a finding of both -/
theorem INV.fl (h : INV I R P nx w t m nb ns ne) {X M : am_M → Option (Int32 × am_M)} {v : Int32} {k : Nat} (hk : k < 7) (hX : X (put I R) = some (v, put I (am_up R 329 k (R 329 k + 1)))) (hM : ∀ R1, MW R1 w t m nb ns ne → (∀ c, c ≠ 329 → R1 c = R c) → M (put I R1) = some (v, put I (am_up R1 331 k (R1 331 k + 1)))) :
    ∃ v R1 R2, X (put I R) = some (v, put I R1) ∧ M (put I R1) = some (v, put I R2) ∧ ∃ w t m nb ns ne, INV I R2 P nx w t m nb ns ne := by
  obtain ⟨hr, h9, hc, hm⟩ := h
  have hm1 : MW (am_up R 329 k (R 329 k + 1)) w t m nb ns ne := hm.fr (fun c h1 h2 => by funext j; rw [am_up_ne (by omega)])
  refine ⟨v, _, _, hX, hM _ hm1 (fun c hc => by funext j; rw [am_up_ne hc]), w, t, m, nb, ns, ne, ?_, h9, ?_, ?_⟩
  · obtain ⟨g, f, r⟩ := hr
    have hr' : REST I (am_up (am_up R 329 k (R 329 k + 1)) 331 k (R 331 k + 1)) P nx := by
      refine ⟨g, ?_, ?_⟩
      · refine ⟨fun j hj => ?_, fun l hl => ?_⟩
        · by_cases e : j = k
          · subst e
            rw [am_up_ne (by decide), am_up_eq, am_up_eq, f.1 j hj]
          · rw [am_up_ne (by decide), am_up_nk e, am_up_nk e, am_up_ne (by decide)]
            exact f.1 j hj
        · rw [am_up_ne (by decide), am_up_ne (by decide)]
          exact f.2 l hl
      · obtain ⟨r1, r2, r3, r4⟩ := r
        have e : ∀ c, c ≠ 329 → c ≠ 331 → am_up (am_up R 329 k (R 329 k + 1)) 331 k (R 331 k + 1) c = R c := fun c h1 h2 => by funext j; rw [am_up_ne h2, am_up_ne h1]
        refine ⟨?_, ?_, ?_, ?_⟩
        · obtain ⟨n, a1, a2, a3, a4⟩ := r1
          exact ⟨n, a1, by rw [e 299 (by decide) (by decide)]; exact a2, by rw [e 330 (by decide) (by decide)]; exact a3, fun k hk => by rw [e 300 (by decide) (by decide), e 359 (by decide) (by decide)]; exact a4 k hk⟩
        · intro s hs
          have := r2 s hs
          rw [e 369 (by decide) (by decide), e 368 (by decide) (by decide), e (321 + 2 * s) (by omega) (by omega), e (322 + 2 * s) (by omega) (by omega), e 370 (by decide) (by decide)]
          exact this
        · obtain ⟨a1, a2, a3⟩ := r3
          rw [show IMG = fun I R P => ((R 2 4 = 0 ∨ R 2 4 = 1) ∧ R 330 29 = R 2 4 ∧ (R 2 4 = 1 → KP I R P 94 6)) from rfl]
          simp only []
          rw [e 2 (by decide) (by decide), e 330 (by decide) (by decide)]
          exact ⟨a1, a2, fun z => (a3 z).keep g.2.2.1 (fun c h1 h2 => e c (by omega) (by omega)) (fun c hc => e c (by omega) (by omega)) (fun _ _ _ _ => rfl) (fun _ _ => rfl) frJ.rfl (fun j h1 h2 => by rw [e 357 (by decide) (by decide)])⟩
        · obtain ⟨f, n, b1, b2, b3, b4, b5, b6⟩ := r4
          refine ⟨f, n, b1, b2, by rw [e 123 (by decide) (by decide)]; exact b3, by rw [e 123 (by decide) (by decide)]; exact b4, by rw [e 330 (by decide) (by decide)]; exact b5, fun i hi => ?_⟩
          have hm : (f + i) % 6 < 6 := Nat.mod_lt _ (by decide)
          exact (b6 i hi).keep g.2.2.1 (fun c h1 h2 => e c (by omega) (by omega)) (fun c hc => e c (by omega) (by omega)) (fun _ _ _ _ => rfl) (fun _ _ => rfl) frJ.rfl (fun j h1 h2 => by rw [e 357 (by decide) (by decide)])
    rw [show am_up R 329 k (R 329 k + 1) 331 k = R 331 k from am_up_ne (by decide)]
    exact hr'
  · exact hc.fr (fun c h1 h2 => by funext j; rw [am_up_ne (by omega), am_up_ne (by omega)]) (fun c hc => by funext j; rw [am_up_ne (by omega), am_up_ne (by omega)])
  · exact hm1.fr (fun c h1 h2 => by funext j; rw [am_up_ne (by omega)])
end INVs
