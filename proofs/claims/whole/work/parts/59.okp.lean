/-! ===== calls that make objects or move references ===== -/
/-- the class may make objects, the reference doesn't -/
def OK2 (I R : am_M) (P : am_Q) (nx sl : Nat) (X : am_M → am_Q → Nat → Nat → Option (Int32 × am_S)) (M : am_Q → am_M → Option (Int32 × am_M)) : Prop := ∃ v I1 R1 P1 nx1 sl1 R2, X (put I R) P nx sl = some (v, put I1 R1, P1, nx1, sl1) ∧ M P1 (put I1 R1) = some (v, put I1 R2) ∧ (∃ w t m nb ns ne, INV I1 R2 P1 nx1 w t m nb ns ne) ∧ frJ nx I I1 ∧ nx ≤ nx1 ∧ nx1 ≤ nx + 700 ∧ sl1 ≤ sl + 2000
/-- both may -/
def OK3 (I R : am_M) (P : am_Q) (nx sl : Nat) (X M : am_M → am_Q → Nat → Nat → Option (Int32 × am_S)) : Prop := ∃ v I1 R1 P1 nx1 sl1 I2 R2 nx2 sl2, X (put I R) P nx sl = some (v, put I1 R1, P1, nx1, sl1) ∧ M (put I1 R1) P1 nx1 sl1 = some (v, put I2 R2, P1, nx2, sl2) ∧ (∃ w t m nb ns ne, INV I2 R2 P1 nx2 w t m nb ns ne) ∧ (frJ nx I I1 ∧ frJ nx I I2) ∧ nx ≤ nx2 ∧ nx2 ≤ nx + 700 ∧ sl2 ≤ sl + 2000
section OKs
variable {I R : am_M} {P : am_Q} {nx sl : Nat} {w : am_M} {t : Nat → Nat → List Nat} {m nb ns ne : Nat}
theorem INV.fnd (h : INV I R P nx w t m nb ns ne) {k : Nat} (hk : k < 7) : INV I (am_up (am_up R 329 k (R 329 k + 1)) 331 k (R 331 k + 1)) P nx w t m nb ns ne := by
  obtain ⟨hr, h9, hc, hm⟩ := h
  have hm1 : MW (am_up R 329 k (R 329 k + 1)) w t m nb ns ne := hm.fr (fun c h1 h2 => by funext j; rw [am_up_ne (by omega)])
  rw [show R 331 k = am_up R 329 k (R 329 k + 1) 331 k from (am_up_ne (by decide)).symm]
  refine ⟨?_, h9, ?_, ?_⟩
  · obtain ⟨g, f, r⟩ := hr
    have hr' : REST I (am_up (am_up R 329 k (R 329 k + 1)) 331 k (R 331 k + 1)) P nx := by
      refine ⟨g, ?_, ?_⟩
      · refine ⟨fun j hj => ?_, fun l hl => ?_⟩
        · by_cases e : j = k
          · subst e
            rw [am_up_ne (by decide), am_up_eq, am_up_eq, f.1 j hj]
          · rw [am_up_ne (by decide), am_up_nk e, am_up_nk e, am_up_ne (by decide)]
            exact f.1 j hj
        · rw [am_up_ne (by decide), am_up_ne (by decide)]
          exact f.2 l hl
      · obtain ⟨r1, r2, r3, r4⟩ := r
        have e : ∀ c, c ≠ 329 → c ≠ 331 → am_up (am_up R 329 k (R 329 k + 1)) 331 k (R 331 k + 1) c = R c := fun c h1 h2 => by funext j; rw [am_up_ne h2, am_up_ne h1]
        refine ⟨?_, ?_, ?_, ?_⟩
        · obtain ⟨n, a1, a2, a3, a4⟩ := r1
          exact ⟨n, a1, by rw [e 299 (by decide) (by decide)]; exact a2, by rw [e 330 (by decide) (by decide)]; exact a3, fun k hk => by rw [e 300 (by decide) (by decide), e 359 (by decide) (by decide)]; exact a4 k hk⟩
        · intro s hs
          have := r2 s hs
          rw [e 369 (by decide) (by decide), e 368 (by decide) (by decide), e (321 + 2 * s) (by omega) (by omega), e (322 + 2 * s) (by omega) (by omega), e 370 (by decide) (by decide)]
          exact this
        · obtain ⟨a1, a2, a3⟩ := r3
          rw [show IMG = fun I R P => ((R 2 4 = 0 ∨ R 2 4 = 1) ∧ R 330 29 = R 2 4 ∧ (R 2 4 = 1 → KP I R P 94 6)) from rfl]
          simp only []
          rw [e 2 (by decide) (by decide), e 330 (by decide) (by decide)]
          exact ⟨a1, a2, fun z => (a3 z).keep g.2.2.1 (fun c h1 h2 => e c (by omega) (by omega)) (fun c hc => e c (by omega) (by omega)) (fun _ _ _ _ => rfl) (fun _ _ => rfl) frJ.rfl (fun j h1 h2 => by rw [e 357 (by decide) (by decide)])⟩
        · obtain ⟨f, n, b1, b2, b3, b4, b5, b6⟩ := r4
          refine ⟨f, n, b1, b2, by rw [e 123 (by decide) (by decide)]; exact b3, by rw [e 123 (by decide) (by decide)]; exact b4, by rw [e 330 (by decide) (by decide)]; exact b5, fun i hi => ?_⟩
          have hm : (f + i) % 6 < 6 := Nat.mod_lt _ (by decide)
          exact (b6 i hi).keep g.2.2.1 (fun c h1 h2 => e c (by omega) (by omega)) (fun c hc => e c (by omega) (by omega)) (fun _ _ _ _ => rfl) (fun _ _ => rfl) frJ.rfl (fun j h1 h2 => by rw [e 357 (by decide) (by decide)])
    rw [show am_up R 329 k (R 329 k + 1) 331 k = R 331 k from am_up_ne (by decide)]
    exact hr'
  · exact hc.fr (fun c h1 h2 => by funext j; rw [am_up_ne (by omega), am_up_ne (by omega)]) (fun c hc => by funext j; rw [am_up_ne (by omega), am_up_ne (by omega)])
  · exact hm1.fr (fun c h1 h2 => by funext j; rw [am_up_ne (by omega)])
theorem INV.fl2 (h : INV I R P nx w t m nb ns ne) {X : am_M → am_Q → Nat → Nat → Option (Int32 × am_S)} {M : am_Q → am_M → Option (Int32 × am_M)} {v : Int32} {k : Nat} (hk : k < 7) (hX : X (put I R) P nx sl = some (v, put I (am_up R 329 k (R 329 k + 1)), P, nx, sl)) (hM : ∀ R1, MW R1 w t m nb ns ne → (∀ c, c ≠ 329 → R1 c = R c) → M P (put I R1) = some (v, put I (am_up R1 331 k (R1 331 k + 1)))) : OK2 I R P nx sl X M := by
  have hm1 : MW (am_up R 329 k (R 329 k + 1)) w t m nb ns ne := h.mw.fr (fun c h1 h2 => by funext j; rw [am_up_ne (by omega)])
  have e := hM _ hm1 (fun c hc => by funext j; rw [am_up_ne hc])
  rw [show am_up R 329 k (R 329 k + 1) 331 k = R 331 k from am_up_ne (by decide)] at e
  exact ⟨v, I, _, P, nx, sl, _, hX, e, ⟨w, t, m, nb, ns, ne, h.fnd hk⟩, frJ.rfl, Nat.le_refl _, by omega, by omega⟩
theorem INV.fl3 (h : INV I R P nx w t m nb ns ne) {X M : am_M → am_Q → Nat → Nat → Option (Int32 × am_S)} {v : Int32} {k : Nat} (hk : k < 7) (hX : X (put I R) P nx sl = some (v, put I (am_up R 329 k (R 329 k + 1)), P, nx, sl)) (hM : ∀ R1, MW R1 w t m nb ns ne → (∀ c, c ≠ 329 → R1 c = R c) → M (put I R1) P nx sl = some (v, put I (am_up R1 331 k (R1 331 k + 1)), P, nx, sl)) : OK3 I R P nx sl X M := by
  have hm1 : MW (am_up R 329 k (R 329 k + 1)) w t m nb ns ne := h.mw.fr (fun c h1 h2 => by funext j; rw [am_up_ne (by omega)])
  have e := hM _ hm1 (fun c hc => by funext j; rw [am_up_ne hc])
  rw [show am_up R 329 k (R 329 k + 1) 331 k = R 331 k from am_up_ne (by decide)] at e
  exact ⟨v, I, _, P, nx, sl, I, _, nx, sl, hX, e, ⟨w, t, m, nb, ns, ne, h.fnd hk⟩, ⟨frJ.rfl, frJ.rfl⟩, Nat.le_refl _, by omega, by omega⟩
theorem INV.mkP {I' R' : am_M} {P' : am_Q} {nx' : Nat} {w' : am_M} {t' : Nat → Nat → List Nat} {m' nb' ns' ne' : Nat} (h : INV I R P nx w t m nb ns ne) (hR : ∀ c, kpc c → R' c = R c) (h330 : ∀ k, k = 28 ∨ k = 29 ∨ k = 32 → R' 330 k = R 330 k) (h299 : R' 299 1 = R 299 1) (h357 : ∀ j, j < 10500 → R' 357 j = R 357 j) (hP : ∀ a k, am_t a ≠ 1 → am_i a < nx → P' a k = P a k) (hPb : ∀ c, 94 ≤ c → c < 299 → P' (am_pk c 0 1) 10 = P (am_pk c 0 1) 10) (hI : frJ nx I I') (hL : LB P' nx') (hn : nx ≤ nx') (h9 : hr9 w') (hC : CW I' R' P' 7 w' t' m' nb' ns' ne') (hM : MW R' w' t' m' nb' ns' ne') : ∃ w t m nb ns ne, INV I' R' P' nx' w t m nb ns ne :=
  ⟨w', t', m', nb', ns', ne', h.1.keep hR h330 h299 h357 hP hPb hI hL hn, h9, hC, hM⟩
theorem lnb.up {lp a k v : Nat} (h : lnb P nx lp) (ha : am_t a = 1) : lnb (am_up P a k v) nx lp := by
  obtain ⟨h0, h1, h2, h3, h4⟩ := h
  have hn : ¬ lp = a := fun z => by rw [z, ha] at h0; exact absurd h0 (by decide)
  refine ⟨h0, h1, ?_, ?_, ?_⟩
  · rw [am_up_ne hn]; exact h2
  · rw [am_up_ne hn]; exact h3
  · rw [am_up_ne hn]; exact h4
theorem LB.up (h : LB P nx) {c lp : Nat} (hl : lnb P nx lp) : LB (am_up P (am_pk c 0 1) 10 lp) nx := by
  intro c' hc'
  by_cases e : c' = c
  · subst e
    rw [am_up_eq]
    exact hl.up (am_t_pk (by decide))
  · rw [am_up_ne (bx_ne e)]
    exact (h c' hc').up (am_t_pk (by decide))
theorem LB.cpy {P' : am_Q} {b b' : Nat} (h : LB P nx) (hb : isW b) (hn : nb ≤ 7) (hf : frP b b' nb P P') : LB P' nx := by
  obtain ⟨f1, f2, f3⟩ := hf
  have key : ∀ lp, lnb P nx lp → lnb P' nx lp := by
    intro lp ⟨h0, h1, h2, h3, h4⟩
    have hn : am_t lp ≠ 1 := by rw [h0]; decide
    exact ⟨h0, h1, by rw [f1 _ _ hn]; exact h2, by rw [f1 _ _ hn]; exact h3, by rw [f1 _ _ hn]; exact h4⟩
  intro c hc
  by_cases e : c < b' + 8 ∨ b' + 8 + nb ≤ c
  · rw [f2 c 10 e]; exact key _ (h c hc)
  · obtain ⟨j, hj, rfl⟩ : ∃ j, j < nb ∧ c = b' + 8 + j := ⟨c - b' - 8, by omega, by omega⟩
    rw [f3 j hj]; exact key _ (h _ (Or.inl ⟨b, j, hb, by omega, rfl⟩))
theorem LB.mono {nx' : Nat} (h : LB P nx) (hn : nx ≤ nx') : LB P nx' := fun c hc => by
  obtain ⟨h0, h1, h2, h3, h4⟩ := h c hc
  exact ⟨h0, by omega, by omega, by omega, by omega⟩
/-- the plain Lines tell nothing -/
theorem pln (hS : SP P) (hF : FND R) : lnr (put I R) P (am_pk 3 0 4) (fun _ => []) := by
  refine ⟨am_t_pk (by decide), 4, 0, 5, 6, sp_3_0 hS, by decide, sp_3_1 hS, sp_3_2 hS, ⟨Or.inl rfl, Or.inr (Or.inl rfl), Or.inr (Or.inr (Or.inl rfl))⟩, fun l hl => ⟨fun _ => ?_, fun z => absurd rfl z⟩⟩
  rw [put_rd sc_5]; exact hF.2 l hl
theorem plnb (hS : SP P) (hn : 379 ≤ nx) : lnb P nx (am_pk 3 0 4) := by
  refine ⟨am_t_pk (by decide), ?_, ?_, ?_, ?_⟩
  · rw [am_i_pk (by decide) (by decide)]; omega
  · rw [sp_3_0 hS, am_i_pk (by decide) (by decide)]; omega
  · rw [sp_3_1 hS, am_i_pk (by decide) (by decide)]; omega
  · rw [sp_3_2 hS, am_i_pk (by decide) (by decide)]; omega
end OKs
