/-! ===== trials of a ring ===== -/
def drR (w : am_M) (s : Nat) : Nat := 4 + ix (w 14 s)
def dcR (w : am_M) (s : Nat) : Nat := ix (w 13 s)
/-- off the doors of the seams q 0 .. q (n - 1) a world is as w -/
def ofD (w : am_M) (q : Nat → Nat) (n : Nat) (u : am_M) : Prop := ∀ r c, (∀ k, k < n → ¬ (r = drR w (q k) ∧ c = dcR w (q k))) → u r c = w r c
theorem ofD.up {w u : am_M} {q : Nat → Nat} {n k : Nat} {v : Int32} (h : ofD w q n u) (hk : k < n) : ofD w q n (am_up u (drR w (q k)) (dcR w (q k)) v) := by
  intro r c hh
  unfold am_up
  rw [if_neg (hh k hk)]
  exact h r c hh
theorem ofD.eq {w u u' : am_M} {q : Nat → Nat} {n : Nat} {f : Nat → Int32} (h : ofD w q n u) (h' : ofD w q n u') (e : ∀ k, k < n → u (drR w (q k)) (dcR w (q k)) = f k) (e' : ∀ k, k < n → u' (drR w (q k)) (dcR w (q k)) = f k) : u = u' := by
  funext r c
  by_cases z : ∃ k, k < n ∧ r = drR w (q k) ∧ c = dcR w (q k)
  · obtain ⟨k, hk, rfl, rfl⟩ := z
    rw [e k hk, e' k hk]
  · rw [h r c (fun k hk y => z ⟨k, hk, y⟩), h' r c (fun k hk y => z ⟨k, hk, y⟩)]
/-- the doors told, from seam q (n - 1) down -/
def dwF (w : am_M) (q : Nat → Nat) (m : Nat) : Nat → Nat → am_M → am_M
  | 0, _, u => u
  | i + 1, v, u => dwF w q m i (v / m) (am_up u (drR w (q i)) (dcR w (q i)) (nI (v % m)))
def qok (ns n : Nat) (q : Nat → Nat) : Prop := (∀ k, k < n → q k < ns) ∧ ∀ i j, i < j → j < n → q i < q j
theorem rsI.ok {s : Nat} {p : Nat × (Nat → Nat)} (h : rsI s p) : qok s p.1 p.2 := ⟨h.2.1, h.2.2⟩
section Tri
variable {I R : am_M} {P : am_Q} {nx : Nat} {w : am_M} {t : Nat → Nat → List Nat} {m nb ns ne : Nat}
theorem wiv.drc (h : wiv w t m nb ns ne) {s : Nat} (hs : s < ns) : ∃ tb td, tb < nb ∧ td < 2 ∧ w 13 s = nI tb ∧ w 14 s = nI td ∧ dcR w s = tb ∧ drR w s = 4 + td := by
  have hle := h.le
  obtain ⟨-, -, ⟨b, hb, eb⟩, ⟨d, hd, ed⟩, -⟩ := h.2.2.1 s hs
  exact ⟨b, d, hb, hd, eb, ed, by unfold dcR; rw [eb]; exact nI_clamp (by omega), by unfold drR; rw [ed]; exact congrArg (4 + ·) (nI_clamp (by omega))⟩
theorem wiv.din (h : wiv w t m nb ns ne) {n : Nat} {q : Nat → Nat} (hq : qok ns n q) {i j : Nat} (hi : i < n) (hj : j < n) (hij : i ≠ j) : ¬ (drR w (q i) = drR w (q j) ∧ dcR w (q i) = dcR w (q j)) := by
  rintro ⟨e1, e2⟩
  obtain ⟨tb, td, h1, h2, a1, a2, a3, a4⟩ := h.drc (hq.1 i hi)
  obtain ⟨tb', td', h1', h2', b1, b2, b3, b4⟩ := h.drc (hq.1 j hj)
  rw [a4, b4] at e1
  rw [a3, b3] at e2
  have e3 : td = td' := by omega
  have := h.2.2.2.1 (q i) (q j) (hq.1 i hi) (hq.1 j hj) (by rw [a1, b1, e2]) (by rw [a2, b2, e3])
  rcases (show i < j ∨ j < i by omega) with z | z
  · have := hq.2 i j z hj; omega
  · have := hq.2 j i z hi; omega
theorem ofD.row (h : wiv w t m nb ns ne) {n : Nat} {q : Nat → Nat} {u : am_M} (hq : qok ns n q) (ho : ofD w q n u) {r c : Nat} (hr : r ≠ 4) (hr2 : r ≠ 5) : u r c = w r c :=
  ho r c (fun k hk y => by
    obtain ⟨tb, td, h1, h2, a1, a2, a3, a4⟩ := h.drc (hq.1 k hk)
    have := y.1
    omega)
theorem dwF_s (h : wiv w t m nb ns ne) {n : Nat} {q : Nat → Nat} (hq : qok ns n q) {g : Nat → Nat} : ∀ (i v : Nat) (u : am_M), i ≤ n → ofD w q n u → (∀ k, k < i → g k = dgF m i v k) → (∀ k, i ≤ k → k < n → u (drR w (q k)) (dcR w (q k)) = nI (g k)) → ofD w q n (dwF w q m i v u) ∧ ∀ k, k < n → dwF w q m i v u (drR w (q k)) (dcR w (q k)) = nI (g k)
  | 0, v, u, h1, ho, hg, hk => ⟨ho, fun k h2 => hk k (Nat.zero_le _) h2⟩
  | i + 1, v, u, h1, ho, hg, hk => by
    refine dwF_s h hq (g := g) i (v / m) _ (by omega) (ho.up (by omega)) (fun k h2 => ?_) (fun k h2 h3 => ?_)
    · rw [hg k (by omega)]
      exact if_neg (by omega)
    · have gi : g i = v % m := (hg i (by omega)).trans (if_pos rfl)
      by_cases e : k = i
      · rw [e, am_up_eq, gi]
      · have hne := h.din hq h3 (show i < n by omega) e
        unfold am_up
        rw [if_neg hne]
        exact hk k (by omega) h3
noncomputable def dwN (w : am_M) (q : Nat → Nat) (m n v : Nat) : am_M := dwF w q m n v w
theorem dwN_s (h : wiv w t m nb ns ne) {n v : Nat} {q : Nat → Nat} (hq : qok ns n q) : ofD w q n (dwN w q m n v) ∧ ∀ k, k < n → dwN w q m n v (drR w (q k)) (dcR w (q k)) = nI (dgF m n v k) :=
  dwF_s h hq n v w (Nat.le_refl _) (fun _ _ _ => rfl) (fun _ _ => rfl) (fun k h1 h2 => absurd h2 (by omega))
/-- is it an answer -/
def anP (w : am_M) (t : Nat → Nat → List Nat) (q : Nat → Nat) (m n v : Nat) : Prop := ∀ k, k < n → snF (dwN w q m n v) t m (q k) = nI (dgF m n v k)
def tlH (R : am_M) (q f : Nat → Nat) (n : Nat) : Prop := (∀ k, k < n → R 312 k = nI (q k)) ∧ ∀ k, k < n → R 313 k = nI (f k)
theorem tlH.fr {R R' : am_M} {q f : Nat → Nat} {n : Nat} (h : tlH R q f n) (e : fr 36 R R') : tlH R' q f n := ⟨fun k hk => by rw [e 312 (by decide) (by decide)]; exact h.1 k hk, fun k hk => by rw [e 313 (by decide) (by decide)]; exact h.2 k hk⟩
theorem x_isA1 (hS : SP P) (hw : wiv w t m nb ns ne) {n : Nat} {q f : Nat → Nat} (hn : n ≤ 3) (hq : qok ns n q) (hf : ∀ k, k < n → f k < m) {ex : Nat → Nat → Int32 → am_M → Option (Int32 × am_M)} : ∀ (d k fu : Nat) (R u : am_M), d < fu → k + d = n → CW I R P 36 u t m nb ns ne → ofD w q n u → (∀ j, j < k → u (drR w (q j)) (dcR w (q j)) = nI (f j)) → tlH R q f n → ∃ R' u', fR_isAnswer_L2 P ex fu (am_pk 311 0 7) (am_pk 36 0 11) (nI n) (nI k) (put I R) = ex (am_pk 311 0 7) (am_pk 36 0 11) (nI n) (put I R') ∧ CW I R' P 36 u' t m nb ns ne ∧ ofD w q n u' ∧ (∀ j, j < n → u' (drR w (q j)) (dcR w (q j)) = nI (f j)) ∧ fr 36 R R'
  | 0, k, fu, R, u, h1, h2, h, ho, hj, hH => by
    obtain ⟨fu, rfl⟩ : ∃ n', fu = n' + 1 := ⟨fu - 1, by omega⟩
    refine ⟨R, u, ?_, h, ho, fun j hj2 => hj j (by omega), fr.rfl⟩
    show fR_isAnswer_B2 _ _ _ _ _ _ _ _ = _
    unfold fR_isAnswer_B2
    rw [if_pos (by rw [nI_leI (by omega) (by omega)]; omega)]
  | d + 1, k, fu, R, u, h1, h2, h, ho, hj, hH => by
    obtain ⟨fu, rfl⟩ : ∃ n', fu = n' + 1 := ⟨fu - 1, by omega⟩
    have hle := h.le
    have hb := h.1
    have hk : k < n := by omega
    have hs := hq.1 k hk
    have hs14 : q k < 14 := by omega
    have hk3 : k < 3 := by omega
    obtain ⟨tb, td, htb, htd, a1, a2, a3, a4⟩ := hw.drc hs
    have htb7 : tb < 7 := by omega
    have e2 : R (36 + 15 + q k) 2 = nI tb := (h.rm hs (by decide)).trans ((ho.row hw hq (by decide) (by decide)).trans a1)
    have e3 : R (36 + 15 + q k) 3 = nI td := (h.rm hs (by decide)).trans ((ho.row hw hq (by decide) (by decide)).trans a2)
    have hr : ran m (nI (f k)) := ⟨nI_pos' (by have := hf k hk; omega), by rw [nI_ltI (by have := hf k hk; omega) (by omega)]; exact hf k hk⟩
    have run : ∀ rr, fR_isAnswer_B2 P ex rr (am_pk 311 0 7) (am_pk 36 0 11) (nI n) (nI k) (put I R) = rr (am_pk 311 0 7) (am_pk 36 0 11) (nI n) (nI (k + 1)) (put I (am_up R (36 + 8 + tb) (3 + td) (nI (f k)))) := by
      intro rr
      unfold fR_isAnswer_B2 fB_tellIn
      rw [if_neg (by rw [nI_leI (by omega) (by omega)]; omega), sm_ck_pos (am_t_pk (by decide)), sm_ck_pos (am_t_pk (by decide)), sp_311_1 hS, sp_311_3 hS, nI_clamp (show k < 2 ^ 31 by omega), put_rd sc_312, put_rd sc_313, hH.1 k hk, hH.2 k hk, nI_clamp (show q k < 2 ^ 31 by omega), sp_w10 hS hb, sp_sm hS hb hs14, sm_ck_pos (sm_in_nI (by decide) (by omega)), sm_ck_pos (sm_ia_nI (by decide) (by decide) (by decide) hs14), bd_eq, sm_ck_pos (am_t_pk (by decide)), put_rd (sc_sm hb hs14), put_rd (sc_sm hb hs14), e2, e3, sp_w9 hS hb, nI_clamp (show tb < 2 ^ 31 by omega), sp_bx hS hb htb7, sm_ck_pos (sm_ia_nI (by decide) (by decide) (by decide) htb7), sm_ck_pos (sm_in_nI (by decide) hk3), sm_ck_pos (am_t_pk (by decide)), sm_ck_pos (am_t_pk (by decide)), put_up (sc_bx hb htb7), put_up (sc_bx hb htb7)]
      simp only [bd_eq, nI_1]
      rcases (show td = 0 ∨ td = 1 by omega) with rfl | rfl
      · rw [if_neg (fun z => z rfl), sm_ck_pos (am_t_pk (by decide)), Option.bind_some]
      · rw [if_pos (by decide), Option.bind_some]
    have c1 : CW I (am_up R (36 + 8 + tb) (3 + td) (nI (f k))) P 36 (am_up u (drR w (q k)) (dcR w (q k)) (nI (f k))) t m nb ns ne := by
      rw [a3, a4]
      rcases (show td = 0 ∨ td = 1 by omega) with rfl | rfl
      · exact h.wr (r := 4) (c := tb) (Or.inr (Or.inl ⟨by decide, by decide, by omega⟩)) hr (aC_b 36 3 tb (by decide))
      · exact h.wr (r := 5) (c := tb) (Or.inr (Or.inl ⟨by decide, by decide, by omega⟩)) hr (aC_b 36 4 tb (by decide))
    have f1 : fr 36 R (am_up R (36 + 8 + tb) (3 + td) (nI (f k))) := fr.up (by omega)
    show ∃ R' u', fR_isAnswer_B2 _ _ _ _ _ _ _ _ = _ ∧ _
    rw [run]
    obtain ⟨R', u', y1, y2, y3, y4, y5⟩ := x_isA1 hS hw hn hq hf (ex := ex) d (k + 1) fu _ _ (by omega) (by omega) c1 (ho.up hk) (fun j h5 => by
      by_cases e : j = k
      · rw [e, am_up_eq]
      · unfold am_up
        rw [if_neg (hw.din hq (show j < n by omega) hk e)]
        exact hj j (by omega)) (hH.fr f1)
    exact ⟨R', u', y1, y2, y3, y4, f1.tr y5⟩
theorem x_isA2 (hS : SP P) {u : am_M} {n : Nat} {q f : Nat → Nat} (hn : n ≤ 3) (hq : qok ns n q) : ∀ (d k fu : Nat) (R : am_M), d < fu → k + d = n → CW I R P 36 u t m nb ns ne → tlH R q f n → ∃ R', fR_isAnswer_L52 P (fun I => some (0, I)) (fun I => some (1, I)) fu (am_pk 311 0 7) (am_pk 36 0 11) (nI n) (nI k) (put I R) = some (bI (∀ j, k ≤ j → j < n → snF u t m (q j) = nI (f j)), put I R') ∧ CW I R' P 36 u t m nb ns ne ∧ fr 36 R R'
  | 0, k, fu, R, h1, h2, h, hH => by
    obtain ⟨fu, rfl⟩ : ∃ n', fu = n' + 1 := ⟨fu - 1, by omega⟩
    refine ⟨R, ?_, h, fr.rfl⟩
    show fR_isAnswer_B52 _ _ _ _ _ _ _ _ _ = _
    unfold fR_isAnswer_B52
    rw [if_pos (by rw [nI_leI (by omega) (by omega)]; omega), bI_t (fun j h3 h4 => absurd h4 (by omega))]
  | d + 1, k, fu, R, h1, h2, h, hH => by
    obtain ⟨fu, rfl⟩ : ∃ n', fu = n' + 1 := ⟨fu - 1, by omega⟩
    have hle := h.le
    have hb := h.1
    have hk : k < n := by omega
    have hs := hq.1 k hk
    have hs14 : q k < 14 := by omega
    have hk3 : k < 3 := by omega
    obtain ⟨⟨fb, hfb, e11⟩, ⟨fo, hfo, e12⟩, -⟩ := h.2.2.1.2.2.1 (q k) hs
    have hfb7 : fb < 7 := by omega
    have e0 : R (36 + 15 + q k) 0 = nI fb := (h.rm hs (by decide)).trans e11
    have e1 : R (36 + 15 + q k) 1 = nI fo := (h.rm hs (by decide)).trans e12
    obtain ⟨R1, y1, y2, y3⟩ := h.work (i := fb) (l := 2 + fo) (hh := u 0 1) hS hfb (by omega)
    have es : wkF (t fb) (2 + fo) (u 2 fb) (u 3 fb) (u 4 fb) (u 5 fb) (u 0 1) (nI m) = snF u t m (q k) := by
      unfold snF otF
      rw [e11, e12, show ix (nI fb) = fb from nI_clamp (by omega), show ix (nI fo) = fo from nI_clamp (by omega)]
    rw [es] at y1
    have f1 : fr 36 R R1 := fr.cl y2
    have r3 : R1 313 k = nI (f k) := by rw [y2 313 (by decide)]; exact hH.2 k hk
    have run : ∀ rr, fR_isAnswer_B52 P (fun I => some (0, I)) (fun I => some (1, I)) rr (am_pk 311 0 7) (am_pk 36 0 11) (nI n) (nI k) (put I R) = if snF u t m (q k) = nI (f k) then rr (am_pk 311 0 7) (am_pk 36 0 11) (nI n) (nI (k + 1)) (put I R1) else some (0, put I R1) := by
      intro rr
      unfold fR_isAnswer_B52
      rw [if_neg (by rw [nI_leI (by omega) (by omega)]; omega), sm_ck_pos (am_t_pk (by decide)), sm_ck_pos (am_t_pk (by decide)), sp_311_1 hS, sp_311_3 hS, sp_311_0 hS, nI_clamp (show k < 2 ^ 31 by omega), put_rd sc_312, hH.1 k hk, nI_clamp (show q k < 2 ^ 31 by omega), sp_w10 hS hb, sp_sm hS hb hs14, sm_ck_pos (sm_in_nI (by decide) (by omega)), sm_ck_pos (sm_ia_nI (by decide) (by decide) (by decide) hs14), bd_eq, sm_ck_pos (am_t_pk (by decide)), put_rd (sc_sm hb hs14), put_rd (sc_sm hb hs14), e0, e1, sp_w9 hS hb, nI_clamp (show fb < 2 ^ 31 by omega), sp_bx hS hb hfb7, sm_ck_pos (sm_ia_nI (by decide) (by decide) (by decide) hfb7), sm_ck_pos (am_t_pk (by decide)), put_rd (sc_w0 hb), put_rd (sc_w0 hb), h.c0, h.rs (k := 1) (by decide), l_2, nI_add, y1, Option.bind_some]
      dsimp only
      rw [sm_ck_pos (sm_in_nI (by decide) hk3)]
      simp only [put_rd sc_313, r3, bd_eq, nI_1]
    show ∃ R', fR_isAnswer_B52 _ _ _ _ _ _ _ _ _ = _ ∧ _
    rw [run]
    by_cases z : snF u t m (q k) = nI (f k)
    · rw [if_pos z]
      obtain ⟨R', z1, z2, z3⟩ := x_isA2 hS hn hq d (k + 1) fu R1 (by omega) (by omega) y3 (hH.fr f1)
      refine ⟨R', ?_, z2, f1.tr z3⟩
      rw [show (∀ j, k ≤ j → j < n → snF u t m (q j) = nI (f j)) = (∀ j, k + 1 ≤ j → j < n → snF u t m (q j) = nI (f j)) from propext ⟨fun y j a b => y j (by omega) b, fun y j a b => by
        by_cases e : j = k
        · rw [e]; exact z
        · exact y j (by omega) b⟩]
      exact z1
    · rw [if_neg z]
      exact ⟨R1, by rw [bI_f (fun y => z (y k (Nat.le_refl _) hk))], y3, f1⟩
theorem x_isA (hS : SP P) (hw : wiv w t m nb ns ne) {u : am_M} {n v : Nat} {q : Nat → Nat} (hn : n ≤ 3) (hq : qok ns n q) (h : CW I R P 36 u t m nb ns ne) (ho : ofD w q n u) (hH : tlH R q (dgF m n v) n) : ∃ R', fR_isAnswer P (am_pk 311 0 7) (am_pk 36 0 11) (nI n) (put I R) = some (bI (anP w t q m n v), put I R') ∧ CW I R' P 36 (dwN w q m n v) t m nb ns ne ∧ fr 36 R R' := by
  have hle := h.le
  have hf : ∀ k, k < n → dgF m n v k < m := fun k _ => dgF_lt (by omega) n v k
  obtain ⟨R1, u1, y1, y2, y3, y4, y5⟩ := x_isA1 hS hw hn hq hf (ex := fun l0 l1 l2 I => fR_isAnswer_L52 P (fun I => some (0, I)) (fun I => some (1, I)) sm_fu l0 l1 l2 0 I) n 0 sm_fu R u (sm_fu_lt (by omega)) (by omega) h ho (fun j hj => absurd hj (Nat.not_lt_zero _)) hH
  have eu : u1 = dwN w q m n v := y3.eq (dwN_s hw hq).1 y4 (dwN_s hw hq).2
  rw [eu] at y2
  obtain ⟨R2, z1, z2, z3⟩ := x_isA2 hS hn hq n 0 sm_fu R1 (sm_fu_lt (by omega)) (by omega) y2 (hH.fr y5)
  refine ⟨R2, ?_, z2, y5.tr z3⟩
  unfold fR_isAnswer
  refine Eq.trans y1 ?_
  rw [show anP w t q m n v = (∀ j, 0 ≤ j → j < n → snF (dwN w q m n v) t m (q j) = nI (dgF m n v j)) from propext ⟨fun y j _ b => y j b, fun y j b => y j (Nat.zero_le _) b⟩]
  exact z1
end Tri
