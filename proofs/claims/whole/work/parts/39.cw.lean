/-! ===== the class's World at cell b holds the value w with the texts t ===== -/
def CW (I R : am_M) (P : am_Q) (b : Nat) (w : am_M) (t : Nat → Nat → List Nat) (m nb ns ne : Nat) : Prop := isW b ∧ rep (vC R b) w ∧ wiv w t m nb ns ne ∧ (∀ i, i < nb → lnr (put I R) P (P (am_pk (b + 8 + i) 0 1) 10) (t i)) ∧ ∀ x, x < nb → ∀ d, d < 2 → R (b + 4) (2 * x + d) = sinF w x d 0 ns
theorem wiv.cnt {w : am_M} {t : Nat → Nat → List Nat} {m nb ns ne : Nat} (h : wiv w t m nb ns ne) : wnb w = nb ∧ wns w = ns ∧ wne w = ne := by
  obtain ⟨⟨-, -, -, h1, h2, h3, h4, h5, h6, -⟩, -⟩ := h
  unfold wnb wns wne
  rw [h1, h3, h5, nI_clamp (by omega), nI_clamp (by omega), nI_clamp (by omega)]
  exact ⟨rfl, rfl, rfl⟩
section CWs
variable {I R : am_M} {P : am_Q} {b : Nat} {w : am_M} {t : Nat → Nat → List Nat} {m nb ns ne : Nat}
theorem CW.le (h : CW I R P b w t m nb ns ne) : nb ≤ 7 ∧ ns ≤ 14 ∧ ne ≤ 20 ∧ 2 ≤ m ∧ m ≤ 16 := by
  obtain ⟨-, -, ⟨⟨-, a1, a2, -, a3, -, a4, -, a5, -⟩, -⟩, -⟩ := h
  exact ⟨a3, a4, a5, a1, a2⟩
theorem CW.rs (h : CW I R P b w t m nb ns ne) {k : Nat} (hk : k < 9) : R b k = w 0 k := by
  have h1 := h.2.1 0 k (Or.inl ⟨rfl, hk⟩)
  rw [vC_rd (Or.inl ⟨rfl, hk⟩)] at h1
  exact h1
theorem CW.rb (h : CW I R P b w t m nb ns ne) {i k : Nat} (hi : i < nb) (hk : k < 10) : R (b + 8 + i) k = w (k + 1) i := by
  have hl := h.le
  have hok : okrc (k + 1) i := Or.inr (Or.inl ⟨by omega, by omega, by omega⟩)
  have h1 := h.2.1 (k + 1) i (Or.inr (Or.inl ⟨by omega, by omega, by rw [h.2.2.1.cnt.1]; exact hi⟩))
  rw [vC_rd hok] at h1
  unfold aC at h1
  rw [if_neg (by omega), if_pos (by omega)] at h1
  exact h1
theorem CW.rm (h : CW I R P b w t m nb ns ne) {i k : Nat} (hi : i < ns) (hk : k < 10) : R (b + 15 + i) k = w (k + 11) i := by
  have hl := h.le
  have hok : okrc (k + 11) i := Or.inr (Or.inr (Or.inl ⟨by omega, by omega, by omega⟩))
  have h1 := h.2.1 (k + 11) i (Or.inr (Or.inr (Or.inl ⟨by omega, by omega, by rw [h.2.2.1.cnt.2.1]; exact hi⟩)))
  rw [vC_rd hok] at h1
  unfold aC at h1
  rw [if_neg (by omega), if_neg (by omega), if_pos (by omega), show k + 11 - 11 = k by omega] at h1
  exact h1
theorem CW.ro (h : CW I R P b w t m nb ns ne) {i : Nat} (hi : i < nb) : R (b + 3) i = w 21 i := by
  have hl := h.le
  have hok : okrc 21 i := Or.inr (Or.inr (Or.inr (Or.inl ⟨rfl, by omega⟩)))
  have h1 := h.2.1 21 i (Or.inr (Or.inr (Or.inr (Or.inl ⟨rfl, by rw [h.2.2.1.cnt.1]; exact hi⟩))))
  rw [vC_rd hok] at h1
  exact h1
theorem CW.re (h : CW I R P b w t m nb ns ne) {i k : Nat} (hi : i < ne) (hk : k < 3) : R (b + 5 + k) i = w (22 + k) i := by
  have hl := h.le
  have hok : okrc (22 + k) i := Or.inr (Or.inr (Or.inr (Or.inr ⟨by omega, by omega, by omega⟩)))
  have h1 := h.2.1 (22 + k) i (Or.inr (Or.inr (Or.inr (Or.inr ⟨by omega, by omega, by rw [h.2.2.1.cnt.2.2]; exact hi⟩))))
  rw [vC_rd hok] at h1
  unfold aC at h1
  rw [if_neg (by omega), if_neg (by omega), if_neg (by omega), if_neg (by omega), show b + (22 + k - 17) = b + 5 + k by omega] at h1
  exact h1
theorem sinF_cong {w w' : am_M} {x d : Nat} (h : ∀ s, w' 13 s = w 13 s ∧ w' 14 s = w 14 s) : ∀ (n s : Nat), sinF w' x d s n = sinF w x d s n
  | 0, _ => rfl
  | n + 1, s => by
    show (if _ then _ else _) = (if _ then _ else _)
    rw [(h s).1, (h s).2, sinF_cong h n (s + 1)]
/-- one entry is written -/
theorem CW.up (h : CW I R P b w t m nb ns ne) {r c : Nat} {v : Int32} (hok : okrc r c) (hr : r < 13 ∨ 14 < r) (h0 : ¬ (r = 0 ∧ 6 ≤ c)) (hw : wiv (am_up w r c v) t m nb ns ne) : CW I (am_up R (aC b r c).1 (aC b r c).2 v) P b (am_up w r c v) t m nb ns ne := by
  obtain ⟨hb, h1, h2, h3, h4⟩ := h
  obtain ⟨g1, g2, g3, g4, g5⟩ := aC_rng (b := b) hok
  have hbr := hb.rng
  refine ⟨hb, ?_, hw, fun i hi => ?_, fun x hx d hd => ?_⟩
  · rw [vC_up hok]; exact h1.up h0
  · exact (h3 i hi).kept (put_okcl (fun c' hc' => by funext k; rw [am_up_ne (by omega)]))
  · rw [am_up_ne (fun z => g5 z.symm), h4 x hx d hd]
    refine (sinF_cong (fun s => ⟨?_, ?_⟩) _ _).symm
    · rw [am_up_ne (by omega)]
    · rw [am_up_ne (by omega)]
/-- cells elsewhere change -/
theorem CW.fr {R' : am_M} (h : CW I R P b w t m nb ns ne) (hR : ∀ c, b ≤ c → c < b + 29 → R' c = R c) (hR2 : ∀ c, c = 4 ∨ c = 5 ∨ c = 6 → R' c = R c) : CW I R' P b w t m nb ns ne := by
  obtain ⟨hb, h1, h2, h3, h4⟩ := h
  refine ⟨hb, ?_, h2, fun i hi => (h3 i hi).kept (put_okcl hR2), fun x hx d hd => ?_⟩
  · rw [vC_congr (fun c h1 h2 _ _ _ => hR c h1 h2)]; exact h1
  · rw [hR (b + 4) (by omega) (by omega)]; exact h4 x hx d hd
/-- the class's work for a box of the World -/
theorem CW.work (hS : SP P) (h : CW I R P b w t m nb ns ne) {i l : Nat} {hh : Int32} (hi : i < nb) (hl : l < 4) : ∃ R', fK_work P (am_pk 306 0 6) (am_pk (b + 8 + i) 0 1) (nI l) hh (nI m) (put I R) = some (wkF (t i) l (w 2 i) (w 3 i) (w 4 i) (w 5 i) hh (nI m), put I R') ∧ (∀ c, c ≠ 307 → R' c = R c) ∧ CW I R' P b w t m nb ns ne := by
  have hle := h.le
  have hbr := h.1.rng
  obtain ⟨R', q1, q2⟩ := x_work (I := I) (h := hh) hS hl (sc_bx h.1 (show i < 7 by omega)) rfl (h.2.2.2.1 i hi) ((h.2.2.1.2.1 i hi).2.2.2.2.2.2.2.2) (le1 (m := m) (by omega) (by omega))
  rw [h.rb hi (by decide), h.rb hi (by decide), h.rb hi (by decide), h.rb hi (by decide)] at q1
  exact ⟨R', q1, q2, h.fr (fun c _ _ => q2 c (by omega)) (fun c hc => q2 c (by omega))⟩
end CWs
