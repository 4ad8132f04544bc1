/-! ===== a turn ===== -/
def drF (w : am_M) (t : Nat → Nat → List Nat) (m ns x d : Nat) (dn : Int32) : am_M := if sinF w x d 0 ns < 0 then w else am_up (lfF w (ix (sinF w x d 0 ns)) (psF w t m (ix (sinF w x d 0 ns)) dn)) (d + 4) x (psF w t m (ix (sinF w x d 0 ns)) dn)
def unA (w : am_M) (x : Nat) : Prop := w 8 x = 0 ∨ ¬ w 4 x = w 9 x
def unB (w : am_M) (x : Nat) : Prop := w 8 x = 0 ∨ ¬ w 5 x = w 10 x
def wrkF (w : am_M) (x : Nat) : Prop := (w 1 x = 3 ∧ (unA w x ∨ unB w x)) ∨ (w 1 x = 5 ∧ unA w x ∧ unB w x) ∨ (¬ w 1 x = 3 ∧ ¬ w 1 x = 5)
theorem partF_ran {v : Int32} {m : Nat} (h1 : 2 ≤ m) (h2 : m ≤ 16) : ran m (partF v (nI m)) := partF_rng (by omega) (by omega)
/-- values of a line are numbers of the whole -/
theorem jnF_ran {m c : Nat} {x y : Int32} (h1 : 2 ≤ m) (h2 : m ≤ 16) (hx : ran m x) (hy : ran m y) : ran m (jnF (nI m) c x y) := by
  unfold jnF
  split
  · exact partF_ran h1 h2
  · split
    · exact partF_ran h1 h2
    · split
      · exact partF_ran h1 h2
      · split
        · rename_i hy1
          have hm : (nI m).toInt = (m : Int) := nI_toInt (by omega)
          obtain ⟨x1, x2⟩ := hx
          obtain ⟨y1, y2⟩ := hy
          refine ⟨partF_ge hy1 x1, ?_⟩
          rw [partF_rem x1 hy1]
          rw [i_le, i_0] at x1 y1
          rw [i_lt, hm] at x2 y2 ⊢
          rw [i_le] at hy1
          have hy2 : 1 ≤ y.toInt := hy1
          rw [rem_i, Int.tmod_eq_emod_of_nonneg x1]
          have := Int.emod_lt_of_pos x.toInt (show 0 < y.toInt by omega)
          omega
        · refine ⟨by decide, ?_⟩
          rw [l_0, nI_ltI (by decide) (by omega)]; omega
theorem evF_ran {m : Nat} {p q a b h : Int32} (h1 : 2 ≤ m) (h2 : m ≤ 16) : ∀ (cs : List Nat) (st : List Int32), (∀ v ∈ st, ran m v) → ∀ v ∈ evF (vlF p q a b h (nI m)) (nI m) cs st, ran m v
  | [], st, hst => hst
  | c :: cs, st, hst => by
    show ∀ v ∈ (if c < 110 then _ else _ : List Int32), ran m v
    by_cases hc : c < 110
    · rw [if_pos hc]
      exact evF_ran h1 h2 cs _ (fun v hv => by
        rcases List.mem_cons.mp hv with rfl | hv
        · exact partF_ran h1 h2
        · exact hst v hv)
    · rw [if_neg hc]
      match st, hst with
      | [], hst => exact evF_ran h1 h2 cs _ hst
      | [y], hst => exact evF_ran h1 h2 cs _ hst
      | y :: x :: r, hst =>
        exact evF_ran h1 h2 cs _ (fun v hv => by
          rcases List.mem_cons.mp hv with rfl | hv
          · exact jnF_ran h1 h2 (hst x (by simp)) (hst y (by simp))
          · exact hst v (by simp [hv]))
theorem wkF_ran {t : Nat → List Nat} {l m : Nat} {p q a b h : Int32} (h1 : 2 ≤ m) (h2 : m ≤ 16) (hp : ran m p) (hq : ran m q) : ran m (wkF t l p q a b h (nI m)) := by
  unfold wkF
  split
  · split
    · exact hp
    · exact hq
  · have := evF_ran (p := p) (q := q) (a := a) (b := b) (h := h) h1 h2 (t l) [] (fun _ h => by cases h)
    cases he : evF (vlF p q a b h (nI m)) (nI m) (t l) [] with
    | nil => exact ⟨by decide, by show (0 : Int32) < _; rw [l_0, nI_ltI (by decide) (by omega)]; omega⟩
    | cons v r => rw [he] at this; exact this v (by simp)
theorem gsF_ran {m : Nat} {r s0 s1 s2 : Int32} (h1 : 2 ≤ m) (h2 : m ≤ 16) (h0 : ran m s0) : ran m (gsF r (nI m) s0 s1 s2) := by
  unfold gsF
  split
  · exact partF_ran h1 h2
  · split
    · exact partF_ran h1 h2
    · exact h0
theorem psF_ran {w : am_M} {t : Nat → Nat → List Nat} {m nb ns ne s : Nat} {dn : Int32} (h : wiv w t m nb ns ne) (hs : s < ns) : ran m (psF w t m s dn) := by
  obtain ⟨⟨fb, hfb, e11⟩, -, -, -, h15, -⟩ := h.2.2.1 s hs
  have hB := h.2.1 fb hfb
  obtain ⟨-, m1, m2, -⟩ := h.1
  unfold psF
  split
  · unfold otF ix
    have hnb : nb ≤ 7 := h.1.2.2.2.2.1
    rw [e11, nI_clamp (by omega)]
    exact wkF_ran m1 m2 hB.2.1 hB.2.2.1
  · exact gsF_ran m1 m2 h15
section TurnX
variable {I R : am_M} {P : am_Q} {b : Nat} {w : am_M} {t : Nat → Nat → List Nat} {m nb ns ne : Nat}
theorem x_worksNow (h : CW I R P b w t m nb ns ne) {x : Nat} (hx : x < nb) : fB_worksNow (put I R) P (am_pk (b + 8 + x) 0 1) = some (bI (wrkF w x)) := by
  have hle := h.le
  have hsc := sc_bx h.1 (show x < 7 by omega)
  have ht : am_t (am_pk (b + 8 + x) 0 1) = 1 := am_t_pk (by decide)
  have key : ∀ (ua ub : Prop), fB_worksNow_J47 (put I R) P (am_pk (b + 8 + x) 0 1) (bI ua) (bI ub) = some (bI ((w 1 x = 3 ∧ (ua ∨ ub)) ∨ (w 1 x = 5 ∧ ua ∧ ub) ∨ (¬ w 1 x = 3 ∧ ¬ w 1 x = 5))) := by
    intro ua ub
    unfold fB_worksNow_J47
    simp only [sm_bd]
    rw [sm_ck_pos ht, put_rd hsc, h.rb hx (by decide)]
    simp only [bI_ifn, bI_if]
    by_cases k3 : w 1 x = 3
    · rw [if_pos k3]
      by_cases a1 : ua
      · rw [if_pos a1, bI_t (Or.inl ⟨k3, Or.inl a1⟩)]
      · rw [if_neg a1]
        by_cases b1 : ub
        · rw [if_pos b1, bI_t (Or.inl ⟨k3, Or.inr b1⟩)]
        · rw [if_neg b1, bI_f]
          rintro (z | z | z)
          · exact z.2.elim a1 b1
          · exact a1 z.2.1
          · exact z.1 k3
    · rw [if_neg k3]
      by_cases k5 : w 1 x = 5
      · rw [if_pos k5]
        by_cases a1 : ua
        · rw [if_pos a1]
          by_cases b1 : ub
          · rw [if_pos b1, bI_t (Or.inr (Or.inl ⟨k5, a1, b1⟩))]
          · rw [if_neg b1, bI_f]
            rintro (z | z | z)
            · exact k3 z.1
            · exact b1 z.2.2
            · exact z.2 k5
        · rw [if_neg a1, bI_f]
          rintro (z | z | z)
          · exact k3 z.1
          · exact a1 z.2.1
          · exact z.2 k5
      · rw [if_neg k5, bI_t (Or.inr (Or.inr ⟨k3, k5⟩))]
  have k23 : ∀ ua : Prop, fB_worksNow_J23 (put I R) P (am_pk (b + 8 + x) 0 1) (bI ua) = some (bI ((w 1 x = 3 ∧ (ua ∨ unB w x)) ∨ (w 1 x = 5 ∧ ua ∧ unB w x) ∨ (¬ w 1 x = 3 ∧ ¬ w 1 x = 5))) := by
    intro ua
    unfold fB_worksNow_J23 fB_worksNow_J42
    rw [sm_ck_pos ht, put_rd hsc, put_rd hsc, put_rd hsc, h.rb hx (by decide), h.rb hx (by decide), h.rb hx (by decide)]
    by_cases h8 : w 8 x = 0
    · rw [if_pos h8]
      have := key ua (unB w x)
      rw [show bI (unB w x) = 1 from bI_t (Or.inl h8)] at this
      exact this
    · rw [if_neg h8]
      by_cases e5 : w 5 x = w 10 x
      · rw [if_pos e5]
        have := key ua (unB w x)
        rw [show bI (unB w x) = 0 from bI_f (fun z => z.elim h8 (fun y => y e5))] at this
        exact this
      · rw [if_neg e5]
        have := key ua (unB w x)
        rw [show bI (unB w x) = 1 from bI_t (Or.inr e5)] at this
        exact this
  unfold fB_worksNow fB_worksNow_J18
  rw [sm_ck_pos ht, put_rd hsc, put_rd hsc, put_rd hsc, h.rb hx (by decide), h.rb hx (by decide), h.rb hx (by decide)]
  have fin := k23 (unA w x)
  by_cases h8 : w 8 x = 0
  · rw [if_pos h8]
    rw [show bI (unA w x) = 1 from bI_t (Or.inl h8)] at fin
    exact fin
  · rw [if_neg h8]
    by_cases e4 : w 4 x = w 9 x
    · rw [if_pos e4]
      rw [show bI (unA w x) = 0 from bI_f (fun z => z.elim h8 (fun y => y e4))] at fin
      exact fin
    · rw [if_neg e4]
      rw [show bI (unA w x) = 1 from bI_t (Or.inr e4)] at fin
      exact fin
end TurnX
