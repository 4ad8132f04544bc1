/-! ===== LEVEL B: the memory's cells that are made once ===== -/
/-- length and kind of a cell of a World, by its place in it -/
def st_w (d : Nat) : Nat × Nat := if d = 0 then (0, 11) else if d = 1 then (7, 22) else if d = 2 then (14, 23) else if d = 3 then (7, 20) else if d = 4 then (14, 20) else if d < 8 then (20, 20) else if d < 15 then (0, 1) else (0, 8)
def st_tab : List (Nat × Nat) := [(0, 10), (80, 20), (80, 20), (80, 20), (4, 20), (4, 20), (0, 1), (0, 6), (16, 20), (0, 3), (5, 20), (5, 20), (0, 7), (14, 20), (3, 20), (0, 5), (7, 20), (7, 20), (3, 20), (7, 20), (7, 20), (4, 25), (0, 9), (24, 20), (0, 9), (24, 20), (0, 9), (24, 20), (0, 9), (24, 20), (7, 20), (0, 13), (7, 20), (9, 20), (7, 20), (7, 20), (7, 20), (7, 20), (7, 20), (7, 20), (7, 20), (14, 20), (14, 20), (28, 20), (28, 20), (560, 20), (560, 20), (14, 20), (14, 20), (14, 20), (14, 20), (14, 20), (14, 20), (14, 20), (14, 20), (20, 20), (20, 20), (20, 20), (13500, 20), (80, 20), (80, 20), (80, 20), (80, 20), (4, 20), (4, 20), (14, 20), (14, 20), (14, 20), (14, 20), (4, 20), (4, 20), (96, 20), (5, 20), (5, 20), (7, 20), (7, 20), (3, 20), (7, 20), (420, 20), (24, 20)]
/-- length and kind of each cell that is made once -/
def st_lt (c : Nat) : Nat × Nat := if c < 7 then [(0, 0), (0, 0), (0, 12), (0, 4), (0, 20), (4, 20), (4, 20)].getD c (0, 0) else if c < 123 then st_w ((c - 7) % 29) else if c = 123 then (0, 2) else if c = 124 then (6, 24) else if c < 299 then st_w ((c - 125) % 29) else st_tab.getD (c - 299) (0, 0)
def st_c (c : Nat) : Nat := am_pk c (st_lt c).1 (st_lt c).2
/-- the memory: R for the cells 2 to 378, by their numbers; I for the rest -/
def put (I R : am_M) : am_M := fun a k => if 2 ≤ am_i a ∧ am_i a < 379 ∧ a = st_c (am_i a) then R (am_i a) k else I a k
/-- the ten Worlds, by the number of their first cell -/
def isW (b : Nat) : Prop := (∃ k, k < 4 ∧ b = 7 + 29 * k) ∨ ∃ k, k < 6 ∧ b = 125 + 29 * k
theorem isW.lt {b d : Nat} (h : isW b) (hd : d < 29) : st_lt (b + d) = st_w d := by
  unfold st_lt
  rcases h with ⟨k, hk, rfl⟩ | ⟨k, hk, rfl⟩
  · rw [if_neg (by omega), if_pos (by omega), show (7 + 29 * k + d - 7) % 29 = d by omega]
  · rw [if_neg (by omega), if_neg (by omega), if_neg (by omega), if_neg (by omega), if_pos (by omega), show (125 + 29 * k + d - 125) % 29 = d by omega]
theorem isW.rng {b : Nat} (h : isW b) : 7 ≤ b ∧ b + 29 ≤ 299 := by
  rcases h with ⟨k, hk, rfl⟩ | ⟨k, hk, rfl⟩ <;> omega
theorem isW.apart {b b' : Nat} (h : isW b) (h' : isW b') (hne : b ≠ b') : b + 29 ≤ b' ∨ b' + 29 ≤ b := by
  rcases h with ⟨k, hk, rfl⟩ | ⟨k, hk, rfl⟩ <;> rcases h' with ⟨k', hk', rfl⟩ | ⟨k', hk', rfl⟩ <;> omega
theorem st_w_lt (d : Nat) : (st_w d).1 < 16384 ∧ (st_w d).2 < 32 := by
  unfold st_w
  repeat' split
  all_goals exact ⟨by decide, by decide⟩
theorem st_lt_lt (c : Nat) : (st_lt c).1 < 16384 ∧ (st_lt c).2 < 32 := by
  have hg : ∀ (l : List (Nat × Nat)) (i : Nat), (∀ q ∈ l, q.1 < 16384 ∧ q.2 < 32) → (l.getD i (0, 0)).1 < 16384 ∧ (l.getD i (0, 0)).2 < 32 := by
    intro l i h
    rw [List.getD_eq_getElem?_getD]
    cases hq : l[i]? with
    | none => exact ⟨by decide, by decide⟩
    | some q => exact h q (List.mem_of_getElem? hq)
  unfold st_lt
  split
  · exact hg _ _ (by decide)
  · split
    · exact st_w_lt _
    · split
      · exact ⟨by decide, by decide⟩
      · split
        · exact ⟨by decide, by decide⟩
        · split
          · exact st_w_lt _
          · exact hg _ _ (by decide)
theorem am_pk_inj {i n t i' n' t' : Nat} (hn : n < 16384) (ht : t < 32) (hn' : n' < 16384) (ht' : t' < 32) (h : am_pk i n t = am_pk i' n' t') : i = i' ∧ n = n' ∧ t = t' := by
  unfold am_pk at h; omega
/-- a cell that is made once: where it is -/
def sc (c n t : Nat) : Prop := 2 ≤ c ∧ c < 379 ∧ st_lt c = (n, t)
theorem sc_i {c n t : Nat} (h : sc c n t) : am_i (am_pk c n t) = c := by
  have := st_lt_lt c
  rw [h.2.2] at this
  exact am_i_pk this.1 this.2
theorem sc_c {c n t : Nat} (h : sc c n t) : st_c c = am_pk c n t := by unfold st_c; rw [h.2.2]
theorem put_rd {I R : am_M} {c n t k : Nat} (h : sc c n t) : put I R (am_pk c n t) k = R c k := by
  unfold put
  rw [sc_i h, if_pos ⟨h.1, h.2.1, (sc_c h).symm⟩]
theorem put_rd' {I R : am_M} {c n t : Nat} (h : sc c n t) : put I R (am_pk c n t) = R c := funext fun _ => put_rd h
theorem put_up {I R : am_M} {c n t k : Nat} {v : Int32} (h : sc c n t) : am_up (put I R) (am_pk c n t) k v = put I (am_up R c k v) := by
  funext a j
  dsimp only [am_up, put]
  by_cases ha : 2 ≤ am_i a ∧ am_i a < 379 ∧ a = st_c (am_i a)
  · rw [if_pos ha, if_pos ha]
    by_cases e : a = am_pk c n t
    · subst e
      rw [sc_i h]
      by_cases ej : j = k
      · rw [if_pos ⟨rfl, ej⟩, if_pos ⟨rfl, ej⟩]
      · rw [if_neg (fun z => ej z.2), if_neg (fun z => ej z.2)]
    · rw [if_neg (fun z => e z.1), if_neg (fun z => e (by rw [ha.2.2, z.1]; exact sc_c h))]
  · rw [if_neg ha, if_neg ha, if_neg (fun z => ha (by rw [z.1, sc_i h]; exact ⟨h.1, h.2.1, (sc_c h).symm⟩))]
theorem put_set {I R : am_M} {c n t : Nat} {g : Nat → Int32} (h : sc c n t) : am_set (put I R) (am_pk c n t) g = put I (am_set R c g) := by
  funext a j
  dsimp only [am_set, put]
  by_cases ha : 2 ≤ am_i a ∧ am_i a < 379 ∧ a = st_c (am_i a)
  · rw [if_pos ha, if_pos ha]
    by_cases e : a = am_pk c n t
    · subst e
      rw [sc_i h, if_pos rfl, if_pos rfl]
    · rw [if_neg e, if_neg (fun z => e (by rw [ha.2.2, z]; exact sc_c h))]
  · rw [if_neg ha, if_neg ha, if_neg (fun z => ha (by rw [z, sc_i h]; exact ⟨h.1, h.2.1, (sc_c h).symm⟩))]
/-- other cells: the script, the table, and what is made later -/
theorem put_dy {I R : am_M} {a k : Nat} (h : am_i a < 2 ∨ 379 ≤ am_i a) : put I R a k = I a k := by
  unfold put
  rw [if_neg (by omega)]
theorem put_dset {I R : am_M} {a : Nat} {g : Nat → Int32} (h : am_i a < 2 ∨ 379 ≤ am_i a) : am_set (put I R) a g = put (am_set I a g) R := by
  funext x j
  dsimp only [am_set, put]
  by_cases e : x = a
  · subst e
    rw [if_pos rfl, if_neg (by omega), if_pos rfl]
  · rw [if_neg e]
    by_cases hx : 2 ≤ am_i x ∧ am_i x < 379 ∧ x = st_c (am_i x)
    · rw [if_pos hx, if_pos hx]
    · rw [if_neg hx, if_neg hx, if_neg e]
theorem put_dup {I R : am_M} {a k : Nat} {v : Int32} (h : am_i a < 2 ∨ 379 ≤ am_i a) : am_up (put I R) a k v = put (am_up I a k v) R := by
  funext x j
  dsimp only [am_up, put]
  by_cases e : x = a ∧ j = k
  · obtain ⟨rfl, rfl⟩ := e
    rw [if_pos ⟨rfl, rfl⟩, if_neg (by omega), if_pos ⟨rfl, rfl⟩]
  · rw [if_neg e]
    by_cases hx : 2 ≤ am_i x ∧ am_i x < 379 ∧ x = st_c (am_i x)
    · rw [if_pos hx, if_pos hx]
    · rw [if_neg hx, if_neg hx, if_neg e]
/-! checks -/
theorem ck_t {ρ : Type} {x : Option ρ} : sm_ck True x = x := sm_ck_pos trivial
theorem nI_lit (n : Nat) : (OfNat.ofNat n : Int32) = nI n := rfl
theorem sm_in_nI {c n k : Nat} (hn : n < 16384) (hk : k < n) : sm_in (am_pk c n 20) (nI k) := by
  refine ⟨am_t_pk (by decide), ?_⟩
  rw [am_n_pk hn (by decide)]
  exact nI_in hk (by omega)
theorem sm_iw_nI {c n k : Nat} (hc : 2 ≤ c) (hn : n < 16384) (hk : k < n) : sm_iw (am_pk c n 20) (nI k) := by
  refine ⟨am_t_pk (by decide), ?_, ?_⟩
  · rw [am_i_pk hn (by decide)]; exact hc
  · rw [am_n_pk hn (by decide)]
    exact nI_in hk (by omega)
theorem sm_ia_nI {c n t k : Nat} (ht : 22 ≤ t) (ht2 : t < 26) (hn : n < 16384) (hk : k < n) : sm_ia (am_pk c n t) (nI k) := by
  have e := am_t_pk (i := c) (n := n) (t := t) (by omega)
  refine ⟨by rw [e]; exact ht, by rw [e]; exact ht2, ?_⟩
  rw [am_n_pk hn (by omega)]
  exact nI_in hk (by omega)
theorem sm_iz_nI {c n k : Nat} (hn : n < 16384) (hk : k < n) : sm_iz (am_pk c n 21) (nI k) := by
  refine ⟨am_t_pk (by decide), ?_⟩
  rw [am_n_pk hn (by decide)]
  exact nI_in hk (by omega)
/-- an index that is not below 0 and below n -/
theorem ix_of {x : Int32} {n : Nat} (hn : n < 2 ^ 31) (h0 : ¬ x < 0) (h1 : x < nI n) : ∃ k, k < n ∧ x = nI k := by
  obtain ⟨j, hj, rfl⟩ := nI_of h0
  exact ⟨j, (nI_ltI hj hn).mp h1, rfl⟩
/-! loops -/
/-- a loop over i, i + 1, .., m - 1 -/
def lpF {σ : Type} (f : Nat → σ → σ) : Nat → Nat → σ → σ
  | _, 0, s => s
  | i, n + 1, s => lpF f (i + 1) n (f i s)
theorem lp_go {σ ρ : Type} (F : Nat → Nat → σ → Option ρ) (m : Nat) (f : Nat → σ → σ) (Inv : Nat → σ → Prop) (ex : σ → Option ρ)
    (hs : ∀ n i s, i < m → Inv i s → F (n + 1) i s = F n (i + 1) (f i s) ∧ Inv (i + 1) (f i s))
    (he : ∀ n s, Inv m s → F (n + 1) m s = ex s) : ∀ (d n i : Nat) (s : σ), i + d = m → d < n → Inv i s → F n i s = ex (lpF f i d s)
  | 0, n, i, s, h1, h2, hI => by
    obtain ⟨n, rfl⟩ : ∃ n', n = n' + 1 := ⟨n - 1, by omega⟩
    have : i = m := by omega
    subst this
    exact he n s hI
  | d + 1, n, i, s, h1, h2, hI => by
    obtain ⟨n, rfl⟩ : ∃ n', n = n' + 1 := ⟨n - 1, by omega⟩
    obtain ⟨e1, e2⟩ := hs n i s (by omega) hI
    rw [e1, lp_go F m f Inv ex hs he d n (i + 1) (f i s) (by omega) (by omega) e2]
    rfl
theorem lpF_inv {σ : Type} {f : Nat → σ → σ} {Inv : Nat → σ → Prop} : ∀ (d i : Nat) (s : σ), Inv i s → (∀ j s, i ≤ j → j < i + d → Inv j s → Inv (j + 1) (f j s)) → Inv (i + d) (lpF f i d s)
  | 0, i, s, h, _ => h
  | d + 1, i, s, h, hs => by
    have := lpF_inv (f := f) (Inv := Inv) d (i + 1) (f i s) (hs i s (Nat.le_refl _) (by omega) h) (fun j s h1 h2 h3 => hs j s (by omega) (by omega) h3)
    rw [show i + (d + 1) = i + 1 + d by omega]
    exact this
theorem sm_fu_lt {d : Nat} (h : d < 20000) : d < sm_fu := h
