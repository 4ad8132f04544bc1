/-! ===== LEVEL A: a method of the small machine as a function ===== -/
/-- from a place of a method: if the function's rest is some y, the run ends with g y -/
def sm {ρ : Type} (dp : Nat) (d : am_D) (pc : Nat) (ls : List (Option am_V)) (st : List am_V) (S : am_S) (g : ρ → Option am_V × am_S) (x : Option ρ) : Prop := ∀ y, x = some y → ∃ N, ∀ n, N ≤ n → ∀ k, N ≤ k → am_run (am_call dp n) d k pc ls st S = some (g y)
def sm_T (dp j : Nat) (as : List am_V) (S : am_S) (y : Option am_V × am_S) : Prop := ∃ N, ∀ n, N ≤ n → am_call dp n j as S = some y
noncomputable def sm_ck {ρ : Type} (c : Prop) (x : Option ρ) : Option ρ := @ite _ c (Classical.propDecidable c) x none
def sm_bd {α ρ : Type} (e : α) (f : α → Option ρ) : Option ρ := f e
/-- an index of an int array; of one that may be written; of a boolean array; of an array of references -/
def sm_in (a : Nat) (i : Int32) : Prop := am_t a = 20 ∧ ¬ (i < 0 ∨ am_n a ≤ i.toNatClampNeg)
def sm_iw (a : Nat) (i : Int32) : Prop := am_t a = 20 ∧ 2 ≤ am_i a ∧ ¬ (i < 0 ∨ am_n a ≤ i.toNatClampNeg)
def sm_iz (a : Nat) (i : Int32) : Prop := am_t a = 21 ∧ ¬ (i < 0 ∨ am_n a ≤ i.toNatClampNeg)
def sm_ia (a : Nat) (i : Int32) : Prop := 22 ≤ am_t a ∧ am_t a < 26 ∧ ¬ (i < 0 ∨ am_n a ≤ i.toNatClampNeg)
def sm_01 (x : Int32) : Prop := x = 0 ∨ x = 1
def sm_nw {ρ : Type} (t : Nat) (I : am_M) (P : am_Q) (nx sl : Nat) (K : Nat → am_M → am_Q → Nat → Nat → Option ρ) : Option ρ := K (am_pk nx 0 t) (am_set I (am_pk nx 0 t) (fun _ => 0)) (am_set P (am_pk nx 0 t) (fun _ => 0)) (nx + 1) (sl + am_nf t)
def sm_na {ρ : Type} (t : Nat) (n : Int32) (I : am_M) (nx sl : Nat) (K : Nat → am_M → Nat → Nat → Option ρ) : Option ρ := K (am_pk nx n.toNatClampNeg t) (am_set I (am_pk nx n.toNatClampNeg t) (fun _ => 0)) (nx + 1) (sl + n.toNatClampNeg)
def sm_nq {ρ : Type} (t : Nat) (n : Int32) (P : am_Q) (nx sl : Nat) (K : Nat → am_Q → Nat → Nat → Option ρ) : Option ρ := K (am_pk nx n.toNatClampNeg t) (am_set P (am_pk nx n.toNatClampNeg t) (fun _ => 0)) (nx + 1) (sl + n.toNatClampNeg)
def sm_cl {ρ : Type} (a : Nat) (I : am_M) (nx sl : Nat) (K : Nat → am_M → Nat → Nat → Option ρ) : Option ρ := K (am_pk nx (am_n a) 20) (am_set I (am_pk nx (am_n a) 20) (I a)) (nx + 1) (sl + am_n a)
def sm_fu : Nat := 20000
theorem sm_ck_pos {ρ : Type} {c : Prop} {x : Option ρ} (h : c) : sm_ck c x = x := by unfold sm_ck; rw [if_pos h]
def sm_g0 (S : am_S) (v : Int32) : Option am_V × am_S := (some (.inl v), S)
def sm_gA (S : am_S) (v : Nat) : Option am_V × am_S := (some (.inr v), S)
def sm_gU (S : am_S) (_ : Unit) : Option am_V × am_S := (none, S)
def sm_g1 (P : am_Q) (nx sl : Nat) (r : Int32 × am_M) : Option am_V × am_S := (some (.inl r.1), (r.2, P, nx, sl))
def sm_g2 (P : am_Q) (nx sl : Nat) (I : am_M) : Option am_V × am_S := (none, (I, P, nx, sl))
def sm_g3 (r : Int32 × am_S) : Option am_V × am_S := (some (.inl r.1), r.2)
def sm_g4 (S : am_S) : Option am_V × am_S := (none, S)
def sm_g5 (r : Nat × am_S) : Option am_V × am_S := (some (.inr r.1), r.2)
def sm_rem (x y : Int32) : Int32 := x - x / y * y
def sm_shl (x y : Int32) : Int32 := x <<< (y &&& 31)
def sm_shr (x y : Int32) : Int32 := x >>> (y &&& 31)
def sm_ushr (x y : Int32) : Int32 := (x.toUInt32 >>> (y.toUInt32 &&& Int32.toUInt32 31)).toInt32
def sm_min (x y : Int32) : Int32 := if y < x then y else x
def sm_max (x y : Int32) : Int32 := if x < y then y else x
theorem am_nz {x t : Nat} (h : am_t x = t + 1) : ¬ x = 0 := fun e => by rw [e] at h; exact absurd h (by show ¬ (0 % 32 = t + 1); omega)
theorem sm_010 : sm_01 0 := Or.inl rfl
theorem sm_011 : sm_01 1 := Or.inr rfl
theorem sm_dv {x y : Int32} (h : ¬ y = 0) : am_bin 3 x y = some (x / y) := if_neg h
theorem sm_rv {x y : Int32} (h : ¬ y = 0) : am_bin 4 x y = some (sm_rem x y) := if_neg h
section SmRules
variable {ρ : Type} {dp pc q : Nat} {d : am_D} {ls : List (Option am_V)} {st : List am_V} {S : am_S} {I : am_M} {P : am_Q} {nx sl : Nat} {g : ρ → Option am_V × am_S} {X Y : Option ρ} {v : Int} {ys : List Nat}
theorem sm_step {r : am_R} {pc' : Nat} {ls' : List (Option am_V)} {st' : List am_V} {S' : am_S} (hf : am_fe d pc = some r) (h1 : ¬ 36 ≤ r.1) (h2 : ¬ r.1 = 32) (hs : am_st r ls st S = some (pc', ls', st', S')) (k : sm dp d pc' ls' st' S' g X) : sm dp d pc ls st S g X := by
  intro y hy
  obtain ⟨N, hN⟩ := k y hy
  refine ⟨N + 1, fun n hn k hk => ?_⟩
  obtain ⟨k', rfl⟩ : ∃ k', k = k' + 1 := ⟨k - 1, by omega⟩
  unfold am_run
  simp only [hf, if_neg h1, if_neg h2, hs]
  exact hN n (by omega) k' (by omega)
theorem sm_none {g : ρ → Option am_V × am_S} : sm dp d pc ls st S g none := fun y h => by cases h
/-- a named value -/
theorem r_bd {e : Int32} {F : Int32 → Option ρ} (k : ∀ x, sm dp d pc ls (.inl x :: st) S g (F x)) : sm dp d pc ls (.inl e :: st) S g (sm_bd e F) := k e
theorem r_bdA {e : Nat} {F : Nat → Option ρ} (k : ∀ x, sm dp d pc ls (.inr x :: st) S g (F x)) : sm dp d pc ls (.inr e :: st) S g (sm_bd e F) := k e
theorem r_ck {c : Prop} (k : c → sm dp d pc ls st S g X) : sm dp d pc ls st S g (sm_ck c X) := by
  unfold sm_ck
  split
  · rename_i h; exact k h
  · exact sm_none
theorem r_ite {c : Prop} {dc : Decidable c} (kt : c → sm dp d pc ls st S g X) (kf : ¬ c → sm dp d pc ls st S g Y) : sm dp d pc ls st S g (@ite _ c dc X Y) := by
  split
  · rename_i h; exact kt h
  · rename_i h; exact kf h
theorem r_const {x : Int32} (hf : am_fe d pc = some (0, q, v, ys)) (hx : Int32.ofInt v = x) (k : sm dp d q ls (.inl x :: st) S g X) : sm dp d pc ls st S g X := by
  subst hx
  exact sm_step hf (by simp) (by simp) rfl k
theorem r_iload {i : Nat} {x : Int32} (hf : am_fe d pc = some (1, q, v, i :: ys)) (hl : ls[i]? = some (some (.inl x))) (k : sm dp d q ls (.inl x :: st) S g X) : sm dp d pc ls st S g X :=
  sm_step hf (by simp) (by simp) (by simp [am_st, am_o1, hl]) k
theorem r_aload {i : Nat} {x : Nat} (hf : am_fe d pc = some (2, q, v, i :: ys)) (hl : ls[i]? = some (some (.inr x))) (h0 : ¬ x = 0) (k : sm dp d q ls (.inr x :: st) S g X) : sm dp d pc ls st S g X :=
  sm_step hf (by simp) (by simp) (by simp [am_st, am_o2, hl, h0]) k
theorem r_istore {i : Nat} {x : Int32} {ls' : List (Option am_V)} (hf : am_fe d pc = some (3, q, v, i :: ys)) (hi : i < ls.length) (hl : ls.set i (some (.inl x)) = ls') (k : sm dp d q ls' st S g X) : sm dp d pc ls (.inl x :: st) S g X := by
  subst hl
  exact sm_step hf (by simp) (by simp) (by simp [am_st, am_o3, hi]) k
theorem r_astore {i : Nat} {x : Nat} {ls' : List (Option am_V)} (hf : am_fe d pc = some (4, q, v, i :: ys)) (hi : i < ls.length) (h0 : ¬ x = 0) (hl : ls.set i (some (.inr x)) = ls') (k : sm dp d q ls' st S g X) : sm dp d pc ls (.inr x :: st) S g X := by
  subst hl
  exact sm_step hf (by simp) (by simp) (by simp [am_st, am_o4, hi, h0]) k
theorem r_iinc {i : Nat} {x e : Int32} {ls' : Int32 → List (Option am_V)} {F : Int32 → Option ρ} (hf : am_fe d pc = some (5, q, v, i :: ys)) (h0 : ls[i]? = some (some (.inl x))) (he : x + Int32.ofInt v = e) (hl : ∀ z, ls.set i (some (.inl z)) = ls' z) (k : ∀ z, sm dp d q (ls' z) st S g (F z)) : sm dp d pc ls st S g (sm_bd e F) := by
  subst he
  exact sm_step hf (by simp) (by simp) (by simp [am_st, am_o5, h0, hl]) (k (x + Int32.ofInt v))
theorem r_bin {bo : Nat} {x y z : Int32} (hf : am_fe d pc = some (6, q, v, bo :: ys)) (hz : am_bin bo x y = some z) (hbo : bo < 10) (k : sm dp d q ls (.inl z :: st) S g X) : sm dp d pc ls (.inl y :: .inl x :: st) S g X :=
  sm_step hf (by simp) (by simp) (by simp only [am_st, am_o6, List.headD_cons, hz]; exact if_pos (Or.inl hbo)) k
theorem r_mm {bo : Nat} {x y z : Int32} (hf : am_fe d pc = some (6, q, v, bo :: ys)) (hz : am_bin bo x y = some z) (h40 : st.length ≤ 40) (k : sm dp d q ls (.inl z :: st) S g X) : sm dp d pc ls (.inl y :: .inl x :: st) S g X :=
  sm_step hf (by simp) (by simp) (by simp only [am_st, am_o6, List.headD_cons, hz]; exact if_pos (Or.inr h40)) k
theorem r_un {bo : Nat} {x z : Int32} (hf : am_fe d pc = some (7, q, v, bo :: ys)) (hz : am_un bo x = some z) (k : sm dp d q ls (.inl z :: st) S g X) : sm dp d pc ls (.inl x :: st) S g X :=
  sm_step hf (by simp) (by simp) (by simp [am_st, am_o7, hz]) k
theorem r_dup {x : am_V} (hf : am_fe d pc = some (8, q, v, ys)) (k : sm dp d q ls (x :: x :: st) S g X) : sm dp d pc ls (x :: st) S g X := sm_step hf (by simp) (by simp) rfl k
theorem r_dup2 {x y : am_V} (hf : am_fe d pc = some (9, q, v, ys)) (k : sm dp d q ls (x :: y :: x :: y :: st) S g X) : sm dp d pc ls (x :: y :: st) S g X := sm_step hf (by simp) (by simp) rfl k
theorem r_pop {x : am_V} (hf : am_fe d pc = some (10, q, v, ys)) (k : sm dp d q ls st S g X) : sm dp d pc ls (x :: st) S g X := sm_step hf (by simp) (by simp) rfl k
/-- a branch: the condition is written as the function has it -/
theorem r_if {cc t : Nat} {x : Int32} {c : Prop} {dc : Decidable c} (hf : am_fe d pc = some (11, q, v, cc :: t :: ys)) (hc : am_cmp cc x 0 = c) (kt : c → sm dp d t ls st S g X) (kf : ¬ c → sm dp d q ls st S g Y) : sm dp d pc ls (.inl x :: st) S g (@ite _ c dc X Y) := by
  subst hc
  split
  · rename_i h; exact sm_step hf (by simp) (by simp) (by simp [am_st, am_o11, h]) (kt h)
  · rename_i h; exact sm_step hf (by simp) (by simp) (by simp [am_st, am_o11, h]) (kf h)
theorem r_icmp {cc t : Nat} {x y : Int32} {c : Prop} {dc : Decidable c} (hf : am_fe d pc = some (12, q, v, cc :: t :: ys)) (hc : am_cmp cc x y = c) (kt : c → sm dp d t ls st S g X) (kf : ¬ c → sm dp d q ls st S g Y) : sm dp d pc ls (.inl y :: .inl x :: st) S g (@ite _ c dc X Y) := by
  subst hc
  split
  · rename_i h; exact sm_step hf (by simp) (by simp) (by simp [am_st, am_o12, h]) (kt h)
  · rename_i h; exact sm_step hf (by simp) (by simp) (by simp [am_st, am_o12, h]) (kf h)
theorem r_goto {t : Nat} (hf : am_fe d pc = some (13, q, v, t :: ys)) (k : sm dp d t ls st S g X) : sm dp d pc ls st S g X := sm_step hf (by simp) (by simp) rfl k
/-- a switch at a known number -/
theorem r_tab {x : Int32} {t : Nat} (hf : am_fe d pc = some (14, q, v, ys)) (ht : (if x.toInt < v ∨ v + (ys.tail.length : Int) ≤ x.toInt then ys.headD 0 else ys.tail.getD (x.toInt - v).toNat 0) = t) (k : sm dp d t ls st S g X) : sm dp d pc ls (.inl x :: st) S g X := by
  subst ht
  exact sm_step hf (by simp) (by simp) rfl k
theorem r_tabE {x c : Int32} {t : Nat} (hf : am_fe d pc = some (14, q, v, ys)) (hx : x = c) (ht : (if c.toInt < v ∨ v + (ys.tail.length : Int) ≤ c.toInt then ys.headD 0 else ys.tail.getD (c.toInt - v).toNat 0) = t) (k : sm dp d t ls st S g X) : sm dp d pc ls (.inl x :: st) S g X := by
  subst hx
  exact r_tab hf ht k
def sm_nt (x : Int32) : Int → Nat → Prop
  | _, 0 => True
  | lo, n + 1 => ¬ x = Int32.ofInt lo ∧ sm_nt x (lo + 1) n
theorem sm_nt_out (x : Int32) : ∀ (n : Nat) (lo : Int), sm_nt x lo n → x.toInt < lo ∨ lo + (n : Int) ≤ x.toInt
  | 0, lo, _ => by omega
  | n + 1, lo, h => by
    have h2 := sm_nt_out x n (lo + 1) h.2
    have h1 : ¬ x.toInt = lo := fun e => h.1 (by rw [← e, Int32.ofInt_toInt])
    omega
theorem r_tabD {x : Int32} {t : Nat} {ts : List Nat} (hf : am_fe d pc = some (14, q, v, t :: ts)) (hn : sm_nt x v ts.length) (k : sm dp d t ls st S g X) : sm dp d pc ls (.inl x :: st) S g X := by
  refine r_tab hf ?_ k
  exact if_pos (sm_nt_out x _ _ hn)
theorem r_lok {x : Int32} {t : Nat} (hf : am_fe d pc = some (15, q, v, ys)) (ht : am_lk x.toInt (ys.headD 0) ys.tail = t) (k : sm dp d t ls st S g X) : sm dp d pc ls (.inl x :: st) S g X := by
  subst ht
  exact sm_step hf (by simp) (by simp) rfl k
theorem r_lokE {x c : Int32} {t : Nat} (hf : am_fe d pc = some (15, q, v, ys)) (hx : x = c) (ht : am_lk c.toInt (ys.headD 0) ys.tail = t) (k : sm dp d t ls st S g X) : sm dp d pc ls (.inl x :: st) S g X := by
  subst hx
  exact r_lok hf ht k
def sm_nk (x : Int32) : List Nat → Prop
  | k :: _ :: r => ¬ x = Int32.ofInt (k : Int) ∧ sm_nk x r
  | _ => True
theorem sm_nk_d (x : Int32) (t : Nat) : ∀ zs, sm_nk x zs → am_lk x.toInt t zs = t
  | [], _ => rfl
  | [_], _ => rfl
  | k :: a :: r, h => by
    have h1 : ¬ x.toInt = (k : Int) := fun e => h.1 (by rw [← e, Int32.ofInt_toInt])
    show (if x.toInt = (k : Int) then a else am_lk x.toInt t r) = t
    rw [if_neg h1]
    exact sm_nk_d x t r h.2
theorem r_lokD {x : Int32} {t : Nat} {ts : List Nat} (hf : am_fe d pc = some (15, q, v, t :: ts)) (hn : sm_nk x ts) (k : sm dp d t ls st S g X) : sm dp d pc ls (.inl x :: st) S g X := r_lok hf (sm_nk_d x t ts hn) k
theorem r_getI {a t k : Nat} (hf : am_fe d pc = some (16, q, v, t :: k :: ys)) (ht : am_t a = t) (kk : sm dp d q ls (.inl (I a k) :: st) (I, P, nx, sl) g X) : sm dp d pc ls (.inr a :: st) (I, P, nx, sl) g X :=
  sm_step hf (by simp) (by simp) (by simp [am_st, am_o16, ht]) kk
theorem r_getP {a t k : Nat} (hf : am_fe d pc = some (17, q, v, t :: k :: ys)) (ht : am_t a = t) (kk : sm dp d q ls (.inr (P a k) :: st) (I, P, nx, sl) g X) : sm dp d pc ls (.inr a :: st) (I, P, nx, sl) g X :=
  sm_step hf (by simp) (by simp) (by simp [am_st, am_o17, ht]) kk
theorem r_putI {a t k : Nat} {x : Int32} {F : am_M → Option ρ} (hf : am_fe d pc = some (18, q, v, t :: k :: ys)) (ht : am_t a = t) (hz : am_isZ t k = true → x = 0 ∨ x = 1) (kk : ∀ I', sm dp d q ls st (I', P, nx, sl) g (F I')) : sm dp d pc ls (.inl x :: .inr a :: st) (I, P, nx, sl) g (sm_bd (am_up I a k x) F) :=
  sm_step hf (by simp) (by simp) (by simp only [am_st, am_o18, List.headD_cons, List.getD_cons_succ, List.getD_cons_zero]; exact if_pos ⟨ht, hz⟩) (kk (am_up I a k x))
theorem r_putP {a t k : Nat} {x : Nat} {F : am_Q → Option ρ} (hf : am_fe d pc = some (19, q, v, t :: k :: ys)) (ht : am_t a = t) (kk : ∀ P', sm dp d q ls st (I, P', nx, sl) g (F P')) : sm dp d pc ls (.inr x :: .inr a :: st) (I, P, nx, sl) g (sm_bd (am_up P a k x) F) :=
  sm_step hf (by simp) (by simp) (by simp [am_st, am_o19, ht]) (kk (am_up P a k x))
theorem r_above (hf : am_fe d pc = some (20, q, v, ys)) (kk : sm dp d q ls (.inr am_ap :: st) S g X) : sm dp d pc ls st S g X := sm_step hf (by simp) (by simp) rfl kk
theorem r_iald {a : Nat} {i : Int32} (hf : am_fe d pc = some (21, q, v, ys)) (hi : sm_in a i) (kk : sm dp d q ls (.inl (I a i.toNatClampNeg) :: st) (I, P, nx, sl) g X) : sm dp d pc ls (.inl i :: .inr a :: st) (I, P, nx, sl) g X :=
  sm_step hf (by simp) (by simp) (by simp only [am_st, am_o21]; exact if_pos hi) kk
theorem r_iast {a : Nat} {i x : Int32} {F : am_M → Option ρ} (hf : am_fe d pc = some (22, q, v, ys)) (hi : sm_iw a i) (kk : ∀ I', sm dp d q ls st (I', P, nx, sl) g (F I')) : sm dp d pc ls (.inl x :: .inl i :: .inr a :: st) (I, P, nx, sl) g (sm_bd (am_up I a i.toNatClampNeg x) F) :=
  sm_step hf (by simp) (by simp) (by simp only [am_st, am_o22]; exact if_pos hi) (kk _)
theorem r_bald {a : Nat} {i : Int32} (hf : am_fe d pc = some (23, q, v, ys)) (hi : sm_iz a i) (kk : sm dp d q ls (.inl (I a i.toNatClampNeg) :: st) (I, P, nx, sl) g X) : sm dp d pc ls (.inl i :: .inr a :: st) (I, P, nx, sl) g X :=
  sm_step hf (by simp) (by simp) (by simp only [am_st, am_o23]; exact if_pos hi) kk
theorem r_bast {a : Nat} {i x : Int32} {F : am_M → Option ρ} (hf : am_fe d pc = some (24, q, v, ys)) (hx : sm_01 x) (hi : sm_iz a i) (kk : ∀ I', sm dp d q ls st (I', P, nx, sl) g (F I')) : sm dp d pc ls (.inl x :: .inl i :: .inr a :: st) (I, P, nx, sl) g (sm_bd (am_up I a i.toNatClampNeg x) F) :=
  sm_step hf (by simp) (by simp) (by simp only [am_st, am_o24]; exact if_pos ⟨hi.1, hx, hi.2⟩) (kk _)
theorem r_aald {a : Nat} {i : Int32} (hf : am_fe d pc = some (25, q, v, ys)) (hi : sm_ia a i) (kk : sm dp d q ls (.inr (P a i.toNatClampNeg) :: st) (I, P, nx, sl) g X) : sm dp d pc ls (.inl i :: .inr a :: st) (I, P, nx, sl) g X :=
  sm_step hf (by simp) (by simp) (by simp only [am_st, am_o25]; exact if_pos hi) kk
theorem r_aast {a x : Nat} {i : Int32} {F : am_Q → Option ρ} (hf : am_fe d pc = some (26, q, v, ys)) (hi : sm_ia a i) (hx : am_t x = am_el (am_t a)) (kk : ∀ P', sm dp d q ls st (I, P', nx, sl) g (F P')) : sm dp d pc ls (.inr x :: .inl i :: .inr a :: st) (I, P, nx, sl) g (sm_bd (am_up P a i.toNatClampNeg x) F) :=
  sm_step hf (by simp) (by simp) (by simp only [am_st, am_o26]; exact if_pos ⟨hi.1, hi.2.1, hx, hi.2.2⟩) (kk _)
theorem r_alen {a : Nat} (hf : am_fe d pc = some (27, q, v, ys)) (ht : 20 ≤ am_t a ∧ am_t a < 26) (kk : sm dp d q ls (.inl (Int32.ofNat (am_n a)) :: st) S g X) : sm dp d pc ls (.inr a :: st) S g X :=
  sm_step hf (by simp) (by simp) (by simp only [am_st, am_o27]; exact if_pos ht) kk
theorem am_pk_ne {i n t : Nat} (ht : 1 ≤ t) : ¬ am_pk i n t = 0 := by unfold am_pk; omega
theorem r_new {t : Nat} {K : Nat → am_M → am_Q → Nat → Nat → Option ρ} (hf : am_fe d pc = some (28, q, v, t :: ys)) (h1 : 1 ≤ t) (h2 : t < 32) (kk : ∀ p I' P' nx' sl', am_t p = t → ¬ p = 0 → sm dp d q ls (.inr p :: st) (I', P', nx', sl') g (K p I' P' nx' sl')) : sm dp d pc ls st (I, P, nx, sl) g (sm_nw t I P nx sl K) :=
  sm_step hf (by simp) (by simp) rfl (kk _ _ _ _ _ (am_t_pk h2) (am_pk_ne h1))
theorem r_newa {t : Nat} {n : Int32} {K : Nat → am_M → Nat → Nat → Option ρ} (hf : am_fe d pc = some (29, q, v, t :: ys)) (h1 : 1 ≤ t) (h2 : t < 32) (hn : ¬ (n < 0 ∨ 16384 ≤ n.toNatClampNeg)) (kk : ∀ p I' nx' sl', am_t p = t → ¬ p = 0 → sm dp d q ls (.inr p :: st) (I', P, nx', sl') g (K p I' nx' sl')) : sm dp d pc ls (.inl n :: st) (I, P, nx, sl) g (sm_na t n I nx sl K) :=
  sm_step hf (by simp) (by simp) (by simp only [am_st, am_o29]; rw [if_neg hn]; rfl) (kk _ _ _ _ (am_t_pk h2) (am_pk_ne h1))
theorem r_newq {t : Nat} {n : Int32} {K : Nat → am_Q → Nat → Nat → Option ρ} (hf : am_fe d pc = some (30, q, v, t :: ys)) (h1 : 1 ≤ t) (h2 : t < 32) (hn : ¬ (n < 0 ∨ 16384 ≤ n.toNatClampNeg)) (kk : ∀ p P' nx' sl', am_t p = t → ¬ p = 0 → sm dp d q ls (.inr p :: st) (I, P', nx', sl') g (K p P' nx' sl')) : sm dp d pc ls (.inl n :: st) (I, P, nx, sl) g (sm_nq t n P nx sl K) :=
  sm_step hf (by simp) (by simp) (by simp only [am_st, am_o30]; rw [if_neg hn]; rfl) (kk _ _ _ _ (am_t_pk h2) (am_pk_ne h1))
theorem r_cast {a : Nat} (hf : am_fe d pc = some (31, q, v, ys)) (ht : am_t a = 20 ∧ 2 ≤ am_i a) (kk : sm dp d q ls (.inr a :: st) S g X) : sm dp d pc ls (.inr a :: st) S g X :=
  sm_step hf (by simp) (by simp) (by simp only [am_st, am_o31]; exact if_pos ht) kk
/-- System.arraycopy may be done -/
def sm_cp (a0 : Nat) (sp : Int32) (a : Nat) (dp n : Int32) : Prop := am_t a = 20 ∧ am_t a0 = 20 ∧ 2 ≤ am_i a ∧ 2 ≤ am_i a0 ∧ ¬ sp < 0 ∧ ¬ dp < 0 ∧ ¬ n < 0 ∧ sp.toNatClampNeg + n.toNatClampNeg ≤ am_n a0 ∧ dp.toNatClampNeg + n.toNatClampNeg ≤ am_n a
theorem r_copy {a a0 : Nat} {sp dq n : Int32} {F : am_M → Option ρ} (hf : am_fe d pc = some (33, q, v, ys)) (hc : sm_cp a0 sp a dq n) (h8 : st.length ≤ 8) (kk : ∀ I', sm dp d q ls st (I', P, nx, sl) g (F I')) : sm dp d pc ls (.inl n :: .inl dq :: .inr a :: .inl sp :: .inr a0 :: st) (I, P, nx, sl) g (sm_bd (am_set I a (va_cpy (I a0) (I a) sp.toNatClampNeg dq.toNatClampNeg n.toNatClampNeg)) F) := by
  obtain ⟨c1, c2, c3, c4, c5, c6, c7, c8, c9⟩ := hc
  exact sm_step hf (by simp) (by simp) (by simp only [am_st, am_o33]; exact if_pos ⟨c1, c2, c3, c4, c5, c6, c7, c8, c9, h8⟩) (kk _)
theorem r_clone {a : Nat} {K : Nat → am_M → Nat → Nat → Option ρ} (hf : am_fe d pc = some (34, q, v, ys)) (ht : am_t a = 20 ∧ 2 ≤ am_i a) (h8 : st.length ≤ 8) (kk : ∀ p I' nx' sl', am_t p = 20 → ¬ p = 0 → sm dp d q ls (.inr p :: st) (I', P, nx', sl') g (K p I' nx' sl')) : sm dp d pc ls (.inr a :: st) (I, P, nx, sl) g (sm_cl a I nx sl K) :=
  sm_step hf (by simp) (by simp) (by simp only [am_st, am_o34]; exact if_pos ⟨ht.1, ht.2, h8⟩) (kk _ _ _ _ (am_t_pk (by omega)) (am_pk_ne (by omega)))
theorem r_oinit {a : Nat} (hf : am_fe d pc = some (35, q, v, ys)) (h0 : ¬ a = 0) (h8 : st.length ≤ 8) (kk : sm dp d q ls st S g X) : sm dp d pc ls (.inr a :: st) S g X :=
  sm_step hf (by simp) (by simp) (by simp only [am_st, am_o35]; exact if_pos ⟨h0, h8⟩) kk
/-- a call: the callee's function, then the rest -/
theorem r_call {σ : Type} {jc na kd t : Nat} {ix wi : Nat} {as rest : List am_V} {f : Option σ} {F : σ → Option ρ} {gc : σ → Option am_V × am_S} (hf : am_fe d pc = some (32, q, v, [jc, na, kd, ix, wi, t])) (hcut : am_cut na st = some (as, rest)) (hrc : am_rc kd t as) (hc : ∀ y, f = some y → sm_T dp jc as S (gc y)) (kk : ∀ y, sm dp d q ls ((gc y).1.toList ++ rest) (gc y).2 g (F y)) : sm dp d pc ls st S g (f.bind F) := by
  intro y hy
  cases hfv : f with
  | none => rw [hfv] at hy; cases hy
  | some z =>
    rw [hfv] at hy
    have hy : F z = some y := hy
    obtain ⟨N1, h1⟩ := hc z hfv
    obtain ⟨N2, h2⟩ := kk z y hy
    refine ⟨N1 + N2 + 1, fun n hn k hk => ?_⟩
    obtain ⟨k', rfl⟩ : ∃ k', k = k' + 1 := ⟨k - 1, by omega⟩
    unfold am_run
    simp only [hf]
    rw [if_neg (by simp), if_pos trivial]
    simp only [List.getD_cons_succ, List.getD_cons_zero, List.headD_cons, hcut]
    refine (if_pos hrc).trans ?_
    rw [h1 n (by omega)]
    exact h2 n (by omega) k' (by omega)
theorem r_call0 {jc na kd t : Nat} {ix wi : Nat} {as rest : List am_V} {f : Option (Int32)} {F : Int32 → Option ρ} (hf : am_fe d pc = some (32, q, v, [jc, na, kd, ix, wi, t])) (hcut : am_cut na st = some (as, rest)) (hrc : am_rc kd t as) (hc : ∀ y, f = some y → sm_T dp jc as S (sm_g0 S y)) (kk : ∀ y, sm dp d q ls (.inl y :: rest) S g (F y)) : sm dp d pc ls st S g (f.bind F) := r_call hf hcut hrc hc kk
theorem r_callA {jc na kd t : Nat} {ix wi : Nat} {as rest : List am_V} {f : Option (Nat)} {F : Nat → Option ρ} (hf : am_fe d pc = some (32, q, v, [jc, na, kd, ix, wi, t])) (hcut : am_cut na st = some (as, rest)) (hrc : am_rc kd t as) (hc : ∀ y, f = some y → sm_T dp jc as S (sm_gA S y)) (kk : ∀ y, sm dp d q ls (.inr y :: rest) S g (F y)) : sm dp d pc ls st S g (f.bind F) := r_call hf hcut hrc hc kk
theorem r_callU {jc na kd t : Nat} {ix wi : Nat} {as rest : List am_V} {f : Option (Unit)} {F : Unit → Option ρ} (hf : am_fe d pc = some (32, q, v, [jc, na, kd, ix, wi, t])) (hcut : am_cut na st = some (as, rest)) (hrc : am_rc kd t as) (hc : ∀ y, f = some y → sm_T dp jc as S (sm_gU S y)) (kk : ∀ y, sm dp d q ls (rest) S g (F y)) : sm dp d pc ls st S g (f.bind F) := r_call hf hcut hrc hc kk
theorem r_call1 {jc na kd t : Nat} {ix wi : Nat} {as rest : List am_V} {f : Option (Int32 × am_M)} {F : Int32 × am_M → Option ρ} (hf : am_fe d pc = some (32, q, v, [jc, na, kd, ix, wi, t])) (hcut : am_cut na st = some (as, rest)) (hrc : am_rc kd t as) (hc : ∀ y, f = some y → sm_T dp jc as (I, P, nx, sl) (sm_g1 P nx sl y)) (kk : ∀ y, sm dp d q ls (.inl y.1 :: rest) (y.2, P, nx, sl) g (F y)) : sm dp d pc ls st (I, P, nx, sl) g (f.bind F) := r_call hf hcut hrc hc kk
theorem r_call2 {jc na kd t : Nat} {ix wi : Nat} {as rest : List am_V} {f : Option (am_M)} {F : am_M → Option ρ} (hf : am_fe d pc = some (32, q, v, [jc, na, kd, ix, wi, t])) (hcut : am_cut na st = some (as, rest)) (hrc : am_rc kd t as) (hc : ∀ y, f = some y → sm_T dp jc as (I, P, nx, sl) (sm_g2 P nx sl y)) (kk : ∀ y, sm dp d q ls (rest) (y, P, nx, sl) g (F y)) : sm dp d pc ls st (I, P, nx, sl) g (f.bind F) := r_call hf hcut hrc hc kk
theorem r_call3 {jc na kd t : Nat} {ix wi : Nat} {as rest : List am_V} {f : Option (Int32 × am_S)} {F : Int32 × am_S → Option ρ} (hf : am_fe d pc = some (32, q, v, [jc, na, kd, ix, wi, t])) (hcut : am_cut na st = some (as, rest)) (hrc : am_rc kd t as) (hc : ∀ y, f = some y → sm_T dp jc as (I, P, nx, sl) (sm_g3 y)) (kk : ∀ y, sm dp d q ls (.inl y.1 :: rest) (y.2.1, y.2.2.1, y.2.2.2.1, y.2.2.2.2) g (F y)) : sm dp d pc ls st (I, P, nx, sl) g (f.bind F) := r_call hf hcut hrc hc kk
theorem r_call4 {jc na kd t : Nat} {ix wi : Nat} {as rest : List am_V} {f : Option (am_S)} {F : am_S → Option ρ} (hf : am_fe d pc = some (32, q, v, [jc, na, kd, ix, wi, t])) (hcut : am_cut na st = some (as, rest)) (hrc : am_rc kd t as) (hc : ∀ y, f = some y → sm_T dp jc as (I, P, nx, sl) (sm_g4 y)) (kk : ∀ y, sm dp d q ls (rest) (y.1, y.2.1, y.2.2.1, y.2.2.2) g (F y)) : sm dp d pc ls st (I, P, nx, sl) g (f.bind F) := r_call hf hcut hrc hc kk
theorem r_call5 {jc na kd t : Nat} {ix wi : Nat} {as rest : List am_V} {f : Option (Nat × am_S)} {F : Nat × am_S → Option ρ} (hf : am_fe d pc = some (32, q, v, [jc, na, kd, ix, wi, t])) (hcut : am_cut na st = some (as, rest)) (hrc : am_rc kd t as) (hc : ∀ y, f = some y → sm_T dp jc as (I, P, nx, sl) (sm_g5 y)) (kk : ∀ y, sm dp d q ls (.inr y.1 :: rest) (y.2.1, y.2.2.1, y.2.2.2.1, y.2.2.2.2) g (F y)) : sm dp d pc ls st (I, P, nx, sl) g (f.bind F) := r_call hf hcut hrc hc kk
theorem r_ireturn {x : Int32} {y : ρ} (hf : am_fe d pc = some (36, q, v, ys)) (hr : am_rt d = some .int ∨ (am_rt d = some .boolean ∧ sm_01 x)) (hg : g y = (some (.inl x), S)) : sm dp d pc ls [.inl x] S g (some y) := by
  intro z hz
  cases hz
  refine ⟨1, fun n hn k hk => ?_⟩
  obtain ⟨k', rfl⟩ : ∃ k', k = k' + 1 := ⟨k - 1, by omega⟩
  unfold am_run
  simp only [hf]
  rw [if_pos (by simp), hg]
  simp only [am_re]
  exact if_pos hr
theorem r_areturn {x : Nat} {y : ρ} (hf : am_fe d pc = some (37, q, v, ys)) (h0 : ¬ x = 0) (hg : g y = (some (.inr x), S)) : sm dp d pc ls [.inr x] S g (some y) := by
  intro z hz
  cases hz
  refine ⟨1, fun n hn k hk => ?_⟩
  obtain ⟨k', rfl⟩ : ∃ k', k = k' + 1 := ⟨k - 1, by omega⟩
  unfold am_run
  simp only [hf]
  rw [if_pos (by simp), hg]
  simp only [am_re]
  rw [if_pos h0]
theorem r_return {y : ρ} (hf : am_fe d pc = some (38, q, v, ys)) (hg : g y = (none, S)) : sm dp d pc ls [] S g (some y) := by
  intro z hz
  cases hz
  refine ⟨1, fun n hn k hk => ?_⟩
  obtain ⟨k', rfl⟩ : ∃ k', k = k' + 1 := ⟨k - 1, by omega⟩
  unfold am_run
  simp only [hf]
  rw [if_pos (by simp), hg]
  simp only [am_re]
/-- a method out of its body -/
theorem r_meth {j : Nat} {as : List am_V} {ls0 : List (Option am_V)} {y : ρ} (hm : am_m j = some d) (hk : am_kd d ≠ 3) (hk2 : as.length = (if am_kd d = 2 then am_np d else am_np d + 1)) (hls : am_ent d as = ls0) (h : sm dp d 0 ls0 [] S g X) (hX : X = some y) : sm_T (dp + 1) j as S (g y) := by
  obtain ⟨N, hN⟩ := h y hX
  refine ⟨N, fun n hn => ?_⟩
  unfold am_call
  rw [hm]
  show (if am_kd d ≠ 3 ∧ as.length = (if am_kd d = 2 then am_np d else am_np d + 1) then _ else none) = _
  rw [if_pos ⟨hk, hk2⟩, hls]
  exact hN n hn n hn
theorem am_run_ext {c1 c2 : Nat → List am_V → am_S → Option (Option am_V × am_S)} (hc : ∀ j as S y, c1 j as S = some y → c2 j as S = some y) : ∀ (k pc : Nat) (ls : List (Option am_V)) (st : List am_V) (S : am_S) (y : Option am_V × am_S), am_run c1 d k pc ls st S = some y → am_run c2 d k pc ls st S = some y
  | 0, _, _, _, _, _, h => by simp [am_run] at h
  | k + 1, pc, ls, st, S, y, h => by
    unfold am_run at h ⊢
    split at h
    · cases h
    · rename_i r hf
      split at h
      · rename_i h36
        simp only [if_pos h36]
        exact h
      · rename_i h36
        simp only [if_neg h36]
        split at h
        · rename_i h32
          simp only [if_pos h32]
          split at h
          · cases h
          · rename_i as rest hcut
            split at h
            · rename_i hrc
              split at h
              · cases h
              · rename_i v S1 hcall
                have h2 := hc _ _ _ _ hcall
                simp only [if_pos hrc, h2]
                exact am_run_ext hc k _ _ _ _ _ h
            · cases h
        · rename_i h32
          simp only [if_neg h32]
          split at h
          · cases h
          · exact am_run_ext hc k _ _ _ _ _ h
theorem am_call_up : ∀ (dp n j : Nat) (as : List am_V) (S : am_S) (y : Option am_V × am_S), am_call dp n j as S = some y → am_call (dp + 1) n j as S = some y
  | 0, _, _, _, _, _, h => by simp [am_call] at h
  | dp + 1, n, j, as, S, y, h => by
    unfold am_call at h ⊢
    split at h
    · cases h
    · rename_i dd hdd
      by_cases hl : am_kd dd ≠ 3 ∧ as.length = (if am_kd dd = 2 then am_np dd else am_np dd + 1)
      · rw [if_pos hl] at h ⊢
        exact am_run_ext (fun j as S y h => am_call_up dp n j as S y h) _ _ _ _ _ _ h
      · rw [if_neg hl] at h
        cases h
theorem sm_T_mono {a b j : Nat} {as : List am_V} {y : Option am_V × am_S} (hab : a ≤ b) (h : sm_T a j as S y) : sm_T b j as S y := by
  obtain ⟨k, rfl⟩ : ∃ k, b = a + k := ⟨b - a, by omega⟩
  clear hab
  induction k with
  | zero => exact h
  | succ k ih =>
    obtain ⟨N, hN⟩ := ih
    exact ⟨N, fun n hn => am_call_up _ _ _ _ _ _ (hN n hn)⟩
end SmRules
