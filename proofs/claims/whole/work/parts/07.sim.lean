/-! ===== THE SMALL MACHINE AND THE LARGE ONE ===== -/
def am_ad (aw : List (Nat × Nat)) (b t0 : Nat) (p : Nat) : Option Nat := if p = 0 then none else match am_i p with
  | 0 => some b
  | 1 => some t0
  | i + 2 => (aw[i]?).map (fun q => q.1)
def am_v (aw : List (Nat × Nat)) (b t0 : Nat) (v : am_V) : Value := match v with
  | .inl x => .int x
  | .inr p => va_rf (am_ad aw b t0 p)
/-- a value that may be used -/
def am_vd (aw : List (Nat × Nat)) (L : Nat) (v : am_V) : Prop := match v with
  | .inl _ => True
  | .inr p => p = 0 ∨ p = am_sp L ∨ p = am_ap ∨ ∃ (i q : Nat), aw[i]? = some (q, p)
def am_tys : List FieldType := [.int, .boolean, .object "StepWorld$Box", .object "StepWorld$Seam", .object "StepWorld$World", .object "StepWorld$Sheet"]
/-- what a cell holds -/
def am_c (tys : List (ClassId × FieldType)) (aw : List (Nat × Nat)) (b t0 : Nat) (S : am_S) (p : Nat) : va_E :=
  if 22 ≤ am_t p then .inl ((tys.getD (am_t p - 20) (0, .int)).1, am_n p, .inr (.inr (.inr (.inr (fun k => am_ad aw b t0 (S.2.1 p k))))))
  else if 20 ≤ am_t p then .inl ((tys.getD (am_t p - 20) (0, .int)).1, am_n p, .inl (S.1 p))
  else .inr (am_t p - 1, (List.range (am_nf (am_t p))).map (fun k => if am_isP (am_t p) k then va_rf (am_ad aw b t0 (S.2.1 p k)) else .int (S.1 p k)))
def am_w (tys : List (ClassId × FieldType)) (aw : List (Nat × Nat)) (b t0 : Nat) (S : am_S) : va_W := aw.map (fun q => (q.1, am_c tys aw b t0 S q.2))
/-- the memory is in order -/
def am_wf (aw : List (Nat × Nat)) (L : Nat) (xs : Nat → Int32) (S : am_S) : Prop :=
  (∀ i q p : Nat, aw[i]? = some (q, p) → am_i p = i + 2) ∧ S.2.2.1 = aw.length + 2 ∧ (∀ i q p : Nat, aw[i]? = some (q, p) → ¬ (am_t p = 20 ∨ am_t p = 21) → ∀ k, am_vd aw L (.inr (S.2.1 p k))) ∧ (∀ j, j < L → S.1 (am_sp L) j = xs j) ∧ (∀ j, j < 6 → S.1 am_ap j = am_ab.getD j 0)
def am_ao : List String := ["StepWorld$Box", "StepWorld$Seam", "StepWorld$World", "StepWorld$Sheet"]
def am_isN (w : Cond) : Bool := match w with
  | .methodLinkNest _ _ _ _ => true
  | .castable _ _ => true
  | _ => false
/-- what a state tells of the classes, of the script, of the one table, of the words that are not everybody's -/
def am_C (D : va_G) (tys : List (ClassId × FieldType)) (b t0 L : Nat) (xs : Nat → Int32) (A : Nat → Prop) (U : State) : Prop :=
  va_K D vwCl tys U ∧ va_X b L xs U U.heap ∧ va_Z "StepWorld" "ABOVE" "[I" (.ref t0) A U U.heap ∧ va_T .int t0 6 (fun j => .int (am_ab.getD j 0)) A U U.heap ∧ (∀ w ∈ lw_tbl, am_isN w = true → va_Nw w U) ∧ (∀ C ∈ am_ao, va_AO C U)
theorem am_C.go {D : va_G} {tys : List (ClassId × FieldType)} {b t0 L : Nat} {xs : Nat → Int32} {A : Nat → Prop} {s U : State} {locs : List Loc} (h : am_C D tys b t0 L xs A s) (hW : s.WarmedH U.vm) (hS : va_S A s.heap U.heap locs) (hbA : ¬ A b) (hbl : b < s.heap.size) : am_C D tys b t0 L xs A U := by
  obtain ⟨h1, h2, h3, h4, h5, h6⟩ := h
  refine ⟨va_K.moved hW.alike h1, va_X.moved hW.alike (va_X.kept h2 (hS.2.1 b hbl hbA)), va_Z.moved hW.alike (va_Z.kept h3 hS.2.1), va_T.moved hW.alike (va_T.kept h4 hS.2.1), ?_, fun C hC => va_AO.moved hW.alike (h6 C hC)⟩
  intro w hw hn
  have hz := h5 w hw hn
  cases w <;> first | exact va_Nw.warmM hW hz | exact va_Nw.warmC hW hz | (simp [am_isN] at hn)
/-- a method's frame: what doesn't move while it runs -/
def am_F (p : Program) (s : State) (m : MethodId) (args : Array Value) (meth : Method) (c : Code) (R : Room) (d : am_D) (D : va_G) (tys : List (ClassId × FieldType)) (b t0 L : Nat) (xs : Nat → Int32) (A : Nat → Prop) : Prop :=
  p.tables.exec = Jvm.exec ∧ c.code = am_by d ∧ c.maxLocals = am_ml d ∧ s.vm.findClass (am_nm d).cls = some m.cls ∧ (∀ w ∈ lw_tbl, goodWord w = true → w.before args s = true) ∧ meth.name = (am_nm d).name ∧ am_C D tys b t0 L xs A s ∧ tys.map (fun q => q.2) = am_tys ∧ (∀ q, s.heap.size ≤ q → A q) ∧ ¬ A b ∧ b < s.heap.size ∧ L < 16384 ∧ 1 ≤ R.frames ∧ 64 ≤ R.locals
def am_Lc (d : am_D) (b t0 L : Nat) (aw : List (Nat × Nat)) (ls : List (Option am_V)) (lsC : Array Slot) : Prop :=
  lsC.size = am_ml d ∧ lv_wf lsC ∧ ls.length = am_ml d ∧ ∀ (i : Nat) (v : am_V), ls[i]? = some (some v) → lsC[i]? = some (.val (am_v aw b t0 v)) ∧ am_vd aw L v
def am_E (s : State) (d : am_D) (D : va_G) (tys : List (ClassId × FieldType)) (b t0 L : Nat) (xs : Nat → Int32) (A : Nat → Prop) (aw : List (Nat × Nat)) (ls : List (Option am_V)) (st : List am_V) (S : am_S) (H : Heap) (locs : List Loc) (lsC : Array Slot) : Prop :=
  va_P D vwCl (am_w tys aw b t0 S) H ∧ va_D A (am_w tys aw b t0 S) ∧ va_S A s.heap H locs ∧ am_wf aw L xs S ∧ am_Lc d b t0 L aw ls lsC ∧ (∀ v ∈ st, am_vd aw L v)
def am_W (p : Program) (l : Launch) (e : Env) (R : Room) (s : State) (m : MethodId) (args : Array Value) (below : List Frame) (meth : Method) (c : Code) (Q : State → Prop) (d : am_D) (D : va_G) (tys : List (ClassId × FieldType)) (b t0 L : Nat) (xs : Nat → Int32) (A : Nat → Prop) (n0 s0 : Nat) (aw : List (Nat × Nat)) (pc : Nat) (ls : List (Option am_V)) (st : List am_V) (S : am_S) : Prop :=
  ∀ (H : Heap) (locs : List Loc) (lsC : Array Slot), am_E s d D tys b t0 L xs A aw ls st S H locs lsC → W p l e R s m args below meth c H locs (S.2.2.1 - n0) (S.2.2.2 - s0) Q (F0 m pc lsC (st.map (am_v aw b t0)))
/-! small facts -/
theorem am_spt (L : Nat) : am_t (am_sp L) = 20 := am_t_pk (by decide)
theorem am_apt : am_t am_ap = 20 := am_t_pk (by decide)
theorem am_spi {L : Nat} (h : L < 16384) : am_i (am_sp L) = 0 := am_i_pk h (by decide)
theorem am_api : am_i am_ap = 1 := am_i_pk (by decide) (by decide)
theorem am_in {aw : List (Nat × Nat)} {L a : Nat} (h : am_vd aw L (.inr a)) (h0 : am_t a ≠ 0) (h1 : am_t a ≠ 20) : ∃ i q : Nat, aw[i]? = some (q, a) := by
  rcases h with rfl | rfl | rfl | h
  · exact absurd rfl h0
  · exact absurd (am_spt L) h1
  · exact absurd am_apt h1
  · exact h
theorem am_in2 {aw : List (Nat × Nat)} {L a : Nat} (h : am_vd aw L (.inr a)) (hL : L < 16384) (h1 : 2 ≤ am_i a) : ∃ i q : Nat, aw[i]? = some (q, a) := by
  rcases h with rfl | rfl | rfl | h
  · exact absurd h1 (by decide)
  · rw [am_spi hL] at h1; omega
  · rw [am_api] at h1; omega
  · exact h
theorem am_adr {aw : List (Nat × Nat)} {b t0 i q a : Nat} (hi : am_i a = i + 2) (h : aw[i]? = some (q, a)) : am_ad aw b t0 a = some q := by
  have h0 : ¬ a = 0 := fun e => by rw [e] at hi; exact absurd hi (by show ¬ (0 / 524288 = i + 2); omega)
  unfold am_ad
  rw [if_neg h0, hi]
  show (aw[i]?).map _ = _
  rw [h]; rfl
theorem am_vr {aw : List (Nat × Nat)} {b t0 i q a : Nat} (hi : am_i a = i + 2) (h : aw[i]? = some (q, a)) : am_v aw b t0 (.inr a) = .ref q := by
  show va_rf (am_ad aw b t0 a) = _
  rw [am_adr hi h]; rfl
theorem am_ref {aw : List (Nat × Nat)} {b t0 L a : Nat} (hw : ∀ i q p, aw[i]? = some (q, p) → am_i p = i + 2) (hL : L < 16384) (h : am_vd aw L (.inr a)) (h0 : ¬ a = 0) : ∃ q, am_v aw b t0 (.inr a) = .ref q := by
  rcases h with rfl | rfl | rfl | ⟨i, q, h⟩
  · exact absurd rfl h0
  · refine ⟨b, ?_⟩
    show va_rf (am_ad aw b t0 (am_sp L)) = _
    unfold am_ad
    rw [if_neg h0, am_spi hL]; rfl
  · refine ⟨t0, ?_⟩
    show va_rf (am_ad aw b t0 am_ap) = _
    unfold am_ad
    rw [if_neg h0, am_api]; rfl
  · exact ⟨q, am_vr (hw i q a h) h⟩
theorem am_wat {tys : List (ClassId × FieldType)} {aw : List (Nat × Nat)} {b t0 i q a : Nat} {S : am_S} (h : aw[i]? = some (q, a)) : (am_w tys aw b t0 S)[i]? = some (q, am_c tys aw b t0 S a) := by
  unfold am_w
  rw [List.getElem?_map, h]; rfl
theorem am_cat (aw : List (Nat × Nat)) (b t0 : Nat) (v : am_V) : (am_v aw b t0 v).category = 1 := by
  cases v with
  | inl x => rfl
  | inr p =>
    show (va_rf _).category = 1
    cases am_ad aw b t0 p <;> rfl
theorem am_cats (aw : List (Nat × Nat)) (b t0 : Nat) (st : List am_V) : ((st.map (am_v aw b t0)).map fun v => v.category).sum = st.length := by
  induction st with
  | nil => rfl
  | cons v st ih =>
    simp only [List.map_cons, List.sum_cons, List.length_cons]
    rw [ih, am_cat]; omega
def am_lv (aw : List (Nat × Nat)) (b t0 : Nat) (ls : List (Option am_V)) : List (Nat × Value) := (List.range ls.length).filterMap (fun i => (ls[i]?.getD none).map (fun v => (i, am_v aw b t0 v)))
theorem am_lv_mem {aw : List (Nat × Nat)} {b t0 : Nat} {ls : List (Option am_V)} {q : Nat × Value} : q ∈ am_lv aw b t0 ls ↔ ∃ v, ls[q.1]? = some (some v) ∧ q.2 = am_v aw b t0 v := by
  unfold am_lv
  rw [List.mem_filterMap]
  constructor
  · rintro ⟨i, hi, h⟩
    cases hl : ls[i]? with
    | none => rw [hl] at h; simp at h
    | some w =>
      rw [hl] at h
      cases w with
      | none => simp at h
      | some v => simp at h; subst h; exact ⟨v, hl, rfl⟩
  · rintro ⟨v, h1, h2⟩
    refine ⟨q.1, List.mem_range.mpr ((List.getElem?_eq_some_iff.mp h1).1), ?_⟩
    rw [h1]
    simp [← h2]
theorem am_Lc.has {d : am_D} {b t0 L : Nat} {aw : List (Nat × Nat)} {ls : List (Option am_V)} {lsC : Array Slot} (h : am_Lc d b t0 L aw ls lsC) : lv_has lsC (am_ml d) (am_lv aw b t0 ls) := by
  refine ⟨h.1, h.2.1, fun q hq => ?_⟩
  obtain ⟨v, h1, h2⟩ := am_lv_mem.mp hq
  rw [h2]; exact (h.2.2.2 _ _ h1).1
theorem am_Lc.set {d : am_D} {b t0 L : Nat} {aw : List (Nat × Nat)} {ls : List (Option am_V)} {lsC lsC' : Array Slot} (h : am_Lc d b t0 L aw ls lsC) {i : Nat} {v : am_V} (hi : i < am_ml d) (hv : am_vd aw L v) (h' : lv_has lsC' (am_ml d) ((i, am_v aw b t0 v) :: (am_lv aw b t0 ls).filter (fun q => !(q.1 == i) && !(q.1 + 1 == i && q.2.category == 2)))) : am_Lc d b t0 L aw (ls.set i (some v)) lsC' := by
  refine ⟨h'.1, h'.2.1, by rw [List.length_set]; exact h.2.2.1, fun j w hj => ?_⟩
  rw [List.getElem?_set] at hj
  by_cases e : i = j
  · subst e
    rw [if_pos rfl, if_pos (by rw [h.2.2.1]; exact hi)] at hj
    obtain rfl := Option.some.inj (Option.some.inj hj)
    exact ⟨h'.2.2 _ List.mem_cons_self, hv⟩
  · rw [if_neg e] at hj
    refine ⟨h'.2.2 (j, am_v aw b t0 w) (List.mem_cons_of_mem _ (List.mem_filter.mpr ⟨am_lv_mem.mpr ⟨w, hj, rfl⟩, ?_⟩)), (h.2.2.2 _ _ hj).2⟩
    have h1 : (j == i) = false := by simp [Ne.symm e]
    have h2 : ((am_v aw b t0 w).category == 2) = false := by rw [am_cat]; rfl
    simp [h1, h2]
theorem am_wdm {wi : Nat} {w : Cond} (h : am_wd wi w = true) : w ∈ lw_tbl := List.mem_of_getElem? (of_decide_eq_true h)
