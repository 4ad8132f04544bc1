/-! ===== A SMALL MACHINE: ints and references in a memory of its own; a pointer tells its cell's number, length and kind ===== -/
abbrev am_V : Type := Int32 ⊕ Nat
abbrev am_M : Type := Nat → Nat → Int32
abbrev am_Q : Type := Nat → Nat → Nat
/-- ints, references, cells made, slots made -/
abbrev am_S : Type := am_M × am_Q × Nat × Nat
/-- an instruction: what, the next place, a number, numbers -/
abbrev am_R : Type := Nat × Nat × Int × List Nat
/-- a method: name, bytes, locals, what it returns, kind (0 instance, 1 init, 2 static, 3 the law), parameters, its words' places, its instructions -/
abbrev am_D : Type := MethodName × ByteArray × Nat × Option FieldType × Nat × Nat × List Nat × List (List (Nat × am_R))
def am_nm (d : am_D) : MethodName := d.1
def am_by (d : am_D) : ByteArray := d.2.1
def am_ml (d : am_D) : Nat := d.2.2.1
def am_rt (d : am_D) : Option FieldType := d.2.2.2.1
def am_kd (d : am_D) : Nat := d.2.2.2.2.1
def am_np (d : am_D) : Nat := d.2.2.2.2.2.1
def am_wl (d : am_D) : List Nat := d.2.2.2.2.2.2.1
def am_cd (d : am_D) : List (List (Nat × am_R)) := d.2.2.2.2.2.2.2
def am_fe (d : am_D) (pc : Nat) : Option am_R := ((am_cd d)[pc / 16]?.getD []).lookup pc
/-- a pointer: the cell's number, its length (an array's), its kind -/
def am_pk (i n t : Nat) : Nat := (i * 16384 + n) * 32 + t
def am_t (a : Nat) : Nat := a % 32
def am_n (a : Nat) : Nat := a / 32 % 16384
def am_i (a : Nat) : Nat := a / 524288
theorem am_t_pk {i n t : Nat} (ht : t < 32) : am_t (am_pk i n t) = t := by unfold am_t am_pk; omega
theorem am_n_pk {i n t : Nat} (hn : n < 16384) (ht : t < 32) : am_n (am_pk i n t) = n := by unfold am_n am_pk; omega
theorem am_i_pk {i n t : Nat} (hn : n < 16384) (ht : t < 32) : am_i (am_pk i n t) = i := by unfold am_i am_pk; omega
def am_up {α : Type} (f : Nat → Nat → α) (a k : Nat) (v : α) : Nat → Nat → α := fun b j => if b = a ∧ j = k then v else f b j
def am_set {α : Type} (f : Nat → Nat → α) (a : Nat) (g : Nat → α) : Nat → Nat → α := fun b j => if b = a then g j else f b j
def am_sp (L : Nat) : Nat := am_pk 0 L 20
def am_ap : Nat := am_pk 1 6 20
def am_ab : List Int32 := [-1, 0, 1, 0, 0, 3]
/-- the fields of each kind -/
def am_nf (t : Nat) : Nat := match vwCl[t - 1]? with
  | some (_, _, N) => N
  | none => 0
def am_isP (t k : Nat) : Bool := match vwCl[t - 1]? with
  | some (_, T, _) => !((T k).2.2.1 == "I") && !((T k).2.2.1 == "Z")
  | none => false
def am_isZ (t k : Nat) : Bool := match vwCl[t - 1]? with
  | some (_, T, _) => (T k).2.2.1 == "Z"
  | none => false
abbrev am_T : Type := Option (Nat × List (Option am_V) × List am_V × am_S)
def am_bin (b : Nat) (x y : Int32) : Option Int32 := match b with
  | 0 => some (x + y)
  | 1 => some (x - y)
  | 2 => some (x * y)
  | 3 => if y = 0 then none else some (x / y)
  | 4 => if y = 0 then none else some (x - x / y * y)
  | 5 => some (x &&& y)
  | 6 => some (x ||| y)
  | 7 => some (x <<< (y &&& 31))
  | 8 => some (x >>> (y &&& 31))
  | 9 => some (x.toUInt32 >>> (y.toUInt32 &&& Int32.toUInt32 31)).toInt32
  | 10 => some (if y < x then y else x)
  | 11 => some (if x < y then y else x)
  | _ => none
def am_un (b : Nat) (x : Int32) : Option Int32 := match b with
  | 0 => some x.toInt8.toInt32
  | 1 => some x.toInt16.toInt32
  | _ => none
/-- if: x against 0, or x against y -/
def am_cmp (c : Nat) (x y : Int32) : Prop := match c with
  | 0 => x = y
  | 1 => ¬ x = y
  | 2 => x < y
  | 3 => y ≤ x
  | 4 => y < x
  | 5 => x ≤ y
  | _ => False
def am_lk (x : Int) (d : Nat) : List Nat → Nat
  | k :: t :: r => if x = (k : Int) then t else am_lk x d r
  | _ => d
def am_o0 (r : am_R) (ls : List (Option am_V)) (st : List am_V) (S : am_S) : am_T := some (r.2.1, ls, .inl (Int32.ofInt r.2.2.1) :: st, S)
def am_o1 (r : am_R) (ls : List (Option am_V)) (st : List am_V) (S : am_S) : am_T := match ls[r.2.2.2.headD 0]? with
  | some (some (.inl x)) => some (r.2.1, ls, .inl x :: st, S)
  | _ => none
def am_o2 (r : am_R) (ls : List (Option am_V)) (st : List am_V) (S : am_S) : am_T := match ls[r.2.2.2.headD 0]? with
  | some (some (.inr x)) => if x = 0 then none else some (r.2.1, ls, .inr x :: st, S)
  | _ => none
def am_o3 (r : am_R) (ls : List (Option am_V)) (st : List am_V) (S : am_S) : am_T := match st with
  | .inl x :: st => if r.2.2.2.headD 0 < ls.length then some (r.2.1, ls.set (r.2.2.2.headD 0) (some (.inl x)), st, S) else none
  | _ => none
def am_o4 (r : am_R) (ls : List (Option am_V)) (st : List am_V) (S : am_S) : am_T := match st with
  | .inr x :: st => if r.2.2.2.headD 0 < ls.length ∧ ¬ x = 0 then some (r.2.1, ls.set (r.2.2.2.headD 0) (some (.inr x)), st, S) else none
  | _ => none
def am_o5 (r : am_R) (ls : List (Option am_V)) (st : List am_V) (S : am_S) : am_T := match ls[r.2.2.2.headD 0]? with
  | some (some (.inl x)) => some (r.2.1, ls.set (r.2.2.2.headD 0) (some (.inl (x + Int32.ofInt r.2.2.1))), st, S)
  | _ => none
def am_o6 (r : am_R) (ls : List (Option am_V)) (st : List am_V) (S : am_S) : am_T := match st with
  | .inl y :: .inl x :: st => match am_bin (r.2.2.2.headD 0) x y with
    | some z => if r.2.2.2.headD 0 < 10 ∨ st.length ≤ 40 then some (r.2.1, ls, .inl z :: st, S) else none
    | none => none
  | _ => none
def am_o7 (r : am_R) (ls : List (Option am_V)) (st : List am_V) (S : am_S) : am_T := match st with
  | .inl x :: st => match am_un (r.2.2.2.headD 0) x with
    | some z => some (r.2.1, ls, .inl z :: st, S)
    | none => none
  | _ => none
def am_o8 (r : am_R) (ls : List (Option am_V)) (st : List am_V) (S : am_S) : am_T := match st with
  | x :: st => some (r.2.1, ls, x :: x :: st, S)
  | _ => none
def am_o9 (r : am_R) (ls : List (Option am_V)) (st : List am_V) (S : am_S) : am_T := match st with
  | x :: y :: st => some (r.2.1, ls, x :: y :: x :: y :: st, S)
  | _ => none
def am_o10 (r : am_R) (ls : List (Option am_V)) (st : List am_V) (S : am_S) : am_T := match st with
  | _ :: st => some (r.2.1, ls, st, S)
  | _ => none
noncomputable def am_o11 (r : am_R) (ls : List (Option am_V)) (st : List am_V) (S : am_S) : am_T := match st with
  | .inl x :: st => some (@ite _ (am_cmp (r.2.2.2.headD 0) x 0) (Classical.propDecidable _) (r.2.2.2.getD 1 0) r.2.1, ls, st, S)
  | _ => none
noncomputable def am_o12 (r : am_R) (ls : List (Option am_V)) (st : List am_V) (S : am_S) : am_T := match st with
  | .inl y :: .inl x :: st => some (@ite _ (am_cmp (r.2.2.2.headD 0) x y) (Classical.propDecidable _) (r.2.2.2.getD 1 0) r.2.1, ls, st, S)
  | _ => none
def am_o13 (r : am_R) (ls : List (Option am_V)) (st : List am_V) (S : am_S) : am_T := some (r.2.2.2.headD 0, ls, st, S)
def am_o14 (r : am_R) (ls : List (Option am_V)) (st : List am_V) (S : am_S) : am_T := match st with
  | .inl x :: st => some (if x.toInt < r.2.2.1 ∨ r.2.2.1 + (r.2.2.2.tail.length : Int) ≤ x.toInt then r.2.2.2.headD 0 else r.2.2.2.tail.getD (x.toInt - r.2.2.1).toNat 0, ls, st, S)
  | _ => none
def am_o15 (r : am_R) (ls : List (Option am_V)) (st : List am_V) (S : am_S) : am_T := match st with
  | .inl x :: st => some (am_lk x.toInt (r.2.2.2.headD 0) r.2.2.2.tail, ls, st, S)
  | _ => none
def am_o16 (r : am_R) (ls : List (Option am_V)) (st : List am_V) (S : am_S) : am_T := match st with
  | .inr a :: st => if am_t a = r.2.2.2.headD 0 then some (r.2.1, ls, .inl (S.1 a (r.2.2.2.getD 1 0)) :: st, S) else none
  | _ => none
def am_o17 (r : am_R) (ls : List (Option am_V)) (st : List am_V) (S : am_S) : am_T := match st with
  | .inr a :: st => if am_t a = r.2.2.2.headD 0 then some (r.2.1, ls, .inr (S.2.1 a (r.2.2.2.getD 1 0)) :: st, S) else none
  | _ => none
def am_o18 (r : am_R) (ls : List (Option am_V)) (st : List am_V) (S : am_S) : am_T := match st with
  | .inl v :: .inr a :: st => if am_t a = r.2.2.2.headD 0 ∧ (am_isZ (r.2.2.2.headD 0) (r.2.2.2.getD 1 0) = true → v = 0 ∨ v = 1) then some (r.2.1, ls, st, (am_up S.1 a (r.2.2.2.getD 1 0) v, S.2)) else none
  | _ => none
def am_o19 (r : am_R) (ls : List (Option am_V)) (st : List am_V) (S : am_S) : am_T := match st with
  | .inr v :: .inr a :: st => if am_t a = r.2.2.2.headD 0 then some (r.2.1, ls, st, (S.1, am_up S.2.1 a (r.2.2.2.getD 1 0) v, S.2.2)) else none
  | _ => none
def am_o20 (r : am_R) (ls : List (Option am_V)) (st : List am_V) (S : am_S) : am_T := some (r.2.1, ls, .inr am_ap :: st, S)
def am_o21 (r : am_R) (ls : List (Option am_V)) (st : List am_V) (S : am_S) : am_T := match st with
  | .inl i :: .inr a :: st => if am_t a = 20 ∧ ¬ (i < 0 ∨ am_n a ≤ i.toNatClampNeg) then some (r.2.1, ls, .inl (S.1 a i.toNatClampNeg) :: st, S) else none
  | _ => none
def am_o22 (r : am_R) (ls : List (Option am_V)) (st : List am_V) (S : am_S) : am_T := match st with
  | .inl v :: .inl i :: .inr a :: st => if am_t a = 20 ∧ 2 ≤ am_i a ∧ ¬ (i < 0 ∨ am_n a ≤ i.toNatClampNeg) then some (r.2.1, ls, st, (am_up S.1 a i.toNatClampNeg v, S.2)) else none
  | _ => none
def am_o23 (r : am_R) (ls : List (Option am_V)) (st : List am_V) (S : am_S) : am_T := match st with
  | .inl i :: .inr a :: st => if am_t a = 21 ∧ ¬ (i < 0 ∨ am_n a ≤ i.toNatClampNeg) then some (r.2.1, ls, .inl (S.1 a i.toNatClampNeg) :: st, S) else none
  | _ => none
def am_o24 (r : am_R) (ls : List (Option am_V)) (st : List am_V) (S : am_S) : am_T := match st with
  | .inl v :: .inl i :: .inr a :: st => if am_t a = 21 ∧ (v = 0 ∨ v = 1) ∧ ¬ (i < 0 ∨ am_n a ≤ i.toNatClampNeg) then some (r.2.1, ls, st, (am_up S.1 a i.toNatClampNeg v, S.2)) else none
  | _ => none
def am_o25 (r : am_R) (ls : List (Option am_V)) (st : List am_V) (S : am_S) : am_T := match st with
  | .inl i :: .inr a :: st => if 22 ≤ am_t a ∧ am_t a < 26 ∧ ¬ (i < 0 ∨ am_n a ≤ i.toNatClampNeg) then some (r.2.1, ls, .inr (S.2.1 a i.toNatClampNeg) :: st, S) else none
  | _ => none
/-- the kind of what an array of references holds -/
def am_el (t : Nat) : Nat := match t with
  | 22 => 1
  | 23 => 8
  | 24 => 11
  | 25 => 9
  | _ => 0
def am_o26 (r : am_R) (ls : List (Option am_V)) (st : List am_V) (S : am_S) : am_T := match st with
  | .inr v :: .inl i :: .inr a :: st => if 22 ≤ am_t a ∧ am_t a < 26 ∧ am_t v = am_el (am_t a) ∧ ¬ (i < 0 ∨ am_n a ≤ i.toNatClampNeg) then some (r.2.1, ls, st, (S.1, am_up S.2.1 a i.toNatClampNeg v, S.2.2)) else none
  | _ => none
def am_o27 (r : am_R) (ls : List (Option am_V)) (st : List am_V) (S : am_S) : am_T := match st with
  | .inr a :: st => if 20 ≤ am_t a ∧ am_t a < 26 then some (r.2.1, ls, .inl (Int32.ofNat (am_n a)) :: st, S) else none
  | _ => none
def am_o28 (r : am_R) (ls : List (Option am_V)) (st : List am_V) (S : am_S) : am_T :=
  some (r.2.1, ls, .inr (am_pk S.2.2.1 0 (r.2.2.2.headD 0)) :: st, (am_set S.1 (am_pk S.2.2.1 0 (r.2.2.2.headD 0)) (fun _ => 0), am_set S.2.1 (am_pk S.2.2.1 0 (r.2.2.2.headD 0)) (fun _ => 0), S.2.2.1 + 1, S.2.2.2 + am_nf (r.2.2.2.headD 0)))
def am_o29 (r : am_R) (ls : List (Option am_V)) (st : List am_V) (S : am_S) : am_T := match st with
  | .inl n :: st => if n < 0 ∨ 16384 ≤ n.toNatClampNeg then none else
    some (r.2.1, ls, .inr (am_pk S.2.2.1 n.toNatClampNeg (r.2.2.2.headD 0)) :: st, (am_set S.1 (am_pk S.2.2.1 n.toNatClampNeg (r.2.2.2.headD 0)) (fun _ => 0), S.2.1, S.2.2.1 + 1, S.2.2.2 + n.toNatClampNeg))
  | _ => none
def am_o30 (r : am_R) (ls : List (Option am_V)) (st : List am_V) (S : am_S) : am_T := match st with
  | .inl n :: st => if n < 0 ∨ 16384 ≤ n.toNatClampNeg then none else
    some (r.2.1, ls, .inr (am_pk S.2.2.1 n.toNatClampNeg (r.2.2.2.headD 0)) :: st, (S.1, am_set S.2.1 (am_pk S.2.2.1 n.toNatClampNeg (r.2.2.2.headD 0)) (fun _ => 0), S.2.2.1 + 1, S.2.2.2 + n.toNatClampNeg))
  | _ => none
def am_o31 (r : am_R) (ls : List (Option am_V)) (st : List am_V) (S : am_S) : am_T := match st with
  | .inr a :: st => if am_t a = 20 ∧ 2 ≤ am_i a then some (r.2.1, ls, .inr a :: st, S) else none
  | _ => none
def am_o33 (r : am_R) (ls : List (Option am_V)) (st : List am_V) (S : am_S) : am_T := match st with
  | .inl n :: .inl dp :: .inr a :: .inl sp :: .inr a0 :: st => if am_t a = 20 ∧ am_t a0 = 20 ∧ 2 ≤ am_i a ∧ 2 ≤ am_i a0 ∧ ¬ sp < 0 ∧ ¬ dp < 0 ∧ ¬ n < 0 ∧ sp.toNatClampNeg + n.toNatClampNeg ≤ am_n a0 ∧ dp.toNatClampNeg + n.toNatClampNeg ≤ am_n a ∧ st.length ≤ 8
    then some (r.2.1, ls, st, (am_set S.1 a (va_cpy (S.1 a0) (S.1 a) sp.toNatClampNeg dp.toNatClampNeg n.toNatClampNeg), S.2)) else none
  | _ => none
def am_o34 (r : am_R) (ls : List (Option am_V)) (st : List am_V) (S : am_S) : am_T := match st with
  | .inr a :: st => if am_t a = 20 ∧ 2 ≤ am_i a ∧ st.length ≤ 8
    then some (r.2.1, ls, .inr (am_pk S.2.2.1 (am_n a) 20) :: st, (am_set S.1 (am_pk S.2.2.1 (am_n a) 20) (S.1 a), S.2.1, S.2.2.1 + 1, S.2.2.2 + am_n a)) else none
  | _ => none
def am_o35 (r : am_R) (ls : List (Option am_V)) (st : List am_V) (S : am_S) : am_T := match st with
  | .inr a :: st => if ¬ a = 0 ∧ st.length ≤ 8 then some (r.2.1, ls, st, S) else none
  | _ => none
noncomputable def am_st (r : am_R) (ls : List (Option am_V)) (st : List am_V) (S : am_S) : am_T := match r.1 with
  | 0 => am_o0 r ls st S
  | 1 => am_o1 r ls st S
  | 2 => am_o2 r ls st S
  | 3 => am_o3 r ls st S
  | 4 => am_o4 r ls st S
  | 5 => am_o5 r ls st S
  | 6 => am_o6 r ls st S
  | 7 => am_o7 r ls st S
  | 8 => am_o8 r ls st S
  | 9 => am_o9 r ls st S
  | 10 => am_o10 r ls st S
  | 11 => am_o11 r ls st S
  | 12 => am_o12 r ls st S
  | 13 => am_o13 r ls st S
  | 14 => am_o14 r ls st S
  | 15 => am_o15 r ls st S
  | 16 => am_o16 r ls st S
  | 17 => am_o17 r ls st S
  | 18 => am_o18 r ls st S
  | 19 => am_o19 r ls st S
  | 20 => am_o20 r ls st S
  | 21 => am_o21 r ls st S
  | 22 => am_o22 r ls st S
  | 23 => am_o23 r ls st S
  | 24 => am_o24 r ls st S
  | 25 => am_o25 r ls st S
  | 26 => am_o26 r ls st S
  | 27 => am_o27 r ls st S
  | 28 => am_o28 r ls st S
  | 29 => am_o29 r ls st S
  | 30 => am_o30 r ls st S
  | 31 => am_o31 r ls st S
  | 33 => am_o33 r ls st S
  | 34 => am_o34 r ls st S
  | 35 => am_o35 r ls st S
  | _ => none
/-- a method's end -/
def am_re (d : am_D) (op : Nat) (st : List am_V) (S : am_S) : Option (Option am_V × am_S) := match op, st with
  | 36, [.inl x] => if am_rt d = some .int ∨ (am_rt d = some .boolean ∧ (x = 0 ∨ x = 1)) then some (some (.inl x), S) else none
  | 37, [.inr x] => if ¬ x = 0 then some (some (.inr x), S) else none
  | 38, [] => some (none, S)
  | _, _ => none
/-- what a call takes off the stack -/
def am_cut (n : Nat) (st : List am_V) : Option (List am_V × List am_V) := if n ≤ st.length ∧ st.length ≤ n + 8 then some ((st.take n).reverse, st.drop n) else none
/-- the receiver of an instance's method is of its class, an init's isn't null -/
def am_rc (kd t : Nat) (as : List am_V) : Prop := match kd % 4, as with
  | 0, .inr a :: _ => am_t a = t
  | 1, .inr a :: _ => ¬ a = 0
  | 2, _ => True
  | _, _ => False
noncomputable def am_run (call : Nat → List am_V → am_S → Option (Option am_V × am_S)) (d : am_D) : Nat → Nat → List (Option am_V) → List am_V → am_S → Option (Option am_V × am_S)
  | 0, _, _, _, _ => none
  | n + 1, pc, ls, st, S => match am_fe d pc with
    | none => none
    | some r =>
      if 36 ≤ r.1 then am_re d r.1 st S
      else if r.1 = 32 then
        match am_cut (r.2.2.2.getD 1 0) st with
        | none => none
        | some (as, rest) => @ite _ (am_rc (r.2.2.2.getD 2 0) (r.2.2.2.getD 5 0) as) (Classical.propDecidable _) (match call (r.2.2.2.headD 0) as S with
          | none => none
          | some (v, S') => am_run call d n r.2.1 ls (v.toList ++ rest) S') none
      else match am_st r ls st S with
        | none => none
        | some (pc', ls', st', S') => am_run call d n pc' ls' st' S'
def am_ent (d : am_D) (as : List am_V) : List (Option am_V) := as.map some ++ List.replicate (am_ml d - as.length) none
