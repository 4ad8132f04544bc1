def R_law : String := "StepWorldLaw"
def lw_P (b : Addr) (xs : List Int32) (args : Array Value) (s : State) : Prop := args = #[.ref b] ∧ s.IntsAt b xs ∧ xs.length ≤ 3072 ∧ (Jvm.Cond.and given_1 narrow_1).before args s = true
def lw_Q (_ : Array Value) (s : State) (o : Outcome) (t : State) : Prop := o = .returned (some (.int 1)) ∧ Framed s o t [] 600000 7302250
def lw_Z (below : List Frame) (a : Array Value) (s : State) : State → Prop := fun t => ∃ o, t.status = .running ∧ Ended t below o ∧ lw_Q a s o t
/-- the law's own end, with 1 on the stack, nothing written that was there before, its room as the claim has it -/
theorem lw_ret {p : Program} {l : Launch} {e : Env} {s : State} {m : MethodId} {below : List Frame} {meth : Method} {c : Code} {b : Nat} (hx : p.tables.exec = Jvm.exec) (hb : c.code = code) (hr : meth.sig.returnType = ret) (hlocks : meth.locks = false) {pc : Nat} {H : Heap} {ls : Array Slot} (hdg : decode code pc = .ok (.ireturn, 1)) : W p l e room_1 s m #[Value.ref b] below meth c H [] 600000 7302250 (lw_Z below #[Value.ref b] s) (F0 m pc ls [.int 1]) := by
  intro T hT X
  obtain ⟨fs, hret, hrun, hended, hW, hframe⟩ := X.leave (v := some (.int 1)) (hlocks := hlocks) (fun h => by rw [hr] at h; cases h)
  have hmeth' : T.vm.method? m = some meth := X.method'
  refine ⟨T.setFrames fs, ?_, .returned (some (.int 1)), hrun, hended, rfl, ⟨_, rfl⟩, hW, hframe⟩
  jvm_step X.here [X.here.top, hx, hb, hdg, hmeth', hr, ret, narrow_b1]
  (try refine ⟨rfl, ?_⟩); (try refine ⟨rfl, ?_⟩)
  first | (intro acts; rw [hret _ acts rfl rfl rfl]) | rw [hret _ _ rfl rfl rfl]
  exact Steps.refl _
/-- what holds at the law's entry: the machine, the code, the tables' words (any of lw_tbl by 'hts w (by decide +kernel)'), the script of L ints xs at the cell b, what the Statement gives of the start (any of its parts by flat_of_before) -/
def lw_At (p : Program) (s : State) (m : MethodId) (meth : Method) (c : Code) (b L : Nat) (xs : Nat → Int32) : Prop :=
  p.tables.exec = Jvm.exec ∧ c.code = code ∧ meth.sig.returnType = ret ∧ c.maxLocals = 4 ∧ s.vm.findClass R_law = some m.cls ∧ (∀ w ∈ lw_tbl, w.before #[Value.ref b] s = true) ∧ va_X b L xs s s.heap ∧ b < s.heap.size ∧ meth.locks = false ∧ (Jvm.Cond.and given_1 narrow_1).before #[Value.ref b] s = true
theorem ws_int {args : Array Value} {s : State} (h : (Cond.arrayClass .int).before args s = true) : ∃ cA : ClassId, ArrOfT s cA .int ∧ va_RA s cA .int := by
  obtain ⟨cA, kA, comp, h1, h2, h3⟩ := Cond.arrayClass_spec h
  exact ⟨cA, fun n z => ⟨fun k h => (by cases h), kA, h2, comp, h3⟩, h1⟩
theorem ws_bool {args : Array Value} {s : State} (h : (Cond.arrayClass .boolean).before args s = true) : ∃ cA : ClassId, ArrOfT s cA .boolean ∧ va_RA s cA .boolean := by
  obtain ⟨cA, kA, comp, h1, h2, h3⟩ := Cond.arrayClass_spec h
  exact ⟨cA, fun n z => ⟨fun k h => (by cases h), kA, h2, comp, h3⟩, h1⟩
theorem ws_obj {args : Array Value} {s : State} {C : String} (h : (Cond.arrayOver (.object C)).before args s = true) : ∃ cA : ClassId, ArrOfT s cA (.object C) ∧ va_RA s cA (.object C) := by
  obtain ⟨comp, c, k, h1, h2, h3, h4, h5⟩ := Cond.arrayOver_spec h
  exact ⟨c, fun N z => ⟨(fun k h => by cases h), k, h3, comp, h4⟩, k, comp, h3, h4, h1, h5⟩
/-- the small machine's memory at the start -/
def ws_I (L : Nat) (xs : Nat → Int32) : am_M := fun p j => if p = am_sp L then xs j else if p = am_ap then am_ab.getD j 0 else 0
theorem ws_ne {L : Nat} (hL : L < 16384) : ¬ am_ap = am_sp L := fun e => by
  have h := am_spi hL
  rw [← e, am_api] at h
  exact absurd h (by decide)
theorem ws_ap {L : Nat} {xs : Nat → Int32} (hL : L < 16384) (j : Nat) : ws_I L xs am_ap j = am_ab.getD j 0 := by
  unfold ws_I
  rw [if_neg (ws_ne hL), if_pos rfl]
set_option maxRecDepth 100000 in
set_option maxHeartbeats 4000000 in
/-- from the entry, for every script of at most 3072 ints, the law comes to its end with true -/
theorem whole_start {p : Program} {e : Env} {s : State} {m : MethodId} {below : List Frame} {meth : Method} {c : Code} (l : Launch) {b L : Nat} {xs : Nat → Int32} (hL : L ≤ 3072) (hnm : meth.name = (am_nm am_d0).name) (hok : ∀ (j : Nat) (d : am_D), am_m j = some d → am_okm d = true) (hokd : am_okm am_d0 = true) (C0 : lw_At p s m meth c b L xs) : W p l e room_1 s m #[Value.ref b] below meth c s.heap [] 0 0 (lw_Z below #[Value.ref b] s) (entryFrame m ([Value.ref b] : List Value).toArray 4) := by
  obtain ⟨hx, hb, hr, hml, hown, hts, hX, hbl, hlocks, hgv⟩ := id C0
  have hA : ∀ q : Nat, s.heap.size ≤ q → (fun q : Nat => s.heap.size ≤ q) q := fun _ h => h
  have hA' : ∀ a : Nat, a < s.heap.size → ¬ (fun q : Nat => s.heap.size ≤ q) a := fun _ h => Nat.not_le.mpr h
  have hbA : ¬ (fun q : Nat => s.heap.size ≤ q) b := Nat.not_le.mpr hbl
  have hL' : L < 16384 := by omega
  obtain ⟨c0, i0, k0⟩ := u_known (C := RX0) (T := TX0) (N := 11) (n := 11) hts (fun w hw => (am_layg am_lay0 w hw).1) (hts (.instantiable RX0 11) (by decide +kernel))
  obtain ⟨c1, i1, k1⟩ := u_known (C := RX1) (T := TX1) (N := 3) (n := 3) hts (fun w hw => (am_layg am_lay1 w hw).1) (hts (.instantiable RX1 3) (by decide +kernel))
  obtain ⟨c2, i2, k2⟩ := u_known (C := RX2) (T := TX2) (N := 3) (n := 3) hts (fun w hw => (am_layg am_lay2 w hw).1) (hts (.instantiable RX2 3) (by decide +kernel))
  obtain ⟨c3, i3, k3⟩ := u_known (C := RX3) (T := TX3) (N := 3) (n := 3) hts (fun w hw => (am_layg am_lay3 w hw).1) (hts (.instantiable RX3 3) (by decide +kernel))
  obtain ⟨c4, i4, k4⟩ := u_known (C := RX4) (T := TX4) (N := 5) (n := 5) hts (fun w hw => (am_layg am_lay4 w hw).1) (hts (.instantiable RX4 5) (by decide +kernel))
  obtain ⟨c5, i5, k5⟩ := u_known (C := RX5) (T := TX5) (N := 1) (n := 1) hts (fun w hw => (am_layg am_lay5 w hw).1) (hts (.instantiable RX5 1) (by decide +kernel))
  obtain ⟨c6, i6, k6⟩ := u_known (C := RX6) (T := TX6) (N := 4) (n := 4) hts (fun w hw => (am_layg am_lay6 w hw).1) (hts (.instantiable RX6 4) (by decide +kernel))
  obtain ⟨c7, i7, k7⟩ := u_known (C := RX7) (T := TX7) (N := 10) (n := 10) hts (fun w hw => (am_layg am_lay7 w hw).1) (hts (.instantiable RX7 10) (by decide +kernel))
  obtain ⟨c8, i8, k8⟩ := u_known (C := RX8) (T := TX8) (N := 3) (n := 3) hts (fun w hw => (am_layg am_lay8 w hw).1) (hts (.instantiable RX8 3) (by decide +kernel))
  obtain ⟨c9, i9, k9⟩ := u_known (C := RX9) (T := TX9) (N := 13) (n := 13) hts (fun w hw => (am_layg am_lay9 w hw).1) (hts (.instantiable RX9 13) (by decide +kernel))
  obtain ⟨c10, i10, k10⟩ := u_known (C := RX10) (T := TX10) (N := 16) (n := 16) hts (fun w hw => (am_layg am_lay10 w hw).1) (hts (.instantiable RX10 16) (by decide +kernel))
  obtain ⟨c11, i11, k11⟩ := u_known (C := RX11) (T := TX11) (N := 15) (n := 15) hts (fun w hw => (am_layg am_lay11 w hw).1) (hts (.instantiable RX11 15) (by decide +kernel))
  obtain ⟨c12, i12, k12⟩ := u_known (C := RX12) (T := TX12) (N := 62) (n := 62) hts (fun w hw => (am_layg am_lay12 w hw).1) (hts (.instantiable RX12 62) (by decide +kernel))
  obtain ⟨dC, dI, hKc⟩ : ∃ (dC : Nat → ClassId) (dI : Nat → Nat → Nat), ∀ (k : Nat) (q : vw_C), vwCl[k]? = some q → u_Kn s q.1 q.2.1 q.2.2 (dC k) (dI k) := by
    refine ⟨fun k => ([c0, c1, c2, c3, c4, c5, c6, c7, c8, c9, c10, c11, c12] : List ClassId).getD k c0, fun k => ([i0, i1, i2, i3, i4, i5, i6, i7, i8, i9, i10, i11, i12] : List (Nat → Nat)).getD k i0, ?_⟩
    intro k q hq
    match k, hq with
    | 0, hq => cases hq; exact k0
    | 1, hq => cases hq; exact k1
    | 2, hq => cases hq; exact k2
    | 3, hq => cases hq; exact k3
    | 4, hq => cases hq; exact k4
    | 5, hq => cases hq; exact k5
    | 6, hq => cases hq; exact k6
    | 7, hq => cases hq; exact k7
    | 8, hq => cases hq; exact k8
    | 9, hq => cases hq; exact k9
    | 10, hq => cases hq; exact k10
    | 11, hq => cases hq; exact k11
    | 12, hq => cases hq; exact k12
    | k + 13, hq => simp [vwCl] at hq
  obtain ⟨t1, e1⟩ := ws_int (hts (.arrayClass .int) (by decide +kernel))
  obtain ⟨t2, e2⟩ := ws_bool (hts (.arrayClass .boolean) (by decide +kernel))
  obtain ⟨t3, e3⟩ := ws_obj (hts (.arrayOver (.object "StepWorld$Box")) (by decide +kernel))
  obtain ⟨t4, e4⟩ := ws_obj (hts (.arrayOver (.object "StepWorld$Seam")) (by decide +kernel))
  obtain ⟨t5, e5⟩ := ws_obj (hts (.arrayOver (.object "StepWorld$World")) (by decide +kernel))
  obtain ⟨t6, e6⟩ := ws_obj (hts (.arrayOver (.object "StepWorld$Sheet")) (by decide +kernel))
  obtain ⟨tys, hty, hKt⟩ : ∃ tys : List (ClassId × FieldType), tys.map (fun q => q.2) = am_tys ∧ ∀ (k : Nat) (q : ClassId × FieldType), tys[k]? = some q → ArrOfT s q.1 q.2 ∧ va_RA s q.1 q.2 := by
    refine ⟨[(t1, .int), (t2, .boolean), (t3, .object "StepWorld$Box"), (t4, .object "StepWorld$Seam"), (t5, .object "StepWorld$World"), (t6, .object "StepWorld$Sheet")], rfl, ?_⟩
    intro k q hq
    match k, hq with
    | 0, hq => cases hq; exact e1
    | 1, hq => cases hq; exact e2
    | 2, hq => cases hq; exact e3
    | 3, hq => cases hq; exact e4
    | 4, hq => cases hq; exact e5
    | 5, hq => cases hq; exact e6
    | k + 6, hq => simp at hq
  have hK : va_K (dC, dI) vwCl tys s := ⟨hKc, hKt⟩
  have hs := flat_of_before _ hgv
  obtain ⟨t0, ht0, hT⟩ := va_Tof (args := #[Value.ref b]) (s := s) (tm := .static "StepWorld" "ABOVE" "[I") (ty := .int) (N := 6) (f := fun j => .int (am_ab.getD j 0)) (A := fun q : Nat => s.heap.size ≤ q) (by decide) (hs _ (by decide +kernel)) (va_eqt (z := 6) (hs _ (by decide +kernel))) (fun j hj => by
    match j, hj with
    | 0, _ => exact va_eqt (t := .elem (.static "StepWorld" "ABOVE" "[I") (.int 0)) (z := -1) (hs _ (by decide +kernel))
    | 1, _ => exact va_eqt (t := .elem (.static "StepWorld" "ABOVE" "[I") (.int 1)) (z := 0) (hs _ (by decide +kernel))
    | 2, _ => exact va_eqt (t := .elem (.static "StepWorld" "ABOVE" "[I") (.int 2)) (z := 1) (hs _ (by decide +kernel))
    | 3, _ => exact va_eqt (t := .elem (.static "StepWorld" "ABOVE" "[I") (.int 3)) (z := 0) (hs _ (by decide +kernel))
    | 4, _ => exact va_eqt (t := .elem (.static "StepWorld" "ABOVE" "[I") (.int 4)) (z := 0) (hs _ (by decide +kernel))
    | 5, _ => exact va_eqt (t := .elem (.static "StepWorld" "ABOVE" "[I") (.int 5)) (z := 3) (hs _ (by decide +kernel))
    | j + 6, hj => exact absurd hj (by omega)) hA'
  have hZ := va_Zof (A := fun q : Nat => s.heap.size ≤ q) (hts (.laysStatic "StepWorld" "ABOVE" "[I") (by decide +kernel)) (hts (.initialized "StepWorld") (by decide +kernel)) ht0 hA'
  have hC : am_C (dC, dI) tys b t0 L xs (fun q : Nat => s.heap.size ≤ q) s := by
    refine ⟨hK, hX, hZ, hT, fun w hw hn => ?_, fun C hC => ?_⟩
    · have hz := hts w hw
      cases w <;> first | exact va_Nw.of rfl hz | (simp [am_isN] at hn)
    · simp only [am_ao, List.mem_cons, List.not_mem_nil, or_false] at hC
      rcases hC with rfl | rfl | rfl | rfl
      · exact va_AO.of (hts (.arrayOver (.object "StepWorld$Box")) (by decide +kernel))
      · exact va_AO.of (hts (.arrayOver (.object "StepWorld$Seam")) (by decide +kernel))
      · exact va_AO.of (hts (.arrayOver (.object "StepWorld$World")) (by decide +kernel))
      · exact va_AO.of (hts (.arrayOver (.object "StepWorld$Sheet")) (by decide +kernel))
  have hF : am_F p s m #[Value.ref b] meth c room_1 am_d0 (dC, dI) tys b t0 L xs (fun q : Nat => s.heap.size ≤ q) :=
    ⟨hx, hb, hml, hown, fun w hw _ => hts w hw, hnm, hC, hty, hA, hbA, hbl, hL', by decide, by decide⟩
  have hap : apok (ws_I L xs) := ⟨ws_ap hL' 0, ws_ap hL' 1, ws_ap hL' 2, ws_ap hL' 3, ws_ap hL' 4, ws_ap hL' 5⟩
  obtain ⟨M1, P1, nx1, sl1, q1, r1, r2⟩ := law_all (I := ws_I L xs) (P := fun _ _ => 0) (sl := 0) hL hap
  obtain ⟨N, hN⟩ := AfLaw_law (dp := 0) _ q1
  have hrun := hN N (Nat.le_refl _) N (Nat.le_refl _)
  have hw : am_wf [] L xs (ws_I L xs, (fun _ _ => 0), 2, 0) := by
    refine ⟨fun i q p h => by simp at h, rfl, fun i q p h => by simp at h, fun j _ => ?_, fun j _ => ws_ap hL' j⟩
    show (if am_sp L = am_sp L then xs j else _) = xs j
    rw [if_pos rfl]
  have hv : ([.inr (am_sp L)] : List am_V).map (am_v [] b t0) = [Value.ref b] := by
    show [va_rf (am_ad [] b t0 (am_sp L))] = _
    unfold am_ad
    rw [if_neg (fun z => absurd (am_spt L) (by rw [z]; decide)), am_spi hL']
    rfl
  rw [lg_entry_eq]
  have key := am_body (p := p) (l := l) (e := e) (R := room_1) (s := s) (m := m) (args := #[Value.ref b]) (below := below) (meth := meth) (c := c) (Q := lw_Z below #[Value.ref b] s) (d := am_d0) (n0 := 2) (s0 := 0) (aw := []) (dp := 25) (nn := N) (r := some (.inl 1)) (SF := (M1, P1, nx1, sl1)) hF hok hokd ⟨by decide, by decide⟩ (fun j as S w S1 hc aw dj hd h1 h2 => am_sim hok l (dC, dI) tys b t0 L xs (fun q : Nat => s.heap.size ≤ q) hty hbA hL' 25 N j as S w S1 hc aw dj hd h1 h2 (am_call_kd hc hd)) ?_ ⟨by show nx1 ≤ 2 + 600000; omega, by show sl1 ≤ 0 + 7302250; omega⟩ N 0 [some (.inr (am_sp L)), none, none, none] [] (ws_I L xs, (fun _ _ => 0), 2, 0) [] ⟨Nat.le_refl _, Nat.le_refl _⟩ hrun
  · have hl := am_entL (d := am_d0) (L := L) (b := b) (t0 := t0) (aw := []) (as := [.inr (am_sp L)]) (show (1 : Nat) ≤ 4 by decide) (fun v hv => by
      rw [List.mem_singleton.mp hv]; exact Or.inr (Or.inl rfl))
    rw [hv] at hl
    exact key s.heap [] _ ⟨fun k q h => by simp [am_w] at h, ⟨fun i j p q h => by simp [am_w] at h, fun k q h => by simp [am_w] at h⟩, va_S.rf, hw, hl, fun _ h => by cases h⟩
  · intro z pc op q v ys ls st T hk hop hre
    have hT := am_re_S hre
    subst hT
    intro H locs lsC hE
    obtain ⟨hP1, hD1, hS1, hw1, hl1, hv1⟩ := hE
    unfold am_re at hre
    split at hre
    · rename_i x
      split at hre
      · cases hre
        have hdg : decode code pc = .ok (.ireturn, 1) := of_decide_eq_true hk
        refine va_forget (fun q hq => hS1.2.2 q hq) ?_
        refine W.widen (k := 600000) (n := 7302250) (show nx1 - 2 ≤ 600000 by omega) (show sl1 - 0 ≤ 7302250 by omega) ?_
        exact lw_ret hx hb hr hlocks hdg
      · cases hre
    · split at hre <;> cases hre
    · cases hre
    · cases hre
set_option maxHeartbeats 4000000 in
theorem lw_walk (l : Launch) (b : Addr) (xs : List Int32) : MetFree l x (headSpec (Jvm.Cond.code x code maxLocals ret :: tables_1) room_1) (lw_P b xs) (fun _ _ _ _ _ => True) lw_Q := by
  refine MetFree.of_bodyS (code := code) (maxLocals := maxLocals) (ret := ret) (by decide) ?_ ?_
  · intro args s m h hn
    obtain ⟨meth, c, h1, h2, h3, h4, h5, h6, -, -⟩ := Cond.code_spec hn (atoms_spec (ws := Jvm.Cond.code x code maxLocals ret :: tables_1) h _ List.mem_cons_self)
    exact ⟨meth, c, h1, h2, h3, h4, h5, h6⟩
  · intro p e s m args below meth c s₁ B hml0 hP _
    obtain ⟨rfl, hx, hbd, hgv⟩ := hP
    obtain ⟨scr, harrAt, hlist, hof, hsmall⟩ := hx
    obtain ⟨hcb, hkn, -, -⟩ := State.arrayAt?_spec harrAt
    have hown : s.vm.findClass R_law = some m.cls := findClass_of_methodNamed B.named
    have hts0 : ∀ c ∈ (Jvm.Cond.code x code maxLocals ret :: tables_1), c.before #[Value.ref b] s = true := atoms_spec (ws := Jvm.Cond.code x code maxLocals ret :: tables_1) B.pre
    have hts : ∀ w ∈ lw_tbl, w.before #[Value.ref b] s = true := k2_hts_sels lw_privs (fun w hw => hts0 w (List.mem_cons_of_mem _ hw)) lw_privs_ok
    have hml : c.maxLocals = 4 := B.maxLocals_eq (hts0 _ List.mem_cons_self)
    have X₀ : Stand p l e room_1 s m #[Value.ref b] below meth c s₁ [] 0 0 := Stand.of_body B
    have hh0 : s₁.heap = s.heap := by rw [B.state]; rfl
    have hsz : scr.slots.size = xs.length := by rw [← Array.length_toList, hlist, List.length_map]
    have hval : ∀ j : Nat, j < xs.length → scr.slots[j]? = some (.int (xs.getD j 0)) := fun j hj => by
      rw [← Array.getElem?_toList, hlist]
      simp [hj]
    have hbl : b < s.heap.size := (Array.getElem?_eq_some_iff.mp hcb).1
    have hX : va_X b xs.length (fun j => xs.getD j 0) s s.heap := ⟨scr, hcb, hof, hkn, hsz, hval⟩
    have K : W p l e room_1 s m #[Value.ref b] below meth c s₁.heap [] 0 0 (lw_Z below #[Value.ref b] s) (entryFrame m ([Value.ref b] : List Value).toArray 4) := by
      rw [hh0]
      exact whole_start l hbd (name_of_methodNamed B.named B.method).1 (fun _ _ h => am_okj h) am_ok0 ⟨B.exec, B.bytes, B.returns, hml, hown, hts, hX, hbl, B.notSynchronized, hgv⟩
    obtain ⟨t, a1, o, b1, b2, b3⟩ := K s₁ rfl X₀
    exact ⟨t, o, a1, b1, b2, b3⟩
theorem lw_pre_spec {args : Array Value} {s : State} (h : (Jvm.Cond.and given_1 narrow_1).before args s = true) (hr : rest_1_c.before args s = true) : ∃ (b : Addr) (xs : List Int32), lw_P b xs args s := by
  have hs := flat_of_before _ h
  have hq := flat_of_before _ hr
  have hc : (Cond.count 1).before args s = true := hs _ (by decide +kernel)
  have harr : (Cond.arrayOf (.arg 0) .int).before args s = true := hs _ (by decide +kernel)
  have hle : (Cond.le (.length (.arg 0)) (.int 3072)).before args s = true := hs _ (by decide +kernel)
  have hlen : (Cond.isInt (.length (.arg 0))).before args s = true := hq _ (by decide +kernel)
  have hall : (Cond.all (.arg 0) (.isInt (.elem (.arg 0) (.index 0)))).before args s = true := hq _ (by decide +kernel)
  obtain ⟨b, xs, hb, hx⟩ := State.ints_of_pre rfl harr hlen hall
  have hsm : xs.length < 2 ^ 31 := hx.choose_spec.2.2.2
  have hev : (Term.length (.arg 0)).eval args s none [] s = some (.int xs.length.toInt32) := hx.length_eval hb
  have hv := Cond.le_ints hev (show (Term.int 3072).eval args s none [] s = some (.int 3072) from rfl)
  have hd : xs.length.toInt32 ≤ 3072 := by
    simpa [Cond.before, Cond.holds, hv] using hle
  have hN : xs.length ≤ 3072 := (Int32.ofNat_le_ofNat hsm (by decide)).mp (show Int32.ofNat xs.length ≤ Int32.ofNat 3072 from hd)
  exact ⟨b, xs, Cond.one_arg hc (show args[0]? = some (.ref b) from hb), hx, hN, h⟩
theorem lw_comes (l : Launch) : Comes l x (Jvm.Cond.code x code maxLocals ret :: tables_1) room_1 (fun tb e args s => Calls_1 tb e args s ∧ rest_1 tb e args s ∧ Pre_1 tb e args s)
    (fun _ _ args s o t => lw_Q args s o t) := by
  intro p e ha hc hk s m args below hf hfit hheap happ hpre
  obtain ⟨b, xs, hP⟩ := lw_pre_spec hpre.2.2 hpre.2.1
  obtain ⟨k, o, h1, h2, h3, hQ⟩ := lw_walk l b xs p e ha hc hk s m args below hf ((Spec.applies_iff_loose hf).mp happ).1 hP trivial
  exact ⟨k, o, h1, h2, h3, hQ⟩
theorem lw_frame {s t : State} {o : Outcome} {args : Array Value} (h : Framed s o t [] 600000 7302250) :
    Framed s o t (fieldLocs frame_1_writes args s ++ arrayLocs frame_1_arrays args s ++ staticLocs frame_1_statics s) 600000 7302250 := h
theorem lw_limb (L : Cond) (hL : ∀ (args : Array Value) (s t : State), L.after args s (.returned (some (.int 1))) t = true) :
    ArmFor flags0 classFile x code maxLocals ret World_1 tables_1 room_1 Calls_1 rest_1 Pre_1
      (fun tb e a s o t => postC L tb e a s o t ∧ Framed s o t (fieldLocs frame_1_writes a s ++ arrayLocs frame_1_arrays a s ++ staticLocs frame_1_statics s) 600000 7302250) := by
  intro l _ _ _ p e ha hc hk s m args below hf hfit hheap happ hpre
  obtain ⟨k, o, h1, h2, h3, rfl, hF⟩ := lw_comes l p e ha hc hk s m args below hf hfit hheap happ hpre
  exact ⟨k, _, h1, h2, h3, hL args s _, lw_frame hF⟩
theorem i_vc : Claimed_1_1 ∧ Claimed_1_2 := ⟨lw_limb limb_1_1 (fun args s t => by simp [limb_1_1, Cond.after, Cond.holds, Cond.value]), lw_limb limb_1_2 (fun args s t => Cond.after_iff.mpr (by
  first | (rw [show limb_1_2 = Cond.eq .result (.int 1) from rfl, Cond.eq_ints (x := 1) (y := 1) rfl rfl]; simp; done) | (simp [limb_1_2, Cond.value, Term.eval]; done)))⟩
