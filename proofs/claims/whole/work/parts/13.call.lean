/-! ===== CALLS ===== -/
noncomputable def am_call : Nat → Nat → Nat → List am_V → am_S → Option (Option am_V × am_S)
  | 0, _, _, _, _ => none
  | dp + 1, n, j, as, S => match am_m j with
    | none => none
    | some d => if am_kd d ≠ 3 ∧ as.length = (if am_kd d = 2 then am_np d else am_np d + 1) then am_run (am_call dp n) d n 0 (am_ent d as) [] S else none
theorem am_st_mono {r : am_R} {ls ls' : List (Option am_V)} {st st' : List am_V} {S S' : am_S} {pc' : Nat} (h : am_st r ls st S = some (pc', ls', st', S')) : S.2.2.1 ≤ S'.2.2.1 ∧ S.2.2.2 ≤ S'.2.2.2 := by
  unfold am_st at h
  split at h <;> try simp only [am_o0, am_o1, am_o2, am_o3, am_o4, am_o5, am_o6, am_o7, am_o8, am_o9, am_o10, am_o11, am_o12, am_o13, am_o14, am_o15, am_o16, am_o17, am_o18, am_o19, am_o20, am_o21, am_o22, am_o23, am_o24, am_o25, am_o26, am_o27, am_o28, am_o29, am_o30, am_o31, am_o33, am_o34, am_o35] at h
  all_goals (try split at h)
  all_goals (try split at h)
  all_goals (try split at h)
  all_goals (cases h)
  all_goals exact ⟨by first | exact Nat.le_refl _ | exact Nat.le_succ _ | exact Nat.le_add_right _ _, by first | exact Nat.le_refl _ | exact Nat.le_add_right _ _⟩
theorem am_re_S {d : am_D} {op : Nat} {st : List am_V} {S S' : am_S} {r : Option am_V} (h : am_re d op st S = some (r, S')) : S' = S := by
  unfold am_re at h
  split at h
  · split at h
    · cases h; rfl
    · cases h
  · split at h
    · cases h; rfl
    · cases h
  · cases h; rfl
  · cases h
theorem am_run_mono {call : Nat → List am_V → am_S → Option (Option am_V × am_S)} {d : am_D} (hc : ∀ j as S v S', call j as S = some (v, S') → S.2.2.1 ≤ S'.2.2.1 ∧ S.2.2.2 ≤ S'.2.2.2) : ∀ (n pc : Nat) (ls : List (Option am_V)) (st : List am_V) (S : am_S) (r : Option am_V) (S' : am_S), am_run call d n pc ls st S = some (r, S') → S.2.2.1 ≤ S'.2.2.1 ∧ S.2.2.2 ≤ S'.2.2.2
  | 0, _, _, _, _, _, _, h => by simp [am_run] at h
  | n + 1, pc, ls, st, S, r, S', h => by
    unfold am_run at h
    split at h
    · cases h
    · split at h
      · rw [am_re_S h]; exact ⟨Nat.le_refl _, Nat.le_refl _⟩
      · split at h
        · split at h
          · cases h
          · split at h
            · split at h
              · cases h
              · rename_i v S1 hcall
                have a1 := hc _ _ _ _ _ hcall
                have a2 := am_run_mono hc n _ _ _ _ _ _ h
                exact ⟨Nat.le_trans a1.1 a2.1, Nat.le_trans a1.2 a2.2⟩
            · cases h
        · split at h
          · cases h
          · rename_i pc1 ls1 st1 S1 hst
            have a1 := am_st_mono hst
            have a2 := am_run_mono hc n _ _ _ _ _ _ h
            exact ⟨Nat.le_trans a1.1 a2.1, Nat.le_trans a1.2 a2.2⟩
theorem am_call_mono : ∀ (dp n j : Nat) (as : List am_V) (S : am_S) (v : Option am_V) (S' : am_S), am_call dp n j as S = some (v, S') → S.2.2.1 ≤ S'.2.2.1 ∧ S.2.2.2 ≤ S'.2.2.2
  | 0, _, _, _, _, _, _, h => by simp [am_call] at h
  | dp + 1, n, j, as, S, v, S', h => by
    unfold am_call at h
    split at h
    · cases h
    · rename_i d _
      by_cases hl : am_kd d ≠ 3 ∧ as.length = (if am_kd d = 2 then am_np d else am_np d + 1)
      · rw [if_pos hl] at h
        exact am_run_mono (fun j as S v S' => am_call_mono dp n j as S v S') _ _ _ _ _ _ _ h
      · rw [if_neg hl] at h
        cases h
def am_gd : List Cond := lw_tbl.filter goodWord
def am_rm (dp mc ms : Nat) : Room := { frames := dp, cells := mc, slots := ms, locals := 64 * dp }
def am_Pc (D : va_G) (tys : List (ClassId × FieldType)) (b t0 L : Nat) (xs : Nat → Int32) (A : Nat → Prop) (aw : List (Nat × Nat)) (as : List am_V) (S : am_S) : Array Value → State → Prop := fun v U => v = (as.map (am_v aw b t0)).toArray ∧ am_C D tys b t0 L xs A U ∧ va_P D vwCl (am_w tys aw b t0 S) U.heap ∧ va_D A (am_w tys aw b t0 S) ∧ (∀ q, U.heap.size ≤ q → A q) ∧ b < U.heap.size
def am_Qc (D : va_G) (tys : List (ClassId × FieldType)) (b t0 L : Nat) (xs : Nat → Int32) (A : Nat → Prop) (aw : List (Nat × Nat)) (r : Option am_V) (S' : am_S) : Array Value → State → Outcome → State → Prop := fun _ st o t => (∃ z : List (Nat × Nat), o = .returned (r.map (am_v (aw ++ z) b t0)) ∧ va_P D vwCl (am_w tys (aw ++ z) b t0 S') t.heap ∧ va_D A (am_w tys (aw ++ z) b t0 S') ∧ am_wf (aw ++ z) L xs S' ∧ (∀ v, r = some v → am_vd (aw ++ z) L v)) ∧ va_F A st t
/-- what a run of the small machine says of a method of the large one -/
def am_Mt (l : Launch) (D : va_G) (tys : List (ClassId × FieldType)) (b t0 L : Nat) (xs : Nat → Int32) (A : Nat → Prop) (aw : List (Nat × Nat)) (dp : Nat) (d : am_D) (as : List am_V) (S : am_S) (r : Option am_V) (S' : am_S) : Prop :=
  Met l (am_nm d) (Cond.code (am_nm d) (am_by d) (am_ml d) (am_rt d) :: am_gd) (am_rm dp (S'.2.2.1 - S.2.2.1) (S'.2.2.2 - S.2.2.2)) (am_Pc D tys b t0 L xs A aw as S) (am_Qc D tys b t0 L xs A aw r S') (S'.2.2.1 - S.2.2.1) (S'.2.2.2 - S.2.2.2) A
theorem am_goW {p : Program} {l : Launch} {e : Env} {R : Room} {s : State} {m : MethodId} {args : Array Value} {below : List Frame} {meth : Method} {c : Code} {Q : State → Prop} {H : Heap} {locs : List Loc} {cells slots mc ms pc : Nat} {ls : Array Slot} {st0 rest : List Value} {Qa : State → Outcome → State → Prop} {free : Addr → Prop} (hr : va_Run p l e R s m args below meth c H locs cells slots mc ms (F0 m pc ls st0) rest Qa free)
    (kk : ∀ (v : Option Value) (st₀ t : State) (L' : List Loc), st₀.heap = H → (∀ q ∈ L', free q.base) → Qa st₀ (.returned v) t → W p l e R s m args below meth c t.heap (locs ++ L') (cells + mc) (slots + ms) Q (F0 m (pc + 3) ls (v.toList ++ rest))) : W p l e R s m args below meth c H locs cells slots Q (F0 m pc ls st0) := by
  intro T hT X
  obtain ⟨v, st₀, t, T', L', h0, X', hL, e1, e2, hq, go⟩ := hr T hT X
  obtain ⟨t2, a1, b1⟩ := kk v st₀ t L' h0 hL hq T' e1 X'
  exact ⟨t2, go t2 a1, b1⟩
theorem am_okd_spec {d : am_D} (h : am_okm d = true) (hk : am_kd d ≠ 3) : plainName (am_nm d).cls = true ∧ (am_nm d).cls ≠ "java/lang/invoke/MethodHandle" ∧ (am_nm d).cls ≠ "java/lang/invoke/VarHandle" ∧ (parseMethodDescriptor (am_nm d).desc).map (fun z => z.parameters.length) = some (am_np d) ∧ am_ml d ≤ 40 ∧ (if am_kd d = 2 then am_np d else am_np d + 1) ≤ am_ml d ∧ Cond.code (am_nm d) (am_by d) (am_ml d) (am_rt d) ∈ lw_tbl ∧ Cond.initialized (am_nm d).cls ∈ lw_tbl ∧ (am_kd d = 0 → Cond.instanceMethod (am_nm d) ∈ lw_tbl ∧ Cond.selects (am_nm d).cls (am_nm d) (am_nm d) ∈ lw_tbl) ∧ (am_kd d = 1 → Cond.instanceMethod (am_nm d) ∈ lw_tbl ∧ (am_nm d).name = "<init>" ∧ am_rt d = none) ∧ (am_kd d = 2 → Cond.static (am_nm d) ∈ lw_tbl) ∧ (am_kd d = 0 ∨ am_kd d = 1 ∨ am_kd d = 2) := by
  unfold am_okm at h
  rw [Bool.and_eq_true] at h
  have h := h.1
  unfold am_okd at h
  split at h
  · rename_i wc wi wk r hw
    simp only [Bool.and_eq_true, decide_eq_true_eq] at h
    obtain ⟨⟨⟨⟨⟨⟨⟨⟨⟨g1, g2⟩, g3⟩, g4⟩, g5⟩, g6⟩, g7⟩, g8⟩, g9⟩, g10⟩ := h
    refine ⟨g1, g2, g3, g4, g6, g7, am_wdm g8, am_wdm g9, ?_, ?_, ?_, ?_⟩
    · intro e; rw [e] at g10; simp only [Bool.and_eq_true] at g10; exact ⟨am_wdm g10.1, am_wdm g10.2⟩
    · intro e; rw [e] at g10; simp only [Bool.and_eq_true, decide_eq_true_eq] at g10; exact ⟨am_wdm g10.1.1, g10.1.2, g10.2⟩
    · intro e; rw [e] at g10; exact am_wdm g10
    · split at g10
      · rename_i e; exact Or.inl e
      · rename_i e; exact Or.inr (Or.inl e)
      · rename_i e; exact Or.inr (Or.inr e)
      · exact absurd g10 (by decide)
  · simp only [decide_eq_true_eq] at h; exact absurd h hk
theorem am_cut_spec {n : Nat} {st as rest : List am_V} (h : am_cut n st = some (as, rest)) : st = as.reverse ++ rest ∧ as.length = n ∧ rest.length ≤ 8 := by
  unfold am_cut at h
  split at h
  · rename_i hc
    cases h
    refine ⟨by rw [List.reverse_reverse, List.take_append_drop], by rw [List.length_reverse, List.length_take]; omega, by rw [List.length_drop]; omega⟩
  · cases h
section AmCall
variable {p : Program} {l : Launch} {e : Env} {R : Room} {s : State} {m : MethodId} {args : Array Value} {below : List Frame} {meth : Method} {c : Code} {Q : State → Prop} {d : am_D} {D : va_G} {tys : List (ClassId × FieldType)} {b t0 L : Nat} {xs : Nat → Int32} {A : Nat → Prop} {n0 s0 : Nat} {aw : List (Nat × Nat)} {pc pc' q : Nat} {ls ls' : List (Option am_V)} {st st' : List am_V} {S S' : am_S} {v : Int} {ys : List Nat}
theorem am_Pc_blind {as : List am_V} : FrameBlind (am_Pc D tys b t0 L xs A aw as S) := by
  intro a U g mk h
  obtain ⟨h1, h2, h3, h4, h5, h6⟩ := h
  have h6' : b < U.heap.size := h6
  refine ⟨h1, ?_, h3, h4, h5, h6⟩
  obtain ⟨k1, k2, k3, k4, k5, k6⟩ := h2
  refine ⟨va_K.moved (u := U) (U := U.calling g mk a) (Vm.Alike.refl U.vm) k1, va_X.moved (u := U) (U := U.calling g mk a) (Vm.Alike.refl U.vm) k2, va_Z.moved (u := U) (U := U.calling g mk a) (Vm.Alike.refl U.vm) k3, va_T.moved (u := U) (U := U.calling g mk a) (Vm.Alike.refl U.vm) k4, ?_, fun C hC => va_AO.moved (u := U) (U := U.calling g mk a) (Vm.Alike.refl U.vm) (k6 C hC)⟩
  intro w hw hn
  have hz := k5 w hw hn
  refine va_Nw.same ?_ (u := U) (U := U.calling g mk a) rfl hz
  cases w <;> first | rfl | (simp [am_isN] at hn)
theorem am_s32 {dp : Nat} {as rest : List am_V} {w : Option am_V} {S1 : am_S} (hF : am_F p s m args meth c R d D tys b t0 L xs A) (hok : ∀ (j : Nat) (d : am_D), am_m j = some d → am_okm d = true) (hk : am_ok d pc (32, q, v, ys) = true) (hRd : dp + 1 ≤ R.frames ∧ 64 * dp + 64 ≤ R.locals) (hcut : am_cut (ys.getD 1 0) st = some (as, rest)) (hrc : am_rc (ys.getD 2 0) (ys.getD 5 0) as) (hn : n0 ≤ S.2.2.1 ∧ s0 ≤ S.2.2.2) (hmono : S.2.2.1 ≤ S1.2.2.1 ∧ S.2.2.2 ≤ S1.2.2.2) (hroom : S1.2.2.1 ≤ n0 + R.cells ∧ S1.2.2.2 ≤ s0 + R.slots)
    (hM : ∀ dj, am_m (ys.headD 0) = some dj → am_wf aw L xs S → (∀ v ∈ as, am_vd aw L v) → am_Mt l D tys b t0 L xs A aw dp dj as S w S1) (k : ∀ z, am_W p l e R s m args below meth c Q d D tys b t0 L xs A n0 s0 (aw ++ z) q ls (w.toList ++ rest) S1) : am_W p l e R s m args below meth c Q d D tys b t0 L xs A n0 s0 aw pc ls st S := by
  obtain ⟨rfl, hal, hrl⟩ := am_cut_spec hcut
  change am_kc d pc q ys = true at hk
  unfold am_kc at hk
  split at hk
  · rename_i jc na kd ix wi t
    split at hk
    · rename_i dc hdc
      simp only [List.headD_cons, List.getD_cons_succ, List.getD_cons_zero] at hcut hrc hM hal
      simp only [Bool.and_eq_true, beq_iff_eq] at hk
      obtain ⟨⟨⟨rfl, hkd⟩, hna⟩, hk⟩ := hk
      obtain ⟨hx, hb, hml, hown, hts, hnm, hC, hty, hA, hbA, hbl, hL, hR1, hR2⟩ := hF
      have hokd := hok _ _ hdc
      have hk3 : am_kd dc ≠ 3 := by
        intro e
        rw [e] at hkd
        unfold am_rc at hrc
        rw [hkd] at hrc
        exact hrc
      obtain ⟨y1, y2, y3, y4, y5, y6, y7, y8, y9, y10, y11, y12⟩ := am_okd_spec hokd hk3
      intro H locs lsC hE
      obtain ⟨hP, hD, hS, hw, hl, hv⟩ := hE
      have hvas : ∀ v ∈ as, am_vd aw L v := fun w hw => hv w (List.mem_append_left _ (List.mem_reverse.mpr hw))
      have hvre : ∀ v ∈ rest, am_vd aw L v := fun w hw => hv w (List.mem_append_right _ hw)
      have hMt := hM dc hdc hw hvas
      unfold am_Mt at hMt
      have hcodeb : (Cond.code (am_nm dc) (am_by dc) (am_ml dc) (am_rt dc)).before args s = true := hts _ y7 rfl
      have hws : ∀ w ∈ (Cond.code (am_nm dc) (am_by dc) (am_ml dc) (am_rt dc) :: am_gd), ∀ (a' : Array Value) (U : State), s.WarmedH U.vm → w.before a' U = true := by
        intro w hw a' U hW
        rcases List.mem_cons.mp hw with rfl | hw
        · exact word_at hW (good_of_word rfl) hcodeb
        · obtain ⟨g1, g2⟩ := List.mem_filter.mp hw
          exact word_at hW (good_of_word g2) (hts w g1 g2)
      have hlen : ∀ sig, parseMethodDescriptor (am_nm dc).desc = some sig → am_np dc = sig.parameters.length := by
        intro sig h
        rw [h] at y4
        exact (Option.some.inj y4).symm
      have hPre : ∀ U : State, U.heap = H → s.WarmedH U.vm → am_Pc D tys b t0 L xs A aw as S (as.map (am_v aw b t0)).toArray U := by
        intro U hU hW
        have hS' : va_S A s.heap U.heap locs := by rw [hU]; exact hS
        exact ⟨rfl, am_C.go hC hW hS' hbA hbl, by rw [hU]; exact hP, hD, fun q hq => hA q (Nat.le_trans hS'.1 hq), Nat.lt_of_lt_of_le hbl hS'.1⟩
      have hrm : (am_rm dp (S1.2.2.1 - S.2.2.1) (S1.2.2.2 - S.2.2.2)).frames + 1 ≤ R.frames ∧ 8 + (am_ml dc + 11) + (am_rm dp (S1.2.2.1 - S.2.2.1) (S1.2.2.2 - S.2.2.2)).locals ≤ R.locals := ⟨hRd.1, by show 8 + (am_ml dc + 11) + 64 * dp ≤ _; omega⟩
      have hcells : S.2.2.1 - n0 + (S1.2.2.1 - S.2.2.1) ≤ R.cells ∧ S.2.2.2 - s0 + (S1.2.2.2 - S.2.2.2) ≤ R.slots := by omega
      have hsum : 2 * (F0 m pc lsC ((as.reverse ++ rest).map (am_v aw b t0))).monitorRoom + ((rest.map (am_v aw b t0)).map fun v => v.category).sum ≤ 8 := by
        rw [am_cats]; show 2 * 0 + _ ≤ 8; omega
      have hgo : ∀ (Qa : State → Outcome → State → Prop), (∀ st o t, Qa st o t → am_Qc D tys b t0 L xs A aw w S1 #[] st o t) → va_Run p l e R s m args below meth c H locs (S.2.2.1 - n0) (S.2.2.2 - s0) (S1.2.2.1 - S.2.2.1) (S1.2.2.2 - S.2.2.2) (F0 m pc lsC ((as.reverse ++ rest).map (am_v aw b t0))) (rest.map (am_v aw b t0)) Qa A → W p l e R s m args below meth c H locs (S.2.2.1 - n0) (S.2.2.2 - s0) Q (F0 m pc lsC ((as.reverse ++ rest).map (am_v aw b t0))) := by
        intro Qa hQa hrun
        refine am_goW hrun (fun vv st₀ t L' e0 eL eQ => ?_)
        obtain ⟨⟨z, z1, z2, z3, z4, z5⟩, zF⟩ := hQa _ _ _ eQ
        have ev : vv = w.map (am_v (aw ++ z) b t0) := by
          have := z1; injection this
        subst ev
        have hS1 : va_S A s.heap t.heap (locs ++ L') := by
          refine ⟨Nat.le_trans hS.1 (by rw [← e0]; exact zF.1), fun q h1 h2 => ?_, fun l hl => ?_⟩
          · rw [zF.2 q (by rw [e0]; exact Nat.lt_of_lt_of_le h1 hS.1) h2, e0]; exact hS.2.1 q h1 h2
          · rcases List.mem_append.mp hl with h | h
            · exact hS.2.2 l h
            · exact eL l h
        have k' := k z t.heap (locs ++ L') lsC ⟨z2, z3, hS1, z4, hl.gr hw.1 hL, fun u hu => by
          rcases List.mem_append.mp hu with h | h
          · cases w with
            | none => cases h
            | some w0 => rw [List.mem_singleton.mp h]; exact z5 w0 rfl
          · exact am_vd_gr (hvre u h)⟩
        rw [List.map_append, am_st_gr hw.1 hL hvre] at k'
        have e4 : (w.map (am_v (aw ++ z) b t0)).toList ++ rest.map (am_v aw b t0) = w.toList.map (am_v (aw ++ z) b t0) ++ rest.map (am_v aw b t0) := by cases w <;> rfl
        rw [e4]
        refine W.cs ?_ ?_ k' <;> omega
      have hsz : (F0 m pc lsC ((as.reverse ++ rest).map (am_v aw b t0))).locals.size = am_ml d := hl.1
      split at hk
      · simp only [Bool.and_eq_true, decide_eq_true_eq] at hk
        obtain ⟨⟨⟨⟨g1, g2⟩, g3⟩, g4⟩, g5⟩ := hk
        have hkd0 : am_kd dc = 0 := by omega
        cases as with
        | nil => exact absurd hrc (by simp [am_rc])
        | cons a0 as =>
          cases a0 with
          | inl x => exact absurd hrc (by simp [am_rc])
          | inr a =>
            have ht : am_t a = t := hrc
            obtain ⟨i, qa, hi⟩ := am_in (hvas _ List.mem_cons_self) (by omega) (by omega)
            obtain ⟨C, T, N, ty0, c1, c2, c3, c4, c5, c6, c7, c8⟩ := am_cls g3 g4
            have hva : am_v aw b t0 (.inr a) = .ref qa := am_vr (hw.1 _ _ _ hi) hi
            have he : (am_w tys aw b t0 S)[i]? = some (qa, .inr (t - 1, am_fs aw b t0 S a)) := by rw [am_wat hi, am_c_ob (by omega), ht]
            have hmap : ((.inr a :: as : List am_V).map (am_v aw b t0)) = .ref qa :: as.map (am_v aw b t0) := by rw [List.map_cons, hva]
            have hstk : (((.inr a :: as : List am_V).reverse ++ rest).map (am_v aw b t0)) = (as.map (am_v aw b t0)).reverse ++ .ref qa :: rest.map (am_v aw b t0) := by simp [hva]
            rw [hmap] at hPre
            have hCn : C = (am_nm dc).cls := c3.symm.trans g5
            obtain ⟨w1, w2⟩ := y9 hkd0
            have hrecv := va_recv hC.1 hP (ci := t - 1) (q0 := i) c1 he
            have hrecv : ∃ cellB : Cell, H[qa]? = some cellB ∧ cellB.vm.isStatics = false ∧ s.vm.findClass (am_nm dc).cls = some cellB.cls := by rw [← hCn]; exact hrecv
            have hnp : (as.map (am_v aw b t0)).length = am_np dc := by
              rw [List.length_map]
              rw [hkd] at hna
              simp only [hkd0] at hna
              simp only [List.length_cons] at hal
              have : na = am_np dc + 1 := hna
              omega
            have hrun := va_runV (Ts := []) (C := (am_nm dc).cls) (b := qa) (As := as.map (am_v aw b t0)) (rest := rest.map (am_v aw b t0)) (g := F0 m pc lsC (((.inr a :: as : List am_V).reverse ++ rest).map (am_v aw b t0))) (locs := locs) (cells := S.2.2.1 - n0) (slots := S.2.2.2 - s0) (below := below) (meth := meth) (e := e) ⟨hx, hb, hml, hown, fun _ h => by cases h⟩ hMt ⟨⟨rfl, rfl, hrm.1, hrm.2, hws, List.mem_cons_self, hcodeb, hts _ y8 rfl, ⟨y2, y3⟩, hlen, hts _ (am_wdm g2) rfl⟩, hts _ w1 rfl, hts _ w2 rfl⟩ ⟨am_Pc_blind, hrecv, hPre⟩ rfl hnp hsz hstk hsum g1 hcells
            exact hgo _ (fun st o t h => h) hrun
      · simp only [Bool.and_eq_true, decide_eq_true_eq] at hk
        obtain ⟨g1, g2⟩ := hk
        have hkd0 : am_kd dc = 1 := by omega
        cases as with
        | nil => exact absurd hrc (by simp [am_rc])
        | cons a0 as =>
          cases a0 with
          | inl x => exact absurd hrc (by simp [am_rc])
          | inr a =>
            have ht : ¬ a = 0 := hrc
            obtain ⟨qa, hva⟩ := am_ref (b := b) (t0 := t0) hw.1 hL (hvas _ List.mem_cons_self) ht
            have hmap : ((.inr a :: as : List am_V).map (am_v aw b t0)) = .ref qa :: as.map (am_v aw b t0) := by rw [List.map_cons, hva]
            have hstk : (((.inr a :: as : List am_V).reverse ++ rest).map (am_v aw b t0)) = (as.map (am_v aw b t0)).reverse ++ .ref qa :: rest.map (am_v aw b t0) := by simp [hva]
            rw [hmap] at hPre
            obtain ⟨w1, w2, w3⟩ := y10 hkd0
            have hnp : (as.map (am_v aw b t0)).length = am_np dc := by
              rw [List.length_map]
              rw [hkd] at hna
              simp only [hkd0] at hna
              simp only [List.length_cons] at hal
              have : na = am_np dc + 1 := hna
              omega
            rw [w3] at hMt hcodeb hws
            have hrun := va_runI (Ts := []) (b := qa) (As := as.map (am_v aw b t0)) (rest := rest.map (am_v aw b t0)) (g := F0 m pc lsC (((.inr a :: as : List am_V).reverse ++ rest).map (am_v aw b t0))) (locs := locs) (cells := S.2.2.1 - n0) (slots := S.2.2.2 - s0) (below := below) (meth := meth) (e := e) ⟨hx, hb, hml, hown, fun _ h => by cases h⟩ hMt ⟨⟨rfl, rfl, hrm.1, hrm.2, hws, List.mem_cons_self, hcodeb, hts _ y8 rfl, ⟨y2, y3⟩, hlen, hts _ (am_wdm g2) rfl⟩, w2, hts _ w1 rfl⟩ ⟨am_Pc_blind, hPre⟩ rfl hnp hsz hstk hsum g1 hcells
            exact hgo _ (fun st o t h => h) hrun
      · simp only [Bool.and_eq_true, decide_eq_true_eq] at hk
        obtain ⟨g1, g2⟩ := hk
        have hkd0 : am_kd dc = 2 := by omega
        have hstk : ((as.reverse ++ rest).map (am_v aw b t0)) = (as.map (am_v aw b t0)).reverse ++ rest.map (am_v aw b t0) := by simp
        have w1 := y11 hkd0
        have hnp : (as.map (am_v aw b t0)).length = am_np dc := by
          rw [List.length_map]
          rw [hkd] at hna
          simp only [hkd0] at hna
          have : na = am_np dc := hna
          omega
        have hrun := va_runS (Ts := []) (As := as.map (am_v aw b t0)) (rest := rest.map (am_v aw b t0)) (g := F0 m pc lsC ((as.reverse ++ rest).map (am_v aw b t0))) (locs := locs) (cells := S.2.2.1 - n0) (slots := S.2.2.2 - s0) (below := below) (meth := meth) (e := e) ⟨hx, hb, hml, hown, fun _ h => by cases h⟩ hMt ⟨⟨rfl, rfl, hrm.1, hrm.2, hws, List.mem_cons_self, hcodeb, hts _ y8 rfl, ⟨y2, y3⟩, hlen, hts _ (am_wdm g2) rfl⟩, hts _ w1 rfl⟩ ⟨am_Pc_blind, hPre⟩ rfl hnp hsz hstk hsum g1 hcells
        exact hgo _ (fun st o t h => h) hrun
      · simp only [Bool.and_eq_true, decide_eq_true_eq] at hk
        obtain ⟨g1, g2⟩ := hk
        have hkd0 : am_kd dc = 1 := by omega
        cases as with
        | nil => exact absurd hrc (by simp [am_rc])
        | cons a0 as =>
          cases a0 with
          | inl x => exact absurd hrc (by simp [am_rc])
          | inr a =>
            have ht : ¬ a = 0 := hrc
            obtain ⟨qa, hva⟩ := am_ref (b := b) (t0 := t0) hw.1 hL (hvas _ List.mem_cons_self) ht
            have hmap : ((.inr a :: as : List am_V).map (am_v aw b t0)) = .ref qa :: as.map (am_v aw b t0) := by rw [List.map_cons, hva]
            have hstk : (((.inr a :: as : List am_V).reverse ++ rest).map (am_v aw b t0)) = (as.map (am_v aw b t0)).reverse ++ .ref qa :: rest.map (am_v aw b t0) := by simp [hva]
            rw [hmap] at hPre
            obtain ⟨w1, w2, w3⟩ := y10 hkd0
            have hnp : (as.map (am_v aw b t0)).length = am_np dc := by
              rw [List.length_map]
              rw [hkd] at hna
              simp only [hkd0] at hna
              simp only [List.length_cons] at hal
              have : na = am_np dc + 1 := hna
              omega
            rw [w3] at hMt hcodeb hws
            have hrun := va_runIN (Ts := []) (b := qa) (As := as.map (am_v aw b t0)) (rest := rest.map (am_v aw b t0)) (g := F0 m pc lsC (((.inr a :: as : List am_V).reverse ++ rest).map (am_v aw b t0))) (locs := locs) (cells := S.2.2.1 - n0) (slots := S.2.2.2 - s0) (below := below) (meth := meth) (e := e) ⟨hx, hb, hml, hown, fun _ h => by cases h⟩ hMt ⟨⟨⟨rfl, rfl, hrm.1, hrm.2, hws, List.mem_cons_self⟩, hcodeb, hts _ y8 rfl, ⟨y2, y3⟩, hlen, va_Nw.use rfl (hC.2.2.2.2.1 _ (am_wdm g2) rfl)⟩, w2, hts _ w1 rfl⟩ ⟨am_Pc_blind, hPre⟩ rfl hnp hsz hstk hsum g1 hcells
            exact hgo _ (fun st o t h => h) hrun
      · simp only [Bool.and_eq_true, decide_eq_true_eq] at hk
        obtain ⟨g1, g2⟩ := hk
        have hkd0 : am_kd dc = 2 := by omega
        have hstk : ((as.reverse ++ rest).map (am_v aw b t0)) = (as.map (am_v aw b t0)).reverse ++ rest.map (am_v aw b t0) := by simp
        have w1 := y11 hkd0
        have hnp : (as.map (am_v aw b t0)).length = am_np dc := by
          rw [List.length_map]
          rw [hkd] at hna
          simp only [hkd0] at hna
          have : na = am_np dc := hna
          omega
        have hrun := va_runSN (Ts := []) (As := as.map (am_v aw b t0)) (rest := rest.map (am_v aw b t0)) (g := F0 m pc lsC ((as.reverse ++ rest).map (am_v aw b t0))) (locs := locs) (cells := S.2.2.1 - n0) (slots := S.2.2.2 - s0) (below := below) (meth := meth) (e := e) ⟨hx, hb, hml, hown, fun _ h => by cases h⟩ hMt ⟨⟨⟨rfl, rfl, hrm.1, hrm.2, hws, List.mem_cons_self⟩, hcodeb, hts _ y8 rfl, ⟨y2, y3⟩, hlen, va_Nw.use rfl (hC.2.2.2.2.1 _ (am_wdm g2) rfl)⟩, hts _ w1 rfl, trivial⟩ ⟨am_Pc_blind, hPre⟩ rfl hnp hsz hstk hsum g1 hcells
        exact hgo _ (fun st o t h => h) hrun
      · exact absurd hk (by decide)
    · exact absurd hk (by decide)
  · exact absurd hk (by decide)
end AmCall
