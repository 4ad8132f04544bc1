theorem am_q_acn : (Cond.native arraycopyName : Cond) ∈ lw_tbl := List.mem_of_getElem? (i := 731) (by decide +kernel)
theorem am_q_acs : (Cond.static arraycopyName : Cond) ∈ lw_tbl := List.mem_of_getElem? (i := 730) (by decide +kernel)
theorem am_q_acu : (Cond.initialized "java/lang/System" : Cond) ∈ lw_tbl := List.mem_of_getElem? (i := 78) (by decide +kernel)
theorem am_q_cls : (Cond.sameMethod "[I" "java/lang/Object" "clone" "()Ljava/lang/Object;" : Cond) ∈ lw_tbl := List.mem_of_getElem? (i := 720) (by decide +kernel)
theorem am_q_cln : (Cond.native ⟨"java/lang/Object", "clone", "()Ljava/lang/Object;"⟩ : Cond) ∈ lw_tbl := List.mem_of_getElem? (i := 721) (by decide +kernel)
theorem am_q_cli : (Cond.instanceMethod ⟨"java/lang/Object", "clone", "()Ljava/lang/Object;"⟩ : Cond) ∈ lw_tbl := List.mem_of_getElem? (i := 722) (by decide +kernel)
theorem am_q_clx : (Cond.selects "[I" ⟨"[I", "clone", "()Ljava/lang/Object;"⟩ ⟨"java/lang/Object", "clone", "()Ljava/lang/Object;"⟩ : Cond) ∈ lw_tbl := List.mem_of_getElem? (i := 723) (by decide +kernel)
theorem am_q_clc : (Cond.castable "[I" "java/lang/Cloneable" : Cond) ∈ lw_tbl := List.mem_of_getElem? (i := 724) (by decide +kernel)
theorem am_q_oii : (Cond.instanceMethod objectInit : Cond) ∈ lw_tbl := List.mem_of_getElem? (i := 85) (by decide +kernel)
theorem am_q_oic : (Cond.code objectInit ⟨#[0xb1]⟩ 1 none : Cond) ∈ lw_tbl := List.mem_of_getElem? (i := 86) (by decide +kernel)
/-! the memory grows by a cell -/
theorem am_vd_gr {aw : List (Nat × Nat)} {L : Nat} {z : List (Nat × Nat)} {v : am_V} (h : am_vd aw L v) : am_vd (aw ++ z) L v := by
  cases v with
  | inl x => trivial
  | inr p =>
    rcases h with h | h | h | ⟨i, q, h⟩
    · exact Or.inl h
    · exact Or.inr (Or.inl h)
    · exact Or.inr (Or.inr (Or.inl h))
    · exact Or.inr (Or.inr (Or.inr ⟨i, q, by rw [List.getElem?_append_left (List.getElem?_eq_some_iff.mp h).1]; exact h⟩))
theorem am_ad_gr {aw : List (Nat × Nat)} {b t0 L p : Nat} {z : List (Nat × Nat)} (hw : ∀ i q p : Nat, aw[i]? = some (q, p) → am_i p = i + 2) (hL : L < 16384) (h : am_vd aw L (.inr p)) : am_ad (aw ++ z) b t0 p = am_ad aw b t0 p := by
  rcases h with rfl | rfl | rfl | ⟨i, q, h⟩
  · rfl
  · unfold am_ad; rw [am_spi hL]
  · unfold am_ad; rw [am_api]
  · have hi := hw _ _ _ h
    rw [am_adr hi h, am_adr hi (by rw [List.getElem?_append_left (List.getElem?_eq_some_iff.mp h).1]; exact h)]
theorem am_v_gr {aw : List (Nat × Nat)} {b t0 L : Nat} {z : List (Nat × Nat)} {v : am_V} (hw : ∀ i q p : Nat, aw[i]? = some (q, p) → am_i p = i + 2) (hL : L < 16384) (h : am_vd aw L v) : am_v (aw ++ z) b t0 v = am_v aw b t0 v := by
  cases v with
  | inl x => rfl
  | inr p =>
    show va_rf _ = va_rf _
    rw [am_ad_gr hw hL h]
theorem am_st_gr {aw : List (Nat × Nat)} {b t0 L : Nat} {z : List (Nat × Nat)} (hw : ∀ i q p : Nat, aw[i]? = some (q, p) → am_i p = i + 2) (hL : L < 16384) {st : List am_V} (h : ∀ v ∈ st, am_vd aw L v) : st.map (am_v (aw ++ z) b t0) = st.map (am_v aw b t0) := List.map_congr_left fun v hv => am_v_gr hw hL (h v hv)
theorem am_Lc.gr {d : am_D} {b t0 L : Nat} {aw : List (Nat × Nat)} {z : List (Nat × Nat)} {ls : List (Option am_V)} {lsC : Array Slot} (hw : ∀ i q p : Nat, aw[i]? = some (q, p) → am_i p = i + 2) (hL : L < 16384) (h : am_Lc d b t0 L aw ls lsC) : am_Lc d b t0 L (aw ++ z) ls lsC :=
  ⟨h.1, h.2.1, h.2.2.1, fun i v hi => ⟨by rw [am_v_gr hw hL (h.2.2.2 i v hi).2]; exact (h.2.2.2 i v hi).1, am_vd_gr (h.2.2.2 i v hi).2⟩⟩
theorem am_c_gr {tys : List (ClassId × FieldType)} {aw : List (Nat × Nat)} {b t0 L : Nat} {z : List (Nat × Nat)} {xs : Nat → Int32} {S S' : am_S} {i q p : Nat} (hw : am_wf aw L xs S) (hL : L < 16384) (hp : aw[i]? = some (q, p)) (h1 : S'.1 p = S.1 p) (h2 : S'.2.1 p = S.2.1 p) : am_c tys (aw ++ z) b t0 S' p = am_c tys aw b t0 S p := by
  by_cases hi : am_t p = 20 ∨ am_t p = 21
  · rw [am_c_ai (by omega) (by omega), am_c_ai (by omega) (by omega), h1]
  have e : ∀ k, am_ad (aw ++ z) b t0 (S.2.1 p k) = am_ad aw b t0 (S.2.1 p k) := fun k => am_ad_gr hw.1 hL (hw.2.2.1 _ _ _ hp hi k)
  unfold am_c
  simp only [h1, h2, e]
theorem am_w_gr {tys : List (ClassId × FieldType)} {aw : List (Nat × Nat)} {b t0 L : Nat} {qn pn : Nat} {xs : Nat → Int32} {S S' : am_S} (hw : am_wf aw L xs S) (hL : L < 16384) (hpn : am_i pn = aw.length + 2) (h1 : ∀ p : Nat, ¬ p = pn → S'.1 p = S.1 p) (h2 : ∀ p : Nat, ¬ p = pn → S'.2.1 p = S.2.1 p) {x : va_E} (hx : am_c tys (aw ++ [(qn, pn)]) b t0 S' pn = x) : am_w tys (aw ++ [(qn, pn)]) b t0 S' = am_w tys aw b t0 S ++ [(qn, x)] := by
  unfold am_w
  rw [List.map_append]
  congr 1
  · apply List.map_congr_left
    intro z hz
    obtain ⟨i, hi⟩ := List.getElem?_of_mem hz
    obtain ⟨q, p⟩ := z
    have hne : ¬ p = pn := fun e => by
      have a1 := hw.1 _ _ _ hi
      have a2 := (List.getElem?_eq_some_iff.mp hi).1
      rw [e, hpn] at a1; omega
    show (q, _) = (q, _)
    rw [am_c_gr hw hL hi (h1 p hne) (h2 p hne)]
  · show [(qn, _)] = _
    rw [hx]
theorem am_wf_gr {aw : List (Nat × Nat)} {L : Nat} {qn pn sl : Nat} {xs : Nat → Int32} {S : am_S} {I : am_M} {P : am_Q} (hw : am_wf aw L xs S) (hL : L < 16384) (hpn : am_i pn = aw.length + 2) (h1 : ∀ p : Nat, ¬ p = pn → I p = S.1 p) (h2 : ∀ p : Nat, ¬ p = pn → P p = S.2.1 p) (h3 : ¬ (am_t pn = 20 ∨ am_t pn = 21) → ∀ k, P pn k = 0) : am_wf (aw ++ [(qn, pn)]) L xs (I, P, S.2.2.1 + 1, sl) := by
  obtain ⟨w1, w2, w3, w4, w5⟩ := hw
  refine ⟨?_, ?_, ?_, ?_, ?_⟩
  · intro i q p hi
    rw [List.getElem?_append] at hi
    split at hi
    · exact w1 _ _ _ hi
    · rename_i hge
      have hz : i - aw.length < 1 := (List.getElem?_eq_some_iff.mp hi).1
      have e0 : i = aw.length := by omega
      subst e0
      rw [Nat.sub_self] at hi
      cases hi
      exact hpn
  · show S.2.2.1 + 1 = _
    rw [w2, List.length_append]; rfl
  · intro i q p hi ht k
    rw [List.getElem?_append] at hi
    split at hi
    · have hne : ¬ p = pn := fun e => by
        have a1 := w1 _ _ _ hi
        rename_i hlt
        rw [e, hpn] at a1; omega
      show am_vd _ L (.inr (P p k))
      rw [h2 p hne]
      exact am_vd_gr (w3 _ _ _ hi ht k)
    · rename_i hge
      have hz : i - aw.length < 1 := (List.getElem?_eq_some_iff.mp hi).1
      have e0 : i = aw.length := by omega
      subst e0
      rw [Nat.sub_self] at hi
      cases hi
      exact Or.inl (h3 ht k)
  · intro j hj
    have hne : ¬ am_sp L = pn := fun e => by rw [← e, am_spi hL] at hpn; omega
    show I (am_sp L) j = _
    rw [h1 _ hne]; exact w4 j hj
  · intro j hj
    have hne : ¬ am_ap = pn := fun e => by rw [← e, am_api] at hpn; omega
    show I am_ap j = _
    rw [h1 _ hne]; exact w5 j hj
theorem am_setne {α : Type} {f : Nat → Nat → α} {a p : Nat} {g : Nat → α} (h : ¬ p = a) : am_set f a g p = f p := funext fun _ => am_set_ne h
theorem am_aI : ("[" ++ (FieldType.int).toString : String) = "[I" := by decide
section AmOps5
variable {p : Program} {l : Launch} {e : Env} {R : Room} {s : State} {m : MethodId} {args : Array Value} {below : List Frame} {meth : Method} {c : Code} {Q : State → Prop} {d : am_D} {D : va_G} {tys : List (ClassId × FieldType)} {b t0 L : Nat} {xs : Nat → Int32} {A : Nat → Prop} {n0 s0 : Nat} {aw : List (Nat × Nat)} {pc pc' q : Nat} {ls ls' : List (Option am_V)} {st st' : List am_V} {S S' : am_S} {v : Int} {ys : List Nat}
theorem am_intc (hC : am_C D tys b t0 L xs A s) (hty : tys.map (fun q => q.2) = am_tys) : s.vm.findClass "[I" = some (tys.getD 0 (0, .int)).1 := by
  have h := (hC.1.2 0 _ (am_tyat hty rfl)).2
  have h : s.vm.findClass ("[" ++ (FieldType.int).toString) = some (tys.getD 0 (0, .int)).1 := h
  rw [am_aI] at h; exact h
theorem am_s28 (hF : am_F p s m args meth c R d D tys b t0 L xs A) (hk : am_ok d pc (28, q, v, ys) = true) (h : am_o28 (28, q, v, ys) ls st S = some (pc', ls', st', S')) (hn : n0 ≤ S.2.2.1 ∧ s0 ≤ S.2.2.2) (hroom : S'.2.2.1 ≤ n0 + R.cells ∧ S'.2.2.2 ≤ s0 + R.slots) (k : ∀ z, am_W p l e R s m args below meth c Q d D tys b t0 L xs A n0 s0 (aw ++ z) pc' ls' st' S') : am_W p l e R s m args below meth c Q d D tys b t0 L xs A n0 s0 aw pc ls st S := by
  obtain ⟨hx, hb, hml, hown, hts, hnm, hC, hty, hA, hbA, hbl, hL, hR1, hR2⟩ := hF
  simp only [am_ok] at hk
  split at hk
  · rename_i t ix wi wj wk
    simp only [Bool.and_eq_true, decide_eq_true_eq, beq_iff_eq] at hk
    obtain ⟨⟨⟨⟨⟨⟨h1, rfl⟩, g1⟩, g2⟩, h2⟩, h3⟩, h4⟩ := hk
    obtain ⟨C, T, N, ty0, c1, c2, c3, c4, c5, c6, c7, c8⟩ := am_cls g1 g2
    simp only [am_o28, List.headD_cons] at h
    cases h
    intro H locs lsC hE
    obtain ⟨hP, hD, hS, hw, hl, hv⟩ := hE
    rw [c3] at h2 h3 h4
    rw [c2] at h3
    have htp : am_t (am_pk S.2.2.1 0 t) = t := am_t_pk (by omega)
    have hpn : am_i (am_pk S.2.2.1 0 t) = aw.length + 2 := by rw [am_i_pk (by omega) (by omega), hw.2.1]
    have hr1 : S.2.2.1 + 1 ≤ n0 + R.cells := hroom.1
    have hr2 : S.2.2.2 + am_nf t ≤ s0 + R.slots := hroom.2
    rw [c2] at hr2
    generalize hpe : am_pk S.2.2.1 0 t = pn at *
    refine va_new (Ts := u_ws C T N) (fs := am_fs aw b t0 (am_set S.1 pn (fun _ => 0), am_set S.2.1 pn (fun _ => 0), S.2.2.1 + 1, S.2.2.2 + am_nf t) pn) hx hb (fun w hw => hts w (c5 w hw).1 (c5 w hw).2) (fun w hw => hw) ty0 c6 hown (hts _ (am_wdm h2) rfl) (hts _ (am_wdm h3) rfl) (hts _ (am_wdm h4) rfl) hC.1 hP hD hS hA c1 ?_ (by omega) (by omega) h1 (fun qn H1 e1 e2 e3 => ?_)
    · intro j hj
      show _ = List.getD _ _ _
      rw [List.getD_eq_getElem?_getD, am_fsk (by rw [htp, c2]; exact hj), htp]
      have h8 := c8 j hj
      have z1 : am_set S.1 pn (fun _ => (0 : Int32)) pn j = 0 := by rw [am_set_eq]
      have z2 : am_set S.2.1 pn (fun _ => (0 : Nat)) pn j = 0 := by rw [am_set_eq]
      simp only [Option.getD_some, z1, z2]
      unfold am_tk at h8
      split at h8 <;> simp_all [defaultValue, am_ad, va_rf]
    · have eW : am_w tys (aw ++ [(qn, pn)]) b t0 (am_set S.1 pn (fun _ => 0), am_set S.2.1 pn (fun _ => 0), S.2.2.1 + 1, S.2.2.2 + am_nf t) = am_w tys aw b t0 S ++ [(qn, .inr (t - 1, am_fs aw b t0 (am_set S.1 pn (fun _ => 0), am_set S.2.1 pn (fun _ => 0), S.2.2.1 + 1, S.2.2.2 + am_nf t) pn))] := by
        refine am_w_gr (S' := (am_set S.1 pn (fun _ => 0), am_set S.2.1 pn (fun _ => 0), S.2.2.1 + 1, S.2.2.2 + am_nf t)) hw hL hpn (fun p' hp => am_setne hp) (fun p' hp => am_setne hp) ?_
        rw [am_c_ob (by omega), htp]
        congr 2
        unfold am_fs
        apply List.map_congr_left
        intro j _
        have z2 : am_set S.2.1 pn (fun _ => (0 : Nat)) pn j = 0 := by rw [am_set_eq]
        simp only [z2]
        rfl
      have k' := k [(qn, pn)] H1 locs lsC ⟨by rw [eW]; exact e1, by rw [eW]; exact e2, e3, am_wf_gr hw hL hpn (fun p' hp => am_setne hp) (fun p' hp => am_setne hp) (fun _ j => by rw [am_set_eq]), hl.gr hw.1 hL, am_vc (Or.inr (Or.inr (Or.inr ⟨aw.length, qn, by simp⟩))) (fun w hw => am_vd_gr (hv w hw))⟩
      rw [List.map_cons, am_st_gr hw.1 hL hv, am_vr (i := aw.length) (q := qn) hpn (by simp)] at k'
      refine W.cs ?_ ?_ k'
      · show S.2.2.1 - n0 + 1 = S.2.2.1 + 1 - n0; omega
      · show S.2.2.2 - s0 + N = S.2.2.2 + am_nf t - s0; rw [c2]; omega
  · exact absurd hk (by decide)
theorem am_s29 (hF : am_F p s m args meth c R d D tys b t0 L xs A) (hk : am_ok d pc (29, q, v, ys) = true) (h : am_o29 (29, q, v, ys) ls st S = some (pc', ls', st', S')) (hn : n0 ≤ S.2.2.1 ∧ s0 ≤ S.2.2.2) (hroom : S'.2.2.1 ≤ n0 + R.cells ∧ S'.2.2.2 ≤ s0 + R.slots) (k : ∀ z, am_W p l e R s m args below meth c Q d D tys b t0 L xs A n0 s0 (aw ++ z) pc' ls' st' S') : am_W p l e R s m args below meth c Q d D tys b t0 L xs A n0 s0 aw pc ls st S := by
  obtain ⟨hx, hb, hml, hown, hts, hnm, hC, hty, hA, hbA, hbl, hL, hR1, hR2⟩ := hF
  simp only [am_ok] at hk
  have key : ∀ (t : Nat) (at_ : ArrayType) (ty : FieldType), newarray.typeOf at_ = ty → (20 ≤ t ∧ t < 22) → am_tys[t - 20]? = some ty → (∀ cA n, vp_cell cA (n, .inl (fun _ => 0)) = arrV cA n (fun _ => defaultValue ty)) → componentBytes ty ≤ 4 → (Cond.arrayClass (newarray.typeOf at_)).before args s = true → decode (am_by d) pc = .ok (.newarray at_, 2) → q = pc + 2 → (∀ cA cB, va_RA s cA ty → va_RA s cB ty → cA = cB) → ys.headD 0 = t → am_W p l e R s m args below meth c Q d D tys b t0 L xs A n0 s0 aw pc ls st S := by
    intro t at_ ty hto ht htt hcell hcb hac hdg hq hsame hy
    subst hq
    simp only [am_o29, hy] at h
    split at h
    · rename_i n st1
      split at h
      · exact absurd h (by simp)
      · rename_i hc
        cases h
        intro H locs lsC hE
        obtain ⟨hP, hD, hS, hw, hl, hv⟩ := hE
        have hN : n.toNatClampNeg < 16384 := by omega
        have htp : am_t (am_pk S.2.2.1 n.toNatClampNeg t) = t := am_t_pk (by omega)
        have hnp : am_n (am_pk S.2.2.1 n.toNatClampNeg t) = n.toNatClampNeg := am_n_pk hN (by omega)
        have hpn : am_i (am_pk S.2.2.1 n.toNatClampNeg t) = aw.length + 2 := by rw [am_i_pk hN (by omega), hw.2.1]
        have hr1 : S.2.2.1 + 1 ≤ n0 + R.cells := hroom.1
        have hr2 : S.2.2.2 + n.toNatClampNeg ≤ s0 + R.slots := hroom.2
        generalize hpe : am_pk S.2.2.1 n.toNatClampNeg t = pn at *
        rw [List.map_cons]
        refine va_newa hx hb hac hto hC.1 hP hD hS hA (a0 := (n.toNatClampNeg, .inl (fun _ => 0))) (fun cA => hcell cA _) (fun z => hc (Or.inl z)) rfl (by have := Nat.mul_le_mul (Nat.le_of_lt hN) hcb; omega) (by omega) (by omega) hdg (fun qn cA H1 eK e1 e2 e3 => ?_)
        have ecA : cA = (tys.getD (t - 20) (0, .int)).1 := hsame _ _ (eK.2 tys.length (cA, ty) (by simp)).2 (hC.1.2 (t - 20) _ (am_tyat hty htt)).2
        subst ecA
        have eW : am_w tys (aw ++ [(qn, pn)]) b t0 (am_set S.1 pn (fun _ => 0), S.2.1, S.2.2.1 + 1, S.2.2.2 + n.toNatClampNeg) = am_w tys aw b t0 S ++ [(qn, .inl ((tys.getD (t - 20) (0, .int)).1, n.toNatClampNeg, .inl (fun _ => 0)))] := by
          refine am_w_gr (S' := (am_set S.1 pn (fun _ => 0), S.2.1, S.2.2.1 + 1, S.2.2.2 + n.toNatClampNeg)) hw hL hpn (fun p' hp => am_setne hp) (fun p' hp => rfl) ?_
          rw [am_c_ai (by omega) (by omega), htp, hnp]
          show Sum.inl (_, _, Sum.inl (am_set S.1 pn (fun _ => 0) pn)) = _
          rw [am_set_eq]
        have k' := k [(qn, pn)] H1 locs lsC ⟨by rw [eW]; exact e1, by rw [eW]; exact e2, e3, am_wf_gr hw hL hpn (fun p' hp => am_setne hp) (fun p' hp => rfl) (fun hz => absurd (by omega) hz), hl.gr hw.1 hL, am_vc (Or.inr (Or.inr (Or.inr ⟨aw.length, qn, by simp⟩))) (fun w hw => am_vd_gr (hv w (List.mem_cons_of_mem _ hw)))⟩
        rw [List.map_cons, am_st_gr hw.1 hL (fun w hw => hv w (List.mem_cons_of_mem _ hw)), am_vr (i := aw.length) (q := qn) hpn (by simp)] at k'
        refine W.cs ?_ ?_ k'
        · show S.2.2.1 - n0 + 1 = S.2.2.1 + 1 - n0; omega
        · show S.2.2.2 - s0 + n.toNatClampNeg = S.2.2.2 + n.toNatClampNeg - s0; omega
    · exact absurd h (by simp)
  split at hk
  · rename_i wi
    simp only [Bool.and_eq_true, decide_eq_true_eq, beq_iff_eq] at hk
    obtain ⟨⟨h1, h3⟩, h2⟩ := hk
    exact key 20 .int .int rfl (by decide) rfl (fun cA n => rfl) (by decide) (hts _ (am_wdm h2) rfl) h1 h3 (fun cA cB e1 e2 => Option.some.inj (e1.symm.trans e2)) rfl
  · rename_i wi
    simp only [Bool.and_eq_true, decide_eq_true_eq, beq_iff_eq] at hk
    obtain ⟨⟨h1, h3⟩, h2⟩ := hk
    exact key 21 .boolean .boolean rfl (by decide) rfl (fun cA n => rfl) (by decide) (hts _ (am_wdm h2) rfl) h1 h3 (fun cA cB e1 e2 => Option.some.inj (e1.symm.trans e2)) rfl
  · exact absurd hk (by decide)
theorem am_s30 (hF : am_F p s m args meth c R d D tys b t0 L xs A) (hk : am_ok d pc (30, q, v, ys) = true) (h : am_o30 (30, q, v, ys) ls st S = some (pc', ls', st', S')) (hn : n0 ≤ S.2.2.1 ∧ s0 ≤ S.2.2.2) (hroom : S'.2.2.1 ≤ n0 + R.cells ∧ S'.2.2.2 ≤ s0 + R.slots) (k : ∀ z, am_W p l e R s m args below meth c Q d D tys b t0 L xs A n0 s0 (aw ++ z) pc' ls' st' S') : am_W p l e R s m args below meth c Q d D tys b t0 L xs A n0 s0 aw pc ls st S := by
  obtain ⟨hx, hb, hml, hown, hts, hnm, hC, hty, hA, hbA, hbl, hL, hR1, hR2⟩ := hF
  simp only [am_ok] at hk
  split at hk
  · rename_i t ix wi
    simp only [Bool.and_eq_true, decide_eq_true_eq, beq_iff_eq] at hk
    obtain ⟨⟨⟨⟨h1, rfl⟩, ht1⟩, ht2⟩, h2⟩ := hk
    obtain ⟨t1, t2, t3, t4⟩ := am_elt ht1 ht2
    simp only [am_o30, List.headD_cons] at h
    split at h
    · rename_i n st1
      split at h
      · exact absurd h (by simp)
      · rename_i hc
        cases h
        intro H locs lsC hE
        obtain ⟨hP, hD, hS, hw, hl, hv⟩ := hE
        have hN : n.toNatClampNeg < 16384 := by omega
        have htp : am_t (am_pk S.2.2.1 n.toNatClampNeg t) = t := am_t_pk (by omega)
        have hnp : am_n (am_pk S.2.2.1 n.toNatClampNeg t) = n.toNatClampNeg := am_n_pk hN (by omega)
        have hpn : am_i (am_pk S.2.2.1 n.toNatClampNeg t) = aw.length + 2 := by rw [am_i_pk hN (by omega), hw.2.1]
        have hr1 : S.2.2.1 + 1 ≤ n0 + R.cells := hroom.1
        have hr2 : S.2.2.2 + n.toNatClampNeg ≤ s0 + R.slots := hroom.2
        generalize hpe : am_pk S.2.2.1 n.toNatClampNeg t = pn at *
        rw [List.map_cons]
        refine va_newq hx hb hown (hts _ (am_wdm h2) rfl) (hC.2.2.2.2.2 _ t4) hC.1 hP hD hS hA (fun z => hc (Or.inl z)) rfl (by omega) (by omega) (by omega) h1 (fun qn cA H1 eK e1 e2 e3 => ?_)
        have ecA : cA = (tys.getD (t - 20) (0, .int)).1 := by
          obtain ⟨_, _, _, _, _, a1⟩ := (eK.2 tys.length (cA, .object (am_cn (am_el t))) (by simp)).2
          obtain ⟨_, _, _, _, _, a2⟩ := (hC.1.2 (t - 20) _ (am_tyat hty t1)).2
          exact Option.some.inj (a1.symm.trans a2)
        subst ecA
        have eW : am_w tys (aw ++ [(qn, pn)]) b t0 (S.1, am_set S.2.1 pn (fun _ => 0), S.2.2.1 + 1, S.2.2.2 + n.toNatClampNeg) = am_w tys aw b t0 S ++ [(qn, .inl ((tys.getD (t - 20) (0, .int)).1, n.toNatClampNeg, .inr (.inr (.inr (.inr (fun _ => none))))))] := by
          refine am_w_gr (S' := (S.1, am_set S.2.1 pn (fun _ => 0), S.2.2.1 + 1, S.2.2.2 + n.toNatClampNeg)) hw hL hpn (fun p' hp => rfl) (fun p' hp => am_setne hp) ?_
          rw [am_c_ap (by omega), htp, hnp]
          show Sum.inl (_, _, Sum.inr (Sum.inr (Sum.inr (Sum.inr (fun j => am_ad _ b t0 (am_set S.2.1 pn (fun _ => 0) pn j)))))) = _
          rw [am_set_eq]; rfl
        have k' := k [(qn, pn)] H1 locs lsC ⟨by rw [eW]; exact e1, by rw [eW]; exact e2, e3, am_wf_gr hw hL hpn (fun p' hp => rfl) (fun p' hp => am_setne hp) (fun _ j => by rw [am_set_eq]), hl.gr hw.1 hL, am_vc (Or.inr (Or.inr (Or.inr ⟨aw.length, qn, by simp⟩))) (fun w hw => am_vd_gr (hv w (List.mem_cons_of_mem _ hw)))⟩
        rw [List.map_cons, am_st_gr hw.1 hL (fun w hw => hv w (List.mem_cons_of_mem _ hw)), am_vr (i := aw.length) (q := qn) hpn (by simp)] at k'
        refine W.cs ?_ ?_ k'
        · show S.2.2.1 - n0 + 1 = S.2.2.1 + 1 - n0; omega
        · show S.2.2.2 - s0 + n.toNatClampNeg = S.2.2.2 + n.toNatClampNeg - s0; omega
    · exact absurd h (by simp)
  · exact absurd hk (by decide)
theorem am_s31 (hF : am_F p s m args meth c R d D tys b t0 L xs A) (hk : am_ok d pc (31, q, v, ys) = true) (h : am_o31 (31, q, v, ys) ls st S = some (pc', ls', st', S')) (k : am_W p l e R s m args below meth c Q d D tys b t0 L xs A n0 s0 aw pc' ls' st' S') : am_W p l e R s m args below meth c Q d D tys b t0 L xs A n0 s0 aw pc ls st S := by
  obtain ⟨hx, hb, hml, hown, hts, hnm, hC, hty, hA, hbA, hbl, hL, hR1, hR2⟩ := hF
  simp only [am_ok] at hk
  split at hk
  · rename_i ix wi
    simp only [Bool.and_eq_true, decide_eq_true_eq, beq_iff_eq] at hk
    obtain ⟨⟨h1, rfl⟩, h2⟩ := hk
    simp only [am_o31] at h
    split at h
    · rename_i a st1
      split at h
      · rename_i hc
        cases h
        intro H locs lsC hE
        obtain ⟨hP, hD, hS, hw, hl, hv⟩ := hE
        have k' := k H locs lsC ⟨hP, hD, hS, hw, hl, hv⟩
        obtain ⟨i, qa, hi⟩ := am_in2 (hv _ List.mem_cons_self) hL hc.2
        rw [List.map_cons, am_vr (hw.1 _ _ _ hi) hi] at k' ⊢
        have he : (am_w tys aw b t0 S)[i]? = some (qa, .inl ((tys.getD 0 (0, .int)).1, am_n a, .inl (S.1 a))) := by rw [am_wat hi, am_c_ai (by omega) (by omega), hc.1]
        exact va_castA hx hb hown (hts _ (am_wdm h2) rfl) hP i he (am_intc hC hty) h1 k'
      · exact absurd h (by simp)
    · exact absurd h (by simp)
  · exact absurd hk (by decide)
theorem am_s33 (hF : am_F p s m args meth c R d D tys b t0 L xs A) (hk : am_ok d pc (33, q, v, ys) = true) (h : am_o33 (33, q, v, ys) ls st S = some (pc', ls', st', S')) (k : am_W p l e R s m args below meth c Q d D tys b t0 L xs A n0 s0 aw pc' ls' st' S') : am_W p l e R s m args below meth c Q d D tys b t0 L xs A n0 s0 aw pc ls st S := by
  obtain ⟨hx, hb, hml, hown, hts, hnm, hC, hty, hA, hbA, hbl, hL, hR1, hR2⟩ := hF
  simp only [am_ok] at hk
  split at hk
  · rename_i ix wi
    simp only [Bool.and_eq_true, decide_eq_true_eq, beq_iff_eq] at hk
    obtain ⟨⟨h1, rfl⟩, h2⟩ := hk
    simp only [am_o33] at h
    split at h
    · rename_i n dp a sp a0 st1
      split at h
      · rename_i hc
        obtain ⟨k1, k2, k3, k4, k5, k6, k7, k8, k9, k10⟩ := hc
        cases h
        intro H locs lsC hE
        obtain ⟨hP, hD, hS, hw, hl, hv⟩ := hE
        obtain ⟨i, qa, hi⟩ := am_in2 (hv (.inr a) (by simp)) hL k3
        obtain ⟨i2, qb, hi2⟩ := am_in2 (hv (.inr a0) (by simp)) hL k4
        rw [List.map_cons, List.map_cons, List.map_cons, List.map_cons, List.map_cons, am_vr (hw.1 _ _ _ hi) hi, am_vr (hw.1 _ _ _ hi2) hi2]
        have he : (am_w tys aw b t0 S)[i]? = some (qa, .inl ((tys.getD 0 (0, .int)).1, am_n a, .inl (S.1 a))) := by rw [am_wat hi, am_c_ai (by omega) (by omega), k1]
        have he2 : (am_w tys aw b t0 S)[i2]? = some (qb, .inl ((tys.getD 0 (0, .int)).1, am_n a0, .inl (S.1 a0))) := by rw [am_wat hi2, am_c_ai (by omega) (by omega), k2]
        refine va_copyi hx hb (hml.trans hl.1.symm) hown (hts _ (am_wdm h2) rfl) (hts _ am_q_acn rfl) (hts _ am_q_acs rfl) (hts _ am_q_acu rfl) hC.1 hP hD hS i2 i 0 0 he2 he (am_tyat hty rfl) (am_tyat hty rfl) rfl k5 k6 k7 k8 k9 (fun _ _ => rfl) hR1 ?_ h1 (fun H1 locs1 e1 e2 e3 => ?_)
        · rw [am_cats]
          have : nativeFrameWords "java/lang/System" "arraycopy" 5 ≤ 40 := by decide
          omega
        · have eW : am_w tys aw b t0 (am_set S.1 a (va_cpy (S.1 a0) (S.1 a) sp.toNatClampNeg dp.toNatClampNeg n.toNatClampNeg), S.2) = (am_w tys aw b t0 S).set i (qa, .inl ((tys.getD 0 (0, .int)).1, am_n a, .inl (va_cpy (S.1 a0) (S.1 a) sp.toNatClampNeg dp.toNatClampNeg n.toNatClampNeg))) := by
            refine am_w_set (S := S) (S' := (am_set S.1 a (va_cpy (S.1 a0) (S.1 a) sp.toNatClampNeg dp.toNatClampNeg n.toNatClampNeg), S.2)) hw.1 hi (fun p' hp j => ⟨am_set_ne hp, rfl⟩) ?_
            rw [am_c_ai (by omega) (by omega), k1]
            show Sum.inl (_, _, Sum.inl (am_set S.1 a _ a)) = _
            rw [am_set_eq]
          exact k H1 locs1 lsC ⟨by rw [eW]; exact e1, by rw [eW]; exact e2, e3, am_wf_I hw hL hi (fun p' hp j => am_set_ne hp), hl, fun w hw => hv w (by simp [hw])⟩
      · exact absurd h (by simp)
    · exact absurd h (by simp)
  · exact absurd hk (by decide)
theorem am_s34 (hF : am_F p s m args meth c R d D tys b t0 L xs A) (hk : am_ok d pc (34, q, v, ys) = true) (h : am_o34 (34, q, v, ys) ls st S = some (pc', ls', st', S')) (hn : n0 ≤ S.2.2.1 ∧ s0 ≤ S.2.2.2) (hroom : S'.2.2.1 ≤ n0 + R.cells ∧ S'.2.2.2 ≤ s0 + R.slots) (k : ∀ z, am_W p l e R s m args below meth c Q d D tys b t0 L xs A n0 s0 (aw ++ z) pc' ls' st' S') : am_W p l e R s m args below meth c Q d D tys b t0 L xs A n0 s0 aw pc ls st S := by
  obtain ⟨hx, hb, hml, hown, hts, hnm, hC, hty, hA, hbA, hbl, hL, hR1, hR2⟩ := hF
  simp only [am_ok] at hk
  split at hk
  · rename_i ix wi
    simp only [Bool.and_eq_true, decide_eq_true_eq, beq_iff_eq] at hk
    obtain ⟨⟨h1, rfl⟩, h2⟩ := hk
    simp only [am_o34] at h
    split at h
    · rename_i a st1
      split at h
      · rename_i hc
        obtain ⟨k1, k2, k3⟩ := hc
        cases h
        intro H locs lsC hE
        obtain ⟨hP, hD, hS, hw, hl, hv⟩ := hE
        obtain ⟨i, qa, hi⟩ := am_in2 (hv _ List.mem_cons_self) hL k2
        have hN : am_n a < 16384 := by unfold am_n; omega
        have htp : am_t (am_pk S.2.2.1 (am_n a) 20) = 20 := am_t_pk (by omega)
        have hnp : am_n (am_pk S.2.2.1 (am_n a) 20) = am_n a := am_n_pk hN (by omega)
        have hpn : am_i (am_pk S.2.2.1 (am_n a) 20) = aw.length + 2 := by rw [am_i_pk hN (by omega), hw.2.1]
        have hr1 : S.2.2.1 + 1 ≤ n0 + R.cells := hroom.1
        have hr2 : S.2.2.2 + am_n a ≤ s0 + R.slots := hroom.2
        generalize hpe : am_pk S.2.2.1 (am_n a) 20 = pn at *
        rw [List.map_cons, am_vr (hw.1 _ _ _ hi) hi]
        have he : (am_w tys aw b t0 S)[i]? = some (qa, .inl ((tys.getD 0 (0, .int)).1, am_n a, .inl (S.1 a))) := by rw [am_wat hi, am_c_ai (by omega) (by omega), k1]
        refine va_clone hx hb (hml.trans hl.1.symm) hown (hts _ (am_wdm h2) rfl) (hts _ am_q_cls rfl) (hts _ am_q_cln rfl) (hts _ am_q_cli rfl) (hts _ am_q_clx rfl) (hC.2.2.2.2.1 _ am_q_clc rfl) hC.1 hP hD hS hA i 0 he (am_tyat hty rfl) (am_intc hC hty) ?_ hR1 (by rw [am_cats]; omega) (by omega) (by show S.2.2.2 - s0 + am_n a ≤ _; omega) h1 (fun qn H1 eK e1 e2 e3 => ?_)
        · intro j w hj
          have hj : (arrV (tys.getD 0 (0, .int)).1 (am_n a) (fun j => .int (S.1 a j))).slots[j]? = some w := hj
          have hlt : j < am_n a := by
            have := (Array.getElem?_eq_some_iff.mp hj).1
            rwa [arrV_size] at this
          rw [arrV_read _ _ hlt] at hj
          cases hj; rfl
        have eW : am_w tys (aw ++ [(qn, pn)]) b t0 (am_set S.1 pn (S.1 a), S.2.1, S.2.2.1 + 1, S.2.2.2 + am_n a) = am_w tys aw b t0 S ++ [(qn, .inl ((tys.getD 0 (0, .int)).1, am_n a, .inl (S.1 a)))] := by
          refine am_w_gr (S' := (am_set S.1 pn (S.1 a), S.2.1, S.2.2.1 + 1, S.2.2.2 + am_n a)) hw hL hpn (fun p' hp => am_setne hp) (fun p' hp => rfl) ?_
          rw [am_c_ai (by omega) (by omega), htp, hnp]
          show Sum.inl (_, _, Sum.inl (am_set S.1 pn (S.1 a) pn)) = _
          rw [am_set_eq]
        have k' := k [(qn, pn)] H1 locs lsC ⟨by rw [eW]; exact e1, by rw [eW]; exact e2, e3, am_wf_gr hw hL hpn (fun p' hp => am_setne hp) (fun p' hp => rfl) (fun hz => absurd (by omega) hz), hl.gr hw.1 hL, am_vc (Or.inr (Or.inr (Or.inr ⟨aw.length, qn, by simp⟩))) (fun w hw => am_vd_gr (hv w (List.mem_cons_of_mem _ hw)))⟩
        rw [List.map_cons, am_st_gr hw.1 hL (fun w hw => hv w (List.mem_cons_of_mem _ hw)), am_vr (i := aw.length) (q := qn) hpn (by simp)] at k'
        refine W.cs ?_ ?_ k'
        · show S.2.2.1 - n0 + 1 = S.2.2.1 + 1 - n0; omega
        · show S.2.2.2 - s0 + am_n a = S.2.2.2 + am_n a - s0; omega
      · exact absurd h (by simp)
    · exact absurd h (by simp)
  · exact absurd hk (by decide)
theorem am_s35 (hF : am_F p s m args meth c R d D tys b t0 L xs A) (hk : am_ok d pc (35, q, v, ys) = true) (h : am_o35 (35, q, v, ys) ls st S = some (pc', ls', st', S')) (k : am_W p l e R s m args below meth c Q d D tys b t0 L xs A n0 s0 aw pc' ls' st' S') : am_W p l e R s m args below meth c Q d D tys b t0 L xs A n0 s0 aw pc ls st S := by
  obtain ⟨hx, hb, hml, hown, hts, hnm, hC, hty, hA, hbA, hbl, hL, hR1, hR2⟩ := hF
  simp only [am_ok] at hk
  split at hk
  · rename_i ix wi
    simp only [Bool.and_eq_true, decide_eq_true_eq, beq_iff_eq] at hk
    obtain ⟨⟨h1, rfl⟩, h2⟩ := hk
    simp only [am_o35] at h
    split at h
    · rename_i a st1
      split at h
      · rename_i hc
        cases h
        intro H locs lsC hE
        obtain ⟨hP, hD, hS, hw, hl, hv⟩ := hE
        have k' := k H locs lsC ⟨hP, hD, hS, hw, hl, fun w hw => hv w (List.mem_cons_of_mem _ hw)⟩
        obtain ⟨y, hy⟩ := am_ref (b := b) (t0 := t0) hw.1 hL (hv _ List.mem_cons_self) hc.1
        rw [List.map_cons, hy]
        exact W.objInit hx hb hown (hts _ (am_wdm h2) rfl) (hts _ am_q_oii rfl) (hts _ am_q_oic rfl) rfl (by rw [hml]; exact hl.1) rfl h1 hR1 (by show 2 * 0 + _ + 12 ≤ _; rw [am_cats]; omega) k'
      · exact absurd h (by simp)
    · exact absurd h (by simp)
  · exact absurd hk (by decide)
end AmOps5
