/-! arrays -/
theorem am_c_ai {tys : List (ClassId × FieldType)} {aw : List (Nat × Nat)} {b t0 : Nat} {S : am_S} {a : Nat} (h : 20 ≤ am_t a) (h2 : am_t a < 22) : am_c tys aw b t0 S a = .inl ((tys.getD (am_t a - 20) (0, .int)).1, am_n a, .inl (S.1 a)) := by
  unfold am_c
  rw [if_neg (by omega), if_pos h]
theorem am_c_ap {tys : List (ClassId × FieldType)} {aw : List (Nat × Nat)} {b t0 : Nat} {S : am_S} {a : Nat} (h : 22 ≤ am_t a) : am_c tys aw b t0 S a = .inl ((tys.getD (am_t a - 20) (0, .int)).1, am_n a, .inr (.inr (.inr (.inr (fun k => am_ad aw b t0 (S.2.1 a k)))))) := by
  unfold am_c
  rw [if_pos h]
theorem am_tyat {tys : List (ClassId × FieldType)} (h : tys.map (fun q => q.2) = am_tys) {k : Nat} {ty : FieldType} (hk : am_tys[k]? = some ty) : tys[k]? = some ((tys.getD k (0, .int)).1, ty) := by
  have h1 : (tys.map (fun q => q.2))[k]? = some ty := by rw [h]; exact hk
  rw [List.getElem?_map] at h1
  cases hq : tys[k]? with
  | none => rw [hq] at h1; cases h1
  | some q =>
    rw [hq] at h1
    have h2 : q.2 = ty := Option.some.inj h1
    rw [List.getD_eq_getElem?_getD, hq]
    show some q = some (q.1, ty)
    rw [← h2]
theorem am_elt {t : Nat} (h : 22 ≤ t) (h2 : t < 26) : am_tys[t - 20]? = some (.object (am_cn (am_el t))) ∧ 1 ≤ am_el t ∧ am_el t ≤ 13 ∧ am_cn (am_el t) ∈ am_ao := by
  rcases (show t = 22 ∨ t = 23 ∨ t = 24 ∨ t = 25 by omega) with rfl | rfl | rfl | rfl
  · exact ⟨rfl, by decide, by decide, by decide⟩
  · exact ⟨rfl, by decide, by decide, by decide⟩
  · exact ⟨rfl, by decide, by decide, by decide⟩
  · exact ⟨rfl, by decide, by decide, by decide⟩
theorem am_upd {I : am_M} {a k : Nat} {v : Int32} : am_up I a k v a = upd (I a) k v := by
  funext j
  unfold am_up upd
  by_cases h : j = k
  · rw [if_pos ⟨rfl, h⟩, if_pos h]
  · rw [if_neg (fun z => h z.2), if_neg h]
theorem am_set_ne {α : Type} {f : Nat → Nat → α} {a p j : Nat} {g : Nat → α} (h : ¬ p = a) : am_set f a g p j = f p j := by unfold am_set; rw [if_neg h]
theorem am_set_eq {α : Type} {f : Nat → Nat → α} {a : Nat} {g : Nat → α} : am_set f a g a = g := by funext j; unfold am_set; rw [if_pos rfl]
section AmOps4
variable {p : Program} {l : Launch} {e : Env} {R : Room} {s : State} {m : MethodId} {args : Array Value} {below : List Frame} {meth : Method} {c : Code} {Q : State → Prop} {d : am_D} {D : va_G} {tys : List (ClassId × FieldType)} {b t0 L : Nat} {xs : Nat → Int32} {A : Nat → Prop} {n0 s0 : Nat} {aw : List (Nat × Nat)} {pc pc' q : Nat} {ls ls' : List (Option am_V)} {st st' : List am_V} {S S' : am_S} {v : Int} {ys : List Nat}
theorem am_s21 (hF : am_F p s m args meth c R d D tys b t0 L xs A) (hk : am_ok d pc (21, q, v, ys) = true) (h : am_o21 (21, q, v, ys) ls st S = some (pc', ls', st', S')) (k : am_W p l e R s m args below meth c Q d D tys b t0 L xs A n0 s0 aw pc' ls' st' S') : am_W p l e R s m args below meth c Q d D tys b t0 L xs A n0 s0 aw pc ls st S := by
  obtain ⟨hx, hb, hml, hown, hts, hnm, hC, hty, hA, hbA, hbl, hL, hR1, hR2⟩ := hF
  simp only [am_ok, Bool.and_eq_true, beq_iff_eq, decide_eq_true_eq] at hk
  obtain ⟨hk, rfl⟩ := hk
  simp only [am_o21] at h
  split at h
  · rename_i j a st1
    split at h
    · rename_i hc
      cases h
      intro H locs lsC hE
      obtain ⟨hP, hD, hS, hw, hl, hv⟩ := hE
      have k' := k H locs lsC ⟨hP, hD, hS, hw, hl, am_vc trivial (fun w hw => hv w (List.mem_cons_of_mem _ (List.mem_cons_of_mem _ hw)))⟩
      have hva := hv _ (List.mem_cons_of_mem _ List.mem_cons_self)
      have hj : j.toNatClampNeg < am_n a := Nat.not_le.mp fun z => hc.2 (Or.inr z)
      rw [List.map_cons, List.map_cons]
      rcases hva with rfl | rfl | rfl | ⟨i, qa, hi⟩
      · exact absurd hc.1 (by decide)
      · have e0 : am_v aw b t0 (.inr (am_sp L)) = .ref b := by
          show va_rf (am_ad aw b t0 (am_sp L)) = _
          unfold am_ad
          rw [if_neg (fun z => absurd (am_spt L) (by rw [z]; decide)), am_spi hL]; rfl
        have en : am_n (am_sp L) = L := am_n_pk hL (by decide)
        rw [e0]
        rw [en] at hj
        rw [List.map_cons, show S.1 (am_sp L) j.toNatClampNeg = xs j.toNatClampNeg from hw.2.2.2.1 _ hj] at k'
        exact va_sld hx hb hC.2.1 hbl hbA hS (by unfold vp_in; rw [← en]; exact hc.2) hk k'
      · have e0 : am_v aw b t0 (.inr am_ap) = .ref t0 := by
          show va_rf (am_ad aw b t0 am_ap) = _
          unfold am_ad
          rw [if_neg (by decide), am_api]; rfl
        rw [e0]
        have en : am_n am_ap = 6 := am_n_pk (by decide) (by decide)
        rw [en] at hj
        rw [List.map_cons, show S.1 am_ap j.toNatClampNeg = am_ab.getD j.toNatClampNeg 0 from hw.2.2.2.2 _ hj] at k'
        exact va_ti hx hb hC.2.2.2.1 hS (by unfold vp_in; rw [← en]; exact hc.2) rfl hk k'
      · rw [am_vr (hw.1 _ _ _ hi) hi]
        have he : (am_w tys aw b t0 S)[i]? = some (qa, .inl ((tys.getD 0 (0, .int)).1, am_n a, .inl (S.1 a))) := by rw [am_wat hi, am_c_ai (by omega) (by omega), hc.1]
        exact va_iald hx hb hC.1 hP i 0 he (am_tyat hty rfl) hc.2 hk k'
    · exact absurd h (by simp)
  · exact absurd h (by simp)
theorem am_s22 (hF : am_F p s m args meth c R d D tys b t0 L xs A) (hk : am_ok d pc (22, q, v, ys) = true) (h : am_o22 (22, q, v, ys) ls st S = some (pc', ls', st', S')) (k : am_W p l e R s m args below meth c Q d D tys b t0 L xs A n0 s0 aw pc' ls' st' S') : am_W p l e R s m args below meth c Q d D tys b t0 L xs A n0 s0 aw pc ls st S := by
  obtain ⟨hx, hb, hml, hown, hts, hnm, hC, hty, hA, hbA, hbl, hL, hR1, hR2⟩ := hF
  simp only [am_ok, Bool.and_eq_true, beq_iff_eq, decide_eq_true_eq] at hk
  obtain ⟨hk, rfl⟩ := hk
  simp only [am_o22] at h
  split at h
  · rename_i y j a st1
    split at h
    · rename_i hc
      cases h
      intro H locs lsC hE
      obtain ⟨hP, hD, hS, hw, hl, hv⟩ := hE
      obtain ⟨i, qa, hi⟩ := am_in2 (hv _ (List.mem_cons_of_mem _ (List.mem_cons_of_mem _ List.mem_cons_self))) hL hc.2.1
      rw [List.map_cons, List.map_cons, List.map_cons, am_vr (hw.1 _ _ _ hi) hi]
      have he : (am_w tys aw b t0 S)[i]? = some (qa, .inl ((tys.getD 0 (0, .int)).1, am_n a, .inl (S.1 a))) := by rw [am_wat hi, am_c_ai (by omega) (by omega), hc.1]
      refine va_iast hx hb hC.1 hP hD hS i 0 he (am_tyat hty rfl) hc.2.2 hk (fun H1 locs1 e1 e2 e3 => ?_)
      have eW : am_w tys aw b t0 (am_up S.1 a j.toNatClampNeg y, S.2) = (am_w tys aw b t0 S).set i (qa, .inl ((tys.getD 0 (0, .int)).1, am_n a, .inl (upd (S.1 a) j.toNatClampNeg y))) := by
        refine am_w_set (S := S) (S' := (am_up S.1 a j.toNatClampNeg y, S.2)) hw.1 hi (fun p' hp j => ⟨am_up_ne hp, rfl⟩) ?_
        rw [am_c_ai (by omega) (by omega), hc.1, ← am_upd]
      exact k H1 locs1 lsC ⟨by rw [eW]; exact e1, by rw [eW]; exact e2, e3, am_wf_I hw hL hi (fun p' hp j => am_up_ne hp), hl, fun w hw => hv w (List.mem_cons_of_mem _ (List.mem_cons_of_mem _ (List.mem_cons_of_mem _ hw)))⟩
    · exact absurd h (by simp)
  · exact absurd h (by simp)
theorem am_s23 (hF : am_F p s m args meth c R d D tys b t0 L xs A) (hk : am_ok d pc (23, q, v, ys) = true) (h : am_o23 (23, q, v, ys) ls st S = some (pc', ls', st', S')) (k : am_W p l e R s m args below meth c Q d D tys b t0 L xs A n0 s0 aw pc' ls' st' S') : am_W p l e R s m args below meth c Q d D tys b t0 L xs A n0 s0 aw pc ls st S := by
  obtain ⟨hx, hb, hml, hown, hts, hnm, hC, hty, hA, hbA, hbl, hL, hR1, hR2⟩ := hF
  simp only [am_ok, Bool.and_eq_true, beq_iff_eq, decide_eq_true_eq] at hk
  obtain ⟨hk, rfl⟩ := hk
  simp only [am_o23] at h
  split at h
  · rename_i j a st1
    split at h
    · rename_i hc
      cases h
      intro H locs lsC hE
      obtain ⟨hP, hD, hS, hw, hl, hv⟩ := hE
      have k' := k H locs lsC ⟨hP, hD, hS, hw, hl, am_vc trivial (fun w hw => hv w (List.mem_cons_of_mem _ (List.mem_cons_of_mem _ hw)))⟩
      obtain ⟨i, qa, hi⟩ := am_in (hv _ (List.mem_cons_of_mem _ List.mem_cons_self)) (by omega) (by omega)
      rw [List.map_cons, List.map_cons, am_vr (hw.1 _ _ _ hi) hi]
      have he : (am_w tys aw b t0 S)[i]? = some (qa, .inl ((tys.getD 1 (0, .int)).1, am_n a, .inl (S.1 a))) := by rw [am_wat hi, am_c_ai (by omega) (by omega), hc.1]
      exact va_zald hx hb hC.1 hP i 1 he (am_tyat hty rfl) hc.2 hk k'
    · exact absurd h (by simp)
  · exact absurd h (by simp)
theorem am_s24 (hF : am_F p s m args meth c R d D tys b t0 L xs A) (hk : am_ok d pc (24, q, v, ys) = true) (h : am_o24 (24, q, v, ys) ls st S = some (pc', ls', st', S')) (k : am_W p l e R s m args below meth c Q d D tys b t0 L xs A n0 s0 aw pc' ls' st' S') : am_W p l e R s m args below meth c Q d D tys b t0 L xs A n0 s0 aw pc ls st S := by
  obtain ⟨hx, hb, hml, hown, hts, hnm, hC, hty, hA, hbA, hbl, hL, hR1, hR2⟩ := hF
  simp only [am_ok, Bool.and_eq_true, beq_iff_eq, decide_eq_true_eq] at hk
  obtain ⟨hk, rfl⟩ := hk
  simp only [am_o24] at h
  split at h
  · rename_i y j a st1
    split at h
    · rename_i hc
      cases h
      intro H locs lsC hE
      obtain ⟨hP, hD, hS, hw, hl, hv⟩ := hE
      obtain ⟨i, qa, hi⟩ := am_in (hv _ (List.mem_cons_of_mem _ (List.mem_cons_of_mem _ List.mem_cons_self))) (by omega) (by omega)
      rw [List.map_cons, List.map_cons, List.map_cons, am_vr (hw.1 _ _ _ hi) hi]
      have he : (am_w tys aw b t0 S)[i]? = some (qa, .inl ((tys.getD 1 (0, .int)).1, am_n a, .inl (S.1 a))) := by rw [am_wat hi, am_c_ai (by omega) (by omega), hc.1]
      refine va_zast hx hb hC.1 hP hD hS i 1 he (am_tyat hty rfl) hc.2.2 hk (fun H1 locs1 e1 e2 e3 => ?_)
      have en : vp_nar .boolean y = y := by rcases hc.2.1 with rfl | rfl <;> decide
      rw [en] at e1 e2
      have eW : am_w tys aw b t0 (am_up S.1 a j.toNatClampNeg y, S.2) = (am_w tys aw b t0 S).set i (qa, .inl ((tys.getD 1 (0, .int)).1, am_n a, .inl (upd (S.1 a) j.toNatClampNeg y))) := by
        refine am_w_set (S := S) (S' := (am_up S.1 a j.toNatClampNeg y, S.2)) hw.1 hi (fun p' hp j => ⟨am_up_ne hp, rfl⟩) ?_
        rw [am_c_ai (by omega) (by omega), hc.1, ← am_upd]
      exact k H1 locs1 lsC ⟨by rw [eW]; exact e1, by rw [eW]; exact e2, e3, am_wf_I hw hL hi (fun p' hp j => am_up_ne hp), hl, fun w hw => hv w (List.mem_cons_of_mem _ (List.mem_cons_of_mem _ (List.mem_cons_of_mem _ hw)))⟩
    · exact absurd h (by simp)
  · exact absurd h (by simp)
theorem am_s25 (hF : am_F p s m args meth c R d D tys b t0 L xs A) (hk : am_ok d pc (25, q, v, ys) = true) (h : am_o25 (25, q, v, ys) ls st S = some (pc', ls', st', S')) (k : am_W p l e R s m args below meth c Q d D tys b t0 L xs A n0 s0 aw pc' ls' st' S') : am_W p l e R s m args below meth c Q d D tys b t0 L xs A n0 s0 aw pc ls st S := by
  obtain ⟨hx, hb, hml, hown, hts, hnm, hC, hty, hA, hbA, hbl, hL, hR1, hR2⟩ := hF
  simp only [am_ok, Bool.and_eq_true, beq_iff_eq, decide_eq_true_eq] at hk
  obtain ⟨hk, rfl⟩ := hk
  simp only [am_o25] at h
  split at h
  · rename_i j a st1
    split at h
    · rename_i hc
      cases h
      intro H locs lsC hE
      obtain ⟨hP, hD, hS, hw, hl, hv⟩ := hE
      obtain ⟨i, qa, hi⟩ := am_in (hv _ (List.mem_cons_of_mem _ List.mem_cons_self)) (by omega) (by omega)
      have k' := k H locs lsC ⟨hP, hD, hS, hw, hl, am_vc (hw.2.2.1 _ _ _ hi (by omega) _) (fun w hw => hv w (List.mem_cons_of_mem _ (List.mem_cons_of_mem _ hw)))⟩
      rw [List.map_cons, List.map_cons, am_vr (hw.1 _ _ _ hi) hi]
      have he : (am_w tys aw b t0 S)[i]? = some (qa, .inl ((tys.getD (am_t a - 20) (0, .int)).1, am_n a, .inr (.inr (.inr (.inr (fun k => am_ad aw b t0 (S.2.1 a k))))))) := by rw [am_wat hi, am_c_ap hc.1]
      exact va_aldq hx hb hC.1 hP i (am_t a - 20) he (am_tyat hty (am_elt hc.1 hc.2.1).1) hc.2.2 hk k'
    · exact absurd h (by simp)
  · exact absurd h (by simp)
theorem am_s26 (hF : am_F p s m args meth c R d D tys b t0 L xs A) (hk : am_ok d pc (26, q, v, ys) = true) (h : am_o26 (26, q, v, ys) ls st S = some (pc', ls', st', S')) (k : am_W p l e R s m args below meth c Q d D tys b t0 L xs A n0 s0 aw pc' ls' st' S') : am_W p l e R s m args below meth c Q d D tys b t0 L xs A n0 s0 aw pc ls st S := by
  obtain ⟨hx, hb, hml, hown, hts, hnm, hC, hty, hA, hbA, hbl, hL, hR1, hR2⟩ := hF
  simp only [am_ok, Bool.and_eq_true, beq_iff_eq, decide_eq_true_eq] at hk
  obtain ⟨hk, rfl⟩ := hk
  simp only [am_o26] at h
  split at h
  · rename_i y j a st1
    split at h
    · rename_i hc
      cases h
      intro H locs lsC hE
      obtain ⟨hP, hD, hS, hw, hl, hv⟩ := hE
      obtain ⟨t1, t2, t3, t4⟩ := am_elt hc.1 hc.2.1
      obtain ⟨i, qa, hi⟩ := am_in (hv _ (List.mem_cons_of_mem _ (List.mem_cons_of_mem _ List.mem_cons_self))) (by omega) (by omega)
      obtain ⟨i2, qv, hi2⟩ := am_in (hv _ List.mem_cons_self) (by omega) (by omega)
      obtain ⟨C, T, N, ty0, c1, c2, c3, c4, c5, c6, c7, c8⟩ := am_cls t2 t3
      rw [List.map_cons, List.map_cons, List.map_cons, am_vr (hw.1 _ _ _ hi) hi, am_vr (hw.1 _ _ _ hi2) hi2]
      have he : (am_w tys aw b t0 S)[i]? = some (qa, .inl ((tys.getD (am_t a - 20) (0, .int)).1, am_n a, .inr (.inr (.inr (.inr (fun k => am_ad aw b t0 (S.2.1 a k))))))) := by rw [am_wat hi, am_c_ap hc.1]
      have he2 : (am_w tys aw b t0 S)[i2]? = some (qv, .inr (am_el (am_t a) - 1, am_fs aw b t0 S y)) := by rw [am_wat hi2, am_c_ob (by omega), hc.2.2.1]
      refine va_astq (r := (C, T, N)) hx hb hC.1 hP hD hS i (am_t a - 20) i2 (am_el (am_t a) - 1) he (by rw [← c3]; exact am_tyat hty t1) he2 c1 hc.2.2.2 hk (fun H1 locs1 e1 e2 e3 => ?_)
      have eW : am_w tys aw b t0 (S.1, am_up S.2.1 a j.toNatClampNeg y, S.2.2) = (am_w tys aw b t0 S).set i (qa, .inl ((tys.getD (am_t a - 20) (0, .int)).1, am_n a, .inr (.inr (.inr (.inr (va_up (fun k => am_ad aw b t0 (S.2.1 a k)) j.toNatClampNeg (some qv))))))) := by
        refine am_w_set (S := S) (S' := (S.1, am_up S.2.1 a j.toNatClampNeg y, S.2.2)) hw.1 hi (fun p' hp j => ⟨rfl, am_up_ne hp⟩) ?_
        rw [am_c_ap hc.1]
        congr 7
        funext z
        unfold va_up
        by_cases ez : z = j.toNatClampNeg
        · subst ez
          rw [if_pos rfl]
          show am_ad aw b t0 (am_up S.2.1 a _ y a _) = _
          rw [am_up_eq]; exact am_adr (hw.1 _ _ _ hi2) hi2
        · rw [if_neg ez]
          show am_ad aw b t0 (am_up S.2.1 a _ y a z) = _
          rw [am_up_nk ez]
      exact k H1 locs1 lsC ⟨by rw [eW]; exact e1, by rw [eW]; exact e2, e3, am_wf_P hw hi (hv _ List.mem_cons_self), hl, fun w hw => hv w (List.mem_cons_of_mem _ (List.mem_cons_of_mem _ (List.mem_cons_of_mem _ hw)))⟩
    · exact absurd h (by simp)
  · exact absurd h (by simp)
theorem am_s27 (hF : am_F p s m args meth c R d D tys b t0 L xs A) (hk : am_ok d pc (27, q, v, ys) = true) (h : am_o27 (27, q, v, ys) ls st S = some (pc', ls', st', S')) (k : am_W p l e R s m args below meth c Q d D tys b t0 L xs A n0 s0 aw pc' ls' st' S') : am_W p l e R s m args below meth c Q d D tys b t0 L xs A n0 s0 aw pc ls st S := by
  obtain ⟨hx, hb, hml, hown, hts, hnm, hC, hty, hA, hbA, hbl, hL, hR1, hR2⟩ := hF
  simp only [am_ok, Bool.and_eq_true, beq_iff_eq, decide_eq_true_eq] at hk
  obtain ⟨hk, rfl⟩ := hk
  simp only [am_o27] at h
  split at h
  · rename_i a st1
    split at h
    · rename_i hc
      cases h
      intro H locs lsC hE
      obtain ⟨hP, hD, hS, hw, hl, hv⟩ := hE
      have k' := k H locs lsC ⟨hP, hD, hS, hw, hl, am_vc trivial (fun w hw => hv w (List.mem_cons_of_mem _ hw))⟩
      have hva := hv _ List.mem_cons_self
      rw [List.map_cons]
      rcases hva with rfl | rfl | rfl | ⟨i, qa, hi⟩
      · exact absurd hc.1 (by decide)
      · have e0 : am_v aw b t0 (.inr (am_sp L)) = .ref b := by
          show va_rf (am_ad aw b t0 (am_sp L)) = _
          unfold am_ad
          rw [if_neg (fun z => absurd (am_spt L) (by rw [z]; decide)), am_spi hL]; rfl
        have en : am_n (am_sp L) = L := am_n_pk hL (by decide)
        rw [e0]
        rw [List.map_cons, en] at k'
        exact va_slen hx hb hC.2.1 hbl hbA hS hk k'
      · have e0 : am_v aw b t0 (.inr am_ap) = .ref t0 := by
          show va_rf (am_ad aw b t0 am_ap) = _
          unfold am_ad
          rw [if_neg (by decide), am_api]; rfl
        rw [e0]
        have en : am_n am_ap = 6 := am_n_pk (by decide) (by decide)
        rw [List.map_cons, en] at k'
        exact va_tlen hx hb hC.2.2.2.1 hS rfl hk k'
      · rw [am_vr (hw.1 _ _ _ hi) hi]
        by_cases h22 : 22 ≤ am_t a
        · have he : (am_w tys aw b t0 S)[i]? = some (qa, .inl ((tys.getD (am_t a - 20) (0, .int)).1, am_n a, .inr (.inr (.inr (.inr (fun k => am_ad aw b t0 (S.2.1 a k))))))) := by rw [am_wat hi, am_c_ap h22]
          exact va_alen hx hb hC.1 hP i (am_t a - 20) he (am_tyat hty (am_elt h22 hc.2).1) rfl hk k'
        · have he : (am_w tys aw b t0 S)[i]? = some (qa, .inl ((tys.getD (am_t a - 20) (0, .int)).1, am_n a, .inl (S.1 a))) := by rw [am_wat hi, am_c_ai hc.1 (by omega)]
          rcases (show am_t a = 20 ∨ am_t a = 21 by omega) with e20 | e20
          · exact va_alen hx hb hC.1 hP i (am_t a - 20) he (by rw [e20]; exact am_tyat hty rfl) rfl hk k'
          · exact va_alen hx hb hC.1 hP i (am_t a - 20) he (by rw [e20]; exact am_tyat hty rfl) rfl hk k'
    · exact absurd h (by simp)
  · exact absurd h (by simp)
end AmOps4
