/-! fields -/
def am_tk (t k : Nat) (ty : FieldType) : Bool := match ty with
  | .int => !am_isP t k && !am_isZ t k
  | .boolean => !am_isP t k && am_isZ t k
  | .object _ => am_isP t k
  | .array _ => am_isP t k
  | _ => false
theorem am_layg {C : String} {T : u_T} {N : Nat} {ps : List Nat} (h : u_ws C T N = ps.filterMap (fun i => lw_tbl[i]?)) : ∀ w ∈ u_ws C T N, w ∈ lw_tbl ∧ goodWord w = true := by
  intro w hw
  refine ⟨?_, ?_⟩
  · rw [h] at hw
    obtain ⟨i, -, hi⟩ := List.mem_filterMap.mp hw
    exact List.mem_of_getElem? hi
  · obtain ⟨k, -, rfl⟩ := List.mem_map.mp hw
    unfold u_lay
    split <;> rfl
/-- a class of the world: its fields, their types, its words -/
def am_K (t : Nat) (C : String) (T : u_T) (N : Nat) (ty0 : Nat → FieldType) : Prop :=
  vwCl[t - 1]? = some (C, T, N) ∧ am_nf t = N ∧ am_cn t = C ∧ am_fd t = T ∧ (∀ w ∈ u_ws C T N, w ∈ lw_tbl ∧ goodWord w = true) ∧ (∀ k, k < N → parseFieldDescriptor (T k).2.2.1 = some (ty0 k)) ∧ (∀ a, a < N → ∀ b, b < N → a ≠ b → (T a).2.1 ≠ (T b).2.1) ∧ ∀ k, k < N → am_tk t k (ty0 k) = true
theorem am_K1 : am_K 1 RX0 TX0 11 tyX0 := ⟨rfl, rfl, rfl, rfl, am_layg am_lay0, tyX0_ok, nmX0, by decide +kernel⟩
theorem am_K2 : am_K 2 RX1 TX1 3 tyX1 := ⟨rfl, rfl, rfl, rfl, am_layg am_lay1, tyX1_ok, nmX1, by decide +kernel⟩
theorem am_K3 : am_K 3 RX2 TX2 3 tyX2 := ⟨rfl, rfl, rfl, rfl, am_layg am_lay2, tyX2_ok, nmX2, by decide +kernel⟩
theorem am_K4 : am_K 4 RX3 TX3 3 tyX3 := ⟨rfl, rfl, rfl, rfl, am_layg am_lay3, tyX3_ok, nmX3, by decide +kernel⟩
theorem am_K5 : am_K 5 RX4 TX4 5 tyX4 := ⟨rfl, rfl, rfl, rfl, am_layg am_lay4, tyX4_ok, nmX4, by decide +kernel⟩
theorem am_K6 : am_K 6 RX5 TX5 1 tyX5 := ⟨rfl, rfl, rfl, rfl, am_layg am_lay5, tyX5_ok, nmX5, by decide +kernel⟩
theorem am_K7 : am_K 7 RX6 TX6 4 tyX6 := ⟨rfl, rfl, rfl, rfl, am_layg am_lay6, tyX6_ok, nmX6, by decide +kernel⟩
theorem am_K8 : am_K 8 RX7 TX7 10 tyX7 := ⟨rfl, rfl, rfl, rfl, am_layg am_lay7, tyX7_ok, nmX7, by decide +kernel⟩
theorem am_K9 : am_K 9 RX8 TX8 3 tyX8 := ⟨rfl, rfl, rfl, rfl, am_layg am_lay8, tyX8_ok, nmX8, by decide +kernel⟩
theorem am_K10 : am_K 10 RX9 TX9 13 tyX9 := ⟨rfl, rfl, rfl, rfl, am_layg am_lay9, tyX9_ok, nmX9, by decide +kernel⟩
theorem am_K11 : am_K 11 RX10 TX10 16 tyX10 := ⟨rfl, rfl, rfl, rfl, am_layg am_lay10, tyX10_ok, nmX10, by decide +kernel⟩
theorem am_K12 : am_K 12 RX11 TX11 15 tyX11 := ⟨rfl, rfl, rfl, rfl, am_layg am_lay11, tyX11_ok, nmX11, by decide +kernel⟩
theorem am_K13 : am_K 13 RX12 TX12 62 tyX12 := ⟨rfl, rfl, rfl, rfl, am_layg am_lay12, tyX12_ok, nmX12, by decide +kernel⟩
theorem am_cls {t : Nat} (h1 : 1 ≤ t) (h2 : t ≤ 13) : ∃ (C : String) (T : u_T) (N : Nat) (ty0 : Nat → FieldType), am_K t C T N ty0 := by
  rcases (show t = 1 ∨ t = 2 ∨ t = 3 ∨ t = 4 ∨ t = 5 ∨ t = 6 ∨ t = 7 ∨ t = 8 ∨ t = 9 ∨ t = 10 ∨ t = 11 ∨ t = 12 ∨ t = 13 by omega) with rfl | rfl | rfl | rfl | rfl | rfl | rfl | rfl | rfl | rfl | rfl | rfl | rfl
  · exact ⟨_, _, _, _, am_K1⟩
  · exact ⟨_, _, _, _, am_K2⟩
  · exact ⟨_, _, _, _, am_K3⟩
  · exact ⟨_, _, _, _, am_K4⟩
  · exact ⟨_, _, _, _, am_K5⟩
  · exact ⟨_, _, _, _, am_K6⟩
  · exact ⟨_, _, _, _, am_K7⟩
  · exact ⟨_, _, _, _, am_K8⟩
  · exact ⟨_, _, _, _, am_K9⟩
  · exact ⟨_, _, _, _, am_K10⟩
  · exact ⟨_, _, _, _, am_K11⟩
  · exact ⟨_, _, _, _, am_K12⟩
  · exact ⟨_, _, _, _, am_K13⟩
def am_fs (aw : List (Nat × Nat)) (b t0 : Nat) (S : am_S) (a : Nat) : List Value := (List.range (am_nf (am_t a))).map (fun k => if am_isP (am_t a) k then va_rf (am_ad aw b t0 (S.2.1 a k)) else .int (S.1 a k))
theorem am_c_ob {tys : List (ClassId × FieldType)} {aw : List (Nat × Nat)} {b t0 : Nat} {S : am_S} {a : Nat} (h : am_t a < 20) : am_c tys aw b t0 S a = .inr (am_t a - 1, am_fs aw b t0 S a) := by
  unfold am_c
  rw [if_neg (by omega), if_neg (by omega)]; rfl
theorem am_fsk {aw : List (Nat × Nat)} {b t0 : Nat} {S : am_S} {a k : Nat} (h : k < am_nf (am_t a)) : (am_fs aw b t0 S a)[k]? = some (if am_isP (am_t a) k then va_rf (am_ad aw b t0 (S.2.1 a k)) else .int (S.1 a k)) := by
  unfold am_fs
  rw [List.getElem?_map, List.getElem?_range h]; rfl
theorem am_fsl {aw : List (Nat × Nat)} {b t0 : Nat} {S : am_S} {a : Nat} : (am_fs aw b t0 S a).length = am_nf (am_t a) := by
  unfold am_fs
  rw [List.length_map, List.length_range]
/-- one cell is written -/
theorem am_w_set {tys : List (ClassId × FieldType)} {aw : List (Nat × Nat)} {b t0 : Nat} {S S' : am_S} {i qa a : Nat} (hw : ∀ i q p : Nat, aw[i]? = some (q, p) → am_i p = i + 2) (hi : aw[i]? = some (qa, a)) (hs : ∀ p : Nat, ¬ p = a → ∀ k, S'.1 p k = S.1 p k ∧ S'.2.1 p k = S.2.1 p k) {x : va_E} (hx : am_c tys aw b t0 S' a = x) : am_w tys aw b t0 S' = (am_w tys aw b t0 S).set i (qa, x) := by
  apply List.ext_getElem?
  intro j
  rw [List.getElem?_set]
  have hlen : (am_w tys aw b t0 S).length = aw.length := by unfold am_w; rw [List.length_map]
  have hil : i < aw.length := (List.getElem?_eq_some_iff.mp hi).1
  by_cases e : i = j
  · subst e
    rw [if_pos rfl, if_pos (by rw [hlen]; exact hil), am_wat hi, hx]
  · rw [if_neg e]
    cases hj : aw[j]? with
    | none =>
      unfold am_w
      rw [List.getElem?_map, List.getElem?_map, hj]; rfl
    | some z =>
      obtain ⟨q', p'⟩ := z
      rw [am_wat hj, am_wat hj]
      have hne : ¬ p' = a := fun h => by
        subst h
        have := hw _ _ _ hi; have := hw _ _ _ hj; omega
      have e1 : S'.1 p' = S.1 p' := funext fun k => (hs p' hne k).1
      have e2 : S'.2.1 p' = S.2.1 p' := funext fun k => (hs p' hne k).2
      unfold am_c
      rw [e1, e2]
theorem am_up_ne {α : Type} {f : Nat → Nat → α} {a k p j : Nat} {v : α} (h : ¬ p = a) : am_up f a k v p j = f p j := by unfold am_up; rw [if_neg (fun z => h z.1)]
theorem am_up_eq {α : Type} {f : Nat → Nat → α} {a k : Nat} {v : α} : am_up f a k v a k = v := by unfold am_up; rw [if_pos ⟨rfl, rfl⟩]
theorem am_up_nk {α : Type} {f : Nat → Nat → α} {a k p j : Nat} {v : α} (h : ¬ j = k) : am_up f a k v p j = f p j := by unfold am_up; rw [if_neg (fun z => h z.2)]
theorem am_awne {aw : List (Nat × Nat)} {i qa a L : Nat} (hw : ∀ i q p : Nat, aw[i]? = some (q, p) → am_i p = i + 2) (hi : aw[i]? = some (qa, a)) (hL : L < 16384) : ¬ am_sp L = a ∧ ¬ am_ap = a := by
  have h := hw _ _ _ hi
  refine ⟨fun e => ?_, fun e => ?_⟩
  · rw [← e, am_spi hL] at h; omega
  · rw [← e, am_api] at h; omega
theorem am_wf_I {aw : List (Nat × Nat)} {L i qa a : Nat} {xs : Nat → Int32} {S : am_S} {I : am_M} (hw : am_wf aw L xs S) (hL : L < 16384) (hi : aw[i]? = some (qa, a)) (hI : ∀ p : Nat, ¬ p = a → ∀ k, I p k = S.1 p k) : am_wf aw L xs (I, S.2) := by
  obtain ⟨h1, h2, h3, h4, h5⟩ := hw
  obtain ⟨n1, n2⟩ := am_awne h1 hi hL
  exact ⟨h1, h2, h3, fun j hj => (hI _ n1 j).trans (h4 j hj), fun j hj => (hI _ n2 j).trans (h5 j hj)⟩
theorem am_wf_P {aw : List (Nat × Nat)} {L i qa a k : Nat} {v : Nat} {xs : Nat → Int32} {S : am_S} (hw : am_wf aw L xs S) (hi : aw[i]? = some (qa, a)) (hv : am_vd aw L (.inr v)) : am_wf aw L xs (S.1, am_up S.2.1 a k v, S.2.2) := by
  obtain ⟨h1, h2, h3, h4, h5⟩ := hw
  refine ⟨h1, h2, fun i' q' p' hp hn j => ?_, h4, h5⟩
  show am_vd aw L (.inr (am_up S.2.1 a k v p' j))
  unfold am_up
  split
  · exact hv
  · exact h3 i' q' p' hp hn j
section AmOps3
variable {p : Program} {l : Launch} {e : Env} {R : Room} {s : State} {m : MethodId} {args : Array Value} {below : List Frame} {meth : Method} {c : Code} {Q : State → Prop} {d : am_D} {D : va_G} {tys : List (ClassId × FieldType)} {b t0 L : Nat} {xs : Nat → Int32} {A : Nat → Prop} {n0 s0 : Nat} {aw : List (Nat × Nat)} {pc pc' q : Nat} {ls ls' : List (Option am_V)} {st st' : List am_V} {S S' : am_S} {v : Int} {ys : List Nat}
theorem am_s16 (hF : am_F p s m args meth c R d D tys b t0 L xs A) (hk : am_ok d pc (16, q, v, ys) = true) (h : am_o16 (16, q, v, ys) ls st S = some (pc', ls', st', S')) (k : am_W p l e R s m args below meth c Q d D tys b t0 L xs A n0 s0 aw pc' ls' st' S') : am_W p l e R s m args below meth c Q d D tys b t0 L xs A n0 s0 aw pc ls st S := by
  obtain ⟨hx, hb, hml, hown, hts, hnm, hC, hty, hA, hbA, hbl, hL, hR1, hR2⟩ := hF
  simp only [am_ok, Bool.and_eq_true] at hk
  obtain ⟨hk, hkP⟩ := hk
  unfold am_kf at hk
  split at hk
  · rename_i t kf ix wi
    simp only [Bool.and_eq_true, decide_eq_true_eq, beq_iff_eq, am_kP] at hk hkP
    obtain ⟨⟨⟨⟨⟨⟨g1, g2⟩, g3⟩, g4⟩, rfl⟩, g5⟩, g6⟩ := hk
    obtain ⟨C, T, N, ty0, c1, c2, c3, c4, c5, c6, c7, c8⟩ := am_cls g1 g2
    simp only [am_o16, List.headD_cons, List.getD_cons_succ, List.getD_cons_zero] at h
    split at h
    · rename_i a st1
      split at h
      · rename_i ht
        cases h
        intro H locs lsC hE
        obtain ⟨hP, hD, hS, hw, hl, hv⟩ := hE
        obtain ⟨i, qa, hi⟩ := am_in (hv _ List.mem_cons_self) (by omega) (by omega)
        have k' := k H locs lsC ⟨hP, hD, hS, hw, hl, am_vc trivial (fun w hw => hv w (List.mem_cons_of_mem _ hw))⟩
        rw [List.map_cons, am_vr (hw.1 _ _ _ hi) hi]
        have he : (am_w tys aw b t0 S)[i]? = some (qa, .inr (t - 1, am_fs aw b t0 S a)) := by rw [am_wat hi, am_c_ob (by omega), ht]
        rw [c3, c4] at g5
        rw [c3, c4] at g6
        exact va_get (Ts := u_ws C T N) hx hb (fun w hw => hts w (c5 w hw).1 (c5 w hw).2) (fun w hw => hw) hown hC.1 hP i he c1 kf (by rw [← c2]; exact g3) (ref := C) (hts _ (am_wdm g5) rfl) (fun x hx => by rw [g6] at hx; exact hx) (by rw [am_fsk (by rw [ht]; exact g3), ht, hkP]; rfl) g4 k'
      · exact absurd h (by simp)
    · exact absurd h (by simp)
  · exact absurd hk (by decide)
theorem am_s17 (hF : am_F p s m args meth c R d D tys b t0 L xs A) (hk : am_ok d pc (17, q, v, ys) = true) (h : am_o17 (17, q, v, ys) ls st S = some (pc', ls', st', S')) (k : am_W p l e R s m args below meth c Q d D tys b t0 L xs A n0 s0 aw pc' ls' st' S') : am_W p l e R s m args below meth c Q d D tys b t0 L xs A n0 s0 aw pc ls st S := by
  obtain ⟨hx, hb, hml, hown, hts, hnm, hC, hty, hA, hbA, hbl, hL, hR1, hR2⟩ := hF
  simp only [am_ok, Bool.and_eq_true] at hk
  obtain ⟨hk, hkP⟩ := hk
  unfold am_kf at hk
  split at hk
  · rename_i t kf ix wi
    simp only [Bool.and_eq_true, decide_eq_true_eq, beq_iff_eq, am_kP] at hk hkP
    obtain ⟨⟨⟨⟨⟨⟨g1, g2⟩, g3⟩, g4⟩, rfl⟩, g5⟩, g6⟩ := hk
    obtain ⟨C, T, N, ty0, c1, c2, c3, c4, c5, c6, c7, c8⟩ := am_cls g1 g2
    simp only [am_o17, List.headD_cons, List.getD_cons_succ, List.getD_cons_zero] at h
    split at h
    · rename_i a st1
      split at h
      · rename_i ht
        cases h
        intro H locs lsC hE
        obtain ⟨hP, hD, hS, hw, hl, hv⟩ := hE
        obtain ⟨i, qa, hi⟩ := am_in (hv _ List.mem_cons_self) (by omega) (by omega)
        have k' := k H locs lsC ⟨hP, hD, hS, hw, hl, am_vc (hw.2.2.1 _ _ _ hi (by omega) kf) (fun w hw => hv w (List.mem_cons_of_mem _ hw))⟩
        rw [List.map_cons, am_vr (hw.1 _ _ _ hi) hi]
        have he : (am_w tys aw b t0 S)[i]? = some (qa, .inr (t - 1, am_fs aw b t0 S a)) := by rw [am_wat hi, am_c_ob (by omega), ht]
        rw [c3, c4] at g5
        rw [c3, c4] at g6
        exact va_get (Ts := u_ws C T N) hx hb (fun w hw => hts w (c5 w hw).1 (c5 w hw).2) (fun w hw => hw) hown hC.1 hP i he c1 kf (by rw [← c2]; exact g3) (ref := C) (hts _ (am_wdm g5) rfl) (fun x hx => by rw [g6] at hx; exact hx) (by rw [am_fsk (by rw [ht]; exact g3), ht, hkP]; rfl) g4 k'
      · exact absurd h (by simp)
    · exact absurd h (by simp)
  · exact absurd hk (by decide)
/-- a field is written: the row for an open or a final one -/
theorem am_put (hF : am_F p s m args meth c R d D tys b t0 L xs A) {t kf ix wi : Nat} (hk : am_kf d pc q .putfield [t, kf, ix, wi] = true) (hkp : am_kp d [t, kf, ix, wi] = true) {a i qa : Nat} {x : Value} (ht : am_t a = t) (hi : aw[i]? = some (qa, a)) {H : Heap} {locs : List Loc} {lsC : Array Slot} {rest : List Value} {cells slots : Nat} (hw : am_wf aw L xs S) (hP : va_P D vwCl (am_w tys aw b t0 S) H) (hD : va_D A (am_w tys aw b t0 S)) (hS : va_S A s.heap H locs) (hty2 : ∀ ty, am_tk t kf ty = true → narrow ty x = x ∧ fits ty x = true)
    (kk : ∀ (H1 : Heap) (locs1 : List Loc), va_P D vwCl ((am_w tys aw b t0 S).set i (qa, .inr (t - 1, (am_fs aw b t0 S a).set kf x))) H1 → va_D A ((am_w tys aw b t0 S).set i (qa, .inr (t - 1, (am_fs aw b t0 S a).set kf x))) → va_S A s.heap H1 locs1 → W p l e R s m args below meth c H1 locs1 cells slots Q (F0 m q lsC rest)) : W p l e R s m args below meth c H locs cells slots Q (F0 m pc lsC (x :: .ref qa :: rest)) := by
  obtain ⟨hx, hb, hml, hown, hts, hnm, hC, hty, hA, hbA, hbl, hL, hR1, hR2⟩ := hF
  simp only [am_kf, am_kp, Bool.and_eq_true, Bool.or_eq_true, Bool.not_eq_true', decide_eq_true_eq, beq_iff_eq] at hk hkp
  obtain ⟨⟨⟨⟨⟨⟨g1, g2⟩, g3⟩, g4⟩, rfl⟩, g5⟩, g6⟩ := hk
  obtain ⟨C, T, N, ty0, c1, c2, c3, c4, c5, c6, c7, c8⟩ := am_cls g1 g2
  have he : (am_w tys aw b t0 S)[i]? = some (qa, .inr (t - 1, am_fs aw b t0 S a)) := by rw [am_wat hi, am_c_ob (by omega), ht]
  rw [c3, c4] at g5
  rw [c3, c4] at g6
  rw [c4, c3] at hkp
  have hkN : kf < N := by rw [← c2]; exact g3
  obtain ⟨n1, n2⟩ := hty2 _ (c8 kf hkN)
  rcases hkp with hfin | ⟨hfn, hfc⟩
  · exact va_put (Ts := u_ws C T N) hx hb (fun w hw => hts w (c5 w hw).1 (c5 w hw).2) (fun w hw => hw) ty0 c6 c7 hown hC.1 hP hD hS i he c1 kf hkN (ref := C) (hts _ (am_wdm g5) rfl) (fun x hx => by rw [g6] at hx; exact hx) hfin (c6 kf hkN) n1 n2 (by rw [am_fsl, ht]; exact g3) g4 kk
  · cases hf : (T kf).2.2.2 with
    | false => exact va_put (Ts := u_ws C T N) hx hb (fun w hw => hts w (c5 w hw).1 (c5 w hw).2) (fun w hw => hw) ty0 c6 c7 hown hC.1 hP hD hS i he c1 kf hkN (ref := C) (hts _ (am_wdm g5) rfl) (fun x hx => by rw [g6] at hx; exact hx) hf (c6 kf hkN) n1 n2 (by rw [am_fsl, ht]; exact g3) g4 kk
    | true => exact va_putF (Ts := u_ws C T N) hx hb (fun w hw => hts w (c5 w hw).1 (c5 w hw).2) (fun w hw => hw) ty0 c6 c7 hown hC.1 hP hD hS i he c1 kf hkN (ref := C) (hts _ (am_wdm g5) rfl) (fun x hx => by rw [g6] at hx; exact hx) hf (hnm.trans hfn) (g6.trans hfc) (c6 kf hkN) n1 n2 (by rw [am_fsl, ht]; exact g3) g4 kk
theorem am_s18 (hF : am_F p s m args meth c R d D tys b t0 L xs A) (hk : am_ok d pc (18, q, v, ys) = true) (h : am_o18 (18, q, v, ys) ls st S = some (pc', ls', st', S')) (k : am_W p l e R s m args below meth c Q d D tys b t0 L xs A n0 s0 aw pc' ls' st' S') : am_W p l e R s m args below meth c Q d D tys b t0 L xs A n0 s0 aw pc ls st S := by
  simp only [am_ok, Bool.and_eq_true] at hk
  obtain ⟨⟨hk, hkP⟩, hkp⟩ := hk
  have hk0 := hk
  unfold am_kf at hk
  split at hk
  · rename_i t kf ix wi
    simp only [Bool.and_eq_true, decide_eq_true_eq, beq_iff_eq, am_kP] at hk hkP
    obtain ⟨⟨⟨⟨⟨⟨g1, g2⟩, g3⟩, g4⟩, g7⟩, g5⟩, g6⟩ := hk
    simp only [am_o18, List.headD_cons, List.getD_cons_succ, List.getD_cons_zero] at h
    split at h
    · rename_i y a st1
      split at h
      · rename_i ht
        obtain ⟨ht, hz⟩ := ht
        cases h
        intro H locs lsC hE
        obtain ⟨hP, hD, hS, hw, hl, hv⟩ := hE
        have hL : L < 16384 := hF.2.2.2.2.2.2.2.2.2.2.2.1
        obtain ⟨i, qa, hi⟩ := am_in (hv _ (List.mem_cons_of_mem _ List.mem_cons_self)) (by omega) (by omega)
        rw [List.map_cons, List.map_cons, am_vr (hw.1 _ _ _ hi) hi]
        refine am_put hF hk0 hkp ht hi hw hP hD hS (x := .int y) ?_ ?_
        · intro ty hty
          unfold am_tk at hty
          split at hty
          · exact ⟨rfl, rfl⟩
          · simp only [Bool.and_eq_true] at hty
            rcases hz hty.2 with rfl | rfl <;> exact ⟨by decide, by decide⟩
          · rw [hkP] at hty; exact absurd hty (by decide)
          · rw [hkP] at hty; exact absurd hty (by decide)
          · exact absurd hty (by decide)
        · intro H1 locs1 e1 e2 e3
          have eW : am_w tys aw b t0 (am_up S.1 a kf y, S.2) = (am_w tys aw b t0 S).set i (qa, .inr (t - 1, (am_fs aw b t0 S a).set kf (.int y))) := by
            refine am_w_set (S := S) (S' := (am_up S.1 a kf y, S.2)) hw.1 hi (fun p' hp j => ⟨am_up_ne hp, rfl⟩) ?_
            rw [am_c_ob (by omega), ht]
            congr 2
            apply List.ext_getElem?
            intro j
            rw [List.getElem?_set]
            by_cases hj : j < am_nf (am_t a)
            · by_cases e : kf = j
              · subst e
                rw [if_pos rfl, if_pos (by rw [am_fsl]; exact hj), am_fsk hj, ht, hkP]
                show some (Value.int (am_up S.1 a kf y a kf)) = _
                rw [am_up_eq]
              · rw [if_neg e, am_fsk hj, am_fsk hj]
                show some (if am_isP (am_t a) j then _ else Value.int (am_up S.1 a kf y a j)) = _
                rw [am_up_nk (fun z => e z.symm)]
            · have n1 : (am_fs aw b t0 (am_up S.1 a kf y, S.2) a)[j]? = none := List.getElem?_eq_none (by rw [am_fsl]; omega)
              have n2 : (am_fs aw b t0 S a)[j]? = none := List.getElem?_eq_none (by rw [am_fsl]; omega)
              rw [n1, if_neg (fun z => hj (by rw [ht, ← z]; exact g3)), n2]
          exact k H1 locs1 lsC ⟨by rw [eW]; exact e1, by rw [eW]; exact e2, e3, am_wf_I hw hL hi (fun p' hp j => am_up_ne hp), hl, fun w hw => hv w (List.mem_cons_of_mem _ (List.mem_cons_of_mem _ hw))⟩
      · exact absurd h (by simp)
    · exact absurd h (by simp)
  · exact absurd hk (by decide)
theorem am_s19 (hF : am_F p s m args meth c R d D tys b t0 L xs A) (hk : am_ok d pc (19, q, v, ys) = true) (h : am_o19 (19, q, v, ys) ls st S = some (pc', ls', st', S')) (k : am_W p l e R s m args below meth c Q d D tys b t0 L xs A n0 s0 aw pc' ls' st' S') : am_W p l e R s m args below meth c Q d D tys b t0 L xs A n0 s0 aw pc ls st S := by
  simp only [am_ok, Bool.and_eq_true] at hk
  obtain ⟨⟨hk, hkP⟩, hkp⟩ := hk
  have hk0 := hk
  unfold am_kf at hk
  split at hk
  · rename_i t kf ix wi
    simp only [Bool.and_eq_true, decide_eq_true_eq, beq_iff_eq, am_kP] at hk hkP
    obtain ⟨⟨⟨⟨⟨⟨g1, g2⟩, g3⟩, g4⟩, g7⟩, g5⟩, g6⟩ := hk
    simp only [am_o19, List.headD_cons, List.getD_cons_succ, List.getD_cons_zero] at h
    split at h
    · rename_i y a st1
      split at h
      · rename_i ht
        cases h
        intro H locs lsC hE
        obtain ⟨hP, hD, hS, hw, hl, hv⟩ := hE
        have hL : L < 16384 := hF.2.2.2.2.2.2.2.2.2.2.2.1
        obtain ⟨i, qa, hi⟩ := am_in (hv _ (List.mem_cons_of_mem _ List.mem_cons_self)) (by omega) (by omega)
        rw [List.map_cons, List.map_cons, am_vr (hw.1 _ _ _ hi) hi]
        refine am_put hF hk0 hkp ht hi hw hP hD hS (x := am_v aw b t0 (.inr y)) ?_ ?_
        · intro ty hty
          have hcase : am_v aw b t0 (.inr y) = .null ∨ ∃ z, am_v aw b t0 (.inr y) = .ref z := by
            show va_rf _ = _ ∨ ∃ z, va_rf _ = _
            cases am_ad aw b t0 y with
            | none => exact Or.inl rfl
            | some z => exact Or.inr ⟨z, rfl⟩
          unfold am_tk at hty
          split at hty
          · simp [hkP] at hty
          · simp [hkP] at hty
          · rcases hcase with e | ⟨z, e⟩ <;> rw [e] <;> exact ⟨rfl, rfl⟩
          · rcases hcase with e | ⟨z, e⟩ <;> rw [e] <;> exact ⟨rfl, rfl⟩
          · exact absurd hty (by decide)
        · intro H1 locs1 e1 e2 e3
          have eW : am_w tys aw b t0 (S.1, am_up S.2.1 a kf y, S.2.2) = (am_w tys aw b t0 S).set i (qa, .inr (t - 1, (am_fs aw b t0 S a).set kf (am_v aw b t0 (.inr y)))) := by
            refine am_w_set (S := S) (S' := (S.1, am_up S.2.1 a kf y, S.2.2)) hw.1 hi (fun p' hp j => ⟨rfl, am_up_ne hp⟩) ?_
            rw [am_c_ob (by omega), ht]
            congr 2
            apply List.ext_getElem?
            intro j
            rw [List.getElem?_set]
            by_cases hj : j < am_nf (am_t a)
            · by_cases e : kf = j
              · subst e
                rw [if_pos rfl, if_pos (by rw [am_fsl]; exact hj), am_fsk hj, ht, hkP]
                show some (va_rf (am_ad aw b t0 (am_up S.2.1 a kf y a kf))) = _
                rw [am_up_eq]; rfl
              · rw [if_neg e, am_fsk hj, am_fsk hj]
                show some (if am_isP (am_t a) j then va_rf (am_ad aw b t0 (am_up S.2.1 a kf y a j)) else _) = _
                rw [am_up_nk (fun z => e z.symm)]
            · have n1 : (am_fs aw b t0 (S.1, am_up S.2.1 a kf y, S.2.2) a)[j]? = none := List.getElem?_eq_none (by rw [am_fsl]; omega)
              have n2 : (am_fs aw b t0 S a)[j]? = none := List.getElem?_eq_none (by rw [am_fsl]; omega)
              rw [n1, if_neg (fun z => hj (by rw [ht, ← z]; exact g3)), n2]
          exact k H1 locs1 lsC ⟨by rw [eW]; exact e1, by rw [eW]; exact e2, e3, am_wf_P hw hi (hv _ List.mem_cons_self), hl, fun w hw => hv w (List.mem_cons_of_mem _ (List.mem_cons_of_mem _ hw))⟩
      · exact absurd h (by simp)
    · exact absurd h (by simp)
  · exact absurd hk (by decide)
theorem am_s20 (hF : am_F p s m args meth c R d D tys b t0 L xs A) (hk : am_ok d pc (20, q, v, ys) = true) (h : am_o20 (20, q, v, ys) ls st S = some (pc', ls', st', S')) (k : am_W p l e R s m args below meth c Q d D tys b t0 L xs A n0 s0 aw pc' ls' st' S') : am_W p l e R s m args below meth c Q d D tys b t0 L xs A n0 s0 aw pc ls st S := by
  obtain ⟨hx, hb, hml, hown, hts, hnm, hC, hty, hA, hbA, hbl, hL, hR1, hR2⟩ := hF
  simp only [am_ok] at hk
  have h : some (q, ls, (.inr am_ap : am_V) :: st, S) = some (pc', ls', st', S') := h
  cases h
  split at hk
  · rename_i ix wi
    simp only [Bool.and_eq_true, decide_eq_true_eq, beq_iff_eq] at hk
    obtain ⟨⟨h1, rfl⟩, h2⟩ := hk
    intro H locs lsC hE
    obtain ⟨hP, hD, hS, hw, hl, hv⟩ := hE
    have k' := k H locs lsC ⟨hP, hD, hS, hw, hl, am_vc (Or.inr (Or.inr (Or.inl rfl))) hv⟩
    exact va_gets hx hb hC.2.2.1 hS hown (ref := "StepWorld") (hts _ (am_wdm h2) rfl) (fun x hx => hx) h1 k'
  · exact absurd hk (by decide)
end AmOps3
