section AmMain
variable {p : Program} {l : Launch} {e : Env} {R : Room} {s : State} {m : MethodId} {args : Array Value} {below : List Frame} {meth : Method} {c : Code} {Q : State → Prop} {d : am_D} {D : va_G} {tys : List (ClassId × FieldType)} {b t0 L : Nat} {xs : Nat → Int32} {A : Nat → Prop} {n0 s0 : Nat} {aw : List (Nat × Nat)} {pc pc' q : Nat} {ls ls' : List (Option am_V)} {st st' : List am_V} {S S' : am_S} {v : Int} {ys : List Nat}
/-- a run of the small machine from any place of a method: the large one goes the same way -/
theorem am_body {dp nn : Nat} {r : Option am_V} {SF : am_S} (hF : am_F p s m args meth c R d D tys b t0 L xs A) (hok : ∀ (j : Nat) (d : am_D), am_m j = some d → am_okm d = true) (hokd : am_okm d = true) (hRd : dp + 1 ≤ R.frames ∧ 64 * dp + 64 ≤ R.locals)
    (ih : ∀ (j : Nat) (as : List am_V) (S : am_S) (w : Option am_V) (S1 : am_S), am_call dp nn j as S = some (w, S1) → ∀ (aw : List (Nat × Nat)) (dj : am_D), am_m j = some dj → am_wf aw L xs S → (∀ v ∈ as, am_vd aw L v) → am_Mt l D tys b t0 L xs A aw dp dj as S w S1)
    (hret : ∀ (z : List (Nat × Nat)) (pc op q : Nat) (v : Int) (ys : List Nat) (ls : List (Option am_V)) (st : List am_V) (S : am_S), am_ok d pc (op, q, v, ys) = true → 36 ≤ op → am_re d op st S = some (r, SF) → am_W p l e R s m args below meth c Q d D tys b t0 L xs A n0 s0 (aw ++ z) pc ls st S) (hroom : SF.2.2.1 ≤ n0 + R.cells ∧ SF.2.2.2 ≤ s0 + R.slots) :
    ∀ (n pc : Nat) (ls : List (Option am_V)) (st : List am_V) (S : am_S) (z : List (Nat × Nat)), n0 ≤ S.2.2.1 ∧ s0 ≤ S.2.2.2 → am_run (am_call dp nn) d n pc ls st S = some (r, SF) → am_W p l e R s m args below meth c Q d D tys b t0 L xs A n0 s0 (aw ++ z) pc ls st S
  | 0, _, _, _, _, _, _, h => by simp [am_run] at h
  | n + 1, pc, ls, st, S, z, hn, h => by
    unfold am_run at h
    split at h
    · cases h
    · rename_i rr hfe
      have hk := am_oki hokd hfe
      obtain ⟨op, q, v, ys⟩ := rr
      split at h
      · rename_i hop
        exact hret z pc op q v ys ls st S hk hop h
      · split at h
        · rename_i h36 h32
          have h32 : op = 32 := h32
          subst h32
          split at h
          · cases h
          · rename_i as rest hcut
            split at h
            · rename_i hrc
              split at h
              · cases h
              · rename_i w S1 hcall
                have m1 := am_call_mono _ _ _ _ _ _ _ hcall
                have m2 := am_run_mono (fun j as S v S' => am_call_mono dp nn j as S v S') _ _ _ _ _ _ _ h
                refine am_s32 hF hok hk hRd hcut hrc hn m1 ⟨by omega, by omega⟩ (fun dj hdj hw hva => ih _ _ _ _ _ hcall _ dj hdj hw hva) (fun z2 => ?_)
                rw [List.append_assoc]
                exact am_body hF hok hokd hRd ih hret hroom n _ _ _ _ _ ⟨by omega, by omega⟩ h
            · cases h
        · rename_i h36 h32
          split at h
          · cases h
          · rename_i pc1 ls1 st1 S1 hst
            have m1 := am_st_mono hst
            have m2 := am_run_mono (fun j as S v S' => am_call_mono dp nn j as S v S') _ _ _ _ _ _ _ h
            have k : ∀ z2, am_W p l e R s m args below meth c Q d D tys b t0 L xs A n0 s0 ((aw ++ z) ++ z2) pc1 ls1 st1 S1 := fun z2 => by
              rw [List.append_assoc]
              exact am_body hF hok hokd hRd ih hret hroom n _ _ _ _ _ ⟨by omega, by omega⟩ h
            have k0 : am_W p l e R s m args below meth c Q d D tys b t0 L xs A n0 s0 (aw ++ z) pc1 ls1 st1 S1 := by have := k []; rwa [List.append_nil] at this
            have hr1 : S1.2.2.1 ≤ n0 + R.cells ∧ S1.2.2.2 ≤ s0 + R.slots := ⟨by omega, by omega⟩
            unfold am_st at hst
            split at hst
            · rename_i e; have e : op = 0 := e; subst e; exact am_s0 hF hk hst k0
            · rename_i e; have e : op = 1 := e; subst e; exact am_s1 hF hk hst k0
            · rename_i e; have e : op = 2 := e; subst e; exact am_s2 hF hk hst k0
            · rename_i e; have e : op = 3 := e; subst e; exact am_s3 hF hk hst k0
            · rename_i e; have e : op = 4 := e; subst e; exact am_s4 hF hk hst k0
            · rename_i e; have e : op = 5 := e; subst e; exact am_s5 hF hk hst k0
            · rename_i e; have e : op = 6 := e; subst e; exact am_s6 hF hk hst hn hr1 k0
            · rename_i e; have e : op = 7 := e; subst e; exact am_s7 hF hk hst k0
            · rename_i e; have e : op = 8 := e; subst e; exact am_s8 hF hk hst k0
            · rename_i e; have e : op = 9 := e; subst e; exact am_s9 hF hk hst k0
            · rename_i e; have e : op = 10 := e; subst e; exact am_s10 hF hk hst k0
            · rename_i e; have e : op = 11 := e; subst e; exact am_s11 hF hk hst k0
            · rename_i e; have e : op = 12 := e; subst e; exact am_s12 hF hk hst k0
            · rename_i e; have e : op = 13 := e; subst e; exact am_s13 hF hk hst k0
            · rename_i e; have e : op = 14 := e; subst e; exact am_s14 hF hk hst k0
            · rename_i e; have e : op = 15 := e; subst e; exact am_s15 hF hk hst k0
            · rename_i e; have e : op = 16 := e; subst e; exact am_s16 hF hk hst k0
            · rename_i e; have e : op = 17 := e; subst e; exact am_s17 hF hk hst k0
            · rename_i e; have e : op = 18 := e; subst e; exact am_s18 hF hk hst k0
            · rename_i e; have e : op = 19 := e; subst e; exact am_s19 hF hk hst k0
            · rename_i e; have e : op = 20 := e; subst e; exact am_s20 hF hk hst k0
            · rename_i e; have e : op = 21 := e; subst e; exact am_s21 hF hk hst k0
            · rename_i e; have e : op = 22 := e; subst e; exact am_s22 hF hk hst k0
            · rename_i e; have e : op = 23 := e; subst e; exact am_s23 hF hk hst k0
            · rename_i e; have e : op = 24 := e; subst e; exact am_s24 hF hk hst k0
            · rename_i e; have e : op = 25 := e; subst e; exact am_s25 hF hk hst k0
            · rename_i e; have e : op = 26 := e; subst e; exact am_s26 hF hk hst k0
            · rename_i e; have e : op = 27 := e; subst e; exact am_s27 hF hk hst k0
            · rename_i e; have e : op = 28 := e; subst e; exact am_s28 hF hk hst hn hr1 k
            · rename_i e; have e : op = 29 := e; subst e; exact am_s29 hF hk hst hn hr1 k
            · rename_i e; have e : op = 30 := e; subst e; exact am_s30 hF hk hst hn hr1 k
            · rename_i e; have e : op = 31 := e; subst e; exact am_s31 hF hk hst k0
            · rename_i e; have e : op = 33 := e; subst e; exact am_s33 hF hk hst k0
            · rename_i e; have e : op = 34 := e; subst e; exact am_s34 hF hk hst hn hr1 k
            · rename_i e; have e : op = 35 := e; subst e; exact am_s35 hF hk hst k0
            · cases hst
theorem am_call_kd {dp nn j : Nat} {as : List am_V} {S S1 : am_S} {w : Option am_V} {dj : am_D} (h : am_call dp nn j as S = some (w, S1)) (hd : am_m j = some dj) : am_kd dj ≠ 3 := by
  cases dp with
  | zero => simp [am_call] at h
  | succ dp =>
    unfold am_call at h
    rw [hd] at h
    have h : (if am_kd dj ≠ 3 ∧ as.length = (if am_kd dj = 2 then am_np dj else am_np dj + 1) then am_run (am_call dp nn) dj nn 0 (am_ent dj as) [] S else none) = some (w, S1) := h
    intro e
    rw [if_neg (fun z => z.1 e)] at h
    cases h
theorem am_args (vs : List Value) : ∀ (i : Nat), (∀ v ∈ vs, v.category = 1) → ∀ (k : Nat) (v : Value), vs[k]? = some v → (i + k, v) ∈ lv_args i vs := by
  induction vs with
  | nil => intro i _ k v h; simp at h
  | cons w vs ih =>
    intro i hc k v h
    have hw := hc w List.mem_cons_self
    unfold lv_args
    rw [if_neg (by omega)]
    cases k with
    | zero => simp at h; subst h; exact List.mem_cons_self
    | succ k =>
      have h1 : vs[k]? = some v := by simpa using h
      have := ih (i + 1) (fun v hv => hc v (List.mem_cons_of_mem _ hv)) k v h1
      rw [show i + (k + 1) = i + 1 + k by omega]
      exact List.mem_cons_of_mem _ this
theorem am_sll (vs : List Value) (h : ∀ v ∈ vs, v.category = 1) : (lg_sl vs).length = vs.length := by
  induction vs with
  | nil => rfl
  | cons v vs ih =>
    have e : lg_sl (v :: vs) = [.val v] ++ lg_sl vs := by
      unfold lg_sl
      rw [List.flatMap_cons, if_neg (by rw [h v List.mem_cons_self]; decide)]
    rw [e, List.length_append, ih (fun v hv => h v (List.mem_cons_of_mem _ hv))]
    simp; omega
theorem am_entL {as : List am_V} (hlen : as.length ≤ am_ml d) (hva : ∀ v ∈ as, am_vd aw L v) : am_Lc d b t0 L aw (am_ent d as) ((lg_sl (as.map (am_v aw b t0)) ++ List.replicate (am_ml d - (lg_sl (as.map (am_v aw b t0))).length) Slot.unset).toArray) := by
  have hcat : ∀ v ∈ as.map (am_v aw b t0), v.category = 1 := by
    intro v hv
    obtain ⟨w, -, rfl⟩ := List.mem_map.mp hv
    exact am_cat _ _ _ _
  have hl := lv_entry (as.map (am_v aw b t0)) (n := am_ml d) (by rw [am_sll _ hcat, List.length_map]; exact hlen)
  refine ⟨hl.1, hl.2.1, by unfold am_ent; simp; omega, fun i v hi => ?_⟩
  unfold am_ent at hi
  rw [List.getElem?_append] at hi
  split at hi
  · rw [List.getElem?_map] at hi
    cases ha : as[i]? with
    | none => rw [ha] at hi; cases hi
    | some w =>
      rw [ha] at hi
      cases hi
      have h1 := am_args (as.map (am_v aw b t0)) 0 hcat i (am_v aw b t0 v) (by rw [List.getElem?_map, ha]; rfl)
      rw [Nat.zero_add] at h1
      exact ⟨hl.2.2 _ h1, hva v (List.mem_of_getElem? ha)⟩
  · rw [List.getElem?_replicate] at hi
    split at hi <;> cases hi
/-- every run of the small machine is a contract of the large one -/
theorem am_sim (hok : ∀ (j : Nat) (d : am_D), am_m j = some d → am_okm d = true) (l : Launch) (D : va_G) (tys : List (ClassId × FieldType)) (b t0 L : Nat) (xs : Nat → Int32) (A : Nat → Prop) (hty : tys.map (fun q => q.2) = am_tys) (hbA : ¬ A b) (hL : L < 16384) :
    ∀ (dp nn j : Nat) (as : List am_V) (S : am_S) (w : Option am_V) (S1 : am_S), am_call dp nn j as S = some (w, S1) → ∀ (aw : List (Nat × Nat)) (dj : am_D), am_m j = some dj → am_wf aw L xs S → (∀ v ∈ as, am_vd aw L v) → am_kd dj ≠ 3 → am_Mt l D tys b t0 L xs A aw dp dj as S w S1
  | 0, _, _, _, _, _, _, h => by simp [am_call] at h
  | dp + 1, nn, j, as, S, w, S1, h => by
    intro aw dj hdj hw hva hk3
    have hokd := hok _ _ hdj
    obtain ⟨y1, y2, y3, y4, y5, y6, y7, y8, y9, y10, y11, y12⟩ := am_okd_spec hokd hk3
    unfold am_call at h
    rw [hdj] at h
    by_cases hl : am_kd dj ≠ 3 ∧ as.length = (if am_kd dj = 2 then am_np dj else am_np dj + 1)
    · have h : (if am_kd dj ≠ 3 ∧ as.length = (if am_kd dj = 2 then am_np dj else am_np dj + 1) then am_run (am_call dp nn) dj nn 0 (am_ent dj as) [] S else none) = some (w, S1) := h
      rw [if_pos hl] at h
      have hm := am_run_mono (fun j as S v S' => am_call_mono dp nn j as S v S') _ _ _ _ _ _ _ h
      unfold am_Mt
      refine Met.ofW (cc := am_by dj) (maxL := am_ml dj) (ret := am_rt dj) y1 rfl ?_
      intro p e s m args below meth c s₁ B hml hv
      obtain ⟨rfl, hC, hP, hD, hA, hbl⟩ := hv
      have hts := atoms_spec (ws := Cond.code (am_nm dj) (am_by dj) (am_ml dj) (am_rt dj) :: am_gd) B.pre
      have hF : am_F p s m (as.map (am_v aw b t0)).toArray meth c (headSpec (Cond.code (am_nm dj) (am_by dj) (am_ml dj) (am_rt dj) :: am_gd) (am_rm (dp + 1) (S1.2.2.1 - S.2.2.1) (S1.2.2.2 - S.2.2.2))).room dj D tys b t0 L xs A :=
        ⟨B.exec, B.bytes, hml, findClass_of_methodNamed B.named, fun u h1 h2 => hts u (List.mem_cons_of_mem _ (List.mem_filter.mpr ⟨h1, h2⟩)), (name_of_methodNamed B.named B.method).1, hC, hty, hA, hbA, hbl, hL, by show 1 ≤ dp + 1; omega, by show 64 ≤ 64 * (dp + 1); omega⟩
      rw [lg_entry_eq]
      have key := am_body (p := p) (l := l) (e := e) (R := (headSpec (Cond.code (am_nm dj) (am_by dj) (am_ml dj) (am_rt dj) :: am_gd) (am_rm (dp + 1) (S1.2.2.1 - S.2.2.1) (S1.2.2.2 - S.2.2.2))).room) (s := s) (m := m) (args := (as.map (am_v aw b t0)).toArray) (below := below) (meth := meth) (c := c) (Q := MQ below (am_Qc D tys b t0 L xs A aw w S1) (as.map (am_v aw b t0)).toArray s (S1.2.2.1 - S.2.2.1) (S1.2.2.2 - S.2.2.2) A) (d := dj) (n0 := S.2.2.1) (s0 := S.2.2.2) (aw := aw) (dp := dp) (nn := nn) (r := w) (SF := S1) hF hok hokd ⟨Nat.le_refl _, by show 64 * dp + 64 ≤ 64 * (dp + 1); omega⟩ (fun j as S w S1 hc aw dj hd h1 h2 => by
          exact am_sim hok l D tys b t0 L xs A hty hbA hL dp nn j as S w S1 hc aw dj hd h1 h2 (am_call_kd hc hd)) ?_ ⟨by show S1.2.2.1 ≤ S.2.2.1 + (S1.2.2.1 - S.2.2.1); omega, by show S1.2.2.2 ≤ S.2.2.2 + (S1.2.2.2 - S.2.2.2); omega⟩ nn 0 (am_ent dj as) [] S [] ⟨Nat.le_refl _, Nat.le_refl _⟩ h
      · rw [List.append_nil] at key
        have k2 := key s.heap [] _ ⟨hP, hD, va_S.rf, hw, am_entL (by have := hl.2; omega) hva, fun _ h => by cases h⟩
        rw [Nat.sub_self, Nat.sub_self] at k2
        exact k2
      · intro z pc op q v ys ls st T hk hop hre
        have hT := am_re_S hre
        subst hT
        intro H locs lsC hE
        obtain ⟨hP1, hD1, hS1, hw1, hl1, hv1⟩ := hE
        unfold am_re at hre
        split at hre
        · rename_i x
          split at hre
          · rename_i hrt
            cases hre
            have hdg : decode (am_by dj) pc = .ok (.ireturn, 1) := of_decide_eq_true hk
            have hq : ∀ t : State, t.heap = H → s.WarmedH t.vm → am_Qc D tys b t0 L xs A aw (some (.inl x)) S1 (as.map (am_v aw b t0)).toArray s (.returned (some (.int x))) t := fun t ht hW => ⟨⟨z, rfl, by rw [ht]; exact hP1, hD1, hw1, fun v hv => by cases hv; trivial⟩, hS1.F ht⟩
            rcases hrt with hrt | ⟨hrt, hx⟩
            · exact W.iret B.exec B.bytes (B.returns.trans hrt) hq hS1.2.2 hdg B.notSynchronized
            · exact W.zret B.exec B.bytes (B.returns.trans hrt) (by rcases hx with rfl | rfl <;> rfl) hq hS1.2.2 hdg B.notSynchronized
          · cases hre
        · rename_i x
          split at hre
          · rename_i hx0
            cases hre
            have hk : am_ok dj pc (37, q, v, ys) = true := hk
            simp only [am_ok, Bool.and_eq_true, decide_eq_true_eq] at hk
            obtain ⟨hdg, hrt⟩ := hk
            obtain ⟨y, hy⟩ := am_ref (b := b) (t0 := t0) hw1.1 hL (hv1 _ List.mem_cons_self) hx0
            have hq : ∀ t : State, t.heap = H → s.WarmedH t.vm → am_Qc D tys b t0 L xs A aw (some (.inr x)) S1 (as.map (am_v aw b t0)).toArray s (.returned (some (am_v (aw ++ z) b t0 (.inr x)))) t := fun t ht hW => ⟨⟨z, rfl, by rw [ht]; exact hP1, hD1, hw1, fun v hv => by cases hv; exact hv1 _ List.mem_cons_self⟩, hS1.F ht⟩
            split at hrt
            · rename_i nm hr
              exact W.aret B.exec B.bytes (B.returns.trans hr) (Or.inl ⟨_, rfl⟩) (Or.inr ⟨y, hy⟩) hq hS1.2.2 hdg B.notSynchronized
            · rename_i nm hr
              exact W.aret B.exec B.bytes (B.returns.trans hr) (Or.inr ⟨_, rfl⟩) (Or.inr ⟨y, hy⟩) hq hS1.2.2 hdg B.notSynchronized
            · cases hrt
          · cases hre
        · cases hre
          have hk : am_ok dj pc (38, q, v, ys) = true := hk
          simp only [am_ok, Bool.and_eq_true, decide_eq_true_eq] at hk
          obtain ⟨hdg, hrt⟩ := hk
          exact W.vret B.exec B.bytes (B.returns.trans hrt) (fun t ht hW => ⟨⟨z, rfl, by rw [ht]; exact hP1, hD1, hw1, fun v hv => by cases hv⟩, hS1.F ht⟩) hS1.2.2 hdg B.notSynchronized
        · cases hre
    · have h : (if am_kd dj ≠ 3 ∧ as.length = (if am_kd dj = 2 then am_np dj else am_np dj + 1) then am_run (am_call dp nn) dj nn 0 (am_ent dj as) [] S else none) = some (w, S1) := h
      rw [if_neg hl] at h
      cases h
end AmMain
