section AmOps1
variable {p : Program} {l : Launch} {e : Env} {R : Room} {s : State} {m : MethodId} {args : Array Value} {below : List Frame} {meth : Method} {c : Code} {Q : State → Prop} {d : am_D} {D : va_G} {tys : List (ClassId × FieldType)} {b t0 L : Nat} {xs : Nat → Int32} {A : Nat → Prop} {n0 s0 : Nat} {aw : List (Nat × Nat)} {pc pc' q : Nat} {ls ls' : List (Option am_V)} {st st' : List am_V} {S S' : am_S} {v : Int} {ys : List Nat}
theorem am_vc {x : am_V} (hx : am_vd aw L x) (h : ∀ w ∈ st, am_vd aw L w) : ∀ w ∈ x :: st, am_vd aw L w := fun w hw => (List.mem_cons.mp hw).elim (fun e => by rw [e]; exact hx) (h w)
theorem am_s0 (hF : am_F p s m args meth c R d D tys b t0 L xs A) (hk : am_ok d pc (0, q, v, ys) = true) (h : am_o0 (0, q, v, ys) ls st S = some (pc', ls', st', S')) (k : am_W p l e R s m args below meth c Q d D tys b t0 L xs A n0 s0 aw pc' ls' st' S') : am_W p l e R s m args below meth c Q d D tys b t0 L xs A n0 s0 aw pc ls st S := by
  obtain ⟨hx, hb, hml, hown, hts, hnm, hC, hty, hA, hbA, hbl, hL, hR1, hR2⟩ := hF
  have hk : am_k0 d pc q v ys = true := hk
  have h : some (q, ls, (.inl (Int32.ofInt v) : am_V) :: st, S) = some (pc', ls', st', S') := h
  cases h
  intro H locs lsC hE
  obtain ⟨hP, hD, hS, hw, hl, hv⟩ := hE
  have k' := k H locs lsC ⟨hP, hD, hS, hw, hl, am_vc trivial hv⟩
  unfold am_k0 at hk
  split at hk
  · simp only [Bool.and_eq_true, decide_eq_true_eq, beq_iff_eq] at hk
    obtain ⟨h1, rfl⟩ := hk
    exact lv_iconst hx hb h1 rfl k'
  · simp only [Bool.and_eq_true, decide_eq_true_eq, beq_iff_eq] at hk
    obtain ⟨⟨h1, rfl⟩, h2⟩ := hk
    exact lv_bipush hx hb h1 h2 k'
  · simp only [Bool.and_eq_true, decide_eq_true_eq, beq_iff_eq] at hk
    obtain ⟨⟨h1, rfl⟩, h2⟩ := hk
    exact lv_sipush hx hb h1 h2 k'
  · simp only [Bool.and_eq_true, decide_eq_true_eq, beq_iff_eq] at hk
    obtain ⟨⟨h1, rfl⟩, h2⟩ := hk
    exact lv_ldc hx hb hown (hts _ (am_wdm h2) rfl) h1 k'
  · simp only [Bool.and_eq_true, decide_eq_true_eq, beq_iff_eq] at hk
    obtain ⟨⟨h1, rfl⟩, h2⟩ := hk
    exact lv_ldcw hx hb hown (hts _ (am_wdm h2) rfl) h1 k'
  · exact absurd hk (by decide)
theorem am_s1 (hF : am_F p s m args meth c R d D tys b t0 L xs A) (hk : am_ok d pc (1, q, v, ys) = true) (h : am_o1 (1, q, v, ys) ls st S = some (pc', ls', st', S')) (k : am_W p l e R s m args below meth c Q d D tys b t0 L xs A n0 s0 aw pc' ls' st' S') : am_W p l e R s m args below meth c Q d D tys b t0 L xs A n0 s0 aw pc ls st S := by
  obtain ⟨hx, hb, hml, hown, hts, hnm, hC, hty, hA, hbA, hbl, hL, hR1, hR2⟩ := hF
  have hk : am_kl d pc q .iload .iload_n ys = true := hk
  simp only [am_o1] at h
  split at h
  · rename_i x hx0
    cases h
    intro H locs lsC hE
    obtain ⟨hP, hD, hS, hw, hl, hv⟩ := hE
    have k' := k H locs lsC ⟨hP, hD, hS, hw, hl, am_vc trivial hv⟩
    have hx1 := (hl.2.2.2 _ _ hx0).1
    unfold am_kl at hk
    split at hk
    · simp only [Bool.and_eq_true, decide_eq_true_eq, beq_iff_eq] at hk
      obtain ⟨⟨h1, rfl⟩, h2⟩ := hk
      exact lv_iload hx hb h1 hx1 k'
    · simp only [Bool.and_eq_true, decide_eq_true_eq, beq_iff_eq] at hk
      obtain ⟨⟨⟨h0, h1⟩, rfl⟩, h2⟩ := hk
      exact lv_iload_n hx hb h1 (Nat.mod_eq_of_lt h0) hx1 k'
    · exact absurd hk (by decide)
  · exact absurd h (by simp)
theorem am_s2 (hF : am_F p s m args meth c R d D tys b t0 L xs A) (hk : am_ok d pc (2, q, v, ys) = true) (h : am_o2 (2, q, v, ys) ls st S = some (pc', ls', st', S')) (k : am_W p l e R s m args below meth c Q d D tys b t0 L xs A n0 s0 aw pc' ls' st' S') : am_W p l e R s m args below meth c Q d D tys b t0 L xs A n0 s0 aw pc ls st S := by
  obtain ⟨hx, hb, hml, hown, hts, hnm, hC, hty, hA, hbA, hbl, hL, hR1, hR2⟩ := hF
  have hk : am_kl d pc q .aload .aload_n ys = true := hk
  simp only [am_o2] at h
  split at h
  · rename_i x hx0
    by_cases h0 : x = 0
    · rw [if_pos h0] at h; exact absurd h (by simp)
    rw [if_neg h0] at h
    cases h
    intro H locs lsC hE
    obtain ⟨hP, hD, hS, hw, hl, hv⟩ := hE
    have hxv := (hl.2.2.2 _ _ hx0).2
    have k' := k H locs lsC ⟨hP, hD, hS, hw, hl, am_vc hxv hv⟩
    have hx1 := (hl.2.2.2 _ _ hx0).1
    obtain ⟨y, hy⟩ := am_ref (b := b) (t0 := t0) hw.1 hL hxv h0
    rw [hy] at hx1
    rw [List.map_cons, hy] at k'
    unfold am_kl at hk
    split at hk
    · simp only [Bool.and_eq_true, decide_eq_true_eq, beq_iff_eq] at hk
      obtain ⟨⟨h1, rfl⟩, h2⟩ := hk
      exact lv_aload hx hb h1 hx1 k'
    · simp only [Bool.and_eq_true, decide_eq_true_eq, beq_iff_eq] at hk
      obtain ⟨⟨⟨h3, h1⟩, rfl⟩, h2⟩ := hk
      exact lv_aload_n hx hb h1 (Nat.mod_eq_of_lt h3) hx1 k'
    · exact absurd hk (by decide)
  · exact absurd h (by simp)
theorem am_s3 (hF : am_F p s m args meth c R d D tys b t0 L xs A) (hk : am_ok d pc (3, q, v, ys) = true) (h : am_o3 (3, q, v, ys) ls st S = some (pc', ls', st', S')) (k : am_W p l e R s m args below meth c Q d D tys b t0 L xs A n0 s0 aw pc' ls' st' S') : am_W p l e R s m args below meth c Q d D tys b t0 L xs A n0 s0 aw pc ls st S := by
  obtain ⟨hx, hb, hml, hown, hts, hnm, hC, hty, hA, hbA, hbl, hL, hR1, hR2⟩ := hF
  have hk : am_kl d pc q .istore .istore_n ys = true := hk
  simp only [am_o3] at h
  split at h
  · rename_i x st1
    split at h
    · rename_i hlt
      cases h
      intro H locs lsC hE
      obtain ⟨hP, hD, hS, hw, hl, hv⟩ := hE
      unfold am_kl at hk
      split at hk
      · simp only [Bool.and_eq_true, decide_eq_true_eq, beq_iff_eq] at hk
        obtain ⟨⟨h1, rfl⟩, h2⟩ := hk
        exact lv_istore hx hb h1 hl.has h2 rfl (fun ls' h' => k H locs ls' ⟨hP, hD, hS, hw, hl.set h2 trivial h', fun w hw => hv w (List.mem_cons_of_mem _ hw)⟩)
      · simp only [Bool.and_eq_true, decide_eq_true_eq, beq_iff_eq] at hk
        obtain ⟨⟨⟨h3, h1⟩, rfl⟩, h2⟩ := hk
        exact lv_istore_n hx hb h1 (Nat.mod_eq_of_lt h3) hl.has h2 rfl (fun ls' h' => k H locs ls' ⟨hP, hD, hS, hw, hl.set h2 trivial h', fun w hw => hv w (List.mem_cons_of_mem _ hw)⟩)
      · exact absurd hk (by decide)
    · exact absurd h (by simp)
  · exact absurd h (by simp)
theorem am_s4 (hF : am_F p s m args meth c R d D tys b t0 L xs A) (hk : am_ok d pc (4, q, v, ys) = true) (h : am_o4 (4, q, v, ys) ls st S = some (pc', ls', st', S')) (k : am_W p l e R s m args below meth c Q d D tys b t0 L xs A n0 s0 aw pc' ls' st' S') : am_W p l e R s m args below meth c Q d D tys b t0 L xs A n0 s0 aw pc ls st S := by
  obtain ⟨hx, hb, hml, hown, hts, hnm, hC, hty, hA, hbA, hbl, hL, hR1, hR2⟩ := hF
  have hk : am_kl d pc q .astore .astore_n ys = true := hk
  simp only [am_o4] at h
  split at h
  · rename_i x st1
    split at h
    · rename_i hlt
      cases h
      intro H locs lsC hE
      obtain ⟨hP, hD, hS, hw, hl, hv⟩ := hE
      have hxv := hv _ List.mem_cons_self
      obtain ⟨y, hy⟩ := am_ref (b := b) (t0 := t0) hw.1 hL hxv hlt.2
      rw [List.map_cons, hy]
      unfold am_kl at hk
      split at hk
      · simp only [Bool.and_eq_true, decide_eq_true_eq, beq_iff_eq] at hk
        obtain ⟨⟨h1, rfl⟩, h2⟩ := hk
        exact lv_astore hx hb h1 hl.has h2 rfl (fun ls' h' => k H locs ls' ⟨hP, hD, hS, hw, hl.set h2 hxv (by rw [hy]; exact h'), fun w hw => hv w (List.mem_cons_of_mem _ hw)⟩)
      · simp only [Bool.and_eq_true, decide_eq_true_eq, beq_iff_eq] at hk
        obtain ⟨⟨⟨h3, h1⟩, rfl⟩, h2⟩ := hk
        exact lv_astore_n hx hb h1 (Nat.mod_eq_of_lt h3) hl.has h2 rfl (fun ls' h' => k H locs ls' ⟨hP, hD, hS, hw, hl.set h2 hxv (by rw [hy]; exact h'), fun w hw => hv w (List.mem_cons_of_mem _ hw)⟩)
      · exact absurd hk (by decide)
    · exact absurd h (by simp)
  · exact absurd h (by simp)
theorem am_s5 (hF : am_F p s m args meth c R d D tys b t0 L xs A) (hk : am_ok d pc (5, q, v, ys) = true) (h : am_o5 (5, q, v, ys) ls st S = some (pc', ls', st', S')) (k : am_W p l e R s m args below meth c Q d D tys b t0 L xs A n0 s0 aw pc' ls' st' S') : am_W p l e R s m args below meth c Q d D tys b t0 L xs A n0 s0 aw pc ls st S := by
  obtain ⟨hx, hb, hml, hown, hts, hnm, hC, hty, hA, hbA, hbl, hL, hR1, hR2⟩ := hF
  simp only [am_ok] at hk
  simp only [am_o5] at h
  split at h
  · rename_i x hx0
    cases h
    split at hk
    · rename_i i
      simp only [Bool.and_eq_true, decide_eq_true_eq, beq_iff_eq] at hk
      obtain ⟨⟨h1, rfl⟩, h2⟩ := hk
      intro H locs lsC hE
      obtain ⟨hP, hD, hS, hw, hl, hv⟩ := hE
      have hx0 : ls[i]? = some (some (.inl x)) := hx0
      obtain ⟨kk, hkk⟩ := List.getElem?_of_mem (am_lv_mem (aw := aw) (b := b) (t0 := t0) (q := (i, .int x)).mpr ⟨.inl x, hx0, rfl⟩)
      exact lv_iinc hx hb h1 hl.has (k := kk) hkk rfl h2 rfl (fun ls' h' => k H locs ls' ⟨hP, hD, hS, hw, hl.set (v := .inl (x + Int32.ofInt v)) h2 trivial h', hv⟩)
    · exact absurd hk (by decide)
  · exact absurd h (by simp)
theorem am_q_minS : Cond.static Lib.Math.min.name ∈ lw_tbl := List.mem_of_getElem? (i := 727) (by decide +kernel)
theorem am_q_minC : Cond.code Lib.Math.min.name Lib.Math.min.code 2 (some .int) ∈ lw_tbl := List.mem_of_getElem? (i := 728) (by decide +kernel)
theorem am_q_maxS : Cond.static Lib.Math.max.name ∈ lw_tbl := List.mem_of_getElem? (i := 1014) (by decide +kernel)
theorem am_q_maxC : Cond.code Lib.Math.max.name Lib.Math.max.code 2 (some .int) ∈ lw_tbl := List.mem_of_getElem? (i := 1015) (by decide +kernel)
theorem am_q_math : Cond.initialized "java/lang/Math" ∈ lw_tbl := List.mem_of_getElem? (i := 77) (by decide +kernel)
theorem am_s6 (hF : am_F p s m args meth c R d D tys b t0 L xs A) (hk : am_ok d pc (6, q, v, ys) = true) (h : am_o6 (6, q, v, ys) ls st S = some (pc', ls', st', S')) (hn : n0 ≤ S.2.2.1 ∧ s0 ≤ S.2.2.2) (hroom : S'.2.2.1 ≤ n0 + R.cells ∧ S'.2.2.2 ≤ s0 + R.slots) (k : am_W p l e R s m args below meth c Q d D tys b t0 L xs A n0 s0 aw pc' ls' st' S') : am_W p l e R s m args below meth c Q d D tys b t0 L xs A n0 s0 aw pc ls st S := by
  obtain ⟨hx, hb, hml, hown, hts, hnm, hC, hty, hA, hbA, hbl, hL, hR1, hR2⟩ := hF
  simp only [am_ok] at hk
  simp only [am_o6] at h
  split at h
  · rename_i y x st1
    split at h
    · rename_i z hz
      split at h
      · rename_i hc10
        cases h
        intro H locs lsC hE
        obtain ⟨hP, hD, hS, hw, hl, hv⟩ := hE
        have k' := k H locs lsC ⟨hP, hD, hS, hw, hl, am_vc trivial (fun w hw => hv w (List.mem_cons_of_mem _ (List.mem_cons_of_mem _ hw)))⟩
        split at hk
        · simp only [Bool.and_eq_true, decide_eq_true_eq, beq_iff_eq] at hk
          obtain ⟨⟨h1, rfl⟩, h2⟩ := hk
          have h40 := hc10.resolve_left (by show ¬ (10 < 10); omega)
          cases hz
          exact va_mmin hx hb (hml.trans hl.1.symm) hown (hts _ (am_wdm h2) rfl) (hts _ am_q_minS rfl) (hts _ am_q_math rfl) (hts _ am_q_minC rfl) hR1 (by rw [am_cats]; omega) (by omega) (by omega) h1 k'
        · simp only [Bool.and_eq_true, decide_eq_true_eq, beq_iff_eq] at hk
          obtain ⟨⟨h1, rfl⟩, h2⟩ := hk
          have h40 := hc10.resolve_left (by show ¬ (11 < 10); omega)
          cases hz
          exact va_mmax hx hb (hml.trans hl.1.symm) hown (hts _ (am_wdm h2) rfl) (hts _ am_q_maxS rfl) (hts _ am_q_math rfl) (hts _ am_q_maxC rfl) hR1 (by rw [am_cats]; omega) (by omega) (by omega) h1 k'
        · rename_i bb
          simp only [Bool.and_eq_true, beq_iff_eq] at hk
          obtain ⟨rfl, hk⟩ := hk
          have hz : am_bin bb x y = some z := hz
          unfold am_cb at hk
          split at hk
          · simp only [decide_eq_true_eq] at hk
            cases hz
            exact lv_iadd hx hb hk k'
          · simp only [decide_eq_true_eq] at hk
            cases hz
            exact lv_isub hx hb hk k'
          · simp only [decide_eq_true_eq] at hk
            cases hz
            exact lv_imul hx hb hk k'
          · simp only [decide_eq_true_eq] at hk
            simp only [am_bin] at hz
            split at hz
            · exact absurd hz (by simp)
            · rename_i hne
              cases hz
              exact lv_idiv hx hb hk hne k'
          · simp only [decide_eq_true_eq] at hk
            simp only [am_bin] at hz
            split at hz
            · exact absurd hz (by simp)
            · rename_i hne
              cases hz
              exact lv_irem hx hb hk hne k'
          · simp only [decide_eq_true_eq] at hk
            cases hz
            exact lv_iand hx hb hk k'
          · simp only [decide_eq_true_eq] at hk
            cases hz
            exact lv_ior hx hb hk k'
          · simp only [decide_eq_true_eq] at hk
            cases hz
            exact lv_ishl hx hb hk k'
          · simp only [decide_eq_true_eq] at hk
            cases hz
            exact lv_ishr hx hb hk k'
          · simp only [decide_eq_true_eq] at hk
            cases hz
            exact lv_iushr hx hb hk rfl k'
          · exact absurd hk (by decide)
        · exact absurd hk (by decide)
      · exact absurd h (by simp)
    · exact absurd h (by simp)
  · exact absurd h (by simp)
theorem am_s7 (hF : am_F p s m args meth c R d D tys b t0 L xs A) (hk : am_ok d pc (7, q, v, ys) = true) (h : am_o7 (7, q, v, ys) ls st S = some (pc', ls', st', S')) (k : am_W p l e R s m args below meth c Q d D tys b t0 L xs A n0 s0 aw pc' ls' st' S') : am_W p l e R s m args below meth c Q d D tys b t0 L xs A n0 s0 aw pc ls st S := by
  obtain ⟨hx, hb, hml, hown, hts, hnm, hC, hty, hA, hbA, hbl, hL, hR1, hR2⟩ := hF
  simp only [am_ok, Bool.and_eq_true, beq_iff_eq] at hk
  obtain ⟨rfl, hk⟩ := hk
  simp only [am_o7] at h
  split at h
  · rename_i x st1
    split at h
    · rename_i z hz
      cases h
      intro H locs lsC hE
      obtain ⟨hP, hD, hS, hw, hl, hv⟩ := hE
      have k' := k H locs lsC ⟨hP, hD, hS, hw, hl, am_vc trivial (fun w hw => hv w (List.mem_cons_of_mem _ hw))⟩
      cases ys with
      | nil => simp at hk
      | cons y ys =>
        simp only [List.headD_cons] at hk hz
        split at hk
        · simp only [decide_eq_true_eq] at hk
          cases hz
          exact lv_i2b hx hb hk rfl k'
        · simp only [decide_eq_true_eq] at hk
          cases hz
          exact lv_i2s hx hb hk rfl k'
        · exact absurd hk (by decide)
    · exact absurd h (by simp)
  · exact absurd h (by simp)
theorem am_s8 (hF : am_F p s m args meth c R d D tys b t0 L xs A) (hk : am_ok d pc (8, q, v, ys) = true) (h : am_o8 (8, q, v, ys) ls st S = some (pc', ls', st', S')) (k : am_W p l e R s m args below meth c Q d D tys b t0 L xs A n0 s0 aw pc' ls' st' S') : am_W p l e R s m args below meth c Q d D tys b t0 L xs A n0 s0 aw pc ls st S := by
  obtain ⟨hx, hb, hml, hown, hts, hnm, hC, hty, hA, hbA, hbl, hL, hR1, hR2⟩ := hF
  simp only [am_ok, Bool.and_eq_true, beq_iff_eq, decide_eq_true_eq] at hk
  obtain ⟨hk, rfl⟩ := hk
  simp only [am_o8] at h
  split at h
  · rename_i x st1
    cases h
    intro H locs lsC hE
    obtain ⟨hP, hD, hS, hw, hl, hv⟩ := hE
    have k' := k H locs lsC ⟨hP, hD, hS, hw, hl, am_vc (hv _ List.mem_cons_self) hv⟩
    exact lv_dup hx hb hk (am_cat _ _ _ _) k'
  · exact absurd h (by simp)
theorem am_s9 (hF : am_F p s m args meth c R d D tys b t0 L xs A) (hk : am_ok d pc (9, q, v, ys) = true) (h : am_o9 (9, q, v, ys) ls st S = some (pc', ls', st', S')) (k : am_W p l e R s m args below meth c Q d D tys b t0 L xs A n0 s0 aw pc' ls' st' S') : am_W p l e R s m args below meth c Q d D tys b t0 L xs A n0 s0 aw pc ls st S := by
  obtain ⟨hx, hb, hml, hown, hts, hnm, hC, hty, hA, hbA, hbl, hL, hR1, hR2⟩ := hF
  simp only [am_ok, Bool.and_eq_true, beq_iff_eq, decide_eq_true_eq] at hk
  obtain ⟨hk, rfl⟩ := hk
  simp only [am_o9] at h
  split at h
  · rename_i x y st1
    cases h
    intro H locs lsC hE
    obtain ⟨hP, hD, hS, hw, hl, hv⟩ := hE
    have k' := k H locs lsC ⟨hP, hD, hS, hw, hl, am_vc (hv _ List.mem_cons_self) (am_vc (hv _ (List.mem_cons_of_mem _ List.mem_cons_self)) hv)⟩
    exact lv_dup2_11 hx hb hk (am_cat _ _ _ _) (am_cat _ _ _ _) k'
  · exact absurd h (by simp)
theorem am_s10 (hF : am_F p s m args meth c R d D tys b t0 L xs A) (hk : am_ok d pc (10, q, v, ys) = true) (h : am_o10 (10, q, v, ys) ls st S = some (pc', ls', st', S')) (k : am_W p l e R s m args below meth c Q d D tys b t0 L xs A n0 s0 aw pc' ls' st' S') : am_W p l e R s m args below meth c Q d D tys b t0 L xs A n0 s0 aw pc ls st S := by
  obtain ⟨hx, hb, hml, hown, hts, hnm, hC, hty, hA, hbA, hbl, hL, hR1, hR2⟩ := hF
  simp only [am_ok, Bool.and_eq_true, beq_iff_eq, decide_eq_true_eq] at hk
  obtain ⟨hk, rfl⟩ := hk
  simp only [am_o10] at h
  split at h
  · rename_i x st1
    cases h
    intro H locs lsC hE
    obtain ⟨hP, hD, hS, hw, hl, hv⟩ := hE
    have k' := k H locs lsC ⟨hP, hD, hS, hw, hl, fun w hw => hv w (List.mem_cons_of_mem _ hw)⟩
    exact lv_pop hx hb hk (am_cat _ _ _ _) k'
  · exact absurd h (by simp)
end AmOps1
