section AmOps2
variable {p : Program} {l : Launch} {e : Env} {R : Room} {s : State} {m : MethodId} {args : Array Value} {below : List Frame} {meth : Method} {c : Code} {Q : State → Prop} {d : am_D} {D : va_G} {tys : List (ClassId × FieldType)} {b t0 L : Nat} {xs : Nat → Int32} {A : Nat → Prop} {n0 s0 : Nat} {aw : List (Nat × Nat)} {pc pc' q : Nat} {ls ls' : List (Option am_V)} {st st' : List am_V} {S S' : am_S} {v : Int} {ys : List Nat}
theorem am_s11 (hF : am_F p s m args meth c R d D tys b t0 L xs A) (hk : am_ok d pc (11, q, v, ys) = true) (h : am_o11 (11, q, v, ys) ls st S = some (pc', ls', st', S')) (k : am_W p l e R s m args below meth c Q d D tys b t0 L xs A n0 s0 aw pc' ls' st' S') : am_W p l e R s m args below meth c Q d D tys b t0 L xs A n0 s0 aw pc ls st S := by
  obtain ⟨hx, hb, hml, hown, hts, hnm, hC, hty, hA, hbA, hbl, hL, hR1, hR2⟩ := hF
  simp only [am_ok, Bool.and_eq_true, beq_iff_eq] at hk
  obtain ⟨rfl, hk⟩ := hk
  simp only [am_o11] at h
  split at h
  · rename_i x st1
    generalize ys.headD 0 = bb at hk h
    generalize ys.getD 1 0 = tg at hk h
    intro H locs lsC hE
    obtain ⟨hP, hD, hS, hw, hl, hv⟩ := hE
    have hv1 : ∀ w ∈ st1, am_vd aw L w := fun w hw => hv w (List.mem_cons_of_mem _ hw)
    have hE1 : am_E s d D tys b t0 L xs A aw ls st1 S H locs lsC := ⟨hP, hD, hS, hw, hl, hv1⟩
    have kt : am_cmp bb x 0 → W p l e R s m args below meth c H locs (S.2.2.1 - n0) (S.2.2.2 - s0) Q (F0 m tg lsC (st1.map (am_v aw b t0))) := fun hc => by
      rw [if_pos hc] at h
      cases h
      exact k H locs lsC hE1
    have kf : ¬ am_cmp bb x 0 → W p l e R s m args below meth c H locs (S.2.2.1 - n0) (S.2.2.2 - s0) Q (F0 m (pc + 3) lsC (st1.map (am_v aw b t0))) := fun hc => by
      rw [if_neg hc] at h
      cases h
      exact k H locs lsC hE1
    have ht : (pc : Int) + ((tg : Int) - (pc : Int)) = (tg : Int) := by omega
    unfold am_ci at hk
    split at hk
    · exact lv_if_eq hx hb (of_decide_eq_true hk) ht kt kf
    · exact lv_if_ne hx hb (of_decide_eq_true hk) ht kt (fun hh => kf (fun z => z hh))
    · exact lv_if_lt hx hb (of_decide_eq_true hk) ht kt kf
    · exact lv_if_ge hx hb (of_decide_eq_true hk) ht kt kf
    · exact lv_if_gt hx hb (of_decide_eq_true hk) ht kt kf
    · exact lv_if_le hx hb (of_decide_eq_true hk) ht kt kf
    · exact absurd hk (by decide)
  · exact absurd h (by simp)
theorem am_s12 (hF : am_F p s m args meth c R d D tys b t0 L xs A) (hk : am_ok d pc (12, q, v, ys) = true) (h : am_o12 (12, q, v, ys) ls st S = some (pc', ls', st', S')) (k : am_W p l e R s m args below meth c Q d D tys b t0 L xs A n0 s0 aw pc' ls' st' S') : am_W p l e R s m args below meth c Q d D tys b t0 L xs A n0 s0 aw pc ls st S := by
  obtain ⟨hx, hb, hml, hown, hts, hnm, hC, hty, hA, hbA, hbl, hL, hR1, hR2⟩ := hF
  simp only [am_ok, Bool.and_eq_true, beq_iff_eq] at hk
  obtain ⟨rfl, hk⟩ := hk
  simp only [am_o12] at h
  split at h
  · rename_i y x st1
    generalize ys.headD 0 = bb at hk h
    generalize ys.getD 1 0 = tg at hk h
    intro H locs lsC hE
    obtain ⟨hP, hD, hS, hw, hl, hv⟩ := hE
    have hv1 : ∀ w ∈ st1, am_vd aw L w := fun w hw => hv w (List.mem_cons_of_mem _ (List.mem_cons_of_mem _ hw))
    have hE1 : am_E s d D tys b t0 L xs A aw ls st1 S H locs lsC := ⟨hP, hD, hS, hw, hl, hv1⟩
    have kt : am_cmp bb x y → W p l e R s m args below meth c H locs (S.2.2.1 - n0) (S.2.2.2 - s0) Q (F0 m tg lsC (st1.map (am_v aw b t0))) := fun hc => by
      rw [if_pos hc] at h
      cases h
      exact k H locs lsC hE1
    have kf : ¬ am_cmp bb x y → W p l e R s m args below meth c H locs (S.2.2.1 - n0) (S.2.2.2 - s0) Q (F0 m (pc + 3) lsC (st1.map (am_v aw b t0))) := fun hc => by
      rw [if_neg hc] at h
      cases h
      exact k H locs lsC hE1
    have ht : (pc : Int) + ((tg : Int) - (pc : Int)) = (tg : Int) := by omega
    unfold am_cj at hk
    split at hk
    · exact lv_icmp_eq hx hb (of_decide_eq_true hk) ht kt kf
    · exact lv_icmp_ne hx hb (of_decide_eq_true hk) ht kt (fun hh => kf (fun z => z hh))
    · exact lv_icmp_lt hx hb (of_decide_eq_true hk) ht kt kf
    · exact lv_icmp_ge hx hb (of_decide_eq_true hk) ht kt kf
    · exact lv_icmp_gt hx hb (of_decide_eq_true hk) ht kt kf
    · exact lv_icmp_le hx hb (of_decide_eq_true hk) ht kt kf
    · exact absurd hk (by decide)
  · exact absurd h (by simp)
theorem am_s13 (hF : am_F p s m args meth c R d D tys b t0 L xs A) (hk : am_ok d pc (13, q, v, ys) = true) (h : am_o13 (13, q, v, ys) ls st S = some (pc', ls', st', S')) (k : am_W p l e R s m args below meth c Q d D tys b t0 L xs A n0 s0 aw pc' ls' st' S') : am_W p l e R s m args below meth c Q d D tys b t0 L xs A n0 s0 aw pc ls st S := by
  obtain ⟨hx, hb, hml, hown, hts, hnm, hC, hty, hA, hbA, hbl, hL, hR1, hR2⟩ := hF
  simp only [am_ok, decide_eq_true_eq] at hk
  have h : some (ys.headD 0, ls, st, S) = some (pc', ls', st', S') := h
  cases h
  intro H locs lsC hE
  exact lv_goto hx hb hk (by omega) (k H locs lsC hE)
theorem am_lk_off (x : Int) (dd pc : Nat) : ∀ zs : List Nat, 2 * (am_prs zs pc).length = zs.length → Op.lookupswitch.offset (am_prs zs pc) ((dd : Int) - (pc : Int)) x = (am_lk x dd zs : Int) - (pc : Int)
  | [], _ => by simp [am_prs, am_lk, Op.lookupswitch.offset]
  | [_], h => by simp [am_prs] at h
  | k :: t :: r, h => by
    have h2 : 2 * (am_prs r pc).length = r.length := by simp [am_prs] at h; omega
    have ih := am_lk_off x dd pc r h2
    simp only [am_prs, am_lk]
    by_cases e : x = (k : Int)
    · simp [Op.lookupswitch.offset, e]
    · have e' : ¬ (k : Int) = x := fun z => e z.symm
      simp [Op.lookupswitch.offset, e] at ih ⊢
      first | exact ih | (simp [e']; exact ih)
theorem am_s14 (hF : am_F p s m args meth c R d D tys b t0 L xs A) (hk : am_ok d pc (14, q, v, ys) = true) (h : am_o14 (14, q, v, ys) ls st S = some (pc', ls', st', S')) (k : am_W p l e R s m args below meth c Q d D tys b t0 L xs A n0 s0 aw pc' ls' st' S') : am_W p l e R s m args below meth c Q d D tys b t0 L xs A n0 s0 aw pc ls st S := by
  obtain ⟨hx, hb, hml, hown, hts, hnm, hC, hty, hA, hbA, hbl, hL, hR1, hR2⟩ := hF
  simp only [am_ok, decide_eq_true_eq] at hk
  simp only [am_o14] at h
  generalize ys.tail = zs at hk h
  split at h
  · rename_i x st1
    intro H locs lsC hE
    obtain ⟨hP, hD, hS, hw, hl, hv⟩ := hE
    have hv1 : ∀ w ∈ st1, am_vd aw L w := fun w hw => hv w (List.mem_cons_of_mem _ hw)
    have hE1 : am_E s d D tys b t0 L xs A aw ls st1 S H locs lsC := ⟨hP, hD, hS, hw, hl, hv1⟩
    split at h
    · rename_i hc
      cases h
      exact lv_tableOut hx hb hk (by omega) (by omega) (k H locs lsC hE1)
    · rename_i hc
      cases h
      have hlt : (x.toInt - v).toNat < zs.length := by omega
      refine lv_tableIn hx hb hk (off := ((zs.getD (x.toInt - v).toNat 0 : Nat) : Int) - (pc : Int)) (by omega) (by omega) ?_ (by omega) (k H locs lsC hE1)
      simp [List.getElem?_eq_getElem hlt, List.getD_eq_getElem?_getD]
  · exact absurd h (by simp)
theorem am_s15 (hF : am_F p s m args meth c R d D tys b t0 L xs A) (hk : am_ok d pc (15, q, v, ys) = true) (h : am_o15 (15, q, v, ys) ls st S = some (pc', ls', st', S')) (k : am_W p l e R s m args below meth c Q d D tys b t0 L xs A n0 s0 aw pc' ls' st' S') : am_W p l e R s m args below meth c Q d D tys b t0 L xs A n0 s0 aw pc ls st S := by
  obtain ⟨hx, hb, hml, hown, hts, hnm, hC, hty, hA, hbA, hbl, hL, hR1, hR2⟩ := hF
  simp only [am_ok, Bool.and_eq_true, decide_eq_true_eq] at hk
  obtain ⟨⟨h1, h2⟩, h3⟩ := hk
  simp only [am_o15] at h
  split at h
  · rename_i x st1
    cases h
    intro H locs lsC hE
    obtain ⟨hP, hD, hS, hw, hl, hv⟩ := hE
    exact lv_lookup hx hb h1 (by simpa using h2) (am_lk_off x.toInt (ys.headD 0) pc ys.tail h3) (by omega) (k H locs lsC ⟨hP, hD, hS, hw, hl, fun w hw => hv w (List.mem_cons_of_mem _ hw)⟩)
  · exact absurd h (by simp)
end AmOps2
