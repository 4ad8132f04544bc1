/-! ===== lines ===== -/
def lnI (M : List Nat) (fr to : Nat → Nat) (tx : Nat → List Nat) : Prop := ∀ l, l < 4 → (fr l = 0 ∧ to l = 0 ∧ tx l = []) ∨ (0 < fr l ∧ tx l ≠ [] ∧ to l = fr l - 1 + (tx l).length ∧ to l ≤ M.length ∧ rpn (tx l) 0 ∧ ∀ k (hk : k < (tx l).length), M.reverse[fr l - 1 + k]? = some (tx l)[k])
def upT (t : Nat → List Nat) (l : Nat) (E : List Nat) : Nat → List Nat := fun i => if i = l then E else t i
theorem lnI.add {M E : List Nat} {fr to : Nat → Nat} {tx : Nat → List Nat} {l : Nat} (h : lnI M fr to tx) (hE : E ≠ []) (hw : wfX E 11) : lnI (E ++ M) (upN fr l (M.length + 1)) (upN to l (E ++ M).length) (upT tx l E.reverse) := by
  intro i hi
  by_cases e : i = l
  · subst e
    refine Or.inr ⟨by rw [upN_eq]; omega, ?_, ?_, by rw [upN_eq]; exact Nat.le_refl _, ?_, fun k hk => ?_⟩
    · unfold upT
      rw [if_pos rfl]
      intro z
      exact hE (by rw [← List.reverse_reverse E, z]; rfl)
    · unfold upT
      rw [upN_eq, upN_eq, if_pos rfl, List.length_append, List.length_reverse]
      omega
    · unfold upT
      rw [if_pos rfl]
      exact rpc_n _ 0 (hw 0 (by decide))
    · have e1 : upT tx i E.reverse i = E.reverse := if_pos rfl
      rw [upN_eq, List.reverse_append, List.getElem?_append_right (by rw [List.length_reverse]; omega), List.length_reverse, show M.length + 1 - 1 + k - M.length = k by omega]
      have hk' : k < E.reverse.length := by rw [e1] at hk; exact hk
      rw [List.getElem?_eq_getElem hk']
      congr 1
      simp only [e1]
  · have e1 : upT tx l E.reverse i = tx i := if_neg e
    rcases h i hi with ⟨a1, a2, a3⟩ | ⟨a1, a2, a3, a4, a5, a6⟩
    · exact Or.inl ⟨by rw [upN_ne e]; exact a1, by rw [upN_ne e]; exact a2, by rw [e1]; exact a3⟩
    · refine Or.inr ⟨by rw [upN_ne e]; exact a1, by rw [e1]; exact a2, by rw [upN_ne e, upN_ne e, e1]; exact a3, by rw [upN_ne e, List.length_append]; omega, by rw [e1]; exact a5, fun k hk => ?_⟩
      have hk' : k < (tx i).length := by rw [e1] at hk; exact hk
      rw [upN_ne e, List.reverse_append, List.getElem?_append_left (by rw [List.length_reverse]; omega), a6 k hk']
      congr 1
      simp only [e1]
def RLn (R : am_M) (fr to : Nat → Nat) : Prop := ∀ l, l < 4 → R 362 l = nI (fr l - 1) ∧ R 363 l = nI (to l)
def frW (R R' : am_M) : Prop := (∀ c, c ≠ 330 → (c < 360 ∨ 364 ≤ c) → R' c = R c) ∧ ∀ k, (k < 37 ∨ 41 ≤ k) → R' 330 k = R 330 k
theorem frZ.W {R R' : am_M} (h : frZ R R') : frW R R' := ⟨fun c a1 a2 => h.1 c a1 (by omega) (by omega), h.2⟩
theorem frW.tr {R R' R'' : am_M} (h : frW R R') (h2 : frW R' R'') : frW R R'' := ⟨fun c a1 a2 => (h2.1 c a1 a2).trans (h.1 c a1 a2), fun k hk => (h2.2 k hk).trans (h.2 k hk)⟩
theorem RLn.Z {R R' : am_M} {fr to : Nat → Nat} (h : RLn R fr to) (z : frZ R R') : RLn R' fr to := fun l hl => ⟨by rw [z.1 362 (by decide) (by decide) (by decide)]; exact (h l hl).1, by rw [z.1 363 (by decide) (by decide) (by decide)]; exact (h l hl).2⟩
section Txt
variable {I R : am_M} {P : am_Q} {b : Nat → Nat} {n : Nat}
/-- behind a line -/
def LEn (b : Nat → Nat) (n : Nat) (R : am_M) (M : List Nat) (h : Nat) (S : PS) (tx : Nat → List Nat) : Prop := RSt b n R M h 0 ∧ M.length ≤ h ∧ h ≤ n ∧ 0 < h ∧ (S.st = 3 ∨ S.st = 4) ∧ (S.st = 3 → h < n → ¬ (48 ≤ b h ∧ b h ≤ 57)) ∧ S.op = 0 ∧ pwF 110 S.ws S.cs = (M, []) ∧ RLn R (clS S).fr (clS S).to ∧ lnI M (clS S).fr (clS S).to tx ∧ (h < n → nbS (b h))
theorem tk_eq {S : PS} {c : Nat} (h : S.st = 1) (hc : c ≠ 32) : tkF S c = (if c = 61 then some (stS S 2) else none) := by
  unfold tkF
  rw [if_neg hc, if_neg (by omega), if_pos h]
theorem m_line (hS : SP P) (hn : n ≤ 80) (hb : ∀ k, k < n → b k < 256) {M : List Nat} {h : Nat} {S : PS} {tx : Nat → List Nat} (s : RSt b n R M h 0) (hM : M.length ≤ h) (hh : h ≤ n) (k1 : S.st = 0) (k2 : S.cs = M) (k3 : S.ws = []) (k4 : S.op = 0) (k5 : S.ls = M.length) (hL : RLn R S.fr S.to) (hI : lnI M S.fr S.to tx) : ∃ R' j, fM_readLine P (am_pk 330 0 13) (put I R) = some (put I R') ∧ h ≤ j ∧ j ≤ n ∧ frW R R' ∧ ((∃ M' S' tx', LEn b n R' M' j S' tx' ∧ RC b n h S j S' ∧ S'.ln = S.ln) ∨ (R' 330 38 = nI j ∧ R' 330 40 = 1 ∧ stkP b n h S j)) := by
  obtain ⟨R1, y1, y2, y3⟩ := m_sk (I := I) hS hn hb hh s
  obtain ⟨t1, t2, t3, t4⟩ := skP_s (b := b) hh
  have r0 : RC b n h S (skP b n h) S := RC.sk hh (by omega)
  generalize hk : skP b n h = k at *
  have bad : (k < n → ltF (b k) = none) → ∃ R' j, fM_readLine_J50 P (am_pk 330 0 13) (-1) (put I R1) = some (put I R') ∧ h ≤ j ∧ j ≤ n ∧ frW R R' ∧ ((∃ M' S' tx', LEn b n R' M' j S' tx' ∧ RC b n h S j S' ∧ S'.ln = S.ln) ∨ (R' 330 38 = nI j ∧ R' 330 40 = 1 ∧ stkP b n h S j)) := by
    intro hv
    refine ⟨am_up R1 330 40 1, k, ?_, t1, t2, (y3.tr (frZ.up (by decide) (by decide))).W, Or.inr ⟨by rw [am_up_nk (by decide)]; exact y2.2.2.1, am_up_eq, S, r0, fun z => ?_, fun _ => Or.inl (by omega)⟩⟩
    · unfold fM_readLine_J50
      rw [if_neg (by decide), sm_ck_pos (am_t_pk (by decide)), put_up sc_330, bd_eq]
    · unfold tkF
      rw [if_neg (t4 z), if_pos k1, hv z]
  have good : ∀ (l : Nat) (lv : Int32), lv = nI l → l < 4 → k < n → ltF (b k) = some l → ∃ R' j, fM_readLine_J50 P (am_pk 330 0 13) lv (put I R1) = some (put I R') ∧ h ≤ j ∧ j ≤ n ∧ frW R R' ∧ ((∃ M' S' tx', LEn b n R' M' j S' tx' ∧ RC b n h S j S' ∧ S'.ln = S.ln) ∨ (R' 330 38 = nI j ∧ R' 330 40 = 1 ∧ stkP b n h S j)) := by
    intro l lv el hl qn hlt
    subst el
    have qn1 : k + 1 ≤ n := qn
    have r1 : RC b n h S (k + 1) (mkS 1 S.cs S.ws S.op S.ln l S.ls S.fr S.to) := r0.tr (RC.st qn (by
      unfold tkF
      rw [if_neg (t4 qn), if_pos k1, hlt]))
    have s1 := y2.hr (h' := k + 1)
    obtain ⟨R2, z1, z2, z3⟩ := m_may (I := I) hS hn hb (c := 61) (cv := 61) rfl (by decide) qn1 s1
    obtain ⟨u1, u2, u3, u4⟩ := skP_s (b := b) qn1
    have r2 := r1.tr (RC.sk (S := mkS 1 S.cs S.ws S.op S.ln l S.ls S.fr S.to) qn1 (show (1 : Nat) ≠ 3 by decide))
    have f2 : frZ R R2 := y3.tr ((frZ.up (by decide) (by decide)).tr z3)
    unfold fM_readLine_J50
    rw [if_pos (nI_pos' (by omega)), sm_ck_pos (am_t_pk (by decide)), put_rd sc_330, y2.2.2.1, put_up sc_330, nI_1, bd_eq, z1, Option.bind_some]
    dsimp only
    rw [bI_ifn]
    by_cases q61 : skP b n (k + 1) < n ∧ b (skP b n (k + 1)) = 61
    · rw [cif_t q61] at z2
      have r3 : RC b n h S (skP b n (k + 1) + 1) (mkS 2 S.cs S.ws S.op S.ln l S.ls S.fr S.to) := r2.tr (RC.st q61.1 (by
        rw [q61.2, tk_eq rfl (by decide), if_pos rfl]
        rfl))
      obtain ⟨R3, j, w1, w2, w3, w4, w5⟩ := rd_S (I := I) (P := P) hS hn hb 4 6 0 rfl (by decide) R2 M (skP b n (k + 1) + 1) (mkS 2 S.cs S.ws S.op S.ln l S.ls S.fr S.to) z2 (by omega) q61.1 rfl k2 k4 (by show tpL S.ws 110; rw [k3]; intro a r e; exact absurd e (by simp))
      have e37 : R2 330 37 = nI M.length := z2.2.1.1
      rw [if_pos q61, put_rd sc_330, e37, bd_eq, w1, Option.bind_some, sp_330_35 hS, sp_330_36 hS, sm_ck_pos (sm_iw_nI (by decide) (by decide) hl), nI_clamp (show l < 2 ^ 31 by omega), put_up sc_362, bd_eq, sm_ck_pos (sm_iw_nI (by decide) (by decide) hl), put_rd sc_330, show am_up R3 362 l (nI M.length) 330 37 = R3 330 37 from am_up_ne (by decide), put_up sc_363, bd_eq]
      have f4 : frW R (am_up (am_up R3 362 l (nI M.length)) 363 l (R3 330 37)) := (f2.tr w4).W.tr ⟨fun c a1 a2 => by funext j; rw [am_up_ne (by omega), am_up_ne (by omega)], fun k hk => by rw [am_up_ne (by decide), am_up_ne (by decide)]⟩
      rcases w5 with ⟨E, s3, c3, q3, a1, a2, a3, a4, a5, a6, a7, a8, a9⟩ | ⟨M', a1, a2, a3, a4, a5⟩
      · have e37' : R3 330 37 = nI (E ++ M).length := a1.2.1.1
        have hlen : (E ++ M).length = E.length + M.length := List.length_append
        have cl : clS (cqS (mkS 2 S.cs S.ws S.op S.ln l S.ls S.fr S.to) s3 c3 q3) = mkS s3 (pwF 110 q3 c3).1 (pwF 110 q3 c3).2 S.op (S.ln + 1) l (pwF 110 q3 c3).1.length (upN S.fr l (S.ls + 1)) (upN S.to l (pwF 110 q3 c3).1.length) := rfl
        have a8' : pwF 110 q3 c3 = (E ++ M, []) := by rw [a8]; show (_, S.ws) = _; rw [k3]
        rw [a8'] at cl
        refine ⟨_, j, rfl, by omega, w3, f4, Or.inl ⟨E ++ M, cqS (mkS 2 S.cs S.ws S.op S.ln l S.ls S.fr S.to) s3 c3 q3, upT tx l E.reverse, ⟨?_, by omega, w3, by omega, a6, a7, k4, a8', ?_, ?_, a9⟩, r3.tr a5, rfl⟩⟩
        · refine ⟨⟨by rw [am_up_ne (by decide), am_up_ne (by decide)]; exact a1.1.1, fun i hi => by rw [am_up_ne (by decide), am_up_ne (by decide)]; exact a1.1.2 i hi⟩, ⟨by rw [am_up_ne (by decide), am_up_ne (by decide)]; exact a1.2.1.1, a1.2.1.2.1.fr (fun i _ => by rw [am_up_ne (by decide), am_up_ne (by decide)]), a1.2.1.2.2.fr (fun i _ => by rw [am_up_ne (by decide), am_up_ne (by decide)])⟩, ?_, ?_, ?_⟩
          · rw [am_up_ne (by decide), am_up_ne (by decide)]; exact a1.2.2.1
          · rw [am_up_ne (by decide), am_up_ne (by decide)]; exact a1.2.2.2.1
          · rw [am_up_ne (by decide), am_up_ne (by decide)]; exact a1.2.2.2.2
        · rw [cl]
          intro i hi
          show _ = nI (upN S.fr l (S.ls + 1) i - 1) ∧ _ = nI (upN S.to l (E ++ M).length i)
          by_cases e : i = l
          · rw [e, am_up_ne (by decide), am_up_eq, am_up_eq, upN_eq, upN_eq, e37', k5]
            exact ⟨rfl, rfl⟩
          · rw [am_up_ne (by decide), am_up_nk e, am_up_nk e, am_up_ne (by decide), upN_ne e, upN_ne e]
            exact (hL.Z (f2.tr w4)) i hi
        · rw [cl]
          show lnI (E ++ M) (upN S.fr l (S.ls + 1)) (upN S.to l (E ++ M).length) (upT tx l E.reverse)
          rw [k5]
          exact hI.add a2 a3
      · exact ⟨_, j, rfl, by omega, w3, f4, Or.inr ⟨by rw [am_up_ne (by decide), am_up_ne (by decide)]; exact a3, by rw [am_up_ne (by decide), am_up_ne (by decide)]; exact a4, a5.pre r3⟩⟩
    · rw [cif_f q61] at z2
      rw [if_neg q61, put_up sc_330, bd_eq]
      refine ⟨_, skP b n (k + 1), rfl, by omega, u2, (f2.tr (frZ.up (by decide) (by decide))).W, Or.inr ⟨by rw [am_up_nk (by decide)]; exact z2.2.2.1, am_up_eq, _, r2, fun z => ?_, fun _ => Or.inl (show 1 < 3 by decide)⟩⟩
      rw [tk_eq rfl (u4 z), if_neg (fun y => q61 ⟨z, y⟩)]
  unfold fM_readLine
  rw [sm_ck_pos (am_t_pk (by decide)), y1, Option.bind_some, m_byte hS hn t2 y2.1 y2.2.2.1, Option.bind_some]
  simp only [show (112 : Int32) = nI 112 from rfl, show (113 : Int32) = nI 113 from rfl, show (117 : Int32) = nI 117 from rfl, show (118 : Int32) = nI 118 from rfl, by_eq hb (show 112 < 256 by decide), by_eq hb (show 113 < 256 by decide), by_eq hb (show 117 < 256 by decide), by_eq hb (show 118 < 256 by decide)]
  by_cases e1 : k < n ∧ b k = 112
  · rw [if_neg (fun z => z e1)]
    exact good 0 0 rfl (by decide) e1.1 (by rw [e1.2]; rfl)
  · rw [if_pos e1]
    by_cases e2 : k < n ∧ b k = 113
    · rw [if_neg (fun z => z e2)]
      exact good 1 1 rfl (by decide) e2.1 (by rw [e2.2]; rfl)
    · rw [if_pos e2]
      by_cases e3 : k < n ∧ b k = 117
      · rw [if_neg (fun z => z e3)]
        exact good 2 2 rfl (by decide) e3.1 (by rw [e3.2]; rfl)
      · rw [if_pos e3]
        by_cases e4 : k < n ∧ b k = 118
        · rw [if_neg (fun z => z e4)]
          exact good 3 3 rfl (by decide) e4.1 (by rw [e4.2]; rfl)
        · rw [if_pos e4]
          exact bad (fun z => by unfold ltF; rw [if_neg (fun y => e1 ⟨z, y⟩), if_neg (fun y => e2 ⟨z, y⟩), if_neg (fun y => e3 ⟨z, y⟩), if_neg (fun y => e4 ⟨z, y⟩)])
theorem stkP.flt {j : Nat} (hj : j ≤ n) (h : stkP b n 0 S00 j) : fltP b n j := by
  obtain ⟨S', r, h1, h2⟩ := h
  have e := r.2.2
  rw [Nat.sub_zero] at e
  refine ⟨hj, ?_⟩
  by_cases q : j < n
  · left
    rw [e, show n - j = (n - j - 1) + 1 by omega]
    exact rnF_n (h1 q)
  · have ej : j = n := by omega
    right
    refine ⟨S', ?_, fun z => ?_, ej⟩
    · rw [e, ej, Nat.sub_self]; rfl
    · rcases h2 ej with y | y
      · have := z.1; omega
      · exact y z.2.1
/-- what isText tells -/
def itR (b : Nat → Nat) (n : Nat) (v : Int32) (R' : am_M) : Prop := (v = 0 ∧ ∃ j, R' 330 38 = nI j ∧ fltP b n j) ∨ (v = 1 ∧ ∃ S M tx, rnF b n 0 S00 = (n, some S) ∧ clP b n S ∧ pwF 110 S.ws S.cs = (M, []) ∧ RMd R' M ∧ RLn R' (clS S).fr (clS S).to ∧ lnI M (clS S).fr (clS S).to tx ∧ M.length ≤ 80)
theorem m_j78B (hn : n ≤ 80) {j : Nat} (hj : j ≤ n) (e1 : R 330 38 = nI j) (e2 : R 330 40 = 1) (h : stkP b n 0 S00 j) : ∃ v R', fM_isText_J78 P (am_pk 330 0 13) (put I R) = some (v, put I R') ∧ R' = am_up R 330 32 0 ∧ itR b n v R' := by
  refine ⟨0, _, ?_, rfl, Or.inl ⟨rfl, j, by rw [am_up_nk (by decide)]; exact e1, h.flt hj⟩⟩
  unfold fM_isText_J78
  rw [sm_ck_pos (am_t_pk (by decide)), put_rd sc_330, e2, if_pos (by decide), put_up sc_330, bd_eq]
theorem m_j78G (hS : SP P) (hn : n ≤ 80) (hb : ∀ k, k < n → b k < 256) {M : List Nat} {h : Nat} {S : PS} {tx : Nat → List Nat} (L : LEn b n R M h S tx) (r : RC b n 0 S00 h S) (h59 : h < n → b h = 59 → ¬ S.ln + 1 < 6) : ∃ v R', fM_isText_J78 P (am_pk 330 0 13) (put I R) = some (v, put I R') ∧ R' = am_up R 330 32 0 ∧ itR b n v R' := by
  obtain ⟨s, l1, l2, l3, l4, l5, l6, l7, l8, l9, l10⟩ := L
  have e := r.2.2
  rw [Nat.sub_zero] at e
  unfold fM_isText_J78
  rw [sm_ck_pos (am_t_pk (by decide)), put_rd sc_330, put_rd sc_330, put_rd sc_330, s.2.2.2.2, if_neg (fun z => z rfl), s.2.2.1, s.1.1]
  by_cases q : h = n
  · subst q
    rw [if_neg (fun z => z rfl)]
    rw [Nat.sub_self] at e
    obtain ⟨k, rfl⟩ : ∃ k, h = k + 1 := ⟨h - 1, by omega⟩
    have eb : R 359 k = nI (b k) := s.1.2 k (by omega)
    rw [← nI_dm, pk_m1, sp_330_31 hS, sm_ck_pos (sm_in_nI (by decide) (by omega)), nI_clamp (show k < 2 ^ 31 by omega), put_rd sc_359, eb, put_up sc_330, bd_eq, bd_eq]
    by_cases q32 : b k = 32
    · rw [if_pos (by rw [q32]; rfl)]
      refine ⟨0, _, rfl, rfl, Or.inl ⟨rfl, k + 1, by rw [am_up_nk (by decide)]; exact s.2.2.1, Nat.le_refl _, Or.inr ⟨S, e, fun z => z.2.2.2 q32, rfl⟩⟩⟩
    · rw [if_neg (by rw [show (32 : Int32) = nI 32 from rfl, nk (hb k (by omega)) (by decide)]; exact q32)]
      refine ⟨1, _, rfl, rfl, Or.inr ⟨rfl, S, M, tx, e, ⟨by omega, l6, by omega, q32⟩, l7, s.2.1.up (by decide), fun l hl => ?_, l9, by omega⟩⟩
      rw [am_up_ne (by decide), am_up_ne (by decide)]
      exact l8 l hl
  · rw [if_pos (by rw [nI_eq (by omega) (by omega)]; exact q), put_up sc_330, bd_eq]
    have hx := l10 (by omega)
    refine ⟨0, _, rfl, rfl, Or.inl ⟨rfl, h, by rw [am_up_nk (by decide)]; exact s.2.2.1, l2, Or.inl ?_⟩⟩
    rw [e, show n - h = (n - h - 1) + 1 by omega]
    refine rnF_n ?_
    rw [tk_jt l4 hx.1.2.1 (fun z => l5 z (by omega))]
    exact jt_none hx.1.2.2.2 (fun _ => l6) hx.1.2.2.1 hx.2.2.1 hx.2.2.2 (fun z => Or.inr (h59 (by omega) z))
theorem m_lines (hS : SP P) (hn : n ≤ 80) (hb : ∀ k, k < n → b k < 256) : ∀ (d i fu : Nat) (R : am_M) (M : List Nat) (h : Nat) (S : PS) (tx : Nat → List Nat), d < fu → i + d = 6 → S.ln + 1 = i → LEn b n R M h S tx → RC b n 0 S00 h S → ∃ v R' R1, fM_isText_L53 P (fun l0 I => fM_isText_J78 P l0 I) fu (am_pk 330 0 13) (nI i) (put I R) = some (v, put I R') ∧ R' = am_up R1 330 32 0 ∧ frW R R1 ∧ itR b n v R'
  | 0, i, fu, R, M, h, S, tx, h1, h2, h3, L, r => by
    obtain ⟨fu, rfl⟩ : ∃ n', fu = n' + 1 := ⟨fu - 1, by omega⟩
    obtain ⟨v, R', y1, y2, y3⟩ := m_j78G (I := I) hS hn hb L r (fun _ _ => by omega)
    refine ⟨v, R', R, ?_, y2, frZ.rfl.W, y3⟩
    show fM_isText_B53 _ _ _ _ _ _ = _
    unfold fM_isText_B53
    rw [if_pos (by rw [show (6 : Int32) = nI 6 from rfl, nI_leI (by decide) (by omega)]; omega)]
    exact y1
  | d + 1, i, fu, R, M, h, S, tx, h1, h2, h3, L, r => by
    obtain ⟨fu, rfl⟩ : ∃ n', fu = n' + 1 := ⟨fu - 1, by omega⟩
    obtain ⟨s, l1, l2, l3, l4, l5, l6, l7, l8, l9, l10⟩ := id L
    obtain ⟨R1, y1, y2, y3⟩ := m_may (I := I) hS hn hb (c := 59) (cv := 59) rfl (by decide) l2 s
    have ej : skP b n h = h := by
      obtain ⟨u1, u2, u3, u4⟩ := skP_s (b := b) l2
      by_cases z : skP b n h = h
      · exact z
      · exact absurd (u3 h (Nat.le_refl _) (by omega)) (l10 (by omega)).2.1
    rw [ej] at y1 y2
    show ∃ v R' R1, fM_isText_B53 _ _ _ _ _ _ = _ ∧ _
    unfold fM_isText_B53
    rw [if_neg (by rw [show (6 : Int32) = nI 6 from rfl, nI_leI (by decide) (by omega)]; omega), sm_ck_pos (am_t_pk (by decide)), y1, Option.bind_some]
    dsimp only
    rw [bI_if]
    by_cases q : h < n ∧ b h = 59
    · rw [cif_t q] at y2
      have hx := l10 q.1
      have r1 : RC b n 0 S00 (h + 1) (stS (clS S) 0) := r.tr (RC.st q.1 (by
        rw [q.2, tk_jt l4 (by decide) (fun _ => by decide)]
        unfold jtF
        rw [if_neg (by decide), if_neg (by decide), if_neg (by decide), if_neg (by decide), if_neg (by decide), if_pos rfl, if_neg (by omega), if_pos (by omega)]))
      have hc : (clS S).cs = M := by show (pwF 110 S.ws S.cs).1 = M; rw [l7]
      have hw : (clS S).ws = [] := by show (pwF 110 S.ws S.cs).2 = []; rw [l7]
      have hls : (clS S).ls = M.length := by show (pwF 110 S.ws S.cs).1.length = M.length; rw [l7]
      obtain ⟨R2, j, z1, z2, z3, z4, z5⟩ := m_line (I := I) (S := stS (clS S) 0) hS hn hb y2 (by omega) q.1 rfl hc hw l6 hls (l8.Z y3) l9
      rw [if_pos q, z1, Option.bind_some, bd_eq, nI_1]
      rcases z5 with ⟨M', S', tx', a1, a2, a3⟩ | ⟨a1, a2, a3⟩
      · obtain ⟨v, R', R3, w1, w2, w3, w4⟩ := m_lines hS hn hb d (i + 1) fu R2 M' j S' tx' (by omega) (by omega) (by rw [a3]; show S.ln + 1 + 1 = i + 1; omega) a1 (r1.tr a2)
        exact ⟨v, R', R3, w1, w2, y3.W.tr (z4.tr w3), w4⟩
      · obtain ⟨v, R', w1, w2, w3⟩ := m_j78B (I := I) (P := P) hn z3 a1 a2 (a3.pre r1)
        refine ⟨v, R', R2, ?_, w2, y3.W.tr z4, w3⟩
        obtain ⟨fu, rfl⟩ : ∃ n', fu = n' + 1 := ⟨fu - 1, by omega⟩
        show fM_isText_B53 _ _ _ _ _ _ = _
        unfold fM_isText_B53
        by_cases q6 : (6 : Int32) ≤ nI (i + 1)
        · rw [if_pos q6]
          exact w1
        · rw [if_neg q6, sm_ck_pos (am_t_pk (by decide)), m_mayB (by rw [a2]; decide), Option.bind_some]
          dsimp only
          rw [if_pos rfl, w1]
    · rw [cif_f q] at y2
      rw [if_neg q]
      obtain ⟨v, R', w1, w2, w3⟩ := m_j78G (I := I) hS hn hb (R := R1) (M := M) (h := h) (S := S) (tx := tx) ⟨y2, l1, l2, l3, l4, l5, l6, l7, l8.Z y3, l9, l10⟩ r (fun z y => absurd ⟨z, y⟩ q)
      exact ⟨v, R', R1, w1, w2, y3.W, w3⟩
theorem m_it22 (hS : SP P) {ex : Nat → am_M → Option (Int32 × am_M)} : ∀ (d i fu : Nat) (R : am_M), d < fu → i + d = 4 → (∀ l, l < i → R 362 l = 0 ∧ R 363 l = 0) → ∃ R', fM_isText_L22 P ex fu (am_pk 330 0 13) (nI i) (put I R) = ex (am_pk 330 0 13) (put I R') ∧ (∀ l, l < 4 → R' 362 l = 0 ∧ R' 363 l = 0) ∧ ∀ c, c ≠ 362 → c ≠ 363 → R' c = R c
  | 0, i, fu, R, h1, h2, h3 => by
    obtain ⟨fu, rfl⟩ : ∃ n', fu = n' + 1 := ⟨fu - 1, by omega⟩
    refine ⟨R, ?_, fun l hl => h3 l (by omega), fun _ _ _ => rfl⟩
    show fM_isText_B22 _ _ _ _ _ _ = _
    unfold fM_isText_B22
    rw [if_pos (by rw [show (4 : Int32) = nI 4 from rfl, nI_leI (by decide) (by omega)]; omega)]
  | d + 1, i, fu, R, h1, h2, h3 => by
    obtain ⟨fu, rfl⟩ : ∃ n', fu = n' + 1 := ⟨fu - 1, by omega⟩
    obtain ⟨R', y1, y2, y3⟩ := m_it22 hS (ex := ex) d (i + 1) fu (am_up (am_up R 362 i 0) 363 i 0) (by omega) (by omega) (fun l hl => by
      by_cases e : l = i
      · rw [e, am_up_ne (by decide), am_up_eq, am_up_eq]; exact ⟨rfl, rfl⟩
      · rw [am_up_ne (by decide), am_up_nk e, am_up_nk e, am_up_ne (by decide)]; exact h3 l (by omega))
    refine ⟨R', ?_, y2, fun c a1 a2 => by rw [y3 c a1 a2]; funext j; rw [am_up_ne a2, am_up_ne a1]⟩
    show fM_isText_B22 _ _ _ _ _ _ = _
    unfold fM_isText_B22
    rw [if_neg (by rw [show (4 : Int32) = nI 4 from rfl, nI_leI (by decide) (by omega)]; omega), sm_ck_pos (am_t_pk (by decide)), sp_330_35 hS, sp_330_36 hS, sm_ck_pos (sm_iw_nI (by decide) (by decide) (by omega)), nI_clamp (show i < 2 ^ 31 by omega), put_up sc_362, bd_eq, sm_ck_pos (sm_iw_nI (by decide) (by decide) (by omega)), put_up sc_363, bd_eq, bd_eq, nI_1]
    exact y1
theorem m_isText (hS : SP P) (hn : n ≤ 80) (hb : ∀ k, k < n → b k < 256) (t : RTp b n R) : ∃ v R' R1, fM_isText P (am_pk 330 0 13) (put I R) = some (v, put I R') ∧ R' = am_up R1 330 32 0 ∧ frW R R1 ∧ itR b n v R' := by
  obtain ⟨R0, e0⟩ : ∃ R0, R0 = am_up (am_up (am_up (am_up R 330 37 0) 330 38 0) 330 39 0) 330 40 0 := ⟨_, rfl⟩
  obtain ⟨R1, y1, y2, y3⟩ := m_it22 (I := I) (P := P) hS (ex := fun l0 I =>
      sm_ck (am_t l0 = 13) <|
      Option.bind (fM_readLine P l0 I) fun y14 =>
      fM_isText_L53 P (fun l0 I =>
          fM_isText_J78 P l0 I) sm_fu l0 1 y14) 4 0 sm_fu R0 (sm_fu_lt (by decide)) (by decide) (fun l hl => absurd hl (Nat.not_lt_zero _))
  have f0 : frZ R R0 := by
    rw [e0]
    exact (frZ.up (by decide) (by decide)).tr ((frZ.up (by decide) (by decide)).tr ((frZ.up (by decide) (by decide)).tr (frZ.up (by decide) (by decide))))
  have f1 : frW R R1 := f0.W.tr ⟨fun c a1 a2 => y3 c (by omega) (by omega), fun k _ => by rw [y3 330 (by decide) (by decide)]⟩
  have r330 : R1 330 = R0 330 := y3 330 (by decide) (by decide)
  have s1 : RSt b n R1 [] 0 0 := by
    refine ⟨⟨by rw [f1.2 32 (by decide)]; exact t.1, fun k hk => by rw [f1.1 359 (by decide) (by decide)]; exact t.2 k hk⟩, ⟨?_, trivial, trivial⟩, ?_, ?_, ?_⟩
    · rw [r330, e0, am_up_nk (by decide), am_up_nk (by decide), am_up_nk (by decide), am_up_eq]; rfl
    · rw [r330, e0, am_up_nk (by decide), am_up_nk (by decide), am_up_eq]; rfl
    · rw [r330, e0, am_up_nk (by decide), am_up_eq]; rfl
    · rw [r330, e0, am_up_eq]
  obtain ⟨R2, j, z1, z2, z3, z4, z5⟩ := m_line (I := I) (S := S00) (tx := fun _ => []) hS hn hb s1 (Nat.le_refl _) (Nat.zero_le _) rfl rfl rfl rfl rfl (fun l hl => ⟨(y2 l hl).1, (y2 l hl).2⟩) (fun l hl => Or.inl ⟨rfl, rfl, rfl⟩)
  have start : fM_isText P (am_pk 330 0 13) (put I R) = fM_isText_L53 P (fun l0 I => fM_isText_J78 P l0 I) sm_fu (am_pk 330 0 13) 1 (put I R2) := by
    unfold fM_isText
    rw [sm_ck_pos (am_t_pk (by decide)), put_up sc_330, bd_eq, put_up sc_330, bd_eq, put_up sc_330, bd_eq, put_up sc_330, bd_eq, ← e0]
    refine Eq.trans y1 ?_
    rw [sm_ck_pos (am_t_pk (by decide)), z1, Option.bind_some]
  rw [start, show (1 : Int32) = nI 1 from rfl]
  rcases z5 with ⟨M', S', tx', a1, a2, a3⟩ | ⟨a1, a2, a3⟩
  · obtain ⟨v, R', R3, w1, w2, w3, w4⟩ := m_lines (I := I) hS hn hb 5 1 sm_fu R2 M' j S' tx' (sm_fu_lt (by decide)) (by decide) (by rw [a3]; rfl) a1 a2
    exact ⟨v, R', R3, w1, w2, f1.tr (z4.tr w3), w4⟩
  · obtain ⟨v, R', w1, w2, w3⟩ := m_j78B (I := I) (P := P) hn z3 a1 a2 a3
    refine ⟨v, R', R2, ?_, w2, f1.tr z4, w3⟩
    rw [show sm_fu = 19999 + 1 from rfl]
    show fM_isText_B53 _ _ _ _ _ _ = _
    unfold fM_isText_B53
    rw [if_neg (by decide), sm_ck_pos (am_t_pk (by decide)), m_mayB (by rw [a2]; decide), Option.bind_some]
    dsimp only
    rw [if_pos rfl, w1]
end Txt
