/-! ===== reading a text: the reference, signs ===== -/
def stkP (b : Nat → Nat) (n i : Nat) (S : PS) (j : Nat) : Prop := ∃ S', RC b n i S j S' ∧ (j < n → tkF S' (b j) = none) ∧ (j = n → S'.st < 3 ∨ S'.op ≠ 0)
theorem stkP.pre {b : Nat → Nat} {n i k j : Nat} {S S' : PS} (h : RC b n i S k S') (h2 : stkP b n k S' j) : stkP b n i S j := by
  obtain ⟨S2, r, s⟩ := h2
  exact ⟨S2, h.tr r, s⟩
/-- what a reader of the reference keeps -/
def SPc (I : am_M) (P : am_Q) (b : Nat → Nat) (n : Nat) (F : am_Q → Nat → am_M → Option am_M) (o lvl q : Nat) (nb : Nat → Prop) : Prop := ∀ (R : am_M) (M : List Nat) (h : Nat) (S : PS), RSt b n R M h o → M.length ≤ h → h ≤ n → S.st = 2 → S.cs = M → S.op = o → tpL S.ws lvl → ∃ R' j, F P (am_pk 330 0 13) (put I R) = some (put I R') ∧ h ≤ j ∧ j ≤ n ∧ frZ R R' ∧ ((∃ E s c w, RSt b n R' (E ++ M) j o ∧ E ≠ [] ∧ wfX E q ∧ E.length + h ≤ j ∧ RC b n h S j (cqS S s c w) ∧ (s = 3 ∨ s = 4) ∧ (s = 3 → j < n → ¬ (48 ≤ b j ∧ b j ≤ 57)) ∧ pwF lvl w c = (E ++ M, S.ws) ∧ (j < n → nb (b j))) ∨ ∃ M', RMd R' M' ∧ M'.length + h ≤ M.length + j ∧ R' 330 38 = nI j ∧ R' 330 40 = 1 ∧ stkP b n h S j)
/-- a sign C with its code x -/
def opP (lvl C x : Nat) : Prop := 110 ≤ x ∧ x < 114 ∧ lvl ≤ x ∧ (if x < 112 then 110 else 112) = lvl ∧ (∀ S, jtF S C = some (opS S x)) ∧ cdF x = (2, nI C) ∧ C < 256 ∧ C ≠ 32 ∧ ¬ (48 ≤ C ∧ C ≤ 57) ∧ C ≠ 0
theorem opP_42 : opP 112 42 112 := ⟨by decide, by decide, by decide, by decide, fun S => by unfold jtF; rw [if_neg (by decide), if_neg (by decide), if_pos rfl], rfl, by decide, by decide, by decide, by decide⟩
theorem opP_37 : opP 112 37 113 := ⟨by decide, by decide, by decide, by decide, fun S => by unfold jtF; rw [if_pos rfl], rfl, by decide, by decide, by decide, by decide⟩
theorem opP_43 : opP 110 43 110 := ⟨by decide, by decide, by decide, by decide, fun S => by unfold jtF; rw [if_neg (by decide), if_neg (by decide), if_neg (by decide), if_pos rfl], rfl, by decide, by decide, by decide, by decide⟩
theorem opP_45 : opP 110 45 111 := ⟨by decide, by decide, by decide, by decide, fun S => by unfold jtF; rw [if_neg (by decide), if_neg (by decide), if_neg (by decide), if_neg (by decide), if_pos rfl], rfl, by decide, by decide, by decide, by decide⟩
theorem tk_jt {S : PS} {c : Nat} (h1 : S.st = 3 ∨ S.st = 4) (h2 : c ≠ 32) (h3 : S.st = 3 → ¬ (48 ≤ c ∧ c ≤ 57)) : tkF S c = jtF S c := by
  unfold tkF
  rw [if_neg h2, if_neg (by omega), if_neg (by omega), if_neg (by omega), if_neg (fun z => h3 z.1 z.2)]
noncomputable def rdB (c1 c2 : Int32) (rc : am_Q → Nat → am_M → Option (am_M)) (P : am_Q) (ex : am_M → Option (am_M)) (r34 : Nat → Int32 → am_M → Option (am_M)) (l0 : Nat) (l1 : Int32) (I : am_M) : Option (am_M) :=
  if l1 = 0 then
    (ex I)
  else
    (sm_ck (am_t l0 = 13) <|
    Option.bind (rc P l0 I) fun y9 =>
    Option.bind (fM_does P l0 2 l1 y9) fun y10 =>
    Option.bind (fM_may P l0 c1 y10) fun y11 =>
    if y11.1 = 0 then
      (Option.bind (fM_may P l0 c2 y11.2) fun y13 =>
      if y13.1 = 0 then
        (r34 l0 0 y13.2)
      else
        (r34 l0 c2 y13.2))
    else
      (r34 l0 c1 y11.2))
noncomputable def rgdL (c1 c2 : Int32) (rc : am_Q → Nat → am_M → Option (am_M)) (P : am_Q) (ex : am_M → Option (am_M)) : Nat → Nat → Int32 → am_M → Option (am_M)
  | 0, _, _, _ => none
  | n + 1, l0, l1, I => rdB c1 c2 rc P ex (rgdL c1 c2 rc P ex n) l0 l1 I
noncomputable def rdO (c1 c2 : Int32) (rc : am_Q → Nat → am_M → Option (am_M)) (P : am_Q) (l0 : Nat) (I : am_M) : Option (am_M) :=
  sm_ck (am_t l0 = 13) <|
  Option.bind (rc P l0 I) fun y2 =>
  Option.bind (fM_may P l0 c1 y2) fun y3 =>
  if y3.1 = 0 then
    (Option.bind (fM_may P l0 c2 y3.2) fun y5 =>
    if y5.1 = 0 then
      (rgdL c1 c2 rc P (fun I => some I) sm_fu l0 0 y5.2)
    else
      (rgdL c1 c2 rc P (fun I => some I) sm_fu l0 c2 y5.2))
  else
    (rgdL c1 c2 rc P (fun I => some I) sm_fu l0 c1 y3.2)
theorem rgdL_1 {rc : am_Q → Nat → am_M → Option am_M} {P : am_Q} {ex : am_M → Option am_M} : ∀ (fu : Nat), fM_readOne_O_L34 rc P ex fu = rgdL 42 37 rc P ex fu
  | 0 => rfl
  | fu + 1 => by
    funext l0 l1 I
    show fM_readOne_O_B34 rc P ex (fM_readOne_O_L34 rc P ex fu) l0 l1 I = rdB 42 37 rc P ex (rgdL 42 37 rc P ex fu) l0 l1 I
    rw [rgdL_1 fu]
    rfl
theorem rgdL_2 {rc : am_Q → Nat → am_M → Option am_M} {P : am_Q} {ex : am_M → Option am_M} : ∀ (fu : Nat), fM_readSum_O_L34 rc P ex fu = rgdL 43 45 rc P ex fu
  | 0 => rfl
  | fu + 1 => by
    funext l0 l1 I
    show fM_readSum_O_B34 rc P ex (fM_readSum_O_L34 rc P ex fu) l0 l1 I = rdB 43 45 rc P ex (rgdL 43 45 rc P ex fu) l0 l1 I
    rw [rgdL_2 fu]
    rfl
theorem rdO_1 {rc : am_Q → Nat → am_M → Option am_M} : fM_readOne_O rc = rdO 42 37 rc := by
  funext P l0 I
  unfold fM_readOne_O rdO fM_readOne_O_J33
  rw [rgdL_1]
theorem rdO_2 {rc : am_Q → Nat → am_M → Option am_M} : fM_readSum_O rc = rdO 43 45 rc := by
  funext P l0 I
  unfold fM_readSum_O rdO fM_readSum_O_J33
  rw [rgdL_2]
section Rd2
variable {I R : am_M} {P : am_Q} {b : Nat → Nat} {n : Nat}
/-- which sign is next -/
theorem m_sgn (hS : SP P) (hn : n ≤ 80) (hb : ∀ k, k < n → b k < 256) {M : List Nat} {h o lvl C1 C2 x1 x2 : Nat} {c1 c2 : Int32} (e1 : c1 = nI C1) (e2 : c2 = nI C2) (o1 : opP lvl C1 x1) (o2 : opP lvl C2 x2) (hh : h ≤ n) (s : RSt b n R M h o) {J : Int32 → am_M → Option am_M} : ∃ R', frZ R R' ∧ ((∃ C x, opP lvl C x ∧ (x = x1 ∨ x = x2) ∧ skP b n h < n ∧ b (skP b n h) = C ∧ RSt b n R' M (skP b n h + 1) o ∧ (Option.bind (fM_may P (am_pk 330 0 13) c1 (put I R)) fun y3 => if y3.1 = 0 then (Option.bind (fM_may P (am_pk 330 0 13) c2 y3.2) fun y5 => if y5.1 = 0 then J 0 y5.2 else J c2 y5.2) else J c1 y3.2) = J (nI C) (put I R')) ∨ (RSt b n R' M (skP b n h) o ∧ (skP b n h < n → b (skP b n h) ≠ C1 ∧ b (skP b n h) ≠ C2) ∧ (Option.bind (fM_may P (am_pk 330 0 13) c1 (put I R)) fun y3 => if y3.1 = 0 then (Option.bind (fM_may P (am_pk 330 0 13) c2 y3.2) fun y5 => if y5.1 = 0 then J 0 y5.2 else J c2 y5.2) else J c1 y3.2) = J 0 (put I R'))) := by
  obtain ⟨R1, y1, y2, y3⟩ := m_may (I := I) hS hn hb e1 o1.2.2.2.2.2.2.1 hh s
  have hk := (skP_s (b := b) hh).2.1
  rw [y1, Option.bind_some]
  dsimp only
  rw [bI_if]
  by_cases q1 : skP b n h < n ∧ b (skP b n h) = C1
  · rw [if_pos q1]
    rw [cif_t q1] at y2
    exact ⟨R1, y3, Or.inl ⟨C1, x1, o1, Or.inl rfl, q1.1, q1.2, y2, by rw [e1]⟩⟩
  · rw [if_neg q1]
    rw [cif_f q1] at y2
    obtain ⟨R2, z1, z2, z3⟩ := m_may (I := I) hS hn hb e2 o2.2.2.2.2.2.2.1 hk y2
    rw [skP_i hh] at z1 z2
    rw [z1, Option.bind_some]
    dsimp only
    rw [bI_if]
    by_cases q2 : skP b n h < n ∧ b (skP b n h) = C2
    · rw [if_pos q2]
      rw [cif_t q2] at z2
      exact ⟨R2, y3.tr z3, Or.inl ⟨C2, x2, o2, Or.inr rfl, q2.1, q2.2, z2, by rw [e2]⟩⟩
    · rw [if_neg q2]
      rw [cif_f q2] at z2
      exact ⟨R2, y3.tr z3, Or.inr ⟨z2, fun z => ⟨fun y => q1 ⟨z, y⟩, fun y => q2 ⟨z, y⟩⟩, rfl⟩⟩
theorem m_sgnB {c1 c2 : Int32} (s : R 330 40 = 1) {J : Int32 → am_M → Option am_M} : (Option.bind (fM_may P (am_pk 330 0 13) c1 (put I R)) fun y3 => if y3.1 = 0 then (Option.bind (fM_may P (am_pk 330 0 13) c2 y3.2) fun y5 => if y5.1 = 0 then J 0 y5.2 else J c2 y5.2) else J c1 y3.2) = J 0 (put I R) := by
  have h : ¬ R 330 40 = 0 := by rw [s]; decide
  rw [m_mayB h, Option.bind_some]
  dsimp only
  rw [if_pos rfl, m_mayB h, Option.bind_some]
  dsimp only
  rw [if_pos rfl]
theorem rgdL_0 {c1 c2 : Int32} {rc : am_Q → Nat → am_M → Option am_M} {ex : am_M → Option am_M} {fu : Nat} {l0 : Nat} {X : am_M} (h : 0 < fu) : rgdL c1 c2 rc P ex fu l0 0 X = ex X := by
  obtain ⟨fu, rfl⟩ : ∃ n', fu = n' + 1 := ⟨fu - 1, by omega⟩
  show rdB _ _ _ _ _ _ _ _ _ = _
  unfold rdB
  rw [if_pos rfl]
theorem rd_L (hS : SP P) (hn : n ≤ 80) (hb : ∀ k, k < n → b k < 256) {o lvl lvl' q q' C1 C2 x1 x2 h0 : Nat} {M0 W : List Nat} {c1 c2 : Int32} {nb : Nat → Prop} {rc : am_Q → Nat → am_M → Option am_M} (e1 : c1 = nI C1) (e2 : c2 = nI C2) (o1 : opP lvl C1 x1) (o2 : opP lvl C2 x2) (hll : lvl ≤ lvl') (hx1 : x1 < lvl') (hx2 : x2 < lvl') (hq : q' + 1 ≤ q) (hnb : ∀ j, j ≤ n → (j < n → nb (b j)) → skP b n j < n → nb (b (skP b n j))) (hc : SPc I P b n rc o lvl' q' nb) (hM0 : M0.length ≤ h0) (hW : tpL W lvl) : ∀ (d fu C x h : Nat) (R : am_M) (E : List Nat) (S : PS), n < h + d → d < fu → opP lvl C x → (x = x1 ∨ x = x2) → RSt b n R (E ++ M0) h o → h ≤ n → E.length + 1 + h0 ≤ h → wfX E q → S.st = 2 → S.cs = E ++ M0 → S.op = o → S.ws = x :: W → ∃ R' j, rgdL c1 c2 rc P (fun I => some I) fu (am_pk 330 0 13) (nI C) (put I R) = some (put I R') ∧ h ≤ j ∧ j ≤ n ∧ frZ R R' ∧ ((∃ E' s c w, RSt b n R' (E' ++ M0) j o ∧ E' ≠ [] ∧ wfX E' q ∧ E'.length + h0 ≤ j ∧ RC b n h S j (cqS S s c w) ∧ (s = 3 ∨ s = 4) ∧ (s = 3 → j < n → ¬ (48 ≤ b j ∧ b j ≤ 57)) ∧ pwF lvl w c = (E' ++ M0, W) ∧ (j < n → nb (b j) ∧ b j ≠ 32 ∧ b j ≠ C1 ∧ b j ≠ C2)) ∨ ∃ M', RMd R' M' ∧ M'.length + h0 ≤ M0.length + j ∧ R' 330 38 = nI j ∧ R' 330 40 = 1 ∧ stkP b n h S j)
  | 0, fu, C, x, h, R, E, S, hd, hf, hox, hxx, s, hh, hE, hw, k1, k2, k3, k4 => absurd hh (by omega)
  | d + 1, fu, C, x, h, R, E, S, hd, hf, hox, hxx, s, hh, hE, hw, k1, k2, k3, k4 => by
    obtain ⟨fu, rfl⟩ : ∃ n', fu = n' + 1 := ⟨fu - 1, by omega⟩
    have hC0 : ¬ nI C = (0 : Int32) := by rw [show (0 : Int32) = nI 0 from rfl, nk hox.2.2.2.2.2.2.1 (by decide)]; exact hox.2.2.2.2.2.2.2.2.2
    have hxl : x < lvl' := by rcases hxx with e | e <;> omega
    have hlen : (E ++ M0).length = E.length + M0.length := List.length_append
    obtain ⟨R1, j1, y1, y2, y3, y4, y5⟩ := hc R (E ++ M0) h S s (by omega) hh k1 k2 k3 (by rw [k4]; intro a r e; injection e with e e'; omega)
    have run : ∀ (rr : Nat → Int32 → am_M → Option am_M) (R2 : am_M), fM_does P (am_pk 330 0 13) 2 (nI C) (put I R1) = some (put I R2) → rdB c1 c2 rc P (fun I => some I) rr (am_pk 330 0 13) (nI C) (put I R) = (Option.bind (fM_may P (am_pk 330 0 13) c1 (put I R2)) fun y3 => if y3.1 = 0 then (Option.bind (fM_may P (am_pk 330 0 13) c2 y3.2) fun y5 => if y5.1 = 0 then rr (am_pk 330 0 13) 0 y5.2 else rr (am_pk 330 0 13) c2 y5.2) else rr (am_pk 330 0 13) c1 y3.2) := by
      intro rr R2 hd2
      unfold rdB
      rw [if_neg hC0, sm_ck_pos (am_t_pk (by decide)), y1, Option.bind_some, hd2, Option.bind_some]
    have ec1 : (2 : Int32) = (cdF x).1 := by rw [hox.2.2.2.2.2.1]
    have ec2 : nI C = (cdF x).2 := by rw [hox.2.2.2.2.2.1]
    show ∃ R' j, rdB _ _ _ _ _ _ _ _ _ = _ ∧ _
    rcases y5 with ⟨E1, s1, c1', w1, g1, g2, g3, g4, g5, g6, g7, g8, g9⟩ | ⟨M1, g1, g2, g3, g4, g5⟩
    · -- read well
      have hl1 : (E1 ++ (E ++ M0)).length = E1.length + (E.length + M0.length) := by rw [List.length_append, hlen]
      obtain ⟨R2, z1, z2, z3, z4⟩ := m_does (I := I) hS (c := x) ec1 ec2 (show (E1 ++ (E ++ M0)).length < 80 by omega) g1.2.1
      rw [run _ R2 z1]
      have eM : x :: (E1 ++ (E ++ M0)) = (x :: (E1 ++ E)) ++ M0 := by rw [List.cons_append, List.append_assoc]
      rw [eM] at z2
      have s2 : RSt b n R2 ((x :: (E1 ++ E)) ++ M0) j1 o := ⟨⟨by rw [z4 32 (by decide)]; exact g1.1.1, fun k hk => by rw [z3.1 359 (by decide) (by decide) (by decide)]; exact g1.1.2 k hk⟩, z2, by rw [z4 38 (by decide)]; exact g1.2.2.1, by rw [z4 39 (by decide)]; exact g1.2.2.2.1, by rw [z4 40 (by decide)]; exact g1.2.2.2.2⟩
      have hwf : wfX (x :: (E1 ++ E)) q := wfX.op hw g3 hq hox.1 hox.2.1
      have hle : (x :: (E1 ++ E)).length = E1.length + E.length + 1 := by
        show (E1 ++ E).length + 1 = _
        rw [List.length_append]
      have hfl : pwF lvl w1 c1' = ((x :: (E1 ++ E)) ++ M0, W) := by
        rw [← pwF_pw hll, g8, k4, pwF_1 hox.2.2.1 hW, eM]
      obtain ⟨t1, t2, t3, t4⟩ := skP_s (b := b) y3
      obtain ⟨s', u1, u2, u3⟩ := RC.sk3 (S := S) (c := c1') (q := w1) y3 g6 g7
      obtain ⟨R3, v1, v2⟩ := m_sgn (I := I) (P := P) (R := R2) hS hn hb e1 e2 o1 o2 y3 s2 (J := rgdL c1 c2 rc P (fun I => some I) fu (am_pk 330 0 13))
      rcases v2 with ⟨C', x', p1, p2, p3, p4, p5, p6⟩ | ⟨p1, p2, p3⟩
      · -- another sign
        rw [p6]
        have hst : RC b n (skP b n j1) (cqS S s' c1' w1) (skP b n j1 + 1) (cqS S 2 ((x :: (E1 ++ E)) ++ M0) (x' :: W)) := by
          refine RC.st p3 ?_
          rw [p4, tk_jt (S := cqS S s' c1' w1) u1 p1.2.2.2.2.2.2.2.1 (fun _ => p1.2.2.2.2.2.2.2.2.1), p1.2.2.2.2.1]
          have : opS (cqS S s' c1' w1) x' = cqS (cqS S s' c1' w1) 2 (pwF (if x' < 112 then 110 else 112) w1 c1').1 (x' :: (pwF (if x' < 112 then 110 else 112) w1 c1').2) := rfl
          rw [this, p1.2.2.2.1, hfl]
          rfl
        obtain ⟨R4, j4, r1, r2, r3, r4, r5⟩ := rd_L hS hn hb e1 e2 o1 o2 hll hx1 hx2 hq hnb hc hM0 hW d fu C' x' (skP b n j1 + 1) R3 (x :: (E1 ++ E)) (cqS S 2 ((x :: (E1 ++ E)) ++ M0) (x' :: W)) (by omega) (by omega) p1 p2 p5 (by omega) (by omega) hwf rfl rfl k3 rfl
        have hr := (g5.tr u3).tr hst
        refine ⟨R4, j4, r1, by omega, r3, y4.tr (z3.tr (v1.tr r4)), ?_⟩
        rcases r5 with ⟨E', s4, c4, w4, a1, a2, a3, a4, a5, a6⟩ | ⟨M', a1, a2, a3, a4, a5⟩
        · exact Or.inl ⟨E', s4, c4, w4, a1, a2, a3, a4, hr.tr a5, a6⟩
        · exact Or.inr ⟨M', a1, a2, a3, a4, a5.pre hr⟩
      · -- none
        rw [p3, rgdL_0 (by omega)]
        refine ⟨R3, skP b n j1, rfl, by omega, t2, y4.tr (z3.tr v1), Or.inl ⟨x :: (E1 ++ E), s', c1', w1, p1, by simp, hwf, by omega, g5.tr u3, u1, u2, hfl, fun z => ⟨hnb j1 y3 g9 z, t4 z, (p2 z).1, (p2 z).2⟩⟩⟩
    · -- a fault
      obtain ⟨R2, z1, z2, z3, z4⟩ := m_does (I := I) hS (c := x) ec1 ec2 (show M1.length < 80 by omega) g1
      rw [run _ R2 z1, m_sgnB (by rw [z4 40 (by decide)]; exact g4), rgdL_0 (by omega)]
      refine ⟨R2, j1, rfl, y2, y3, y4.tr z3, Or.inr ⟨x :: M1, z2, ?_, by rw [z4 38 (by decide)]; exact g3, by rw [z4 40 (by decide)]; exact g4, g5⟩⟩
      show M1.length + 1 + h0 ≤ _
      omega
theorem rd_O (hS : SP P) (hn : n ≤ 80) (hb : ∀ k, k < n → b k < 256) {o lvl lvl' q q' C1 C2 x1 x2 : Nat} {c1 c2 : Int32} {nb : Nat → Prop} {rc : am_Q → Nat → am_M → Option am_M} (e1 : c1 = nI C1) (e2 : c2 = nI C2) (o1 : opP lvl C1 x1) (o2 : opP lvl C2 x2) (hll : lvl ≤ lvl') (hx1 : x1 < lvl') (hx2 : x2 < lvl') (hq : q' + 1 ≤ q) (hnb : ∀ j, j ≤ n → (j < n → nb (b j)) → skP b n j < n → nb (b (skP b n j))) (hc : SPc I P b n rc o lvl' q' nb) : SPc I P b n (rdO c1 c2 rc) o lvl q (fun c => nb c ∧ c ≠ 32 ∧ c ≠ C1 ∧ c ≠ C2) := by
  intro R M h S s hM hh k1 k2 k3 k4
  obtain ⟨R1, j1, y1, y2, y3, y4, y5⟩ := hc R M h S s hM hh k1 k2 k3 (fun a r e => Nat.lt_of_lt_of_le (k4 a r e) hll)
  have run : rdO c1 c2 rc P (am_pk 330 0 13) (put I R) = (Option.bind (fM_may P (am_pk 330 0 13) c1 (put I R1)) fun y3 => if y3.1 = 0 then (Option.bind (fM_may P (am_pk 330 0 13) c2 y3.2) fun y5 => if y5.1 = 0 then rgdL c1 c2 rc P (fun I => some I) sm_fu (am_pk 330 0 13) 0 y5.2 else rgdL c1 c2 rc P (fun I => some I) sm_fu (am_pk 330 0 13) c2 y5.2) else rgdL c1 c2 rc P (fun I => some I) sm_fu (am_pk 330 0 13) c1 y3.2) := by
    unfold rdO
    rw [sm_ck_pos (am_t_pk (by decide)), y1, Option.bind_some]
  rw [run]
  rcases y5 with ⟨E1, s1, c1', w1, g1, g2, g3, g4, g5, g6, g7, g8, g9⟩ | ⟨M1, g1, g2, g3, g4, g5⟩
  · have hfl : pwF lvl w1 c1' = (E1 ++ M, S.ws) := by rw [← pwF_pw hll, g8, pwF_0 k4]
    obtain ⟨t1, t2, t3, t4⟩ := skP_s (b := b) y3
    obtain ⟨s', u1, u2, u3⟩ := RC.sk3 (S := S) (c := c1') (q := w1) y3 g6 g7
    obtain ⟨R3, v1, v2⟩ := m_sgn (I := I) (P := P) (R := R1) hS hn hb e1 e2 o1 o2 y3 g1 (J := rgdL c1 c2 rc P (fun I => some I) sm_fu (am_pk 330 0 13))
    rcases v2 with ⟨C', x', p1, p2, p3, p4, p5, p6⟩ | ⟨p1, p2, p3⟩
    · rw [p6]
      have hst : RC b n (skP b n j1) (cqS S s' c1' w1) (skP b n j1 + 1) (cqS S 2 (E1 ++ M) (x' :: S.ws)) := by
        refine RC.st p3 ?_
        rw [p4, tk_jt (S := cqS S s' c1' w1) u1 p1.2.2.2.2.2.2.2.1 (fun _ => p1.2.2.2.2.2.2.2.2.1), p1.2.2.2.2.1]
        have : opS (cqS S s' c1' w1) x' = cqS (cqS S s' c1' w1) 2 (pwF (if x' < 112 then 110 else 112) w1 c1').1 (x' :: (pwF (if x' < 112 then 110 else 112) w1 c1').2) := rfl
        rw [this, p1.2.2.2.1, hfl]
        rfl
      obtain ⟨R4, j4, r1, r2, r3, r4, r5⟩ := rd_L hS hn hb e1 e2 o1 o2 hll hx1 hx2 hq hnb hc hM k4 (n + 1) sm_fu C' x' (skP b n j1 + 1) R3 E1 (cqS S 2 (E1 ++ M) (x' :: S.ws)) (by omega) (sm_fu_lt (by omega)) p1 p2 p5 (by omega) (by omega) (g3.mono (by omega)) rfl rfl k3 rfl
      have hr := (g5.tr u3).tr hst
      refine ⟨R4, j4, r1, by omega, r3, y4.tr (v1.tr r4), ?_⟩
      rcases r5 with ⟨E', s4, c4, w4, a1, a2, a3, a4, a5, a6⟩ | ⟨M', a1, a2, a3, a4, a5⟩
      · exact Or.inl ⟨E', s4, c4, w4, a1, a2, a3, a4, hr.tr a5, a6⟩
      · exact Or.inr ⟨M', a1, a2, a3, a4, a5.pre hr⟩
    · rw [p3, rgdL_0 (sm_fu_lt (by decide))]
      exact ⟨R3, skP b n j1, rfl, by omega, t2, y4.tr v1, Or.inl ⟨E1, s', c1', w1, p1, g2, g3.mono (by omega), by omega, g5.tr u3, u1, u2, hfl, fun z => ⟨hnb j1 y3 g9 z, t4 z, (p2 z).1, (p2 z).2⟩⟩⟩
  · rw [m_sgnB g4, rgdL_0 (sm_fu_lt (by decide))]
    exact ⟨R1, j1, rfl, y2, y3, y4, Or.inr ⟨M1, g1, g2, g3, g4, g5⟩⟩
end Rd2
