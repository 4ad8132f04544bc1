/-! ===== reading a text: the reference, values ===== -/
section Rd3
variable {I R : am_M} {P : am_Q} {b : Nat → Nat} {n : Nat}
theorem h_wd {h : Nat} (hb : ∀ k, k < n → b k < 256) : fM_within (bhF b n h) 48 57 = some (bI (h < n ∧ 48 ≤ b h ∧ b h ≤ 57)) := by
  rw [h_within]
  refine congrArg some (bI_c ?_)
  unfold bhF
  by_cases q : h < n
  · have := hb h q
    rw [if_pos q, show (48 : Int32) = nI 48 from rfl, show (57 : Int32) = nI 57 from rfl, nI_leI (by decide) (by omega), nI_leI (by omega) (by decide)]
    exact ⟨fun z => ⟨q, z⟩, fun z => z.2⟩
  · rw [if_neg q]
    exact ⟨fun z => absurd z.1 (by decide), fun z => absurd z.1 q⟩
theorem h_nm {c : Nat} (hc : c < 256) : (∃ k, nmC c = some k ∧ fM_nameOf (nI c) = some (nI (k - 100)) ∧ 100 ≤ k ∧ k < 105) ∨ (nmC c = none ∧ fM_nameOf (nI c) = some (-1)) := by
  have key : fM_nameOf (nI c) = (if ¬ c = 112 then (if ¬ c = 113 then (if ¬ c = 97 then (if ¬ c = 98 then (if ¬ c = 104 then some (-1) else some 4) else some 3) else some 2) else some 1) else some 0) := by
    unfold fM_nameOf
    simp only [show (97 : Int32) = nI 97 from rfl, show (98 : Int32) = nI 98 from rfl, show (104 : Int32) = nI 104 from rfl, show (112 : Int32) = nI 112 from rfl, show (113 : Int32) = nI 113 from rfl, nk hc (show 97 < 256 by decide), nk hc (show 98 < 256 by decide), nk hc (show 104 < 256 by decide), nk hc (show 112 < 256 by decide), nk hc (show 113 < 256 by decide)]
  rw [key]
  by_cases e4 : c = 112
  · rw [if_neg (fun z => z e4)]
    exact Or.inl ⟨100, by rw [e4]; rfl, rfl, by decide, by decide⟩
  · rw [if_pos e4]
    by_cases e5 : c = 113
    · rw [if_neg (fun z => z e5)]
      exact Or.inl ⟨101, by rw [e5]; rfl, rfl, by decide, by decide⟩
    · rw [if_pos e5]
      by_cases e1 : c = 97
      · rw [if_neg (fun z => z e1)]
        exact Or.inl ⟨102, by rw [e1]; rfl, rfl, by decide, by decide⟩
      · rw [if_pos e1]
        by_cases e2 : c = 98
        · rw [if_neg (fun z => z e2)]
          exact Or.inl ⟨103, by rw [e2]; rfl, rfl, by decide, by decide⟩
        · rw [if_pos e2]
          by_cases e3 : c = 104
          · rw [if_neg (fun z => z e3)]
            exact Or.inl ⟨104, by rw [e3]; rfl, rfl, by decide, by decide⟩
          · rw [if_pos e3]
            refine Or.inr ⟨?_, rfl⟩
            unfold nmC
            rw [if_neg e1, if_neg e2, if_neg e3, if_neg e4, if_neg e5]
theorem d48 {v c : Nat} (hc : 48 ≤ c) : ((10 : Int32) * nI v + nI c) - 48 = nI (10 * v + (c - 48)) := by
  obtain ⟨k, rfl⟩ : ∃ k, c = k + 48 := ⟨c - 48, by omega⟩
  rw [show (10 : Int32) = nI 10 from rfl, pk_mul, nI_add, Nat.add_sub_cancel, ← Nat.add_assoc, ← nI_add (10 * v + k) 48, show (48 : Int32) = nI 48 from rfl, Int32.add_sub_cancel]
theorem m_dgB (hS : SP P) (hn : n ≤ 80) (hb : ∀ k, k < n → b k < 256) {rc : am_Q → Nat → am_M → Option am_M} {ex : Nat → Int32 → am_M → Option am_M} {r : Nat → Int32 → Int32 → am_M → Option am_M} {M : List Nat} {k o v i : Nat} (hi : i < 2) (hk : k ≤ n) (s : RSt b n R M k o) : fM_readValue_O_B32 rc P ex r (am_pk 330 0 13) (nI v) (nI i) (put I R) = cif (k < n ∧ 48 ≤ b k ∧ b k ≤ 57) (r (am_pk 330 0 13) (nI (10 * v + (b k - 48))) (nI (i + 1)) (put I (am_up R 330 38 (nI (k + 1))))) (ex (am_pk 330 0 13) (nI v) (put I R)) := by
  unfold fM_readValue_O_B32
  rw [if_neg (by rw [l_2, nI_leI (by decide) (by omega)]; omega), sm_ck_pos (am_t_pk (by decide)), m_byte hS hn hk s.1 s.2.2.1, Option.bind_some, h_wd hb, Option.bind_some, bI_if]
  by_cases q : k < n ∧ 48 ≤ b k ∧ b k ≤ 57
  · have e : bhF b n k = nI (b k) := by unfold bhF; rw [if_pos q.1]
    rw [if_pos q, cif_t q, Option.bind_some, e, d48 q.2.1, bd_eq, put_rd sc_330, s.2.2.1, put_up sc_330, bd_eq, bd_eq, nI_1, nI_1]
  · rw [if_neg q, cif_f q]
theorem m_dig (hS : SP P) (hn : n ≤ 80) (hb : ∀ k, k < n → b k < 256) {rc : am_Q → Nat → am_M → Option am_M} {ex : Nat → Int32 → am_M → Option am_M} {M : List Nat} {k o : Nat} (hk : k < n) (hd : 48 ≤ b k ∧ b k ≤ 57) (s : RSt b n R M k o) : ∃ R' v j, fM_readValue_O_L32 rc P ex sm_fu (am_pk 330 0 13) 0 0 (put I R) = ex (am_pk 330 0 13) (nI v) (put I R') ∧ RSt b n R' M j o ∧ frZ R R' ∧ ((j = k + 1 ∧ v = b k - 48 ∧ (k + 1 < n → ¬ (48 ≤ b (k + 1) ∧ b (k + 1) ≤ 57))) ∨ (j = k + 2 ∧ k + 1 < n ∧ (48 ≤ b (k + 1) ∧ b (k + 1) ≤ 57) ∧ v = 10 * (b k - 48) + (b (k + 1) - 48))) := by
  have s1 := s.hr (h' := k + 1)
  rw [show sm_fu = 19997 + 1 + 1 + 1 from rfl]
  show ∃ R' v j, fM_readValue_O_B32 _ _ _ (fM_readValue_O_L32 rc P ex (19997 + 1 + 1)) _ (nI 0) (nI 0) _ = _ ∧ _
  rw [m_dgB hS hn hb (by decide) (Nat.le_of_lt hk) s, cif_t ⟨hk, hd⟩]
  show ∃ R' v j, fM_readValue_O_B32 _ _ _ (fM_readValue_O_L32 rc P ex (19997 + 1)) _ (nI (10 * 0 + (b k - 48))) (nI 1) _ = _ ∧ _
  rw [m_dgB hS hn hb (by decide) hk s1, Nat.mul_zero, Nat.zero_add]
  by_cases q : k + 1 < n ∧ 48 ≤ b (k + 1) ∧ b (k + 1) ≤ 57
  · rw [cif_t q]
    show ∃ R' v j, fM_readValue_O_B32 _ _ _ _ _ _ (nI 2) _ = _ ∧ _
    unfold fM_readValue_O_B32
    rw [if_pos (by decide)]
    exact ⟨_, _, k + 2, rfl, s1.hr, (frZ.up (by decide) (by decide)).tr (frZ.up (by decide) (by decide)), Or.inr ⟨rfl, q.1, q.2, rfl⟩⟩
  · rw [cif_f q]
    exact ⟨_, _, k + 1, rfl, s1, frZ.up (by decide) (by decide), Or.inl ⟨rfl, rfl, fun z y => q ⟨z, y⟩⟩⟩
theorem RSt.md {M M' : List Nat} {R' : am_M} {h o : Nat} (s : RSt b n R M h o) (z3 : frZ R R') (m : RMd R' M') (z4 : ∀ k, k ≠ 37 → R' 330 k = R 330 k) : RSt b n R' M' h o := ⟨⟨by rw [z4 32 (by decide)]; exact s.1.1, fun k hk => by rw [z3.1 359 (by decide) (by decide) (by decide)]; exact s.1.2 k hk⟩, m, by rw [z4 38 (by decide)]; exact s.2.2.1, by rw [z4 39 (by decide)]; exact s.2.2.2.1, by rw [z4 40 (by decide)]; exact s.2.2.2.2⟩
theorem RMd.up {M : List Nat} {k : Nat} {v : Int32} (m : RMd R M) (hk : k ≠ 37) : RMd (am_up R 330 k v) M := ⟨by rw [am_up_nk (fun z => hk z.symm)]; exact m.1, m.2.1.fr (fun j _ => by rw [am_up_ne (by decide)]), m.2.2.fr (fun j _ => by rw [am_up_ne (by decide)])⟩
/-- no sign at all: stuck -/
theorem jt_none {S : PS} {c : Nat} (h1 : c ≠ 37) (h2 : c = 41 → S.op = 0) (h3 : c ≠ 42) (h4 : c ≠ 43) (h5 : c ≠ 45) (h6 : c = 59 → 0 < S.op ∨ ¬ S.ln + 1 < 6) : jtF S c = none := by
  unfold jtF
  rw [if_neg h1]
  by_cases e2 : c = 41
  · rw [if_pos e2, if_pos (h2 e2)]
  · rw [if_neg e2, if_neg h3, if_neg h4, if_neg h5]
    by_cases e6 : c = 59
    · rw [if_pos e6]
      by_cases q : 0 < S.op
      · rw [if_pos q]
      · rw [if_neg q, if_neg ((h6 e6).resolve_left q)]
    · rw [if_neg e6]
theorem tk_sd {S : PS} {c : Nat} (h : S.st = 3) (hd : 48 ≤ c ∧ c ≤ 57) : tkF S c = sdS S c := by
  unfold tkF
  rw [if_neg (by omega), if_neg (by omega), if_neg (by omega), if_neg (by omega), if_pos ⟨h, hd⟩]
theorem rd_V (hS : SP P) (hn : n ≤ 80) (hb : ∀ k, k < n → b k < 256) {o : Nat} {nb : Nat → Prop} {rc : am_Q → Nat → am_M → Option am_M} (ho : o ≤ 4) (hnb : ∀ c, nb c → c ≠ 32 ∧ c ≠ 42 ∧ c ≠ 37 ∧ c ≠ 43 ∧ c ≠ 45) (hc : o < 4 → SPc I P b n rc (o + 1) 110 (1 + 2 * (4 - o)) nb) : SPc I P b n (fM_readValue_O rc) o 200 (1 + 2 * (4 - o)) (fun _ => True) := by
  intro R M h S s hM hh k1 k2 k3 k4
  obtain ⟨R1, y1, y2, y3⟩ := m_sk (I := I) hS hn hb hh s
  obtain ⟨t1, t2, t3, t4⟩ := skP_s (b := b) hh
  have r0 : RC b n h S (skP b n h) S := RC.sk hh (by omega)
  generalize hk : skP b n h = k at *
  -- a fault here
  have bad : (k < n → vlS S (b k) = none) → ∃ R' j, some (put I (am_up R1 330 40 1)) = some (put I R') ∧ h ≤ j ∧ j ≤ n ∧ frZ R R' ∧ ((∃ E s c w, RSt b n R' (E ++ M) j o ∧ E ≠ [] ∧ wfX E (1 + 2 * (4 - o)) ∧ E.length + h ≤ j ∧ RC b n h S j (cqS S s c w) ∧ (s = 3 ∨ s = 4) ∧ (s = 3 → j < n → ¬ (48 ≤ b j ∧ b j ≤ 57)) ∧ pwF 200 w c = (E ++ M, S.ws) ∧ (j < n → True)) ∨ ∃ M', RMd R' M' ∧ M'.length + h ≤ M.length + j ∧ R' 330 38 = nI j ∧ R' 330 40 = 1 ∧ stkP b n h S j) := by
    intro hv
    refine ⟨_, k, rfl, t1, t2, y3.tr (frZ.up (by decide) (by decide)), Or.inr ⟨M, y2.2.1.up (by decide), by omega, by rw [am_up_nk (by decide)]; exact y2.2.2.1, am_up_eq, S, r0, fun z => ?_, fun _ => Or.inl (by omega)⟩⟩
    unfold tkF
    rw [if_neg (t4 z), if_neg (by omega), if_neg (by omega), if_pos k1]
    exact hv z
  have tkv : k < n → tkF S (b k) = vlS S (b k) := fun z => by
    unfold tkF
    rw [if_neg (t4 z), if_neg (by omega), if_neg (by omega), if_pos k1]
  unfold fM_readValue_O
  rw [sm_ck_pos (am_t_pk (by decide)), put_rd sc_330, s.2.2.2.2, if_pos rfl, y1, Option.bind_some, m_byte hS hn t2 y2.1 y2.2.2.1, Option.bind_some, h_wd hb, Option.bind_some, bI_if]
  by_cases qn : k < n
  · have hbk := hb k qn
    have eb : bhF b n k = nI (b k) := by unfold bhF; rw [if_pos qn]
    by_cases qd : 48 ≤ b k ∧ b k ≤ 57
    · rw [if_pos ⟨qn, qd⟩]
      obtain ⟨R2, v, j, z1, z2, z3, z4⟩ := m_dig (I := I) hS hn hb (rc := rc) (ex := fun l0 l2 I =>
          sm_ck (am_t l0 = 13) <|
          Option.bind (fM_does P l0 0 l2 I) fun y37 =>
          some y37) qn qd y2
      have hv : v < 100 := by rcases z4 with ⟨-, e, -⟩ | ⟨-, -, e, e2⟩ <;> omega
      have ecd : cdF v = (0, nI v) := by unfold cdF; rw [if_pos hv]
      obtain ⟨R3, w1, w2, w3, w4⟩ := m_does (I := I) hS (c := v) (v1 := 0) (v2 := nI v) (by rw [ecd]) (by rw [ecd]) (show M.length < 80 by omega) z2.2.1
      rw [z1, sm_ck_pos (am_t_pk (by decide)), w1, Option.bind_some]
      have hvl : tkF S (b k) = some (ccS S 3 ((b k - 48) :: S.cs)) := by
        rw [tkv qn]
        unfold vlS
        rw [if_neg (by omega), if_pos qd]
      have r1 := r0.tr (RC.st qn hvl)
      have s3 := z2.md w3 w2 w4
      rcases z4 with ⟨e1, e2, e3⟩ | ⟨e1, e2, e3, e4⟩
      · subst e1
        refine ⟨R3, k + 1, rfl, by omega, by omega, y3.tr (z3.tr w3), Or.inl ⟨[v], 3, v :: M, S.ws, s3, by simp, wfX_1 (by omega) (by omega), by show 1 + h ≤ k + 1; omega, ?_, Or.inl rfl, fun _ => e3, pwF_0 k4, fun _ => trivial⟩⟩
        rw [k2, ← e2] at r1
        exact r1
      · subst e1
        have hsd : tkF (ccS S 3 ((b k - 48) :: S.cs)) (b (k + 1)) = some (ccS S 4 ((10 * (b k - 48) + (b (k + 1) - 48)) :: S.cs)) := by
          rw [tk_sd rfl e3]
          rfl
        have r2 := r1.tr (RC.st e2 hsd)
        refine ⟨R3, k + 2, rfl, by omega, by omega, y3.tr (z3.tr w3), Or.inl ⟨[v], 4, v :: M, S.ws, s3, by simp, wfX_1 (by omega) (by omega), by show 1 + h ≤ k + 2; omega, ?_, Or.inr rfl, fun z => absurd z (by decide), pwF_0 k4, fun _ => trivial⟩⟩
        rw [k2, ← e4] at r2
        exact r2
    · rw [if_neg (fun z => qd z.2), eb]
      rcases h_nm hbk with ⟨c, g1, g2, g3, g4⟩ | ⟨g1, g2⟩
      · -- a name
        rw [g2, Option.bind_some, if_neg (nI_pos (by omega)), put_rd sc_330, y2.2.2.1, put_up sc_330, nI_1, bd_eq, Option.bind_some]
        have ecd : cdF c = (1, nI (c - 100)) := by unfold cdF; rw [if_neg (by omega), if_pos (by omega)]
        have s2 := y2.hr (h' := k + 1)
        obtain ⟨R3, w1, w2, w3, w4⟩ := m_does (I := I) hS (c := c) (v1 := 1) (v2 := nI (c - 100)) (by rw [ecd]) (by rw [ecd]) (show M.length < 80 by omega) s2.2.1
        rw [w1, Option.bind_some]
        have hvl : tkF S (b k) = some (ccS S 4 (c :: S.cs)) := by
          rw [tkv qn]
          unfold vlS
          have q40 : b k ≠ 40 := fun z => by rw [z, show nmC 40 = none from by decide] at g1; exact absurd g1 (by simp)
          rw [if_neg q40, if_neg qd, g1]
        have r1 := r0.tr (RC.st qn hvl)
        rw [k2] at r1
        exact ⟨R3, k + 1, rfl, by omega, by omega, y3.tr ((frZ.up (by decide) (by decide)).tr w3), Or.inl ⟨[c], 4, c :: M, S.ws, s2.md w3 w2 w4, by simp, wfX_1 (by omega) (by omega), by show 1 + h ≤ k + 1; omega, r1, Or.inr rfl, fun z => absurd z (by decide), pwF_0 k4, fun _ => trivial⟩⟩
      · rw [g2, Option.bind_some, if_pos (by decide)]
        by_cases q40 : b k = 40
        · rw [if_neg (fun z => z (by rw [q40]; rfl)), put_rd sc_330, y2.2.2.2.1]
          by_cases qo : o < 4
          · -- a bracket
            rw [if_neg (by rw [show (4 : Int32) = nI 4 from rfl, nI_leI (by decide) (by omega)]; omega), put_rd sc_330, y2.2.2.1, put_up sc_330, nI_1, bd_eq, put_rd sc_330, show am_up R1 330 38 (nI (k + 1)) 330 39 = nI o from by rw [am_up_nk (by decide)]; exact y2.2.2.2.1, put_up sc_330, nI_1, bd_eq]
            have s2 : RSt b n (am_up (am_up R1 330 38 (nI (k + 1))) 330 39 (nI (o + 1))) M (k + 1) (o + 1) := by
              have s1 := y2.hr (h' := k + 1)
              exact ⟨⟨by rw [am_up_nk (by decide)]; exact s1.1.1, fun j hj => by rw [am_up_ne (by decide)]; exact s1.1.2 j hj⟩, s1.2.1.up (by decide), by rw [am_up_nk (by decide)]; exact s1.2.2.1, am_up_eq, by rw [am_up_nk (by decide)]; exact s1.2.2.2.2⟩
            have hvl : tkF S (b k) = some (mkS S.st S.cs (0 :: S.ws) (S.op + 1) S.ln S.lt S.ls S.fr S.to) := by
              rw [tkv qn]
              unfold vlS
              rw [if_pos q40, if_pos (by omega)]
            have r1 := r0.tr (RC.st qn hvl)
            obtain ⟨R3, j3, w1, w2, w3, w4, w5⟩ := hc qo _ M (k + 1) (mkS S.st S.cs (0 :: S.ws) (S.op + 1) S.ln S.lt S.ls S.fr S.to) s2 (by omega) qn k1 k2 (show S.op + 1 = o + 1 by omega) (fun a r e => by injection e with e e'; omega)
            have f3 : frZ R R3 := y3.tr ((frZ.up (by decide) (by decide)).tr ((frZ.up (by decide) (by decide)).tr w4))
            rw [w1, Option.bind_some]
            have J : ∀ (R4 : am_M) (v : Int32), sm_01 v → fM_readValue_O_J178 rc P (am_pk 330 0 13) v (am_pk 330 0 13) (put I R4) = some (put I (am_up (am_up R4 330 40 v) 330 39 (R4 330 39 - 1))) := by
              intro R4 v hv
              unfold fM_readValue_O_J178
              rw [sm_ck_pos (am_t_pk (by decide)), sm_ck_pos hv, put_up sc_330, bd_eq, sm_ck_pos (am_t_pk (by decide)), put_rd sc_330, show am_up R4 330 40 v 330 39 = R4 330 39 from am_up_nk (by decide), put_up sc_330, bd_eq]
            rcases w5 with ⟨E, s3, c3, q3, a1, a2, a3, a4, a5, a6, a7, a8, a9⟩ | ⟨M', a1, a2, a3, a4, a5⟩
            · rw [put_rd sc_330, a1.2.2.2.2, if_neg (fun z => z rfl)]
              obtain ⟨R4, b1, b2, b3⟩ := m_may (I := I) hS hn hb (c := 41) (cv := 41) rfl (by decide) w3 a1
              have ej : skP b n j3 = j3 := by
                obtain ⟨u1, u2, u3, u4⟩ := skP_s (b := b) w3
                by_cases z : skP b n j3 = j3
                · exact z
                · exact absurd (u3 j3 (Nat.le_refl _) (by omega)) (hnb _ (a9 (by omega))).1
              rw [ej] at b1 b2
              rw [b1, Option.bind_some]
              dsimp only
              rw [bI_ifn]
              by_cases q41 : j3 < n ∧ b j3 = 41
              · rw [if_pos q41, J R4 0 sm_v0]
                rw [cif_t q41] at b2
                refine ⟨_, j3 + 1, rfl, by omega, by omega, f3.tr (b3.tr ((frZ.up (by decide) (by decide)).tr (frZ.up (by decide) (by decide)))), Or.inl ⟨E, 4, E ++ M, S.ws, ?_, a2, a3, by omega, ?_, Or.inr rfl, fun z => absurd z (by decide), pwF_0 k4, fun _ => trivial⟩⟩
                · refine ⟨⟨by rw [am_up_nk (by decide), am_up_nk (by decide)]; exact b2.1.1, fun i hi => by rw [am_up_ne (by decide), am_up_ne (by decide)]; exact b2.1.2 i hi⟩, (b2.2.1.up (by decide)).up (by decide), by rw [am_up_nk (by decide), am_up_nk (by decide)]; exact b2.2.2.1, ?_, by rw [am_up_nk (by decide), am_up_eq]⟩
                  rw [am_up_eq, b2.2.2.2.1, ← nI_dm, pk_m1]
                · refine (r1.tr a5).tr (RC.st q41.1 ?_)
                  rw [q41.2, tk_jt (S := cqS _ s3 c3 q3) a6 (by decide) (fun _ => by decide)]
                  unfold jtF
                  rw [if_neg (by decide), if_pos rfl]
                  refine (if_neg (show ¬ S.op + 1 = 0 by omega)).trans ?_
                  have e : cbS (cqS (mkS S.st S.cs (0 :: S.ws) (S.op + 1) S.ln S.lt S.ls S.fr S.to) s3 c3 q3) = mkS 4 (pwF 110 q3 c3).1 (pwF 110 q3 c3).2.tail (S.op + 1 - 1) S.ln S.lt S.ls S.fr S.to := rfl
                  rw [e, a8]
                  rfl
              · rw [if_neg q41]
                unfold fM_readValue_O_J173
                rw [J R4 1 sm_v1]
                rw [cif_f q41] at b2
                refine ⟨_, j3, rfl, by omega, w3, f3.tr (b3.tr ((frZ.up (by decide) (by decide)).tr (frZ.up (by decide) (by decide)))), Or.inr ⟨E ++ M, (b2.2.1.up (by decide)).up (by decide), ?_, by rw [am_up_nk (by decide), am_up_nk (by decide)]; exact b2.2.2.1, by rw [am_up_nk (by decide), am_up_eq], _, r1.tr a5, fun z => ?_, fun z => Or.inr (show S.op + 1 ≠ 0 by omega)⟩⟩
                · rw [List.length_append]; omega
                · have hx := hnb _ (a9 z)
                  rw [tk_jt (S := cqS _ s3 c3 q3) a6 hx.1 (fun y => a7 y z)]
                  exact jt_none hx.2.2.1 (fun y => absurd ⟨z, y⟩ q41) hx.2.1 hx.2.2.2.1 hx.2.2.2.2 (fun _ => Or.inl (show 0 < S.op + 1 by omega))
            · have hz : ¬ R3 330 40 = 0 := by rw [a4]; decide
              rw [put_rd sc_330, if_pos hz]
              unfold fM_readValue_O_J173
              rw [J R3 1 sm_v1]
              exact ⟨_, j3, rfl, by omega, w3, f3.tr ((frZ.up (by decide) (by decide)).tr (frZ.up (by decide) (by decide))), Or.inr ⟨M', (a1.up (by decide)).up (by decide), by omega, by rw [am_up_nk (by decide), am_up_nk (by decide)]; exact a3, by rw [am_up_nk (by decide), am_up_eq], a5.pre r1⟩⟩
          · rw [if_pos (by rw [show (4 : Int32) = nI 4 from rfl, nI_leI (by decide) (by omega)]; omega), put_up sc_330, bd_eq]
            exact bad (fun _ => by unfold vlS; rw [if_pos q40, if_neg (by omega)])
        · rw [if_pos (by rw [show (40 : Int32) = nI 40 from rfl, nk hbk (by decide)]; exact q40), put_up sc_330, bd_eq]
          exact bad (fun _ => by unfold vlS; rw [if_neg q40, if_neg qd, g1])
  · have eb : bhF b n k = -1 := by unfold bhF; rw [if_neg qn]
    rw [if_neg (fun z => qn z.1), eb, show fM_nameOf (-1) = some (-1) from by decide, Option.bind_some, if_pos (by decide), if_pos (by decide), put_up sc_330, bd_eq]
    exact bad (fun z => absurd z qn)
/-- what may follow a sum -/
def nbS (c : Nat) : Prop := (True ∧ c ≠ 32 ∧ c ≠ 42 ∧ c ≠ 37) ∧ c ≠ 32 ∧ c ≠ 43 ∧ c ≠ 45
theorem rd_S (hS : SP P) (hn : n ≤ 80) (hb : ∀ k, k < n → b k < 256) : ∀ (d f o : Nat), o + d = 4 → d < f → SPc I P b n (fM_readSum f) o 110 (3 + 2 * (4 - o)) nbS
  | d, 0, o, h1, h2 => absurd h2 (by omega)
  | d, f + 1, o, h1, h2 => by
    have hv : SPc I P b n (fM_readValue_O (fM_readSum f)) o 200 (1 + 2 * (4 - o)) (fun _ => True) := by
      refine rd_V hS hn hb (nb := nbS) (by omega) (fun c hc => ⟨hc.2.1, hc.1.2.2.1, hc.1.2.2.2, hc.2.2.1, hc.2.2.2⟩) (fun ho => ?_)
      have := rd_S hS hn hb (d - 1) f (o + 1) (by omega) (by omega)
      rw [show 1 + 2 * (4 - o) = 3 + 2 * (4 - (o + 1)) by omega]
      exact this
    have h1' := rd_O hS hn hb (c1 := 42) (c2 := 37) (q := 2 + 2 * (4 - o)) rfl rfl opP_42 opP_37 (by decide) (by decide) (by decide) (by omega) (fun _ _ _ _ => trivial) hv
    rw [← rdO_1] at h1'
    have h2' := rd_O hS hn hb (c1 := 43) (c2 := 45) (q := 3 + 2 * (4 - o)) rfl rfl opP_43 opP_45 (by decide) (by decide) (by decide) (by omega) (fun j hj hh hz => by
      obtain ⟨u1, u2, u3, u4⟩ := skP_s (b := b) hj
      by_cases z : skP b n j = j
      · rw [z]; rw [z] at hz; exact hh hz
      · exact absurd (u3 j (Nat.le_refl _) (by omega)) (hh (by omega)).2.1) h1'
    rw [← rdO_2] at h2'
    exact h2'
end Rd3
