/-! ===== reading a text: the class, a byte and all bytes ===== -/
theorem nk {c k : Nat} (hc : c < 256) (hk : k < 256) : (nI c = nI k) = (c = k) := propext (nI_eq (by omega) (by omega))
theorem ltF_lt {c l : Nat} (h : ltF c = some l) : l < 4 := by
  unfold ltF at h
  split at h
  · injection h with h; omega
  · split at h
    · injection h with h; omega
    · split at h
      · injection h with h; omega
      · split at h
        · injection h with h; omega
        · exact absurd h (by simp)
theorem sm_v0 : sm_01 (0 : Int32) := Or.inl rfl
theorem sm_v1 : sm_01 (1 : Int32) := Or.inr rfl
theorem b01 {v : Int32} {M : am_M} (h : sm_01 v) : (Option.bind (some (v, M)) fun y => sm_ck (sm_01 y.1) <| some (y.1, y.2)) = some (v, M) := by
  rw [Option.bind_some]
  exact sm_ck_pos h
section Tp2
variable {I R : am_M} {P : am_Q}
/-- the outcome of a byte -/
def okT (o : Option PS) (v : Int32) (R' : am_M) : Prop := (o = none ∧ v = 0) ∨ ∃ S', o = some S' ∧ v = 1 ∧ PSR R' S'
theorem okT.b {o : Option PS} {v : Int32} {R' : am_M} (h : okT o v R') : sm_01 v := by
  rcases h with ⟨-, e⟩ | ⟨S', -, e, -⟩
  · exact Or.inl e
  · exact Or.inr e
theorem x_lett {S : PS} {c : Nat} (hc : c < 256) (h : PSR R S) : ∃ v R', fT_takesLetter P (am_pk 299 0 10) (nI c) (put I R) = some (v, put I R') ∧ frY R R' ∧ okT (match ltF c with
    | some l => some (mkS 1 S.cs S.ws S.op S.ln l S.ls S.fr S.to)
    | none => none) v R' := by
  obtain ⟨g1, g2, g8, g9, g10, g11, g12, gc, gw, g3, g4⟩ := h
  have go : ∀ (l : Nat) (lv : Int32), lv = nI l → PSR (am_up (am_up R 299 11 lv) 299 8 1) (mkS 1 S.cs S.ws S.op S.ln l S.ls S.fr S.to) ∧ frY R (am_up (am_up R 299 11 lv) 299 8 1) := by
    intro l lv e
    subst e
    refine ⟨⟨?_, ?_, am_up_eq, ?_, ?_, fun _ => ?_, ?_, ?_, ?_, fun l hl => ?_, fun l hl => ?_⟩, (frY.up (by decide)).tr (frY.up (by decide))⟩
    · rw [am_up_nk (by decide), am_up_nk (by decide)]; exact g1
    · rw [am_up_nk (by decide), am_up_nk (by decide)]; exact g2
    · rw [am_up_nk (by decide), am_up_nk (by decide)]; exact g9
    · rw [am_up_nk (by decide), am_up_nk (by decide)]; exact g10
    · rw [am_up_nk (by decide), am_up_eq]; rfl
    · rw [am_up_nk (by decide), am_up_nk (by decide)]; exact g12
    · exact gc.fr (fun k hk => by rw [am_up_ne (by decide), am_up_ne (by decide)])
    · exact gw.fr (fun k hk => by rw [am_up_ne (by decide), am_up_ne (by decide)])
    · rw [am_up_ne (by decide), am_up_ne (by decide)]; exact g3 l hl
    · rw [am_up_ne (by decide), am_up_ne (by decide)]; exact g4 l hl
  unfold fT_takesLetter
  simp only [show (112 : Int32) = nI 112 from rfl, show (113 : Int32) = nI 113 from rfl, show (114 : Int32) = nI 114 from rfl, show (115 : Int32) = nI 115 from rfl, show (116 : Int32) = nI 116 from rfl, show (117 : Int32) = nI 117 from rfl, show (118 : Int32) = nI 118 from rfl, nk hc (show 112 < 256 by decide), nk hc (show 113 < 256 by decide), nk hc (show 114 < 256 by decide), nk hc (show 115 < 256 by decide), nk hc (show 116 < 256 by decide), nk hc (show 117 < 256 by decide), nk hc (show 118 < 256 by decide), bd_eq, put_up sc_299]
  by_cases e1 : c = 112
  · subst e1
    rw [if_pos rfl, sm_ck_pos (am_t_pk (by decide))]
    exact ⟨1, _, rfl, (go 0 0 rfl).2, Or.inr ⟨_, rfl, rfl, (go 0 0 rfl).1⟩⟩
  · rw [if_neg e1]
    by_cases e2 : c = 113
    · subst e2
      rw [if_pos rfl, sm_ck_pos (am_t_pk (by decide))]
      exact ⟨1, _, rfl, (go 1 1 rfl).2, Or.inr ⟨_, rfl, rfl, (go 1 1 rfl).1⟩⟩
    · rw [if_neg e2]
      by_cases e3 : c = 117
      · subst e3
        rw [if_neg (by decide), if_neg (by decide), if_neg (by decide), if_pos rfl, sm_ck_pos (am_t_pk (by decide))]
        exact ⟨1, _, rfl, (go 2 2 rfl).2, Or.inr ⟨_, rfl, rfl, (go 2 2 rfl).1⟩⟩
      · by_cases e4 : c = 118
        · subst e4
          rw [if_neg (by decide), if_neg (by decide), if_neg (by decide), if_neg (by decide), if_pos rfl, sm_ck_pos (am_t_pk (by decide))]
          exact ⟨1, _, rfl, (go 3 3 rfl).2, Or.inr ⟨_, rfl, rfl, (go 3 3 rfl).1⟩⟩
        · rw [if_neg e3, if_neg e4]
          have hl : ltF c = none := by unfold ltF; rw [if_neg e1, if_neg e2, if_neg e3, if_neg e4]
          rw [hl]
          refine ⟨0, R, ?_, frY.rfl, Or.inl ⟨rfl, rfl⟩⟩
          by_cases f1 : c = 114
          · rw [if_pos f1]
          · rw [if_neg f1]
            by_cases f2 : c = 115
            · rw [if_pos f2]
            · rw [if_neg f2]
              by_cases f3 : c = 116
              · rw [if_pos f3]
              · rw [if_neg f3]
theorem x_valu (hS : SP P) {S : PS} {c i : Nat} (hi : i < 80) (hI : psI S i) (hst : S.st ≠ 0) (hc : c < 256) (h : PSR R S) : ∃ v R', fT_takesValue P (am_pk 299 0 10) (nI c) (put I R) = some (v, put I R') ∧ frY R R' ∧ okT (vlS S c) v R' := by
  have hI1 := hI.1
  have hI4 := hI.2.2.1
  have h' := h
  obtain ⟨g1, g2, g8, g9, g10, g11, g12, gc, gw, g3, g4⟩ := h'
  have hcl : S.cs.length < 80 := by omega
  have hwl : S.ws.length < 80 := by omega
  have vput : ∀ (R1 : am_M) (k s : Nat), (∀ c, c ≠ 299 → R1 c = R c) → (∀ k, k ≠ 8 → R1 299 k = R 299 k) → s ≠ 0 → (∃ R', fT_put P (am_pk 299 0 10) (nI k) (put I R1) = some (put I R') ∧ (∀ c, c ≠ 299 → c ≠ 301 → R' c = R c) ∧ R' 299 1 = R 299 1 ∧ R' 299 8 = R1 299 8 ∧ (∀ R'', (∀ c, c ≠ 299 → R'' c = R' c) → (∀ k, k ≠ 8 → R'' 299 k = R' 299 k) → R'' 299 8 = nI s → PSR R'' (ccS S s (k :: S.cs)))) := by
    intro R1 k s f1 f2 hs
    have e3 : R1 299 3 = nI S.cs.length := by rw [f2 3 (by decide)]; exact g1
    refine ⟨am_up (am_up R1 301 S.cs.length (nI k)) 299 3 (nI (S.cs.length + 1)), x_put hS hcl e3, fun c a1 a2 => by funext j; rw [am_up_ne a1, am_up_ne a2, f1 c a1], ?_, ?_, fun R'' d1 d2 d8 => ?_⟩
    · rw [am_up_nk (by decide), am_up_ne (by decide), f2 1 (by decide)]
    · rw [am_up_nk (by decide), am_up_ne (by decide)]
    · refine ⟨?_, ?_, d8, ?_, ?_, fun _ => ?_, ?_, ⟨?_, ?_⟩, ?_, fun l hl => ?_, fun l hl => ?_⟩
      · rw [d2 3 (by decide), am_up_eq]; rfl
      · rw [d2 5 (by decide), am_up_nk (by decide), am_up_ne (by decide), f2 5 (by decide)]; exact g2
      · rw [d2 9 (by decide), am_up_nk (by decide), am_up_ne (by decide), f2 9 (by decide)]; exact g9
      · rw [d2 10 (by decide), am_up_nk (by decide), am_up_ne (by decide), f2 10 (by decide)]; exact g10
      · rw [d2 11 (by decide), am_up_nk (by decide), am_up_ne (by decide), f2 11 (by decide)]; exact g11 hst
      · rw [d2 12 (by decide), am_up_nk (by decide), am_up_ne (by decide), f2 12 (by decide)]; exact g12
      · rw [d1 301 (by decide), am_up_ne (by decide), am_up_eq]
      · exact gc.fr (fun j hj => by rw [d1 301 (by decide), am_up_ne (by decide), am_up_nk (by omega), f1 301 (by decide)])
      · exact gw.fr (fun j hj => by rw [d1 302 (by decide), am_up_ne (by decide), am_up_ne (by decide), f1 302 (by decide)])
      · rw [d1 303 (by decide), am_up_ne (by decide), am_up_ne (by decide), f1 303 (by decide)]; exact g3 l hl
      · rw [d1 304 (by decide), am_up_ne (by decide), am_up_ne (by decide), f1 304 (by decide)]; exact g4 l hl
  unfold fT_takesValue
  by_cases q40 : c = 40
  · subst q40
    rw [if_neg (fun z => z rfl), sm_ck_pos (am_t_pk (by decide)), put_rd sc_299, g9]
    by_cases qo : S.op < 4
    · rw [if_pos (by rw [show (4 : Int32) = nI 4 from rfl, nI_ltI (by omega) (by decide)]; exact qo), put_up sc_299, nI_1, bd_eq, x_await hS hwl (by rw [am_up_nk (by decide)]; exact g2), Option.bind_some]
      have hv : vlS S 40 = some (mkS S.st S.cs (0 :: S.ws) (S.op + 1) S.ln S.lt S.ls S.fr S.to) := by
        unfold vlS
        rw [if_pos rfl, if_pos qo]
      refine ⟨1, _, rfl, ⟨fun c a1 a2 => by funext j; rw [am_up_ne a1, am_up_ne (by omega), am_up_ne a1], by rw [am_up_nk (by decide), am_up_ne (by decide), am_up_nk (by decide)]⟩, Or.inr ⟨_, hv, rfl, ?_⟩⟩
      refine ⟨?_, ?_, ?_, ?_, ?_, fun _ => ?_, ?_, ?_, ⟨?_, ?_⟩, fun l hl => ?_, fun l hl => ?_⟩
      · rw [am_up_nk (by decide), am_up_ne (by decide), am_up_nk (by decide)]; exact g1
      · rw [am_up_eq]; rfl
      · rw [am_up_nk (by decide), am_up_ne (by decide), am_up_nk (by decide)]; exact g8
      · rw [am_up_nk (by decide), am_up_ne (by decide), am_up_eq]; rfl
      · rw [am_up_nk (by decide), am_up_ne (by decide), am_up_nk (by decide)]; exact g10
      · rw [am_up_nk (by decide), am_up_ne (by decide), am_up_nk (by decide)]; exact g11 hst
      · rw [am_up_nk (by decide), am_up_ne (by decide), am_up_nk (by decide)]; exact g12
      · exact gc.fr (fun j hj => by rw [am_up_ne (by decide), am_up_ne (by decide), am_up_ne (by decide)])
      · rw [am_up_ne (by decide), am_up_eq]; rfl
      · exact gw.fr (fun j hj => by rw [am_up_ne (by decide), am_up_nk (by omega), am_up_ne (by decide)])
      · rw [am_up_ne (by decide), am_up_ne (by decide), am_up_ne (by decide)]; exact g3 l hl
      · rw [am_up_ne (by decide), am_up_ne (by decide), am_up_ne (by decide)]; exact g4 l hl
    · rw [if_neg (by rw [show (4 : Int32) = nI 4 from rfl, nI_ltI (by omega) (by decide)]; exact qo)]
      have hv : vlS S 40 = none := by
        unfold vlS
        rw [if_pos rfl, if_neg qo]
      exact ⟨0, R, rfl, frY.rfl, Or.inl ⟨hv, rfl⟩⟩
  · rw [if_pos (by rw [show (40 : Int32) = nI 40 from rfl, nk hc (by decide)]; exact q40), h_isDig hc, Option.bind_some, bI_if]
    by_cases qd : 48 ≤ c ∧ c ≤ 57
    · have e48 : nI c - 48 = nI (c - 48) := by
        obtain ⟨k, rfl⟩ : ∃ k, c = k + 48 := ⟨c - 48, by omega⟩
        rw [Nat.add_sub_cancel, ← nI_add, show (48 : Int32) = nI 48 from rfl, Int32.add_sub_cancel]
      obtain ⟨R', y1, y2, y3, y4, y5⟩ := vput R (c - 48) 3 (fun _ _ => rfl) (fun _ _ => rfl) (by decide)
      rw [if_pos qd, sm_ck_pos (am_t_pk (by decide)), e48, y1, Option.bind_some, put_up sc_299, bd_eq]
      have hv : vlS S c = some (ccS S 3 ((c - 48) :: S.cs)) := by
        unfold vlS
        rw [if_neg q40, if_pos qd]
      exact ⟨1, _, rfl, ⟨fun c a1 a2 => by funext j; rw [am_up_ne a1, y2 c a1 (by omega)], by rw [am_up_nk (by decide)]; exact y3⟩, Or.inr ⟨_, hv, rfl, y5 _ (fun c hc => by funext j; rw [am_up_ne hc]) (fun k hk => am_up_nk hk) am_up_eq⟩⟩
    · rw [if_neg qd, sm_ck_pos (am_t_pk (by decide)), put_up sc_299, bd_eq]
      have go : ∀ (k : Nat), nmC c = some k → ∃ v R', (Option.bind (fT_put P (am_pk 299 0 10) (nI k) (put I (am_up R 299 8 4))) fun y => some ((1 : Int32), y)) = some (v, put I R') ∧ frY R R' ∧ okT (vlS S c) v R' := by
        intro k hk
        obtain ⟨R', y1, y2, y3, y4, y5⟩ := vput (am_up R 299 8 4) k 4 (fun c hc => by funext j; rw [am_up_ne hc]) (fun k hk => am_up_nk hk) (by decide)
        have hv : vlS S c = some (ccS S 4 (k :: S.cs)) := by
          unfold vlS
          rw [if_neg q40, if_neg qd, hk]
        rw [y1, Option.bind_some]
        exact ⟨1, R', rfl, ⟨fun c a1 a2 => y2 c a1 (by omega), y3⟩, Or.inr ⟨_, hv, rfl, y5 R' (fun _ _ => rfl) (fun _ _ => rfl) (by rw [y4, am_up_eq]; rfl)⟩⟩
      simp only [show (97 : Int32) = nI 97 from rfl, show (98 : Int32) = nI 98 from rfl, show (104 : Int32) = nI 104 from rfl, show (112 : Int32) = nI 112 from rfl, show (113 : Int32) = nI 113 from rfl, nk hc (show 97 < 256 by decide), nk hc (show 98 < 256 by decide), nk hc (show 104 < 256 by decide), nk hc (show 112 < 256 by decide), nk hc (show 113 < 256 by decide)]
      by_cases e1 : c = 97
      · rw [if_pos e1]; exact go 102 (by rw [e1]; rfl)
      · rw [if_neg e1]
        by_cases e2 : c = 98
        · rw [if_pos e2]; exact go 103 (by rw [e2]; rfl)
        · rw [if_neg e2]
          by_cases e3 : c = 104
          · rw [if_pos e3]; exact go 104 (by rw [e3]; rfl)
          · rw [if_neg e3]
            by_cases e4 : c = 112
            · rw [if_pos e4]; exact go 100 (by rw [e4]; rfl)
            · rw [if_neg e4]
              by_cases e5 : c = 113
              · rw [if_pos e5]; exact go 101 (by rw [e5]; rfl)
              · rw [if_neg e5]
                have hn : nmC c = none := by unfold nmC; rw [if_neg e1, if_neg e2, if_neg e3, if_neg e4, if_neg e5]
                have hv : vlS S c = none := by
                  unfold vlS
                  rw [if_neg q40, if_neg qd, hn]
                exact ⟨0, _, rfl, frY.up (by decide), Or.inl ⟨hv, rfl⟩⟩
theorem x_sdig (hS : SP P) {S : PS} {c i : Nat} (hi : i < 80) (hI : psI S i) (hst : S.st ≠ 0) (hc : 48 ≤ c ∧ c ≤ 57) (h : PSR R S) : ∃ v R', fT_takesSecondDigit P (am_pk 299 0 10) (nI c) (put I R) = some (v, put I R') ∧ frY R R' ∧ okT (sdS S c) v R' := by
  have hI1 := hI.1
  obtain ⟨g1, g2, g8, g9, g10, g11, g12, gc, gw, g3, g4⟩ := h
  unfold fT_takesSecondDigit sdS
  cases hcs : S.cs with
  | nil =>
    rw [hcs] at g1
    rw [sm_ck_pos (am_t_pk (by decide)), put_rd sc_299, g1, if_neg (by decide)]
    exact ⟨0, R, rfl, frY.rfl, Or.inl ⟨rfl, rfl⟩⟩
  | cons a r =>
    rw [hcs] at g1 gc hI1
    have g1 : R 299 3 = nI (r.length + 1) := g1
    have hl : r.length + 1 + S.ws.length ≤ i := hI1
    have e0 : R 301 r.length = nI a := gc.1
    have e48 : nI c - 48 = nI (c - 48) := by
      obtain ⟨k, rfl⟩ : ∃ k, c = k + 48 := ⟨c - 48, by omega⟩
      rw [Nat.add_sub_cancel, ← nI_add, show (48 : Int32) = nI 48 from rfl, Int32.add_sub_cancel]
    have e10 : (10 : Int32) * nI a + nI (c - 48) = nI (10 * a + (c - 48)) := by rw [show (10 : Int32) = nI 10 from rfl, pk_mul, nI_add]
    rw [sm_ck_pos (am_t_pk (by decide)), put_rd sc_299, g1, if_pos (by rw [show (1 : Int32) = nI 1 from rfl, nI_leI (by decide) (by omega)]; omega), ← nI_dm, pk_m1, sp_299_2 hS, sm_ck_pos (sm_in_nI (by decide) (by omega)), sm_ck_pos (sm_iw_nI (by decide) (by decide) (by omega)), nI_clamp (show r.length < 2 ^ 31 by omega), put_rd sc_301, e0, e48, e10, put_up sc_301, bd_eq, put_up sc_299, bd_eq]
    refine ⟨1, _, rfl, ⟨fun c a1 a2 => by funext j; rw [am_up_ne a1, am_up_ne (by omega)], by rw [am_up_nk (by decide), am_up_ne (by decide)]⟩, Or.inr ⟨_, rfl, rfl, ?_⟩⟩
    refine ⟨?_, ?_, am_up_eq, ?_, ?_, fun _ => ?_, ?_, ⟨?_, ?_⟩, ?_, fun l hl => ?_, fun l hl => ?_⟩
    · rw [am_up_nk (by decide), am_up_ne (by decide)]; exact g1
    · rw [am_up_nk (by decide), am_up_ne (by decide)]; exact g2
    · rw [am_up_nk (by decide), am_up_ne (by decide)]; exact g9
    · rw [am_up_nk (by decide), am_up_ne (by decide)]; exact g10
    · rw [am_up_nk (by decide), am_up_ne (by decide)]; exact g11 hst
    · rw [am_up_nk (by decide), am_up_ne (by decide)]; exact g12
    · rw [am_up_ne (by decide), am_up_eq]
    · exact gc.2.fr (fun j hj => by rw [am_up_ne (by decide), am_up_nk (by omega)])
    · exact gw.fr (fun j hj => by rw [am_up_ne (by decide), am_up_ne (by decide)])
    · rw [am_up_ne (by decide), am_up_ne (by decide)]; exact g3 l hl
    · rw [am_up_ne (by decide), am_up_ne (by decide)]; exact g4 l hl
theorem x_join (hS : SP P) {S : PS} {c i : Nat} (hi : i < 80) (hI : psI S i) (hst : S.st ≠ 0) (hc : c < 256) (h : PSR R S) : ∃ v R', fT_takesJoint P (am_pk 299 0 10) (nI c) (put I R) = some (v, put I R') ∧ frY R R' ∧ okT (jtF S c) v R' := by
  have hI4 := hI.2.2.1
  have hI5 := hI.2.2.2.1
  have goO : ∀ (o : Nat) (ov : Int32), ov = nI o → 110 ≤ o → o < 114 → jtF S c = some (opS S o) → ∃ v R', (Option.bind (fT_takesOperator P (am_pk 299 0 10) ov (put I R)) fun y => sm_ck (sm_01 y.1) <| some (y.1, y.2)) = some (v, put I R') ∧ frY R R' ∧ okT (jtF S c) v R' := by
    intro o ov e h1 h2 hj
    subst e
    obtain ⟨R', y1, y2, y3⟩ := x_oper (I := I) hS hi hI h h1 h2 hst
    rw [y1, b01 sm_v1]
    exact ⟨1, R', rfl, y3, Or.inr ⟨_, hj, rfl, y2⟩⟩
  have g9 := h.2.2.2.1
  have g10 := h.2.2.2.2.1
  unfold fT_takesJoint
  simp only [show (37 : Int32) = nI 37 from rfl, show (41 : Int32) = nI 41 from rfl, show (42 : Int32) = nI 42 from rfl, show (43 : Int32) = nI 43 from rfl, show (45 : Int32) = nI 45 from rfl, show (59 : Int32) = nI 59 from rfl, nk hc (show 37 < 256 by decide), nk hc (show 41 < 256 by decide), nk hc (show 42 < 256 by decide), nk hc (show 43 < 256 by decide), nk hc (show 45 < 256 by decide), nk hc (show 59 < 256 by decide)]
  by_cases e1 : c = 37
  · rw [if_pos e1, sm_ck_pos (am_t_pk (by decide))]
    exact goO 113 113 rfl (by decide) (by decide) (by unfold jtF; rw [if_pos e1])
  · rw [if_neg e1]
    by_cases e2 : c = 41
    · rw [if_pos e2, sm_ck_pos (am_t_pk (by decide))]
      by_cases qo : S.op = 0
      · have hj : jtF S c = none := by unfold jtF; rw [if_neg e1, if_pos e2, if_pos qo]
        unfold fT_takesClosing
        rw [sm_ck_pos (am_t_pk (by decide)), put_rd sc_299, g9, qo, if_neg (fun z => z rfl), b01 sm_v0]
        exact ⟨0, R, rfl, frY.rfl, Or.inl ⟨hj, rfl⟩⟩
      · have hj : jtF S c = some (cbS S) := by unfold jtF; rw [if_neg e1, if_pos e2, if_neg qo]
        obtain ⟨R', y1, y2, y3⟩ := x_clos (I := I) hS hi hI h hst qo
        rw [y1, b01 sm_v1]
        exact ⟨1, R', rfl, y3, Or.inr ⟨_, hj, rfl, y2⟩⟩
    · rw [if_neg e2]
      by_cases e3 : c = 42
      · rw [if_pos e3, sm_ck_pos (am_t_pk (by decide))]
        exact goO 112 112 rfl (by decide) (by decide) (by unfold jtF; rw [if_neg e1, if_neg e2, if_pos e3])
      · rw [if_neg e3]
        by_cases e4 : c = 43
        · rw [if_pos e4, sm_ck_pos (am_t_pk (by decide))]
          exact goO 110 110 rfl (by decide) (by decide) (by unfold jtF; rw [if_neg e1, if_neg e2, if_neg e3, if_pos e4])
        · rw [if_neg e4]
          by_cases e5 : c = 45
          · rw [if_pos e5, sm_ck_pos (am_t_pk (by decide))]
            exact goO 111 111 rfl (by decide) (by decide) (by unfold jtF; rw [if_neg e1, if_neg e2, if_neg e3, if_neg e4, if_pos e5])
          · rw [if_neg e5]
            by_cases e6 : c = 59
            · rw [if_pos e6, sm_ck_pos (am_t_pk (by decide))]
              unfold fT_takesLineEnd
              rw [sm_ck_pos (am_t_pk (by decide)), put_rd sc_299, put_rd sc_299, g9, g10, nI_1]
              by_cases qo : 0 < S.op
              · have hj : jtF S c = none := by unfold jtF; rw [if_neg e1, if_neg e2, if_neg e3, if_neg e4, if_neg e5, if_pos e6, if_pos qo]
                rw [if_pos (by rw [show (0 : Int32) = nI 0 from rfl, nI_ltI (by decide) (by omega)]; exact qo), b01 sm_v0]
                exact ⟨0, R, rfl, frY.rfl, Or.inl ⟨hj, rfl⟩⟩
              · rw [if_neg (by rw [show (0 : Int32) = nI 0 from rfl, nI_ltI (by decide) (by omega)]; exact qo)]
                by_cases ql : S.ln + 1 < 6
                · have hj : jtF S c = some (stS (clS S) 0) := by unfold jtF; rw [if_neg e1, if_neg e2, if_neg e3, if_neg e4, if_neg e5, if_pos e6, if_neg qo, if_pos ql]
                  obtain ⟨R9, R', y0, y1, y2, y3⟩ := x_clLn (I := I) hS (Nat.le_of_lt hi) hI h hst
                  obtain ⟨k1, k2, k8, k9, k10, k11, k12, kc, kw, k3, k4⟩ := y2
                  rw [if_pos (by rw [show (6 : Int32) = nI 6 from rfl, nI_ltI (by omega) (by decide)]; exact ql), y0, Option.bind_some, y1, Option.bind_some, put_up sc_299, bd_eq, b01 sm_v1]
                  refine ⟨1, _, rfl, y3.tr (frY.up (by decide)), Or.inr ⟨_, hj, rfl, ?_⟩⟩
                  refine ⟨?_, ?_, am_up_eq, ?_, ?_, fun z => absurd rfl z, ?_, ?_, ?_, fun l hl => ?_, fun l hl => ?_⟩
                  · rw [am_up_nk (by decide)]; exact k1
                  · rw [am_up_nk (by decide)]; exact k2
                  · rw [am_up_nk (by decide)]; exact k9
                  · rw [am_up_nk (by decide)]; exact k10
                  · rw [am_up_nk (by decide)]; exact k12
                  · exact kc.fr (fun j hj => by rw [am_up_ne (by decide)])
                  · exact kw.fr (fun j hj => by rw [am_up_ne (by decide)])
                  · rw [am_up_ne (by decide)]; exact k3 l hl
                  · rw [am_up_ne (by decide)]; exact k4 l hl
                · have hj : jtF S c = none := by unfold jtF; rw [if_neg e1, if_neg e2, if_neg e3, if_neg e4, if_neg e5, if_pos e6, if_neg qo, if_neg ql]
                  rw [if_neg (by rw [show (6 : Int32) = nI 6 from rfl, nI_ltI (by omega) (by decide)]; exact ql), b01 sm_v0]
                  exact ⟨0, R, rfl, frY.rfl, Or.inl ⟨hj, rfl⟩⟩
            · have hj : jtF S c = none := by unfold jtF; rw [if_neg e1, if_neg e2, if_neg e3, if_neg e4, if_neg e5, if_neg e6]
              rw [if_neg e6]
              exact ⟨0, R, rfl, frY.rfl, Or.inl ⟨hj, rfl⟩⟩
theorem PSR.st {S : PS} {s : Nat} (h : PSR R S) (hs : S.st ≠ 0) : PSR (am_up R 299 8 (nI s)) (stS S s) := by
  obtain ⟨k1, k2, k8, k9, k10, k11, k12, kc, kw, k3, k4⟩ := h
  refine ⟨?_, ?_, am_up_eq, ?_, ?_, fun z => ?_, ?_, ?_, ?_, fun l hl => ?_, fun l hl => ?_⟩
  · rw [am_up_nk (by decide)]; exact k1
  · rw [am_up_nk (by decide)]; exact k2
  · rw [am_up_nk (by decide)]; exact k9
  · rw [am_up_nk (by decide)]; exact k10
  · rw [am_up_nk (by decide)]; exact k11 hs
  · rw [am_up_nk (by decide)]; exact k12
  · exact kc.fr (fun j hj => by rw [am_up_ne (by decide)])
  · exact kw.fr (fun j hj => by rw [am_up_ne (by decide)])
  · rw [am_up_ne (by decide)]; exact k3 l hl
  · rw [am_up_ne (by decide)]; exact k4 l hl
theorem x_take (hS : SP P) {S : PS} {c i : Nat} (hi : i < 80) (hI : psI S i) (hc : c < 256) (h : PSR R S) : ∃ v R', fT_takes P (am_pk 299 0 10) (nI c) (put I R) = some (v, put I R') ∧ frY R R' ∧ okT (tkF S c) v R' := by
  have hst := hI.2.1
  have g8 := h.2.2.1
  have w01 : ∀ {v : Int32} {R' : am_M} {o : Option PS} {f : Option (Int32 × am_M)}, f = some (v, put I R') → okT o v R' → (Option.bind f fun y => sm_ck (sm_01 y.1) <| some (y.1, y.2)) = some (v, put I R') := by
    intro v R' o f e k
    rw [e]
    exact b01 k.b
  unfold fT_takes
  by_cases q : c = 32
  · subst q
    rw [if_neg (fun z => z rfl), sm_ck_pos (am_t_pk (by decide)), put_rd sc_299, g8]
    have ht : tkF S 32 = some (stS S (if S.st = 3 then 4 else S.st)) := by unfold tkF; rw [if_pos rfl]
    by_cases q3 : S.st = 3
    · rw [if_neg (fun z => z (by rw [q3]; rfl)), put_up sc_299, bd_eq]
      rw [if_pos q3] at ht
      exact ⟨1, _, rfl, frY.up (by decide), Or.inr ⟨_, ht, rfl, h.st (s := 4) (by omega)⟩⟩
    · rw [if_pos (by rw [show (3 : Int32) = nI 3 from rfl, nI_eq (by omega) (by decide)]; exact q3)]
      rw [if_neg q3] at ht
      exact ⟨1, R, rfl, frY.rfl, Or.inr ⟨_, ht, rfl, h⟩⟩
  · rw [if_pos (by rw [show (32 : Int32) = nI 32 from rfl, nk hc (by decide)]; exact q), sm_ck_pos (am_t_pk (by decide)), put_rd sc_299, g8, bd_eq]
    by_cases s0 : S.st = 0
    · obtain ⟨v, R', y1, y2, y3⟩ := x_lett (I := I) (P := P) hc h
      have ht : tkF S c = (match ltF c with
        | some l => some (mkS 1 S.cs S.ws S.op S.ln l S.ls S.fr S.to)
        | none => none) := by
        unfold tkF
        rw [if_neg q, if_pos s0]
        rfl
      rw [if_pos (by rw [s0]; rfl), w01 y1 y3, ht]
      exact ⟨v, R', rfl, y2, y3⟩
    · rw [if_neg (by rw [show (0 : Int32) = nI 0 from rfl, nI_eq (by omega) (by decide)]; exact s0)]
      by_cases s1 : S.st = 1
      · have ht : tkF S c = (if c = 61 then some (stS S 2) else none) := by
          unfold tkF
          rw [if_neg q, if_neg s0, if_pos s1]
        rw [if_pos (by rw [s1]; rfl), ht]
        unfold fT_takesEquals
        rw [sm_ck_pos (am_t_pk (by decide)), put_up sc_299, bd_eq]
        by_cases q61 : c = 61
        · rw [if_neg (fun z => z (by rw [q61]; rfl)), b01 sm_v1, if_pos q61]
          exact ⟨1, _, rfl, frY.up (by decide), Or.inr ⟨_, rfl, rfl, h.st (s := 2) s0⟩⟩
        · rw [if_pos (by rw [show (61 : Int32) = nI 61 from rfl, nk hc (by decide)]; exact q61), b01 sm_v0, if_neg q61]
          exact ⟨0, _, rfl, frY.up (by decide), Or.inl ⟨rfl, rfl⟩⟩
      · rw [if_neg (by rw [show (1 : Int32) = nI 1 from rfl, nI_eq (by omega) (by decide)]; exact s1)]
        by_cases s2 : S.st = 2
        · obtain ⟨v, R', y1, y2, y3⟩ := x_valu (I := I) hS hi hI s0 hc h
          have ht : tkF S c = vlS S c := by
            unfold tkF
            rw [if_neg q, if_neg s0, if_neg s1, if_pos s2]
          rw [if_pos (by rw [s2]; rfl), w01 y1 y3, ht]
          exact ⟨v, R', rfl, y2, y3⟩
        · rw [if_neg (by rw [show (2 : Int32) = nI 2 from rfl, nI_eq (by omega) (by decide)]; exact s2)]
          have hjt : ¬ (S.st = 3 ∧ (48 ≤ c ∧ c ≤ 57)) → tkF S c = jtF S c := fun z => by
            unfold tkF
            rw [if_neg q, if_neg s0, if_neg s1, if_neg s2, if_neg z]
          by_cases s3 : S.st = 3
          · rw [if_pos (by rw [s3]; rfl), h_isDig hc, Option.bind_some, bI_if]
            by_cases qd : 48 ≤ c ∧ c ≤ 57
            · obtain ⟨v, R', y1, y2, y3⟩ := x_sdig (I := I) hS hi hI s0 qd h
              have ht : tkF S c = sdS S c := by
                unfold tkF
                rw [if_neg q, if_neg s0, if_neg s1, if_neg s2, if_pos ⟨s3, qd⟩]
              rw [if_pos qd, w01 y1 y3, ht]
              exact ⟨v, R', rfl, y2, y3⟩
            · obtain ⟨v, R', y1, y2, y3⟩ := x_join (I := I) hS hi hI s0 hc h
              rw [if_neg qd, w01 y1 y3, hjt (fun z => qd z.2)]
              exact ⟨v, R', rfl, y2, y3⟩
          · obtain ⟨v, R', y1, y2, y3⟩ := x_join (I := I) hS hi hI s0 hc h
            rw [if_neg (by rw [show (3 : Int32) = nI 3 from rfl, nI_eq (by omega) (by decide)]; exact s3), w01 y1 y3, hjt (fun z => s3 z.1)]
            exact ⟨v, R', rfl, y2, y3⟩
end Tp2
