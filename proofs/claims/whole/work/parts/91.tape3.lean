/-! ===== reading a text: the class, all bytes ===== -/
theorem opS_I {S : PS} {i o : Nat} (hI : psI S i) (hs : S.st ≠ 0) (ho : o < 200) : psI (opS S o) (i + 1) := by
  obtain ⟨h1, h2, h3, h4, h5, h6, h7⟩ := hI
  have hlen := pwF_len (o := if o < 112 then 110 else 112) S.ws S.cs
  have hm := (pwF_mem (o := if o < 112 then 110 else 112) (p := fun a => a < 200 ∨ a ∈ S.cs) S.ws S.cs (fun a ha => Or.inl (h7 a ha)) (fun a ha => Or.inr ha)).2
  have hm2 : ∀ a, a ∈ (pwF (if o < 112 then 110 else 112) S.ws S.cs).2 → a < 200 := by
    have : ∀ (ws cs : List Nat) (b : Nat), (∀ a, a ∈ ws → a < 200) → ∀ a, a ∈ (pwF b ws cs).2 → a < 200 := by
      intro ws
      induction ws with
      | nil => intro cs b _ a ha; exact absurd ha (List.not_mem_nil)
      | cons x ws ih =>
        intro cs b hx a ha
        have ha : a ∈ (if x < b then (cs, x :: ws) else pwF b ws (x :: cs)).2 := ha
        split at ha
        · exact hx a ha
        · exact ih (x :: cs) b (fun y hy => hx y (List.mem_cons_of_mem _ hy)) a ha
    exact this _ _ _ h7
  refine ⟨?_, by show 2 ≤ 4; decide, h3, h4, fun _ => h5 hs, h6, fun a ha => ?_⟩
  · show (pwF (if o < 112 then 110 else 112) S.ws S.cs).1.length + ((pwF (if o < 112 then 110 else 112) S.ws S.cs).2.length + 1) ≤ i + 1
    omega
  · have ha : a ∈ o :: (pwF (if o < 112 then 110 else 112) S.ws S.cs).2 := ha
    rcases List.mem_cons.mp ha with e | e
    · omega
    · exact hm2 a e
theorem pw2_lt {b : Nat} : ∀ (ws cs : List Nat), (∀ a, a ∈ ws → a < 200) → ∀ a, a ∈ (pwF b ws cs).2 → a < 200
  | [], _, _, a, ha => absurd ha (List.not_mem_nil)
  | x :: ws, cs, hx, a, ha => by
    have ha : a ∈ (if x < b then (cs, x :: ws) else pwF b ws (x :: cs)).2 := ha
    split at ha
    · exact hx a ha
    · exact pw2_lt ws (x :: cs) (fun y hy => hx y (List.mem_cons_of_mem _ hy)) a ha
theorem tk_I {S S' : PS} {c i : Nat} (hi : i ≤ 80) (hI : psI S i) (h : tkF S c = some S') : psI S' (i + 1) := by
  obtain ⟨h1, h2, h3, h4, h5, h6, h7⟩ := id hI
  unfold tkF at h
  by_cases q : c = 32
  · rw [if_pos q] at h
    injection h with h
    subst h
    refine ⟨Nat.le_succ_of_le h1, ?_, h3, h4, fun z => h5 (fun y => z ?_), h6, h7⟩
    · show (if S.st = 3 then 4 else S.st) ≤ 4
      split
      · decide
      · exact h2
    · show (if S.st = 3 then 4 else S.st) = 0
      rw [if_neg (by omega)]; exact y
  · rw [if_neg q] at h
    by_cases s0 : S.st = 0
    · rw [if_pos s0] at h
      cases hl : ltF c with
      | none => rw [hl] at h; exact absurd h (by simp)
      | some l =>
        rw [hl] at h
        injection h with h
        subst h
        exact ⟨Nat.le_succ_of_le h1, by show 1 ≤ 4; decide, h3, h4, fun _ => ltF_lt hl, h6, h7⟩
    · rw [if_neg s0] at h
      by_cases s1 : S.st = 1
      · rw [if_pos s1] at h
        by_cases q61 : c = 61
        · rw [if_pos q61] at h
          injection h with h
          subst h
          exact ⟨Nat.le_succ_of_le h1, by show 2 ≤ 4; decide, h3, h4, fun _ => h5 s0, h6, h7⟩
        · rw [if_neg q61] at h; exact absurd h (by simp)
      · rw [if_neg s1] at h
        by_cases s2 : S.st = 2
        · rw [if_pos s2] at h
          unfold vlS at h
          by_cases q40 : c = 40
          · rw [if_pos q40] at h
            by_cases qo : S.op < 4
            · rw [if_pos qo] at h
              injection h with h
              subst h
              refine ⟨?_, h2, ?_, h4, h5, h6, fun a ha => ?_⟩
              · show S.cs.length + (S.ws.length + 1) ≤ i + 1
                omega
              · show S.op + 1 ≤ 4
                omega
              · have ha : a ∈ 0 :: S.ws := ha
                rcases List.mem_cons.mp ha with e | e
                · omega
                · exact h7 a e
            · rw [if_neg qo] at h; exact absurd h (by simp)
          · rw [if_neg q40] at h
            by_cases qd : 48 ≤ c ∧ c ≤ 57
            · rw [if_pos qd] at h
              injection h with h
              subst h
              refine ⟨?_, by show 3 ≤ 4; decide, h3, h4, fun _ => h5 s0, h6, h7⟩
              show S.cs.length + 1 + S.ws.length ≤ i + 1
              omega
            · rw [if_neg qd] at h
              cases hn : nmC c with
              | none => rw [hn] at h; exact absurd h (by simp)
              | some k =>
                rw [hn] at h
                injection h with h
                subst h
                refine ⟨?_, by show 4 ≤ 4; decide, h3, h4, fun _ => h5 s0, h6, h7⟩
                show S.cs.length + 1 + S.ws.length ≤ i + 1
                omega
        · rw [if_neg s2] at h
          by_cases qs : S.st = 3 ∧ (48 ≤ c ∧ c ≤ 57)
          · rw [if_pos qs] at h
            unfold sdS at h
            cases hcs : S.cs with
            | nil => rw [hcs] at h; exact absurd h (by simp)
            | cons a r =>
              rw [hcs] at h h1
              injection h with h
              subst h
              refine ⟨?_, by show 4 ≤ 4; decide, h3, h4, fun _ => h5 s0, h6, h7⟩
              show r.length + 1 + S.ws.length ≤ i + 1
              have : r.length + 1 + S.ws.length ≤ i := h1
              omega
          · rw [if_neg qs] at h
            unfold jtF at h
            by_cases e1 : c = 37
            · rw [if_pos e1] at h
              injection h with h
              subst h
              exact opS_I hI s0 (by decide)
            · rw [if_neg e1] at h
              by_cases e2 : c = 41
              · rw [if_pos e2] at h
                by_cases qo : S.op = 0
                · rw [if_pos qo] at h; exact absurd h (by simp)
                · rw [if_neg qo] at h
                  injection h with h
                  subst h
                  have hlen := pwF_len (o := 110) S.ws S.cs
                  refine ⟨?_, by show 4 ≤ 4; decide, ?_, h4, fun _ => h5 s0, h6, fun a ha => pw2_lt S.ws S.cs h7 a (List.mem_of_mem_tail ha)⟩
                  · show (pwF 110 S.ws S.cs).1.length + (pwF 110 S.ws S.cs).2.tail.length ≤ i + 1
                    rw [List.length_tail]
                    omega
                  · show S.op - 1 ≤ 4
                    omega
              · rw [if_neg e2] at h
                by_cases e3 : c = 42
                · rw [if_pos e3] at h
                  injection h with h
                  subst h
                  exact opS_I hI s0 (by decide)
                · rw [if_neg e3] at h
                  by_cases e4 : c = 43
                  · rw [if_pos e4] at h
                    injection h with h
                    subst h
                    exact opS_I hI s0 (by decide)
                  · rw [if_neg e4] at h
                    by_cases e5 : c = 45
                    · rw [if_pos e5] at h
                      injection h with h
                      subst h
                      exact opS_I hI s0 (by decide)
                    · rw [if_neg e5] at h
                      by_cases e6 : c = 59
                      · rw [if_pos e6] at h
                        by_cases qo : 0 < S.op
                        · rw [if_pos qo] at h; exact absurd h (by simp)
                        · rw [if_neg qo] at h
                          by_cases ql : S.ln + 1 < 6
                          · rw [if_pos ql] at h
                            injection h with h
                            subst h
                            have hlen := pwF_len (o := 110) S.ws S.cs
                            refine ⟨?_, by show 0 ≤ 4; decide, h3, ?_, fun z => absurd rfl z, ?_, fun a ha => pw2_lt S.ws S.cs h7 a ha⟩
                            · show (pwF 110 S.ws S.cs).1.length + (pwF 110 S.ws S.cs).2.length ≤ i + 1
                              omega
                            · show S.ln + 1 ≤ 5
                              omega
                            · show (pwF 110 S.ws S.cs).1.length ≤ 80
                              omega
                          · rw [if_neg ql] at h; exact absurd h (by simp)
                      · rw [if_neg e6] at h; exact absurd h (by simp)
/-- all bytes from place i on: where it ends, and how -/
def rnF (b : Nat → Nat) : Nat → Nat → PS → Nat × Option PS
  | 0, i, S => (i, some S)
  | d + 1, i, S => match tkF S (b i) with
    | none => (i, none)
    | some S' => rnF b d (i + 1) S'
theorem rnF_n {b : Nat → Nat} {d i : Nat} {S : PS} (h : tkF S (b i) = none) : rnF b (d + 1) i S = (i, none) := by
  show (match tkF S (b i) with
    | none => (i, none)
    | some S' => rnF b d (i + 1) S') = _
  rw [h]
theorem rnF_s {b : Nat → Nat} {d i : Nat} {S S' : PS} (h : tkF S (b i) = some S') : rnF b (d + 1) i S = rnF b d (i + 1) S' := by
  show (match tkF S (b i) with
    | none => (i, none)
    | some S' => rnF b d (i + 1) S') = _
  rw [h]
def S00 : PS := mkS 0 [] [] 0 0 0 0 (fun _ => 0) (fun _ => 0)
/-- the text ends as it should -/
def clP (b : Nat → Nat) (n : Nat) (S : PS) : Prop := 3 ≤ S.st ∧ S.op = 0 ∧ 0 < n ∧ b (n - 1) ≠ 32
/-- the place of the fault -/
def fltP (b : Nat → Nat) (n j : Nat) : Prop := j ≤ n ∧ (rnF b n 0 S00 = (j, none) ∨ ∃ S, rnF b n 0 S00 = (n, some S) ∧ ¬ clP b n S ∧ j = n)
section Tp3
variable {I R : am_M} {P : am_Q}
theorem x_rdAL (hS : SP P) {n : Nat} {b : Nat → Nat} (hn : n ≤ 80) (hb : ∀ k, k < n → b k < 256) {ex : Nat → Int32 → am_M → Option (Int32 × am_M)} : ∀ (d i fu : Nat) (S : PS) (R : am_M), d < fu → i + d = n → psI S i → PSR R S → (∀ k, k < n → R 300 k = nI (b k)) → ∃ R', frY R R' ∧ ((∃ j, j < n ∧ rnF b d i S = (j, none) ∧ fT_readAll_L58 P (fun l2 I => some (l2, I)) ex fu (am_pk 299 0 10) (nI n) (nI i) (put I R) = some (nI j, put I R')) ∨ ∃ S', rnF b d i S = (n, some S') ∧ fT_readAll_L58 P (fun l2 I => some (l2, I)) ex fu (am_pk 299 0 10) (nI n) (nI i) (put I R) = ex (am_pk 299 0 10) (nI n) (put I R') ∧ PSR R' S' ∧ psI S' n)
  | 0, i, fu, S, R, h1, h2, hI, h, hB => by
    obtain ⟨fu, rfl⟩ : ∃ n', fu = n' + 1 := ⟨fu - 1, by omega⟩
    have e : i = n := by omega
    subst e
    refine ⟨R, frY.rfl, Or.inr ⟨S, rfl, ?_, h, hI⟩⟩
    show fT_readAll_B58 _ _ _ _ _ _ _ _ = _
    unfold fT_readAll_B58
    rw [if_pos (by rw [nI_leI (by omega) (by omega)]; omega)]
  | d + 1, i, fu, S, R, h1, h2, hI, h, hB => by
    obtain ⟨fu, rfl⟩ : ∃ n', fu = n' + 1 := ⟨fu - 1, by omega⟩
    obtain ⟨v, R1, y1, y2, y3⟩ := x_take (I := I) hS (show i < 80 by omega) hI (hb i (by omega)) h
    have run : fT_readAll_L58 P (fun l2 I => some (l2, I)) ex (fu + 1) (am_pk 299 0 10) (nI n) (nI i) (put I R) = if ¬ v = 0 then fT_readAll_L58 P (fun l2 I => some (l2, I)) ex fu (am_pk 299 0 10) (nI n) (nI (i + 1)) (put I R1) else some (nI i, put I R1) := by
      show fT_readAll_B58 _ _ _ _ _ _ _ _ = _
      unfold fT_readAll_B58
      rw [if_neg (by rw [nI_leI (by omega) (by omega)]; omega), sm_ck_pos (am_t_pk (by decide)), sp_299_0 hS, sm_ck_pos (sm_in_nI (by decide) (by omega)), nI_clamp (show i < 2 ^ 31 by omega), put_rd sc_300, hB i (by omega), y1, Option.bind_some]
      dsimp only
      rw [bd_eq, nI_1]
    rw [run]
    rcases y3 with ⟨e1, e2⟩ | ⟨S1, e1, e2, e3⟩
    · refine ⟨R1, y2, Or.inl ⟨i, by omega, rnF_n e1, ?_⟩⟩
      rw [if_neg (fun z => z e2)]
    · obtain ⟨R', z1, z2⟩ := x_rdAL hS hn hb (ex := ex) d (i + 1) fu S1 R1 (by omega) (by omega) (tk_I (by omega) hI e1) e3 (fun k hk => by rw [y2.1 300 (by decide) (by decide)]; exact hB k hk)
      refine ⟨R', y2.tr z1, ?_⟩
      rw [rnF_s e1, if_pos (by rw [e2]; decide)]
      exact z2
theorem x_rdA0 (hS : SP P) {R0 R1 : am_M} {n : Nat} (hL : R 299 1 = nI n) {ex : Nat → Int32 → am_M → Option (Int32 × am_M)} (e0 : R0 = am_up (am_up (am_up (am_up (am_up (am_up (am_up R 299 1 0) 299 3 0) 299 5 0) 299 9 0) 299 10 0) 299 12 0) 299 8 0) (e1 : R1 = am_set (am_set R0 303 (fun i => if i < 4 then -1 else R0 303 i)) 304 (fun i => if i < 4 then 0 else am_set R0 303 (fun i => if i < 4 then -1 else R0 303 i) 304 i)) (hex : ex = fun l0 l1 I =>
      sm_ck (am_t l0 = 10) <|
      if (I l0 8) < 3 then
        (fT_readAll_J120 P l0 l1 I)
      else
        (if ¬ (I l0 9) = 0 then
          (fT_readAll_J120 P l0 l1 I)
        else
          (if l1 ≤ 0 then
            (fT_readAll_J120 P l0 l1 I)
          else
            (sm_ck (sm_in (P l0 0) (l1 - 1)) <|
            if (I (P l0 0) (l1 - 1).toNatClampNeg) = 32 then
              (fT_readAll_J120 P l0 l1 I)
            else
              (fT_readAll_J121 P l0 l1 1 I))))) : fT_readAll P (am_pk 299 0 10) (put I R) = fT_readAll_L58 P (fun l2 I => some (l2, I)) ex sm_fu (am_pk 299 0 10) (nI n) 0 (put I R1) := by
  unfold fT_readAll
  rw [sm_ck_pos (am_t_pk (by decide)), put_rd sc_299, hL, bd_eq, put_up sc_299, bd_eq, put_up sc_299, bd_eq, put_up sc_299, bd_eq, put_up sc_299, bd_eq, put_up sc_299, bd_eq, put_up sc_299, bd_eq, put_up sc_299, bd_eq, ← e0, sp_299_6 hS, sp_299_7 hS, x_fill sc_303, Option.bind_some, x_fill sc_304, Option.bind_some, ← e1, hex]
theorem x_readAll (hS : SP P) {n : Nat} {b : Nat → Nat} (hn : n ≤ 80) (hb : ∀ k, k < n → b k < 256) (hL : R 299 1 = nI n) (hB : ∀ k, k < n → R 300 k = nI (b k)) : ∃ v R', fT_readAll P (am_pk 299 0 10) (put I R) = some (v, put I R') ∧ frY (am_up R 299 1 0) R' ∧ ((∃ j, fltP b n j ∧ v = nI j) ∨ ∃ S, rnF b n 0 S00 = (n, some S) ∧ clP b n S ∧ v = -1 ∧ PSR R' (clS S)) := by
  obtain ⟨Z, eZ⟩ : ∃ Z, Z = am_up R 299 1 0 := ⟨_, rfl⟩
  have hZB : ∀ k, k < n → Z 300 k = nI (b k) := fun k hk => by rw [eZ, am_up_ne (by decide)]; exact hB k hk
  obtain ⟨R0, e0⟩ : ∃ R0, R0 = am_up (am_up (am_up (am_up (am_up (am_up Z 299 3 0) 299 5 0) 299 9 0) 299 10 0) 299 12 0) 299 8 0 := ⟨_, rfl⟩
  obtain ⟨R1, e1⟩ : ∃ R1, R1 = am_set (am_set R0 303 (fun i => if i < 4 then -1 else R0 303 i)) 304 (fun i => if i < 4 then 0 else am_set R0 303 (fun i => if i < 4 then -1 else R0 303 i) 304 i) := ⟨_, rfl⟩
  have f0 : ∀ c, c ≠ 299 → R0 c = Z c := fun c hc => by rw [e0]; funext j; rw [am_up_ne hc, am_up_ne hc, am_up_ne hc, am_up_ne hc, am_up_ne hc, am_up_ne hc]
  have f1 : ∀ c, c ≠ 303 → c ≠ 304 → R1 c = R0 c := fun c a1 a2 => by rw [e1, am_setne a2, am_setne a1]
  have r1 : R1 299 = R0 299 := f1 299 (by decide) (by decide)
  have e01 : R0 299 1 = Z 299 1 := by rw [e0, am_up_nk (by decide), am_up_nk (by decide), am_up_nk (by decide), am_up_nk (by decide), am_up_nk (by decide), am_up_nk (by decide)]
  have hP : PSR R1 S00 := by
    refine ⟨?_, ?_, ?_, ?_, ?_, fun z => absurd rfl z, ?_, trivial, trivial, fun l hl => ?_, fun l hl => ?_⟩
    · rw [r1, e0, am_up_nk (by decide), am_up_nk (by decide), am_up_nk (by decide), am_up_nk (by decide), am_up_nk (by decide), am_up_eq]; rfl
    · rw [r1, e0, am_up_nk (by decide), am_up_nk (by decide), am_up_nk (by decide), am_up_nk (by decide), am_up_eq]; rfl
    · rw [r1, e0, am_up_eq]; rfl
    · rw [r1, e0, am_up_nk (by decide), am_up_nk (by decide), am_up_nk (by decide), am_up_eq]; rfl
    · rw [r1, e0, am_up_nk (by decide), am_up_nk (by decide), am_up_eq]; rfl
    · rw [r1, e0, am_up_nk (by decide), am_up_eq]; rfl
    · rw [e1, am_setne (by decide), am_set_eq]
      show (if l < 4 then (-1 : Int32) else _) = nI 0 + (-1)
      rw [if_pos hl]; decide
    · rw [e1, am_set_eq]
      show (if l < 4 then (0 : Int32) else _) = nI 0
      rw [if_pos hl]; rfl
  have fY : frY Z R1 := ⟨fun c a1 a2 => by rw [f1 c (by omega) (by omega), f0 c a1], by rw [r1, e01]⟩
  obtain ⟨ex, hex⟩ : ∃ ex : Nat → Int32 → am_M → Option (Int32 × am_M), ex = fun l0 l1 I =>
      sm_ck (am_t l0 = 10) <|
      if (I l0 8) < 3 then
        (fT_readAll_J120 P l0 l1 I)
      else
        (if ¬ (I l0 9) = 0 then
          (fT_readAll_J120 P l0 l1 I)
        else
          (if l1 ≤ 0 then
            (fT_readAll_J120 P l0 l1 I)
          else
            (sm_ck (sm_in (P l0 0) (l1 - 1)) <|
            if (I (P l0 0) (l1 - 1).toNatClampNeg) = 32 then
              (fT_readAll_J120 P l0 l1 I)
            else
              (fT_readAll_J121 P l0 l1 1 I)))) := ⟨_, rfl⟩
  obtain ⟨R2, y1, y2⟩ := x_rdAL (I := I) hS hn hb (ex := ex) n 0 sm_fu S00 R1 (sm_fu_lt (by omega)) (by omega) ⟨by decide, by decide, by decide, by decide, fun z => absurd rfl z, by decide, fun a ha => absurd ha (List.not_mem_nil)⟩ hP (fun k hk => by rw [fY.1 300 (by decide) (by decide)]; exact hZB k hk)
  have start := x_rdA0 (I := I) (R := R) hS hL (by rw [e0, eZ]) e1 hex
  rw [start, ← eZ, show fT_readAll_L58 P (fun l2 I => some (l2, I)) ex sm_fu (am_pk 299 0 10) (nI n) 0 (put I R1) = fT_readAll_L58 P (fun l2 I => some (l2, I)) ex sm_fu (am_pk 299 0 10) (nI n) (nI 0) (put I R1) from rfl]
  rcases y2 with ⟨j, hj, q1, q2⟩ | ⟨S, q1, q2, q3, q4⟩
  · exact ⟨nI j, R2, q2, fY.tr y1, Or.inl ⟨j, ⟨by omega, Or.inl q1⟩, rfl⟩⟩
  · rw [q2, hex]
    dsimp only
    obtain ⟨-, -, g8, g9, -⟩ := id q3
    have no : ¬ clP b n S → ∃ v R', fT_readAll_J120 P (am_pk 299 0 10) (nI n) (put I R2) = some (v, put I R') ∧ frY Z R' ∧ ((∃ j, fltP b n j ∧ v = nI j) ∨ ∃ S, rnF b n 0 S00 = (n, some S) ∧ clP b n S ∧ v = -1 ∧ PSR R' (clS S)) := by
      intro hno
      refine ⟨nI n, R2, ?_, fY.tr y1, Or.inl ⟨n, ⟨Nat.le_refl _, Or.inr ⟨S, q1, hno, rfl⟩⟩, rfl⟩⟩
      unfold fT_readAll_J120 fT_readAll_J121
      rw [if_neg (fun z => z rfl)]
    obtain ⟨p1, p2, p3, -⟩ := id q4
    rw [sm_ck_pos (am_t_pk (by decide)), put_rd sc_299, g8]
    by_cases c1 : S.st < 3
    · rw [if_pos (by rw [show (3 : Int32) = nI 3 from rfl, nI_ltI (by omega) (by decide)]; exact c1)]
      exact no (fun z => by have := z.1; omega)
    · rw [if_neg (by rw [show (3 : Int32) = nI 3 from rfl, nI_ltI (by omega) (by decide)]; exact c1), put_rd sc_299, g9]
      by_cases c2 : S.op = 0
      · rw [if_neg (fun z => z (by rw [c2]; rfl))]
        by_cases c3 : n = 0
        · rw [if_pos (by rw [c3]; decide)]
          exact no (fun z => by have := z.2.2.1; omega)
        · rw [if_neg (by rw [show (0 : Int32) = nI 0 from rfl, nI_leI (by omega) (by decide)]; omega)]
          obtain ⟨k, rfl⟩ : ∃ k, n = k + 1 := ⟨n - 1, by omega⟩
          have gb : R2 300 k = nI (b k) := by rw [(fY.tr y1).1 300 (by decide) (by decide)]; exact hZB k (by omega)
          rw [← nI_dm, pk_m1, sp_299_0 hS, sm_ck_pos (sm_in_nI (by decide) (by omega)), nI_clamp (show k < 2 ^ 31 by omega), put_rd sc_300, gb]
          by_cases c4 : b k = 32
          · rw [if_pos (by rw [c4]; rfl)]
            exact no (fun z => z.2.2.2 c4)
          · rw [if_neg (by rw [show (32 : Int32) = nI 32 from rfl, nk (hb k (by omega)) (by decide)]; exact c4)]
            obtain ⟨R9, R3, z0, z1, z2, z3⟩ := x_clLn (I := I) hS hn q4 q3 (by omega)
            refine ⟨-1, R3, ?_, (fY.tr y1).tr z3, Or.inr ⟨S, q1, ⟨by omega, c2, by omega, c4⟩, rfl, z2⟩⟩
            unfold fT_readAll_J121
            rw [if_pos (by decide), sm_ck_pos (am_t_pk (by decide)), z0, Option.bind_some, z1, Option.bind_some]
      · rw [if_pos (by rw [show (0 : Int32) = nI 0 from rfl, nI_eq (by omega) (by decide)]; exact c2)]
        exact no (fun z => c2 z.2.1)
end Tp3
