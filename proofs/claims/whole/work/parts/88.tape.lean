/-! ===== reading a text: the class ===== -/
/-- st: what is wanted; cs: the codes, the last first; ws: what waits, the top first, 0 for an open bracket; fr: where a line begins, plus 1 -/
def PS : Type := Nat × List Nat × List Nat × Nat × Nat × Nat × Nat × (Nat → Nat) × (Nat → Nat)
def mkS (st : Nat) (cs ws : List Nat) (op ln lt ls : Nat) (fr to : Nat → Nat) : PS := (st, cs, ws, op, ln, lt, ls, fr, to)
def PS.st (S : PS) : Nat := S.1
def PS.cs (S : PS) : List Nat := S.2.1
def PS.ws (S : PS) : List Nat := S.2.2.1
def PS.op (S : PS) : Nat := S.2.2.2.1
def PS.ln (S : PS) : Nat := S.2.2.2.2.1
def PS.lt (S : PS) : Nat := S.2.2.2.2.2.1
def PS.ls (S : PS) : Nat := S.2.2.2.2.2.2.1
def PS.fr (S : PS) : Nat → Nat := S.2.2.2.2.2.2.2.1
def PS.to (S : PS) : Nat → Nat := S.2.2.2.2.2.2.2.2
/-- with another want, other codes, other waiting -/
def stS (S : PS) (s : Nat) : PS := mkS s S.cs S.ws S.op S.ln S.lt S.ls S.fr S.to
def ccS (S : PS) (s : Nat) (c : List Nat) : PS := mkS s c S.ws S.op S.ln S.lt S.ls S.fr S.to
def cqS (S : PS) (s : Nat) (c q : List Nat) : PS := mkS s c q S.op S.ln S.lt S.ls S.fr S.to
def pwF (o : Nat) : List Nat → List Nat → List Nat × List Nat
  | [], cs => (cs, [])
  | a :: ws, cs => if a < o then (cs, a :: ws) else pwF o ws (a :: cs)
def opS (S : PS) (o : Nat) : PS := cqS S 2 (pwF (if o < 112 then 110 else 112) S.ws S.cs).1 (o :: (pwF (if o < 112 then 110 else 112) S.ws S.cs).2)
def clS (S : PS) : PS := mkS S.st (pwF 110 S.ws S.cs).1 (pwF 110 S.ws S.cs).2 S.op (S.ln + 1) S.lt (pwF 110 S.ws S.cs).1.length (upN S.fr S.lt (S.ls + 1)) (upN S.to S.lt (pwF 110 S.ws S.cs).1.length)
def cbS (S : PS) : PS := mkS 4 (pwF 110 S.ws S.cs).1 (pwF 110 S.ws S.cs).2.tail (S.op - 1) S.ln S.lt S.ls S.fr S.to
def jtF (S : PS) (c : Nat) : Option PS :=
  if c = 37 then some (opS S 113)
  else if c = 41 then (if S.op = 0 then none else some (cbS S))
  else if c = 42 then some (opS S 112)
  else if c = 43 then some (opS S 110)
  else if c = 45 then some (opS S 111)
  else if c = 59 then (if 0 < S.op then none else if S.ln + 1 < 6 then some (stS (clS S) 0) else none)
  else none
def ltF (c : Nat) : Option Nat := if c = 112 then some 0 else if c = 113 then some 1 else if c = 117 then some 2 else if c = 118 then some 3 else none
def nmC (c : Nat) : Option Nat := if c = 97 then some 102 else if c = 98 then some 103 else if c = 104 then some 104 else if c = 112 then some 100 else if c = 113 then some 101 else none
def vlS (S : PS) (c : Nat) : Option PS :=
  if c = 40 then (if S.op < 4 then some (mkS S.st S.cs (0 :: S.ws) (S.op + 1) S.ln S.lt S.ls S.fr S.to) else none)
  else if 48 ≤ c ∧ c ≤ 57 then some (ccS S 3 ((c - 48) :: S.cs))
  else match nmC c with
    | some k => some (ccS S 4 (k :: S.cs))
    | none => none
def sdS (S : PS) (c : Nat) : Option PS := match S.cs with
  | [] => none
  | a :: r => some (ccS S 4 ((10 * a + (c - 48)) :: r))
def tkF (S : PS) (c : Nat) : Option PS :=
  if c = 32 then some (stS S (if S.st = 3 then 4 else S.st))
  else if S.st = 0 then (match ltF c with
    | some l => some (mkS 1 S.cs S.ws S.op S.ln l S.ls S.fr S.to)
    | none => none)
  else if S.st = 1 then (if c = 61 then some (stS S 2) else none)
  else if S.st = 2 then vlS S c
  else if S.st = 3 ∧ (48 ≤ c ∧ c ≤ 57) then sdS S c
  else jtF S c
/-- a list in a cell, the last first -/
def lsR (R : am_M) (c : Nat) (f : Nat → Int32) : List Nat → Prop
  | [] => True
  | a :: r => R c r.length = f a ∧ lsR R c f r
theorem lsR.fr {R R' : am_M} {c : Nat} {f : Nat → Int32} : ∀ {l : List Nat}, lsR R c f l → (∀ k, k < l.length → R' c k = R c k) → lsR R' c f l
  | [], _, _ => trivial
  | a :: r, h, e => ⟨(e r.length (Nat.lt_succ_self _)).trans h.1, lsR.fr h.2 (fun k hk => e k (Nat.lt_succ_of_lt hk))⟩
def wv (a : Nat) : Int32 := if a = 0 then -1 else nI a
theorem wv_lt {a o : Nat} (ha : a < 200) (ho : 0 < o) (ho2 : o < 200) : wv a < nI o ↔ a < o := by
  unfold wv
  by_cases e : a = 0
  · rw [if_pos e, e]
    refine ⟨fun _ => ho, fun _ => ?_⟩
    rw [i_lt, nI_toInt (by omega)]
    show (-1 : Int) < _
    omega
  · rw [if_neg e, nI_ltI (by omega) (by omega)]
def PSRc (R : am_M) (st : Nat) (cs ws : List Nat) (op ln lt ls : Nat) (fr to : Nat → Nat) : Prop := R 299 3 = nI cs.length ∧ R 299 5 = nI ws.length ∧ R 299 8 = nI st ∧ R 299 9 = nI op ∧ R 299 10 = nI ln ∧ (st ≠ 0 → R 299 11 = nI lt) ∧ R 299 12 = nI ls ∧ lsR R 301 nI cs ∧ lsR R 302 wv ws ∧ (∀ l, l < 4 → R 303 l = nI (fr l) + (-1)) ∧ ∀ l, l < 4 → R 304 l = nI (to l)
def PSR (R : am_M) (S : PS) : Prop := PSRc R S.st S.cs S.ws S.op S.ln S.lt S.ls S.fr S.to
/-- what holds of a state behind i bytes -/
def psI (S : PS) (i : Nat) : Prop := S.cs.length + S.ws.length ≤ i ∧ S.st ≤ 4 ∧ S.op ≤ 4 ∧ S.ln ≤ 5 ∧ (S.st ≠ 0 → S.lt < 4) ∧ S.ls ≤ 80 ∧ ∀ a, a ∈ S.ws → a < 200
def frY (R R' : am_M) : Prop := (∀ c, c ≠ 299 → (c < 301 ∨ 305 ≤ c) → R' c = R c) ∧ R' 299 1 = R 299 1
theorem frY.rfl {R : am_M} : frY R R := ⟨fun _ _ _ => _root_.rfl, _root_.rfl⟩
theorem frY.tr {R R' R'' : am_M} (h : frY R R') (h2 : frY R' R'') : frY R R'' := ⟨fun c a b => (h2.1 c a b).trans (h.1 c a b), h2.2.trans h.2⟩
theorem frY.up {R : am_M} {k : Nat} {v : Int32} (hk : k ≠ 1) : frY R (am_up R 299 k v) := ⟨fun c a _ => by funext j; rw [am_up_ne a], am_up_nk (fun z => hk z.symm)⟩
section Tp
variable {I R : am_M} {P : am_Q}
theorem x_put (hS : SP P) {n : Nat} {v : Int32} (hn : n < 80) (h : R 299 3 = nI n) : fT_put P (am_pk 299 0 10) v (put I R) = some (put I (am_up (am_up R 301 n v) 299 3 (nI (n + 1)))) := by
  have e : am_up R 301 n v 299 3 = nI n := by rw [am_up_ne (by decide)]; exact h
  unfold fT_put
  rw [sm_ck_pos (am_t_pk (by decide)), sp_299_2 hS, sm_ck_pos (by rw [am_t_pk (by decide)]; decide), am_n_pk (by decide) (by decide), put_rd sc_299, h, if_neg (by rw [show Int32.ofNat 80 = nI 80 from rfl, nI_leI (by omega) (by omega)]; omega), sm_ck_pos (sm_iw_nI (by decide) (by decide) hn), nI_clamp (show n < 2 ^ 31 by omega), put_up sc_301, bd_eq, put_rd sc_299, e, put_up sc_299, nI_1, bd_eq]
theorem x_await (hS : SP P) {n : Nat} {v : Int32} (hn : n < 80) (h : R 299 5 = nI n) : fT_await P (am_pk 299 0 10) v (put I R) = some (put I (am_up (am_up R 302 n v) 299 5 (nI (n + 1)))) := by
  have e : am_up R 302 n v 299 5 = nI n := by rw [am_up_ne (by decide)]; exact h
  unfold fT_await
  rw [sm_ck_pos (am_t_pk (by decide)), sp_299_4 hS, sm_ck_pos (by rw [am_t_pk (by decide)]; decide), am_n_pk (by decide) (by decide), put_rd sc_299, h, if_neg (by rw [show Int32.ofNat 80 = nI 80 from rfl, nI_leI (by omega) (by omega)]; omega), sm_ck_pos (sm_iw_nI (by decide) (by decide) hn), nI_clamp (show n < 2 ^ 31 by omega), put_up sc_302, bd_eq, put_rd sc_299, e, put_up sc_299, nI_1, bd_eq]
theorem h_isDig {c : Nat} (hc : c < 256) : fT_isDigit (nI c) = some (bI (48 ≤ c ∧ c ≤ 57)) := by
  unfold fT_isDigit
  rw [show (48 : Int32) = nI 48 from rfl, show (57 : Int32) = nI 57 from rfl]
  by_cases h1 : c < 48
  · rw [if_pos (by rw [nI_ltI (by omega) (by omega)]; exact h1), bI_f (by omega)]
  · rw [if_neg (by rw [nI_ltI (by omega) (by omega)]; exact h1)]
    by_cases h2 : 57 < c
    · rw [if_pos (by rw [nI_ltI (by omega) (by omega)]; exact h2), bI_f (by omega)]
    · rw [if_neg (by rw [nI_ltI (by omega) (by omega)]; exact h2), bI_t (by omega)]
/-- codes and what waits -/
def cwR (R : am_M) (cs ws : List Nat) : Prop := R 299 3 = nI cs.length ∧ R 299 5 = nI ws.length ∧ lsR R 301 nI cs ∧ lsR R 302 wv ws
theorem x_pwL (hS : SP P) {o : Nat} (ho : 0 < o) (ho2 : o < 200) : ∀ (ws cs : List Nat) (fu : Nat) (R : am_M), ws.length < fu → cs.length + ws.length ≤ 80 → (∀ a, a ∈ ws → a < 200) → cwR R cs ws → ∃ R', fT_putWaiting_L0 P (fun I => some I) fu (am_pk 299 0 10) (nI o) (put I R) = some (put I R') ∧ cwR R' (pwF o ws cs).1 (pwF o ws cs).2 ∧ (∀ c, c ≠ 299 → c ≠ 301 → R' c = R c) ∧ ∀ k, k ≠ 3 → k ≠ 5 → R' 299 k = R 299 k
  | [], cs, fu, R, h1, h2, h3, h => by
    obtain ⟨fu, rfl⟩ : ∃ n', fu = n' + 1 := ⟨fu - 1, by omega⟩
    refine ⟨R, ?_, h, fun _ _ _ => rfl, fun _ _ _ => rfl⟩
    have e : R 299 5 = nI 0 := h.2.1
    show fT_putWaiting_B0 _ _ _ _ _ _ = _
    unfold fT_putWaiting_B0
    rw [sm_ck_pos (am_t_pk (by decide)), put_rd sc_299, e, if_pos (by decide)]
  | a :: ws, cs, fu, R, h1, h2, h3, h => by
    obtain ⟨fu, rfl⟩ : ∃ n', fu = n' + 1 := ⟨fu - 1, by omega⟩
    have h1 : ws.length + 1 < fu + 1 := h1
    have h2 : cs.length + (ws.length + 1) ≤ 80 := h2
    have e5 : R 299 5 = nI (ws.length + 1) := h.2.1
    have e52 : R 302 ws.length = wv a := h.2.2.2.1
    have em : nI (ws.length + 1) - 1 = nI ws.length := by rw [← nI_dm, pk_m1]
    have ha := h3 a (List.mem_cons_self ..)
    have e2 : am_up R 299 5 (nI ws.length) 302 ws.length = wv a := by rw [am_up_ne (by decide)]; exact e52
    show ∃ R', fT_putWaiting_B0 _ _ _ _ _ _ = _ ∧ cwR R' (if a < o then (cs, a :: ws) else pwF o ws (a :: cs)).1 (if a < o then (cs, a :: ws) else pwF o ws (a :: cs)).2 ∧ _
    unfold fT_putWaiting_B0
    rw [sm_ck_pos (am_t_pk (by decide)), put_rd sc_299, e5, if_neg (by rw [show (0 : Int32) = nI 0 from rfl, nI_leI (by omega) (by decide)]; omega), em, sp_299_4 hS, sm_ck_pos (sm_in_nI (by decide) (by omega)), nI_clamp (show ws.length < 2 ^ 31 by omega), put_rd sc_302, e52]
    by_cases q : a < o
    · rw [if_pos q, if_pos ((wv_lt ha ho ho2).mpr q)]
      exact ⟨R, rfl, h, fun _ _ _ => rfl, fun _ _ _ => rfl⟩
    · have e3 : am_up R 299 5 (nI ws.length) 299 3 = nI cs.length := by rw [am_up_nk (by decide)]; exact h.1
      have hwv : wv a = nI a := by unfold wv; rw [if_neg (by omega)]
      obtain ⟨R', y1, y2, y3, y4⟩ := x_pwL hS ho ho2 ws (a :: cs) fu (am_up (am_up (am_up R 299 5 (nI ws.length)) 301 cs.length (nI a)) 299 3 (nI (cs.length + 1))) (by omega) (by show cs.length + 1 + ws.length ≤ 80; omega) (fun b hb => h3 b (List.mem_cons_of_mem _ hb)) ⟨am_up_eq, by rw [am_up_nk (by decide), am_up_ne (by decide), am_up_eq], ⟨by rw [am_up_ne (by decide), am_up_eq], h.2.2.1.fr (fun k hk => by rw [am_up_ne (by decide), am_up_nk (by omega), am_up_ne (by decide)])⟩, h.2.2.2.2.fr (fun k hk => by rw [am_up_ne (by decide), am_up_ne (by decide), am_up_ne (by decide)])⟩
      rw [if_neg q, if_neg (fun z => q ((wv_lt ha ho ho2).mp z))]
      refine ⟨R', ?_, y2, fun c a1 a2 => by rw [y3 c a1 a2]; funext j; rw [am_up_ne a1, am_up_ne a2, am_up_ne a1], fun k a1 a2 => by rw [y4 k a1 a2, am_up_nk a1, am_up_ne (by decide), am_up_nk a2]⟩
      rw [put_up sc_299, bd_eq, put_rd sc_299, am_up_eq, sm_ck_pos (sm_in_nI (by decide) (by omega)), nI_clamp (show ws.length < 2 ^ 31 by omega), put_rd sc_302, e2, hwv, x_put hS (show cs.length < 80 by omega) e3, Option.bind_some]
      exact y1
theorem x_pw (hS : SP P) {o : Nat} (ho : 0 < o) (ho2 : o < 200) {S : PS} {i : Nat} (hi : i ≤ 80) (hI : psI S i) (h : PSR R S) : ∃ R', fT_putWaiting P (am_pk 299 0 10) (nI o) (put I R) = some (put I R') ∧ cwR R' (pwF o S.ws S.cs).1 (pwF o S.ws S.cs).2 ∧ (∀ c, c ≠ 299 → c ≠ 301 → R' c = R c) ∧ ∀ k, k ≠ 3 → k ≠ 5 → R' 299 k = R 299 k := by
  have := hI.1
  exact x_pwL hS ho ho2 S.ws S.cs sm_fu R (sm_fu_lt (by omega)) (by omega) hI.2.2.2.2.2.2 ⟨h.1, h.2.1, h.2.2.2.2.2.2.2.1, h.2.2.2.2.2.2.2.2.1⟩
theorem pwF_len {o : Nat} : ∀ (ws cs : List Nat), (pwF o ws cs).1.length + (pwF o ws cs).2.length = cs.length + ws.length
  | [], _ => rfl
  | a :: ws, cs => by
    show (if a < o then (cs, a :: ws) else pwF o ws (a :: cs)).1.length + (if a < o then (cs, a :: ws) else pwF o ws (a :: cs)).2.length = cs.length + (ws.length + 1)
    split
    · rfl
    · rw [pwF_len ws (a :: cs)]
      show cs.length + 1 + ws.length = _
      omega
theorem pwF_mem {o : Nat} {p : Nat → Prop} : ∀ (ws cs : List Nat), (∀ a, a ∈ ws → p a) → (∀ a, a ∈ cs → p a) → (∀ a, a ∈ (pwF o ws cs).1 → p a) ∧ ∀ a, a ∈ (pwF o ws cs).2 → p a
  | [], _, _, h2 => ⟨h2, fun a ha => absurd ha (List.not_mem_nil)⟩
  | a :: ws, cs, h1, h2 => by
    show (∀ b, b ∈ (if a < o then (cs, a :: ws) else pwF o ws (a :: cs)).1 → p b) ∧ ∀ b, b ∈ (if a < o then (cs, a :: ws) else pwF o ws (a :: cs)).2 → p b
    split
    · exact ⟨h2, h1⟩
    · refine pwF_mem ws (a :: cs) (fun b hb => h1 b (List.mem_cons_of_mem _ hb)) (fun b hb => ?_)
      rcases List.mem_cons.mp hb with e | e
      · rw [e]; exact h1 a (List.mem_cons_self ..)
      · exact h2 b e
theorem x_oper (hS : SP P) {S : PS} {i o : Nat} (hi : i < 80) (hI : psI S i) (h : PSR R S) (ho : 110 ≤ o) (ho2 : o < 114) (hst : S.st ≠ 0) : ∃ R', fT_takesOperator P (am_pk 299 0 10) (nI o) (put I R) = some (1, put I R') ∧ PSR R' (opS S o) ∧ frY R R' := by
  obtain ⟨b, hb, hb1, hb2⟩ : ∃ b, (if o < 112 then 110 else 112) = b ∧ 0 < b ∧ b < 200 := ⟨_, rfl, by split <;> decide, by split <;> decide⟩
  obtain ⟨R1, y1, y2, y3, y4⟩ := x_pw (I := I) hS hb1 hb2 (Nat.le_of_lt hi) hI h
  have hlen := pwF_len (o := b) S.ws S.cs
  have hI1 := hI.1
  have e5 : R1 299 5 = nI (pwF b S.ws S.cs).2.length := y2.2.1
  obtain ⟨-, -, g8, g9, g10, g11, g12, -, -, g3, g4⟩ := h
  have hwv : wv o = nI o := by unfold wv; rw [if_neg (by omega)]
  refine ⟨am_up (am_up (am_up R1 302 (pwF b S.ws S.cs).2.length (nI o)) 299 5 (nI ((pwF b S.ws S.cs).2.length + 1))) 299 8 2, ?_, ?_, ?_⟩
  · have key : ∀ l, nI b = l → fT_takesOperator_J14 P (am_pk 299 0 10) (nI o) l (am_pk 299 0 10) (put I R) = some (1, put I (am_up (am_up (am_up R1 302 (pwF b S.ws S.cs).2.length (nI o)) 299 5 (nI ((pwF b S.ws S.cs).2.length + 1))) 299 8 2)) := fun l hl => by
      subst hl
      unfold fT_takesOperator_J14
      rw [sm_ck_pos (am_t_pk (by decide)), y1, Option.bind_some, sm_ck_pos (am_t_pk (by decide)), x_await hS (by omega) e5, Option.bind_some, put_up sc_299, bd_eq]
    unfold fT_takesOperator
    rw [sm_ck_pos (am_t_pk (by decide)), show (112 : Int32) = nI 112 from rfl]
    by_cases q : o < 112
    · rw [if_neg (by rw [nI_leI (by decide) (by omega)]; omega)]
      exact key _ (by rw [← hb, if_pos q]; rfl)
    · rw [if_pos (by rw [nI_leI (by decide) (by omega)]; omega)]
      exact key _ (by rw [← hb, if_neg q])
  · show PSRc _ 2 (pwF (if o < 112 then 110 else 112) S.ws S.cs).1 (o :: (pwF (if o < 112 then 110 else 112) S.ws S.cs).2) S.op S.ln S.lt S.ls S.fr S.to
    unfold PSRc
    rw [hb]
    refine ⟨by rw [am_up_nk (by decide), am_up_nk (by decide), am_up_ne (by decide)]; exact y2.1, by rw [am_up_nk (by decide), am_up_eq]; rfl, by rw [am_up_eq]; rfl, ?_, ?_, fun _ => ?_, ?_, ?_, ⟨?_, ?_⟩, fun l hl => ?_, fun l hl => ?_⟩
    · rw [am_up_nk (by decide), am_up_nk (by decide), am_up_ne (by decide), y4 9 (by decide) (by decide)]; exact g9
    · rw [am_up_nk (by decide), am_up_nk (by decide), am_up_ne (by decide), y4 10 (by decide) (by decide)]; exact g10
    · rw [am_up_nk (by decide), am_up_nk (by decide), am_up_ne (by decide), y4 11 (by decide) (by decide)]; exact g11 hst
    · rw [am_up_nk (by decide), am_up_nk (by decide), am_up_ne (by decide), y4 12 (by decide) (by decide)]; exact g12
    · exact y2.2.2.1.fr (fun k hk => by rw [am_up_ne (by decide), am_up_ne (by decide), am_up_ne (by decide)])
    · rw [am_up_ne (by decide), am_up_ne (by decide), am_up_eq, hwv]
    · exact y2.2.2.2.fr (fun k hk => by rw [am_up_ne (by decide), am_up_ne (by decide), am_up_nk (by omega)])
    · rw [am_up_ne (by decide), am_up_ne (by decide), am_up_ne (by decide), y3 303 (by decide) (by decide)]; exact g3 l hl
    · rw [am_up_ne (by decide), am_up_ne (by decide), am_up_ne (by decide), y3 304 (by decide) (by decide)]; exact g4 l hl
  · refine ⟨fun c a1 a2 => ?_, ?_⟩
    · funext j
      rw [am_up_ne a1, am_up_ne a1, am_up_ne (by omega), y3 c a1 (by omega)]
    · rw [am_up_nk (by decide), am_up_nk (by decide), am_up_ne (by decide), y4 1 (by decide) (by decide)]
theorem x_clos (hS : SP P) {S : PS} {i : Nat} (hi : i < 80) (hI : psI S i) (h : PSR R S) (hst : S.st ≠ 0) (hop : S.op ≠ 0) : ∃ R', fT_takesClosing P (am_pk 299 0 10) (put I R) = some (1, put I R') ∧ PSR R' (cbS S) ∧ frY R R' := by
  obtain ⟨R1, y1, y2, y3, y4⟩ := x_pw (I := I) (o := 110) hS (by decide) (by decide) (Nat.le_of_lt hi) hI h
  have y1' : fT_putWaiting P (am_pk 299 0 10) 110 (put I R) = some (put I R1) := y1
  have hlen := pwF_len (o := 110) S.ws S.cs
  have hI1 := hI.1
  have hI4 := hI.2.2.1
  have e5 : R1 299 5 = nI (pwF 110 S.ws S.cs).2.length := y2.2.1
  obtain ⟨-, -, g8, g9, g10, g11, g12, -, -, g3, g4⟩ := h
  obtain ⟨p, hp⟩ : ∃ p, S.op = p + 1 := ⟨S.op - 1, by omega⟩
  have e9 : R1 299 9 = nI (p + 1) := by rw [y4 9 (by decide) (by decide), g9, hp]
  have hJ : ∀ (R2 : am_M) (ws' : List Nat), R2 299 5 = nI ws'.length → lsR R2 302 wv ws' → (∀ c, c ≠ 299 → R2 c = R1 c) → (∀ k, k ≠ 5 → R2 299 k = R1 299 k) → ∃ R', fT_takesClosing_J32 P (am_pk 299 0 10) (put I R2) = some (1, put I R') ∧ PSR R' (mkS 4 (pwF 110 S.ws S.cs).1 ws' (S.op - 1) S.ln S.lt S.ls S.fr S.to) ∧ frY R R' := by
    intro R2 ws' f5 fw f1 f2
    have e92 : R2 299 9 = nI (p + 1) := by rw [f2 9 (by decide)]; exact e9
    refine ⟨am_up (am_up R2 299 9 (nI p)) 299 8 4, ?_, ?_, ?_⟩
    · unfold fT_takesClosing_J32
      rw [sm_ck_pos (am_t_pk (by decide)), put_rd sc_299, e92, ← nI_dm, pk_m1, put_up sc_299, bd_eq, put_up sc_299, bd_eq]
    · show PSRc _ 4 (pwF 110 S.ws S.cs).1 ws' (S.op - 1) S.ln S.lt S.ls S.fr S.to
      unfold PSRc
      refine ⟨?_, ?_, by rw [am_up_eq]; rfl, by rw [am_up_nk (by decide), am_up_eq, hp]; rfl, ?_, fun _ => ?_, ?_, ?_, ?_, fun l hl => ?_, fun l hl => ?_⟩
      · rw [am_up_nk (by decide), am_up_nk (by decide), f2 3 (by decide)]; exact y2.1
      · rw [am_up_nk (by decide), am_up_nk (by decide)]; exact f5
      · rw [am_up_nk (by decide), am_up_nk (by decide), f2 10 (by decide), y4 10 (by decide) (by decide)]; exact g10
      · rw [am_up_nk (by decide), am_up_nk (by decide), f2 11 (by decide), y4 11 (by decide) (by decide)]; exact g11 hst
      · rw [am_up_nk (by decide), am_up_nk (by decide), f2 12 (by decide), y4 12 (by decide) (by decide)]; exact g12
      · exact y2.2.2.1.fr (fun k hk => by rw [am_up_ne (by decide), am_up_ne (by decide), f1 301 (by decide)])
      · exact fw.fr (fun k hk => by rw [am_up_ne (by decide), am_up_ne (by decide)])
      · rw [am_up_ne (by decide), am_up_ne (by decide), f1 303 (by decide), y3 303 (by decide) (by decide)]; exact g3 l hl
      · rw [am_up_ne (by decide), am_up_ne (by decide), f1 304 (by decide), y3 304 (by decide) (by decide)]; exact g4 l hl
    · refine ⟨fun c a1 a2 => ?_, ?_⟩
      · funext j
        rw [am_up_ne a1, am_up_ne a1, f1 c a1, y3 c a1 (by omega)]
      · rw [am_up_nk (by decide), am_up_nk (by decide), f2 1 (by decide), y4 1 (by decide) (by decide)]
  unfold fT_takesClosing
  rw [sm_ck_pos (am_t_pk (by decide)), put_rd sc_299, g9, if_pos (by rw [show (0 : Int32) = nI 0 from rfl, nI_eq (by omega) (by decide)]; exact hop), y1', Option.bind_some, put_rd sc_299, e5]
  unfold cbS
  cases hw : (pwF 110 S.ws S.cs).2 with
  | nil =>
    rw [if_pos (by decide)]
    rw [hw] at y2
    exact hJ R1 [] y2.2.1 trivial (fun _ _ => rfl) (fun _ _ => rfl)
  | cons a r =>
    rw [hw] at y2 hlen
    have hl : (a :: r).length = r.length + 1 := rfl
    rw [hl] at hlen
    rw [hl, if_neg (by rw [show (0 : Int32) = nI 0 from rfl, nI_leI (by omega) (by decide)]; omega), ← nI_dm, pk_m1, put_up sc_299, bd_eq]
    exact hJ _ r am_up_eq (y2.2.2.2.2.fr (fun k hk => by rw [am_up_ne (by decide)])) (fun c hc => by funext j; rw [am_up_ne hc]) (fun k hk => by rw [am_up_nk hk])
theorem x_clLn (hS : SP P) {S : PS} {i : Nat} (hi : i ≤ 80) (hI : psI S i) (h : PSR R S) (hst : S.st ≠ 0) : ∃ R9 R', fT_putWaiting P (am_pk 299 0 10) 110 (put I R) = some (put I R9) ∧ fT_closeLine P (am_pk 299 0 10) (put I R9) = some (put I R') ∧ PSR R' (clS S) ∧ frY R R' := by
  obtain ⟨R1, y1, y2, y3, y4⟩ := x_pw (I := I) (o := 110) hS (by decide) (by decide) hi hI h
  have y1' : fT_putWaiting P (am_pk 299 0 10) 110 (put I R) = some (put I R1) := y1
  have hlen := pwF_len (o := 110) S.ws S.cs
  have hI1 := hI.1
  have hlt := hI.2.2.2.2.1 hst
  have hln := hI.2.2.2.1
  have hls := hI.2.2.2.2.2.1
  obtain ⟨-, -, g8, g9, g10, g11, g12, -, -, g3, g4⟩ := h
  have e11 : R1 299 11 = nI S.lt := by rw [y4 11 (by decide) (by decide)]; exact g11 hst
  have e12 : R1 299 12 = nI S.ls := by rw [y4 12 (by decide) (by decide)]; exact g12
  have e10 : R1 299 10 = nI S.ln := by rw [y4 10 (by decide) (by decide)]; exact g10
  have e3 : R1 299 3 = nI (pwF 110 S.ws S.cs).1.length := y2.1
  obtain ⟨R2, hR2⟩ : ∃ R2, R2 = am_up (am_up (am_up (am_up R1 303 S.lt (nI S.ls)) 304 S.lt (nI (pwF 110 S.ws S.cs).1.length)) 299 12 (nI (pwF 110 S.ws S.cs).1.length)) 299 10 (nI (S.ln + 1)) := ⟨_, rfl⟩
  refine ⟨R1, R2, y1', ?_, ?_, ?_⟩
  · have a11 : am_up R1 303 S.lt (nI S.ls) 299 11 = nI S.lt := by rw [am_up_ne (by decide)]; exact e11
    have a3 : am_up R1 303 S.lt (nI S.ls) 299 3 = nI (pwF 110 S.ws S.cs).1.length := by rw [am_up_ne (by decide)]; exact e3
    have b3 : am_up (am_up R1 303 S.lt (nI S.ls)) 304 S.lt (nI (pwF 110 S.ws S.cs).1.length) 299 3 = nI (pwF 110 S.ws S.cs).1.length := by rw [am_up_ne (by decide)]; exact a3
    have b10 : am_up (am_up (am_up R1 303 S.lt (nI S.ls)) 304 S.lt (nI (pwF 110 S.ws S.cs).1.length)) 299 12 (nI (pwF 110 S.ws S.cs).1.length) 299 10 = nI S.ln := by rw [am_up_nk (by decide), am_up_ne (by decide), am_up_ne (by decide)]; exact e10
    unfold fT_closeLine
    rw [sm_ck_pos (am_t_pk (by decide)), sp_299_6 hS, sp_299_7 hS, put_rd sc_299, put_rd sc_299, e11, e12, sm_ck_pos (sm_iw_nI (by decide) (by decide) hlt), nI_clamp (show S.lt < 2 ^ 31 by omega), put_up sc_303, bd_eq, put_rd sc_299, put_rd sc_299, a11, a3, sm_ck_pos (sm_iw_nI (by decide) (by decide) hlt), nI_clamp (show S.lt < 2 ^ 31 by omega), put_up sc_304, bd_eq, put_rd sc_299, b3, put_up sc_299, bd_eq, put_rd sc_299, b10, put_up sc_299, nI_1, bd_eq, hR2]
  · show PSRc _ S.st (pwF 110 S.ws S.cs).1 (pwF 110 S.ws S.cs).2 S.op (S.ln + 1) S.lt (pwF 110 S.ws S.cs).1.length (upN S.fr S.lt (S.ls + 1)) (upN S.to S.lt (pwF 110 S.ws S.cs).1.length)
    unfold PSRc
    rw [hR2]
    refine ⟨?_, ?_, ?_, ?_, am_up_eq, fun _ => ?_, ?_, ?_, ?_, fun l hl => ?_, fun l hl => ?_⟩
    · rw [am_up_nk (by decide), am_up_nk (by decide), am_up_ne (by decide), am_up_ne (by decide)]; exact e3
    · rw [am_up_nk (by decide), am_up_nk (by decide), am_up_ne (by decide), am_up_ne (by decide)]; exact y2.2.1
    · rw [am_up_nk (by decide), am_up_nk (by decide), am_up_ne (by decide), am_up_ne (by decide), y4 8 (by decide) (by decide)]; exact g8
    · rw [am_up_nk (by decide), am_up_nk (by decide), am_up_ne (by decide), am_up_ne (by decide), y4 9 (by decide) (by decide)]; exact g9
    · rw [am_up_nk (by decide), am_up_nk (by decide), am_up_ne (by decide), am_up_ne (by decide)]; exact e11
    · rw [am_up_nk (by decide), am_up_eq]
    · exact y2.2.2.1.fr (fun k hk => by rw [am_up_ne (by decide), am_up_ne (by decide), am_up_ne (by decide), am_up_ne (by decide)])
    · exact y2.2.2.2.fr (fun k hk => by rw [am_up_ne (by decide), am_up_ne (by decide), am_up_ne (by decide), am_up_ne (by decide)])
    · rw [am_up_ne (by decide), am_up_ne (by decide), am_up_ne (by decide)]
      by_cases e : l = S.lt
      · rw [e, am_up_eq, upN_eq, pk_m1]
      · rw [am_up_nk e, upN_ne e, y3 303 (by decide) (by decide)]; exact g3 l hl
    · rw [am_up_ne (by decide), am_up_ne (by decide)]
      by_cases e : l = S.lt
      · rw [e, am_up_eq, upN_eq]
      · rw [am_up_nk e, upN_ne e, am_up_ne (by decide), y3 304 (by decide) (by decide)]; exact g4 l hl
  · rw [hR2]
    refine ⟨fun c a1 a2 => ?_, ?_⟩
    · funext j
      rw [am_up_ne a1, am_up_ne a1, am_up_ne (by omega), am_up_ne (by omega), y3 c a1 (by omega)]
    · rw [am_up_nk (by decide), am_up_nk (by decide), am_up_ne (by decide), am_up_ne (by decide), y4 1 (by decide) (by decide)]
end Tp
