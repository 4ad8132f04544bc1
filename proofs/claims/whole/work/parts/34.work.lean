/-! ===== a text, and what a line of it tells. Codes: 0..99 numbers, 100 p, 101 q, 102 a, 103 b, 104 h, 110 + , 111 -, 112 *, 113 % ===== -/
def vlF (p q a b h m : Int32) (c : Nat) : Int32 := partF (if c = 100 then p else if c = 101 then q else if c = 102 then a else if c = 103 then b else if c = 104 then h else nI c) m
def jnF (m : Int32) (c : Nat) (x y : Int32) : Int32 := if c = 110 then partF (x + y) m else if c = 111 then partF (x - y) m else if c = 112 then partF (x * y) m else if 1 ≤ y then partF x y else 0
/-- the stack behind the codes, the top first -/
def evF (vl : Nat → Int32) (m : Int32) : List Nat → List Int32 → List Int32
  | [], st => st
  | c :: cs, st => if c < 110 then evF vl m cs (vl c :: st) else match st with
    | y :: x :: r => evF vl m cs (jnF m c x y :: r)
    | _ => evF vl m cs st
def wkF (t : Nat → List Nat) (l : Nat) (p q a b h m : Int32) : Int32 := if t l = [] then (if l % 2 = 0 then p else q) else (evF (vlF p q a b h m) m (t l) []).headD 0
/-- codes that can be worked out with d values waiting, never more than 12 -/
def rpn : List Nat → Nat → Prop
  | [], d => d = 1
  | c :: cs, d => if c < 110 then c < 105 ∧ d < 12 ∧ rpn cs (d + 1) else c < 114 ∧ 2 ≤ d ∧ rpn cs (d - 1)
def wft (t : Nat → List Nat) : Prop := ∀ l, l < 4 → t l = [] ∨ (rpn (t l) 0 ∧ (t l).length ≤ 80)
def okcl (c : Nat) : Prop := c = 4 ∨ c = 5 ∨ c = 6 ∨ 379 ≤ c
/-- a Lines object holds the text t -/
def lnr (M : am_M) (P : am_Q) (lp : Nat) (t : Nat → List Nat) : Prop := am_t lp = 4 ∧ ∃ cc nc cs ce, P lp 0 = am_pk cc nc 20 ∧ nc < 16384 ∧ P lp 1 = am_pk cs 4 20 ∧ P lp 2 = am_pk ce 4 20 ∧ (okcl cc ∧ okcl cs ∧ okcl ce) ∧ ∀ l, l < 4 → (t l = [] → M (am_pk cs 4 20) l < 0) ∧ (t l ≠ [] → ∃ s, M (am_pk cs 4 20) l = nI s ∧ M (am_pk ce 4 20) l = nI (s + (t l).length) ∧ s + (t l).length ≤ nc ∧ ∀ k (hk : k < (t l).length), M (am_pk cc nc 20) (s + k) = nI (t l)[k])
theorem lnr.kept {M M' : am_M} {P : am_Q} {lp : Nat} {t : Nat → List Nat} (h : lnr M P lp t) (hM : ∀ c n k, n < 16384 → okcl c → M' (am_pk c n 20) k = M (am_pk c n 20) k) : lnr M' P lp t := by
  obtain ⟨h0, cc, nc, cs, ce, h1, h2, h3, h4, ⟨o1, o2, o3⟩, h5⟩ := h
  refine ⟨h0, cc, nc, cs, ce, h1, h2, h3, h4, ⟨o1, o2, o3⟩, fun l hl => ⟨fun e => ?_, fun e => ?_⟩⟩
  · rw [hM _ _ _ (by decide) o2]; exact (h5 l hl).1 e
  · obtain ⟨s, g1, g2, g3, g4⟩ := (h5 l hl).2 e
    exact ⟨s, by rw [hM _ _ _ (by decide) o2]; exact g1, by rw [hM _ _ _ (by decide) o3]; exact g2, g3, fun k hk => by rw [hM _ _ _ h2 o1]; exact g4 k hk⟩
/-- what isn't written at the plain Lines' cells stays for all Lines -/
theorem put_okcl {I R R' : am_M} (h : ∀ c, c = 4 ∨ c = 5 ∨ c = 6 → R' c = R c) : ∀ c n k, n < 16384 → okcl c → put I R' (am_pk c n 20) k = put I R (am_pk c n 20) k := by
  intro c n k hn hc
  unfold put
  rw [am_i_pk hn (by decide)]
  by_cases hs : 2 ≤ c ∧ c < 379 ∧ am_pk c n 20 = st_c c
  · rw [if_pos hs, if_pos hs, h c (by unfold okcl at hc; omega)]
  · rw [if_neg hs, if_neg hs]
/-- a row of ints as a stack -/
def stk (R : am_M) (cell : Nat) (st : List Int32) : Prop := ∀ k (hk : k < st.length), R cell k = st[st.length - 1 - k]
theorem stk_push {R : am_M} {cell : Nat} {st : List Int32} {v : Int32} (h : stk R cell st) : stk (am_up R cell st.length v) cell (v :: st) := by
  intro k hk
  by_cases e : k = st.length
  · subst e
    rw [am_up_eq]
    simp
  · rw [am_up_nk e]
    have hk2 : k < st.length := by simp at hk; omega
    rw [h k hk2]
    have : (v :: st).length - 1 - k = (st.length - 1 - k) + 1 := by simp; omega
    simp only [this, List.getElem_cons_succ]
theorem stk_join {R : am_M} {cell : Nat} {st : List Int32} {x y v : Int32} (h : stk R cell (y :: x :: st)) : R cell st.length = x ∧ R cell (st.length + 1) = y ∧ stk (am_up R cell st.length v) cell (v :: st) := by
  refine ⟨?_, ?_, ?_⟩
  · have := h st.length (by simp; omega)
    rw [this]; simp
  · have := h (st.length + 1) (by simp)
    rw [this]; simp
  · refine stk_push ?_
    intro k hk
    have := h k (by simp; omega)
    rw [this]
    have e : (y :: x :: st).length - 1 - k = (st.length - 1 - k) + 2 := by simp; omega
    simp only [e, List.getElem_cons_succ]
theorem rem_i (v m : Int32) : (sm_rem v m).toInt = v.toInt.tmod m.toInt := rem_toInt v m
theorem addI {x y : Int32} (h1 : -2147483648 ≤ x.toInt + y.toInt) (h2 : x.toInt + y.toInt < 2147483648) : (x + y).toInt = x.toInt + y.toInt := by
  rw [Int32.toInt_add]
  exact Int.bmod_eq_of_le (by omega) (by omega)
theorem partF_rem {x y : Int32} (h : 0 ≤ x) (hy : 1 ≤ y) : partF x y = sm_rem x y := by
  rw [i_le, i_0] at h
  rw [i_le] at hy
  have hy1 : 1 ≤ y.toInt := hy
  unfold partF
  rw [if_pos (by rw [i_le, i_0, rem_i, Int.tmod_eq_emod_of_nonneg h]; exact Int.emod_nonneg _ (by omega))]
theorem partF_rg {v m : Int32} (h : 1 ≤ m) : 0 ≤ partF v m ∧ partF v m < m := by
  rw [i_le] at h
  have h1 : 1 ≤ m.toInt := h
  have h2 : m.toInt < 2147483648 := Int32.toInt_lt m
  have hb := tmod_bounds (a := v.toInt) (M := m.toInt) (by omega)
  have hr := rem_i v m
  rw [i_le, i_lt, i_0]
  unfold partF
  split
  · rename_i h
    rw [i_le, i_0] at h
    omega
  · rename_i h
    rw [i_le, i_0] at h
    rw [addI (by omega) (by omega)]
    omega
theorem partF_fx {p m : Int32} (h : 0 ≤ p ∧ p < m) : partF p m = p := by
  rw [i_le, i_lt, i_0] at h
  have hr := rem_i p m
  rw [Int.tmod_eq_emod_of_nonneg h.1, Int.emod_eq_of_lt h.1 h.2] at hr
  have e : sm_rem p m = p := i_eq.mpr hr
  unfold partF
  rw [e, if_pos (by rw [i_le, i_0]; exact h.1)]
theorem rem_rg {x y m : Int32} (hx : 0 ≤ x ∧ x < m) (hy : 1 ≤ y) : 0 ≤ sm_rem x y ∧ sm_rem x y < m := by
  rw [i_le, i_lt, i_0] at hx
  rw [i_le] at hy
  have hy1 : 1 ≤ y.toInt := hy
  rw [i_le, i_lt, i_0, rem_i, Int.tmod_eq_emod_of_nonneg hx.1]
  have h1 := Int.emod_nonneg x.toInt (show y.toInt ≠ 0 by omega)
  have h2 : x.toInt % y.toInt ≤ x.toInt := by
    have h3 := Int.mul_ediv_add_emod x.toInt y.toInt
    have h4 : 0 ≤ y.toInt * (x.toInt / y.toInt) := Int.mul_nonneg (by omega) (Int.ediv_nonneg hx.1 (by omega))
    omega
  omega
theorem zero_rg {m : Int32} (h : 1 ≤ m) : (0 : Int32) ≤ 0 ∧ 0 < m := by
  rw [i_le] at h
  have h1 : 1 ≤ m.toInt := h
  rw [i_lt, i_0]
  exact ⟨by decide, by omega⟩
theorem jnF_rg {m x y : Int32} {c : Nat} (hm : 1 ≤ m) (hx : 0 ≤ x ∧ x < m) : 0 ≤ jnF m c x y ∧ jnF m c x y < m := by
  unfold jnF
  split
  · exact partF_rg hm
  · split
    · exact partF_rg hm
    · split
      · exact partF_rg hm
      · split
        · rename_i hy
          rw [partF_rem hx.1 hy]
          exact rem_rg hx hy
        · exact zero_rg hm
section WorkX
variable {I : am_M} {P : am_Q}
theorem h_joined {c : Nat} {x y m : Int32} (h1 : 110 ≤ c) (h2 : c < 114) (hm : 1 ≤ m) (hx : 0 ≤ x ∧ x < m) (hy0 : 0 ≤ y) : (fK_joined (nI c) x y).bind (fun z => fX_restBy z m) = some (jnF m c x y) := by
  rcases (show c = 110 ∨ c = 111 ∨ c = 112 ∨ c = 113 by omega) with rfl | rfl | rfl | rfl
  · unfold fK_joined
    rw [if_pos (by decide), Option.bind_some, h_restBy hm]; rfl
  · unfold fK_joined
    rw [if_neg (by decide), if_pos (by decide), Option.bind_some, h_restBy hm]; rfl
  · unfold fK_joined
    rw [if_neg (by decide), if_neg (by decide), if_pos (by decide), Option.bind_some, h_restBy hm]; rfl
  · unfold fK_joined
    rw [if_neg (by decide), if_neg (by decide), if_neg (by decide)]
    have ej : jnF m 113 x y = if 1 ≤ y then partF x y else 0 := by
      unfold jnF
      rw [if_neg (by decide), if_neg (by decide), if_neg (by decide)]
    rw [ej]
    by_cases hy : y = 0
    · rw [if_neg (fun w => w hy), Option.bind_some, h_restBy hm, partF_fx (zero_rg hm), if_neg (by rw [hy]; decide)]
    · have hy1 : 1 ≤ y := by
        rw [i_le] at hy0 ⊢
        have : y.toInt ≠ 0 := fun e => hy (i_eq.mpr e)
        have e0 : (0 : Int32).toInt = 0 := rfl
        have e1 : (1 : Int32).toInt = 1 := rfl
        omega
      rw [if_pos hy, sm_ck_pos hy, Option.bind_some, h_restBy hm, partF_fx (rem_rg hx hy1), if_pos hy1, partF_rem hx.1 hy1]
theorem h_valueOf {M : am_M} {c bc : Nat} {p q a b h m : Int32} (hc : c < 105) (hp : M (am_pk bc 0 1) 1 = p) (hq : M (am_pk bc 0 1) 2 = q) (ha : M (am_pk bc 0 1) 3 = a) (hb : M (am_pk bc 0 1) 4 = b) (hm : 1 ≤ m) : (fK_valueOf M P (nI c) (am_pk bc 0 1) h).bind (fun y => fX_restBy y m) = some (vlF p q a b h m c) := by
  unfold fK_valueOf vlF
  have ht : am_t (am_pk bc 0 1) = 1 := am_t_pk (by decide)
  have lit : ∀ k : Nat, k < 200 → ((nI c = nI k) ↔ c = k) := fun k hk => nI_eq (by omega) (by omega)
  have e0 : (nI c = 100) ↔ c = 100 := lit 100 (by decide)
  have e1 : (nI c = 101) ↔ c = 101 := lit 101 (by decide)
  have e2 : (nI c = 102) ↔ c = 102 := lit 102 (by decide)
  have e3 : (nI c = 103) ↔ c = 103 := lit 103 (by decide)
  have e4 : (nI c = 104) ↔ c = 104 := lit 104 (by decide)
  by_cases c0 : c = 100
  · rw [if_pos (e0.mpr c0), if_pos c0, sm_ck_pos ht, hp, Option.bind_some, h_restBy hm]
  · rw [if_neg (fun z => c0 (e0.mp z)), if_neg c0]
    by_cases c1 : c = 101
    · rw [if_pos (e1.mpr c1), if_pos c1, sm_ck_pos ht, hq, Option.bind_some, h_restBy hm]
    · rw [if_neg (fun z => c1 (e1.mp z)), if_neg c1]
      by_cases c2 : c = 102
      · rw [if_pos (e2.mpr c2), if_pos c2, sm_ck_pos ht, ha, Option.bind_some, h_restBy hm]
      · rw [if_neg (fun z => c2 (e2.mp z)), if_neg c2]
        by_cases c3 : c = 103
        · rw [if_pos (e3.mpr c3), if_pos c3, sm_ck_pos ht, hb, Option.bind_some, h_restBy hm]
        · rw [if_neg (fun z => c3 (e3.mp z)), if_neg c3]
          by_cases c4 : c = 104
          · rw [if_pos (e4.mpr c4), if_pos c4, Option.bind_some, h_restBy hm]
          · rw [if_neg (fun z => c4 (e4.mp z)), if_neg c4, Option.bind_some, h_restBy hm]
end WorkX
