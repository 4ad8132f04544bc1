/-! ===== the start: what the constructors make, as lists of writings ===== -/
/-- writings to the references: 0 a new cell, else a slot -/
def wrP (P : am_Q) : List (Nat × Nat × Nat × Nat) → am_Q
  | [] => P
  | x :: l => if x.1 = 0 then am_set (wrP P l) x.2.1 (fun _ => 0) else am_up (wrP P l) x.2.1 x.2.2.1 x.2.2.2
def rdP : List (Nat × Nat × Nat × Nat) → Nat → Nat → Option Nat
  | [], _, _ => none
  | x :: l, b, j => if x.1 = 0 then (if b = x.2.1 then some 0 else rdP l b j) else (if b = x.2.1 ∧ j = x.2.2.1 then some x.2.2.2 else rdP l b j)
theorem rdP_ok {P : am_Q} : ∀ {l : List (Nat × Nat × Nat × Nat)} {b j v : Nat}, rdP l b j = some v → wrP P l b j = v
  | [], _, _, _, h => absurd h (by simp [rdP])
  | x :: l, b, j, v, h => by
    have h : (if x.1 = 0 then (if b = x.2.1 then some 0 else rdP l b j) else (if b = x.2.1 ∧ j = x.2.2.1 then some x.2.2.2 else rdP l b j)) = some v := h
    show (if x.1 = 0 then am_set (wrP P l) x.2.1 (fun _ => 0) else am_up (wrP P l) x.2.1 x.2.2.1 x.2.2.2) b j = v
    by_cases q : x.1 = 0
    · rw [if_pos q] at h ⊢
      unfold am_set
      by_cases e : b = x.2.1
      · rw [if_pos e] at h ⊢
        injection h
      · rw [if_neg e] at h ⊢
        exact rdP_ok h
    · rw [if_neg q] at h ⊢
      unfold am_up
      by_cases e : b = x.2.1 ∧ j = x.2.2.1
      · rw [if_pos e] at h ⊢
        injection h
      · rw [if_neg e] at h ⊢
        exact rdP_ok h
/-- writings to the numbers: 0 a new cell, 1 a slot, 2 the first slots -/
def wrI (I : am_M) : List (Nat × Nat × Nat × Int32) → am_M
  | [] => I
  | x :: l => if x.1 = 0 then am_set (wrI I l) x.2.1 (fun _ => 0) else if x.1 = 1 then am_up (wrI I l) x.2.1 x.2.2.1 x.2.2.2 else am_set (wrI I l) x.2.1 (fun i => if i < x.2.2.1 then x.2.2.2 else wrI I l x.2.1 i)
def rdI : List (Nat × Nat × Nat × Int32) → Nat → Nat → Option Int32
  | [], _, _ => none
  | x :: l, b, j => if x.1 = 0 then (if b = x.2.1 then some 0 else rdI l b j) else if x.1 = 1 then (if b = x.2.1 ∧ j = x.2.2.1 then some x.2.2.2 else rdI l b j) else (if b = x.2.1 ∧ j < x.2.2.1 then some x.2.2.2 else rdI l b j)
theorem rdI_ok {I : am_M} : ∀ {l : List (Nat × Nat × Nat × Int32)} {b j : Nat} {v : Int32}, rdI l b j = some v → wrI I l b j = v
  | [], _, _, _, h => absurd h (by simp [rdI])
  | x :: l, b, j, v, h => by
    have h : (if x.1 = 0 then (if b = x.2.1 then some 0 else rdI l b j) else if x.1 = 1 then (if b = x.2.1 ∧ j = x.2.2.1 then some x.2.2.2 else rdI l b j) else (if b = x.2.1 ∧ j < x.2.2.1 then some x.2.2.2 else rdI l b j)) = some v := h
    show (if x.1 = 0 then am_set (wrI I l) x.2.1 (fun _ => 0) else if x.1 = 1 then am_up (wrI I l) x.2.1 x.2.2.1 x.2.2.2 else am_set (wrI I l) x.2.1 (fun i => if i < x.2.2.1 then x.2.2.2 else wrI I l x.2.1 i)) b j = v
    by_cases q : x.1 = 0
    · rw [if_pos q] at h ⊢
      unfold am_set
      by_cases e : b = x.2.1
      · rw [if_pos e] at h ⊢
        injection h
      · rw [if_neg e] at h ⊢
        exact rdI_ok h
    · rw [if_neg q] at h ⊢
      by_cases q1 : x.1 = 1
      · rw [if_pos q1] at h ⊢
        unfold am_up
        by_cases e : b = x.2.1 ∧ j = x.2.2.1
        · rw [if_pos e] at h ⊢
          injection h
        · rw [if_neg e] at h ⊢
          exact rdI_ok h
      · rw [if_neg q1] at h ⊢
        unfold am_set
        by_cases e : b = x.2.1
        · rw [if_pos e]
          by_cases e2 : j < x.2.2.1
          · rw [if_pos ⟨e, e2⟩] at h
            dsimp only
            rw [if_pos e2]
            injection h
          · rw [if_neg (fun z => e2 z.2)] at h
            dsimp only
            rw [if_neg e2, ← e]
            exact rdI_ok h
        · rw [if_neg (fun z => e z.1)] at h
          rw [if_neg e]
          exact rdI_ok h
theorem wrI_ne {I : am_M} : ∀ {l : List (Nat × Nat × Nat × Int32)} {b : Nat}, (∀ x, x ∈ l → x.2.1 ≠ b) → wrI I l b = I b
  | [], _, _ => rfl
  | x :: l, b, h => by
    have h1 : ¬ b = x.2.1 := fun z => h x (List.mem_cons_self ..) z.symm
    have h2 := wrI_ne (I := I) (l := l) (b := b) (fun y hy => h y (List.mem_cons_of_mem _ hy))
    show (if x.1 = 0 then am_set (wrI I l) x.2.1 (fun _ => 0) else if x.1 = 1 then am_up (wrI I l) x.2.1 x.2.2.1 x.2.2.2 else am_set (wrI I l) x.2.1 (fun i => if i < x.2.2.1 then x.2.2.2 else wrI I l x.2.1 i)) b = _
    split
    · rw [am_setne h1, h2]
    · split
      · funext j; rw [am_up_ne h1, h2]
      · rw [am_setne h1, h2]
section Ini
variable {I : am_M} {P : am_Q} {lI : List (Nat × Nat × Nat × Int32)} {lP : List (Nat × Nat × Nat × Nat)} {nx sl : Nat}
/-- any memory is one with rows -/
theorem put_any (M : am_M) : put M (fun c => M (st_c c)) = M := by
  funext a k
  unfold put
  by_cases h : 2 ≤ am_i a ∧ am_i a < 379 ∧ a = st_c (am_i a)
  · rw [if_pos h]
    show M (st_c (am_i a)) k = _
    rw [← h.2.2]
  · rw [if_neg h]
theorem fill_any {M : am_M} {c n : Nat} {v : Int32} (hc : sc c n 20) : fA_fill P (am_pk c n 20) v M = some (am_set M (am_pk c n 20) (fun i => if i < n then v else M (am_pk c n 20) i)) := by
  have h := x_fill (I := M) (R := fun c => M (st_c c)) (P := P) (v := v) hc
  rw [put_any] at h
  rw [h, ← put_set hc, put_any, sc_c hc]
theorem nw_eq {ρ : Type} {t : Nat} {K : Nat → am_M → am_Q → Nat → Nat → Option ρ} : sm_nw t (wrI I lI) (wrP P lP) nx sl K = K (am_pk nx 0 t) (wrI I ((0, am_pk nx 0 t, 0, 0) :: lI)) (wrP P ((0, am_pk nx 0 t, 0, 0) :: lP)) (nx + 1) (sl + am_nf t) := rfl
theorem na_eq {ρ : Type} {t n : Nat} {K : Nat → am_M → Nat → Nat → Option ρ} (hn : n < 2 ^ 31) : sm_na t (nI n) (wrI I lI) nx sl K = K (am_pk nx n t) (wrI I ((0, am_pk nx n t, 0, 0) :: lI)) (nx + 1) (sl + n) := by
  unfold sm_na
  rw [nI_clamp hn]
  rfl
theorem nq_eq {ρ : Type} {t n : Nat} {K : Nat → am_Q → Nat → Nat → Option ρ} (hn : n < 2 ^ 31) : sm_nq t (nI n) (wrP P lP) nx sl K = K (am_pk nx n t) (wrP P ((0, am_pk nx n t, 0, 0) :: lP)) (nx + 1) (sl + n) := by
  unfold sm_nq
  rw [nI_clamp hn]
  rfl
theorem upP_eq {a k v : Nat} : am_up (wrP P lP) a k v = wrP P ((1, a, k, v) :: lP) := rfl
theorem upI_eq {a k : Nat} {v : Int32} : am_up (wrI I lI) a k v = wrI I ((1, a, k, v) :: lI) := rfl
def boxLI (c : Nat) : Nat → Nat → List (Nat × Nat × Nat × Int32) → List (Nat × Nat × Nat × Int32)
  | 0, _, l => l
  | d + 1, i, l => boxLI c d (i + 1) ((0, am_pk (c + i) 0 1, 0, 0) :: l)
def boxLP (arr l1 c : Nat) : Nat → Nat → List (Nat × Nat × Nat × Nat) → List (Nat × Nat × Nat × Nat)
  | 0, _, l => l
  | d + 1, i, l => boxLP arr l1 c d (i + 1) ((1, arr, i, am_pk (c + i) 0 1) :: (1, am_pk (c + i) 0 1, 10, l1) :: (0, am_pk (c + i) 0 1, 0, 0) :: l)
def smLI (c : Nat) : Nat → Nat → List (Nat × Nat × Nat × Int32) → List (Nat × Nat × Nat × Int32)
  | 0, _, l => l
  | d + 1, i, l => smLI c d (i + 1) ((0, am_pk (c + i) 0 8, 0, 0) :: l)
def smLP (arr c : Nat) : Nat → Nat → List (Nat × Nat × Nat × Nat) → List (Nat × Nat × Nat × Nat)
  | 0, _, l => l
  | d + 1, i, l => smLP arr c d (i + 1) ((1, arr, i, am_pk (c + i) 0 8) :: (0, am_pk (c + i) 0 8, 0, 0) :: l)
theorem pk_kd {a c n t t' : Nat} (h : am_t a = t') (ht : t < 32) (hne : t' ≠ t) : ¬ a = am_pk c n t := fun z => by
  rw [z, am_t_pk ht] at h
  exact hne h.symm
theorem x_box80 {a l1 c : Nat} {c0 : Nat} (ha : am_t a = 11) (h1 : am_t l1 = 4) {ex : Nat → am_M → am_Q → Nat → Nat → Option am_S} : ∀ (d i fu : Nat) (lI : List (Nat × Nat × Nat × Int32)) (lP : List (Nat × Nat × Nat × Nat)) (sl : Nat), d < fu → i + d = 7 → wrP P lP a 9 = am_pk c0 7 22 → ∃ sl', fW_init_L80 ex fu a l1 (nI i) (wrI I lI) (wrP P lP) (c + i) sl = ex a (wrI I (boxLI c d i lI)) (wrP P (boxLP (am_pk c0 7 22) l1 c d i lP)) (c + 7) sl' ∧ sl' = sl + d * am_nf 1 ∧ ∀ k, wrP P (boxLP (am_pk c0 7 22) l1 c d i lP) a k = wrP P lP a k
  | 0, i, fu, lI, lP, sl, h2, h3, h4 => by
    obtain ⟨fu, rfl⟩ : ∃ n', fu = n' + 1 := ⟨fu - 1, by omega⟩
    have e : i = 7 := by omega
    subst e
    refine ⟨sl, ?_, by omega, fun _ => rfl⟩
    show fW_init_B80 _ _ _ _ _ _ _ _ _ = _
    unfold fW_init_B80
    rw [if_pos (by decide)]
    rfl
  | d + 1, i, fu, lI, lP, sl, h2, h3, h4 => by
    obtain ⟨fu, rfl⟩ : ∃ n', fu = n' + 1 := ⟨fu - 1, by omega⟩
    have n1 : ¬ a = am_pk (c + i) 0 1 := pk_kd ha (by decide) (by decide)
    have n2 : ¬ a = am_pk c0 7 22 := pk_kd ha (by decide) (by decide)
    have hk : ∀ k, wrP P ((1, am_pk c0 7 22, i, am_pk (c + i) 0 1) :: (1, am_pk (c + i) 0 1, 10, l1) :: (0, am_pk (c + i) 0 1, 0, 0) :: lP) a k = wrP P lP a k := fun k => by
      show am_up (am_up (am_set (wrP P lP) (am_pk (c + i) 0 1) (fun _ => 0)) (am_pk (c + i) 0 1) 10 l1) (am_pk c0 7 22) i (am_pk (c + i) 0 1) a k = _
      rw [am_up_ne n2, am_up_ne n1, am_setne n1]
    obtain ⟨sl', y1, y2, y3⟩ := x_box80 ha h1 (ex := ex) d (i + 1) fu ((0, am_pk (c + i) 0 1, 0, 0) :: lI) ((1, am_pk c0 7 22, i, am_pk (c + i) 0 1) :: (1, am_pk (c + i) 0 1, 10, l1) :: (0, am_pk (c + i) 0 1, 0, 0) :: lP) (sl + am_nf 1) (by omega) (by omega) ((hk 9).trans h4)
    refine ⟨sl', ?_, ?_, fun k => by rw [← hk k]; exact y3 k⟩
    · show fW_init_B80 _ _ _ _ _ _ _ _ _ = _
      unfold fW_init_B80 fB_init
      rw [if_neg (by rw [show (7 : Int32) = nI 7 from rfl, nI_leI (by decide) (by omega)]; omega), sm_ck_pos ha, nw_eq, sm_ck_pos h1, sm_ck_pos (am_t_pk (by decide)), sm_ck_pos h1, upP_eq, bd_eq, Option.bind_some]
      dsimp only
      rw [h4, sm_ck_pos (sm_ia_nI (by decide) (by decide) (by decide) (by omega)), sm_ck_pos (by rw [am_t_pk (by decide), am_t_pk (by decide)]; decide), nI_clamp (show i < 2 ^ 31 by omega), upP_eq, bd_eq, bd_eq, nI_1]
      exact y1
    · rw [y2, Nat.succ_mul]; omega
theorem x_sm108 {a c c0 : Nat} (ha : am_t a = 11) : ∀ (d i fu : Nat) (lI : List (Nat × Nat × Nat × Int32)) (lP : List (Nat × Nat × Nat × Nat)) (sl : Nat), d < fu → i + d = 14 → wrP P lP a 10 = am_pk c0 14 23 → ∃ sl', fW_init_L108 (fun I P nx sl => some (I, P, nx, sl)) fu a (nI i) (wrI I lI) (wrP P lP) (c + i) sl = some (wrI I (smLI c d i lI), wrP P (smLP (am_pk c0 14 23) c d i lP), c + 14, sl') ∧ sl' = sl + d * am_nf 8
  | 0, i, fu, lI, lP, sl, h2, h3, h4 => by
    obtain ⟨fu, rfl⟩ : ∃ n', fu = n' + 1 := ⟨fu - 1, by omega⟩
    have e : i = 14 := by omega
    subst e
    refine ⟨sl, ?_, by omega⟩
    show fW_init_B108 _ _ _ _ _ _ _ _ = _
    unfold fW_init_B108
    rw [if_pos (by decide)]
    rfl
  | d + 1, i, fu, lI, lP, sl, h2, h3, h4 => by
    obtain ⟨fu, rfl⟩ : ∃ n', fu = n' + 1 := ⟨fu - 1, by omega⟩
    have n1 : ¬ a = am_pk (c + i) 0 8 := pk_kd ha (by decide) (by decide)
    have n2 : ¬ a = am_pk c0 14 23 := pk_kd ha (by decide) (by decide)
    have hk : ∀ k, wrP P ((1, am_pk c0 14 23, i, am_pk (c + i) 0 8) :: (0, am_pk (c + i) 0 8, 0, 0) :: lP) a k = wrP P lP a k := fun k => by
      show am_up (am_set (wrP P lP) (am_pk (c + i) 0 8) (fun _ => 0)) (am_pk c0 14 23) i (am_pk (c + i) 0 8) a k = _
      rw [am_up_ne n2, am_setne n1]
    obtain ⟨sl', y1, y2⟩ := x_sm108 ha d (i + 1) fu ((0, am_pk (c + i) 0 8, 0, 0) :: lI) ((1, am_pk c0 14 23, i, am_pk (c + i) 0 8) :: (0, am_pk (c + i) 0 8, 0, 0) :: lP) (sl + am_nf 8) (by omega) (by omega) ((hk 10).trans h4)
    refine ⟨sl', ?_, by rw [y2, Nat.succ_mul]; omega⟩
    show fW_init_B108 _ _ _ _ _ _ _ _ = _
    unfold fW_init_B108 fS_init
    rw [if_neg (by rw [show (14 : Int32) = nI 14 from rfl, nI_leI (by decide) (by omega)]; omega), sm_ck_pos ha, nw_eq, sm_ck_pos (am_t_pk (by decide)), Option.bind_some, h4, sm_ck_pos (sm_ia_nI (by decide) (by decide) (by decide) (by omega)), sm_ck_pos (by rw [am_t_pk (by decide), am_t_pk (by decide)]; decide), nI_clamp (show i < 2 ^ 31 by omega), upP_eq, bd_eq, bd_eq, nI_1]
    exact y1
/-- a World at a, its further cells from c on -/
def wldI (a c : Nat) (l : List (Nat × Nat × Nat × Int32)) : List (Nat × Nat × Nat × Int32) := smLI (c + 14) 14 0 (boxLI (c + 7) 7 0 ((0, am_pk (c + 6) 20 20, 0, 0) :: (0, am_pk (c + 5) 20 20, 0, 0) :: (0, am_pk (c + 4) 20 20, 0, 0) :: (0, am_pk (c + 3) 14 20, 0, 0) :: (0, am_pk (c + 2) 7 20, 0, 0) :: (1, a, 5, -1) :: (1, a, 4, -1) :: (1, a, 0, 10) :: l))
def wldP0 (a c : Nat) (l : List (Nat × Nat × Nat × Nat)) : List (Nat × Nat × Nat × Nat) := (1, a, 15, am_pk (c + 6) 20 20) :: (1, a, 14, am_pk (c + 5) 20 20) :: (1, a, 13, am_pk (c + 4) 20 20) :: (1, a, 12, am_pk (c + 3) 14 20) :: (1, a, 11, am_pk (c + 2) 7 20) :: (1, a, 10, am_pk (c + 1) 14 23) :: (0, am_pk (c + 1) 14 23, 0, 0) :: (1, a, 9, am_pk c 7 22) :: (0, am_pk c 7 22, 0, 0) :: l
def wldP (a l1 c : Nat) (l : List (Nat × Nat × Nat × Nat)) : List (Nat × Nat × Nat × Nat) := smLP (am_pk (c + 1) 14 23) (c + 14) 14 0 (boxLP (am_pk c 7 22) l1 (c + 7) 7 0 (wldP0 a c l))
theorem x_wld {a l1 : Nat} (ha : am_t a = 11) (h1 : am_t l1 = 4) : ∃ sl', fW_init a l1 (wrI I lI) (wrP P lP) nx sl = some (wrI I (wldI a nx lI), wrP P (wldP a l1 nx lP), nx + 28, sl') ∧ sl' = sl + 102 + 7 * am_nf 1 + 14 * am_nf 8 := by
  have n23 : ¬ a = am_pk (nx + 1) 14 23 := pk_kd ha (by decide) (by decide)
  have e9 : wrP P (wldP0 a nx lP) a 9 = am_pk nx 7 22 := by
    show am_up (am_up (am_up (am_up (am_up (am_up (am_set (am_up (am_set (wrP P lP) (am_pk nx 7 22) (fun _ => 0)) a 9 (am_pk nx 7 22)) (am_pk (nx + 1) 14 23) (fun _ => 0)) a 10 (am_pk (nx + 1) 14 23)) a 11 (am_pk (nx + 2) 7 20)) a 12 (am_pk (nx + 3) 14 20)) a 13 (am_pk (nx + 4) 20 20)) a 14 (am_pk (nx + 5) 20 20)) a 15 (am_pk (nx + 6) 20 20) a 9 = _
    rw [am_up_nk (by decide), am_up_nk (by decide), am_up_nk (by decide), am_up_nk (by decide), am_up_nk (by decide), am_up_nk (by decide), am_setne n23, am_up_eq]
  have e10 : wrP P (wldP0 a nx lP) a 10 = am_pk (nx + 1) 14 23 := by
    show am_up (am_up (am_up (am_up (am_up (am_up (am_set (am_up (am_set (wrP P lP) (am_pk nx 7 22) (fun _ => 0)) a 9 (am_pk nx 7 22)) (am_pk (nx + 1) 14 23) (fun _ => 0)) a 10 (am_pk (nx + 1) 14 23)) a 11 (am_pk (nx + 2) 7 20)) a 12 (am_pk (nx + 3) 14 20)) a 13 (am_pk (nx + 4) 20 20)) a 14 (am_pk (nx + 5) 20 20)) a 15 (am_pk (nx + 6) 20 20) a 10 = _
    rw [am_up_nk (by decide), am_up_nk (by decide), am_up_nk (by decide), am_up_nk (by decide), am_up_nk (by decide), am_up_eq]
  obtain ⟨sl1, y1, y2, y3⟩ := x_box80 (I := I) (P := P) (c := nx + 7) ha h1 (ex := fun l0 I P nx sl => fW_init_L108 (fun I P nx sl => some (I, P, nx, sl)) sm_fu l0 0 I P nx sl) 7 0 sm_fu ((0, am_pk (nx + 6) 20 20, 0, 0) :: (0, am_pk (nx + 5) 20 20, 0, 0) :: (0, am_pk (nx + 4) 20 20, 0, 0) :: (0, am_pk (nx + 3) 14 20, 0, 0) :: (0, am_pk (nx + 2) 7 20, 0, 0) :: (1, a, 5, -1) :: (1, a, 4, -1) :: (1, a, 0, 10) :: lI) (wldP0 a nx lP) (sl + 7 + 14 + 7 + 14 + 20 + 20 + 20) (sm_fu_lt (by decide)) (by decide) e9
  obtain ⟨sl2, z1, z2⟩ := x_sm108 (I := I) (P := P) (c := nx + 14) ha 14 0 sm_fu (boxLI (nx + 7) 7 0 ((0, am_pk (nx + 6) 20 20, 0, 0) :: (0, am_pk (nx + 5) 20 20, 0, 0) :: (0, am_pk (nx + 4) 20 20, 0, 0) :: (0, am_pk (nx + 3) 14 20, 0, 0) :: (0, am_pk (nx + 2) 7 20, 0, 0) :: (1, a, 5, -1) :: (1, a, 4, -1) :: (1, a, 0, 10) :: lI)) (boxLP (am_pk nx 7 22) l1 (nx + 7) 7 0 (wldP0 a nx lP)) sl1 (sm_fu_lt (by decide)) (by decide) ((y3 10).trans e10)
  refine ⟨sl2, ?_, by omega⟩
  unfold fW_init
  rw [sm_ck_pos ha, upI_eq, bd_eq, upI_eq, bd_eq, upI_eq, bd_eq, show (7 : Int32) = nI 7 from rfl, show (14 : Int32) = nI 14 from rfl, show (20 : Int32) = nI 20 from rfl, nq_eq (by decide), upP_eq, bd_eq, nq_eq (by decide), upP_eq, bd_eq, na_eq (by decide), upP_eq, bd_eq, na_eq (by decide), upP_eq, bd_eq, na_eq (by decide), upP_eq, bd_eq, na_eq (by decide), upP_eq, bd_eq, na_eq (by decide), upP_eq, bd_eq]
  exact y1.trans z1
end Ini
