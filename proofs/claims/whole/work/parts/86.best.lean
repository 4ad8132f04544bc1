/-! ===== orders of boxes ===== -/
def toF (l : List Nat) : Nat → Nat := fun k => l.getD k 0
def rwX (F : List Nat → List (List Nat)) (p : List Nat) : Nat → Nat → List (List Nat)
  | 0, _ => []
  | c + 1, x => if x ∈ p then rwX F p c (x + 1) else F (p ++ [x]) ++ rwX F p c (x + 1)
/-- the rows that begin so, d more to be set -/
def rwF (n : Nat) : Nat → List Nat → List (List Nat)
  | 0, p => [p]
  | d + 1, p => rwX (rwF n d) p n 0
def swN (g : Nat → Nat) (i j : Nat) : Nat → Nat := fun k => if k = j then g i else if k = i then g j else g k
def kF (g : Nat → Nat) : Nat → Nat
  | 0 => 0
  | i + 1 => if g i ≤ g (i + 1) then i + 1 else kF g i
def jF (g : Nat → Nat) (i : Nat) : Nat → Nat
  | 0 => 0
  | j + 1 => if j + 1 ≤ i then j + 1 else if g i ≤ g (j + 1) then j + 1 else jF g i j
def rvF : Nat → Nat → Nat → (Nat → Nat) → (Nat → Nat)
  | 0, _, _, g => g
  | d + 1, lo, hi, g => if hi ≤ lo then g else rvF d (lo + 1) (hi - 1) (swN g lo hi)
/-- the row after g -/
def nxN (n : Nat) (g : Nat → Nat) : Nat → Nat := if kF g (n - 1) = 0 then g else rvF n (kF g (n - 1)) (n - 1) (swN g (kF g (n - 1) - 1) (jF g (kF g (n - 1) - 1) (n - 1)))
def nxC (n : Nat) : List (List Nat) → Bool
  | a :: b :: t => (List.range n).all (fun k => nxN n (toF a) k == toF b k) && nxC n (b :: t)
  | _ => true
def rowN (g : Nat → Nat) (n : Nat) : Nat → Nat → Nat → Bool
  | 0, _, _ => true
  | d + 1, k, a => decide (g k < n) && !(a.testBit (g k)) && rowN g n d (k + 1) (a ||| 2 ^ g k)
def fcN : Nat → Nat
  | 0 => 1
  | n + 1 => fcN n * (n + 1)
def pm (n : Nat) : List (List Nat) := rwF n n []
def pmC (n : Nat) : Bool := (pm n).all (fun r => r.length == n && rowN (toF r) n n 0 0) && nxC n (pm n) && (pm n).length == fcN n && (match pm n with
  | r :: _ => (List.range n).all (fun k => toF r k == k)
  | [] => false)
theorem pmC_ok : ∀ n, n < 6 → n ≠ 0 → pmC n = true := by decide +kernel
theorem fcN_le : ∀ n, n < 6 → fcN n ≤ 120 := by decide
/-- what a row must be -/
def rwP (n : Nat) (r : List Nat) : Prop := r.length = n ∧ rowN (toF r) n n 0 0 = true
theorem pm_all {n : Nat} (h : n < 6) (h0 : n ≠ 0) : ∀ r, r ∈ pm n → rwP n r := by
  intro r hr
  have := pmC_ok n h h0
  unfold pmC at this
  simp only [Bool.and_eq_true, List.all_eq_true, beq_iff_eq] at this
  exact this.1.1.1 r hr
theorem pm_nx {n : Nat} (h : n < 6) (h0 : n ≠ 0) : nxC n (pm n) = true := by
  have := pmC_ok n h h0
  unfold pmC at this
  simp only [Bool.and_eq_true] at this
  exact this.1.1.2
theorem pm_len {n : Nat} (h : n < 6) (h0 : n ≠ 0) : (pm n).length = fcN n := by
  have := pmC_ok n h h0
  unfold pmC at this
  simp only [Bool.and_eq_true, beq_iff_eq] at this
  exact this.1.2
theorem pm_hd {n : Nat} (h : n < 6) (h0 : n ≠ 0) : ∃ r rest, pm n = r :: rest ∧ ∀ k, k < n → toF r k = k := by
  have := pmC_ok n h h0
  unfold pmC at this
  rw [Bool.and_eq_true] at this
  have h2 := this.2
  cases e : pm n with
  | nil => rw [e] at h2; exact absurd (show false = true from h2) (by decide)
  | cons r rest =>
    rw [e] at h2
    refine ⟨r, rest, rfl, fun k hk => ?_⟩
    have h3 : (List.range n).all (fun k => toF r k == k) = true := h2
    rw [List.all_eq_true] at h3
    exact beq_iff_eq.mp (h3 k (List.mem_range.mpr hk))
theorem rowN_M {g : Nat → Nat} {n : Nat} (hn : n ≤ 7) : ∀ (d k a : Nat), rowN g n d k a = true → rowM (fun i => nI (g i)) n d k a
  | 0, _, _, _ => trivial
  | d + 1, k, a, h => by
    have h : (decide (g k < n) && !(a.testBit (g k)) && rowN g n d (k + 1) (a ||| 2 ^ g k)) = true := h
    rw [Bool.and_eq_true, Bool.and_eq_true, decide_eq_true_iff] at h
    obtain ⟨⟨h1, h2⟩, h3⟩ := h
    have ei : ix (nI (g k)) = g k := nI_clamp (by omega)
    refine ⟨⟨nI_pos' (by omega), by rw [nI_ltI (by omega) (by omega)]; exact h1⟩, ?_, ?_⟩
    · show ¬ a.testBit (ix (nI (g k))) = true
      rw [ei]
      intro z
      rw [z] at h2
      exact absurd h2 (by decide)
    · show rowM (fun i => nI (g i)) n d (k + 1) (a ||| 2 ^ ix (nI (g k)))
      rw [ei]; exact rowN_M hn d (k + 1) _ h3
theorem rowN_lt {g : Nat → Nat} {n : Nat} : ∀ (d k a : Nat), rowN g n d k a = true → ∀ j, k ≤ j → j < k + d → g j < n
  | 0, _, _, _, j, h1, h2 => absurd h2 (by omega)
  | d + 1, k, a, h, j, h1, h2 => by
    have h : (decide (g k < n) && !(a.testBit (g k)) && rowN g n d (k + 1) (a ||| 2 ^ g k)) = true := h
    rw [Bool.and_eq_true, Bool.and_eq_true, decide_eq_true_iff] at h
    by_cases e : j = k
    · rw [e]; exact h.1.1
    · exact rowN_lt d (k + 1) _ h.2 j (by omega) (by omega)
theorem rwP.lt {n : Nat} {r : List Nat} (h : rwP n r) {k : Nat} (hk : k < n) : toF r k < n := rowN_lt n 0 0 h.2 k (Nat.zero_le _) (by omega)
theorem nxC_tl {n : Nat} {a : List Nat} {l : List (List Nat)} (h : nxC n (a :: l) = true) : nxC n l = true := by
  cases l with
  | nil => rfl
  | cons b t =>
    have h : ((List.range n).all (fun k => nxN n (toF a) k == toF b k) && nxC n (b :: t)) = true := h
    rw [Bool.and_eq_true] at h
    exact h.2
theorem nxC_hd {n : Nat} {a b : List Nat} {l : List (List Nat)} (h : nxC n (a :: b :: l) = true) {k : Nat} (hk : k < n) : nxN n (toF a) k = toF b k := by
  have h : ((List.range n).all (fun k => nxN n (toF a) k == toF b k) && nxC n (b :: l)) = true := h
  rw [Bool.and_eq_true, List.all_eq_true] at h
  exact beq_iff_eq.mp (h.1 k (List.mem_range.mpr hk))
/-- the best of the rows -/
noncomputable def bsF (T : List Nat → Int32) : List (List Nat) → Int32 × List Nat → Int32 × List Nat
  | [], z => z
  | r :: l, z => bsF T l (cif (z.1 ≤ T r) z (T r, r))
section BestC
variable {I R : am_M} {P : am_Q} {nx sl : Nat} {w : am_M} {t : Nat → Nat → List Nat} {m nb ns ne : Nat}
theorem x_swap (hS : SP P) {n i j : Nat} {g : Nat → Nat} (hn : n ≤ 5) (hi : i < n) (hj : j < n) (hR : ∀ k, k < n → R 309 k = nI (g k)) : ∃ R', fH_swap P (am_pk 308 0 3) (nI i) (nI j) (put I R) = some (put I R') ∧ (∀ k, k < n → R' 309 k = nI (swN g i j k)) ∧ ∀ c, c ≠ 309 → R' c = R c := by
  refine ⟨am_up (am_up R 309 i (nI (g j))) 309 j (nI (g i)), ?_, fun k hk => ?_, fun c hc => by funext k; rw [am_up_ne hc, am_up_ne hc]⟩
  · unfold fH_swap
    rw [sm_ck_pos (am_t_pk (by decide)), sp_308_1 hS, sm_ck_pos (sm_in_nI (by decide) (by omega)), nI_clamp (show i < 2 ^ 31 by omega), nI_clamp (show j < 2 ^ 31 by omega), put_rd sc_309, hR i hi, bd_eq, sm_ck_pos (sm_in_nI (by decide) (by omega)), sm_ck_pos (sm_iw_nI (by decide) (by decide) (by omega)), put_rd sc_309, hR j hj, put_up sc_309, bd_eq, sm_ck_pos (sm_iw_nI (by decide) (by decide) (by omega)), put_up sc_309, bd_eq]
  · unfold swN
    by_cases e : k = j
    · rw [if_pos e, e, am_up_eq]
    · rw [if_neg e, am_up_nk e]
      by_cases e2 : k = i
      · rw [if_pos e2, e2, am_up_eq]
      · rw [if_neg e2, am_up_nk e2]; exact hR k hk
theorem x_nx1 (hS : SP P) {n : Nat} {g : Nat → Nat} {l1 : Int32} (hn : n ≤ 5) (hg : ∀ k, k < n → g k < n) (hR : ∀ k, k < n → R 309 k = nI (g k)) {ex : Nat → Int32 → Int32 → am_M → Option am_M} : ∀ (i fu : Nat), i < fu → i < n → fH_nextRow_L4 P ex fu (am_pk 308 0 3) l1 (nI i + (-1)) (put I R) = ex (am_pk 308 0 3) l1 (nI (kF g i) + (-1)) (put I R)
  | 0, fu, h1, h2 => by
    obtain ⟨fu, rfl⟩ : ∃ n', fu = n' + 1 := ⟨fu - 1, by omega⟩
    show fH_nextRow_B4 _ _ _ _ _ _ _ = _
    unfold fH_nextRow_B4
    rw [if_pos nI_dm1]
    rfl
  | i + 1, fu, h1, h2 => by
    obtain ⟨fu, rfl⟩ : ∃ n', fu = n' + 1 := ⟨fu - 1, by omega⟩
    have a1 := hg i (by omega)
    have a2 := hg (i + 1) h2
    show fH_nextRow_B4 _ _ _ _ _ _ _ = ex _ _ (nI (if g i ≤ g (i + 1) then i + 1 else kF g i) + (-1)) _
    unfold fH_nextRow_B4
    rw [pk_m1, if_neg (nI_pos (by omega)), sm_ck_pos (am_t_pk (by decide)), sp_308_1 hS, nI_1, nI_clamp (show i < 2 ^ 31 by omega), nI_clamp (show i + 1 < 2 ^ 31 by omega), put_rd sc_309, put_rd sc_309, hR i (by omega), hR (i + 1) h2, sm_ck_pos (sm_in_nI (by decide) (by omega)), sm_ck_pos (sm_in_nI (by decide) (by omega)), bd_eq]
    by_cases q : g i ≤ g (i + 1)
    · rw [if_pos q, if_pos (by rw [nI_leI (by omega) (by omega)]; exact q), pk_m1]
    · rw [if_neg q, if_neg (by rw [nI_leI (by omega) (by omega)]; exact q)]
      exact x_nx1 hS hn hg hR i fu (by omega) (by omega)
theorem x_nx2 (hS : SP P) {n i : Nat} {g : Nat → Nat} {l1 : Int32} (hn : n ≤ 5) (hi : i < n) (hg : ∀ k, k < n → g k < n) (hR : ∀ k, k < n → R 309 k = nI (g k)) {ex : Nat → Int32 → Int32 → Int32 → am_M → Option am_M} : ∀ (j fu : Nat), j < fu → j < n → fH_nextRow_L40 P ex fu (am_pk 308 0 3) l1 (nI i) (nI j) (put I R) = ex (am_pk 308 0 3) l1 (nI i) (nI (jF g i j)) (put I R)
  | 0, fu, h1, h2 => by
    obtain ⟨fu, rfl⟩ : ∃ n', fu = n' + 1 := ⟨fu - 1, by omega⟩
    show fH_nextRow_B40 _ _ _ _ _ _ _ _ = _
    unfold fH_nextRow_B40
    rw [if_pos (by rw [nI_leI (by omega) (by omega)]; omega)]
    rfl
  | j + 1, fu, h1, h2 => by
    obtain ⟨fu, rfl⟩ : ∃ n', fu = n' + 1 := ⟨fu - 1, by omega⟩
    have a1 := hg i hi
    have a2 := hg (j + 1) h2
    show fH_nextRow_B40 _ _ _ _ _ _ _ _ = ex _ _ _ (nI (if j + 1 ≤ i then j + 1 else if g i ≤ g (j + 1) then j + 1 else jF g i j)) _
    unfold fH_nextRow_B40
    by_cases q1 : j + 1 ≤ i
    · rw [if_pos q1, if_pos (by rw [nI_leI (by omega) (by omega)]; exact q1)]
    · rw [if_neg q1, if_neg (by rw [nI_leI (by omega) (by omega)]; exact q1), sm_ck_pos (am_t_pk (by decide)), sp_308_1 hS, nI_clamp (show i < 2 ^ 31 by omega), nI_clamp (show j + 1 < 2 ^ 31 by omega), put_rd sc_309, put_rd sc_309, hR i hi, hR (j + 1) h2, sm_ck_pos (sm_in_nI (by decide) (by omega)), sm_ck_pos (sm_in_nI (by decide) (by omega)), bd_eq, pk_m1]
      by_cases q : g i ≤ g (j + 1)
      · rw [if_pos q, if_pos (by rw [nI_leI (by omega) (by omega)]; exact q)]
      · rw [if_neg q, if_neg (by rw [nI_leI (by omega) (by omega)]; exact q)]
        exact x_nx2 hS hn hi hg hR j fu (by omega) (by omega)
theorem x_nx3 (hS : SP P) {n : Nat} (hn : n ≤ 5) : ∀ (d lo hi fu : Nat) (g : Nat → Nat) (R : am_M), d < fu → hi ≤ lo + d → hi < n → lo ≤ n → (∀ k, k < n → R 309 k = nI (g k)) → ∃ R', fH_nextRow_L82 P (fun I => some I) fu (am_pk 308 0 3) (nI lo) (nI hi) (put I R) = some (put I R') ∧ (∀ k, k < n → R' 309 k = nI (rvF d lo hi g k)) ∧ ∀ c, c ≠ 309 → R' c = R c
  | 0, lo, hi, fu, g, R, h1, h2, h3, h4, hR => by
    obtain ⟨fu, rfl⟩ : ∃ n', fu = n' + 1 := ⟨fu - 1, by omega⟩
    refine ⟨R, ?_, hR, fun _ _ => rfl⟩
    show fH_nextRow_B82 _ _ _ _ _ _ _ = _
    unfold fH_nextRow_B82
    rw [if_pos (by rw [nI_leI (by omega) (by omega)]; omega)]
  | d + 1, lo, hi, fu, g, R, h1, h2, h3, h4, hR => by
    obtain ⟨fu, rfl⟩ : ∃ n', fu = n' + 1 := ⟨fu - 1, by omega⟩
    show ∃ R', fH_nextRow_B82 _ _ _ _ _ _ _ = some (put I R') ∧ (∀ k, k < n → R' 309 k = nI ((if hi ≤ lo then g else rvF d (lo + 1) (hi - 1) (swN g lo hi)) k)) ∧ _
    unfold fH_nextRow_B82
    by_cases q : hi ≤ lo
    · rw [if_pos q, if_pos (by rw [nI_leI (by omega) (by omega)]; exact q)]
      exact ⟨R, rfl, hR, fun _ _ => rfl⟩
    · rw [if_neg q, if_neg (by rw [nI_leI (by omega) (by omega)]; exact q)]
      obtain ⟨h', rfl⟩ : ∃ h', hi = h' + 1 := ⟨hi - 1, by omega⟩
      obtain ⟨R1, y1, y2, y3⟩ := x_swap (I := I) hS hn (show lo < n by omega) h3 hR
      obtain ⟨R', z1, z2, z3⟩ := x_nx3 hS hn d (lo + 1) h' fu (swN g lo (h' + 1)) R1 (by omega) (by omega) (by omega) (by omega) y2
      refine ⟨R', ?_, z2, fun c hc => by rw [z3 c hc, y3 c hc]⟩
      rw [sm_ck_pos (am_t_pk (by decide)), y1, Option.bind_some, bd_eq, bd_eq, nI_1, pk_m1]
      exact z1
theorem kF_le {g : Nat → Nat} : ∀ (i : Nat), kF g i ≤ i
  | 0 => Nat.le_refl _
  | i + 1 => by
    show (if g i ≤ g (i + 1) then i + 1 else kF g i) ≤ i + 1
    split
    · exact Nat.le_refl _
    · have := kF_le (g := g) i; omega
theorem jF_le {g : Nat → Nat} {i : Nat} : ∀ (j : Nat), jF g i j ≤ j
  | 0 => Nat.le_refl _
  | j + 1 => by
    show (if j + 1 ≤ i then j + 1 else if g i ≤ g (j + 1) then j + 1 else jF g i j) ≤ j + 1
    split
    · exact Nat.le_refl _
    · split
      · exact Nat.le_refl _
      · have := jF_le (g := g) (i := i) j; omega
theorem x_next (hS : SP P) {n : Nat} {g : Nat → Nat} (h0 : 1 ≤ n) (hn : n ≤ 5) (hg : ∀ k, k < n → g k < n) (hR : ∀ k, k < n → R 309 k = nI (g k)) : ∃ R', fH_nextRow P (am_pk 308 0 3) (nI n) (put I R) = some (put I R') ∧ (∀ k, k < n → R' 309 k = nI (nxN n g k)) ∧ ∀ c, c ≠ 309 → R' c = R c := by
  obtain ⟨p, rfl⟩ : ∃ p, n = p + 1 := ⟨n - 1, by omega⟩
  have e2 : nI (p + 1) - 2 = nI p + (-1) := by
    rw [show (2 : Int32) = 1 + 1 from rfl, ← Int32.sub_sub, ← nI_dm, pk_m1, ← nI_dm]
  have e1 : nI (p + 1) - 1 = nI p := by rw [← nI_dm, pk_m1]
  have hk := kF_le (g := g) p
  have r1 := x_nx1 (I := I) hS (l1 := nI (p + 1)) hn hg hR (ex := fun l0 l1 l2 I => fH_nextRow_J31 P l0 l1 l2 I) p sm_fu (sm_fu_lt (by omega)) (by omega)
  have hN : ∀ k, nxN (p + 1) g k = (if kF g p = 0 then g else rvF (p + 1) (kF g p) p (swN g (kF g p - 1) (jF g (kF g p - 1) p))) k := fun k => rfl
  by_cases z : kF g p = 0
  · refine ⟨R, ?_, fun k hk => by rw [hN, if_pos z]; exact hR k hk, fun _ _ => rfl⟩
    unfold fH_nextRow
    rw [bd_eq, e2]
    refine Eq.trans r1 ?_
    unfold fH_nextRow_J31
    rw [z, if_neg (i_nle.mpr nI_dm1)]
  · obtain ⟨i, hi⟩ : ∃ i, kF g p = i + 1 := ⟨kF g p - 1, by omega⟩
    have hj := jF_le (g := g) (i := i) p
    have r2 := x_nx2 (I := I) hS (l1 := nI (p + 1)) (i := i) hn (by omega) hg hR (ex := fun l0 l1 l2 l3 I => fH_nextRow_J66 P l0 l1 l2 l3 I) p sm_fu (sm_fu_lt (by omega)) (by omega)
    obtain ⟨R1, y1, y2, y3⟩ := x_swap (I := I) hS hn (show i < p + 1 by omega) (show jF g i p < p + 1 by omega) hR
    obtain ⟨R2, z1, z2, z3⟩ := x_nx3 (I := I) hS hn (p + 1) (i + 1) p sm_fu _ R1 (sm_fu_lt (by omega)) (by omega) (by omega) (by omega) y2
    refine ⟨R2, ?_, fun k hk => by rw [hN, if_neg z, hi]; exact z2 k hk, fun c hc => by rw [z3 c hc, y3 c hc]⟩
    unfold fH_nextRow
    rw [bd_eq, e2]
    refine Eq.trans r1 ?_
    unfold fH_nextRow_J31
    rw [hi, pk_m1, if_pos (nI_pos' (by omega)), e1, bd_eq]
    refine Eq.trans r2 ?_
    unfold fH_nextRow_J66
    rw [sm_ck_pos (am_t_pk (by decide)), y1, Option.bind_some, nI_1, bd_eq, e1, bd_eq]
    exact z1
theorem frPC.tr {P P' P'' : am_Q} (h : frPC P P') (h2 : frPC P' P'') : frPC P P'' := ⟨fun a k ha => (h2.1 a k ha).trans (h.1 a k ha), fun c c1 c2 => (h2.2 c c1 c2).trans (h.2 c c1 c2)⟩
theorem frPC.rfl {P : am_Q} : frPC P P := ⟨fun _ _ _ => _root_.rfl, fun _ _ _ => _root_.rfl⟩
noncomputable def orW (w : am_M) (nb : Nat) (r : List Nat) : am_M := ordA w nb (fun i => nI (toF r i))
noncomputable def orT (w : am_M) (t : Nat → Nat → List Nat) (m nb ns ne : Nat) (r : List Nat) : Int32 := offF (orW w nb r) t m nb ns ne
theorem x_bsL (hA : apok I) (h1 : 1 ≤ nb) (h5 : nb ≤ 5) {k0 N : Nat} (hk0 : k0 < 2000) (ek : w 0 1 = nI k0) (hN : N ≤ 120) : ∀ (l : List (List Nat)) (fu v : Nat) (b : Int32) (br : List Nat) (R : am_M) (P : am_Q), l.length < fu → v + l.length = N → SP P → LB P nx → CW I R P 7 w t m nb ns ne → nxC nb l = true → (∀ r, r ∈ l → rwP nb r) → (∀ r rest, l = r :: rest → ∀ k, k < nb → R 309 k = nI (toF r k)) → (br ≠ [] → ∀ k, k < nb → R 310 k = nI (toF br k)) → ∃ R' P', fH_findBest_L52 (fun l5 I P nx sl => some (l5, I, P, nx, sl)) fu (am_pk 308 0 3) (am_pk 7 0 11) (am_pk 36 0 11) (nI nb) (nI N) b (nI v) (put I R) P nx sl = some ((bsF (orT w t m nb ns ne) l (b, br)).1, put I R', P', nx, sl) ∧ ((bsF (orT w t m nb ns ne) l (b, br)).2 ≠ [] → ∀ k, k < nb → R' 310 k = nI (toF (bsF (orT w t m nb ns ne) l (b, br)).2 k)) ∧ SP P' ∧ LB P' nx ∧ frX R R' ∧ frPC P P'
  | [], fu, v, b, br, R, P, hf, hv, hS, hL, h, hx, hr, h9, h10 => by
    obtain ⟨fu, rfl⟩ : ∃ n', fu = n' + 1 := ⟨fu - 1, by omega⟩
    have hv : v = N := hv
    refine ⟨R, P, ?_, h10, hS, hL, fun _ _ _ _ _ => rfl, frPC.rfl⟩
    show fH_findBest_B52 _ _ _ _ _ _ _ _ _ _ _ _ _ = _
    unfold fH_findBest_B52
    rw [if_pos (by rw [nI_leI (by omega) (by omega)]; omega)]
    rfl
  | r :: l, fu, v, b, br, R, P, hf, hv, hS, hL, h, hx, hr, h9, h10 => by
    obtain ⟨fu, rfl⟩ : ∃ n', fu = n' + 1 := ⟨fu - 1, by omega⟩
    have hle := h.le
    have hf : l.length + 1 < fu + 1 := hf
    have hv : v + (l.length + 1) = N := hv
    have hrp := hr r (List.mem_cons_self ..)
    have e9 := h9 r l rfl
    obtain ⟨R1, P1, x1, x2, x3, x4, x5, x6⟩ := x_side (nx := nx) (sl := sl) hS hL h
    have e91 : ∀ k, k < nb → R1 309 k = nI (toF r k) := fun k hk => by rw [x5 309 (by decide) (by decide) (by decide)]; exact e9 k hk
    have c2 : CW I (am_set R1 (36 + 3) (va_cpy (R1 309) (R1 (36 + 3)) 0 0 nb)) P1 36 (orW w nb r) t m nb ns ne := by
      refine ordA_C x2 (rowN_M (by omega) nb 0 0 hrp.2) (fun c hc => am_setne hc) (fun i hi => ?_)
      rw [am_set_eq, pk_cpy_in (by omega) (by omega), show 0 + (i - 0) = i by omega]
      exact e91 i hi
    obtain ⟨R3, y1, y2, y3⟩ := x_pass x3 hA c2 ⟨k0, hk0, hrs_01.trans ((ordA_r (by decide)).trans ek)⟩
    have y1' : fH_pass P1 (am_pk 308 0 3) (am_pk 36 0 11) (put I (am_set R1 (36 + 3) (va_cpy (R1 309) (R1 (36 + 3)) 0 0 nb))) = some (orT w t m nb ns ne r, put I R3) := y1
    have f3 : ∀ c, (c < 36 ∨ 94 ≤ c) → c ≠ 305 → c ≠ 307 → R3 c = R c := fun c a1 a2 a3 => by
      rw [y3 c (by omega) a3, am_setne (by omega), x5 c a1 a2 a3]
    have J : ∀ (R4 : am_M) (b4 : Int32) (br4 : List Nat), (∀ c, c ≠ 310 → R4 c = R3 c) → (br4 ≠ [] → ∀ k, k < nb → R4 310 k = nI (toF br4 k)) → ∃ R' P', fH_findBest_J110 (fH_findBest_L52 (fun l5 I P nx sl => some (l5, I, P, nx, sl)) fu) (am_pk 308 0 3) (am_pk 7 0 11) (am_pk 36 0 11) (nI nb) (nI N) b4 (nI v) (put I R4) P1 nx sl = some ((bsF (orT w t m nb ns ne) l (b4, br4)).1, put I R', P', nx, sl) ∧ ((bsF (orT w t m nb ns ne) l (b4, br4)).2 ≠ [] → ∀ k, k < nb → R' 310 k = nI (toF (bsF (orT w t m nb ns ne) l (b4, br4)).2 k)) ∧ SP P' ∧ LB P' nx ∧ frX R R' ∧ frPC P P' := by
      intro R4 b4 br4 g1 g2
      obtain ⟨R5, z1, z2, z3⟩ := x_next (I := I) (R := R4) x3 h1 h5 (fun k hk => hrp.lt hk) (fun k hk => by rw [g1 309 (by decide), f3 309 (by decide) (by decide) (by decide)]; exact e9 k hk)
      have f5 : ∀ c, (c < 36 ∨ 94 ≤ c) → c ≠ 305 → c ≠ 307 → (c < 308 ∨ 320 ≤ c) → R5 c = R c := fun c a1 a2 a3 a4 => by rw [z3 c (by omega), g1 c (by omega), f3 c a1 a2 a3]
      have c5 : CW I R5 P1 7 w t m nb ns ne := h.keep hL (fun c a1 a2 => f5 c (by omega) (by omega) (by omega) (by omega)) (fun c hc => f5 c (by omega) (by omega) (by omega) (by omega)) (fun a k ha _ => x6.1 a k ha) (fun i hi => x6.2 _ (by omega) (by omega)) frJ.rfl
      obtain ⟨R', P', s1, s2, s3, s4, s5, s6⟩ := x_bsL hA h1 h5 hk0 ek hN l fu (v + 1) b4 br4 R5 P1 (by omega) (by omega) x3 x4 c5 (nxC_tl hx) (fun r' hr' => hr r' (List.mem_cons_of_mem _ hr')) (fun r' rest e k hk => by
        subst e
        rw [z2 k hk, nxC_hd hx hk]) (fun hb k hk => by rw [z3 310 (by decide)]; exact g2 hb k hk)
      refine ⟨R', P', ?_, s2, s3, s4, fun c a1 a2 a3 a4 => by rw [s5 c a1 a2 a3 a4, f5 c a1 a2 a3 a4], x6.tr s6⟩
      unfold fH_findBest_J110
      rw [sm_ck_pos (am_t_pk (by decide)), z1, Option.bind_some, bd_eq, nI_1]
      exact s1
    show ∃ R' P', fH_findBest_B52 _ _ _ _ _ _ _ _ _ _ _ _ _ = some ((bsF (orT w t m nb ns ne) l (cif (b ≤ orT w t m nb ns ne r) (b, br) (orT w t m nb ns ne r, r))).1, put I R', P', nx, sl) ∧ ((bsF (orT w t m nb ns ne) l (cif (b ≤ orT w t m nb ns ne r) (b, br) (orT w t m nb ns ne r, r))).2 ≠ [] → ∀ k, k < nb → R' 310 k = nI (toF (bsF (orT w t m nb ns ne) l (cif (b ≤ orT w t m nb ns ne r) (b, br) (orT w t m nb ns ne r, r))).2 k)) ∧ _
    unfold fH_findBest_B52
    rw [if_neg (by rw [nI_leI (by omega) (by omega)]; omega), sm_ck_pos (am_t_pk (by decide)), sm_ck_pos (am_t_pk (by decide)), x1, Option.bind_some]
    dsimp only
    rw [sm_ck_pos (am_t_pk (by decide)), sp_308_1 x3, sp_308_2 x3, sp_w11 x3 W36, ck_cp (by decide) (by decide) (by omega) (by omega) (by decide) (by decide), cl_0, nI_clamp (show nb < 2 ^ 31 by omega), put_rd' sc_309, put_rd' (sc_w3 W36), put_set (sc_w3 W36), bd_eq, y1', Option.bind_some]
    dsimp only
    by_cases q : b ≤ orT w t m nb ns ne r
    · rw [if_pos q, cif_t q]
      exact J R3 b br (fun _ _ => rfl) (fun hb k hk => by rw [f3 310 (by decide) (by decide) (by decide)]; exact h10 hb k hk)
    · rw [if_neg q, cif_f q, ck_cp (by decide) (by decide) (by omega) (by omega) (by decide) (by decide), put_rd' sc_309, put_rd' sc_310, put_set sc_310, bd_eq]
      refine J _ _ _ (fun c hc => am_setne hc) (fun _ k hk => ?_)
      rw [am_set_eq, pk_cpy_in (by omega) (by omega), show 0 + (k - 0) = k by omega, f3 309 (by decide) (by decide) (by decide)]
      exact e9 k hk
theorem x_bs15 (hS : SP P) (h5 : nb ≤ 5) {ex : Nat → Nat → Nat → Int32 → Int32 → am_M → am_Q → Nat → Nat → Option (Int32 × am_S)} : ∀ (d i fu : Nat) (R : am_M), d < fu → i + d = nb → (∀ k, k < i → R 309 k = nI k) → ∃ R', fH_findBest_L15 ex fu (am_pk 308 0 3) (am_pk 7 0 11) (am_pk 36 0 11) (nI nb) (nI (fcN i)) (nI i) (put I R) P nx sl = ex (am_pk 308 0 3) (am_pk 7 0 11) (am_pk 36 0 11) (nI nb) (nI (fcN nb)) (put I R') P nx sl ∧ (∀ k, k < nb → R' 309 k = nI k) ∧ ∀ c, c ≠ 309 → R' c = R c
  | 0, i, fu, R, h1, h2, h3 => by
    obtain ⟨fu, rfl⟩ : ∃ n', fu = n' + 1 := ⟨fu - 1, by omega⟩
    have e : i = nb := by omega
    subst e
    refine ⟨R, ?_, h3, fun _ _ => rfl⟩
    show fH_findBest_B15 _ _ _ _ _ _ _ _ _ _ _ _ = _
    unfold fH_findBest_B15
    rw [if_pos (by rw [nI_leI (by omega) (by omega)]; omega)]
  | d + 1, i, fu, R, h1, h2, h3 => by
    obtain ⟨fu, rfl⟩ : ∃ n', fu = n' + 1 := ⟨fu - 1, by omega⟩
    obtain ⟨R', y1, y2, y3⟩ := x_bs15 hS h5 (ex := ex) d (i + 1) fu (am_up R 309 i (nI i)) (by omega) (by omega) (fun k hk => by
      by_cases e : k = i
      · rw [e, am_up_eq]
      · rw [am_up_nk e]; exact h3 k (by omega))
    refine ⟨R', ?_, y2, fun c hc => by rw [y3 c hc]; funext k; rw [am_up_ne hc]⟩
    show fH_findBest_B15 _ _ _ _ _ _ _ _ _ _ _ _ = _
    unfold fH_findBest_B15
    rw [if_neg (by rw [nI_leI (by omega) (by omega)]; omega), sm_ck_pos (am_t_pk (by decide)), sp_308_1 hS, sm_ck_pos (sm_iw_nI (by decide) (by decide) (by omega)), nI_clamp (show i < 2 ^ 31 by omega), put_up sc_309, bd_eq, nI_1, bd_eq, bd_eq, pk_mul]
    exact y1
theorem x_best (hA : apok I) (hS : SP P) (hL : LB P nx) (h : CW I R P 7 w t m nb ns ne) (h1 : 1 ≤ nb) (h5 : nb ≤ 5) {k0 : Nat} (hk0 : k0 < 2000) (ek : w 0 1 = nI k0) : ∃ R' P', fH_findBest (am_pk 308 0 3) (am_pk 7 0 11) (am_pk 36 0 11) (put I R) P nx sl = some ((bsF (orT w t m nb ns ne) (pm nb) (1000000, [])).1, put I R', P', nx, sl) ∧ ((bsF (orT w t m nb ns ne) (pm nb) (1000000, [])).2 ≠ [] → ∀ k, k < nb → R' 310 k = nI (toF (bsF (orT w t m nb ns ne) (pm nb) (1000000, [])).2 k)) ∧ SP P' ∧ LB P' nx ∧ frX R R' ∧ frPC P P' := by
  have hle := h.le
  have hfc := fcN_le nb (by omega)
  obtain ⟨r0, rest, e0, hr0⟩ := pm_hd (n := nb) (by omega) (by omega)
  obtain ⟨R1, y1, y2, y3⟩ := x_bs15 (I := I) (nx := nx) (sl := sl) hS h5 (ex := fun l0 l1 l2 l3 l4 I P nx sl => fH_findBest_L52 (fun l5 I P nx sl => some (l5, I, P, nx, sl)) sm_fu l0 l1 l2 l3 l4 1000000 0 I P nx sl) nb 0 sm_fu R (sm_fu_lt (by omega)) (by omega) (fun k hk => absurd hk (Nat.not_lt_zero _))
  have c1 : CW I R1 P 7 w t m nb ns ne := h.fr (fun c a1 a2 => y3 c (by omega)) (fun c hc => y3 c (by omega))
  obtain ⟨R', P', z1, z2, z3, z4, z5, z6⟩ := x_bsL (nx := nx) (sl := sl) hA h1 h5 hk0 ek hfc (pm nb) sm_fu 0 1000000 [] R1 P (by rw [pm_len (by omega) (by omega)]; exact sm_fu_lt (by omega)) (by rw [pm_len (by omega) (by omega)]; omega) hS hL c1 (pm_nx (by omega) (by omega)) (pm_all (by omega) (by omega)) (fun r rs e k hk => by
    rw [e0] at e
    injection e with e1 e2
    rw [← e1, hr0 k hk]; exact y2 k hk) (fun z => absurd rfl z)
  refine ⟨R', P', ?_, z2, z3, z4, fun c a1 a2 a3 a4 => by rw [z5 c a1 a2 a3 a4, y3 c (by omega)], z6⟩
  unfold fH_findBest
  have em : sm_min (nI nb) 5 = nI nb := by
    unfold sm_min
    rw [if_neg (by rw [show (5 : Int32) = nI 5 from rfl, nI_ltI (by decide) (by omega)]; omega)]
  rw [sm_ck_pos (am_t_pk (by decide)), put_rd (sc_w0 h.1), h.c6, em, bd_eq]
  exact y1.trans z1
end BestC
