/-! ===== reading a text: the reference ===== -/
def skF (b : Nat → Nat) : Nat → Nat → Nat
  | 0, h => h
  | d + 1, h => if b h = 32 then skF b d (h + 1) else h
/-- the first place from h on that holds no blank -/
def skP (b : Nat → Nat) (n h : Nat) : Nat := skF b (n - h) h
theorem skF_s {b : Nat → Nat} : ∀ (d h : Nat), h ≤ skF b d h ∧ skF b d h ≤ h + d ∧ (∀ k, h ≤ k → k < skF b d h → b k = 32) ∧ (skF b d h < h + d → b (skF b d h) ≠ 32)
  | 0, h => ⟨Nat.le_refl _, Nat.le_refl _, fun k h1 h2 => absurd (show k < h from h2) (by omega), fun z => absurd (show h < h + 0 from z) (by omega)⟩
  | d + 1, h => by
    show h ≤ (if b h = 32 then skF b d (h + 1) else h) ∧ (if b h = 32 then skF b d (h + 1) else h) ≤ h + (d + 1) ∧ (∀ k, h ≤ k → k < (if b h = 32 then skF b d (h + 1) else h) → b k = 32) ∧ ((if b h = 32 then skF b d (h + 1) else h) < h + (d + 1) → b (if b h = 32 then skF b d (h + 1) else h) ≠ 32)
    by_cases q : b h = 32
    · rw [if_pos q]
      obtain ⟨i1, i2, i3, i4⟩ := skF_s (b := b) d (h + 1)
      refine ⟨by omega, by omega, fun k h1 h2 => ?_, fun z => i4 (by omega)⟩
      by_cases e : k = h
      · rw [e]; exact q
      · exact i3 k (by omega) h2
    · rw [if_neg q]
      exact ⟨Nat.le_refl _, by omega, fun k h1 h2 => absurd h2 (by omega), fun _ => q⟩
theorem skP_s {b : Nat → Nat} {n h : Nat} (hn : h ≤ n) : h ≤ skP b n h ∧ skP b n h ≤ n ∧ (∀ k, h ≤ k → k < skP b n h → b k = 32) ∧ (skP b n h < n → b (skP b n h) ≠ 32) := by
  obtain ⟨i1, i2, i3, i4⟩ := skF_s (b := b) (n - h) h
  exact ⟨i1, by unfold skP; omega, i3, fun z => i4 (by unfold skP at z; omega)⟩
theorem skP_i {b : Nat → Nat} {n h : Nat} (hn : h ≤ n) : skP b n (skP b n h) = skP b n h := by
  obtain ⟨i1, i2, i3, i4⟩ := skP_s (b := b) hn
  obtain ⟨j1, j2, j3, j4⟩ := skP_s (b := b) (n := n) (h := skP b n h) i2
  by_cases q : skP b n (skP b n h) = skP b n h
  · exact q
  · exact absurd (j3 (skP b n h) (Nat.le_refl _) (by omega)) (i4 (by omega))
/-- the same run -/
def RC (b : Nat → Nat) (n i : Nat) (S : PS) (j : Nat) (S' : PS) : Prop := i ≤ j ∧ j ≤ n ∧ rnF b (n - i) i S = rnF b (n - j) j S'
theorem RC.re {b : Nat → Nat} {n i : Nat} {S : PS} (h : i ≤ n) : RC b n i S i S := ⟨Nat.le_refl _, h, _root_.rfl⟩
theorem RC.tr {b : Nat → Nat} {n i j k : Nat} {S S' S'' : PS} (h : RC b n i S j S') (h2 : RC b n j S' k S'') : RC b n i S k S'' := ⟨Nat.le_trans h.1 h2.1, h2.2.1, h.2.2.trans h2.2.2⟩
theorem RC.st {b : Nat → Nat} {n i : Nat} {S S' : PS} (hi : i < n) (h : tkF S (b i) = some S') : RC b n i S (i + 1) S' := by
  refine ⟨Nat.le_succ _, hi, ?_⟩
  rw [show n - i = (n - (i + 1)) + 1 by omega]
  exact rnF_s h
theorem tk_32 {S : PS} : tkF S 32 = some (stS S (if S.st = 3 then 4 else S.st)) := by unfold tkF; rw [if_pos rfl]
theorem RC.bl {b : Nat → Nat} {n : Nat} {S : PS} : ∀ (d i : Nat), i + d ≤ n → (∀ k, i ≤ k → k < i + d → b k = 32) → RC b n i S (i + d) (if d = 0 then S else stS S (if S.st = 3 then 4 else S.st))
  | 0, i, h, _ => by rw [if_pos rfl]; exact RC.re h
  | d + 1, i, h, hb => by
    rw [if_neg (by omega)]
    have h1 : RC b n i S (i + 1) (stS S (if S.st = 3 then 4 else S.st)) := RC.st (by omega) (by rw [hb i (Nat.le_refl _) (by omega)]; exact tk_32)
    have h2 := RC.bl (b := b) (n := n) (S := stS S (if S.st = 3 then 4 else S.st)) d (i + 1) (by omega) (fun k a1 a2 => hb k (by omega) (by omega))
    have e : (if d = 0 then stS S (if S.st = 3 then 4 else S.st) else stS (stS S (if S.st = 3 then 4 else S.st)) (if (stS S (if S.st = 3 then 4 else S.st)).st = 3 then 4 else (stS S (if S.st = 3 then 4 else S.st)).st)) = stS S (if S.st = 3 then 4 else S.st) := by
      by_cases z : d = 0
      · rw [if_pos z]
      · rw [if_neg z]
        have e1 : (stS S (if S.st = 3 then 4 else S.st)).st = (if S.st = 3 then 4 else S.st) := _root_.rfl
        have e2 : ∀ s, stS (stS S (if S.st = 3 then 4 else S.st)) s = stS S s := fun s => _root_.rfl
        rw [e1, e2]
        by_cases y : S.st = 3
        · rw [if_pos y]; rfl
        · rw [if_neg y, if_neg y]
    rw [e] at h2
    have := h1.tr h2
    rw [show i + 1 + d = i + (d + 1) by omega] at this
    exact this
/-- blanks passed, nothing but a digit's state changes -/
theorem RC.sk {b : Nat → Nat} {n h : Nat} {S : PS} (hn : h ≤ n) (hs : S.st ≠ 3) : RC b n h S (skP b n h) S := by
  obtain ⟨i1, i2, i3, i4⟩ := skP_s (b := b) hn
  obtain ⟨d, hd⟩ : ∃ d, skP b n h = h + d := ⟨skP b n h - h, by omega⟩
  have := RC.bl (b := b) (n := n) (S := S) d h (by omega) (fun k a1 a2 => i3 k a1 (by omega))
  rw [if_neg hs] at this
  have e : (if d = 0 then S else stS S S.st) = S := by
    by_cases z : d = 0
    · rw [if_pos z]
    · rw [if_neg z]; rfl
  rw [e, ← hd] at this
  exact this
/-- behind a value: S, or with 4 instead of 3 -/
theorem RC.sk3 {b : Nat → Nat} {n h s : Nat} {S : PS} {c q : List Nat} (hn : h ≤ n) (hs : s = 3 ∨ s = 4) (hd : s = 3 → h < n → ¬ (48 ≤ b h ∧ b h ≤ 57)) : ∃ s', (s' = 3 ∨ s' = 4) ∧ (s' = 3 → skP b n h < n → ¬ (48 ≤ b (skP b n h) ∧ b (skP b n h) ≤ 57)) ∧ RC b n h (cqS S s c q) (skP b n h) (cqS S s' c q) := by
  obtain ⟨i1, i2, i3, i4⟩ := skP_s (b := b) hn
  obtain ⟨d, hd'⟩ : ∃ d, skP b n h = h + d := ⟨skP b n h - h, by omega⟩
  by_cases z : d = 0
  · have e : skP b n h = h := by omega
    rw [e]
    exact ⟨s, hs, hd, RC.re hn⟩
  · have := RC.bl (b := b) (n := n) (S := cqS S s c q) d h (by omega) (fun k a1 a2 => i3 k a1 (by omega))
    rw [if_neg z, ← hd'] at this
    have e : (if (cqS S s c q).st = 3 then 4 else (cqS S s c q).st) = 4 := by
      show (if s = 3 then 4 else s) = 4
      split
      · rfl
      · omega
    rw [e] at this
    exact ⟨4, Or.inr rfl, fun y => absurd y (by decide), this⟩
/-- the reference between two steps of reading -/
def RTp (b : Nat → Nat) (n : Nat) (R : am_M) : Prop := R 330 32 = nI n ∧ ∀ k, k < n → R 359 k = nI (b k)
def RMd (R : am_M) (M : List Nat) : Prop := R 330 37 = nI M.length ∧ lsR R 360 (fun c => (cdF c).1) M ∧ lsR R 361 (fun c => (cdF c).2) M
def RSt (b : Nat → Nat) (n : Nat) (R : am_M) (M : List Nat) (h o : Nat) : Prop := RTp b n R ∧ RMd R M ∧ R 330 38 = nI h ∧ R 330 39 = nI o ∧ R 330 40 = 0
def frZ (R R' : am_M) : Prop := (∀ c, c ≠ 330 → c ≠ 360 → c ≠ 361 → R' c = R c) ∧ ∀ k, (k < 37 ∨ 41 ≤ k) → R' 330 k = R 330 k
theorem frZ.rfl {R : am_M} : frZ R R := ⟨fun _ _ _ _ => _root_.rfl, fun _ _ => _root_.rfl⟩
theorem frZ.tr {R R' R'' : am_M} (h : frZ R R') (h2 : frZ R' R'') : frZ R R'' := ⟨fun c a1 a2 a3 => (h2.1 c a1 a2 a3).trans (h.1 c a1 a2 a3), fun k hk => (h2.2 k hk).trans (h.2 k hk)⟩
theorem frZ.up {R : am_M} {k : Nat} {v : Int32} (h1 : 37 ≤ k) (h2 : k < 41) : frZ R (am_up R 330 k v) := ⟨fun c a1 _ _ => by funext j; rw [am_up_ne a1], fun j hj => am_up_nk (by omega)⟩
section Rd
variable {I R : am_M} {P : am_Q} {b : Nat → Nat} {n : Nat}
theorem RSt.hr {M : List Nat} {h o h' : Nat} (s : RSt b n R M h o) : RSt b n (am_up R 330 38 (nI h')) M h' o := by
  obtain ⟨⟨t1, t2⟩, ⟨m1, m2, m3⟩, s1, s2, s3⟩ := s
  exact ⟨⟨by rw [am_up_nk (by decide)]; exact t1, fun k hk => by rw [am_up_ne (by decide)]; exact t2 k hk⟩, ⟨by rw [am_up_nk (by decide)]; exact m1, m2.fr (fun k hk => by rw [am_up_ne (by decide)]), m3.fr (fun k hk => by rw [am_up_ne (by decide)])⟩, am_up_eq, by rw [am_up_nk (by decide)]; exact s2, by rw [am_up_nk (by decide)]; exact s3⟩
def bhF (b : Nat → Nat) (n h : Nat) : Int32 := if h < n then nI (b h) else -1
theorem m_byte (hS : SP P) {h : Nat} (hn : n ≤ 80) (hh : h ≤ n) (t : RTp b n R) (e : R 330 38 = nI h) : fM_byteHere (put I R) P (am_pk 330 0 13) = some (bhF b n h) := by
  unfold fM_byteHere bhF
  rw [sm_ck_pos (am_t_pk (by decide)), put_rd sc_330, put_rd sc_330, t.1, e]
  by_cases q : h < n
  · rw [if_neg (by rw [nI_leI (by omega) (by omega)]; omega), if_pos q, sp_330_31 hS, sm_ck_pos (sm_in_nI (by decide) (by omega)), nI_clamp (show h < 2 ^ 31 by omega), put_rd sc_359, t.2 h q]
  · rw [if_pos (by rw [nI_leI (by omega) (by omega)]; omega), if_neg q]
theorem by_eq {h c : Nat} (hb : ∀ k, k < n → b k < 256) (hc : c < 256) : (bhF b n h = nI c) = (h < n ∧ b h = c) := by
  unfold bhF
  by_cases q : h < n
  · rw [if_pos q, nk (hb h q) hc]
    exact propext ⟨fun z => ⟨q, z⟩, fun z => z.2⟩
  · rw [if_neg q]
    refine propext ⟨fun z => ?_, fun z => absurd z.1 q⟩
    have := congrArg Int32.toInt z
    rw [nI_toInt (by omega)] at this
    have e : (-1 : Int32).toInt = -1 := by decide
    omega
theorem m_skL (hS : SP P) (hn : n ≤ 80) (hb : ∀ k, k < n → b k < 256) {M : List Nat} {o : Nat} : ∀ (d h fu : Nat) (R : am_M), d < fu → h + d = n → RSt b n R M h o → ∃ R', fM_skips_L0 P (fun I => some I) fu (am_pk 330 0 13) (put I R) = some (put I R') ∧ RSt b n R' M (skF b d h) o ∧ frZ R R'
  | 0, h, fu, R, h1, h2, s => by
    obtain ⟨fu, rfl⟩ : ∃ n', fu = n' + 1 := ⟨fu - 1, by omega⟩
    refine ⟨R, ?_, s, frZ.rfl⟩
    show fM_skips_B0 _ _ _ _ _ = _
    unfold fM_skips_B0
    rw [sm_ck_pos (am_t_pk (by decide)), m_byte hS hn (by omega) s.1 s.2.2.1, Option.bind_some, if_pos]
    rw [show (32 : Int32) = nI 32 from rfl, by_eq hb (by decide)]
    omega
  | d + 1, h, fu, R, h1, h2, s => by
    obtain ⟨fu, rfl⟩ : ∃ n', fu = n' + 1 := ⟨fu - 1, by omega⟩
    show ∃ R', fM_skips_B0 _ _ _ _ _ = _ ∧ RSt b n R' M (if b h = 32 then skF b d (h + 1) else h) o ∧ _
    unfold fM_skips_B0
    rw [sm_ck_pos (am_t_pk (by decide)), m_byte hS hn (by omega) s.1 s.2.2.1, Option.bind_some]
    by_cases q : b h = 32
    · obtain ⟨R', y1, y2, y3⟩ := m_skL hS hn hb d (h + 1) fu _ (by omega) (by omega) (s.hr (h' := h + 1))
      rw [if_neg (by rw [show (32 : Int32) = nI 32 from rfl, by_eq hb (by decide)]; exact fun z => z ⟨by omega, q⟩), if_pos q, put_rd sc_330, s.2.2.1, put_up sc_330, nI_1, bd_eq]
      exact ⟨R', y1, y2, (frZ.up (by decide) (by decide)).tr y3⟩
    · rw [if_pos (by rw [show (32 : Int32) = nI 32 from rfl, by_eq hb (by decide)]; exact fun z => q z.2), if_neg q]
      exact ⟨R, rfl, s, frZ.rfl⟩
theorem m_sk (hS : SP P) (hn : n ≤ 80) (hb : ∀ k, k < n → b k < 256) {M : List Nat} {h o : Nat} (hh : h ≤ n) (s : RSt b n R M h o) : ∃ R', fM_skips P (am_pk 330 0 13) (put I R) = some (put I R') ∧ RSt b n R' M (skP b n h) o ∧ frZ R R' := m_skL hS hn hb (n - h) h sm_fu R (sm_fu_lt (by omega)) (by omega) s
theorem m_may (hS : SP P) (hn : n ≤ 80) (hb : ∀ k, k < n → b k < 256) {M : List Nat} {h o c : Nat} {cv : Int32} (hcv : cv = nI c) (hc : c < 256) (hh : h ≤ n) (s : RSt b n R M h o) : ∃ R', fM_may P (am_pk 330 0 13) cv (put I R) = some (bI (skP b n h < n ∧ b (skP b n h) = c), put I R') ∧ RSt b n R' M (cif (skP b n h < n ∧ b (skP b n h) = c) (skP b n h + 1) (skP b n h)) o ∧ frZ R R' := by
  subst hcv
  obtain ⟨R1, y1, y2, y3⟩ := m_sk (I := I) hS hn hb hh s
  have hk := (skP_s (b := b) hh).2.1
  unfold fM_may
  rw [sm_ck_pos (am_t_pk (by decide)), put_rd sc_330, s.2.2.2.2, if_pos rfl, y1, Option.bind_some, m_byte hS hn hk y2.1 y2.2.2.1, Option.bind_some]
  by_cases q : skP b n h < n ∧ b (skP b n h) = c
  · rw [if_pos (by rw [by_eq hb hc]; exact q), put_rd sc_330, y2.2.2.1, put_up sc_330, nI_1, bd_eq, bI_t q, cif_t q]
    exact ⟨_, rfl, y2.hr, y3.tr (frZ.up (by decide) (by decide))⟩
  · rw [if_neg (by rw [by_eq hb hc]; exact q), bI_f q, cif_f q]
    exact ⟨R1, rfl, y2, y3⟩
theorem m_mayB {c : Int32} (s : ¬ R 330 40 = 0) : fM_may P (am_pk 330 0 13) c (put I R) = some (0, put I R) := by
  unfold fM_may
  rw [sm_ck_pos (am_t_pk (by decide)), put_rd sc_330, if_neg s]
theorem m_does (hS : SP P) {M : List Nat} {c : Nat} {v1 v2 : Int32} (h1 : v1 = (cdF c).1) (h2 : v2 = (cdF c).2) (hl : M.length < 80) (m : RMd R M) : ∃ R', fM_does P (am_pk 330 0 13) v1 v2 (put I R) = some (put I R') ∧ RMd R' (c :: M) ∧ frZ R R' ∧ ∀ k, k ≠ 37 → R' 330 k = R 330 k := by
  subst h1
  subst h2
  obtain ⟨m1, m2, m3⟩ := m
  have a1 : am_up R 360 M.length (cdF c).1 330 37 = nI M.length := by rw [am_up_ne (by decide)]; exact m1
  have a2 : am_up (am_up R 360 M.length (cdF c).1) 361 M.length (cdF c).2 330 37 = nI M.length := by rw [am_up_ne (by decide)]; exact a1
  refine ⟨am_up (am_up (am_up R 360 M.length (cdF c).1) 361 M.length (cdF c).2) 330 37 (nI (M.length + 1)), ?_, ⟨am_up_eq, ⟨?_, ?_⟩, ⟨?_, ?_⟩⟩, ⟨fun c a1 a2 a3 => ?_, fun k hk => ?_⟩, fun k hk => ?_⟩
  · unfold fM_does
    rw [sm_ck_pos (am_t_pk (by decide)), sp_330_33 hS, sp_330_34 hS, put_rd sc_330, m1, sm_ck_pos (sm_iw_nI (by decide) (by decide) hl), nI_clamp (show M.length < 2 ^ 31 by omega), put_up sc_360, bd_eq, put_rd sc_330, a1, sm_ck_pos (sm_iw_nI (by decide) (by decide) hl), nI_clamp (show M.length < 2 ^ 31 by omega), put_up sc_361, bd_eq, put_rd sc_330, a2, put_up sc_330, nI_1, bd_eq]
  · rw [am_up_ne (by decide), am_up_ne (by decide), am_up_eq]
  · exact m2.fr (fun k hk => by rw [am_up_ne (by decide), am_up_ne (by decide), am_up_nk (by omega)])
  · rw [am_up_ne (by decide), am_up_eq]
  · exact m3.fr (fun k hk => by rw [am_up_ne (by decide), am_up_nk (by omega), am_up_ne (by decide)])
  · funext j; rw [am_up_ne a1, am_up_ne a3, am_up_ne a2]
  · rw [am_up_nk (by omega), am_up_ne (by decide), am_up_ne (by decide)]
  · rw [am_up_nk hk, am_up_ne (by decide), am_up_ne (by decide)]
end Rd
/-! ===== codes that leave one value more ===== -/
def rpc : List Nat → Nat → Nat → Prop
  | [], d, d' => d = d'
  | c :: cs, d, d' => if c < 110 then c < 105 ∧ d < 12 ∧ rpc cs (d + 1) d' else c < 114 ∧ 2 ≤ d ∧ rpc cs (d - 1) d'
theorem rpc_app : ∀ (l l' : List Nat) (d d' d'' : Nat), rpc l d d' → rpc l' d' d'' → rpc (l ++ l') d d''
  | [], _, _, _, _, h, h2 => by
    have h : _ = _ := h
    rw [h]; exact h2
  | c :: cs, l', d, d', d'', h, h2 => by
    show (if c < 110 then c < 105 ∧ d < 12 ∧ rpc (cs ++ l') (d + 1) d'' else c < 114 ∧ 2 ≤ d ∧ rpc (cs ++ l') (d - 1) d'')
    have h : (if c < 110 then c < 105 ∧ d < 12 ∧ rpc cs (d + 1) d' else c < 114 ∧ 2 ≤ d ∧ rpc cs (d - 1) d') := h
    by_cases q : c < 110
    · rw [if_pos q] at h ⊢
      exact ⟨h.1, h.2.1, rpc_app cs l' _ _ _ h.2.2 h2⟩
    · rw [if_neg q] at h ⊢
      exact ⟨h.1, h.2.1, rpc_app cs l' _ _ _ h.2.2 h2⟩
theorem rpc_n : ∀ (l : List Nat) (d : Nat), rpc l d 1 → rpn l d
  | [], _, h => h
  | c :: cs, d, h => by
    show (if c < 110 then c < 105 ∧ d < 12 ∧ rpn cs (d + 1) else c < 114 ∧ 2 ≤ d ∧ rpn cs (d - 1))
    have h : (if c < 110 then c < 105 ∧ d < 12 ∧ rpc cs (d + 1) 1 else c < 114 ∧ 2 ≤ d ∧ rpc cs (d - 1) 1) := h
    by_cases q : c < 110
    · rw [if_pos q] at h ⊢
      exact ⟨h.1, h.2.1, rpc_n cs _ h.2.2⟩
    · rw [if_neg q] at h ⊢
      exact ⟨h.1, h.2.1, rpc_n cs _ h.2.2⟩
def wfX (E : List Nat) (q : Nat) : Prop := ∀ d, d + q ≤ 12 → rpc E.reverse d (d + 1)
theorem wfX_1 {c q : Nat} (h : c < 105) (hq : 1 ≤ q) : wfX [c] q := by
  intro d hd
  show (if c < 110 then c < 105 ∧ d < 12 ∧ d + 1 = d + 1 else _)
  rw [if_pos (by omega)]
  exact ⟨h, by omega, rfl⟩
theorem wfX.mono {E : List Nat} {q q' : Nat} (h : wfX E q) (hq : q ≤ q') : wfX E q' := fun d hd => h d (by omega)
theorem wfX.op {E1 E2 : List Nat} {q q' x : Nat} (h1 : wfX E1 q) (h2 : wfX E2 q') (hq : q' + 1 ≤ q) (hx : 110 ≤ x) (hx2 : x < 114) : wfX (x :: (E2 ++ E1)) q := by
  intro d hd
  rw [List.reverse_cons, List.reverse_append]
  refine rpc_app _ _ d (d + 2) (d + 1) (rpc_app _ _ d (d + 1) (d + 2) (h1 d hd) (h2 (d + 1) (by omega))) ?_
  show (if x < 110 then _ else x < 114 ∧ 2 ≤ d + 2 ∧ d + 2 - 1 = d + 1)
  rw [if_neg (by omega)]
  exact ⟨hx2, by omega, by omega⟩
/-! ===== flushing ===== -/
def tpL (l : List Nat) (k : Nat) : Prop := ∀ a r, l = a :: r → a < k
theorem pwF_0 {o : Nat} {ws cs : List Nat} (h : tpL ws o) : pwF o ws cs = (cs, ws) := by
  cases ws with
  | nil => rfl
  | cons a r =>
    show (if a < o then (cs, a :: r) else pwF o r (a :: cs)) = _
    rw [if_pos (h a r rfl)]
theorem pwF_1 {o a : Nat} {ws cs : List Nat} (ha : o ≤ a) (h : tpL ws o) : pwF o (a :: ws) cs = (a :: cs, ws) := by
  show (if a < o then (cs, a :: ws) else pwF o ws (a :: cs)) = _
  rw [if_neg (by omega), pwF_0 h]
theorem pwF_pw {o o' : Nat} (h : o ≤ o') : ∀ (ws cs : List Nat), pwF o (pwF o' ws cs).2 (pwF o' ws cs).1 = pwF o ws cs
  | [], _ => rfl
  | a :: ws, cs => by
    show pwF o (if a < o' then (cs, a :: ws) else pwF o' ws (a :: cs)).2 (if a < o' then (cs, a :: ws) else pwF o' ws (a :: cs)).1 = pwF o (a :: ws) cs
    by_cases q : a < o'
    · rw [if_pos q]
    · rw [if_neg q, pwF_pw h ws (a :: cs)]
      show _ = (if a < o then (cs, a :: ws) else pwF o ws (a :: cs))
      rw [if_neg (by omega)]
