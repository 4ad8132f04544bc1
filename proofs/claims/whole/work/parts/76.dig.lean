/-! ===== digits ===== -/
def hv (m : Nat) (f : Nat → Nat) : Nat → Nat
  | 0 => 0
  | k + 1 => hv m f k * m + f k
def dgF (m : Nat) : Nat → Nat → Nat → Nat
  | 0, _, _ => 0
  | i + 1, v, k => if k = i then v % m else dgF m i (v / m) k
theorem hv_cg {m : Nat} {f g : Nat → Nat} : ∀ (n : Nat), (∀ k, k < n → f k = g k) → hv m f n = hv m g n
  | 0, _ => rfl
  | n + 1, h => by
    show hv m f n * m + f n = hv m g n * m + g n
    rw [hv_cg n (fun k hk => h k (by omega)), h n (by omega)]
theorem hv_inj {m : Nat} {f g : Nat → Nat} : ∀ (n : Nat), (∀ k, k < n → f k < m) → (∀ k, k < n → g k < m) → hv m f n = hv m g n → ∀ k, k < n → f k = g k
  | 0, _, _, _, k, hk => absurd hk (Nat.not_lt_zero _)
  | n + 1, hf, hg, h, k, hk => by
    have h : hv m f n * m + f n = hv m g n * m + g n := h
    have f1 := hf n (by omega)
    have g1 := hg n (by omega)
    have e1 : f n = g n := by
      have := congrArg (· % m) h
      simp only [Nat.mul_comm _ m, Nat.mul_add_mod, Nat.mod_eq_of_lt f1, Nat.mod_eq_of_lt g1] at this
      exact this
    have e2 : hv m f n = hv m g n := by
      rw [e1] at h
      exact Nat.eq_of_mul_eq_mul_right (by omega : 0 < m) (Nat.add_right_cancel h)
    by_cases e : k = n
    · rw [e]; exact e1
    · exact hv_inj n (fun k hk => hf k (by omega)) (fun k hk => hg k (by omega)) e2 k (by omega)
theorem dgF_lt {m : Nat} (hm : 0 < m) : ∀ (n v k : Nat), dgF m n v k < m
  | 0, _, _ => hm
  | n + 1, v, k => by
    show (if k = n then v % m else dgF m n (v / m) k) < m
    split
    · exact Nat.mod_lt _ hm
    · exact dgF_lt hm n _ k
theorem dgF_hv {m : Nat} (hm : 0 < m) : ∀ (n v : Nat), v < m ^ n → hv m (dgF m n v) n = v
  | 0, v, h => by rw [Nat.pow_zero] at h; show 0 = v; omega
  | n + 1, v, h => by
    show hv m (dgF m (n + 1) v) n * m + (if n = n then v % m else _) = v
    rw [if_pos rfl, hv_cg (f := dgF m (n + 1) v) (g := dgF m n (v / m)) n (fun k hk => show (if k = n then v % m else dgF m n (v / m) k) = _ from if_neg (by omega)), dgF_hv hm n (v / m) (by rw [Nat.div_lt_iff_lt_mul hm]; rw [Nat.pow_succ] at h; exact h)]
    exact Nat.div_add_mod' v m
theorem dg_of {m n v : Nat} {f : Nat → Nat} (hm : 0 < m) (hv1 : v < m ^ n) (hf : ∀ k, k < n → f k < m) (e : hv m f n = v) : ∀ k, k < n → f k = dgF m n v k :=
  hv_inj n hf (fun k _ => dgF_lt hm n v k) (e.trans (dgF_hv hm n v hv1).symm)
theorem dgF_0 {m : Nat} : ∀ (n k : Nat), dgF m n 0 k = 0
  | 0, _ => rfl
  | n + 1, k => by
    show (if k = n then 0 % m else dgF m n (0 / m) k) = 0
    rw [Nat.zero_mod, Nat.zero_div, dgF_0 n k]
    split <;> rfl
theorem nI_dm1 : nI 0 + (-1) < 0 := by decide
section Adv
variable {I : am_M} {P : am_Q}
theorem x_advL {c n0 m : Nat} (hc : sc c n0 20) (hn0 : n0 < 16384) (hm : 1 ≤ m) (hm2 : m ≤ 16) : ∀ (i fu : Nat) (R : am_M) (f : Nat → Nat), i < fu → i ≤ n0 → (∀ k, k < i → f k < m) → (∀ k, k < i → R c k = nI (f k)) → ∃ R' f', fX_advance_L4 P (fun I => some I) (fun I => some I) fu (am_pk c n0 20) (nI m) (nI i + (-1)) (put I R) = some (put I R') ∧ (∀ k, k < i → f' k < m) ∧ (∀ k, k < i → R' c k = nI (f' k)) ∧ (∀ k, i ≤ k → R' c k = R c k) ∧ (∀ c', c' ≠ c → R' c' = R c') ∧ (hv m f' i = hv m f i + 1 ∨ (hv m f' i = 0 ∧ hv m f i + 1 = m ^ i))
  | 0, fu, R, f, h1, h2, hf, hR => by
    obtain ⟨fu, rfl⟩ : ∃ n', fu = n' + 1 := ⟨fu - 1, by omega⟩
    refine ⟨R, f, ?_, hf, hR, fun _ _ => rfl, fun _ _ => rfl, Or.inr ⟨rfl, rfl⟩⟩
    show fX_advance_B4 _ _ _ _ _ _ _ _ = _
    unfold fX_advance_B4
    rw [if_pos nI_dm1]
  | i + 1, fu, R, f, h1, h2, hf, hR => by
    obtain ⟨fu, rfl⟩ : ∃ n', fu = n' + 1 := ⟨fu - 1, by omega⟩
    have f1 := hf i (by omega)
    have run : ∀ rr, fX_advance_B4 P (fun I => some I) (fun I => some I) rr (am_pk c n0 20) (nI m) (nI i) (put I R) = if m ≤ f i + 1 then rr (am_pk c n0 20) (nI m) (nI i + (-1)) (put I (am_up (am_up R c i (nI (f i + 1))) c i 0)) else some (put I (am_up R c i (nI (f i + 1)))) := by
      intro rr
      unfold fX_advance_B4
      rw [if_neg (nI_pos (by omega)), sm_ck_pos (am_t_pk (by decide)), sm_ck_pos (sm_in_nI hn0 (by omega)), sm_ck_pos (sm_iw_nI hc.1 hn0 (by omega)), nI_clamp (show i < 2 ^ 31 by omega), put_rd hc, hR i (by omega), nI_1, bd_eq, put_up hc, sm_ck_pos (sm_in_nI hn0 (by omega)), put_rd hc, am_up_eq, sm_ck_pos (sm_iw_nI hc.1 hn0 (by omega)), bd_eq, put_up hc, bd_eq]
      by_cases q : m ≤ f i + 1
      · rw [if_pos q, if_pos (by rw [nI_leI (by omega) (by omega)]; exact q)]
      · rw [if_neg q, if_neg (by rw [nI_leI (by omega) (by omega)]; exact q)]
    show ∃ R' f', fX_advance_B4 _ _ _ _ _ _ _ _ = _ ∧ _
    rw [pk_m1, run]
    by_cases q : m ≤ f i + 1
    · rw [if_pos q]
      obtain ⟨R', f', y1, y2, y3, y4, y5, y6⟩ := x_advL hc hn0 hm hm2 i fu (am_up (am_up R c i (nI (f i + 1))) c i 0) f (by omega) (by omega) (fun k hk => hf k (by omega)) (fun k hk => by rw [am_up_nk (by omega), am_up_nk (by omega)]; exact hR k (by omega))
      refine ⟨R', fun k => if k = i then 0 else f' k, y1, fun k hk => ?_, fun k hk => ?_, fun k hk => ?_, fun c' hc' => ?_, ?_⟩
      · show (if k = i then 0 else f' k) < m
        split
        · omega
        · exact y2 k (by omega)
      · show _ = nI (if k = i then 0 else f' k)
        by_cases e : k = i
        · rw [if_pos e, e, y4 i (Nat.le_refl _), am_up_eq]; rfl
        · rw [if_neg e]; exact y3 k (by omega)
      · rw [y4 k (by omega), am_up_nk (by omega), am_up_nk (by omega)]
      · rw [y5 c' hc']; funext k; rw [am_up_ne hc', am_up_ne hc']
      · have e1 : hv m (fun k => if k = i then 0 else f' k) (i + 1) = hv m f' i * m := by
          show hv m (fun k => if k = i then 0 else f' k) i * m + (if i = i then 0 else f' i) = _
          rw [if_pos rfl, hv_cg (g := f') i (fun k hk => if_neg (by omega)), Nat.add_zero]
        have e2 : hv m f (i + 1) = hv m f i * m + f i := rfl
        rw [e1, e2]
        rcases y6 with e | ⟨e, e'⟩
        · left
          rw [e, Nat.add_mul]; omega
        · right
          refine ⟨by rw [e, Nat.zero_mul], ?_⟩
          rw [Nat.pow_succ, ← e', Nat.add_mul]; omega
    · rw [if_neg q]
      refine ⟨_, fun k => if k = i then f i + 1 else f k, rfl, fun k hk => ?_, fun k hk => ?_, fun k hk => ?_, fun c' hc' => ?_, Or.inl ?_⟩
      · show (if k = i then f i + 1 else f k) < m
        split
        · omega
        · exact hf k (by omega)
      · show _ = nI (if k = i then f i + 1 else f k)
        by_cases e : k = i
        · rw [if_pos e, e, am_up_eq]
        · rw [if_neg e, am_up_nk e]; exact hR k (by omega)
      · rw [am_up_nk (by omega)]
      · funext k; rw [am_up_ne hc']
      · show hv m (fun k => if k = i then f i + 1 else f k) i * m + (if i = i then f i + 1 else f i) = hv m f i * m + f i + 1
        rw [if_pos rfl, hv_cg (g := f) i (fun k hk => if_neg (by omega))]; rfl
theorem x_adv {c n0 m n v : Nat} {R : am_M} (hc : sc c n0 20) (hn0 : n0 < 10000) (hm : 1 ≤ m) (hm2 : m ≤ 16) (hn : n ≤ n0) (hv1 : v < m ^ n) (hR : ∀ k, k < n → R c k = nI (dgF m n v k)) : ∃ R', fX_advance P (am_pk c n0 20) (nI n) (nI m) (put I R) = some (put I R') ∧ (v + 1 < m ^ n → ∀ k, k < n → R' c k = nI (dgF m n (v + 1) k)) ∧ (∀ k, n ≤ k → R' c k = R c k) ∧ (∀ c', c' ≠ c → R' c' = R c') := by
  obtain ⟨R', f', y1, y2, y3, y4, y5, y6⟩ := x_advL (I := I) (P := P) hc (by omega) hm hm2 n sm_fu R (dgF m n v) (sm_fu_lt (by omega)) hn (fun k _ => dgF_lt (by omega) n v k) hR
  refine ⟨R', ?_, fun h k hk => ?_, y4, y5⟩
  · unfold fX_advance
    rw [bd_eq, ← nI_dm]
    exact y1
  · rw [dgF_hv (by omega) n v hv1] at y6
    have e : hv m f' n = v + 1 := by
      rcases y6 with e | ⟨-, e⟩
      · exact e
      · omega
    rw [y3 k hk, dg_of (by omega) h y2 e k hk]
end Adv
