/-! ===== sets of boxes as numbers ===== -/
theorem bt_or : ∀ a, a < 128 → ∀ b, b < 7 → (nI a ||| sm_shl 1 (nI b) = nI (a ||| 2 ^ b) ∧ (a ||| 2 ^ b) < 128) := by decide +kernel
theorem bt_tst : ∀ a, a < 128 → ∀ b, b < 7 → (((sm_shr (nI a) (nI b)) &&& 1 = 1) ↔ a.testBit b = true) := by decide +kernel
theorem bt_tst0 : ∀ a, a < 128 → ∀ b, b < 7 → (((sm_shr (nI a) (nI b)) &&& 1 = 0) ↔ a.testBit b = false) := by decide +kernel
theorem bt_all : ∀ n, n < 8 → sm_shl 1 (nI n) - 1 = nI (2 ^ n - 1) := by decide +kernel
/-- how many boxes a set has -/
def bcn (a : Nat) : Nat := (if a.testBit 0 then 1 else 0) + (if a.testBit 1 then 1 else 0) + (if a.testBit 2 then 1 else 0) + (if a.testBit 3 then 1 else 0) + (if a.testBit 4 then 1 else 0) + (if a.testBit 5 then 1 else 0) + (if a.testBit 6 then 1 else 0)
theorem bt_cn : ∀ a, a < 128 → ∀ b, b < 7 → bcn (a ||| 2 ^ b) = if a.testBit b then bcn a else bcn a + 1 := by decide +kernel
theorem bt_lt : ∀ n, n < 8 → ∀ a, a < 2 ^ n → ∀ b, b < n → (a ||| 2 ^ b) < 2 ^ n := by decide +kernel
theorem bt_full : ∀ n, n < 8 → ∀ a, a < 2 ^ n → (a = 2 ^ n - 1 ↔ bcn a = n) := by decide +kernel
theorem bt_p : ∀ n, n < 8 → 2 ^ n ≤ 128 := by decide
theorem bt_set : ∀ a, a < 128 → ∀ b, b < 7 → ∀ c, c < 7 → ((a ||| 2 ^ b).testBit c = true ↔ (a.testBit c = true ∨ c = b)) := by decide +kernel
/-! a row of boxes, as the class reads it and as the reference does -/
noncomputable def rowX (f : Nat → Int32) (n : Nat) : Nat → Nat → Nat → Prop
  | 0, _, a => a = 2 ^ n - 1
  | d + 1, k, a => (0 ≤ f k ∧ f k < nI n) ∧ rowX f n d (k + 1) (a ||| 2 ^ ix (f k))
noncomputable def rowM (f : Nat → Int32) (n : Nat) : Nat → Nat → Nat → Prop
  | 0, _, _ => True
  | d + 1, k, a => (0 ≤ f k ∧ f k < nI n) ∧ ¬ a.testBit (ix (f k)) = true ∧ rowM f n d (k + 1) (a ||| 2 ^ ix (f k))
theorem bcn_le : ∀ a, a < 128 → ∀ b, b < 7 → bcn (a ||| 2 ^ b) ≤ bcn a + 1 := by decide +kernel
theorem rowX_cn {f : Nat → Int32} {n : Nat} (hn : n < 8) : ∀ (d k a : Nat), a < 2 ^ n → rowX f n d k a → n ≤ bcn a + d
  | 0, k, a, ha, h => by
    have := (bt_full n hn a ha).mp h
    omega
  | d + 1, k, a, ha, h => by
    obtain ⟨h1, h2⟩ := h
    obtain ⟨x, hx, e⟩ := ran_ix h1 (by omega)
    have ei : ix (f k) = x := by rw [e]; exact nI_clamp (by omega)
    rw [ei] at h2
    have h128 := bt_p n hn
    have := rowX_cn hn d (k + 1) _ (bt_lt n hn a ha x hx) h2
    have := bcn_le a (by omega) x (by omega)
    omega
theorem rowXM {f : Nat → Int32} {n : Nat} (hn : n < 8) : ∀ (d k a : Nat), a < 2 ^ n → bcn a + d = n → (rowX f n d k a ↔ rowM f n d k a)
  | 0, k, a, ha, hc => by
    show (a = 2 ^ n - 1) ↔ True
    rw [bt_full n hn a ha]
    exact ⟨fun _ => trivial, fun _ => by omega⟩
  | d + 1, k, a, ha, hc => by
    have h128 := bt_p n hn
    constructor
    · intro ⟨h1, h2⟩
      obtain ⟨x, hx, e⟩ := ran_ix h1 (by omega)
      have ei : ix (f k) = x := by rw [e]; exact nI_clamp (by omega)
      rw [ei] at h2
      have hlt := bt_lt n hn a ha x hx
      have hcn := bt_cn a (by omega) x (by omega)
      have hge := rowX_cn hn d (k + 1) _ hlt h2
      have hnt : ¬ a.testBit x = true := fun z => by rw [if_pos z] at hcn; omega
      refine ⟨h1, by rw [ei]; exact hnt, ?_⟩
      rw [ei]
      rw [if_neg hnt] at hcn
      exact (rowXM hn d (k + 1) _ hlt (by omega)).mp h2
    · intro ⟨h1, h2, h3⟩
      obtain ⟨x, hx, e⟩ := ran_ix h1 (by omega)
      have ei : ix (f k) = x := by rw [e]; exact nI_clamp (by omega)
      rw [ei] at h2 h3
      have hlt := bt_lt n hn a ha x hx
      have hcn := bt_cn a (by omega) x (by omega)
      rw [if_neg h2] at hcn
      refine ⟨h1, ?_⟩
      rw [ei]
      exact (rowXM hn d (k + 1) _ hlt (by omega)).mpr h3
theorem rowM_ran {f : Nat → Int32} {n : Nat} : ∀ (d k a : Nat), rowM f n d k a → ∀ i, k ≤ i → i < k + d → 0 ≤ f i ∧ f i < nI n
  | 0, k, a, _, i, h1, h2 => absurd h2 (by omega)
  | d + 1, k, a, h, i, h1, h2 => by
    by_cases e : i = k
    · rw [e]; exact h.1
    · exact rowM_ran d (k + 1) _ h.2.2 i (by omega) (by omega)
theorem rowM_not {f : Nat → Int32} {n : Nat} (hn : n < 8) : ∀ (d k a : Nat), a < 2 ^ n → rowM f n d k a → ∀ i, k ≤ i → i < k + d → ¬ a.testBit (ix (f i)) = true
  | 0, k, a, _, _, i, h1, h2 => absurd h2 (by omega)
  | d + 1, k, a, ha, h, i, h1, h2 => by
    have h128 := bt_p n hn
    by_cases e : i = k
    · rw [e]; exact h.2.1
    · obtain ⟨x, hx, e1⟩ := ran_ix h.1 (by omega)
      have ei : ix (f k) = x := by rw [e1]; exact nI_clamp (by omega)
      have h3 := h.2.2
      rw [ei] at h3
      have hr := rowM_ran d (k + 1) _ h3 i (by omega) (by omega)
      obtain ⟨z, hz, e2⟩ := ran_ix hr (by omega)
      have ez : ix (f i) = z := by rw [e2]; exact nI_clamp (by omega)
      have := rowM_not hn d (k + 1) _ (bt_lt n hn a ha x hx) h3 i (by omega) (by omega)
      rw [ez] at this ⊢
      exact fun q => this ((bt_set a (by omega) x (by omega) z (by omega)).mpr (Or.inl q))
theorem rowM_inj {f : Nat → Int32} {n : Nat} (hn : n < 8) : ∀ (d k a : Nat), a < 2 ^ n → rowM f n d k a → ∀ i j, k ≤ i → i < j → j < k + d → ¬ f i = f j
  | 0, k, a, _, _, i, j, h1, h2, h3 => absurd h3 (by omega)
  | d + 1, k, a, ha, h, i, j, h1, h2, h3 => by
    have h128 := bt_p n hn
    obtain ⟨x, hx, e1⟩ := ran_ix h.1 (by omega)
    have ei : ix (f k) = x := by rw [e1]; exact nI_clamp (by omega)
    have h4 := h.2.2
    rw [ei] at h4
    have hlt := bt_lt n hn a ha x hx
    by_cases e : i = k
    · subst e
      have := rowM_not hn d (i + 1) _ hlt h4 j (by omega) (by omega)
      intro q
      rw [← q, ei] at this
      exact this ((bt_set a (by omega) x (by omega) x (by omega)).mpr (Or.inr rfl))
    · exact rowM_inj hn d (k + 1) _ hlt h4 i j (by omega) h2 (by omega)
