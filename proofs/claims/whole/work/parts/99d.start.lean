/-! ===== what stands at the start ===== -/
def wdLs : List Nat := [7, 36, 65, 94, 125, 154, 183, 212, 241, 270]
theorem isW_l {b : Nat} (h : isW b) : b ∈ wdLs := by
  rcases h with ⟨k, hk, rfl⟩ | ⟨k, hk, rfl⟩
  · rcases (show k = 0 ∨ k = 1 ∨ k = 2 ∨ k = 3 by omega) with rfl | rfl | rfl | rfl <;> decide
  · rcases (show k = 0 ∨ k = 1 ∨ k = 2 ∨ k = 3 ∨ k = 4 ∨ k = 5 by omega) with rfl | rfl | rfl | rfl | rfl | rfl <;> decide
theorem st_sp : ∀ q ∈ sp_l, rdP mP1 q.1 q.2.1 = some q.2.2 := by decide +kernel
theorem st_wd : ∀ b ∈ wdLs, rdP mP1 (am_pk b 0 11) 9 = some (am_pk (b + 1) 7 22) ∧ rdP mP1 (am_pk b 0 11) 10 = some (am_pk (b + 2) 14 23) ∧ rdP mP1 (am_pk b 0 11) 11 = some (am_pk (b + 3) 7 20) ∧ rdP mP1 (am_pk b 0 11) 12 = some (am_pk (b + 4) 14 20) ∧ rdP mP1 (am_pk b 0 11) 13 = some (am_pk (b + 5) 20 20) ∧ rdP mP1 (am_pk b 0 11) 14 = some (am_pk (b + 6) 20 20) ∧ rdP mP1 (am_pk b 0 11) 15 = some (am_pk (b + 7) 20 20) := by decide +kernel
theorem st_bx : ∀ b ∈ wdLs, ∀ i, i < 7 → rdP mP1 (am_pk (b + 1) 7 22) i = some (am_pk (b + 8 + i) 0 1) ∧ rdP mP1 (am_pk (b + 8 + i) 0 1) 10 = some (am_pk 3 0 4) := by decide +kernel
theorem st_sm : ∀ b ∈ wdLs, ∀ i, i < 14 → rdP mP1 (am_pk (b + 2) 14 23) i = some (am_pk (b + 15 + i) 0 8) := by decide +kernel
theorem st_hs : ∀ i, i < 6 → rdP mP1 (am_pk 124 6 24) i = some (am_pk (125 + 29 * i) 0 11) := by decide +kernel
theorem st_sh : ∀ i, i < 4 → rdP mP1 (am_pk 320 4 25) i = some (am_pk (321 + 2 * i) 0 9) := by decide +kernel
theorem st_305 : rdP mP1 (am_pk 305 0 1) 10 = some (am_pk 3 0 4) := by decide +kernel
theorem st_lo : ∀ x ∈ mI1, 2 ≤ am_i x.2.1 := by decide +kernel
theorem st_7 : ∀ k, k < 9 → rdI mI1 (st_c 7) k = some (if k = 0 then 10 else if k = 4 ∨ k = 5 then -1 else 0) := by decide +kernel
theorem st_332 : ∀ k, k < 9 → rdI mI1 (st_c 332) k = some (if k = 5 then 10 else if k = 7 ∨ k = 8 then -1 else 0) := by decide +kernel
theorem st_fd : ∀ k, k < 7 → rdI mI1 (st_c 329) k = some 0 ∧ rdI mI1 (st_c 331) k = some 0 := by decide +kernel
theorem st_5 : ∀ k, k < 4 → rdI mI1 (st_c 5) k = some (-1) := by decide +kernel
theorem st_xx : rdI mI1 (st_c 299) 1 = some 0 ∧ rdI mI1 (st_c 330) 32 = some 0 ∧ rdI mI1 (st_c 330) 28 = some 0 ∧ rdI mI1 (st_c 330) 29 = some 0 ∧ rdI mI1 (st_c 2) 4 = some 0 ∧ rdI mI1 (st_c 123) 1 = some 0 ∧ rdI mI1 (st_c 123) 2 = some 0 := by decide +kernel
theorem st_st : ∀ s, s < 4 → rdI mI1 (st_c 369) s = some 0 ∧ rdI mI1 (st_c 368) s = some 0 ∧ rdI mI1 (st_c (321 + 2 * s)) 1 = some 0 ∧ rdI mI1 (st_c (321 + 2 * s)) 2 = some 0 := by decide +kernel
theorem st_it : ∀ s, s < 4 → ∀ k, k < 24 → rdI mI1 (st_c (322 + 2 * s)) k = some 0 ∧ rdI mI1 (st_c 370) (24 * s + k) = some 0 := by decide +kernel
def w00 : am_M := fun r c => if r = 0 ∧ c = 0 then 10 else if r = 0 ∧ (c = 4 ∨ c = 5) then -1 else 0
def t00 : Nat → Nat → List Nat := fun _ _ => []
theorem w00_w : wiv w00 t00 10 0 0 0 := by
  refine ⟨⟨rfl, by decide, by decide, rfl, by decide, rfl, by decide, rfl, by decide, Or.inl rfl, 0, by decide, rfl⟩, fun i hi => absurd hi (Nat.not_lt_zero _), fun i hi => absurd hi (Nat.not_lt_zero _), fun i _ hi => absurd hi (Nat.not_lt_zero _), ⟨fun i hi => absurd hi (Nat.not_lt_zero _), fun i _ hi => absurd hi (Nat.not_lt_zero _)⟩, fun i hi => absurd hi (Nat.not_lt_zero _)⟩
section Start
variable {I : am_M} {P : am_Q}
theorem st_inv (hA : apok I) : INV (wrI I mI1) (fun c => wrI I mI1 (st_c c)) (wrP P mP1) 379 w00 t00 10 0 0 0 := by
  have hS : SP (wrP P mP1) := by
    refine ⟨fun q hq => rdP_ok (st_sp q hq), fun b hb => ?_, fun i hi => rdP_ok (st_hs i hi), fun i hi => rdP_ok (st_sh i hi)⟩
    have hw := isW_l hb
    obtain ⟨a1, a2, a3, a4, a5, a6, a7⟩ := st_wd b hw
    exact ⟨rdP_ok a1, rdP_ok a2, rdP_ok a3, rdP_ok a4, rdP_ok a5, rdP_ok a6, rdP_ok a7, fun i hi => rdP_ok (st_bx b hw i hi).1, fun i hi => rdP_ok (st_sm b hw i hi)⟩
  have hap : wrI I mI1 am_ap = I am_ap := wrI_ne (fun x hx z => by
    have := st_lo x hx
    rw [z, am_api] at this
    omega)
  have hL : LB (wrP P mP1) 379 := by
    have hl : lnb (wrP P mP1) 379 (am_pk 3 0 4) := plnb hS (Nat.le_refl _)
    intro c hc
    rcases hc with ⟨b, i, hb, hi, rfl⟩ | rfl
    · rw [rdP_ok (st_bx b (isW_l hb) i hi).2]; exact hl
    · rw [rdP_ok st_305]; exact hl
  have cnt : wnb w00 = 0 ∧ wns w00 = 0 ∧ wne w00 = 0 := w00_w.cnt
  have hrl : ∀ r c, wrl w00 r c → r = 0 ∧ c < 9 := fun r c h => by
    unfold wrl at h
    rw [cnt.1, cnt.2.1, cnt.2.2] at h
    omega
  refine ⟨⟨⟨hS, ?_, hL, Nat.le_refl _⟩, ⟨fun k hk => ?_, fun l hl => ?_⟩, ⟨0, by decide, rdI_ok st_xx.1, rdI_ok st_xx.2.1, fun k hk => absurd hk (Nat.not_lt_zero _)⟩, fun s hs => ?_, ⟨Or.inl (rdI_ok st_xx.2.2.2.2.1), ?_, fun z => ?_⟩, ⟨0, 0, by decide, by decide, rdI_ok st_xx.2.2.2.2.2.1, rdI_ok st_xx.2.2.2.2.2.2, rdI_ok st_xx.2.2.1, fun i hi => absurd hi (Nat.not_lt_zero _)⟩⟩, ⟨0, by decide, rfl⟩, ⟨W7, fun r c h => ?_, w00_w, fun i hi => absurd hi (Nat.not_lt_zero _), fun x hx => absurd hx (Nat.not_lt_zero _)⟩, ⟨fun r c h => ?_, w00_w, fun i hi => absurd hi (Nat.not_lt_zero _)⟩⟩
  · unfold apok
    rw [hap]; exact hA
  · show wrI I mI1 (st_c 329) k = wrI I mI1 (st_c 331) k
    rw [rdI_ok (st_fd k hk).1, rdI_ok (st_fd k hk).2]
  · show wrI I mI1 (st_c 5) l < 0
    rw [rdI_ok (st_5 l hl)]; decide
  · obtain ⟨b1, b2, b3, b4⟩ := st_st s hs
    refine ⟨(rdI_ok b1).trans (rdI_ok b3).symm, (rdI_ok b2).trans (rdI_ok b4).symm, ⟨0, by decide, rdI_ok b1⟩, Or.inl (rdI_ok b2), fun k hk => Or.inl ?_⟩
    obtain ⟨c1, c2⟩ := st_it s hs k hk
    exact (rdI_ok c1).trans (rdI_ok c2).symm
  · show wrI I mI1 (st_c 330) 29 = wrI I mI1 (st_c 2) 4
    rw [rdI_ok st_xx.2.2.2.1, rdI_ok st_xx.2.2.2.2.1]
  · have z' : wrI I mI1 (st_c 2) 4 = 1 := z
    rw [rdI_ok st_xx.2.2.2.2.1] at z'
    exact absurd z' (by decide)
  · obtain ⟨rfl, hc⟩ := hrl r c h
    rw [vC_rd (Or.inl ⟨rfl, hc⟩)]
    show wrI I mI1 (st_c 7) c = _
    rw [rdI_ok (st_7 c hc)]
    unfold w00
    rcases (show c = 0 ∨ c = 1 ∨ c = 2 ∨ c = 3 ∨ c = 4 ∨ c = 5 ∨ c = 6 ∨ c = 7 ∨ c = 8 by omega) with rfl | rfl | rfl | rfl | rfl | rfl | rfl | rfl | rfl <;> rfl
  · obtain ⟨rfl, hc⟩ := hrl r c h
    rw [vM_rd (Or.inl ⟨rfl, hc⟩) (by decide)]
    show wrI I mI1 (st_c (aM 0 c).1) (aM 0 c).2 = _
    have h332 := st_332
    rcases (show c = 0 ∨ c = 1 ∨ c = 2 ∨ c = 3 ∨ c = 4 ∨ c = 5 ∨ c = 6 ∨ c = 7 ∨ c = 8 by omega) with rfl | rfl | rfl | rfl | rfl | rfl | rfl | rfl | rfl
    · exact rdI_ok (h332 5 (by decide))
    · exact rdI_ok (h332 3 (by decide))
    · exact rdI_ok (h332 6 (by decide))
    · exact rdI_ok (h332 4 (by decide))
    · exact rdI_ok (h332 7 (by decide))
    · exact rdI_ok (h332 8 (by decide))
    · exact rdI_ok (h332 0 (by decide))
    · exact rdI_ok (h332 1 (by decide))
    · exact rdI_ok (h332 2 (by decide))
end Start
