theorem am_lookup {r : am_R} {pc : Nat} : ∀ (l : List (Nat × am_R)), l.lookup pc = some r → (pc, r) ∈ l
  | [], h => by simp at h
  | (k, v) :: l, h => by
    rw [List.lookup_cons] at h
    split at h
    · rename_i e
      obtain rfl := Option.some.inj h
      obtain rfl := eq_of_beq e
      exact List.mem_cons_self
    · exact List.mem_cons_of_mem _ (am_lookup l h)
theorem am_oki {d : am_D} {pc : Nat} {r : am_R} (hd : am_okm d = true) (h : am_fe d pc = some r) : am_ok d pc r = true := by
  unfold am_okm at hd
  rw [Bool.and_eq_true] at hd
  unfold am_fe at h
  cases hg : (am_cd d)[pc / 16]? with
  | none => rw [hg] at h; simp at h
  | some g =>
    rw [hg] at h
    have h1 := List.all_eq_true.mp (List.all_eq_true.mp hd.2 g (List.mem_of_getElem? hg)) (pc, r) (am_lookup g h)
    exact h1
