/-! what the search answers -/
theorem cd_eq (c : Nat) : cdI c = if c = 1 then nI 1 else if c = 2 then GIVU else nI 0 := rfl
theorem cdI_2 {c : Nat} (h : cdI c = -1000008) : ¬ c = 1 ∧ c = 2 := by
  rw [cd_eq] at h
  by_cases e : c = 1
  · rw [if_pos e] at h; exact absurd h (by decide)
  · rw [if_neg e] at h
    by_cases e2 : c = 2
    · exact ⟨e, e2⟩
    · rw [if_neg e2] at h; exact absurd h (by decide)
theorem cdI_3 {c : Nat} (h : cdI c = 0) (h2 : ¬ cdI c = -1000008) : ¬ c = 1 ∧ ¬ c = 2 := by
  rw [cd_eq] at h
  by_cases e : c = 1
  · rw [if_pos e] at h; exact absurd h (by decide)
  · rw [if_neg e] at h
    by_cases e2 : c = 2
    · rw [if_pos e2] at h; exact absurd h (by decide)
    · exact ⟨e, e2⟩
theorem cdI_1 {c : Nat} (h2 : ¬ cdI c = -1000008) (h : ¬ cdI c = 0) : c = 1 := by
  rw [cd_eq] at h h2
  by_cases e : c = 1
  · exact e
  · rw [if_neg e] at h h2
    by_cases e2 : c = 2
    · rw [if_pos e2] at h2; exact absurd rfl h2
    · rw [if_neg e2] at h; exact absurd rfl h
