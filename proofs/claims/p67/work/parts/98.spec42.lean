/-! load -/
theorem inB_hi1 {v : Int32} {m : Nat} (h : ¬ v ≤ nI m) (hn : m < 2 ^ 30) : inB v (m + 1) = false := inB_hi (fun z => h (by
  rw [Int32.lt_iff_toInt_lt, nI_toInt (by omega)] at z
  rw [Int32.le_iff_toInt_le, nI_toInt (by omega)]
  omega)) (by omega)
theorem inB_ok1 {v : Int32} {m : Nat} (h : ¬ v < 0) (h2 : v ≤ nI m) (hn : m < 2 ^ 30) : inB v (m + 1) = true := inB_ok h (by
  rw [Int32.le_iff_toInt_le, nI_toInt (by omega)] at h2
  rw [Int32.lt_iff_toInt_lt, nI_toInt (by omega)]
  omega) (by omega)
def SLe (γ u a j : Nat) : Bool := SRD γ u a j || (a == 0 && (j == 11 || j == 12)) || STx a j
def SLo (γ u a j : Nat) : Bool := SLe γ u a j || SHk a j
theorem SLe_of {γ u a j : Nat} (h : SLe γ u a j = false) : SRD γ u a j = false ∧ (a ≠ 0 ∨ j ≠ 11) ∧ (a ≠ 0 ∨ j ≠ 12) ∧ STx a j = false := by
  unfold SLe at h
  obtain ⟨h1, h3⟩ := Bool.or_eq_false_iff.mp h
  obtain ⟨h1, h2⟩ := Bool.or_eq_false_iff.mp h1
  refine ⟨h1, ?_, ?_, h3⟩
  · by_cases q : a = 0
    · refine Or.inr (fun e => ?_)
      subst q e
      exact absurd h2 (by decide)
    · exact Or.inl q
  · by_cases q : a = 0
    · refine Or.inr (fun e => ?_)
      subst q e
      exact absurd h2 (by decide)
    · exact Or.inl q
theorem SLo_e {γ u a j : Nat} (h : SLe γ u a j = true) : SLo γ u a j = true := by unfold SLo; rw [h]; rfl
theorem SLo_s {γ u a j : Nat} (h : SRD γ u a j = true) : SLo γ u a j = true := by unfold SLo SLe; rw [h]; rfl
theorem SLo_t {γ u a j : Nat} (h : STx a j = true) : SLo γ u a j = true := by unfold SLo SLe; rw [h, Bool.or_true]; rfl
theorem SLo_h {γ u a j : Nat} (h : SHk a j = true) : SLo γ u a j = true := by unfold SLo; rw [h, Bool.or_true]
theorem SLo_0 {γ u j : Nat} (h : j = 11 ∨ j = 12) : SLo γ u 0 j = true := by
  refine SLo_e ?_
  unfold SLe
  rcases h with rfl | rfl <;> simp
