/-! the class reads a text -/
section RS
variable {b : Nat → Int32} {n p : Nat} {σ : Row} {nm : Nm}
theorem sm_of {f : Bool} {r : PRes} (h : stBo b n f σ nm p = r) : stm b n f σ nm p = seK b n r := by unfold stm; rw [h]
theorem stBr_f : stBr b n false σ nm p = .inl (nI 5, tS b n p) := if_pos rfl
theorem stLa_f (h : nLn σ = 4) : stLa b n σ nm p = .inl (nI 5, tS b n p) := if_pos h
theorem stSp_f (h : nS σ = 12) : stSp b n σ nm p = .inl (nI 5, tS b n p) := if_pos h
theorem stGa_f (h : nG σ = 5) : stGa b n σ nm p = .inl (nI 5, tS b n p) := if_pos h
theorem kw_rest (n0 : kwI b n p ≠ nI 0) (n1 : kwI b n p ≠ nI 1) (n2 : kwI b n p ≠ nI 2) (n3 : kwI b n p ≠ nI 3) (n4 : kwI b n p ≠ nI 4) (n5 : kwI b n p ≠ nI 5) (n6 : kwI b n p ≠ nI 6) : kwI b n p = -1 ∨ kwI b n p = nI 7 := by
  rcases kw_cases b n p with h | ⟨j, hj, h⟩
  · exact Or.inl h
  · match j, hj with
    | 0, _ => exact absurd h n0
    | 1, _ => exact absurd h n1
    | 2, _ => exact absurd h n2
    | 3, _ => exact absurd h n3
    | 4, _ => exact absurd h n4
    | 5, _ => exact absurd h n5
    | 6, _ => exact absurd h n6
    | 7, _ => exact Or.inr h
    | j + 8, hj => exact absurd hj (by omega)
end RS
theorem NmR_ini {b : Nat → Int32} {n : Nat} {ρ : Nat → Int32} {nm : Nm} {ds st nu : Nat → Nat} : NmR b n (iniR ρ) nm 0 ds st nu := by
  refine ⟨?_, fun i hi => absurd hi (by omega), fun t k ht hk => ?_, fun t k t' k' ht hk _ _ _ => ?_⟩
  · rw [ini_n.1, ini_n.2.1, ini_n.2.2.1]
  · rw [cN_ini _ _ ht] at hk; omega
  · rw [cN_ini _ _ ht] at hk; omega
theorem GaAt_ini {I : CI} {q : Nat} {ρ : Nat → Int32} (h : GaAt I q (clP (iniR ρ))) : GaAt I q (iniR ρ) := fun x y hx hy => by
  rw [h x y hx hy, ini_pnt hx hy]
  unfold pnt clP clR
  rw [if_pos (by omega)]
  decide
def PEnd (b : Nat → Int32) (n β q : Nat) (r : PRes) (I : CI) : Prop := ∃ τ, Inv τ ∧ BrAt I β τ ∧ GaAt I q τ ∧ I 61 4 = eKd r ∧ I 61 5 = ePo r ∧ (okP r = true → τ = rOf r)
theorem PostC.en {b : Nat → Int32} {n β q : Nat} {r : PRes} {I : CI} {L : CL} (h : ∃ σ9, Inv σ9 ∧ PostC b n β q r σ9 I L) (hG : ∀ π nm p, r = .inr (π, nm, p) → Inv π) : PEnd b n β q r I := by
  obtain ⟨σ9, hi, h⟩ := h
  cases r with
  | inl e => exact ⟨σ9, hi, h.2.2.1, h.2.2.2, h.1, h.2.1, fun z => by cases (show false = true from z)⟩
  | inr e => exact ⟨e.1, hG _ _ _ rfl, h.1, h.2.1, h.2.2.2.2.1, h.2.2.2.2.2, fun _ => rfl⟩
def SRD (β q a j : Nat) : Bool := decide (61 ≤ a ∧ a ≤ 66) || decide (β ≤ a ∧ a ≤ β + 10) || decide (q + 1 ≤ a ∧ a ≤ q + 3)
