/-! the rest of the statements of the model -/
theorem kwI_7 {b : Nat → Int32} {n p : Nat} (h : kwI b n p = nI 7) : tK b n p = 2 := kwI_2 (by rw [h]; decide)
theorem lnOk_7 {b : Nat → Int32} {n p : Nat} {σ : Row} {nm : Nm} (h : kwI b n p = nI 7) : lnOk b n σ nm p = true ∧ lnV b n σ nm p = -1 := ⟨by unfold lnOk; rw [h]; rfl, if_pos h⟩
theorem lnOk_o {b : Nat → Int32} {n p : Nat} {σ : Row} {nm : Nm} (h : kwI b n p ≠ nI 7) : lnOk b n σ nm p = onOk b n σ nm 0 p ∧ lnV b n σ nm p = nI (fk b n σ nm 0 (tS b n p)) := ⟨by unfold lnOk; rw [decide_eq_false h, Bool.false_or], if_neg h⟩
