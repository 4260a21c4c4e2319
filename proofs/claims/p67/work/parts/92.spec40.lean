/-! the class reads statements -/
theorem ptd_pos {σ : Row} {x y : Nat} (hi : Inv σ) (hd : DR σ) (hx : x < 12) (hy : y < 12) : ptd σ x y = decide (0 < σ (104 + 12 * y + x)) := by
  have hG5 := hi.2.2.2.2.2.2.2.2
  have e : σ (104 + 12 * y + x) = pnt σ x y + nI 1 := by unfold pnt; rw [Int32.sub_add_cancel]
  unfold ptd
  rw [e]
  rcases hd.2.1 x y hx hy with h | ⟨g, hg, _, _, h⟩
  · rw [h]; decide
  · rw [h]
    have k : ∀ g, g < 5 → decide (nI g ≠ -1) = decide (0 < nI g + nI 1) := by decide
    exact k g (by omega)
