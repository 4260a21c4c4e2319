/-! the text as a whole -/
theorem ini_at {ρ : Nat → Int32} {j : Nat} (h : 3 ≤ j) (h2 : j < 248) (h3 : j < 80 ∨ 92 ≤ j) : iniR ρ j = nI 0 := by
  unfold iniR dyR
  rw [if_neg (by omega), upd_ne (by omega), upd_ne (by omega), upd_ne (by omega)]
  exact if_pos h2
theorem Pst.br (d : Nat → Nat → Nat) (ρ : Nat → Int32) : Pst d 0 0 0 0 (upd (upd (upd (iniR ρ) 0 (nI (2 + d 0 5))) 1 (nI (1 + d 1 3))) 2 (nI (d 2 3))) := by
  refine ⟨⟨?_, ?_, ?_, ?_, ?_, ?_⟩, fun x hx => absurd hx (Nat.not_lt_zero x), fun x hx => absurd hx (Nat.not_lt_zero x), fun x hx => absurd hx (Nat.not_lt_zero x), fun y hy => ?_, fun x y hx hy => ?_⟩
  · rw [upd_ne (by omega), upd_ne (by omega), upd_eq]
  · rw [upd_ne (by omega), upd_eq]
  · rw [upd_eq]
  · rw [upd_ne (by omega), upd_ne (by omega), upd_ne (by omega)]; exact ini_at (by omega) (by omega) (by omega)
  · rw [upd_ne (by omega), upd_ne (by omega), upd_ne (by omega)]; exact ini_at (by omega) (by omega) (by omega)
  · rw [upd_ne (by omega), upd_ne (by omega), upd_ne (by omega)]; exact ini_at (by omega) (by omega) (by omega)
  · rw [upd_ne (by omega), upd_ne (by omega), upd_ne (by omega)]; exact ini_at (by omega) (by omega) (by omega)
  · rw [upd_ne (by omega), upd_ne (by omega), upd_ne (by omega)]; exact ini_at (by omega) (by omega) (by omega)
