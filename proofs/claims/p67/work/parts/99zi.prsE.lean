/-! the row that the law's text gives, as it grows -/
def DC2 (d : Nat → Nat → Nat) : Nat := 6 + 5 * (1 + d 4 5)
def DC3 (d : Nat → Nat → Nat) : Nat := 6 + 5 * (1 + d 4 5) + 2 * (1 + d 5 2)
def Pst (d : Nat → Nat → Nat) (k1 k2 k3 k4 : Nat) (σ : Row) : Prop :=
  (σ 0 = nI (2 + d 0 5) ∧ σ 1 = nI (1 + d 1 3) ∧ σ 2 = nI (d 2 3) ∧ σ 3 = nI k1 ∧ σ 4 = nI k2 ∧ σ 5 = nI k3) ∧
  (∀ x, x < k2 → σ (10 + 5 * x + 0) = nI (d (6 + 5 * x) (1 + d 3 3 + 1)) - nI 1 ∧ σ (10 + 5 * x + 1) = nI (1 + d (6 + 5 * x + 1) 30) ∧ σ (10 + 5 * x + 2) = nI (d (6 + 5 * x + 2) 60) ∧ σ (10 + 5 * x + 3) = nI (1 + d (6 + 5 * x + 3) 20) ∧ σ (10 + 5 * x + 4) = nI (30 + d (6 + 5 * x + 4) 60)) ∧
  (∀ g, g < k3 → σ (70 + 2 * g + 0) = nI (1 + d (DC2 d + 2 * g) 8)) ∧ (∀ y, y < k4 → σ (80 + y) = nI (d (DC3 d + y) 30)) ∧
  (∀ y, y < 12 → σ (92 + y) = nI 0) ∧ ∀ x y, x < 12 → y < 12 → σ (104 + 12 * y + x) = nI 0
section PW
variable {d : Nat → Nat → Nat} {k1 k2 k3 k4 : Nat} {σ : Row}
theorem Pst.n (h : Pst d k1 k2 k3 k4 σ) (h1 : k1 < 100) (h2 : k2 < 100) (h3 : k3 < 100) : nLn σ = k1 ∧ nS σ = k2 ∧ nG σ = k3 ∧ cN σ 0 = k1 ∧ cN σ 1 = k2 ∧ cN σ 2 = k3 := by
  have e1 : nLn σ = k1 := by show (σ 3).toNatClampNeg = k1; rw [h.1.2.2.2.1]; exact nI_clamp (by omega)
  have e2 : nS σ = k2 := by show (σ 4).toNatClampNeg = k2; rw [h.1.2.2.2.2.1]; exact nI_clamp (by omega)
  have e3 : nG σ = k3 := by show (σ 5).toNatClampNeg = k3; rw [h.1.2.2.2.2.2]; exact nI_clamp (by omega)
  exact ⟨e1, e2, e3, e1, e2, e3⟩
theorem Pst.lane (h : Pst d k1 0 0 0 σ) (hk : k1 < 4) {v : Int32} : Pst d (k1 + 1) 0 0 0 (adL σ v) := by
  obtain ⟨e1, -, -, -⟩ := h.n (by omega) (by omega) (by omega)
  obtain ⟨⟨a1, a2, a3, a4, a5, a6⟩, -, -, -, b1, b2⟩ := h
  unfold adL
  rw [e1]
  refine ⟨⟨?_, ?_, ?_, ?_, ?_, ?_⟩, fun x hx => absurd hx (Nat.not_lt_zero x), fun x hx => absurd hx (Nat.not_lt_zero x), fun x hx => absurd hx (Nat.not_lt_zero x), fun y hy => ?_, fun x y hx hy => ?_⟩
  · rw [upd_ne (by omega), upd_ne (by omega)]; exact a1
  · rw [upd_ne (by omega), upd_ne (by omega)]; exact a2
  · rw [upd_ne (by omega), upd_ne (by omega)]; exact a3
  · rw [upd_eq]
  · rw [upd_ne (by omega), upd_ne (by omega)]; exact a5
  · rw [upd_ne (by omega), upd_ne (by omega)]; exact a6
  · rw [upd_ne (by omega), upd_ne (by omega)]; exact b1 y hy
  · rw [upd_ne (by omega), upd_ne (by omega)]; exact b2 x y hx hy
theorem Pst.span (h : Pst d k1 k2 0 0 σ) (h1 : k1 ≤ 4) (hk : k2 < 5) : Pst d k1 (k2 + 1) 0 0 (adS σ (nI (d (6 + 5 * k2) (1 + d 3 3 + 1)) - nI 1) (nI (1 + d (6 + 5 * k2 + 1) 30)) (nI (d (6 + 5 * k2 + 2) 60)) (nI (1 + d (6 + 5 * k2 + 3) 20)) (nI (30 + d (6 + 5 * k2 + 4) 60))) := by
  obtain ⟨-, e2, -, -⟩ := h.n (by omega) (by omega) (by omega)
  obtain ⟨⟨a1, a2, a3, a4, a5, a6⟩, s1, -, -, b1, b2⟩ := h
  unfold adS
  rw [e2]
  refine ⟨⟨?_, ?_, ?_, ?_, ?_, ?_⟩, fun x hx => ?_, fun x hx => absurd hx (Nat.not_lt_zero x), fun x hx => absurd hx (Nat.not_lt_zero x), fun y hy => ?_, fun x y hx hy => ?_⟩
  · rw [upd_ne (by omega), upd_ne (by omega), upd_ne (by omega), upd_ne (by omega), upd_ne (by omega), upd_ne (by omega)]; exact a1
  · rw [upd_ne (by omega), upd_ne (by omega), upd_ne (by omega), upd_ne (by omega), upd_ne (by omega), upd_ne (by omega)]; exact a2
  · rw [upd_ne (by omega), upd_ne (by omega), upd_ne (by omega), upd_ne (by omega), upd_ne (by omega), upd_ne (by omega)]; exact a3
  · rw [upd_ne (by omega), upd_ne (by omega), upd_ne (by omega), upd_ne (by omega), upd_ne (by omega), upd_ne (by omega)]; exact a4
  · rw [upd_eq]
  · rw [upd_ne (by omega), upd_ne (by omega), upd_ne (by omega), upd_ne (by omega), upd_ne (by omega), upd_ne (by omega)]; exact a6
  · by_cases e : x = k2
    · subst e
      refine ⟨?_, ?_, ?_, ?_, ?_⟩
      · rw [upd_ne (by omega), upd_ne (by omega), upd_ne (by omega), upd_ne (by omega), upd_ne (by omega), upd_eq]
      · rw [upd_ne (by omega), upd_ne (by omega), upd_ne (by omega), upd_ne (by omega), upd_eq]
      · rw [upd_ne (by omega), upd_ne (by omega), upd_ne (by omega), upd_eq]
      · rw [upd_ne (by omega), upd_ne (by omega), upd_eq]
      · rw [upd_ne (by omega), upd_eq]
    · have g := s1 x (by omega)
      refine ⟨?_, ?_, ?_, ?_, ?_⟩
      · rw [upd_ne (by omega), upd_ne (by omega), upd_ne (by omega), upd_ne (by omega), upd_ne (by omega), upd_ne (by omega)]; exact g.1
      · rw [upd_ne (by omega), upd_ne (by omega), upd_ne (by omega), upd_ne (by omega), upd_ne (by omega), upd_ne (by omega)]; exact g.2.1
      · rw [upd_ne (by omega), upd_ne (by omega), upd_ne (by omega), upd_ne (by omega), upd_ne (by omega), upd_ne (by omega)]; exact g.2.2.1
      · rw [upd_ne (by omega), upd_ne (by omega), upd_ne (by omega), upd_ne (by omega), upd_ne (by omega), upd_ne (by omega)]; exact g.2.2.2.1
      · rw [upd_ne (by omega), upd_ne (by omega), upd_ne (by omega), upd_ne (by omega), upd_ne (by omega), upd_ne (by omega)]; exact g.2.2.2.2
  · rw [upd_ne (by omega), upd_ne (by omega), upd_ne (by omega), upd_ne (by omega), upd_ne (by omega), upd_ne (by omega)]; exact b1 y hy
  · rw [upd_ne (by omega), upd_ne (by omega), upd_ne (by omega), upd_ne (by omega), upd_ne (by omega), upd_ne (by omega)]; exact b2 x y hx hy
theorem Pst.gang (h : Pst d k1 k2 k3 0 σ) (h1 : k1 ≤ 4) (h2 : k2 ≤ 5) (hk : k3 < 2) {v : Int32} : Pst d k1 k2 (k3 + 1) 0 (adG σ (nI (1 + d (DC2 d + 2 * k3) 8)) v) := by
  obtain ⟨-, -, e3, -⟩ := h.n (by omega) (by omega) (by omega)
  obtain ⟨⟨a1, a2, a3, a4, a5, a6⟩, s1, g1, -, b1, b2⟩ := h
  unfold adG
  rw [e3]
  refine ⟨⟨?_, ?_, ?_, ?_, ?_, ?_⟩, fun x hx => ?_, fun g hg => ?_, fun x hx => absurd hx (Nat.not_lt_zero x), fun y hy => ?_, fun x y hx hy => ?_⟩
  · rw [upd_ne (by omega), upd_ne (by omega), upd_ne (by omega)]; exact a1
  · rw [upd_ne (by omega), upd_ne (by omega), upd_ne (by omega)]; exact a2
  · rw [upd_ne (by omega), upd_ne (by omega), upd_ne (by omega)]; exact a3
  · rw [upd_ne (by omega), upd_ne (by omega), upd_ne (by omega)]; exact a4
  · rw [upd_ne (by omega), upd_ne (by omega), upd_ne (by omega)]; exact a5
  · rw [upd_eq]
  · rw [upd_ne (by omega), upd_ne (by omega), upd_ne (by omega), upd_ne (by omega), upd_ne (by omega), upd_ne (by omega), upd_ne (by omega), upd_ne (by omega), upd_ne (by omega), upd_ne (by omega), upd_ne (by omega), upd_ne (by omega), upd_ne (by omega), upd_ne (by omega), upd_ne (by omega)]; exact s1 x hx
  · rw [upd_ne (by omega), upd_ne (by omega)]
    by_cases e : g = k3
    · subst e; rw [upd_eq]
    · rw [upd_ne (by omega)]; exact g1 g (by omega)
  · rw [upd_ne (by omega), upd_ne (by omega), upd_ne (by omega)]; exact b1 y hy
  · rw [upd_ne (by omega), upd_ne (by omega), upd_ne (by omega)]; exact b2 x y hx hy
theorem Pst.day (h : Pst d k1 k2 k3 k4 σ) (hk : k4 < 12) (h2 : k2 ≤ 5) (h3 : k3 ≤ 2) : Pst d k1 k2 k3 (k4 + 1) (upd σ (80 + k4) (nI (d (DC3 d + k4) 30))) := by
  obtain ⟨⟨a1, a2, a3, a4, a5, a6⟩, s1, g1, y1, b1, b2⟩ := h
  refine ⟨⟨?_, ?_, ?_, ?_, ?_, ?_⟩, fun x hx => ?_, fun g hg => ?_, fun y hy => ?_, fun y hy => ?_, fun x y hx hy => ?_⟩
  · rw [upd_ne (by omega)]; exact a1
  · rw [upd_ne (by omega)]; exact a2
  · rw [upd_ne (by omega)]; exact a3
  · rw [upd_ne (by omega)]; exact a4
  · rw [upd_ne (by omega)]; exact a5
  · rw [upd_ne (by omega)]; exact a6
  · rw [upd_ne (by omega), upd_ne (by omega), upd_ne (by omega), upd_ne (by omega), upd_ne (by omega)]; exact s1 x hx
  · rw [upd_ne (by omega)]; exact g1 g hg
  · by_cases e : y = k4
    · subst e; rw [upd_eq]
    · rw [upd_ne (by omega)]; exact y1 y (by omega)
  · rw [upd_ne (by omega)]; exact b1 y hy
  · rw [upd_ne (by omega)]; exact b2 x y hx hy
end PW
