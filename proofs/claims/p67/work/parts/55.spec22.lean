/-! the class's automatic plan: candidates by their keys -/
theorem rgS_N {σ : Row} (hd : DR σ) {x : Nat} (hx : x < nS σ) (z : Nat) : (rgS σ x z).1 = nI (tN (rgS σ x z).1) ∧ tN (rgS σ x z).1 ≤ 100 := by
  have h3 := rgZ_le hd hx (ptd σ x) z
  have h4 := rgB_Z hd hx (ptd σ x) z
  have e : (rgS σ x z).1 = nI (rgZ σ x (ptd σ x) z).1 := by
    unfold rgS
    rw [h4]
  rw [e, tN_nI (by omega)]
  exact ⟨rfl, h3.1⟩
theorem fp_N {σ : Row} {x : Nat} (hY : Yn σ ≤ 12) (h : ¬ fp σ x = NOTF) : fp σ x = nI (tN (fp σ x)) ∧ tN (fp σ x) < 12 := by
  rcases fp_cases σ x with h1 | ⟨q, hq, e⟩
  · exact absurd h1 h
  · rw [e, tN_nI (by omega)]
    exact ⟨rfl, by omega⟩
def kY (σ : Row) (y x : Nat) : Nat := kN (tN (fp σ x)) (tN (rgS σ x y).1) x
theorem kY_ahd {σ : Row} (hd : DR σ) (hi : Inv σ) (y : Nat) : ∀ a b, a < nS σ → b < nS σ → cand σ y a = true → cand σ y b = true → (kY σ y a < kY σ y b ↔ ltY σ y a b = true) := by
  obtain ⟨hY, hY1, hY12, hLn, hL4, hSn, hS12, hGn, hG5⟩ := id hi
  refine key_ahd (fy := fyY σ y) (lr := lrY σ y) hS12 (fun a ha ca => ?_)
  have h1 := fp_N hY12 (of_decide_eq_true ca).1
  have h2 := rgS_N hd ha y
  refine ⟨?_, h2.1, by omega, h2.2⟩
  unfold fyY
  rw [if_pos ca]
  exact h1.1
theorem kY_b {σ : Row} (hi : Inv σ) {y x : Nat} (hx : x < nS σ) (hc : cand σ y x = true) : kY σ y x < 2 ^ 31 := by
  obtain ⟨hY, hY1, hY12, hLn, hL4, hSn, hS12, hGn, hG5⟩ := id hi
  have h1 := fp_N hY12 (of_decide_eq_true hc).1
  exact kN_b (by omega) (by omega)
theorem cand_a {σ : Row} {y x : Nat} (h : fp σ x = NOTF) : cand σ y x = false := decide_eq_false (nAl h)
theorem cand_b {σ : Row} {y x : Nat} (h : fp σ x < nI y) : cand σ y x = false := decide_eq_false (fun z => Int32.not_lt.mpr z.2.1 h)
theorem cand_c {σ : Row} {y x : Nat} (h : nI (y + 2) < fp σ x) : cand σ y x = false := decide_eq_false (fun z => Int32.not_lt.mpr z.2.2 h)
theorem cand_d {σ : Row} {y x : Nat} (h1 : ¬ fp σ x = NOTF) (h2 : ¬ fp σ x < nI y) (h3 : ¬ nI (y + 2) < fp σ x) : cand σ y x = true := decide_eq_true ⟨h1, Int32.not_lt.mp h2, Int32.not_lt.mp h3⟩
def SAp (q a j : Nat) : Bool := a == 2 || a == 3 || a == q + 1 || a == q + 2 || a == q + 3
theorem SAp_in {q : Nat} (hq : isPl q) : inC 2 (q + 3) (SAp q) := fun a j h => by
  have : 53 ≤ q := by rcases hq with rfl | rfl <;> omega
  simp only [SAp, Bool.or_eq_true, beq_iff_eq] at h; omega
