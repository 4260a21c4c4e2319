def SSA (a j : Nat) : Bool := (decide (75 ≤ a ∧ a ≤ 77)) || a == 68 || a == 70 || a == 83 || a == 84 || (a == 67 && (j == 32 || j == 33 || j == 34))
def SST (a j : Nat) : Bool := (decide (75 ≤ a ∧ a ≤ 77)) || a == 68 || a == 70 || a == 83 || a == 84 || (a == 67 && (j == 32 || j == 33 || j == 34 || j == 6))
def SSU (a j : Nat) : Bool := (decide (75 ≤ a ∧ a ≤ 77)) || (decide (68 ≤ a ∧ a ≤ 72)) || a == 83 || a == 84 || (a == 67 && (j == 32 || j == 33 || j == 34 || j == 6 || j == 5))
def saD (σ : Row) (k : Nat) : Nat := tN (fp0 σ (enE σ k))
/-- the search from the bare plan -/
def saR (σ : Row) : RS := srK (enE (clP σ)) (saD (clP σ)) (nG (clP σ)) (enM (clP σ)) 0 (clP σ) 0
theorem saD_row {σ : Row} (hY : Yn σ ≤ 12) {I : CI} (h : rowP I 84 (enM σ) (fun k => fp0 σ (enE σ k))) : rowP I 84 (enM σ) (fun k => nI (saD σ k)) := by
  intro k hk
  obtain ⟨_, q, hq, e⟩ := enE_ok hk
  rw [h k hk]
  unfold saD
  show fp0 σ (enE σ k) = nI (tN (fp0 σ (enE σ k)))
  rw [e, tN_nI (by omega)]
theorem saD_lt {σ : Row} (hY : Yn σ ≤ 12) {k : Nat} (hk : k < enM σ) : saD σ k < Yn σ := by
  obtain ⟨_, q, hq, e⟩ := enE_ok hk
  unfold saD
  rw [e, tN_nI (by omega)]
  exact hq
theorem eqPl_as {I : CI} {σ τ : Row} (h : AsP I σ) : eqPl τ (I 70) = eqPl τ σ := by
  have h1 : ∀ n, n ≤ 144 → allB (fun j => decide (τ (104 + j) = I 70 (104 + j))) n = allB (fun j => decide (τ (104 + j) = σ (104 + j))) n := by
    intro n
    induction n with
    | zero => exact fun _ => rfl
    | succ n ih =>
      intro hn
      show (allB _ n && decide (τ (104 + n) = I 70 (104 + n))) = (allB _ n && decide (τ (104 + n) = σ (104 + n)))
      rw [ih (by omega), h _ (by omega)]
  exact h1 144 (Nat.le_refl _)
def hsR (σ : Row) : Int32 := if (saR σ).1 = 1 then nI 1 else if (saR σ).1 = 2 then GIVU else nI 0
def apO (σ : Row) : Option Row := if (saR σ).1 = 1 then (if eqPl (saR σ).2.1 σ = true then none else some (saR σ).2.1) else none
def apR (σ : Row) : Int32 := if (saR σ).1 = 1 then (if eqPl (saR σ).2.1 σ = true then UNCH else nI (enM (clP σ))) else if (saR σ).1 = 2 then GIVU else NOTF
