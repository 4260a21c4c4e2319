/-! the invariant of the law's loop: the model's side, the class's side, the rows of the history -/
def MSt (I : CI) (σ : Row) (k n : Nat) (b : Nat → Int32) (U : Nat → Row) (o : Out) : Prop :=
  I 68 = σ ∧ Inv σ ∧ DR σ ∧ I 67 5 = nI k ∧ k ≤ 16 ∧ HisM I k U ∧ I 67 8 = nI n ∧ n ≤ 900 ∧ I 73 = b ∧ TB b n ∧ I 67 38 = nI o.2 ∧ I 85 = o.1 ∧ o.2 ≤ 1152
def CSt (I : CI) (R : CR) (σ : Row) (k n : Nat) (b : Nat → Int32) (U : Nat → Row) (o : Out) (β q γ u nw : Nat) : Prop :=
  isBr β ∧ isPl q ∧ isBr γ ∧ isPl u ∧ γ ≠ β ∧ u ≠ q ∧ R 0 7 = β ∧ R 0 8 = q ∧ R 0 9 = γ ∧ R 0 10 = u ∧ R q 0 = β ∧ BrAt I β σ ∧ PlAt I q σ ∧ HisN I k U nw ∧ TxAt I n b ∧ OuAt I o ∧ I 0 11 = I 67 9 ∧ I 0 12 = I 67 10
def USt (σ : Row) (k : Nat) (U : Nat → Row) : Prop := ∀ t, t < k → Sta σ (U t) ∧ Inv (U t) ∧ DR (U t)
def LSt (I : CI) (R : CR) : Prop := ∃ σ k n b U o β q γ u nw, MSt I σ k n b U o ∧ CSt I R σ k n b U o β q γ u nw ∧ USt σ k U
theorem LSt_0 : LSt I0 R0 := by
  refine ⟨iniR (fun _ => 0), 0, 0, I0 73, fun _ => iniR (fun _ => 0), (I0 85, 0), 31, 57, 42, 53, 15, ?_, ?_, fun t h => absurd h (Nat.not_lt_zero _)⟩
  · exact ⟨rfl, ini_Inv, ini_DR, rfl, by decide, ⟨by decide, fun t j h => absurd h (Nat.not_lt_zero _)⟩, rfl, by decide, rfl, fun i h => absurd h (Nat.not_lt_zero _), rfl, rfl, Nat.zero_le _⟩
  · exact ⟨Or.inl rfl, Or.inr rfl, Or.inr rfl, Or.inl rfl, by decide, by decide, rfl, rfl, rfl, rfl, rfl, (I0_Br _).1, I0_Pl _, I0_His _, I0_Tx _, I0_Ou _, rfl, rfl⟩
