/-! the text of a span, the numbers drawn -/
def SAt (a j : Nat) : Bool := a == 67 && j == 1
def SSn (a j : Nat) : Bool := (a == 67 && j == 1) || decide (69 ≤ a ∧ a ≤ 73)
theorem SAt_SSn {a j : Nat} (h : SAt a j = true) : SSn a j = true := by unfold SAt at h; unfold SSn; rw [h]; rfl
theorem ln_ge {d : Nat} (hd : d < 1000) : 0 ≤ nI d - nI 1 ↔ 1 ≤ d := by
  rw [Int32.le_iff_toInt_le, Int32.toInt_sub, nI_toInt (by omega), nI_toInt (by omega), Int.bmod_eq_of_le_mul_two (by omega) (by omega), Int32.toInt_zero]
  omega
theorem chr6 : ∀ c, c < 128 → ((nI c).toUInt32 % 65536).toInt32 = nI c := chr2
def laneT (d : Nat) : List Nat := if d = 0 then [110, 111, 110, 101] else [] ++ [108] ++ [97 + (d - 1)]
def spanT (k d a r t m : Nat) : List Nat := [] ++ [115, 112, 97, 110, 32, 115] ++ [97 + k] ++ [32] ++ laneT d ++ [32] ++ dec2 a ++ [32] ++ dec2 r ++ [32] ++ dec2 t ++ [32] ++ dec2 m ++ [59]
theorem dec2_le (x : Nat) : (dec2 x).length ≤ 2 := by rw [dec2_len]; split <;> omega
