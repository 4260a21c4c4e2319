/-! four letters of a text in one number -/
def chT (tx : List Nat) (j : Nat) : Nat := if j < tx.length then tx.getD j 0 else 32
def foT (tx : List Nat) (k : Nat) : Nat → Int32
  | 0 => nI 0
  | i + 1 => (foT tx k i <<< (nI 8 &&& 31)) ||| nI (chT tx (k + i))
theorem chT_in {tx : List Nat} {j : Nat} (h : j < tx.length) : chT tx j = tx.getD j 0 := if_pos h
theorem chT_out {tx : List Nat} {j : Nat} (h : ¬ j < tx.length) : chT tx j = 32 := if_neg h
