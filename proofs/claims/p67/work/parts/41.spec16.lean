/-- the JDK's bit count of a small number -/
theorem bc_small : ∀ k, k < 32 → (let a := nI k - ((((nI k).toUInt32 >>> ((nI 1).toUInt32 &&& Int32.toUInt32 31)).toInt32) &&& 1431655765); let b := (a &&& 858993459) + (((a.toUInt32 >>> ((nI 2).toUInt32 &&& Int32.toUInt32 31)).toInt32) &&& 858993459); let c := (b + (b.toUInt32 >>> ((nI 4).toUInt32 &&& Int32.toUInt32 31)).toInt32) &&& 252645135; let d := c + (c.toUInt32 >>> ((nI 8).toUInt32 &&& Int32.toUInt32 31)).toInt32; let f := d + (d.toUInt32 >>> ((nI 16).toUInt32 &&& Int32.toUInt32 31)).toInt32; f &&& nI 63) = cnt16 (nI k) := by decide +kernel
def flR (f : Nat → Int32) (v : Int32) (n : Nat) : Nat → Int32 := fun j => if j < n then v else f j
theorem flR_0 {f : Nat → Int32} {v : Int32} : flR f v 0 = f := by
  funext j
  unfold flR
  rw [if_neg (by omega)]
theorem flR_s {f : Nat → Int32} {v : Int32} {n : Nat} : upd (flR f v n) n v = flR f v (n + 1) := by
  funext j
  by_cases e : j = n
  · rw [e, upd_eq]
    unfold flR
    rw [if_pos (by omega)]
  · rw [upd_ne e]
    unfold flR
    by_cases q : j < n
    · rw [if_pos q, if_pos (by omega)]
    · rw [if_neg q, if_neg (by omega)]
