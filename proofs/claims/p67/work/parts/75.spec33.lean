/-! the class's token, its names -/
def cK (k : Nat) : Nat := if k = 1 then 4 else if k = 0 then 0 else k - 1
def TokC (b : Nat → Int32) (n : Nat) (I : CI) (L : CL) (p : Nat) : Prop := I 66 2 = nI (tS b n p) ∧ I 66 3 = nI (tE b n p) ∧ I 66 4 = nI (cK (tK b n p)) ∧ (tK b n p = 3 → I 66 5 = nI (tV b n p)) ∧ (tK b n p = 2 → L 66 6 = Int64.ofNat (w256 b n (tS b n p)))
def STe (a j : Nat) : Bool := a == 66 && j == 3
def STd (a j : Nat) : Bool := a == 66 && (j == 3 || j == 5)
def STc (a j : Nat) : Bool := a == 66 && decide (2 ≤ j ∧ j ≤ 5)
def SLc (a j : Nat) : Bool := a == 66 && j == 6
def wdI (b : Nat → Int32) (z : Nat) : Nat → Int64
  | 0 => 0
  | k + 1 => wdI b z k <<< ((nI 8).toInt64 &&& 63) ||| (sg (b (z + k))).toInt64
theorem i64_shl {a v : Nat} (hv : v < 256) : Int64.ofNat a <<< ((nI 8).toInt64 &&& 63) ||| Int64.ofNat v = Int64.ofNat (256 * a + v) := by
  apply Int64.toBitVec_inj.mp
  have e1 : ((nI 8).toInt64 &&& 63).toBitVec = 8#64 := by decide
  show (BitVec.ofNat 64 a <<< (((nI 8).toInt64 &&& 63).toBitVec.smod 64)) ||| BitVec.ofNat 64 v = BitVec.ofNat 64 (256 * a + v)
  rw [e1]
  have e2 : ((8#64 : BitVec 64).smod 64) = 8#64 := by decide
  rw [e2]
  apply BitVec.eq_of_toNat_eq
  show ((BitVec.ofNat 64 a <<< (8#64).toNat) ||| BitVec.ofNat 64 v).toNat = _
  have e3 : (8#64 : BitVec 64).toNat = 8 := by decide
  rw [e3, BitVec.toNat_or, BitVec.toNat_shiftLeft, BitVec.toNat_ofNat, BitVec.toNat_ofNat, BitVec.toNat_ofNat, Nat.mod_eq_of_lt (show v < 2 ^ 64 by omega)]
  apply Nat.eq_of_testBit_eq
  intro i
  rw [Nat.testBit_or, Nat.testBit_mod_two_pow, Nat.testBit_mod_two_pow, Nat.testBit_shiftLeft, Nat.testBit_mod_two_pow]
  have e4 : 256 * a + v = a <<< 8 ||| v := by
    rw [Nat.shiftLeft_eq, Nat.mul_comm]
    rw [show a * 256 = a * 2 ^ 8 by rfl, ← Nat.shiftLeft_eq]
    exact Nat.shiftLeft_add_eq_or_of_lt hv a
  rw [e4, Nat.testBit_or, Nat.testBit_shiftLeft]
  by_cases h : i < 64
  · rw [decide_eq_true h, Bool.true_and, Bool.true_and]
    by_cases h8 : 8 ≤ i
    · rw [decide_eq_true (show i - 8 < 64 by omega)]
      simp [h8]
    · simp [h8]
  · rw [decide_eq_false h, Bool.false_and, Bool.false_and, Bool.false_or, Nat.testBit_lt_two_pow (show v < 2 ^ i from Nat.lt_of_lt_of_le hv (show 2 ^ 8 ≤ 2 ^ i from Nat.pow_le_pow_right (by decide) (by omega)))]
theorem sgL_64 {v : Nat} (h : v ≤ 122) : (sg (nI v)).toInt64 = Int64.ofNat v := by
  have : ∀ v, v < 123 → (sg (nI v)).toInt64 = Int64.ofNat v := by decide +kernel
  exact this v (by omega)
theorem wd_wF {b : Nat → Int32} {n z : Nat} (hT : TB b n) : ∀ k, (∀ i, i < k → z + i < n ∧ isL (b (z + i)) = true) → wdI b z k = Int64.ofNat (wF 256 (dBy b) z k)
  | 0, _ => rfl
  | k + 1, hl => by
    obtain ⟨g1, g2⟩ := hl k (by omega)
    obtain ⟨a1, a2, a3, a4⟩ := let_d hT g1 g2
    show wdI b z k <<< ((nI 8).toInt64 &&& 63) ||| (sg (b (z + k))).toInt64 = Int64.ofNat (256 * wF 256 (dBy b) z k + dBy b (z + k))
    rw [wd_wF hT k (fun i hi => hl i (by omega)), ← i64_shl (show dBy b (z + k) < 256 by omega)]
    have e : (sg (b (z + k))).toInt64 = Int64.ofNat (dBy b (z + k)) := by rw [a1, sgL_64 a3]
    rw [e]
section CL
variable {b : Nat → Int32} {n z : Nat}
theorem cl_nL (hT : TB b n) (h : sg (b z) < nI 97 ∨ nI 122 < sg (b z)) : z < n → isL (b z) = false := fun hz => by
  obtain ⟨v, hv, e⟩ := hT z hz
  rw [e] at h ⊢
  rw [← (sg_is hv).1]
  unfold isL
  exact decide_eq_false (fun w => h.elim (Int32.not_lt.mpr w.1) (Int32.not_lt.mpr w.2))
theorem cl_yL (hT : TB b n) (hz : z < n) (h1 : ¬ sg (b z) < nI 97) (h2 : ¬ nI 122 < sg (b z)) : isL (b z) = true := by
  obtain ⟨v, hv, e⟩ := hT z hz
  rw [e] at h1 h2 ⊢
  rw [← (sg_is hv).1]
  unfold isL
  exact decide_eq_true ⟨Int32.not_lt.mp h1, Int32.not_lt.mp h2⟩
theorem cl_nD (hT : TB b n) (h : sg (b z) < nI 48 ∨ nI 57 < sg (b z)) : z < n → isDg (b z) = false := fun hz => by
  obtain ⟨v, hv, e⟩ := hT z hz
  rw [e] at h ⊢
  rw [← (sg_is hv).2.1]
  unfold isDg
  exact decide_eq_false (fun w => h.elim (Int32.not_lt.mpr w.1) (Int32.not_lt.mpr w.2))
theorem cl_yD (hT : TB b n) (hz : z < n) (h1 : ¬ sg (b z) < nI 48) (h2 : ¬ nI 57 < sg (b z)) : isDg (b z) = true := by
  obtain ⟨v, hv, e⟩ := hT z hz
  rw [e] at h1 h2 ⊢
  rw [← (sg_is hv).2.1]
  unfold isDg
  exact decide_eq_true ⟨Int32.not_lt.mp h1, Int32.not_lt.mp h2⟩
theorem cl_S (hT : TB b n) (hz : z < n) : isSp (b z) = true ↔ (sg (b z) = nI 32 ∨ sg (b z) = nI 10) := by
  obtain ⟨v, hv, e⟩ := hT z hz
  rw [e, ← (sg_is hv).2.2.1]
  unfold isSp
  rw [decide_eq_true_eq]
  exact Iff.rfl
theorem cl_59 (hT : TB b n) (hz : z < n) : sg (b z) = nI 59 ↔ b z = nI 59 := by
  obtain ⟨v, hv, e⟩ := hT z hz
  rw [e]
  exact (sg_is hv).2.2.2
theorem cl_dg (hT : TB b n) (hz : z < n) (h : isDg (b z) = true) : sg (b z) = nI (48 + d10 b z) := by
  obtain ⟨h1, h2⟩ := dig_d hT hz h
  rw [h1]
  exact sg_low7 (by omega)
end CL
/-- the names in the order of their declarations: where each begins, its sort, its number -/
def NmC (b : Nat → Int32) (n : Nat) (I : CI) (L : CL) (N : Nat) (ds st nu : Nat → Nat) : Prop := I 62 3 = nI N ∧ N ≤ 21 ∧ ∀ i, i < N → VP b n (ds i) ∧ L 63 i = Int64.ofNat (w256 b n (ds i)) ∧ I 64 i = nI (st i) ∧ I 65 i = nI (nu i)
def SNa (a j : Nat) : Bool := (a == 62 && j == 3) || a == 64 || a == 65
def SLn (a j : Nat) : Bool := a == 63
theorem i64_inj {a c : Nat} (ha : a < 2 ^ 63) (hc : c < 2 ^ 63) (h : Int64.ofNat a = Int64.ofNat c) : a = c := by
  have h1 : (Int64.ofNat a).toInt = (Int64.ofNat c).toInt := by rw [h]
  rw [Int64.toInt_ofNat_of_lt ha, Int64.toInt_ofNat_of_lt hc] at h1
  omega
def dcC (b : Nat → Int32) (n : Nat) (N : Nat) (ds : Nat → Nat) (w : Nat) : Nat := fstN (fun i => decide (w256 b n (ds i) = w)) N
def nuC (b : Nat → Int32) (n : Nat) (N : Nat) (ds st : Nat → Nat) (w so : Nat) : Nat := fstN (fun i => decide (w256 b n (ds i) = w) && decide (st i = so)) N
