/-! the model's token -/
def TokM (b : Nat → Int32) (n : Nat) (I : CI) (L : CL) (p : Nat) : Prop := I 67 12 = nI (tS b n p) ∧ I 67 13 = nI (tE b n p) ∧ I 67 14 = nI (tK b n p) ∧ I 67 15 = kwI b n p ∧ (tK b n p = 3 → I 67 16 = nI (tV b n p)) ∧ (tK b n p = 2 → L 67 19 = Int64.ofNat (w27 b n (tS b n p)))
def STk (a j : Nat) : Bool := a == 67 && decide (12 ≤ j ∧ j ≤ 16)
def SLk (a j : Nat) : Bool := a == 67 && j == 19
theorem u2L_at {L : CL} {k j : Nat} {v : Int64} : u2L L k j v k j = v := by
  rw [u2L_eq]
  exact if_pos rfl
def nmI (b : Nat → Int32) (z : Nat) : Nat → Int64
  | 0 => 0
  | k + 1 => if k < 8 then 27 * nmI b z k + (b (z + k)).toInt64 - 97 + 1 else nmI b z k
def vlN (b : Nat → Int32) (z : Nat) : Nat → Nat
  | 0 => 0
  | k + 1 => if k < 4 then 10 * vlN b z k + d10 b (z + k) else vlN b z k
theorem vl_wF {b : Nat → Int32} {z : Nat} : ∀ k, k ≤ 4 → vlN b z k = wF 10 (d10 b) z k
  | 0, _ => rfl
  | k + 1, h => by
    show (if k < 4 then _ else _) = 10 * wF 10 (d10 b) z k + d10 b (z + k)
    rw [if_pos (by omega), vl_wF k (by omega)]
theorem i64_step {a v : Nat} (h : 97 ≤ v) (h2 : v ≤ 122) : 27 * Int64.ofNat a + (nI v).toInt64 - 97 + 1 = Int64.ofNat (27 * a + (v - 96)) := by
  have e1 : (nI v).toInt64 = Int64.ofNat v := by
    have : ∀ v, v < 256 → (nI v).toInt64 = Int64.ofNat v := by decide +kernel
    exact this v (by omega)
  obtain ⟨w, rfl⟩ : ∃ w, v = w + 97 := ⟨v - 97, by omega⟩
  have hA : 27 * Int64.ofNat a + Int64.ofNat w = Int64.ofNat (27 * a + w) := by
    rw [Int64.ofNat_add, Int64.ofNat_mul]; rfl
  rw [e1, Int64.ofNat_add w 97, ← Int64.add_assoc, hA]
  rw [show (Int64.ofNat 97) = 97 from rfl, Int64.add_sub_cancel, show 27 * a + (w + 97 - 96) = 27 * a + w + 1 by omega, Int64.ofNat_add (27 * a + w) 1]
  rfl
theorem nm_wF {b : Nat → Int32} {n z : Nat} (hT : TB b n) : ∀ k, k ≤ 8 → (∀ i, i < k → z + i < n ∧ isL (b (z + i)) = true) → nmI b z k = Int64.ofNat (wF 27 (d27 b) z k)
  | 0, _, _ => rfl
  | k + 1, h, hl => by
    obtain ⟨g1, g2⟩ := hl k (by omega)
    obtain ⟨a1, a2, a3, a4⟩ := let_d hT g1 g2
    show (if k < 8 then 27 * nmI b z k + (b (z + k)).toInt64 - 97 + 1 else _) = Int64.ofNat (27 * wF 27 (d27 b) z k + d27 b (z + k))
    rw [if_pos (by omega), nm_wF hT k (by omega) (fun i hi => hl i (by omega)), a1, i64_step a2 a3]
    refine congrArg Int64.ofNat ?_
    rw [a4]
section TKL
variable {b : Nat → Int32} {n p z y : Nat}
theorem tok_let (hs : tS b n p = z) (hz : z < n) (hL : isL (b z) = true) (he : lE b n z = y) : tE b n p = y ∧ tK b n p = (if 8 < y - z then 1 else 2) := by
  have e : tE b n p = y := by
    unfold tE
    rw [hs, if_pos hz, if_pos hL]
    exact he
  refine ⟨e, ?_⟩
  unfold tK
  rw [e, hs, if_pos hz, if_pos hL]
theorem tok_dig (hs : tS b n p = z) (hz : z < n) (hL : isL (b z) = false) (hD : isDg (b z) = true) (he : runE isDg b n z = y) : tE b n p = y ∧ tK b n p = (if 4 < y - z then 1 else 3) := by
  have e : tE b n p = y := by
    unfold tE
    rw [hs, if_pos hz, if_neg (by rw [hL]; decide), if_pos hD]
    exact he
  refine ⟨e, ?_⟩
  unfold tK
  rw [e, hs, if_pos hz, if_neg (by rw [hL]; decide), if_pos hD]
theorem tok_oth (hs : tS b n p = z) (hz : z < n) (hL : isL (b z) = false) (hD : isDg (b z) = false) : tE b n p = z + 1 ∧ tK b n p = (if b z = nI 59 then 4 else 1) := by
  have hL2 : ¬ isL (b z) = true := by rw [hL]; decide
  have hD2 : ¬ isDg (b z) = true := by rw [hD]; decide
  unfold tK tE
  rw [hs]
  simp only [if_pos hz, if_neg hL2, if_neg hD2, and_self]
theorem tok_end (hs : tS b n p = z) (hz : n ≤ z) : tE b n p = z ∧ tK b n p = 0 := by
  unfold tK tE
  rw [hs, if_neg (by omega), if_neg (by omega)]
  exact ⟨rfl, rfl⟩
theorem bA_m1 (hT : TB b n) (h : bA b n z = -1) : n ≤ z := by
  rcases Nat.lt_or_ge z n with q | q
  · obtain ⟨v, hv, e⟩ := hT z q
    rw [bA_in q, e] at h
    exact absurd h (nI_m1 (by omega))
  · exact q
theorem bA_nl (hz : z ≤ n) (h : isL (bA b n z) = false) : z < n → isL (b z) = false := fun q => by rw [bA_in q] at h; exact h
theorem bA_nd (hz : z ≤ n) (h : isDg (bA b n z) = false) : z < n → isDg (b z) = false := fun q => by rw [bA_in q] at h; exact h
theorem bA_l (h : isL (bA b n z) = true) : z < n ∧ isL (b z) = true := by
  rcases Nat.lt_or_ge z n with q | q
  · rw [bA_in q] at h; exact ⟨q, h⟩
  · rw [bA_out q] at h; exact absurd h (by decide)
theorem bA_d (h : isDg (bA b n z) = true) : z < n ∧ isDg (b z) = true := by
  rcases Nat.lt_or_ge z n with q | q
  · rw [bA_in q] at h; exact ⟨q, h⟩
  · rw [bA_out q] at h; exact absurd h (by decide)
end TKL
