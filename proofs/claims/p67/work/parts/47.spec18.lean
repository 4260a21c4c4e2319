theorem nx_or (a b : Nat) : nI a ||| nI b = nI (a ||| b) := by
  apply Int32.toBitVec_inj.1
  show BitVec.ofNat 32 a ||| BitVec.ofNat 32 b = BitVec.ofNat 32 (a ||| b)
  apply BitVec.eq_of_getLsbD_eq
  intro i hi
  simp [hi]
theorem one_shl : ∀ q, q < 4 → nI 1 <<< (nI q &&& 31) = nI (2 ^ q) ∧ 2 ^ q < 16 := by decide +kernel
theorem shu_N {σ : Row} (hd : DR σ) (hi : Inv σ) (y : Nat) : ∀ n, n ≤ nS σ → ∃ k, k < 16 ∧ orT (shF σ y) n = nI k
  | 0, _ => ⟨0, by decide, rfl⟩
  | n + 1, hn => by
    obtain ⟨k, hk, e⟩ := shu_N hd hi y n (by omega)
    have hL4 := hi.2.2.2.2.1
    show ∃ k, k < 16 ∧ orT (shF σ y) n ||| shF σ y n = nI k
    rw [e]
    unfold shF
    by_cases h : pnt σ n y ≠ -1 ∧ σ (10 + 5 * n + 0) ≠ -1
    · rw [if_pos h]
      obtain ⟨q, hq, e2⟩ := (hd.2.2.1 n (by omega)).resolve_left h.2
      obtain ⟨h1, h2⟩ := one_shl q (by omega)
      rw [e2, h1, nx_or]
      exact ⟨k ||| 2 ^ q, Nat.or_lt_two_pow (n := 4) hk h2, rfl⟩
    · rw [if_neg h, nx_or]
      exact ⟨k ||| 0, Nat.or_lt_two_pow (n := 4) hk (by decide), rfl⟩
theorem shuL_N {σ : Row} (hd : DR σ) (hi : Inv σ) (y : Nat) {q : Nat} (hq : q < nLn σ) : ∃ k, k < 32 ∧ shu σ y ||| nI 1 <<< (nI q &&& 31) = nI k := by
  obtain ⟨k, hk, e⟩ := shu_N hd hi y (nS σ) (Nat.le_refl _)
  have hL4 := hi.2.2.2.2.1
  obtain ⟨h1, h2⟩ := one_shl q (by omega)
  refine ⟨k ||| 2 ^ q, ?_, ?_⟩
  · have := Nat.or_lt_two_pow (n := 4) hk h2
    omega
  · unfold shu
    rw [e, h1, nx_or]
theorem PlAt.cell {I : CI} {q : Nat} {σ : Row} (h : PlAt I q σ) {c : Nat} (hc : c < 144) : I (q + 1) c = σ (104 + c) - nI 1 := by
  have h1 := h.1 (c % 12) (c / 12) (by omega) (by omega)
  rw [show c / 12 * 12 + c % 12 = c by omega] at h1
  rw [h1]
  unfold pnt
  rw [show 104 + 12 * (c / 12) + c % 12 = 104 + c by omega]
def cpB (σ : Row) (c : Nat) : Bool := decide (σ (104 + c) - nI 1 ≠ -1)
/-- how many paintings there are -/
def pcN (σ : Row) : Nat := cntB (cpB σ) 144
theorem sub1_inj {a b : Int32} (h : a - nI 1 = b - nI 1) : a = b := by
  have h1 : a - nI 1 + nI 1 = b - nI 1 + nI 1 := by rw [h]
  rw [Int32.sub_add_cancel, Int32.sub_add_cancel] at h1
  exact h1
