/-! tokens of a text -/
theorem runE_step {f : Int32 → Bool} {b : Nat → Int32} {n z : Nat} (hz : z < n) (h : f (b z) = true) : runE f b n z = runE f b n (z + 1) := by
  symm
  refine runE_eq (p := z + 1) ?_ (runE_le (by omega)) (fun y h1 h2 => runE_in (by omega) h2) (fun h1 => runE_end h1)
  have h1 := runE_ge (f := f) (b := b) (n := n) (p := z)
  rcases Nat.lt_or_ge z (runE f b n z) with q | q
  · exact q
  · have e : runE f b n z = z := by omega
    have h2 := runE_end (f := f) (b := b) (n := n) (p := z) (by omega)
    rw [e, h] at h2
    cases h2
theorem runE_stop {f : Int32 → Bool} {b : Nat → Int32} {n z : Nat} (hz : z ≤ n) (h : z < n → f (b z) = false) : runE f b n z = z := runE_eq (Nat.le_refl _) hz (fun y h1 h2 => by omega) h
theorem runE_gt {f : Int32 → Bool} {b : Nat → Int32} {n z : Nat} (hz : z < n) (h : f (b z) = true) : z < runE f b n z := by
  rw [runE_step hz h]
  exact runE_ge
/-- a number put together from digits -/
def wF (B : Nat) (d : Nat → Nat) (s : Nat) : Nat → Nat
  | 0 => 0
  | k + 1 => B * wF B d s k + d (s + k)
theorem wF_lt {B : Nat} {d : Nat → Nat} {s : Nat} (hB : 0 < B) : ∀ k, (∀ i, i < k → d (s + i) < B) → wF B d s k < B ^ k
  | 0, _ => by show 0 < 1; omega
  | k + 1, h => by
    have h1 := wF_lt (d := d) (s := s) hB k (fun i hi => h i (by omega))
    have h2 := h k (by omega)
    show B * wF B d s k + d (s + k) < B ^ (k + 1)
    rw [Nat.pow_succ, Nat.mul_comm (B ^ k) B]
    have h3 : B * (wF B d s k + 1) ≤ B * B ^ k := Nat.mul_le_mul_left _ h1
    rw [Nat.mul_add] at h3
    omega
theorem wF_inj {B : Nat} {d e : Nat → Nat} {s t : Nat} (hB : 0 < B) : ∀ k j, (∀ i, i < k → 1 ≤ d (s + i) ∧ d (s + i) < B) → (∀ i, i < j → 1 ≤ e (t + i) ∧ e (t + i) < B) → (wF B d s k = wF B e t j ↔ k = j ∧ ∀ i, i < k → d (s + i) = e (t + i))
  | 0, 0, _, _ => ⟨fun _ => ⟨rfl, fun i hi => absurd hi (Nat.not_lt_zero _)⟩, fun _ => rfl⟩
  | 0, j + 1, _, h2 => by
    have h3 := (h2 j (by omega)).1
    refine ⟨fun h => ?_, fun h => absurd h.1 (by omega)⟩
    have h4 : 0 = B * wF B e t j + e (t + j) := h
    omega
  | k + 1, 0, h1, _ => by
    have h3 := (h1 k (by omega)).1
    refine ⟨fun h => ?_, fun h => absurd h.1 (by omega)⟩
    have h4 : B * wF B d s k + d (s + k) = 0 := h
    omega
  | k + 1, j + 1, h1, h2 => by
    have ih := wF_inj (d := d) (e := e) (s := s) (t := t) hB k j (fun i hi => h1 i (by omega)) (fun i hi => h2 i (by omega))
    have g1 := (h1 k (by omega)).2
    have g2 := (h2 j (by omega)).2
    constructor
    · intro h
      have h4 : B * wF B d s k + d (s + k) = B * wF B e t j + e (t + j) := h
      have m1 : (B * wF B d s k + d (s + k)) % B = d (s + k) := by rw [Nat.mul_add_mod, Nat.mod_eq_of_lt g1]
      have m2 : (B * wF B e t j + e (t + j)) % B = e (t + j) := by rw [Nat.mul_add_mod, Nat.mod_eq_of_lt g2]
      have m3 : d (s + k) = e (t + j) := by rw [← m1, ← m2, h4]
      have m4 : wF B d s k = wF B e t j := Nat.eq_of_mul_eq_mul_left hB (by omega)
      obtain ⟨h5, h6⟩ := ih.mp m4
      subst h5
      refine ⟨rfl, fun i hi => ?_⟩
      rcases Nat.lt_succ_iff_lt_or_eq.mp hi with q | q
      · exact h6 i q
      · rw [q]; exact m3
    · rintro ⟨h5, h6⟩
      have h7 : k = j := by omega
      subst h7
      have m4 := ih.mpr ⟨rfl, fun i hi => h6 i (by omega)⟩
      show B * wF B d s k + d (s + k) = B * wF B e t k + e (t + k)
      rw [m4, h6 k (by omega)]
def TB (b : Nat → Int32) (n : Nat) : Prop := ∀ i, i < n → ∃ v, v ≤ 255 ∧ b i = nI v
section TK
variable (b : Nat → Int32) (n : Nat)
def tS (p : Nat) : Nat := runE isSp b n p
def lE (s : Nat) : Nat := runE isL b n s
def tE (p : Nat) : Nat := if tS b n p < n then (if isL (b (tS b n p)) = true then runE isL b n (tS b n p) else if isDg (b (tS b n p)) = true then runE isDg b n (tS b n p) else tS b n p + 1) else tS b n p
def tK (p : Nat) : Nat := if tS b n p < n then (if isL (b (tS b n p)) = true then (if 8 < tE b n p - tS b n p then 1 else 2) else if isDg (b (tS b n p)) = true then (if 4 < tE b n p - tS b n p then 1 else 3) else if b (tS b n p) = nI 59 then 4 else 1) else 0
def d27 (i : Nat) : Nat := tN (b i) - 96
def dBy (i : Nat) : Nat := tN (b i)
def d10 (i : Nat) : Nat := tN (b i) - 48
def tV (p : Nat) : Nat := wF 10 (d10 b) (tS b n p) (tE b n p - tS b n p)
/-- a word's number, by the place where it begins: as the model holds it, as the class does -/
def w27 (s : Nat) : Nat := wF 27 (d27 b) s (lE b n s - s)
def w256 (s : Nat) : Nat := wF 256 (dBy b) s (lE b n s - s)
/-- a place where a word begins -/
def VP (s : Nat) : Prop := s < n ∧ isL (b s) = true ∧ lE b n s - s ≤ 8
end TK
section TL
variable {b : Nat → Int32} {n : Nat}
theorem tS_ge {p : Nat} : p ≤ tS b n p := runE_ge
theorem tS_le {p : Nat} (h : p ≤ n) : tS b n p ≤ n := runE_le h
theorem tE_ge {p : Nat} : tS b n p ≤ tE b n p := by
  unfold tE
  split
  · split
    · exact runE_ge
    · split
      · exact runE_ge
      · omega
  · exact Nat.le_refl _
theorem tE_le {p : Nat} (h : p ≤ n) : tE b n p ≤ n := by
  have h1 := tS_le (b := b) h
  unfold tE
  split
  · split
    · exact runE_le h1
    · split
      · exact runE_le h1
      · omega
  · exact h1
theorem tE_gt {p : Nat} (h : tK b n p ≠ 0) : tS b n p < tE b n p ∧ tS b n p < n := by
  unfold tK at h
  unfold tE
  by_cases h1 : tS b n p < n
  · rw [if_pos h1]
    refine ⟨?_, h1⟩
    split
    · rename_i h2; exact runE_gt h1 h2
    · split
      · rename_i h2; exact runE_gt h1 h2
      · omega
  · rw [if_neg h1] at h
    exact absurd rfl h
theorem isL_N {v : Nat} (hv : v ≤ 255) : isL (nI v) = decide (97 ≤ v ∧ v ≤ 122) := by
  have h : ∀ v, v < 256 → isL (nI v) = decide (97 ≤ v ∧ v ≤ 122) := by decide +kernel
  exact h v (by omega)
theorem isDg_N {v : Nat} (hv : v ≤ 255) : isDg (nI v) = decide (48 ≤ v ∧ v ≤ 57) := by
  have h : ∀ v, v < 256 → isDg (nI v) = decide (48 ≤ v ∧ v ≤ 57) := by decide +kernel
  exact h v (by omega)
theorem sg_is {v : Nat} (hv : v ≤ 255) : isL (sg (nI v)) = isL (nI v) ∧ isDg (sg (nI v)) = isDg (nI v) ∧ isSp (sg (nI v)) = isSp (nI v) ∧ (sg (nI v) = nI 59 ↔ nI v = nI 59) := by
  have h : ∀ v, v < 256 → isL (sg (nI v)) = isL (nI v) ∧ isDg (sg (nI v)) = isDg (nI v) ∧ isSp (sg (nI v)) = isSp (nI v) ∧ (sg (nI v) = nI 59 ↔ nI v = nI 59) := by decide +kernel
  exact h v (by omega)
theorem sg_low7 {v : Nat} (hv : v ≤ 127) : sg (nI v) = nI v := by
  have h : ∀ v, v < 128 → sg (nI v) = nI v := by decide +kernel
  exact h v (by omega)
theorem let_d {s : Nat} (hT : TB b n) (hs : s < n) (h : isL (b s) = true) : b s = nI (dBy b s) ∧ 97 ≤ dBy b s ∧ dBy b s ≤ 122 ∧ d27 b s = dBy b s - 96 := by
  obtain ⟨v, hv, e⟩ := hT s hs
  rw [e, isL_N hv] at h
  have h1 := of_decide_eq_true h
  unfold dBy d27
  rw [e, tN_nI (by omega)]
  exact ⟨rfl, h1.1, h1.2, rfl⟩
theorem dig_d {s : Nat} (hT : TB b n) (hs : s < n) (h : isDg (b s) = true) : b s = nI (48 + d10 b s) ∧ d10 b s ≤ 9 := by
  obtain ⟨v, hv, e⟩ := hT s hs
  rw [e, isDg_N hv] at h
  have h1 := of_decide_eq_true h
  unfold d10
  rw [e, tN_nI (by omega)]
  exact ⟨congrArg nI (by omega), by omega⟩
theorem lE_le {s : Nat} (h : s ≤ n) : lE b n s ≤ n := runE_le h
theorem lE_in {s i : Nat} (hT : TB b n) (hs : s ≤ n) (hi : i < lE b n s - s) : s + i < n ∧ isL (b (s + i)) = true := by
  have h1 := lE_le (b := b) hs
  exact ⟨by omega, runE_in (p := s) (by omega) (show s + i < runE isL b n s from by unfold lE at hi; omega)⟩
theorem w27_lt {s : Nat} (hT : TB b n) (h : VP b n s) : w27 b n s < 2 ^ 62 := by
  have h1 := wF_lt (B := 27) (d := d27 b) (s := s) (by decide) (lE b n s - s) (fun i hi => by
    obtain ⟨g1, g2⟩ := lE_in hT (Nat.le_of_lt h.1) hi
    obtain ⟨_, a1, a2, a3⟩ := let_d hT g1 g2
    omega)
  have h2 : 27 ^ (lE b n s - s) ≤ 27 ^ 8 := Nat.pow_le_pow_right (by decide) h.2.2
  have h3 : (27 : Nat) ^ 8 < 2 ^ 62 := by decide
  unfold w27
  omega
theorem w256_lt {s : Nat} (hT : TB b n) (h : VP b n s) : w256 b n s < 2 ^ 63 := by
  have h0 : lE b n s - s ≤ 8 := h.2.2
  unfold w256
  cases hk : lE b n s - s with
  | zero => show 0 < _; decide
  | succ k =>
    have key : ∀ j, j ≤ k + 1 → wF 256 (dBy b) s j * 2 < 256 ^ j ∨ j = 0 := by
      intro j
      induction j with
      | zero => exact fun _ => Or.inr rfl
      | succ j ih =>
        intro hj
        obtain ⟨g1, g2⟩ := lE_in hT (Nat.le_of_lt h.1) (i := j) (by omega)
        obtain ⟨_, a1, a2, a3⟩ := let_d hT g1 g2
        refine Or.inl ?_
        show (256 * wF 256 (dBy b) s j + dBy b (s + j)) * 2 < 256 ^ (j + 1)
        rw [Nat.pow_succ]
        rcases ih (by omega) with q | q
        · omega
        · rw [q]
          show (256 * 0 + dBy b (s + 0)) * 2 < 1 * 256
          rw [q] at a2
          omega
    have h1 := (key (k + 1) (Nat.le_refl _)).resolve_right (by omega)
    have h2 : 256 ^ (k + 1) ≤ 256 ^ 8 := Nat.pow_le_pow_right (by decide) (by omega)
    have h3 : (256 : Nat) ^ 8 = 2 ^ 64 := by decide
    omega
theorem w_same {s t : Nat} (hT : TB b n) (hs : VP b n s) (ht : VP b n t) : w256 b n s = w256 b n t ↔ w27 b n s = w27 b n t := by
  have l1 : ∀ s, VP b n s → ∀ i, i < lE b n s - s → 97 ≤ dBy b (s + i) ∧ dBy b (s + i) ≤ 122 ∧ d27 b (s + i) = dBy b (s + i) - 96 := fun s h i hi => by
    obtain ⟨g1, g2⟩ := lE_in hT (Nat.le_of_lt h.1) hi
    exact (let_d hT g1 g2).2
  unfold w256 w27
  rw [wF_inj (by decide) _ _ (fun i hi => by have := l1 s hs i hi; omega) (fun i hi => by have := l1 t ht i hi; omega), wF_inj (by decide) _ _ (fun i hi => by have := l1 s hs i hi; omega) (fun i hi => by have := l1 t ht i hi; omega)]
  constructor
  · rintro ⟨h1, h2⟩
    refine ⟨h1, fun i hi => ?_⟩
    have a := l1 s hs i hi
    have c := l1 t ht i (by omega)
    rw [a.2.2, c.2.2, h2 i hi]
  · rintro ⟨h1, h2⟩
    refine ⟨h1, fun i hi => ?_⟩
    have a := l1 s hs i hi
    have c := l1 t ht i (by omega)
    have := h2 i hi
    omega
theorem tok_w {p : Nat} (h : tK b n p = 2) : VP b n (tS b n p) ∧ tE b n p = lE b n (tS b n p) := by
  unfold tK at h
  by_cases h1 : tS b n p < n
  · rw [if_pos h1] at h
    by_cases h2 : isL (b (tS b n p)) = true
    · rw [if_pos h2] at h
      have e : tE b n p = lE b n (tS b n p) := by unfold tE lE; rw [if_pos h1, if_pos h2]
      by_cases h3 : 8 < tE b n p - tS b n p
      · rw [if_pos h3] at h; omega
      · exact ⟨⟨h1, h2, by rw [← e]; omega⟩, e⟩
    · rw [if_neg h2] at h
      split at h
      · split at h <;> omega
      · split at h <;> omega
  · rw [if_neg h1] at h; omega
theorem tok_n {p : Nat} (hT : TB b n) (hp : p ≤ n) (h : tK b n p = 3) : tV b n p < 10000 := by
  unfold tK at h
  by_cases h1 : tS b n p < n
  · rw [if_pos h1] at h
    by_cases h2 : isL (b (tS b n p)) = true
    · rw [if_pos h2] at h; split at h <;> omega
    · rw [if_neg h2] at h
      by_cases h3 : isDg (b (tS b n p)) = true
      · rw [if_pos h3] at h
        have e : tE b n p = runE isDg b n (tS b n p) := by unfold tE; rw [if_pos h1, if_neg h2, if_pos h3]
        by_cases h4 : 4 < tE b n p - tS b n p
        · rw [if_pos h4] at h; omega
        · have h5 := wF_lt (B := 10) (d := d10 b) (s := tS b n p) (by decide) (tE b n p - tS b n p) (fun i hi => by
            have hle := tE_le (b := b) hp
            have := (dig_d hT (s := tS b n p + i) (by omega) (runE_in (p := tS b n p) (by omega) (by rw [← e]; omega))).2
            omega)
          have h6 : 10 ^ (tE b n p - tS b n p) ≤ 10 ^ 4 := Nat.pow_le_pow_right (by decide) (by omega)
          have h7 : (10 : Nat) ^ 4 = 10000 := by decide
          unfold tV
          omega
      · rw [if_neg h3] at h; split at h <;> omega
  · rw [if_neg h1] at h; omega
theorem bA_sp {z : Nat} : (bA b n z = nI 32 ∨ bA b n z = nI 10) ↔ (z < n ∧ isSp (b z) = true) := by
  unfold bA isSp
  by_cases h : z < n
  · rw [if_pos h, decide_eq_true_eq]
    exact ⟨fun q => ⟨h, q⟩, fun q => q.2⟩
  · rw [if_neg h]
    exact ⟨fun q => absurd q (by decide), fun q => absurd q.1 h⟩
end TL
