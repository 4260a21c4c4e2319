/-- the first pair with a property, by rows: 10 * y + g -/
def f2G (p : Nat → Nat → Bool) (G y : Nat) : Nat := fstN (p y) G
def f2Y (p : Nat → Nat → Bool) (G Y : Nat) : Nat := fstN (fun y => decide (f2G p G y < G)) Y
def fst2 (p : Nat → Nat → Bool) (Y G : Nat) : Int32 := if f2Y p G Y < Y then nI (10 * f2Y p G Y + f2G p G (f2Y p G Y)) else NOTF
theorem f2G_none {p : Nat → Nat → Bool} {G z : Nat} (h : ∀ g, g < G → p z g = false) : f2G p G z = G := fstN_none h
theorem fst2_hit {p : Nat → Nat → Bool} {Y G y g : Nat} (hy : y < Y) (hg : g < G) (h : p y g = true) (hn : ∀ z, z < y → ∀ g, g < G → p z g = false) (hm : ∀ q, q < g → p y q = false) : fst2 p Y G = nI (10 * y + g) := by
  have e1 : f2G p G y = g := fstN_hit hg h hm
  have e2 : f2Y p G Y = y := fstN_hit hy (decide_eq_true (by rw [e1]; exact hg)) (fun z hz => decide_eq_false (by rw [f2G_none (hn z hz)]; exact Nat.lt_irrefl _))
  unfold fst2
  rw [e2, e1, if_pos hy]
theorem fst2_none {p : Nat → Nat → Bool} {Y G : Nat} (hn : ∀ z, z < Y → ∀ g, g < G → p z g = false) : fst2 p Y G = NOTF := by
  have e2 : f2Y p G Y = Y := fstN_none (fun z hz => decide_eq_false (by rw [f2G_none (hn z hz)]; exact Nat.lt_irrefl _))
  unfold fst2
  rw [e2, if_neg (Nat.lt_irrefl _)]
theorem fst2_step {p : Nat → Nat → Bool} {G y : Nat} (hn : ∀ z, z < y → ∀ g, g < G → p z g = false) (hm : ∀ q, q < G → p y q = false) : ∀ z, z < y + 1 → ∀ g, g < G → p z g = false := by
  intro z hz g hg
  rcases Nat.lt_succ_iff_lt_or_eq.mp hz with q | q
  · exact hn z q g hg
  · rw [q]; exact hm g hg
def hrv (σ : Row) (x k : Nat) : Int32 := if k ≤ 1 then σ (10 + 5 * x + 3) else nI (k - 1)
theorem hrv_s {σ : Row} {x k : Nat} (h : 1 ≤ k) : nI k = hrv σ x (k + 1) := by
  unfold hrv
  rw [if_neg (by omega)]
  exact congrArg nI (by omega)
theorem hrm_s {σ : Row} {x k : Nat} (h : 1 ≤ k) : hrm σ x (k + 1 - 1) = if fpR σ x (nI k) = NOTF then nI k else hrm σ x (k - 1) := by
  obtain ⟨n, rfl⟩ : ∃ n, k = n + 1 := ⟨k - 1, by omega⟩
  rfl
theorem btw2 {v a : Int32} {n : Nat} (h : a = nI n) (hn : n ≤ 100000) : decide ((0 : Int64) ≤ v.toInt64 ∧ v.toInt64 ≤ (a - nI 1).toInt64) = inB v n := by
  have e : (a - nI 1).toInt = (n : Int) - 1 := by
    rw [h]
    cases n with
    | zero => decide
    | succ k => rw [nI_sub (by omega), nI_toInt (by omega)]; omega
  unfold inB
  apply decide_eq_decide.mpr
  rw [Int64.le_iff_toInt_le, Int64.le_iff_toInt_le, Int32.toInt_toInt64, Int32.toInt_toInt64, e]
  show ((0 : Int64).toInt ≤ _ ∧ _) ↔ _
  rw [show (0 : Int64).toInt = 0 by decide]
  omega
def wrO (σ : Row) (f : Nat → Int32) : Out := oY σ (f, 0) (Yn σ)
theorem oP_2 {o : Out} {c : Int32} : (oP o c).2 = o.2 + 1 := rfl
theorem oX_le {σ : Row} {x y : Nat} (o : Out) (hd : DR σ) (hi : Inv σ) (hx : x < nS σ) (hy : y < Yn σ) : (oX σ y x o).2 ≤ o.2 + 8 := by
  obtain ⟨hY, hY1, hY12, hLn, hL4, hSn, hS12, hGn, hG5⟩ := id hi
  rcases hd.2.1 x y (by omega) (by omega) with h | ⟨g, hg, _, _, h⟩
  · rw [oX_n h]; omega
  · rw [oX_y h (by omega), oP_2, oN_s (by omega), oP_2]
    have h1 := oN_le (oP (oN o y) (nI 58)) x
    have h2 := oN_le o y
    rw [oP_2] at h1
    omega
theorem oS_le {σ : Row} {y : Nat} (o : Out) (hd : DR σ) (hi : Inv σ) (hy : y < Yn σ) : ∀ x, x ≤ nS σ → (oS σ y o x).2 ≤ o.2 + 8 * x
  | 0, _ => Nat.le_refl _
  | x + 1, hx => by
    have h1 := oS_le o hd hi hy x (by omega)
    have h2 := oX_le (x := x) (y := y) (oS σ y o x) hd hi (by omega) hy
    show (oX σ y x (oS σ y o x)).2 ≤ _
    omega
theorem oY_le {σ : Row} (o : Out) (hd : DR σ) (hi : Inv σ) : ∀ y, y ≤ Yn σ → (oY σ o y).2 ≤ o.2 + 96 * y
  | 0, _ => Nat.le_refl _
  | y + 1, hy => by
    obtain ⟨_, _, _, _, _, _, hS12, _⟩ := id hi
    have h1 := oY_le o hd hi y (by omega)
    have h2 := oS_le (y := y) (oY σ o y) hd hi (by omega) (nS σ) (Nat.le_refl _)
    show (oS σ y (oY σ o y) (nS σ)).2 ≤ _
    omega
