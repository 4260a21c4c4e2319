def SB (a j : Nat) : Bool := a == 73 || (a == 67 && j == 8)
def SFD (a j : Nat) : Bool := a == 73 || (a == 67 && j == 8) || (a == 67 && j == 6)
def SO (a j : Nat) : Bool := a == 85 || (a == 67 && j == 38)
def SW (a j : Nat) : Bool := a == 85 || (a == 67 && j == 38) || (a == 67 && j == 6)
def SA (a j : Nat) : Bool := a == 68 || a == 70 || a == 71 || a == 72 || (a == 67 && j == 5)
/-- a byte of a number, 0 to 255 -/
def byV (v : Int32) (s : Nat) : Int32 := (v.toUInt32 >>> ((nI s).toUInt32 &&& Int32.toUInt32 31)).toInt32 &&& nI 255
def ap4 (f : Nat → Int32) (n : Nat) (v : Int32) : Nat → Int32 := upd (upd (upd (upd f n (byV v 24)) (n + 1) (byV v 16)) (n + 1 + 1) (byV v 8)) (n + 1 + 1 + 1) (byV v 0)
def fdT (f : Nat → Int32) (n : Nat) (a b c d e : Int32) : Nat → Int32 := ap4 (ap4 (ap4 (ap4 (ap4 f n a) (n + 4) b) (n + 4 + 4) c) (n + 4 + 4 + 4) d) (n + 4 + 4 + 4 + 4) e
abbrev Out : Type := (Nat → Int32) × Nat
def oP (o : Out) (c : Int32) : Out := (upd o.1 o.2 c, o.2 + 1)
def dgH (v : Nat) : Int32 := nI 48 + nI v / nI 10
def dgL (v : Nat) : Int32 := nI 48 + (nI v - nI v / nI 10 * nI 10)
def oN (o : Out) (v : Nat) : Out := oP (if 9 < v then oP o (dgH v) else o) (dgL v)
def oX (σ : Row) (y x : Nat) (o : Out) : Out := if pnt σ x y = -1 then o else oP (oN (oP (oN (oP (oN o y) (nI 58)) x) (nI 47)) (tN (pnt σ x y))) (nI 59)
def oS (σ : Row) (y : Nat) (o : Out) : Nat → Out
  | 0 => o
  | x + 1 => oX σ y x (oS σ y o x)
def oY (σ : Row) (o : Out) : Nat → Out
  | 0 => o
  | y + 1 => oS σ y (oY σ o y) (nS σ)
theorem oN_1 {o : Out} {v : Nat} (h : 9 < v) : oN o v = oP (oP o (dgH v)) (dgL v) := by unfold oN; rw [if_pos h]
theorem oN_0 {o : Out} {v : Nat} (h : v ≤ 9) : oN o v = oP o (dgL v) := by unfold oN; rw [if_neg (by omega)]
theorem oN_le (o : Out) (v : Nat) : (oN o v).2 ≤ o.2 + 2 := by
  unfold oN oP
  split
  · show o.2 + 1 + 1 ≤ _; omega
  · show o.2 + 1 ≤ _; omega
theorem oN_s {o : Out} {v : Nat} (h : v ≤ 9) : (oN o v).2 = o.2 + 1 := by rw [oN_0 h]; rfl
theorem oX_n {σ : Row} {x y : Nat} {o : Out} (h : pnt σ x y = -1) : oX σ y x o = o := if_pos h
theorem oX_y {σ : Row} {x y g : Nat} {o : Out} (h : pnt σ x y = nI g) (hg : g < 2 ^ 31) : oX σ y x o = oP (oN (oP (oN (oP (oN o y) (nI 58)) x) (nI 47)) g) (nI 59) := by
  unfold oX
  rw [if_neg (by rw [h]; exact nI_m1 hg), h, tN_nI hg]
def clR (σ : Row) (i : Nat) : Row := fun j => if 104 ≤ j ∧ j < i then nI 0 else σ j
theorem clR_0 {σ : Row} : clR σ 104 = σ := by
  funext j
  unfold clR
  rw [if_neg (by omega)]
theorem clR_s {σ : Row} {i : Nat} (hi : 104 ≤ i) : upd (clR σ i) i (nI 0) = clR σ (i + 1) := by
  funext j
  by_cases e : j = i
  · rw [e, upd_eq]
    unfold clR
    rw [if_pos (by omega)]
  · rw [upd_ne e]
    unfold clR
    by_cases q : 104 ≤ j ∧ j < i
    · rw [if_pos q, if_pos (by omega)]
    · rw [if_neg q, if_neg (by omega)]
/-- the row without any painting -/
def clP (σ : Row) : Row := clR σ 248
/-- whether two rows have the same paintings -/
def eqPl (σ τ : Row) : Bool := allB (fun j => decide (σ (104 + j) = τ (104 + j))) 144
theorem allB_no {p : Nat → Bool} {k : Nat} (h : p k = false) : ∀ n, k < n → allB p n = false
  | 0, hk => absurd hk (Nat.not_lt_zero _)
  | n + 1, hk => by
    rcases Nat.lt_succ_iff_lt_or_eq.mp hk with q | q
    · exact allB_1 (allB_no h n q)
    · rw [q] at h; exact allB_2 h
theorem mixR_b (σ o τ : Row) : mixR (mixR σ o) (mixR τ σ) = σ := by
  funext j
  unfold mixR
  by_cases h : j < 248
  · rw [if_pos h, if_pos h]
  · rw [if_neg h, if_neg h]
theorem mixR_id {f g : Row} (h : ∀ j, j < 248 → f j = g j) : mixR f g = g := by
  funext j
  unfold mixR
  by_cases q : j < 248
  · rw [if_pos q, h j q]
  · rw [if_neg q]
