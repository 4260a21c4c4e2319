/-! the law's own cells, by the row -/
def LwAt (I : CI) (σ : Row) : Prop :=
  (I 67 2 = σ 0 ∧ I 67 3 = σ 1 ∧ I 67 4 = σ 2 ∧ I 67 5 = σ 3 ∧ I 67 6 = σ 4 ∧ I 67 7 = σ 5) ∧
  (∀ x, x < nS σ → I 69 x = σ (10 + 5 * x + 0) ∧ I 70 x = σ (10 + 5 * x + 1) ∧ I 71 x = σ (10 + 5 * x + 2) ∧ I 72 x = σ (10 + 5 * x + 3) ∧ I 73 x = σ (10 + 5 * x + 4)) ∧
  (∀ g, g < nG σ → I 74 g = σ (70 + 2 * g + 0)) ∧ (∀ y, y < Yn σ → I 76 y = σ (80 + y)) ∧ (∀ x y, x < 5 → y < 6 → I (78 + x) y = pnt σ x y)
/-- how large the law's bridges are; no lane is closed -/
def LwB (σ : Row) : Prop := Yn σ ≤ 6 ∧ nS σ ≤ 5 ∧ nG σ ≤ 2 ∧ nLn σ ≤ 3 ∧ ∀ y, y < 12 → σ (92 + y) = nI 0
def SLf (a j : Nat) : Bool := a == 67 && j == 17
theorem SLf_no {a j : Nat} (h : a ≠ 67) : SLf a j = false := by simp [SLf, h]
theorem SLf_j {a j : Nat} (h : j ≠ 17) : SLf a j = false := by simp [SLf, h]
section LWA
variable {I J : CI} {σ : Row}
theorem LwAt.fr (h : LwAt I σ) (hF : Fr SLf I J) : LwAt J σ := by
  have e : ∀ a j, a ≠ 67 → J a j = I a j := fun a j h1 => hF a j (SLf_no h1)
  have e2 : ∀ j, j ≠ 17 → J 67 j = I 67 j := fun j h1 => hF 67 j (SLf_j h1)
  obtain ⟨h1, h2, h3, h4, h5⟩ := h
  refine ⟨?_, fun x hx => ?_, fun g hg => ?_, fun y hy => ?_, fun x y hx hy => ?_⟩
  · rw [e2 _ (by decide), e2 _ (by decide), e2 _ (by decide), e2 _ (by decide), e2 _ (by decide), e2 _ (by decide)]; exact h1
  · rw [e _ _ (by decide), e _ _ (by decide), e _ _ (by decide), e _ _ (by decide), e _ _ (by decide)]; exact h2 x hx
  · rw [e _ _ (by decide)]; exact h3 g hg
  · rw [e _ _ (by decide)]; exact h4 y hy
  · rw [e _ _ (by omega)]; exact h5 x y hx hy
theorem Fr_left {v : Int32} : Fr SLf I (u2 I 67 17 v) := fun a j h => by
  unfold u2
  by_cases ha : a = 67
  · subst ha
    rw [if_pos rfl]
    unfold upd
    by_cases hj : j = 17
    · subst hj; cases h
    · rw [if_neg hj]
  · rw [if_neg ha]
theorem LwAt.left {v : Int32} (h : LwAt I σ) : LwAt (u2 I 67 17 v) σ := h.fr Fr_left
theorem LwAt.c0 (h : LwAt I σ) (hi : Inv σ) : I 67 2 = nI (Yn σ) := h.1.1.trans hi.1
theorem LwAt.c1 (h : LwAt I σ) : I 67 3 = σ 1 := h.1.2.1
theorem LwAt.c2 (h : LwAt I σ) : I 67 4 = σ 2 := h.1.2.2.1
theorem LwAt.c3 (h : LwAt I σ) (hi : Inv σ) : I 67 5 = nI (nLn σ) := h.1.2.2.2.1.trans hi.2.2.2.1
theorem LwAt.c4 (h : LwAt I σ) (hi : Inv σ) : I 67 6 = nI (nS σ) := h.1.2.2.2.2.1.trans hi.2.2.2.2.2.1
theorem LwAt.c5 (h : LwAt I σ) (hi : Inv σ) : I 67 7 = nI (nG σ) := h.1.2.2.2.2.2.trans hi.2.2.2.2.2.2.2.1
theorem LwAt.ln (h : LwAt I σ) {x : Nat} (hx : x < nS σ) : I 69 x = σ (10 + 5 * x + 0) := (h.2.1 x hx).1
theorem LwAt.ar (h : LwAt I σ) {x : Nat} (hx : x < nS σ) : I 70 x = σ (10 + 5 * x + 1) := (h.2.1 x hx).2.1
theorem LwAt.ru (h : LwAt I σ) {x : Nat} (hx : x < nS σ) : I 71 x = σ (10 + 5 * x + 2) := (h.2.1 x hx).2.2.1
theorem LwAt.ra (h : LwAt I σ) {x : Nat} (hx : x < nS σ) : I 72 x = σ (10 + 5 * x + 3) := (h.2.1 x hx).2.2.2.1
theorem LwAt.li (h : LwAt I σ) {x : Nat} (hx : x < nS σ) : I 73 x = σ (10 + 5 * x + 4) := (h.2.1 x hx).2.2.2.2
theorem LwAt.sp (h : LwAt I σ) {g : Nat} (hg : g < nG σ) : I 74 g = σ (70 + 2 * g + 0) := h.2.2.1 g hg
theorem LwAt.da (h : LwAt I σ) {y : Nat} (hy : y < Yn σ) : I 76 y = σ (80 + y) := h.2.2.2.1 y hy
theorem LwAt.by (h : LwAt I σ) {x y : Nat} (hx : x < 5) (hy : y < 6) : I (78 + x) y = pnt σ x y := h.2.2.2.2 x y hx hy
end LWA
theorem shBy : ∀ {j : Nat}, j < 5 → shp (78 + j) = .inr (0, 6) := by
  have h : ∀ j, j < 5 → shp (78 + j) = .inr (0, 6) := by decide +kernel
  exact fun {j} hj => h j hj
/-- painted or not, by the sign -/
theorem pn_lt {σ : Row} {x y : Nat} (hi : Inv σ) (hd : DR σ) (hx : x < 12) (hy : y < 12) (h : pnt σ x y < 0) : pnt σ x y = -1 := by
  rcases hd.2.1 x y hx hy with e | ⟨g, h1, -, -, e⟩
  · exact e
  · exfalso
    rw [e] at h
    have := hi.2.2.2.2.2.2.2.2
    exact nI_pos (show g < 2 ^ 31 by omega) h
theorem pn_ge {σ : Row} {x y : Nat} (h : ¬ pnt σ x y < 0) : pnt σ x y ≠ -1 := fun e => h (by rw [e]; decide)
/-- the script's number at a place -/
def chs (cy : Nat → ClassId) (k : Nat) : Int32 := if k < (cy 71 : Nat) then nI (cy (100 + k)) else nI 7919 * nI k + nI 5
/-- a number among n -/
def amI (v : Int32) (n : Nat) : Int32 := if v - v / nI n * nI n < 0 then v - v / nI n * nI n + nI n else v - v / nI n * nI n
def amN (v : Int32) (n : Nat) : Nat := (v.toInt % (n : Int)).toNat
/-- the k-th number drawn among n -/
def drw (cy : Nat → ClassId) (k n : Nat) : Nat := amN (chs cy k) n
theorem amN_lt {v : Int32} {n : Nat} (h : 0 < n) : amN v n < n := by
  unfold amN
  have h1 : 0 ≤ v.toInt % (n : Int) := Int.emod_nonneg _ (by omega)
  have h2 : v.toInt % (n : Int) < n := Int.emod_lt_of_pos _ (by omega)
  omega
/-- downwards, the lowest year that is past -/
def dnI (p : Nat → Bool) (n : Nat) : Nat → Int32
  | 0 => NOTF
  | z + 1 => if p (n - z - 1) = true then nI (n - z - 1) else dnI p n z
theorem dnI_at {p : Nat → Bool} {n : Nat} : ∀ z, z ≤ n → (∃ y, n - z ≤ y ∧ y < n ∧ p y = true ∧ (∀ w, n - z ≤ w → w < y → p w = false) ∧ dnI p n z = nI y) ∨ ((∀ w, n - z ≤ w → w < n → p w = false) ∧ dnI p n z = NOTF) := by
  intro z
  induction z with
  | zero => exact fun _ => Or.inr ⟨fun w h1 h2 => by omega, rfl⟩
  | succ z ih =>
    intro hz
    by_cases hp : p (n - z - 1) = true
    · exact Or.inl ⟨n - z - 1, by omega, by omega, hp, fun w h1 h2 => by omega, if_pos hp⟩
    · have hp' : p (n - z - 1) = false := by simpa using hp
      have e : dnI p n (z + 1) = dnI p n z := if_neg hp
      rcases ih (by omega) with ⟨y, h1, h2, h3, h4, h5⟩ | ⟨h1, h2⟩
      · refine Or.inl ⟨y, by omega, h2, h3, fun w w1 w2 => ?_, e.trans h5⟩
        by_cases hw : w = n - z - 1
        · rw [hw]; exact hp'
        · exact h4 w (by omega) w2
      · refine Or.inr ⟨fun w w1 w2 => ?_, e.trans h2⟩
        by_cases hw : w = n - z - 1
        · rw [hw]; exact hp'
        · exact h1 w (by omega) w2
theorem dnI_fst {p : Nat → Bool} {n : Nat} : dnI p n n = fstI p n := by
  rcases dnI_at (p := p) n (Nat.le_refl n) with ⟨y, h1, h2, h3, h4, h5⟩ | ⟨h1, h2⟩
  · rw [h5]; exact (fstI_hit h2 h3 (fun w hw => h4 w (by omega) hw)).symm
  · rw [h2]; exact (fstI_none (fun w hw => h1 w (by omega) hw)).symm
theorem amI_tm {v : Int32} {n : Nat} (h0 : 0 < n) (hn : n < 2 ^ 31) : (v - v / nI n * nI n).toInt = v.toInt.tmod n := by
  have e1 : (nI n).toInt = (n : Int) := nI_toInt hn
  have b1 := Int32.le_toInt v
  have b2 := Int32.toInt_lt v
  have e2 : v.toInt.tmod n = v.toInt - n * v.toInt.tdiv n := by rw [Int.tmod_def]
  have b3 : v.toInt.tmod n < n := by
    have := Int.tmod_lt_of_pos v.toInt (show (0 : Int) < n by omega); exact this
  have b4 : -(n : Int) < v.toInt.tmod n := by
    have := Int.lt_tmod_of_pos v.toInt (show (0 : Int) < n by omega); exact this
  rw [Int32.toInt_sub, Int32.toInt_mul, Int32.toInt_div, e1]
  rw [Int.bmod_mul_bmod, Int.sub_bmod_bmod]
  rw [show v.toInt - v.toInt.tdiv n * n = v.toInt.tmod n by rw [e2, Int.mul_comm]]
  exact Int.bmod_eq_of_le_mul_two (by omega) (by omega)
theorem amI_eq {v : Int32} {n : Nat} (h0 : 0 < n) (hn : n < 2 ^ 31) : amI v n = nI (amN v n) := by
  have h1 := amI_tm (v := v) h0 hn
  have e1 : (nI n).toInt = (n : Int) := nI_toInt hn
  have l1 := amN_lt (v := v) h0
  have l2 : ((amN v n : Nat) : Int) = v.toInt % (n : Int) := by
    unfold amN
    exact Int.toNat_of_nonneg (Int.emod_nonneg _ (by omega))
  apply Int32.toInt_inj.mp
  rw [nI_toInt (by omega), l2]
  unfold amI
  generalize v - v / nI n * nI n = r at h1
  have b3 : v.toInt.tmod n < n := Int.tmod_lt_of_pos v.toInt (show (0 : Int) < n by omega)
  have b4 : -(n : Int) < v.toInt.tmod n := Int.lt_tmod_of_pos v.toInt (show (0 : Int) < n by omega)
  have e3 : v.toInt % (n : Int) = v.toInt.tmod n % (n : Int) := by rw [Int.tmod_def, Int.sub_mul_emod_self_left]
  have e5 : v.toInt % (n : Int) = if v.toInt.tmod n < 0 then v.toInt.tmod n + n else v.toInt.tmod n := by
    rw [e3]
    generalize v.toInt.tmod n = t at b3 b4
    by_cases ht : t < 0
    · rw [if_pos ht, ← Int.add_emod_right]
      exact Int.emod_eq_of_lt (by omega) (by omega)
    · rw [if_neg ht]
      exact Int.emod_eq_of_lt (by omega) (by omega)
  by_cases hr : r < 0
  · rw [if_pos hr]
    have hr' : r.toInt < 0 := by
      have := Int32.lt_iff_toInt_lt.mp hr
      simpa using this
    rw [Int32.toInt_add, h1, e1, e5, if_pos (by omega)]
    exact Int.bmod_eq_of_le_mul_two (by omega) (by omega)
  · rw [if_neg hr]
    have hr' : ¬ r.toInt < 0 := fun z => hr (Int32.lt_iff_toInt_lt.mpr (by simpa using z))
    rw [h1, e5, if_neg (by omega)]
theorem sub1 (x : Int32) : x - nI 1 = x + Int32.ofInt (-1) := by rw [Int32.sub_eq_add_neg, show -(nI 1) = Int32.ofInt (-1) by decide]
