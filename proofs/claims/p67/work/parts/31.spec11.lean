theorem cl_hi {σ : Row} {j : Nat} (h : 248 ≤ j) : clP σ j = σ j := by unfold clP clR; rw [if_neg (by omega)]
theorem plS_hi {σ : Row} {gs : Int32} {y x j : Nat} (hx : x < 12) (hy : y < 12) (h : 248 ≤ j) : plS σ gs y x j = σ j := by
  unfold plS
  split
  · rfl
  · exact upd_ne (by omega)
theorem plK_hi {σ : Row} {gs : Int32} {y j : Nat} (hS : nS σ ≤ 12) (hy : y < 12) (h : 248 ≤ j) : ∀ k, k ≤ ordN σ y → plK σ gs y k j = σ j
  | 0, _ => rfl
  | k + 1, hk => by
    show plS (plK σ gs y k) gs y (ordE σ y k) j = _
    have h1 : ordE σ y k < nS σ := ordE_lt (by omega)
    rw [plS_hi (by omega) hy h, plK_hi hS hy h k (by omega)]
theorem plY_hi {σ : Row} {gs : Int32} {j : Nat} (hi : Inv σ) (h : 248 ≤ j) : ∀ y, y ≤ Yn σ → plY σ gs y j = σ j
  | 0, _ => cl_hi h
  | y + 1, hy => by
    obtain ⟨hY, hY1, hY12, hLn, hL4, hSn, hS12, hGn, hG5⟩ := id hi
    show plK (plY σ gs y) gs y (ordN (plY σ gs y) y) j = _
    rw [plK_hi (by rw [(Sm_plY y).S]; exact hS12) (by omega) h _ (Nat.le_refl _), plY_hi hi h y (by omega)]
theorem auto_hi {σ : Row} {gs : Int32} (hi : Inv σ) {j : Nat} (h : 248 ≤ j) : auto σ gs j = σ j := plY_hi hi h _ (Nat.le_refl _)
theorem auto_Sm {σ : Row} {gs : Int32} : Sm σ (auto σ gs) := Sm_plY _
theorem auto_Inv {σ : Row} {gs : Int32} (hi : Inv σ) : Inv (auto σ gs) := Sm_Inv auto_Sm hi
theorem auto_DR {σ : Row} {gs : Int32} (hi : Inv σ) (hd : DR σ) : DR (auto σ gs) := Sm_DR auto_Sm hi hd (PD_plY hi.2.2.2.2.2.2.1 _ (Nat.le_refl _))
/-- what is put aside -/
def AsP (I : CI) (σ : Row) : Prop := ∀ j, j < 248 → I 70 j = σ j
theorem AsP.row {I J : CI} {σ : Row} (h : AsP I σ) (e : J 70 = I 70) : AsP J σ := fun j hj => by rw [e]; exact h j hj
theorem AsP.mix {I : CI} {σ τ : Row} (h : I 70 = mixR σ τ) : AsP I σ := fun j hj => by rw [h]; exact if_pos hj
theorem as_back {I : CI} {σ τ : Row} (h : AsP I σ) (g : ∀ j, 248 ≤ j → τ j = σ j) : mixR (I 70) τ = σ := by
  funext j
  unfold mixR
  by_cases q : j < 248
  · rw [if_pos q, h j q]
  · rw [if_neg q, g j (by omega)]
theorem mixR_s {σ τ υ : Row} (h : ∀ j, 248 ≤ j → τ j = σ j) : mixR (mixR σ υ) τ = σ := by
  funext j
  unfold mixR
  by_cases q : j < 248
  · rw [if_pos q, if_pos q]
  · rw [if_neg q]; exact h j (by omega)
theorem eqPl_mix {σ τ υ : Row} : eqPl σ (mixR τ υ) = eqPl σ τ := by
  have h : ∀ n, n ≤ 144 → allB (fun j => decide (σ (104 + j) = mixR τ υ (104 + j))) n = allB (fun j => decide (σ (104 + j) = τ (104 + j))) n := by
    intro n
    induction n with
    | zero => exact fun _ => rfl
    | succ n ih =>
      intro hn
      show (allB _ n && decide (σ (104 + n) = mixR τ υ (104 + n))) = (allB _ n && decide (σ (104 + n) = τ (104 + n)))
      rw [ih (by omega)]
      unfold mixR
      rw [if_pos (by omega)]
  exact h 144 (Nat.le_refl _)
abbrev ALLG : Int32 := nI 31
def auO (σ : Row) : Option Row := if eqPl (auto σ ALLG) σ = true then none else some (auto σ ALLG)
def auR (σ : Row) : Int32 := if eqPl (auto σ ALLG) σ = true then UNCH else cntP (auto σ ALLG)
def wiG (g : Nat) : Int32 := nI 31 ^^^ nI 1 <<< (nI g &&& 31)
def SAU (a j : Nat) : Bool := (decide (68 ≤ a ∧ a ≤ 72)) || (decide (75 ≤ a ∧ a ≤ 82)) || (a == 67 && j == 30) || (a == 67 && j == 6) || (a == 67 && j == 5)
def SAP (a j : Nat) : Bool := a == 68 || a == 70 || (decide (75 ≤ a ∧ a ≤ 82)) || (a == 67 && j == 30) || (a == 67 && j == 6)
section DRU
variable {σ : Row} {k : Nat} {v : Int32}
theorem Yn_u (h : k = 1 ∨ 6 ≤ k) : Yn (upd σ k v) = Yn σ := by unfold Yn; rw [upd_ne (by omega)]
theorem nS_u (h : k = 1 ∨ 6 ≤ k) : nS (upd σ k v) = nS σ := by unfold nS; rw [upd_ne (by omega)]
theorem nG_u (h : k = 1 ∨ 6 ≤ k) : nG (upd σ k v) = nG σ := by unfold nG; rw [upd_ne (by omega)]
theorem nL_u (h : k = 1 ∨ 6 ≤ k) : nLn (upd σ k v) = nLn σ := by unfold nLn; rw [upd_ne (by omega)]
theorem Inv_u (h : k = 1 ∨ 6 ≤ k) (hi : Inv σ) : Inv (upd σ k v) := by
  unfold Inv
  rw [Yn_u h, nS_u h, nG_u h, nL_u h, upd_ne (show (0 : Nat) ≠ k by omega), upd_ne (show (3 : Nat) ≠ k by omega), upd_ne (show (4 : Nat) ≠ k by omega), upd_ne (show (5 : Nat) ≠ k by omega)]
  exact hi
theorem DR_u (hi : Inv σ) (hd : DR σ) (h : k = 1 ∨ 6 ≤ k) (a7 : k < 104)
    (a1 : k = 1 → ∃ h : Nat, 1 ≤ h ∧ h ≤ 4 ∧ v = nI h) (a2 : ∀ g, g < nG σ → k = 70 + 2 * g + 0 → ∃ t : Nat, 1 ≤ t ∧ t ≤ 50 ∧ v = nI t)
    (a3 : ∀ x, x < nS σ → k = 10 + 5 * x + 3 → ∃ t : Nat, 1 ≤ t ∧ t ≤ 50 ∧ v = nI t) (a4 : ∀ y, y < 12 → k = 80 + y → ∃ d : Nat, d ≤ 200 ∧ v = nI d)
    (a5 : ∀ y, y < 12 → k = 92 + y → ∃ q : Nat, q < 16 ∧ v = nI q) (a6 : ∀ x, x < 12 → k ≠ 10 + 5 * x + 0 ∧ k ≠ 10 + 5 * x + 1 ∧ k ≠ 10 + 5 * x + 2 ∧ k ≠ 10 + 5 * x + 4) (a8 : k ≠ 2) : DR (upd σ k v) := by
  obtain ⟨hY, hY1, hY12, hLn, hL4, hSn, hS12, hGn, hG5⟩ := id hi
  obtain ⟨d1, d2, d3, d4, d5, d6, d7, d8⟩ := hd
  unfold DR
  rw [Yn_u h, nS_u h, nG_u h, nL_u h]
  refine ⟨fun g hg => ?_, fun x y hx hy => ?_, fun x hx => ?_, fun x hx => ?_, ?_, ?_, fun y hy => ?_, fun y hy => ?_⟩
  · by_cases e : k = 70 + 2 * g + 0
    · obtain ⟨t, h1, h2, h3⟩ := a2 g hg e
      exact ⟨t, h1, h2, by rw [← e, upd_eq, h3]⟩
    · rw [upd_ne (fun z => e z.symm)]; exact d1 g hg
  · have e : pnt (upd σ k v) x y = pnt σ x y := by unfold pnt; rw [upd_ne (by omega)]
    rw [e]
    exact d2 x y hx hy
  · have h6 := a6 x (by omega)
    rw [upd_ne (fun z => h6.1 z.symm)]
    exact d3 x hx
  · have h6 := a6 x (by omega)
    obtain ⟨a, r, t, m, b1, b2, b3, b4, b5, b6, b7, e1, e2, e3, e4⟩ := d4 x hx
    by_cases e : k = 10 + 5 * x + 3
    · obtain ⟨t2, h1, h2, h3⟩ := a3 x hx e
      exact ⟨a, r, t2, m, b1, b2, b3, h1, h2, b6, b7, by rw [upd_ne (fun z => h6.2.1 z.symm), e1], by rw [upd_ne (fun z => h6.2.2.1 z.symm), e2], by rw [← e, upd_eq, h3], by rw [upd_ne (fun z => h6.2.2.2 z.symm), e4]⟩
    · exact ⟨a, r, t, m, b1, b2, b3, b4, b5, b6, b7, by rw [upd_ne (fun z => h6.2.1 z.symm), e1], by rw [upd_ne (fun z => h6.2.2.1 z.symm), e2], by rw [upd_ne (fun z => e z.symm), e3], by rw [upd_ne (fun z => h6.2.2.2 z.symm), e4]⟩
  · by_cases e : k = 1
    · obtain ⟨t, h1, h2, h3⟩ := a1 e
      exact ⟨t, h1, h2, by rw [← e, upd_eq, h3]⟩
    · rw [upd_ne (fun z => e z.symm)]; exact d5
  · rw [upd_ne (fun z => a8 z.symm)]; exact d6
  · by_cases e : k = 80 + y
    · obtain ⟨t, h1, h2⟩ := a4 y hy e
      exact ⟨t, h1, by rw [← e, upd_eq, h2]⟩
    · rw [upd_ne (fun z => e z.symm)]; exact d7 y hy
  · by_cases e : k = 92 + y
    · obtain ⟨t, h1, h2⟩ := a5 y hy e
      exact ⟨t, h1, by rw [← e, upd_eq, h2]⟩
    · rw [upd_ne (fun z => e z.symm)]; exact d8 y hy
end DRU
theorem DR_day {σ : Row} {y d : Nat} (hi : Inv σ) (hd : DR σ) (hy : y < 12) (hd2 : d ≤ 200) : DR (upd σ (80 + y) (nI d)) :=
  DR_u hi hd (by omega) (by omega) (fun e => absurd e (by omega)) (fun g hg e => by have := hi.2.2.2.2.2.2.2.2; exact absurd e (by omega)) (fun x hx e => by have := hi.2.2.2.2.2.2.1; exact absurd e (by omega)) (fun _ _ _ => ⟨d, hd2, rfl⟩) (fun z hz e => absurd e (by omega)) (fun x hx => ⟨by omega, by omega, by omega, by omega⟩) (by omega)
theorem DR_shut {σ : Row} {h : Nat} (hi : Inv σ) (hd : DR σ) (h1 : 1 ≤ h) (h4 : h ≤ 4) : DR (upd σ 1 (nI h)) :=
  DR_u hi hd (Or.inl rfl) (by decide) (fun _ => ⟨h, h1, h4, rfl⟩) (fun g hg e => absurd e (by omega)) (fun x hx e => absurd e (by omega)) (fun z hz e => absurd e (by omega)) (fun z hz e => absurd e (by omega)) (fun x hx => ⟨by omega, by omega, by omega, by omega⟩) (by decide)
/-- the row with n days more in the first y years -/
def edD (σ : Row) (n y : Nat) : Row := fun j => if 80 ≤ j ∧ j < 80 + y then mn (nI 200) (σ j + nI n) else σ j
theorem edD_0 {σ : Row} {n : Nat} : edD σ n 0 = σ := by
  funext j
  unfold edD
  rw [if_neg (by omega)]
theorem edD_s {σ : Row} {n y : Nat} : upd (edD σ n y) (80 + y) (mn (nI 200) (edD σ n y (80 + y) + nI n)) = edD σ n (y + 1) := by
  funext j
  by_cases e : j = 80 + y
  · rw [e, upd_eq]
    unfold edD
    rw [if_neg (by omega), if_pos (by omega)]
  · rw [upd_ne e]
    unfold edD
    by_cases q : 80 ≤ j ∧ j < 80 + y
    · rw [if_pos q, if_pos (by omega)]
    · rw [if_neg q, if_neg (by omega)]
theorem edD_ok {σ : Row} {n : Nat} (hi : Inv σ) (hd : DR σ) (hn : n ≤ 100) : ∀ y, y ≤ 12 → Inv (edD σ n y) ∧ DR (edD σ n y)
  | 0, _ => by rw [edD_0]; exact ⟨hi, hd⟩
  | y + 1, hy => by
    obtain ⟨h1, h2⟩ := edD_ok hi hd hn y (by omega)
    rw [← edD_s]
    obtain ⟨d, h3, h4⟩ := h2.2.2.2.2.2.2.1 y (by omega)
    rw [h4, nI_add, mn_N (by decide) (by omega)]
    exact ⟨Inv_u (by omega) h1, DR_day h1 h2 (by omega) (by omega)⟩
theorem edD_hi {σ : Row} {n y j : Nat} (hy : y ≤ 12) (h : 248 ≤ j) : edD σ n y j = σ j := by
  unfold edD
  rw [if_neg (by omega)]
/-- the first set in the order of counts, then of numbers -/
def fst2b (p : Nat → Nat → Bool) (N K : Nat) (d : Int32) : Int32 := if f2Y p K N < N then nI (f2G p K (f2Y p K N)) else d
theorem fst2b_hit {p : Nat → Nat → Bool} {N K n k : Nat} {d : Int32} (hn : n < N) (hk : k < K) (h : p n k = true) (hb : ∀ z, z < n → ∀ g, g < K → p z g = false) (hm : ∀ q, q < k → p n q = false) : fst2b p N K d = nI k := by
  have e1 : f2G p K n = k := fstN_hit hk h hm
  have e2 : f2Y p K N = n := fstN_hit hn (decide_eq_true (by rw [e1]; exact hk)) (fun z hz => decide_eq_false (by rw [f2G_none (hb z hz)]; exact Nat.lt_irrefl _))
  unfold fst2b
  rw [e2, e1, if_pos hn]
theorem fst2b_none {p : Nat → Nat → Bool} {N K : Nat} {d : Int32} (hb : ∀ z, z < N → ∀ g, g < K → p z g = false) : fst2b p N K d = d := by
  have e2 : f2Y p K N = N := fstN_none (fun z hz => decide_eq_false (by rw [f2G_none (hb z hz)]; exact Nat.lt_irrefl _))
  unfold fst2b
  rw [e2, if_neg (Nat.lt_irrefl _)]
def fgP (σ : Row) (n k : Nat) : Bool := decide (cnt16 (nI k) = nI n ∧ cntP (auto σ (nI k)) ≤ cntP (auto σ ALLG))
def fgR (σ : Row) : Int32 := fst2b (fgP σ) (nG σ) (2 ^ nG σ) (nI (2 ^ nG σ - 1))
theorem two_G {σ : Row} (hi : Inv σ) : nI 1 <<< (nI (nG σ) &&& 31) = nI (2 ^ nG σ) := by
  have : ∀ y, y ≤ 5 → nI 1 <<< (nI y &&& 31) = nI (2 ^ y) := by decide +kernel
  exact this _ hi.2.2.2.2.2.2.2.2
theorem two_Gle {σ : Row} (hi : Inv σ) : 1 ≤ 2 ^ nG σ ∧ 2 ^ nG σ ≤ 32 := ⟨Nat.one_le_two_pow, Nat.pow_le_pow_right (by decide) hi.2.2.2.2.2.2.2.2 (n := 2)⟩
def smR (σ : Row) : Int32 := fstI (fun k => decide (1 ≤ k) && decide (cntP (auto (upd σ 1 (nI k)) ALLG) = 0)) 5
def exDR (σ : Row) : Int32 := fstI (fun n => decide (cntP (auto (edD σ n (Yn σ)) ALLG) = 0)) 101
def wyR (σ : Row) : Int32 := (amx (fun y => cntP (auto (upd σ (80 + y) (nI 0)) ALLG)) (nI 0) (-1) (Yn σ)).1
def cgR (σ : Row) : Int32 := (amx (fun g => cntP (auto σ (wiG g))) NOTF (-1) (nG σ)).1
