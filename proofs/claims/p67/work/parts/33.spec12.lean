/-! the endangered spans in their order -/
def fp0 (σ : Row) (x : Nat) : Int32 := fpB σ x (fun _ => false)
theorem fp0_cases (σ : Row) (x : Nat) : fp0 σ x = NOTF ∨ ∃ q, q < Yn σ ∧ fp0 σ x = nI q := by
  rcases fstI_cases (fun z => decide (σ (10 + 5 * x + 4) < (rgB σ x (fun _ => false) (z + 1)).1)) (Yn σ) with ⟨h, _⟩ | ⟨q, h1, h2, _⟩
  · exact Or.inl h
  · exact Or.inr ⟨q, h1, h2⟩
def enC (σ : Row) (x : Nat) : Bool := decide (fp0 σ x ≠ NOTF)
def enL (σ : Row) : Nat → Nat → Bool := ahd (fp0 σ) (fun _ => nI 0)
def enM (σ : Row) : Nat := cntB (enC σ) (nS σ)
def enE (σ : Row) (k : Nat) : Nat := elK (enC σ) (enL σ) (nS σ) k
def enB (σ : Row) (y x z : Nat) : Bool := decide (fp0 σ z ≠ NOTF ∧ (fp0 σ z < nI y ∨ (fp0 σ z = nI y ∧ z < x)))
def enN (σ : Row) (y x : Nat) : Nat := cntB (enB σ y x) (nS σ)
theorem enL_St (σ : Row) : StO (enL σ) := ahd_StO _ _
theorem cntB_one {p q : Nat → Bool} {x n : Nat} (hx : x < n) (h1 : ∀ z, z < n → z ≠ x → q z = p z) (h2 : p x = false) (h3 : q x = true) : cntB q n = cntB p n + 1 := by
  induction n with
  | zero => exact absurd hx (Nat.not_lt_zero _)
  | succ n ih =>
    show cntB q n + _ = cntB p n + _ + 1
    by_cases e : x = n
    · subst e
      rw [cntB_congr (n := x) (fun z hz => h1 z (by omega) (by omega)), h2, h3, if_pos rfl, if_neg (by decide)]
    · rw [ih (by omega) (fun z hz => h1 z (by omega)), h1 n (by omega) (fun z => e z.symm)]
      omega
theorem en_s1 {σ : Row} {x y : Nat} (hY : Yn σ ≤ 12) (hx : x < nS σ) (h : fp0 σ x = nI y) (hy : y < 12) : enN σ y (x + 1) = enN σ y x + 1 := by
  refine cntB_one hx (fun z _ hz => decide_eq_decide.mpr ⟨fun w => ⟨w.1, w.2.elim Or.inl (fun u => Or.inr ⟨u.1, by omega⟩)⟩, fun w => ⟨w.1, w.2.elim Or.inl (fun u => Or.inr ⟨u.1, by omega⟩)⟩⟩) (decide_eq_false (fun w => ?_)) (decide_eq_true ⟨?_, Or.inr ⟨h, by omega⟩⟩)
  · rcases w.2 with u | u
    · rw [h] at u; exact absurd u (Int32.lt_irrefl)
    · exact absurd u.2 (Nat.lt_irrefl _)
  · rw [h]; exact nI_NOTF (by omega)
theorem en_s0 {σ : Row} {x y : Nat} (h : ¬ fp0 σ x = nI y) : enN σ y (x + 1) = enN σ y x := by
  refine cntB_congr (fun z _ => decide_eq_decide.mpr ⟨fun w => ⟨w.1, w.2.elim Or.inl (fun u => Or.inr ⟨u.1, ?_⟩)⟩, fun w => ⟨w.1, w.2.elim Or.inl (fun u => Or.inr ⟨u.1, by omega⟩)⟩⟩)
  have h1 : z ≠ x := fun e => h (by rw [← e]; exact u.1)
  omega
theorem en_y {σ : Row} {y : Nat} (hY : Yn σ ≤ 12) (hy : y < 12) : enN σ y (nS σ) = enN σ (y + 1) 0 := by
  refine cntB_congr (fun z hz => decide_eq_decide.mpr ⟨fun w => ⟨w.1, Or.inl ?_⟩, fun w => ⟨w.1, ?_⟩⟩)
  · rcases fp0_cases σ z with h | ⟨q, hq, h⟩
    · exact absurd h w.1
    · rw [h] at w ⊢
      rcases w.2 with u | u
      · have := (nI_ltI (by omega) (by omega)).mp u
        exact nI_lt (by omega) (by omega)
      · have := nI_inj (by omega) (by omega) u.1
        exact nI_lt (by omega) (by omega)
  · rcases fp0_cases σ z with h | ⟨q, hq, h⟩
    · exact absurd h w.1
    · rw [h] at w ⊢
      rcases w.2 with u | u
      · have h2 := (nI_ltI (by omega) (by omega)).mp u
        by_cases e : q = y
        · exact Or.inr ⟨by rw [e], hz⟩
        · exact Or.inl (nI_lt (by omega) (by omega))
      · exact absurd u.2 (Nat.not_lt_zero _)
theorem en_0 {σ : Row} (hY : Yn σ ≤ 12) : enN σ 0 0 = 0 := by
  have h : ∀ n, cntB (enB σ 0 0) n = 0 := by
    intro n
    induction n with
    | zero => rfl
    | succ n ih =>
      show cntB _ n + _ = 0
      have h2 : enB σ 0 0 n = false := decide_eq_false (fun w => by
        rcases fp0_cases σ n with h | ⟨q, hq, h⟩
        · exact absurd h w.1
        · rw [h] at w
          rcases w.2 with u | u
          · exact absurd u (nI_pos (by omega))
          · exact absurd u.2 (Nat.not_lt_zero _))
      rw [ih, h2, if_neg (by decide)]
  exact h _
theorem en_Y {σ : Row} (hY : Yn σ ≤ 12) : enN σ (Yn σ) 0 = enM σ := by
  refine cntB_congr (fun z _ => decide_eq_decide.mpr ⟨fun w => w.1, fun w => ⟨w, Or.inl ?_⟩⟩)
  rcases fp0_cases σ z with h | ⟨q, hq, h⟩
  · exact absurd h w
  · rw [h]; exact nI_lt hq (by omega)
theorem en_rk {σ : Row} {x y : Nat} (hY : Yn σ ≤ 12) (h : fp0 σ x = nI y) : rkC (enC σ) (enL σ) (nS σ) x = enN σ y x := by
  refine cntB_congr (fun z _ => ?_)
  unfold enC enL ahd enB
  rw [h]
  by_cases hz : fp0 σ z = NOTF
  · rw [decide_eq_false (fun w => w hz), Bool.false_and, decide_eq_false (fun w => w.1 hz)]
  · rw [decide_eq_true hz, Bool.true_and]
    by_cases e : fp0 σ z = nI y
    · rw [if_neg (fun w => w e), if_neg (fun w => w rfl)]
      exact decide_eq_decide.mpr ⟨fun w => ⟨hz, Or.inr ⟨e, w⟩⟩, fun w => w.2.elim (fun u => by rw [e] at u; exact absurd u Int32.lt_irrefl) (fun u => u.2)⟩
    · rw [if_pos e]
      exact decide_eq_decide.mpr ⟨fun w => ⟨hz, Or.inl w⟩, fun w => w.2.elim (fun u => u) (fun u => absurd u.1 e)⟩
theorem en_hit {σ : Row} {x y : Nat} (hY : Yn σ ≤ 12) (hx : x < nS σ) (hy : y < 12) (h : fp0 σ x = nI y) : enE σ (enN σ y x) = x ∧ enN σ y x < enM σ := by
  have hc : enC σ x = true := decide_eq_true (by rw [h]; exact nI_NOTF (by omega))
  rw [← en_rk hY h]
  exact ⟨elK_eq (enL_St σ) hx hc rfl, rk_top (enL_St σ) hx hc⟩
theorem enM_le (σ : Row) : enM σ ≤ nS σ := cntB_le _ _
theorem enE_ok {σ : Row} {k : Nat} (h : k < enM σ) : enE σ k < nS σ ∧ ∃ q, q < Yn σ ∧ fp0 σ (enE σ k) = nI q := by
  obtain ⟨h1, h2, _⟩ := elK_is (enL_St σ) h
  refine ⟨h1, ?_⟩
  rcases fp0_cases σ (enE σ k) with g | g
  · exact absurd g (of_decide_eq_true h2)
  · exact g
def SEn (a j : Nat) : Bool := (decide (75 ≤ a ∧ a ≤ 77)) || a == 83 || a == 84 || (a == 67 && j == 33)
