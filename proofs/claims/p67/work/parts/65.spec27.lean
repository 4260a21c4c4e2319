/-! the class's references: only the draft's bridge changes -/
def FR (u : Nat) (R R1 : CR) : Prop := ∀ a j, (a ≠ u ∨ j ≠ 0) → R1 a j = R a j
theorem FR.rf {u : Nat} {R : CR} : FR u R R := fun _ _ _ => rfl
theorem FR.tr {u : Nat} {R S T : CR} (h : FR u R S) (g : FR u S T) : FR u R T := fun a j ha => (g a j ha).trans (h a j ha)
theorem FR.put {u v : Nat} {R S : CR} (h : FR u R S) : FR u R (u2R S u 0 v) := fun a j ha => by
  rw [u2R_off ha]
  exact h a j ha
theorem PD_un {σ : Row} {x y : Nat} (hp : PD σ) (hx : x < 12) : PD (setP σ x y (-1)) := by
  intro a b ha hb
  rw [pnt_setP hx ha, nG_setP, nS_setP, Yn_setP]
  by_cases h : a = x ∧ b = y
  · rw [if_pos h]
    exact Or.inl rfl
  · rw [if_neg h]
    exact hp a b ha hb
theorem DR_un {σ : Row} {x y : Nat} (hi : Inv σ) (hd : DR σ) (hx : x < 12) : DR (setP σ x y (-1)) := Sm_DR Sm_setP hi hd (PD_un hd.2.1 hx)
def AdC (I : CI) (R R1 : CR) (β q u : Nat) (o : Option Row) (σ : Row) (k : Nat) (U : Nat → Row) (nw : Nat) : Prop := match o with
  | none => BrAt I β σ ∧ PlAt I q σ ∧ HisN I k U nw ∧ R1 = u2R R u 0 β
  | some τ => BrAt I β τ ∧ PlAt I u τ ∧ HisN I (min 16 (k + 1)) (pushU σ U) ((nw + 1) % 16) ∧ R1 = u2R (u2R (u2R R u 0 β) 0 8 u) 0 10 q
theorem AdC.no {I : CI} {R R1 : CR} {β q u nw : Nat} {o : Option Row} {σ : Row} {k : Nat} {U : Nat → Row} (h : o = none) (h1 : BrAt I β σ) (h2 : PlAt I q σ) (h3 : HisN I k U nw) (h4 : R1 = u2R R u 0 β) : AdC I R R1 β q u o σ k U nw := by
  subst h
  exact ⟨h1, h2, h3, h4⟩
theorem AdC.ok {I : CI} {R R1 : CR} {β q u nw : Nat} {o : Option Row} {σ τ : Row} {k : Nat} {U : Nat → Row} (h : o = some τ) (h1 : BrAt I β τ) (h2 : PlAt I u τ) (h3 : HisN I (min 16 (k + 1)) (pushU σ U) ((nw + 1) % 16)) (h4 : R1 = u2R (u2R (u2R R u 0 β) 0 8 u) 0 10 q) : AdC I R R1 β q u o σ k U nw := by
  subst h
  exact ⟨h1, h2, h3, h4⟩
def SAd (q a j : Nat) : Bool := decide (2 ≤ a ∧ a ≤ 6) || decide (9 ≤ a ∧ a ≤ 26) || a == q + 1 || a == q + 2 || a == q + 3
theorem wi_eq : ∀ g, g < 5 → nI 31 &&& ((nI 1 <<< (nI g &&& 31)) ^^^ (-1)) = wiG g := by decide +kernel
/-- what a search leaves in its row -/
def QS (σ : Row) (d : Nat) (τ : Row) : Prop := Sm σ τ ∧ PD τ ∧ pcN τ = pcN σ + d
theorem pc_setP {σ : Row} {x y g : Nat} (hx : x < 12) (hy : y < 12) (hg : g < 5) (hu : pnt σ x y = -1) : pcN (setP σ x y (nI g)) = pcN σ + 1 := by
  refine cntB_one (x := 12 * y + x) (by omega) (fun z hz hne => ?_) ?_ ?_
  · unfold cpB setP
    rw [upd_ne (by omega)]
  · rw [cpB_ptd]; unfold ptd; rw [hu]; exact decide_eq_false (fun w => w rfl)
  · rw [cpB_ptd]; unfold ptd; rw [pnt_hit]; exact decide_eq_true (nI_m1 (by omega))
theorem sg_QS {F : Row → Nat → RS} {x y d G : Nat} {σ : Row} {r : RS} (hi : Inv σ) (hp : PD σ) (hx : x < nS σ) (hy : y < Yn σ) (hG : nG σ = G) (hF : ∀ τ t, Sm σ τ → PD τ → (F τ t).1 = 1 → QS τ d (F τ t).2.1) (hr : r.1 = 0) (hr2 : r.2.1 = σ) : ∀ g, g ≤ G → (sgL F x y r g).1 = 1 → QS σ (d + 1) (sgL F x y r g).2.1
  | 0, _, h => by
    have h2 : r.1 = 1 := h
    omega
  | g + 1, hg, h => by
    obtain ⟨hY, hY1, hY12, hLn, hL4, hSn, hS12, hGn, hG5⟩ := id hi
    have ih := sg_QS hi hp hx hy hG hF hr hr2 g (by omega)
    have h1 : (sgS F x y g (sgL F x y r g)).1 = 1 := h
    show QS σ (d + 1) (sgS F x y g (sgL F x y r g)).2.1
    rcases sgS_cases F x y g (sgL F x y r g) with e | e | ⟨_, _, e⟩ | ⟨e0, _, e1, e | e⟩
    · rw [e] at h1 ⊢; exact ih h1
    · rw [e] at h1; exact absurd (show (2 : Nat) = 1 from h1) (by decide)
    · rw [e] at h1; exact absurd (show (0 : Nat) = 1 from h1) (by decide)
    · rw [e] at h1; exact absurd (show (0 : Nat) = 1 from h1) (by decide)
    · rw [e] at h1 ⊢
      have hrow : (sgL F x y r g).2.1 = σ := (sgL_row g e0).2.trans hr2
      rw [hrow] at h1 e1 ⊢
      have hun := rfs_pn (of_decide_eq_true e1).1
      obtain ⟨q1, q2, q3⟩ := hF _ _ Sm_setP (PD_setP hp hx hS12 hy (by omega)) h1
      exact ⟨Sm_setP.tr q1, q2, by rw [q3, pc_setP (by omega) (by omega) (by omega) hun]; omega⟩
theorem sy_QS {F : Row → Nat → RS} {x d G : Nat} {σ : Row} {r : RS} (hi : Inv σ) (hp : PD σ) (hx : x < nS σ) (hG : nG σ = G) (hF : ∀ τ t, Sm σ τ → PD τ → (F τ t).1 = 1 → QS τ d (F τ t).2.1) (hr : r.1 = 0) (hr2 : r.2.1 = σ) : ∀ y, y ≤ Yn σ → (syL F x G r y).1 = 1 → QS σ (d + 1) (syL F x G r y).2.1
  | 0, _, h => by
    have h2 : r.1 = 1 := h
    omega
  | y + 1, hy, h => by
    have h1 : (sgL F x y (syL F x G r y) G).1 = 1 := h
    show QS σ (d + 1) (sgL F x y (syL F x G r y) G).2.1
    by_cases e : (syL F x G r y).1 = 0
    · exact sg_QS hi hp hx (by omega) hG hF e ((syL_row y e).2.trans hr2) G (Nat.le_refl _) h1
    · rw [sgL_start e] at h1 ⊢
      exact sy_QS hi hp hx hG hF hr hr2 y (by omega) h1
theorem sr_QS {E D : Nat → Nat} {G : Nat} : ∀ d k (σ : Row) t, Inv σ → PD σ → nG σ = G → (∀ i, i < k + d → E i < nS σ ∧ D i < Yn σ) → (srK E D G d k σ t).1 = 1 → QS σ d (srK E D G d k σ t).2.1
  | 0, _, σ, t, _, hp, _, _, _ => by
    show QS σ 0 σ
    exact ⟨Sm.rf, hp, (Nat.add_zero _).symm⟩
  | d + 1, k, σ, t, hi, hp, hG, hE, h => by
    obtain ⟨h1, h2⟩ := hE k (by omega)
    refine sy_QS (x := E k) (d := d) (G := G) hi hp h1 hG (fun τ t2 hm hp2 h3 => ?_) rfl rfl (D k + 1) (by omega) h
    exact sr_QS d (k + 1) τ t2 (Sm_Inv hm hi) hp2 (by rw [hm.G]; exact hG) (fun i hi2 => by rw [hm.S, hm.Y]; exact hE i (by omega)) h3
theorem sa_QS {σ : Row} (hi : Inv σ) (h : (saR σ).1 = 1) : Sm σ (saR σ).2.1 ∧ PD (saR σ).2.1 ∧ pcN (saR σ).2.1 = enM (clP σ) := by
  have hiC : Inv (clP σ) := Sm_Inv Sm_cl hi
  have hYC : Yn (clP σ) ≤ 12 := hiC.2.2.1
  obtain ⟨h1, h2, h3⟩ := sr_QS (enM (clP σ)) 0 (clP σ) 0 hiC PD_cl rfl (fun i hi2 => ⟨(enE_ok (by omega)).1, saD_lt hYC (by omega)⟩) h
  refine ⟨Sm_cl.tr h1, h2, ?_⟩
  have h4 : pcN (clP σ) = 0 := by
    have h5 : ∀ n, n ≤ 144 → cntB (cpB (clP σ)) n = 0 := by
      intro n
      induction n with
      | zero => exact fun _ => rfl
      | succ n ih =>
        intro hn
        show cntB _ n + _ = 0
        have h6 : cpB (clP σ) n = false := by
          have := cpB_ptd (clP σ) (n % 12) (n / 12)
          rw [show 12 * (n / 12) + n % 12 = n by omega] at this
          rw [this]
          unfold ptd
          rw [pnt_cl (by omega) (by omega)]
          exact decide_eq_false (fun w => w rfl)
        rw [ih (by omega), h6, if_neg (by decide)]
    exact h5 144 (Nat.le_refl _)
  have h7 : pcN (saR σ).2.1 = pcN (clP σ) + enM (clP σ) := h3
  omega
