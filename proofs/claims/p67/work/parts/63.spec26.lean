/-! what the class's edits leave -/
theorem setP_bk {σ : Row} {x y : Nat} {g : Int32} : setP (setP σ x y g) x y (pnt σ x y) = σ := setP_back rfl
def nxW (o : Option Row) (nw : Nat) : Nat := match o with
  | none => nw
  | some _ => (nw + 1) % 16
def EdC (I : CI) (β q : Nat) (o : Option Row) (σ : Row) (k : Nat) (U : Nat → Row) (nw : Nat) : Prop := BrAt I β (nxS o σ) ∧ PlAt I q (nxS o σ) ∧ HisN I (nxK o k) (nxU o σ U) (nxW o nw)
theorem EdC.no {I : CI} {β q nw : Nat} {o : Option Row} {σ : Row} {k : Nat} {U : Nat → Row} (h : o = none) (h1 : BrAt I β σ) (h2 : PlAt I q σ) (h3 : HisN I k U nw) : EdC I β q o σ k U nw := by
  subst h
  exact ⟨h1, h2, h3⟩
theorem EdC.ok {I : CI} {β q nw : Nat} {o : Option Row} {σ τ : Row} {k : Nat} {U : Nat → Row} (h : o = some τ) (h1 : BrAt I β τ) (h2 : PlAt I q τ) (h3 : HisN I (min 16 (k + 1)) (pushU σ U) ((nw + 1) % 16)) : EdC I β q o σ k U nw := by
  subst h
  exact ⟨h1, h2, h3⟩
def SEd (β q a j : Nat) : Bool := decide (9 ≤ a ∧ a ≤ 26) || decide (β ≤ a ∧ a ≤ β + 10) || a == q + 1 || a == q + 2 || a == q + 3
theorem SEd_b {β q k j : Nat} (h : k ≤ 10) : SEd β q (β + k) j = true := by
  unfold SEd
  rw [decide_eq_true (show β ≤ β + k ∧ β + k ≤ β + 10 by omega), Bool.or_true]; rfl
theorem SEd_b0 {β q j : Nat} : SEd β q β j = true := SEd_b (k := 0) (Nat.zero_le _)
section BU
variable {I : CI} {β q : Nat} {σ : Row} {v : Int32}
theorem rgS_u {k x : Nat} (h : k < 104) (hx : x < 12) (h2 : k ≠ 10 + 5 * x + 2) (h3 : k ≠ 10 + 5 * x + 3) (h4 : k ≠ 2) (z : Nat) : rgS (upd σ k v) x z = rgS σ x z := by
  unfold rgS rgB
  rw [upd_ne (fun e => h2 e.symm), upd_ne (fun e => h3 e.symm), upd_ne (fun e => h4 e.symm)]
  have e : ptd (upd σ k v) x = ptd σ x := by
    funext z
    unfold ptd pnt
    rw [upd_ne (by omega)]
  rw [e]
theorem GaAt_u {k : Nat} (h : k < 104) (g : GaAt I q σ) : GaAt I q (upd σ k v) := fun x y hx hy => by
  rw [g x y hx hy]
  unfold pnt
  rw [upd_ne (by omega)]
theorem RuAt_u {k x : Nat} (h : k < 104) (hx : x < 12) (h2 : k ≠ 10 + 5 * x + 2) (h3 : k ≠ 10 + 5 * x + 3) (h4 : k ≠ 2) (h5 : k ≠ 0) (g : RuAt I q σ x) : RuAt I q (upd σ k v) x := by
  have e : Yn (upd σ k v) = Yn σ := by unfold Yn; rw [upd_ne (fun e => h5 e.symm)]
  exact ⟨fun z hz => by rw [rgS_u h hx h2 h3 h4]; rw [e] at hz; exact g.1 z hz, fun z hz => by rw [rgS_u h hx h2 h3 h4]; rw [e] at hz; exact g.2 z hz⟩
theorem PlAt_u {k : Nat} (hi : Inv σ) (h : k = 1 ∨ (70 ≤ k ∧ k < 104)) (g : PlAt I q σ) : PlAt I q (upd σ k v) := by
  have hS := hi.2.2.2.2.2.2.1
  refine PlAt.of (GaAt_u (by omega) g.1) (fun x hx => ?_)
  rw [nS_u (by omega)] at hx
  exact RuAt_u (by omega) (by omega) (by omega) (by omega) (by omega) (by omega) (g.ru hx)
theorem BrAt_u (hi : Inv σ) (h : BrAt I β σ) {k c j : Nat} (hc : c ≤ 10) (hk : k = 1 ∨ (6 ≤ k ∧ k < 104))
    (h0 : c = 0 → j = 1 ∧ k = 1) (h1 : k = 1 → c = 0) (ht : ∀ z, z < nLn σ → (k = 6 + z ↔ (c = 1 ∧ j = z))) (hx : ∀ x, x < nS σ → (k = 10 + 5 * x + 0 ↔ (c = 2 ∧ j = x)) ∧ (k = 10 + 5 * x + 1 ↔ (c = 3 ∧ j = x)) ∧ (k = 10 + 5 * x + 2 ↔ (c = 4 ∧ j = x)) ∧ (k = 10 + 5 * x + 3 ↔ (c = 5 ∧ j = x)) ∧ (k = 10 + 5 * x + 4 ↔ (c = 6 ∧ j = x)))
    (hg : ∀ g, g < nG σ → (k = 70 + 2 * g + 0 ↔ (c = 7 ∧ j = g)) ∧ (k = 70 + 2 * g + 1 ↔ (c = 8 ∧ j = g))) (hy : ∀ y, y < 12 → (k = 80 + y ↔ (c = 9 ∧ j = y)) ∧ (k = 92 + y ↔ (c = 10 ∧ j = y))) : BrAt (u2 I (β + c) j v) β (upd σ k v) := by
  have key : ∀ c2 j2 k2, (k = k2 ↔ (c = c2 ∧ j = j2)) → I (β + c2) j2 = σ k2 → u2 I (β + c) j v (β + c2) j2 = upd σ k v k2 := by
    intro c2 j2 k2 h1 h2
    by_cases e : k = k2
    · obtain ⟨e1, e2⟩ := h1.mp e
      rw [← e, ← e1, ← e2, u2_at, upd_eq]
    · rw [upd_ne (fun z => e z.symm), u2_off (by
        by_cases e1 : c = c2
        · exact Or.inr (fun z => e (h1.mpr ⟨e1, z.symm⟩))
        · exact Or.inl (by omega)), h2]
  obtain ⟨⟨a0, a1, a2, a3, a4, a5⟩, b1, b2, b3, b4⟩ := h
  refine ⟨⟨key 0 0 0 (by omega) a0, key 0 1 1 (by omega) a1, key 0 2 2 (by omega) a2, key 0 3 3 (by omega) a3, key 0 4 4 (by omega) a4, key 0 5 5 (by omega) a5⟩, fun z hz => ?_, fun x hx2 => ?_, fun g hg2 => ?_, fun y hy2 => ?_⟩
  · rw [nL_u (by omega)] at hz
    exact key 1 z _ (ht z hz) (b1 z hz)
  · rw [nS_u (by omega)] at hx2
    obtain ⟨g0, g1, g2, g3, g4⟩ := hx x hx2
    obtain ⟨f0, f1, f2, f3, f4⟩ := b2 x hx2
    exact ⟨key 2 x _ g0 f0, key 3 x _ g1 f1, key 4 x _ g2 f2, key 5 x _ g3 f3, key 6 x _ g4 f4⟩
  · rw [nG_u (by omega)] at hg2
    obtain ⟨g0, g1⟩ := hg g hg2
    obtain ⟨f0, f1⟩ := b3 g hg2
    exact ⟨key 7 g _ g0 f0, key 8 g _ g1 f1⟩
  · obtain ⟨g0, g1⟩ := hy y hy2
    obtain ⟨f0, f1⟩ := b4 y hy2
    exact ⟨key 9 y _ g0 f0, key 10 y _ g1 f1⟩
theorem BrAt_day (hi : Inv σ) (h : BrAt I β σ) {y : Nat} (hy : y < 12) : BrAt (u2 I (β + 9) y v) β (upd σ (80 + y) v) := by
  obtain ⟨hY, hY1, hY12, hLn, hL4, hSn, hS12, hGn, hG5⟩ := id hi
  exact BrAt_u hi h (by omega) (by omega) (by omega) (by omega) (fun z hz => by omega) (fun x hx => by omega) (fun g hg => by omega) (fun z hz => by omega)
theorem BrAt_cls (hi : Inv σ) (h : BrAt I β σ) {y : Nat} (hy : y < 12) : BrAt (u2 I (β + 10) y v) β (upd σ (92 + y) v) := by
  obtain ⟨hY, hY1, hY12, hLn, hL4, hSn, hS12, hGn, hG5⟩ := id hi
  exact BrAt_u hi h (by omega) (by omega) (by omega) (by omega) (fun z hz => by omega) (fun x hx => by omega) (fun g hg => by omega) (fun z hz => by omega)
theorem BrAt_rat (hi : Inv σ) (h : BrAt I β σ) {x : Nat} (hx : x < nS σ) : BrAt (u2 I (β + 5) x v) β (upd σ (10 + 5 * x + 3) v) := by
  obtain ⟨hY, hY1, hY12, hLn, hL4, hSn, hS12, hGn, hG5⟩ := id hi
  exact BrAt_u hi h (by omega) (by omega) (by omega) (by omega) (fun z hz => by omega) (fun z hz => by omega) (fun g hg => by omega) (fun z hz => by omega)
theorem BrAt_spd (hi : Inv σ) (h : BrAt I β σ) {g : Nat} (hg : g < nG σ) : BrAt (u2 I (β + 7) g v) β (upd σ (70 + 2 * g + 0) v) := by
  obtain ⟨hY, hY1, hY12, hLn, hL4, hSn, hS12, hGn, hG5⟩ := id hi
  exact BrAt_u hi h (by omega) (by omega) (by omega) (by omega) (fun z hz => by omega) (fun z hz => by omega) (fun g hg => by omega) (fun z hz => by omega)
theorem BrAt_sht (hi : Inv σ) (h : BrAt I β σ) : BrAt (u2 I β 1 v) β (upd σ 1 v) := by
  obtain ⟨hY, hY1, hY12, hLn, hL4, hSn, hS12, hGn, hG5⟩ := id hi
  exact BrAt_u (c := 0) hi h (by omega) (by omega) (by omega) (by omega) (fun z hz => by omega) (fun z hz => by omega) (fun g hg => by omega) (fun z hz => by omega)
end BU
