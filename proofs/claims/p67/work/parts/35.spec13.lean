/-! the search for a safe plan: (0 none, 1 found, 2 given up), the row, the tries -/
abbrev RS : Type := Nat × Row × Nat
def sgC (σ : Row) (x y g : Nat) : Bool := decide (rfs σ y x g = 0 ∧ fpB σ x (bitB (nI 1 <<< (nI y &&& 31))) = NOTF)
def sgS (F : Row → Nat → RS) (x y g : Nat) (r : RS) : RS :=
  if r.1 ≠ 0 then r
  else if r.2.2 = 20000 then (2, r.2.1, r.2.2)
  else if (sgC r.2.1 x y g = true) then (if (F (setP r.2.1 x y (nI g)) (r.2.2 + 1)).1 = 0 then (0, r.2.1, (F (setP r.2.1 x y (nI g)) (r.2.2 + 1)).2.2) else F (setP r.2.1 x y (nI g)) (r.2.2 + 1))
  else (0, r.2.1, r.2.2 + 1)
def sgL (F : Row → Nat → RS) (x y : Nat) (r : RS) : Nat → RS
  | 0 => r
  | g + 1 => sgS F x y g (sgL F x y r g)
def syL (F : Row → Nat → RS) (x G : Nat) (r : RS) : Nat → RS
  | 0 => r
  | y + 1 => sgL F x y (syL F x G r y) G
def srK (E D : Nat → Nat) (G : Nat) : Nat → Nat → Row → Nat → RS
  | 0, _, σ, t => (1, σ, t)
  | d + 1, k, σ, t => syL (fun σ t => srK E D G d (k + 1) σ t) (E k) G (0, σ, t) (D k + 1)
section SG
variable {F : Row → Nat → RS} {x y g G : Nat} {r : RS}
theorem sgS_stop (h : r.1 ≠ 0) : sgS F x y g r = r := if_pos h
theorem sgS_up (h : r.1 = 0) (h2 : r.2.2 = 20000) : sgS F x y g r = (2, r.2.1, r.2.2) := by unfold sgS; rw [if_neg (fun z => z h), if_pos h2]
theorem sgS_no (h : r.1 = 0) (h2 : ¬ r.2.2 = 20000) (h3 : ¬ (sgC r.2.1 x y g = true)) : sgS F x y g r = (0, r.2.1, r.2.2 + 1) := by unfold sgS; rw [if_neg (fun z => z h), if_neg h2, if_neg h3]
theorem sgS_in (h : r.1 = 0) (h2 : ¬ r.2.2 = 20000) (h3 : (sgC r.2.1 x y g = true)) (h4 : ¬ (F (setP r.2.1 x y (nI g)) (r.2.2 + 1)).1 = 0) : sgS F x y g r = F (setP r.2.1 x y (nI g)) (r.2.2 + 1) := by unfold sgS; rw [if_neg (fun z => z h), if_neg h2, if_pos h3, if_neg h4]
theorem sgS_bk (h : r.1 = 0) (h2 : ¬ r.2.2 = 20000) (h3 : (sgC r.2.1 x y g = true)) (h4 : (F (setP r.2.1 x y (nI g)) (r.2.2 + 1)).1 = 0) : sgS F x y g r = (0, r.2.1, (F (setP r.2.1 x y (nI g)) (r.2.2 + 1)).2.2) := by unfold sgS; rw [if_neg (fun z => z h), if_neg h2, if_pos h3, if_pos h4]
theorem sgS_cases (F : Row → Nat → RS) (x y g : Nat) (r : RS) : sgS F x y g r = r ∨ sgS F x y g r = (2, r.2.1, r.2.2) ∨ (r.1 = 0 ∧ ¬ r.2.2 = 20000 ∧ sgS F x y g r = (0, r.2.1, r.2.2 + 1)) ∨ (r.1 = 0 ∧ ¬ r.2.2 = 20000 ∧ (sgC r.2.1 x y g = true) ∧ (sgS F x y g r = (0, r.2.1, (F (setP r.2.1 x y (nI g)) (r.2.2 + 1)).2.2) ∨ sgS F x y g r = F (setP r.2.1 x y (nI g)) (r.2.2 + 1))) := by
  by_cases h : r.1 = 0
  · by_cases h2 : r.2.2 = 20000
    · exact Or.inr (Or.inl (sgS_up h h2))
    · by_cases h3 : (sgC r.2.1 x y g = true)
      · refine Or.inr (Or.inr (Or.inr ⟨h, h2, h3, ?_⟩))
        by_cases h4 : (F (setP r.2.1 x y (nI g)) (r.2.2 + 1)).1 = 0
        · exact Or.inl (sgS_bk h h2 h3 h4)
        · exact Or.inr (sgS_in h h2 h3 h4)
      · exact Or.inr (Or.inr (Or.inl ⟨h, h2, sgS_no h h2 h3⟩))
  · exact Or.inl (sgS_stop h)
theorem sgS_row (h : (sgS F x y g r).1 = 0) : r.1 = 0 ∧ (sgS F x y g r).2.1 = r.2.1 := by
  by_cases h1 : r.1 = 0
  · refine ⟨h1, ?_⟩
    by_cases h2 : r.2.2 = 20000
    · rw [sgS_up h1 h2]
    · by_cases h3 : (sgC r.2.1 x y g = true)
      · by_cases h4 : (F (setP r.2.1 x y (nI g)) (r.2.2 + 1)).1 = 0
        · rw [sgS_bk h1 h2 h3 h4]
        · rw [sgS_in h1 h2 h3 h4] at h
          exact absurd h h4
      · rw [sgS_no h1 h2 h3]
  · rw [sgS_stop h1] at h
    exact absurd h h1
theorem sgL_row : ∀ g, (sgL F x y r g).1 = 0 → r.1 = 0 ∧ (sgL F x y r g).2.1 = r.2.1
  | 0, h => ⟨h, rfl⟩
  | g + 1, h => by
    obtain ⟨h1, h2⟩ := sgS_row (F := F) (x := x) (y := y) (g := g) (r := sgL F x y r g) h
    obtain ⟨h3, h4⟩ := sgL_row g h1
    exact ⟨h3, h2.trans h4⟩
theorem syL_row : ∀ y, (syL F x G r y).1 = 0 → r.1 = 0 ∧ (syL F x G r y).2.1 = r.2.1
  | 0, h => ⟨h, rfl⟩
  | y + 1, h => by
    obtain ⟨h1, h2⟩ := sgL_row (F := F) (x := x) (y := y) (r := syL F x G r y) G h
    obtain ⟨h3, h4⟩ := syL_row y h1
    exact ⟨h3, h2.trans h4⟩
theorem sgL_stop {a : Nat} (h : (sgL F x y r a).1 ≠ 0) : ∀ b, a ≤ b → sgL F x y r b = sgL F x y r a
  | 0, hb => by rw [show a = 0 by omega]
  | b + 1, hb => by
    by_cases e : a = b + 1
    · rw [e]
    · have h1 := sgL_stop h b (by omega)
      show sgS F x y b (sgL F x y r b) = _
      rw [h1, sgS_stop h]
theorem sgL_start (h : r.1 ≠ 0) (b : Nat) : sgL F x y r b = r := sgL_stop (a := 0) h b (Nat.zero_le _)
theorem syL_stop {a : Nat} (h : (syL F x G r a).1 ≠ 0) : ∀ b, a ≤ b → syL F x G r b = syL F x G r a
  | 0, hb => by rw [show a = 0 by omega]
  | b + 1, hb => by
    by_cases e : a = b + 1
    · rw [e]
    · have h1 := syL_stop h b (by omega)
      show sgL F x b (syL F x G r b) G = _
      rw [h1, sgL_start h]
theorem sy_end {y Y : Nat} {v : RS} (hy : y < Y) (hg : g < G) (h : sgL F x y (syL F x G r y) (g + 1) = v) (hv : v.1 ≠ 0) : syL F x G r Y = v := by
  have h1 : syL F x G r (y + 1) = v := by
    show sgL F x y (syL F x G r y) G = v
    rw [sgL_stop (a := g + 1) (by rw [h]; exact hv) G hg, h]
  rw [syL_stop (a := y + 1) (by rw [h1]; exact hv) Y hy, h1]
theorem sgS_le (hF : ∀ σ t, t ≤ 20000 → (F σ t).2.2 ≤ 20000) (h : r.2.2 ≤ 20000) : (sgS F x y g r).2.2 ≤ 20000 := by
  rcases sgS_cases F x y g r with e | e | ⟨_, h2, e⟩ | ⟨_, h2, _, e | e⟩
  · rw [e]; exact h
  · rw [e]; exact h
  · rw [e]; show r.2.2 + 1 ≤ 20000; omega
  · rw [e]; exact hF _ _ (by omega)
  · rw [e]; exact hF _ _ (by omega)
theorem sgL_le (hF : ∀ σ t, t ≤ 20000 → (F σ t).2.2 ≤ 20000) (h : r.2.2 ≤ 20000) : ∀ g, (sgL F x y r g).2.2 ≤ 20000
  | 0 => h
  | g + 1 => sgS_le hF (sgL_le hF h g)
theorem syL_le (hF : ∀ σ t, t ≤ 20000 → (F σ t).2.2 ≤ 20000) (h : r.2.2 ≤ 20000) : ∀ y, (syL F x G r y).2.2 ≤ 20000
  | 0 => h
  | y + 1 => sgL_le hF (syL_le hF h y) G
end SG
theorem srK_le {E D : Nat → Nat} {G : Nat} : ∀ d k (σ : Row) t, t ≤ 20000 → (srK E D G d k σ t).2.2 ≤ 20000
  | 0, _, _, _, h => h
  | d + 1, k, σ, t, h => syL_le (fun σ t h => srK_le d (k + 1) σ t h) h (D k + 1)
theorem srK_row {E D : Nat → Nat} {G : Nat} : ∀ d k (σ : Row) t, (srK E D G d k σ t).1 = 0 → (srK E D G d k σ t).2.1 = σ
  | 0, _, _, _, _ => rfl
  | d + 1, k, σ, t, h => (syL_row (D k + 1) h).2
def code2 (r : RS) : Prop := r.1 ≤ 2
theorem sgS_c2 {F : Row → Nat → RS} {x y g : Nat} {r : RS} (hF : ∀ σ t, (F σ t).1 ≤ 2) (h : r.1 ≤ 2) : (sgS F x y g r).1 ≤ 2 := by
  rcases sgS_cases F x y g r with e | e | ⟨_, h2, e⟩ | ⟨_, h2, _, e | e⟩
  · rw [e]; exact h
  · rw [e]; exact Nat.le_refl 2
  · rw [e]; exact Nat.zero_le _
  · rw [e]; exact Nat.zero_le _
  · rw [e]; exact hF _ _
theorem sgL_c2 {F : Row → Nat → RS} {x y : Nat} {r : RS} (hF : ∀ σ t, (F σ t).1 ≤ 2) (h : r.1 ≤ 2) : ∀ g, (sgL F x y r g).1 ≤ 2
  | 0 => h
  | g + 1 => sgS_c2 hF (sgL_c2 hF h g)
theorem syL_c2 {F : Row → Nat → RS} {x G : Nat} {r : RS} (hF : ∀ σ t, (F σ t).1 ≤ 2) (h : r.1 ≤ 2) : ∀ y, (syL F x G r y).1 ≤ 2
  | 0 => h
  | y + 1 => sgL_c2 hF (syL_c2 hF h y) G
theorem srK_c2 {E D : Nat → Nat} {G : Nat} : ∀ d k (σ : Row) t, (srK E D G d k σ t).1 ≤ 2
  | 0, _, _, _ => (by decide : 1 ≤ 2)
  | d + 1, k, σ, t => syL_c2 (fun σ t => srK_c2 d (k + 1) σ t) (Nat.zero_le _) (D k + 1)
theorem sr_end {E D : Nat → Nat} {G d d9 k t y g : Nat} {σ : Row} {v : RS} (hd9 : d = d9 + 1) (hy : y < D k + 1) (hg : g < G) (h : sgL (fun σ t => srK E D G d9 (k + 1) σ t) (E k) y (syL (fun σ t => srK E D G d9 (k + 1) σ t) (E k) G (0, σ, t) y) (g + 1) = v) (hv : v.1 ≠ 0) : srK E D G d k σ t = v := by
  subst hd9
  exact sy_end hy hg h hv
theorem setP_un {σ τ : Row} {x y : Nat} {g : Int32} (h : τ = setP σ x y g) (hu : pnt σ x y = -1) : setP τ x y (-1) = σ := by
  rw [h]
  show upd (setP σ x y g) (104 + 12 * y + x) ((-1) + nI 1) = σ
  exact setP_back hu.symm
def SSr (a j : Nat) : Bool := (decide (75 ≤ a ∧ a ≤ 77)) || a == 68 || (a == 67 && j == 32) || (a == 67 && j == 34)
