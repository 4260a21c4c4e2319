/-! the world behind the constructors: what it says -/
theorem esW_wl {bs : Nat} {cy : Nat → ClassId} : wq bs (esW bs cy) = wl bs cy I0 L0 R0 := by
  apply List.ext_getElem?
  intro j
  by_cases h : j < NC
  · rw [wq_at (esW_at bs cy j h), wl_at h]
  · have h1 : (wq bs (esW bs cy)).length = NC := by rw [wq_len]; rfl
    have h2 : (wl bs cy I0 L0 R0).length = NC := by unfold wl; rw [List.length_map, List.length_range]
    rw [List.getElem?_eq_none (by omega), List.getElem?_eq_none (by omega)]
theorem esW_Wd {G : va_G} {bs : Nat} {cy : Nat → ClassId} {H : Heap} (h : va_P G vwCl (wq bs (esW bs cy)) H) : Wd G bs cy I0 L0 R0 H := by
  rw [esW_wl] at h
  exact h
theorem I0_Br (f : Nat → Int32) : BrAt I0 31 (iniR f) ∧ BrAt I0 42 (iniR f) := by
  have e1 : ∀ y, y < 12 → flR (fun _ => 0) (nI 100) 12 y = nI 100 := fun y hy => if_pos hy
  have e2 : ∀ y, y < 12 → flR (fun _ => 0) (nI 0) 12 y = nI 0 := fun y hy => if_pos hy
  exact ⟨ini_Br rfl rfl rfl rfl rfl rfl e1 e2, ini_Br rfl rfl rfl rfl rfl rfl e1 e2⟩
theorem I0_Ga (f : Nat → Int32) : GaAt I0 53 (iniR f) ∧ GaAt I0 57 (iniR f) := by
  have e : ∀ x y, x < 12 → y < 12 → flR (fun _ => 0) (-1) 144 (y * 12 + x) = pnt (iniR f) x y := fun x y hx hy => by
    rw [ini_pnt hx hy]; exact if_pos (by omega)
  exact ⟨e, e⟩
theorem I0_Pl (f : Nat → Int32) : PlAt I0 57 (iniR f) := PlAt.of (I0_Ga f).2 (fun z hz => by rw [ini_n.2.1] at hz; exact absurd hz (Nat.not_lt_zero _))
theorem I0_His (U : Nat → Row) : HisN I0 0 U 15 := ⟨by decide, by decide, rfl, rfl, fun t h => absurd h (Nat.not_lt_zero _)⟩
theorem I0_Tx (b : Nat → Int32) : TxAt I0 0 b := ⟨rfl, rowP.zero⟩
theorem I0_Ou (f : Nat → Int32) : OuAt I0 (f, 0) := ⟨rfl, rowP.zero⟩
theorem R0_at : R0 0 7 = 31 ∧ R0 0 8 = 57 ∧ R0 0 9 = 42 ∧ R0 0 10 = 53 ∧ R0 57 0 = 31 := ⟨rfl, rfl, rfl, rfl, rfl⟩
theorem I0_m : I0 68 = iniR (fun _ => 0) ∧ I0 67 5 = nI 0 ∧ I0 67 8 = nI 0 ∧ I0 67 9 = I0 0 11 ∧ I0 67 10 = I0 0 12 ∧ I0 67 38 = nI 0 := ⟨rfl, rfl, rfl, rfl, rfl, rfl⟩
