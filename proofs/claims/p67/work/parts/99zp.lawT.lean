/-! the plan, painting by painting -/
section LPL
variable {σ τ υ : Row} {I J : CI} {x y g k : Nat} {U : Nat → Row}
theorem Sta.rf : Sta σ σ := ⟨fun _ _ => rfl, fun _ _ => ⟨rfl, rfl, rfl, rfl⟩, fun _ _ => rfl⟩
theorem Sta.sy (h : Sta σ τ) : Sta τ σ := ⟨fun j hj => (h.1 j hj).symm, fun x hx => ⟨(h.2.1 x hx).1.symm, (h.2.1 x hx).2.1.symm, (h.2.1 x hx).2.2.1.symm, (h.2.1 x hx).2.2.2.symm⟩, fun g hg => (h.2.2 g hg).symm⟩
theorem Sta.tr (h : Sta σ τ) (h2 : Sta τ υ) : Sta σ υ := ⟨fun j hj => (h2.1 j hj).trans (h.1 j hj), fun x hx => ⟨(h2.2.1 x hx).1.trans (h.2.1 x hx).1, (h2.2.1 x hx).2.1.trans (h.2.1 x hx).2.1, (h2.2.1 x hx).2.2.1.trans (h.2.1 x hx).2.2.1, (h2.2.1 x hx).2.2.2.trans (h.2.1 x hx).2.2.2⟩, fun g hg => (h2.2.2 g hg).trans (h.2.2 g hg)⟩
theorem Sta_Sm (h : Sm σ τ) : Sta σ τ := ⟨fun j hj => h j (by omega), fun x hx => ⟨h _ (by omega), h _ (by omega), h _ (by omega), h _ (by omega)⟩, fun g hg => h _ (by omega)⟩
theorem pnt_put {v : Int32} : pnt (setP σ x y v) x y = v := by
  unfold pnt setP
  rw [upd_eq, Int32.add_sub_cancel]
theorem pcN_setP (hi : Inv σ) (hx : x < nS σ) (hy : y < Yn σ) (hg : g < nG σ) (hp : pnt σ x y = -1) : pcN (setP σ x y (nI g)) = pcN σ + 1 := by
  obtain ⟨hY, hY1, hY12, hLn, hL4, hSn, hS12, hGn, hG5⟩ := id hi
  unfold pcN
  refine cntB_one (x := 12 * y + x) (by omega) (fun z hz hne => ?_) ?_ ?_
  · unfold cpB setP
    rw [upd_ne (by omega)]
  · rw [cpB_ptd]; exact decide_eq_false (fun h => h hp)
  · rw [cpB_ptd]; exact decide_eq_true (by rw [pnt_put]; exact nI_m1 (by omega))
theorem LwAt.put (hi : Inv σ) (h : LwAt I σ) (hx : x < 5) (hy : y < 6) : LwAt (u2 I (78 + x) y (nI g)) (setP σ x y (nI g)) := by
  have eS : nS (setP σ x y (nI g)) = nS σ := by unfold nS setP; rw [upd_ne (by omega)]
  have eG : nG (setP σ x y (nI g)) = nG σ := by unfold nG setP; rw [upd_ne (by omega)]
  have eY : Yn (setP σ x y (nI g)) = Yn σ := by unfold Yn setP; rw [upd_ne (by omega)]
  have e : ∀ j, j < 104 → setP σ x y (nI g) j = σ j := fun j hj => by unfold setP; rw [upd_ne (by omega)]
  obtain ⟨hY, hY1, hY12, hLn, hL4, hSn, hS12, hGn, hG5⟩ := id hi
  obtain ⟨h1, h2, h3, h4, h5⟩ := h
  refine ⟨?_, fun z hz => ?_, fun z hz => ?_, fun z hz => ?_, fun a b ha hb => ?_⟩
  · rw [u2_ne (by omega), e _ (by omega), e _ (by omega), e _ (by omega), e _ (by omega), e _ (by omega), e _ (by omega)]; exact h1
  · rw [u2_ne (by omega), u2_ne (by omega), u2_ne (by omega), u2_ne (by omega), u2_ne (by omega)]
    rw [eS] at hz
    rw [e _ (by omega), e _ (by omega), e _ (by omega), e _ (by omega), e _ (by omega)]; exact h2 z hz
  · rw [u2_ne (by omega), e _ (by omega)]; exact h3 z (by rw [← eG]; exact hz)
  · rw [u2_ne (by omega), e _ (by omega)]; exact h4 z (by rw [← eY]; exact hz)
  · by_cases ea : a = x
    · subst ea
      rw [u2_eq]
      by_cases eb : b = y
      · subst eb; rw [upd_eq, pnt_put]
      · rw [upd_ne eb, h5 a b ha hb]; unfold pnt setP; rw [upd_ne (by omega)]
    · rw [u2_ne (by omega), h5 a b ha hb]; unfold pnt setP; rw [upd_ne (by omega)]
theorem LwB.put (hi : Inv σ) (h : LwB σ) : LwB (setP σ x y (nI g)) := by
  obtain ⟨h1, h2, h3, h4, h5⟩ := h
  have e : ∀ j, j < 104 → setP σ x y (nI g) j = σ j := fun j hj => by unfold setP; rw [upd_ne (by omega)]
  refine ⟨?_, ?_, ?_, ?_, fun y hy => ?_⟩
  · unfold Yn; rw [e _ (by omega)]; exact h1
  · unfold nS; rw [e _ (by omega)]; exact h2
  · unfold nG; rw [e _ (by omega)]; exact h3
  · unfold nLn; rw [e _ (by omega)]; exact h4
  · rw [e _ (by omega)]; exact h5 y hy
/-- the rows before each painting -/
def USt (σ : Row) (k : Nat) (U : Nat → Row) : Prop := ∀ t, t < k → Sta σ (U t) ∧ Inv (U t) ∧ DR (U t) ∧ pcN (U t) + (t + 1) = k
theorem USt.nil : USt σ 0 U := fun t h => absurd h (Nat.not_lt_zero t)
theorem USt.up (h : USt σ k U) (hi : Inv σ) (hd : DR σ) (hk : pcN σ = k) (hs : Sta σ τ) : USt τ (k + 1) (pushU σ U) := fun t ht => by
  cases t with
  | zero => exact ⟨hs.sy, hi, hd, by show pcN σ + 1 = k + 1; omega⟩
  | succ t =>
    obtain ⟨a1, a2, a3, a4⟩ := h t (by omega)
    exact ⟨hs.sy.tr a1, a2, a3, by show pcN (U t) + (t + 1 + 1) = k + 1; omega⟩
theorem USt.dn (h : USt σ (k + 1) U) : Inv (U 0) ∧ DR (U 0) ∧ pcN (U 0) = k ∧ nS (U 0) = nS σ ∧ USt (U 0) k (popU U) := by
  obtain ⟨a1, a2, a3, a4⟩ := h 0 (by omega)
  refine ⟨a2, a3, by omega, a1.S, fun t ht => ?_⟩
  obtain ⟨b1, b2, b3, b4⟩ := h (t + 1) (by omega)
  exact ⟨a1.sy.tr b1, b2, b3, by show pcN (U (t + 1)) + (t + 1) = k; omega⟩
theorem paO_ok (hi : Inv σ) (hx : x < nS σ) (hy : y < Yn σ) (hg : g < nG σ) (h : rfs σ y x g = 0) : paO σ (nI y) (nI x) (nI g) = some (setP σ x y (nI g)) := by
  obtain ⟨hY, hY1, hY12, hLn, hL4, hSn, hS12, hGn, hG5⟩ := id hi
  have hr2 : inB (nI y) (Yn σ) = true := inB_ok (fun z => nI_pos (by omega) z) (nI_lt hy (by omega)) (by omega)
  have hr7 : inB (nI x) (nS σ) = true := inB_ok (fun z => nI_pos (by omega) z) (nI_lt hx (by omega)) (by omega)
  have hr12 : inB (nI g) (nG σ) = true := inB_ok (fun z => nI_pos (by omega) z) (nI_lt hg (by omega)) (by omega)
  unfold paO
  rw [tN_nI (show y < 2 ^ 31 by omega), tN_nI (show x < 2 ^ 31 by omega), tN_nI (show g < 2 ^ 31 by omega), hr2, hr7, hr12]
  exact if_pos ⟨rfl, h⟩
theorem paO_ko (hi : Inv σ) (hx : x < nS σ) (hy : y < Yn σ) (hg : g < nG σ) (h : rfs σ y x g ≠ 0) : paO σ (nI y) (nI x) (nI g) = none := by
  obtain ⟨hY, hY1, hY12, hLn, hL4, hSn, hS12, hGn, hG5⟩ := id hi
  unfold paO
  rw [tN_nI (show y < 2 ^ 31 by omega), tN_nI (show x < 2 ^ 31 by omega), tN_nI (show g < 2 ^ 31 by omega)]
  exact if_neg (fun z => h z.2)
theorem paR_ok (hi : Inv σ) (hx : x < nS σ) (hy : y < Yn σ) (hg : g < nG σ) (h : rfs σ y x g = 0) : ¬ paR σ (nI y) (nI x) (nI g) < 0 := by
  obtain ⟨hY, hY1, hY12, hLn, hL4, hSn, hS12, hGn, hG5⟩ := id hi
  unfold paR
  rw [tN_nI (show y < 2 ^ 31 by omega), tN_nI (show x < 2 ^ 31 by omega), tN_nI (show g < 2 ^ 31 by omega), if_pos h]
  obtain ⟨c, h1, h2⟩ := cntP_N (setP σ x y (nI g))
  rw [h2]
  have : nS (setP σ x y (nI g)) = nS σ := by unfold nS setP; rw [upd_ne (by omega)]
  exact nI_pos (by omega)
theorem paR_ko (hi : Inv σ) (hx : x < nS σ) (hy : y < Yn σ) (hg : g < nG σ) (h : rfs σ y x g ≠ 0) : paR σ (nI y) (nI x) (nI g) < 0 := by
  obtain ⟨hY, hY1, hY12, hLn, hL4, hSn, hS12, hGn, hG5⟩ := id hi
  unfold paR
  rw [tN_nI (show y < 2 ^ 31 by omega), tN_nI (show x < 2 ^ 31 by omega), tN_nI (show g < 2 ^ 31 by omega), if_neg h]
  decide
theorem rfs_0 (h : rfs σ y x g = 0) : pnt σ x y = -1 := by
  by_cases e : pnt σ x y = -1
  · exact e
  · unfold rfs at h; rw [if_pos e] at h; exact absurd h (by decide)
end LPL
