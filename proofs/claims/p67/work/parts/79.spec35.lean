/-! the model's statements -/
theorem isNm_I {b : Nat → Int32} {n p : Nat} : decide (nI (tK b n p) = nI 2 ∧ kwI b n p = -1) = isNm b n p := by
  unfold isNm
  exact decide_eq_decide.mpr ⟨fun h => ⟨nI_inj (by have := tK_le (b := b) (n := n) (p := p); omega) (by omega) h.1, h.2⟩, fun h => ⟨by rw [h.1], h.2⟩⟩
theorem e2_I {b : Nat → Int32} {n p : Nat} : (if nI (tK b n p) = nI 1 then nI 1 else nI 2) = e2 b n p := by
  unfold e2
  by_cases e : tK b n p = 1
  · rw [if_pos e, if_pos (by rw [e])]
  · rw [if_neg e, if_neg (fun z => e (nI_inj (by have := tK_le (b := b) (n := n) (p := p); omega) (by omega) z))]
theorem fl_I {b : Nat → Int32} {n p : Nat} {w : Int32} (h : tK b n p ≠ 1) : (if nI (tK b n p) = nI 1 then nI 1 else w) = w := if_neg (fun z => h (nI_inj (by have := tK_le (b := b) (n := n) (p := p); omega) (by omega) z))
theorem isNm_2 {b : Nat → Int32} {n p : Nat} (h : isNm b n p = true) : tK b n p = 2 ∧ kwI b n p = -1 := of_decide_eq_true h
theorem fkI_ne {b : Nat → Int32} {n : Nat} {σ : Row} {nm : Nm} {t s : Nat} (hi : Inv σ) (ht : t < 3) (h : fkI b n σ nm t s ≠ -1) : fk b n σ nm t s < cN σ t := Classical.not_not.mp (fun z => h ((fkI_m1 (cN_I hi ht).2).mpr z))
theorem fkI_eq {b : Nat → Int32} {n : Nat} {σ : Row} {nm : Nm} {t s : Nat} (hi : Inv σ) (ht : t < 3) (h : fkI b n σ nm t s = -1) : ¬ fk b n σ nm t s < cN σ t := (fkI_m1 (cN_I hi ht).2).mp h
/-- the model's names, and one more laid behind those of its sort -/
def NmX (b : Nat → Int32) (n : Nat) (L : CL) (σ : Row) (nm : Nm) (t s : Nat) : Prop := NmM b n L σ nm ∧ VP b n s ∧ L 74 (12 * t + cN σ t) = Int64.ofNat (w27 b n s)
theorem NmX.fl {b : Nat → Int32} {n t s : Nat} {L M : CL} {σ : Row} {nm : Nm} {S : Nat → Nat → Bool} (h : NmX b n L σ nm t s) (hF : FL S L M) (hs : ∀ j, S 74 j = false) : NmX b n M σ nm t s := ⟨h.1.fl hF hs, h.2.1, by rw [hF _ _ (hs _)]; exact h.2.2⟩
theorem NmX.mk9 {b : Nat → Int32} {n t s : Nat} {L : CL} {σ : Row} {nm : Nm} (hi : Inv σ) (h : NmM b n L σ nm) (ht : t < 3) (hc : cN σ t < 12) (hv : VP b n s) : NmX b n (u2L L 74 (12 * t + cN σ t) (Int64.ofNat (w27 b n s))) σ nm t s := by
  refine ⟨fun a k ha hk => ⟨(h a k ha hk).1, ?_⟩, hv, u2L_at⟩
  have := (cN_I hi ha).2
  have hne : 12 * a + k ≠ 12 * t + cN σ t := by
    by_cases q : a = t
    · subst q; omega
    · omega
  rw [u2L_eq, show vp_updL (L 74) (12 * t + cN σ t) (Int64.ofNat (w27 b n s)) (12 * a + k) = L 74 (12 * a + k) from if_neg hne]
  exact (h a k ha hk).2
theorem NmX.grow {b : Nat → Int32} {n t s : Nat} {L : CL} {σ σ' : Row} {nm : Nm} (h : NmX b n L σ nm t s) (hN : ∀ a, a < 3 → cN σ' a = cN σ a + (if a = t then 1 else 0)) : NmM b n L σ' (unm nm t (cN σ t) s) := by
  intro a k ha hk
  have e := hN a ha
  unfold unm
  by_cases q : a = t ∧ k = cN σ t
  · rw [if_pos q, q.1, q.2]; exact ⟨h.2.1, h.2.2⟩
  · rw [if_neg q]
    refine h.1 a k ha ?_
    by_cases z : a = t
    · rw [if_pos z] at e; have : k ≠ cN σ t := fun w => q ⟨z, w⟩
      subst z; omega
    · rw [if_neg z] at e; omega
theorem NmM.same {b : Nat → Int32} {n : Nat} {L : CL} {σ σ' : Row} {nm : Nm} (h : NmM b n L σ nm) (hN : ∀ a, a < 3 → cN σ' a = cN σ a) : NmM b n L σ' nm := fun a k ha hk => h a k ha (by rw [hN a ha] at hk; exact hk)
theorem cN_upd {σ : Row} {k : Nat} {v : Int32} (hk : k < 3 ∨ 6 ≤ k) : ∀ a, a < 3 → cN (upd σ k v) a = cN σ a := fun a ha => by
  unfold cN
  rw [upd_ne (by omega)]
theorem cN_adL {σ : Row} {v : Int32} (h : nLn σ < 4) : ∀ a, a < 3 → cN (adL σ v) a = cN σ a + (if a = 0 then 1 else 0) := fun a ha => by
  obtain ⟨h1, h2, h3, _⟩ := adL_n (t := v) h
  rcases (show a = 0 ∨ a = 1 ∨ a = 2 by omega) with rfl | rfl | rfl
  · exact h1
  · exact h2
  · exact h3
theorem cN_adS {σ : Row} {v1 v2 v3 v4 v5 : Int32} (h : nS σ < 12) : ∀ a, a < 3 → cN (adS σ v1 v2 v3 v4 v5) a = cN σ a + (if a = 1 then 1 else 0) := fun a ha => by
  obtain ⟨h1, h2, h3, _⟩ := adS_n (a := v1) (b := v2) (c := v3) (d := v4) (e := v5) h
  rcases (show a = 0 ∨ a = 1 ∨ a = 2 by omega) with rfl | rfl | rfl
  · exact h1
  · exact h2
  · exact h3
theorem cN_adG {σ : Row} {v1 v2 : Int32} (h : nG σ < 5) : ∀ a, a < 3 → cN (adG σ v1 v2) a = cN σ a + (if a = 2 then 1 else 0) := fun a ha => by
  obtain ⟨h1, h2, h3, _⟩ := adG_n (a := v1) (b := v2) h
  rcases (show a = 0 ∨ a = 1 ∨ a = 2 by omega) with rfl | rfl | rfl
  · exact h1
  · exact h2
  · exact h3
/-- what a statement leaves in the model -/
def PostM (b : Nat → Int32) (n : Nat) (r : PRes) (I : CI) (L : CL) : Prop := match r with
  | .inl (k, s) => I 67 17 = k ∧ I 67 18 = nI s
  | .inr (π, nm, q) => I 69 = π ∧ TokM b n I L q ∧ NmM b n L π nm ∧ KZ I
def SNo (a j : Nat) : Bool := a == 67 && (decide (12 ≤ j ∧ j ≤ 18) || j == 21 || j == 22)
theorem okP_l {e : Int32 × Nat} : okP (.inl e) = false := rfl
theorem okP_r {e : Row × Nm × Nat} : okP (.inr e) = true := rfl
