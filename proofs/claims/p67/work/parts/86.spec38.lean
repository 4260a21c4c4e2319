/-! the text as a whole -/
section PI
variable {b : Nat → Int32} {n : Nat} {f : Bool} {σ : Row} {nm : Nm} {p : Nat}
theorem Gd_st (hp : p ≤ n) (hi : Inv σ) (hd : DR σ) (hf : f = true → ∀ x y, x < 12 → y < 12 → pnt σ x y = -1) : ∀ π mm q, stm b n f σ nm p = .inr (π, mm, q) → p < q ∧ q ≤ n ∧ Inv π ∧ DR π := by
  intro π mm q h
  have hG := Gd_Bo (b := b) (f := f) (nm := nm) hp hi hd hf
  cases e : stBo b n f σ nm p with
  | inl z => rw [stm_i e] at h; cases h
  | inr z =>
    obtain ⟨π2, nm2, q2⟩ := z
    by_cases hk : tK b n q2 = 4
    · rw [stm_y e hk] at h
      injection h with h
      injection h with e1 e2
      injection e2 with e2 e3
      subst e1 e3
      obtain ⟨a, c, d⟩ := hG _ _ _ e
      have := tE_gt (b := b) (n := n) (p := q2) (by omega)
      have h2 := tS_ge (b := b) (n := n) (p := q2)
      exact ⟨by omega, tE_le c, d⟩
    · rw [stm_n e hk] at h; cases h
end PI
def pI (b : Nat → Int32) (n : Nat) (σ0 : Row) : Nat → PRes
  | 0 => .inr (σ0, fun _ _ => 0, 0)
  | k + 1 => match pI b n σ0 k with
    | .inl e => .inl e
    | .inr (σ, nm, p) => if tK b n p = 0 then .inr (σ, nm, p) else stm b n (decide (k = 0)) σ nm p
section PJ
variable {b : Nat → Int32} {n : Nat} {σ0 σ : Row} {nm : Nm} {p k : Nat}
theorem pI_s (h : pI b n σ0 k = .inr (σ, nm, p)) (hk : tK b n p ≠ 0) : pI b n σ0 (k + 1) = stm b n (decide (k = 0)) σ nm p := by
  show (match pI b n σ0 k with | .inl e => _ | .inr (σ, nm, p) => _) = _
  rw [h]
  exact if_neg hk
theorem pI_z (h : pI b n σ0 k = .inr (σ, nm, p)) (hk : tK b n p = 0) : pI b n σ0 (k + 1) = .inr (σ, nm, p) := by
  show (match pI b n σ0 k with | .inl e => _ | .inr (σ, nm, p) => _) = _
  rw [h]
  exact if_pos hk
theorem pI_l {e : Int32 × Nat} (h : pI b n σ0 k = .inl e) : pI b n σ0 (k + 1) = .inl e := by
  show (match pI b n σ0 k with | .inl e => _ | .inr (σ, nm, p) => _) = _
  rw [h]
theorem pI_zz (h : pI b n σ0 k = .inr (σ, nm, p)) (hk : tK b n p = 0) : ∀ d, pI b n σ0 (k + d) = .inr (σ, nm, p)
  | 0 => h
  | d + 1 => pI_z (pI_zz h hk d) hk
theorem pI_ll {e : Int32 × Nat} (h : pI b n σ0 k = .inl e) : ∀ d, pI b n σ0 (k + d) = .inl e
  | 0 => h
  | d + 1 => pI_l (pI_ll h d)
theorem pI_f (h0 : ∀ x y, x < 12 → y < 12 → pnt σ0 x y = -1) (h : pI b n σ0 k = .inr (σ, nm, p)) : decide (k = 0) = true → ∀ x y, x < 12 → y < 12 → pnt σ x y = -1 := by
  intro z
  have z := of_decide_eq_true z
  subst z
  injection h with h
  injection h with e1 e2
  subst e1
  exact h0
theorem pI_G (h0 : ∀ x y, x < 12 → y < 12 → pnt σ0 x y = -1) (hi : Inv σ0) (hd : DR σ0) : ∀ k σ nm p, pI b n σ0 k = .inr (σ, nm, p) → p ≤ n ∧ Inv σ ∧ DR σ ∧ (tK b n p ≠ 0 → k ≤ p)
  | 0, σ, nm, p, h => by
    injection h with h
    injection h with e1 e2
    injection e2 with e2 e3
    subst e1 e3
    exact ⟨Nat.zero_le _, hi, hd, fun _ => Nat.le_refl _⟩
  | k + 1, σ, nm, p, h => by
    cases e : pI b n σ0 k with
    | inl z => rw [pI_l e] at h; cases h
    | inr z =>
      obtain ⟨π2, nm2, q2⟩ := z
      obtain ⟨a1, a2, a3, a4⟩ := pI_G h0 hi hd k _ _ _ e
      by_cases hk : tK b n q2 = 0
      · rw [pI_z e hk] at h
        injection h with h
        injection h with e1 e2
        injection e2 with e2 e3
        subst e1 e3
        exact ⟨a1, a2, a3, fun z => absurd hk z⟩
      · rw [pI_s e hk] at h
        obtain ⟨c1, c2, c3, c4⟩ := Gd_st a1 a2 a3 (pI_f h0 e) _ _ _ h
        have := a4 hk
        exact ⟨c2, c3, c4, fun _ => by omega⟩
end PJ
/-- what the first n bytes of b say; ρ gives the places that no row has -/
def prs (b : Nat → Int32) (n : Nat) (ρ : Nat → Int32) : PRes := pI b n (iniR ρ) (n + 1)
theorem prs_l {b : Nat → Int32} {n k : Nat} {ρ : Nat → Int32} (hk : k ≤ n + 1) (h : okP (pI b n (iniR ρ) k) = false) : pI b n (iniR ρ) k = prs b n ρ := by
  obtain ⟨e, he⟩ := okP_no h
  have := pI_ll he (n + 1 - k)
  rw [show k + (n + 1 - k) = n + 1 by omega] at this
  rw [he]; exact this.symm
theorem prs_z {b : Nat → Int32} {n k : Nat} {ρ : Nat → Int32} {σ : Row} {nm : Nm} {p : Nat} (hk : k ≤ n + 1) (h : pI b n (iniR ρ) k = .inr (σ, nm, p)) (hz : tK b n p = 0) : pI b n (iniR ρ) k = prs b n ρ := by
  have := pI_zz h hz (n + 1 - k)
  rw [show k + (n + 1 - k) = n + 1 by omega] at this
  rw [h]; exact this.symm
def eKd (r : PRes) : Int32 := match r with
  | .inl e => e.1
  | .inr _ => nI 0
def ePo (r : PRes) : Int32 := match r with
  | .inl e => nI e.2
  | .inr _ => -1000004
def rOf (r : PRes) : Row := match r with
  | .inl _ => fun _ => nI 0
  | .inr e => e.1
theorem PostM.kp {b : Nat → Int32} {n : Nat} {r : PRes} {I : CI} {L : CL} (h : PostM b n r I L) : I 67 17 = eKd r ∧ I 67 18 = ePo r := by
  cases r with
  | inl e => exact h
  | inr e => exact h.2.2.2
theorem PostM.row {b : Nat → Int32} {n : Nat} {r : PRes} {I : CI} {L : CL} (h : PostM b n r I L) (ho : okP r = true) : I 69 = rOf r := by
  obtain ⟨π, nm, q, rfl⟩ := okP_ex ho
  exact h.1
theorem bt0 {n m : Nat} (h : n ≤ m) (hm : m < 2 ^ 31) : decide ((0 : Int64) ≤ (nI n).toInt64 ∧ (nI n).toInt64 ≤ (nI m).toInt64) = true := by
  have e : (0 : Int64) = (nI 0).toInt64 := by decide
  rw [e, btN (by omega) (by omega) hm]
  exact decide_eq_true ⟨Nat.zero_le _, h⟩
def SLd (a j : Nat) : Bool := (a == 67 && (j == 5 || j == 6 || decide (8 ≤ j ∧ j ≤ 18) || j == 21 || j == 22)) || a == 68 || a == 69
/-- the row that a text gives, over the row that was there -/
def ovl (π σ : Row) : Row := cpR π σ 0 0 248
theorem prs_ok {b : Nat → Int32} {n : Nat} {ρ : Nat → Int32} (h : okP (prs b n ρ) = true) : Inv (rOf (prs b n ρ)) ∧ DR (rOf (prs b n ρ)) := by
  obtain ⟨π, nm, q, e⟩ := okP_ex h
  obtain ⟨_, a, c, _⟩ := pI_G (fun x y hx hy => ini_pnt hx hy) ini_Inv ini_DR (n + 1) _ _ _ e
  rw [e]
  exact ⟨a, c⟩
theorem ovl_lt {π σ : Row} {j : Nat} (h : j < 248) : ovl π σ j = π j := by
  unfold ovl cpR
  rw [if_pos (by omega), show 0 + (j - 0) = j by omega]
theorem ovl_ge {π σ : Row} {j : Nat} (h : 248 ≤ j) : ovl π σ j = σ j := if_neg (by omega)
theorem cN_ini (ρ : Nat → Int32) (t : Nat) (ht : t < 3) : cN (iniR ρ) t = 0 := by
  rcases (show t = 0 ∨ t = 1 ∨ t = 2 by omega) with rfl | rfl | rfl
  · exact ini_n.1
  · exact ini_n.2.1
  · exact ini_n.2.2.1
