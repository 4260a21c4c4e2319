/-! the class's search -/
def cdI (c : Nat) : Int32 := if c = 1 then nI 1 else if c = 2 then GIVU else nI 0
theorem cdI_0 {c : Nat} (h : cdI c = 0) (h2 : c ≤ 2) : c = 0 := by
  rcases (show c = 0 ∨ c = 1 ∨ c = 2 by omega) with rfl | rfl | rfl
  · rfl
  · exact absurd h (by decide)
  · exact absurd h (by decide)
theorem cdI_n {c : Nat} (h : ¬ cdI c = 0) : c ≠ 0 := fun z => h (by rw [z]; rfl)
def UX (σ : Row) (x : Nat) : Prop := ∀ z, z < 12 → pnt σ x z = -1
theorem fp_Sm {σ τ : Row} {x : Nat} (h : Sm σ τ) (hx : x < 12) : fp τ x = fpB σ x (ptd τ x) := by
  unfold fp fpB rgS rgB
  rw [h _ (by omega), h _ (by omega), h _ (by omega), h 2 (by decide), h.Y]
theorem bit_one {y z : Nat} (hy : y < 12) (hz : z < 12) : bitB (nI 1 <<< (nI y &&& 31)) z = decide (z = y) := by
  rw [bitB_bt _ (by omega), b_shl y (by omega) _ (by omega), b_1 (z - y) (by omega)]
  by_cases e : z = y
  · rw [e, decide_eq_true (Nat.le_refl _), decide_eq_true (by omega), decide_eq_true rfl]; rfl
  · by_cases q : y ≤ z
    · rw [decide_eq_false (show ¬ z - y = 0 by omega), Bool.and_false, decide_eq_false e]
    · rw [decide_eq_false q, Bool.false_and, decide_eq_false e]
theorem fp_one {σ : Row} {x y g : Nat} (hY : Yn σ ≤ 12) (hx : x < 12) (hy : y < 12) (hg : g < 5) (hu : UX σ x) : fp (setP σ x y (nI g)) x = fpB σ x (bitB (nI 1 <<< (nI y &&& 31))) := by
  rw [fp_Sm Sm_setP hx]
  refine fpB_congr (fun z hz => ?_)
  rw [bit_one hy (by omega)]
  unfold ptd
  rw [pnt_setP hx hx]
  by_cases e : z = y
  · rw [if_pos ⟨rfl, e⟩, decide_eq_true (nI_m1 (by omega)), decide_eq_true e]
  · rw [if_neg (fun w => e w.2), hu z (by omega), decide_eq_false (fun w => w rfl), decide_eq_false e]
theorem fp_clean {σ : Row} {x : Nat} (hY : Yn σ ≤ 12) (hx : x < 12) (hu : UX σ x) : fp σ x = fp0 σ x := by
  rw [fp_Sm Sm.rf hx]
  refine fpB_congr (fun z hz => ?_)
  unfold ptd
  rw [hu z (by omega)]
  exact decide_eq_false (fun w => w rfl)
theorem UX_cl {σ : Row} {x : Nat} (hx : x < 12) : UX (clP σ) x := fun _ hz => pnt_cl hx hz
theorem UX_setP {σ : Row} {x y z : Nat} {g : Int32} (hx : x < 12) (hz : z < 12) (hne : z ≠ x) (h : UX σ z) : UX (setP σ x y g) z := fun w hw => by
  rw [pnt_setP hx hz, if_neg (fun v => hne v.1)]
  exact h w hw
theorem DR_setP {σ : Row} {x y g : Nat} (hi : Inv σ) (hd : DR σ) (hx : x < nS σ) (hy : y < Yn σ) (hg : g < nG σ) : DR (setP σ x y (nI g)) := Sm_DR Sm_setP hi hd (PD_setP hd.2.1 hx hi.2.2.2.2.2.2.1 hy hg)
def kE (σ : Row) (x : Nat) : Nat := kN (tN (fp0 σ x)) 0 x
theorem fp0_N {σ : Row} {x : Nat} (hY : Yn σ ≤ 12) (h : ¬ fp0 σ x = NOTF) : fp0 σ x = nI (tN (fp0 σ x)) ∧ tN (fp0 σ x) < 12 := by
  rcases fp0_cases σ x with h1 | ⟨q, hq, e⟩
  · exact absurd h1 h
  · rw [e, tN_nI (by omega)]
    exact ⟨rfl, by omega⟩
theorem kE_ahd {σ : Row} (hi : Inv σ) : ∀ a b, a < nS σ → b < nS σ → enC σ a = true → enC σ b = true → (kE σ a < kE σ b ↔ enL σ a b = true) := by
  obtain ⟨hY, hY1, hY12, hLn, hL4, hSn, hS12, hGn, hG5⟩ := id hi
  refine key_ahd (fy := fp0 σ) (lr := fun _ => nI 0) (lN := fun _ => 0) hS12 (fun a ha ca => ?_)
  have h1 := fp0_N hY12 (of_decide_eq_true ca)
  exact ⟨h1.1, rfl, by omega, Nat.zero_le _⟩
theorem kE_b {σ : Row} (hi : Inv σ) {x : Nat} (hx : x < nS σ) (hc : enC σ x = true) : kE σ x < 2 ^ 31 := by
  obtain ⟨hY, hY1, hY12, hLn, hL4, hSn, hS12, hGn, hG5⟩ := id hi
  have h1 := fp0_N hY12 (of_decide_eq_true hc)
  exact kN_b (by omega) (by omega)
def SPf (q a j : Nat) : Bool := (a == 4 && j == 1) || a == q + 1 || a == q + 2 || a == q + 3
theorem SPf_4 {q : Nat} : SPf q 4 1 = true := by simp [SPf]
def SSp (q a j : Nat) : Bool := (a == 4 && j == 1) || a == 5 || a == 6 || a == q + 1 || a == q + 2 || a == q + 3
theorem SSp_4 {q : Nat} : SSp q 4 1 = true := by simp [SSp]
