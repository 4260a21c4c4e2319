/-! other settings in the class -/
theorem bgL_gs {σ : Row} {gs gt : Int32} {y x : Nat} : ∀ n, (∀ g, g < n → bitB gs g = bitB gt g) → bgL σ gs y x n = bgL σ gt y x n
  | 0, _ => rfl
  | n + 1, h => by
    show bgS σ gs y x n (bgL σ gs y x n) = bgS σ gt y x n (bgL σ gt y x n)
    rw [bgL_gs n (fun g hg => h g (by omega))]
    unfold bgS
    rw [h n (by omega)]
theorem plS_gs {σ : Row} {gs gt : Int32} {y x : Nat} (h : ∀ g, g < nG σ → bitB gs g = bitB gt g) : plS σ gs y x = plS σ gt y x := by
  have e : bgG σ gs y x = bgG σ gt y x := by
    unfold bgG
    rw [bgL_gs (nG σ) h]
  unfold plS
  rw [e]
theorem plK_gs {σ : Row} {gs gt : Int32} {y : Nat} (h : ∀ g, g < nG σ → bitB gs g = bitB gt g) : ∀ k, plK σ gs y k = plK σ gt y k
  | 0 => rfl
  | k + 1 => by
    show plS (plK σ gs y k) gs y (ordE σ y k) = plS (plK σ gt y k) gt y (ordE σ y k)
    rw [plK_gs h k]
    exact plS_gs (by rw [(Sm_plK k).G]; exact h)
theorem plY_gs {σ : Row} {gs gt : Int32} (h : ∀ g, g < nG σ → bitB gs g = bitB gt g) : ∀ y, plY σ gs y = plY σ gt y
  | 0 => rfl
  | y + 1 => by
    show plK (plY σ gs y) gs y (ordN (plY σ gs y) y) = plK (plY σ gt y) gt y (ordN (plY σ gt y) y)
    rw [plY_gs h y]
    exact plK_gs (by rw [(Sm_plY y).G]; exact h) _
theorem auto_gs {σ : Row} {gs gt : Int32} (h : ∀ g, g < nG σ → bitB gs g = bitB gt g) : auto σ gs = auto σ gt := plY_gs h _
theorem all_gs {σ : Row} (hi : Inv σ) : auto σ (nI (2 ^ nG σ - 1)) = auto σ ALLG := by
  obtain ⟨hY, hY1, hY12, hLn, hL4, hSn, hS12, hGn, hG5⟩ := id hi
  have h : ∀ G, G ≤ 5 → ∀ g, g < G → bitB (nI (2 ^ G - 1)) g = bitB (nI 31) g := by decide +kernel
  exact auto_gs (h _ hG5)
/-- how many bits a small number has -/
def pcn (k : Nat) : Nat := cntB (fun i => k.testBit i) 5
theorem pcn_all : ∀ G, G ≤ 5 → ∀ k, k < 2 ^ G → pcn k ≤ G ∧ (pcn k = G → k = 2 ^ G - 1) := by decide +kernel
theorem pcn_16 : ∀ k, k < 32 → cnt16 (nI k) = nI (pcn k) := by decide +kernel
def fgO (σ : Row) (k : Nat) : Bool := decide (cntP (auto σ (nI k)) ≤ cntP (auto σ ALLG))
/-- the best set of gangs among the t + 1 largest -/
def fgB (σ : Row) : Nat → Nat
  | 0 => 2 ^ nG σ - 1
  | t + 1 => if pcn (2 ^ nG σ - 1 - (t + 1)) ≤ pcn (fgB σ t) ∧ fgO σ (2 ^ nG σ - 1 - (t + 1)) = true then 2 ^ nG σ - 1 - (t + 1) else fgB σ t
theorem fgB_ok {σ : Row} (hi : Inv σ) : ∀ t, t ≤ 2 ^ nG σ - 1 → 2 ^ nG σ - 1 - t ≤ fgB σ t ∧ fgB σ t ≤ 2 ^ nG σ - 1 ∧ fgO σ (fgB σ t) = true ∧ ∀ g, 2 ^ nG σ - 1 - t ≤ g → g ≤ 2 ^ nG σ - 1 → fgO σ g = true → pcn (fgB σ t) < pcn g ∨ (pcn (fgB σ t) = pcn g ∧ fgB σ t ≤ g)
  | 0, _ => by
    refine ⟨Nat.le_refl _, Nat.le_refl _, ?_, fun g h1 h2 _ => ?_⟩
    · show fgO σ (2 ^ nG σ - 1) = true
      unfold fgO
      rw [all_gs hi]
      exact decide_eq_true (Int32.le_refl _)
    · have e : g = 2 ^ nG σ - 1 := by omega
      rw [e]
      exact Or.inr ⟨rfl, Nat.le_refl _⟩
  | t + 1, ht => by
    obtain ⟨h1, h2, h3, h4⟩ := fgB_ok hi t (by omega)
    by_cases e : pcn (2 ^ nG σ - 1 - (t + 1)) ≤ pcn (fgB σ t) ∧ fgO σ (2 ^ nG σ - 1 - (t + 1)) = true
    · have hb : fgB σ (t + 1) = 2 ^ nG σ - 1 - (t + 1) := if_pos e
      rw [hb]
      refine ⟨Nat.le_refl _, by omega, e.2, fun g g1 g2 g3 => ?_⟩
      by_cases q : g = 2 ^ nG σ - 1 - (t + 1)
      · rw [q]; exact Or.inr ⟨rfl, Nat.le_refl _⟩
      · rcases h4 g (by omega) g2 g3 with h5 | ⟨h5, h6⟩
        · exact Or.inl (by omega)
        · by_cases q2 : pcn (2 ^ nG σ - 1 - (t + 1)) = pcn g
          · exact Or.inr ⟨q2, g1⟩
          · exact Or.inl (by omega)
    · have hb : fgB σ (t + 1) = fgB σ t := if_neg e
      rw [hb]
      refine ⟨by omega, h2, h3, fun g g1 g2 g3 => ?_⟩
      by_cases q : g = 2 ^ nG σ - 1 - (t + 1)
      · rw [q] at g3 ⊢
        exact Or.inl (Nat.lt_of_not_le (fun z => e ⟨z, g3⟩))
      · exact h4 g (by omega) g2 g3
theorem fgB_fin {σ : Row} (hi : Inv σ) {t : Nat} (ht : t = 2 ^ nG σ - 1) : nI (fgB σ t) = fgR σ := by
  obtain ⟨hY, hY1, hY12, hLn, hL4, hSn, hS12, hGn, hG5⟩ := id hi
  obtain ⟨h1, h2, h3, h4⟩ := fgB_ok hi t (by omega)
  have h32 := (two_Gle hi).2
  have h1p := (two_Gle hi).1
  have hP : ∀ n k, k < 2 ^ nG σ → n ≤ 5 → fgP σ n k = (decide (pcn k = n) && fgO σ k) := by
    intro n k hk hn
    unfold fgP fgO
    rw [pcn_16 k (by omega)]
    have e : (nI (pcn k) = nI n) ↔ pcn k = n := by
      have hb := (pcn_all 5 (by decide) k (by omega)).1
      exact ⟨fun z => nI_inj (by omega) (by omega) z, fun z => by rw [z]⟩
    by_cases q : pcn k = n
    · rw [decide_eq_true q, Bool.true_and]
      exact decide_eq_decide.mpr ⟨fun z => z.2, fun z => ⟨e.mpr q, z⟩⟩
    · rw [decide_eq_false q, Bool.false_and]
      exact decide_eq_false (fun z => q (e.mp z.1))
  have hA := (pcn_all (nG σ) hG5 (fgB σ t) (by omega))
  have hfew : ∀ z k, k < 2 ^ nG σ → z < pcn (fgB σ t) → z ≤ 5 → fgP σ z k = false := by
    intro z k hk hz hz5
    rw [hP z k hk hz5]
    cases hO : fgO σ k with
    | false => rw [Bool.and_false]
    | true =>
      rw [Bool.and_true]
      refine decide_eq_false (fun e => ?_)
      rcases h4 k (by omega) (by omega) hO with h5 | ⟨h5, _⟩ <;> omega
  unfold fgR
  by_cases q : pcn (fgB σ t) < nG σ
  · refine (fst2b_hit q (show fgB σ t < 2 ^ nG σ by omega) ?_ (fun z hz k hk => hfew z k hk hz (by omega)) (fun k hk => ?_)).symm
    · rw [hP _ _ (by omega) (by omega), decide_eq_true rfl, h3]; rfl
    · rw [hP _ _ (by omega) (by omega)]
      cases hO : fgO σ k with
      | false => rw [Bool.and_false]
      | true =>
        rw [Bool.and_true]
        refine decide_eq_false (fun e => ?_)
        rcases h4 k (by omega) (by omega) hO with h5 | ⟨_, h6⟩ <;> omega
  · rw [fst2b_none (fun z hz k hk => hfew z k hk (by omega) (by omega)), hA.2 (by omega)]
theorem fg_1 {g b : Nat} (hg : g < 32) (hb : b < 32) : cnt16 (nI b) < cnt16 (nI g) ↔ ¬ pcn g ≤ pcn b := by
  have h1 := (pcn_all 5 (by decide) g hg).1
  have h2 := (pcn_all 5 (by decide) b hb).1
  rw [pcn_16 g hg, pcn_16 b hb, nI_ltI (by omega) (by omega)]
  omega
def SAs (γ u a j : Nat) : Bool := a == 2 || a == 3 || decide (γ ≤ a ∧ a ≤ γ + 10) || a == u + 1 || a == u + 2 || a == u + 3
theorem SAs_b {γ u k j : Nat} (h : k ≤ 10) : SAs γ u (γ + k) j = true := by
  unfold SAs
  rw [decide_eq_true (show γ ≤ γ + k ∧ γ + k ≤ γ + 10 by omega), Bool.or_true]; rfl
theorem SAs_b0 {γ u j : Nat} : SAs γ u γ j = true := SAs_b (k := 0) (Nat.zero_le _)
/-- a row with other days in the first y years -/
def edX (σ ρ : Row) (n y : Nat) : Row := fun j => if 80 ≤ j ∧ j < 80 + y then mn (nI 200) (σ j + nI n) else ρ j
theorem edX_0 {σ ρ : Row} {n : Nat} : edX σ ρ n 0 = ρ := by
  funext j
  unfold edX
  rw [if_neg (by omega)]
theorem edX_s {σ ρ : Row} {n y : Nat} : upd (edX σ ρ n y) (80 + y) (mn (nI 200) (σ (80 + y) + nI n)) = edX σ ρ n (y + 1) := by
  funext j
  by_cases e : j = 80 + y
  · rw [e, upd_eq]
    unfold edX
    rw [if_pos (by omega)]
  · rw [upd_ne e]
    unfold edX
    by_cases q : 80 ≤ j ∧ j < 80 + y
    · rw [if_pos q, if_pos (by omega)]
    · rw [if_neg q, if_neg (by omega)]
def OtD (σ ρ : Row) : Prop := ∀ j, (j < 80 ∨ 80 + Yn σ ≤ j) → ρ j = σ j
theorem edX_fin {σ ρ : Row} {n : Nat} (h : OtD σ ρ) : edX σ ρ n (Yn σ) = edD σ n (Yn σ) := by
  funext j
  unfold edX edD
  by_cases q : 80 ≤ j ∧ j < 80 + Yn σ
  · rw [if_pos q, if_pos q]
  · rw [if_neg q, if_neg q, h j (by omega)]
theorem edX_Inv {σ ρ : Row} {n y : Nat} (hi : Inv σ) (h : OtD σ ρ) : Inv (edX σ ρ n y) := by
  have e : ∀ j, j < 80 → edX σ ρ n y j = σ j := fun j hj => by
    unfold edX
    rw [if_neg (by omega), h j (by omega)]
  unfold Inv Yn nLn nS nG
  rw [e 0 (by omega), e 3 (by omega), e 4 (by omega), e 5 (by omega)]
  exact hi
theorem edD_Ot {σ : Row} {n : Nat} : OtD σ (edD σ n (Yn σ)) := fun j hj => by
  unfold edD
  rw [if_neg (by omega)]
