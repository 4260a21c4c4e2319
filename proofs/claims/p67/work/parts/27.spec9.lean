/-! the automatic plan -/
def cand (σ : Row) (y x : Nat) : Bool := decide (fp σ x ≠ NOTF ∧ nI y ≤ fp σ x ∧ fp σ x ≤ nI (y + 2))
def fyY (σ : Row) (y x : Nat) : Int32 := if cand σ y x = true then fp σ x else nI 100
def lrY (σ : Row) (y x : Nat) : Int32 := (rgS σ x y).1
def ltY (σ : Row) (y : Nat) : Nat → Nat → Bool := ahd (fyY σ y) (lrY σ y)
def ordN (σ : Row) (y : Nat) : Nat := cntB (cand σ y) (nS σ)
def ordE (σ : Row) (y k : Nat) : Nat := elK (cand σ y) (ltY σ y) (nS σ) k
theorem ltY_St (σ : Row) (y : Nat) : StO (ltY σ y) := ahd_StO _ _
theorem fp_cases (σ : Row) (x : Nat) : fp σ x = NOTF ∨ ∃ q, q < Yn σ ∧ fp σ x = nI q := by
  rcases fstI_cases (fun z => decide (σ (10 + 5 * x + 4) < (rgS σ x (z + 1)).1)) (Yn σ) with ⟨h, _⟩ | ⟨q, h1, h2, _⟩
  · exact Or.inl h
  · exact Or.inr ⟨q, h1, h2⟩
theorem cand_fy {σ : Row} {y x : Nat} (hY : Yn σ ≤ 12) (h : cand σ y x = true) : ∃ q, q < 12 ∧ fyY σ y x = nI q := by
  have h1 := of_decide_eq_true h
  rcases fp_cases σ x with h2 | ⟨q, h2, h3⟩
  · exact absurd h2 h1.1
  · exact ⟨q, by omega, by unfold fyY; rw [if_pos h, h3]⟩
theorem cand_not {σ : Row} {y x : Nat} (h : cand σ y x = false) : fyY σ y x = nI 100 := if_neg (by rw [h]; decide)
theorem rk_cand {σ : Row} {y x : Nat} (hY : Yn σ ≤ 12) (h : cand σ y x = true) : rkC (fun _ => true) (ltY σ y) (nS σ) x = rkC (cand σ y) (ltY σ y) (nS σ) x := by
  refine cntB_congr (fun j _ => ?_)
  rw [Bool.true_and]
  cases hc : cand σ y j with
  | true => rw [Bool.true_and]
  | false =>
    rw [Bool.false_and]
    obtain ⟨q, hq, e⟩ := cand_fy hY h
    unfold ltY ahd
    have hne : fyY σ y j ≠ fyY σ y x := by
      rw [cand_not hc, e]
      exact fun z => absurd (nI_inj (by omega) (by omega) z) (by omega)
    rw [if_pos hne, cand_not hc, e]
    exact decide_eq_false (nI_nlt (by omega) (by omega))
theorem ord_hit {σ : Row} {y k : Nat} (hY : Yn σ ≤ 12) (h : k < ordN σ y) : elK (fun _ => true) (ltY σ y) (nS σ) k = ordE σ y k ∧ ordE σ y k < nS σ ∧ cand σ y (ordE σ y k) = true := by
  have h1 := elK_is (ltY_St σ y) h
  exact ⟨elK_eq (ltY_St σ y) h1.1 rfl ((rk_cand hY h1.2.1).trans h1.2.2), h1.1, h1.2.1⟩
theorem cnt_true : ∀ m, cntB (fun _ => true) m = m
  | 0 => rfl
  | m + 1 => by show cntB _ m + 1 = _; rw [cnt_true m]
theorem ord_no {σ : Row} {y k : Nat} (hY : Yn σ ≤ 12) (h : ordN σ y ≤ k) (hk : k < nS σ) : cand σ y (elK (fun _ => true) (ltY σ y) (nS σ) k) = false := by
  have h1 := elK_is (C := fun _ => true) (s := nS σ) (k := k) (ltY_St σ y) (by rw [cnt_true]; exact hk)
  cases hc : cand σ y (elK (fun _ => true) (ltY σ y) (nS σ) k) with
  | false => rfl
  | true =>
    have h2 := rk_top (C := cand σ y) (s := nS σ) (ltY_St σ y) h1.1 hc
    rw [← rk_cand hY hc, h1.2.2] at h2
    exact absurd h2 (Nat.not_lt.mpr h)
theorem ordN_le (σ : Row) (y : Nat) : ordN σ y ≤ nS σ := cntB_le _ _
theorem ordE_lt {σ : Row} {y k : Nat} (h : k < ordN σ y) : ordE σ y k < nS σ := (elK_is (ltY_St σ y) h).1
theorem ordE_inj {σ : Row} {y j k : Nat} (hj : j < ordN σ y) (hk : k < ordN σ y) (e : ordE σ y j = ordE σ y k) : j = k := elK_inj (ltY_St σ y) hj hk e
def lefT (σ : Row) (y x g : Nat) : Int32 := cap σ g y - lod σ (nI g) y - eff σ x y
def bgS (σ : Row) (gs : Int32) (y x g : Nat) (q : Int32 × Int32) : Int32 × Int32 := if bitB gs g = true ∧ rfs σ y x g = 0 ∧ (q.1 = -1 ∨ lefT σ y x g < q.2) then (nI g, lefT σ y x g) else q
def bgL (σ : Row) (gs : Int32) (y x : Nat) : Nat → Int32 × Int32
  | 0 => (-1, nI 0)
  | g + 1 => bgS σ gs y x g (bgL σ gs y x g)
/-- the gang that paints a span in a year; -1 without -/
def bgG (σ : Row) (gs : Int32) (y x : Nat) : Int32 := (bgL σ gs y x (nG σ)).1
def plS (σ : Row) (gs : Int32) (y x : Nat) : Row := if bgG σ gs y x = -1 then σ else setP σ x y (bgG σ gs y x)
def plK (σ : Row) (gs : Int32) (y : Nat) : Nat → Row
  | 0 => σ
  | k + 1 => plS (plK σ gs y k) gs y (ordE σ y k)
def plY (σ : Row) (gs : Int32) : Nat → Row
  | 0 => clP σ
  | y + 1 => plK (plY σ gs y) gs y (ordN (plY σ gs y) y)
def auto (σ : Row) (gs : Int32) : Row := plY σ gs (Yn σ)
theorem bgL_ok (σ : Row) (gs : Int32) (y x : Nat) : ∀ n, (bgL σ gs y x n).1 = -1 ∨ ∃ g, g < n ∧ (bgL σ gs y x n).1 = nI g ∧ rfs σ y x g = 0
  | 0 => Or.inl rfl
  | n + 1 => by
    show (bgS σ gs y x n (bgL σ gs y x n)).1 = -1 ∨ ∃ g, g < n + 1 ∧ (bgS σ gs y x n (bgL σ gs y x n)).1 = nI g ∧ _
    unfold bgS
    by_cases h : bitB gs n = true ∧ rfs σ y x n = 0 ∧ ((bgL σ gs y x n).1 = -1 ∨ lefT σ y x n < (bgL σ gs y x n).2)
    · rw [if_pos h]
      exact Or.inr ⟨n, by omega, rfl, h.2.1⟩
    · rw [if_neg h]
      rcases bgL_ok σ gs y x n with h1 | ⟨g, h1, h2⟩
      · exact Or.inl h1
      · exact Or.inr ⟨g, by omega, h2⟩
theorem bgG_ok (σ : Row) (gs : Int32) (y x : Nat) : bgG σ gs y x = -1 ∨ ∃ g, g < nG σ ∧ bgG σ gs y x = nI g ∧ rfs σ y x g = 0 := bgL_ok σ gs y x (nG σ)
/-- two rows that differ in the plan alone -/
def Sm (σ τ : Row) : Prop := ∀ j, j < 104 → τ j = σ j
theorem Sm.rf {σ : Row} : Sm σ σ := fun _ _ => rfl
theorem Sm.tr {σ τ υ : Row} (h : Sm σ τ) (g : Sm τ υ) : Sm σ υ := fun j hj => (g j hj).trans (h j hj)
theorem Sm_setP {σ : Row} {x y : Nat} {g : Int32} : Sm σ (setP σ x y g) := fun j hj => upd_ne (by omega)
theorem Sm_cl {σ : Row} : Sm σ (clP σ) := fun j hj => by unfold clP clR; rw [if_neg (by omega)]
theorem Sm_plS {σ : Row} {gs : Int32} {y x : Nat} : Sm σ (plS σ gs y x) := by
  unfold plS
  split
  · exact Sm.rf
  · exact Sm_setP
theorem Sm_plK {σ : Row} {gs : Int32} {y : Nat} : ∀ k, Sm σ (plK σ gs y k)
  | 0 => Sm.rf
  | k + 1 => (Sm_plK k).tr Sm_plS
theorem Sm_plY {σ : Row} {gs : Int32} : ∀ y, Sm σ (plY σ gs y)
  | 0 => Sm_cl
  | y + 1 => (Sm_plY y).tr (Sm_plK _)
theorem Sm.Y {σ τ : Row} (h : Sm σ τ) : Yn τ = Yn σ := by unfold Yn; rw [h 0 (by decide)]
theorem Sm.S {σ τ : Row} (h : Sm σ τ) : nS τ = nS σ := by unfold nS; rw [h 4 (by decide)]
theorem Sm.G {σ τ : Row} (h : Sm σ τ) : nG τ = nG σ := by unfold nG; rw [h 5 (by decide)]
theorem Sm.L {σ τ : Row} (h : Sm σ τ) : nLn τ = nLn σ := by unfold nLn; rw [h 3 (by decide)]
theorem Sm_Inv {σ τ : Row} (h : Sm σ τ) (hi : Inv σ) : Inv τ := by
  unfold Inv
  rw [h.Y, h.S, h.G, h.L, h 0 (by decide), h 3 (by decide), h 4 (by decide), h 5 (by decide)]
  exact hi
/-- what the plan's numbers may be -/
def PD (σ : Row) : Prop := ∀ x y, x < 12 → y < 12 → pnt σ x y = -1 ∨ ∃ g : Nat, g < nG σ ∧ x < nS σ ∧ y < Yn σ ∧ pnt σ x y = nI g
theorem Sm_DR {σ τ : Row} (h : Sm σ τ) (hi : Inv σ) (hd : DR σ) (hp : PD τ) : DR τ := by
  obtain ⟨hY, hY1, hY12, hLn, hL4, hSn, hS12, hGn, hG5⟩ := id hi
  obtain ⟨d1, d2, d3, d4, d5, d6, d7, d8⟩ := hd
  refine ⟨fun g hg => ?_, hp, fun x hx => ?_, fun x hx => ?_, ?_, ?_, fun y hy => ?_, fun y hy => ?_⟩
  · rw [h.G] at hg; rw [h _ (by omega)]; exact d1 g hg
  · rw [h.S] at hx; rw [h _ (by omega), h.L]; exact d3 x hx
  · rw [h.S] at hx
    obtain ⟨a, r, t, m, q⟩ := d4 x hx
    refine ⟨a, r, t, m, ?_⟩
    rw [h _ (by omega), h _ (by omega), h _ (by omega), h _ (by omega)]
    exact q
  · rw [h 1 (by decide)]; exact d5
  · rw [h 2 (by decide)]; exact d6
  · rw [h _ (by omega)]; exact d7 y hy
  · rw [h _ (by omega)]; exact d8 y hy
theorem pnt_setP {σ : Row} {x y a b : Nat} {g : Int32} (hx : x < 12) (ha : a < 12) : pnt (setP σ x y g) a b = if a = x ∧ b = y then g else pnt σ a b := by
  unfold pnt setP
  by_cases h : a = x ∧ b = y
  · rw [if_pos h, h.1, h.2, upd_eq, Int32.add_sub_cancel]
  · rw [if_neg h, upd_ne (by omega)]
theorem pnt_hit {σ : Row} {x y : Nat} {g : Int32} : pnt (setP σ x y g) x y = g := by
  unfold pnt setP
  rw [upd_eq, Int32.add_sub_cancel]
theorem pnt_off {σ : Row} {x y a b : Nat} {g : Int32} (hx : x < 12) (ha : a < 12) (h : ¬ (a = x ∧ b = y)) : pnt (setP σ x y g) a b = pnt σ a b := by rw [pnt_setP hx ha, if_neg h]
theorem pnt_cl {σ : Row} {x y : Nat} (hx : x < 12) (hy : y < 12) : pnt (clP σ) x y = -1 := by
  unfold pnt clP clR
  rw [if_pos (by omega)]
  decide
theorem PD_cl {σ : Row} : PD (clP σ) := fun _ _ hx hy => Or.inl (pnt_cl hx hy)
theorem PD_setP {σ : Row} {x y g : Nat} (hp : PD σ) (hx : x < nS σ) (hx2 : nS σ ≤ 12) (hy : y < Yn σ) (hg : g < nG σ) : PD (setP σ x y (nI g)) := by
  intro a b ha hb
  rw [pnt_setP (by omega) ha, nG_setP, nS_setP, Yn_setP]
  by_cases h : a = x ∧ b = y
  · rw [if_pos h]
    exact Or.inr ⟨g, hg, by omega, by omega, rfl⟩
  · rw [if_neg h]
    exact hp a b ha hb
theorem PD_plS {σ : Row} {gs : Int32} {x y : Nat} (hp : PD σ) (hx : x < nS σ) (hx2 : nS σ ≤ 12) (hy : y < Yn σ) : PD (plS σ gs y x) := by
  unfold plS
  rcases bgG_ok σ gs y x with h | ⟨g, h1, h2, _⟩
  · rw [if_pos h]; exact hp
  · by_cases e : bgG σ gs y x = -1
    · rw [if_pos e]; exact hp
    · rw [if_neg e, h2]; exact PD_setP hp hx hx2 hy h1
theorem PD_plK {σ : Row} {gs : Int32} {y : Nat} (hp : PD σ) (hx2 : nS σ ≤ 12) (hy : y < Yn σ) : ∀ k, k ≤ ordN σ y → PD (plK σ gs y k)
  | 0, _ => hp
  | k + 1, hk => PD_plS (PD_plK hp hx2 hy k (by omega)) (by rw [(Sm_plK k).S]; exact ordE_lt (by omega)) (by rw [(Sm_plK k).S]; exact hx2) (by rw [(Sm_plK k).Y]; exact hy)
theorem PD_plY {σ : Row} {gs : Int32} (hx2 : nS σ ≤ 12) : ∀ y, y ≤ Yn σ → PD (plY σ gs y)
  | 0, _ => PD_cl
  | y + 1, hy => PD_plK (PD_plY hx2 y (by omega)) (by rw [(Sm_plY y).S]; exact hx2) (by rw [(Sm_plY y).Y]; omega) _ (Nat.le_refl _)
/-- nothing is painted from a year on -/
def UnP (σ : Row) (y : Nat) : Prop := ∀ a b, a < 12 → y ≤ b → b < 12 → pnt σ a b = -1
theorem pnt_plS {σ : Row} {gs : Int32} {x y a b : Nat} (hx : x < 12) (ha : a < 12) (h : ¬ (a = x ∧ b = y)) : pnt (plS σ gs y x) a b = pnt σ a b := by
  unfold plS
  split
  · rfl
  · rw [pnt_setP hx ha, if_neg h]
theorem UnP_plK {σ : Row} {gs : Int32} {y : Nat} (hx2 : nS σ ≤ 12) (hu : UnP σ y) : ∀ k, k ≤ ordN σ y → UnP (plK σ gs y k) (y + 1) ∧ ∀ j, k ≤ j → j < ordN σ y → y < 12 → pnt (plK σ gs y k) (ordE σ y j) y = -1
  | 0, _ => ⟨fun a b ha hb hb2 => hu a b ha (by omega) hb2, fun j _ hj hy => hu _ _ (by have := ordE_lt hj; omega) (Nat.le_refl _) hy⟩
  | k + 1, hk => by
    obtain ⟨h1, h2⟩ := UnP_plK (gs := gs) hx2 hu k (by omega)
    have h3 : ordE σ y k < nS σ := ordE_lt (by omega)
    refine ⟨fun a b ha hb hb2 => ?_, fun j h4 h5 hy => ?_⟩
    · show pnt (plS (plK σ gs y k) gs y (ordE σ y k)) a b = _
      rw [pnt_plS (by omega) ha (by omega)]
      exact h1 a b ha hb hb2
    · show pnt (plS (plK σ gs y k) gs y (ordE σ y k)) _ y = _
      have h6 : ordE σ y j < nS σ := ordE_lt h5
      rw [pnt_plS (by omega) (by omega) (fun z => by have := ordE_inj h5 (show k < ordN σ y by omega) z.1; omega)]
      exact h2 j (by omega) h5 hy
theorem UnP_plY {σ : Row} {gs : Int32} (hx2 : nS σ ≤ 12) : ∀ y, UnP (plY σ gs y) y
  | 0 => fun _ _ ha _ hb => pnt_cl ha hb
  | y + 1 => (UnP_plK (by rw [(Sm_plY y).S]; exact hx2) (UnP_plY hx2 y) _ (Nat.le_refl _)).1
/-! what a painting changes in its year -/
theorem sumT_congr {f g : Nat → Int32} : ∀ {n : Nat}, (∀ z, z < n → f z = g z) → sumT f n = sumT g n
  | 0, _ => rfl
  | n + 1, h => by show sumT f n + f n = sumT g n + g n; rw [sumT_congr (n := n) (fun z hz => h z (by omega)), h n (by omega)]
theorem sumT_one {f g : Nat → Int32} {d : Int32} {x n : Nat} (hx : x < n) (h1 : ∀ z, z < n → z ≠ x → g z = f z) (h2 : g x = f x + d) : sumT g n = sumT f n + d := by
  induction n with
  | zero => exact absurd hx (Nat.not_lt_zero _)
  | succ n ih =>
    show sumT g n + g n = sumT f n + f n + d
    by_cases e : x = n
    · subst e
      rw [sumT_congr (fun z hz => h1 z (by omega) (by omega)), h2, Int32.add_assoc]
    · rw [ih (by omega) (fun z hz => h1 z (by omega)), h1 n (by omega) (fun z => e z.symm), Int32.add_assoc, Int32.add_comm d, ← Int32.add_assoc]
theorem orT_congr {f g : Nat → Int32} : ∀ {n : Nat}, (∀ z, z < n → f z = g z) → orT f n = orT g n
  | 0, _ => rfl
  | n + 1, h => by show orT f n ||| f n = orT g n ||| g n; rw [orT_congr (n := n) (fun z hz => h z (by omega)), h n (by omega)]
theorem orT_one {f g : Nat → Int32} {d : Int32} {x n : Nat} (hx : x < n) (h1 : ∀ z, z < n → z ≠ x → g z = f z) (h2 : g x = f x ||| d) : orT g n = orT f n ||| d := by
  induction n with
  | zero => exact absurd hx (Nat.not_lt_zero _)
  | succ n ih =>
    show orT g n ||| g n = (orT f n ||| f n) ||| d
    by_cases e : x = n
    · subst e
      rw [orT_congr (fun z hz => h1 z (by omega) (by omega)), h2, Int32.or_assoc]
    · rw [ih (by omega) (fun z hz => h1 z (by omega)), h1 n (by omega) (fun z => e z.symm), Int32.or_assoc, Int32.or_comm d, ← Int32.or_assoc]
theorem ptd_eq {σ τ : Row} {x z : Nat} (h : pnt τ x z = pnt σ x z) : ptd τ x z = ptd σ x z := by unfold ptd; rw [h]
theorem rgS_Sm {σ τ : Row} {x y : Nat} (h : Sm σ τ) (hx : x < 12) (hp : ∀ z, z < y → pnt τ x z = pnt σ x z) : rgS τ x y = rgS σ x y := by
  unfold rgS rgB
  rw [h _ (by omega), h _ (by omega), h 2 (by decide)]
  exact rg_congr (fun z hz => ptd_eq (hp z hz)) y (Nat.le_refl _)
theorem eff_Sm {σ τ : Row} {x y : Nat} (h : Sm σ τ) (hx : x < 12) (hp : ∀ z, z < y → pnt τ x z = pnt σ x z) : eff τ x y = eff σ x y := by
  unfold eff
  rw [rgS_Sm h hx hp, h _ (by omega)]
theorem eff_setP {σ : Row} {x y a : Nat} {g : Int32} (hx : x < 12) (ha : a < 12) : eff (setP σ x y g) a y = eff σ a y := eff_Sm Sm_setP ha (fun z hz => by rw [pnt_setP hx ha, if_neg (by omega)])
theorem cap_Sm {σ τ : Row} {g y : Nat} (h : Sm σ τ) (hg : g < 5) (hy : y < 12) : cap τ g y = cap σ g y := by
  unfold cap
  rw [h _ (by omega), h _ (by omega)]
theorem lod_setP {σ : Row} {x y g h : Nat} (hx : x < nS σ) (hx2 : nS σ ≤ 12) (hg : g < 5) (hh : h < 5) (hu : pnt σ x y = -1) : lod (setP σ x y (nI g)) (nI h) y = if h = g then lod σ (nI h) y + eff σ x y else lod σ (nI h) y := by
  unfold lod
  rw [nS_setP]
  by_cases e : h = g
  · subst e
    rw [if_pos rfl]
    refine sumT_one hx (fun z hz hzx => ?_) ?_
    · rw [pnt_off (by omega) (by omega) (fun q => hzx q.1), eff_setP (by omega) (by omega)]
    · rw [pnt_hit, if_pos rfl, hu, if_neg (fun q => nI_m1 (by omega) q.symm), eff_setP (by omega) (by omega)]
      exact (Int32.zero_add _).symm
  · rw [if_neg e]
    refine sumT_congr (fun z hz => ?_)
    by_cases q : z = x
    · subst q
      rw [pnt_hit, if_neg (fun q => e (nI_inj (by omega) (by omega) q).symm), hu, if_neg (fun q => nI_m1 (by omega) q.symm)]
    · rw [pnt_off (by omega) (by omega) (fun w => q w.1), eff_setP (by omega) (by omega)]
def lnB (σ : Row) (x : Nat) : Int32 := if σ (10 + 5 * x + 0) = -1 then nI 0 else nI 1 <<< (σ (10 + 5 * x + 0) &&& 31)
theorem shu_setP {σ : Row} {x y g : Nat} (hx : x < nS σ) (hx2 : nS σ ≤ 12) (hg : g < 5) (hu : pnt σ x y = -1) : shu (setP σ x y (nI g)) y = shu σ y ||| lnB σ x := by
  unfold shu
  rw [nS_setP]
  refine orT_one hx (fun z hz hzx => ?_) ?_
  · unfold shF
    rw [pnt_off (by omega) (by omega) (fun q => hzx q.1), Sm_setP _ (by omega)]
  · unfold shF lnB
    rw [pnt_hit, Sm_setP _ (by omega), hu]
    by_cases e : σ (10 + 5 * x + 0) = -1
    · rw [if_neg (nArr e), if_neg (nAl rfl), if_pos e]; rfl
    · rw [if_pos ⟨nI_m1 (by omega), e⟩, if_neg (nAl rfl), if_neg e]
      exact (Int32.zero_or).symm
