theorem eff_N {σ : Row} (hd : DR σ) {x y : Nat} (hx : x < nS σ) : ∃ e, e ≤ 198 ∧ eff σ x y = nI e := by
  obtain ⟨_, h2, _, _, _, _, _, e1, _⟩ := z_all hd hx
  have h3 := rgZ_le hd hx (ptd σ x) y
  have h4 := rgB_Z hd hx (ptd σ x) y
  have h5 : zA σ x * (100 + (rgZ σ x (ptd σ x) y).1) ≤ 99 * 200 := Nat.mul_le_mul h2 (by omega)
  refine ⟨zA σ x * (100 + (rgZ σ x (ptd σ x) y).1) / 100, by omega, ?_⟩
  unfold eff rgS
  rw [h4, e1]
  show nI (zA σ x) * (nI 100 + nI (rgZ σ x (ptd σ x) y).1) / nI 100 = _
  rw [nI_add, nI_mul, pk_div (by omega) (by decide) (by decide)]
theorem lodT_N {σ : Row} (hd : DR σ) {h : Int32} {y : Nat} : ∀ n, n ≤ nS σ → ∃ b, b ≤ 198 * n ∧ sumT (fun x => if pnt σ x y = h then eff σ x y else nI 0) n = nI b
  | 0, _ => ⟨0, Nat.le_refl _, rfl⟩
  | n + 1, hn => by
    obtain ⟨b, hb, e⟩ := lodT_N hd (h := h) (y := y) n (by omega)
    obtain ⟨e1, he, e2⟩ := eff_N hd (x := n) (y := y) (by omega)
    by_cases q : pnt σ n y = h
    · refine ⟨b + e1, by omega, ?_⟩
      show sumT _ n + (if pnt σ n y = h then eff σ n y else nI 0) = _
      rw [e, if_pos q, e2, nI_add]
    · refine ⟨b, by omega, ?_⟩
      show sumT _ n + (if pnt σ n y = h then eff σ n y else nI 0) = _
      rw [e, if_neg q, nI_add]; rfl
theorem lod_N {σ : Row} (hd : DR σ) (hi : Inv σ) (h : Int32) (y : Nat) : ∃ b, b ≤ 2376 ∧ lod σ h y = nI b := by
  obtain ⟨hY, hY1, hY12, hLn, hL4, hSn, hS12, hGn, hG5⟩ := id hi
  obtain ⟨b, hb, e⟩ := lodT_N hd (h := h) (y := y) (nS σ) (Nat.le_refl _)
  exact ⟨b, by omega, e⟩
theorem cap_N {σ : Row} (hd : DR σ) {g y : Nat} (hg : g < nG σ) (hy : y < 12) : ∃ c, c ≤ 10000 ∧ cap σ g y = nI c := by
  obtain ⟨k, hk1, hk, e1⟩ := hd.1 g hg
  obtain ⟨d, hd2, e2⟩ := hd.2.2.2.2.2.2.1 y hy
  refine ⟨k * d, Nat.mul_le_mul hk hd2, ?_⟩
  unfold cap
  rw [e1, e2, nI_mul]
theorem bmod_sm {a : Int} (h1 : -100000 ≤ a) (h2 : a ≤ 100000) : a.bmod (2 ^ 32) = a := by
  rw [Int.bmod_def]
  split <;> omega
theorem left_iff {c l e : Nat} (hc : c ≤ 20000) (hl : l ≤ 20000) (he : e ≤ 20000) : nI c - nI l - nI e < 0 ↔ nI c < nI l + nI e := by
  rw [nI_add, nI_ltI (by omega) (by omega), Int32.lt_iff_toInt_lt, Int32.toInt_sub, Int32.toInt_sub, nI_toInt (by omega), nI_toInt (by omega), nI_toInt (by omega)]
  show _ < (0 : Int32).toInt ↔ _
  rw [show (0 : Int32).toInt = 0 by decide]
  rw [bmod_sm (a := (c : Int) - l) (by omega) (by omega), bmod_sm (by omega) (by omega)]
  omega
theorem lefT_iff {σ : Row} (hd : DR σ) (hi : Inv σ) {x y g : Nat} (hx : x < nS σ) (hy : y < 12) (hg : g < nG σ) : lefT σ y x g < 0 ↔ cap σ g y < lod σ (nI g) y + eff σ x y := by
  obtain ⟨c, hc, e1⟩ := cap_N hd hg hy
  obtain ⟨b, hb, e2⟩ := lod_N hd hi (nI g) y
  obtain ⟨e, he, e3⟩ := eff_N hd hx (y := y)
  unfold lefT
  rw [e1, e2, e3]
  exact left_iff (by omega) (by omega) (by omega)
def lfB (σ : Row) (y : Nat) (ln w : Int32) : Bool := decide (ln = -1) || (!(decide (((σ (92 + y) >>> (ln &&& 31)) &&& nI 1) = nI 1)) && decide (cnt16 (w ||| nI 1 <<< (ln &&& 31)) ≤ σ 1))
theorem rfs_free {σ : Row} {y x g : Nat} (h : lfB σ y (σ (10 + 5 * x + 0)) (shu σ y) = true) (hp : pnt σ x y = -1) : rfs σ y x g = if cap σ g y < lod σ (nI g) y + eff σ x y then nI 4 else nI 0 := by
  unfold rfs
  rw [if_neg (fun z => z hp)]
  unfold lfB at h
  by_cases e : σ (10 + 5 * x + 0) = -1
  · rw [if_neg (nAl e), if_neg (nAl e)]
  · rw [decide_eq_false e, Bool.false_or] at h
    obtain ⟨h1, h2⟩ := Bool.and_eq_true_iff.mp h
    have h3 := of_decide_eq_true h2
    have h4 : ¬ ((σ (92 + y) >>> (σ (10 + 5 * x + 0) &&& 31)) &&& nI 1 = nI 1) := fun z => by rw [decide_eq_true z] at h1; cases h1
    rw [if_neg (nAr h4), if_neg (nAr (Int32.not_lt.mpr h3))]
theorem rfs_shut {σ : Row} {y x g : Nat} (h : lfB σ y (σ (10 + 5 * x + 0)) (shu σ y) = false) : rfs σ y x g ≠ 0 := by
  unfold rfs
  by_cases hp : pnt σ x y = -1
  · rw [if_neg (fun z => z hp)]
    unfold lfB at h
    by_cases e : σ (10 + 5 * x + 0) = -1
    · rw [decide_eq_true e] at h; cases h
    · rw [decide_eq_false e, Bool.false_or] at h
      by_cases h4 : (σ (92 + y) >>> (σ (10 + 5 * x + 0) &&& 31)) &&& nI 1 = nI 1
      · rw [if_pos ⟨e, h4⟩]; decide
      · rw [decide_eq_false h4] at h
        rw [if_neg (nAr h4)]
        by_cases h5 : cnt16 (shu σ y ||| nI 1 <<< (σ (10 + 5 * x + 0) &&& 31)) ≤ σ 1
        · rw [decide_eq_true h5] at h; cases h
        · rw [if_pos ⟨e, Int32.not_le.mp h5⟩]; decide
  · rw [if_pos hp]; decide
def chS (σ : Row) (gs : Int32) (y x g : Nat) (q : Int32 × Int32) : Int32 × Int32 := if bitB gs g = true ∧ ¬ lefT σ y x g < 0 ∧ (q.1 = -1 ∨ lefT σ y x g < q.2) then (nI g, lefT σ y x g) else q
def chL (σ : Row) (gs : Int32) (y x : Nat) : Nat → Int32 × Int32
  | 0 => (-1, nI 0)
  | g + 1 => chS σ gs y x g (chL σ gs y x g)
theorem ch_bg {σ : Row} (hd : DR σ) (hi : Inv σ) {gs : Int32} {y x : Nat} (hx : x < nS σ) (hy : y < 12) (h : lfB σ y (σ (10 + 5 * x + 0)) (shu σ y) = true) (hp : pnt σ x y = -1) : ∀ g, g ≤ nG σ → chL σ gs y x g = bgL σ gs y x g
  | 0, _ => rfl
  | g + 1, hg => by
    show chS σ gs y x g (chL σ gs y x g) = bgS σ gs y x g (bgL σ gs y x g)
    rw [ch_bg hd hi hx hy h hp g (by omega)]
    unfold chS bgS
    have e : (¬ lefT σ y x g < 0) ↔ rfs σ y x g = 0 := by
      rw [lefT_iff hd hi hx hy (by omega), rfs_free h hp]
      by_cases q : cap σ g y < lod σ (nI g) y + eff σ x y
      · rw [if_pos q]
        exact ⟨fun z => absurd q z, fun z => absurd z (by decide)⟩
      · rw [if_neg q]
        exact ⟨fun _ => rfl, fun _ => q⟩
    by_cases q : bitB gs g = true ∧ rfs σ y x g = 0 ∧ ((bgL σ gs y x g).1 = -1 ∨ lefT σ y x g < (bgL σ gs y x g).2)
    · rw [if_pos q, if_pos ⟨q.1, e.mpr q.2.1, q.2.2⟩]
    · rw [if_neg q, if_neg (fun z => q ⟨z.1, e.mp z.2.1, z.2.2⟩)]
theorem bg_no {σ : Row} {gs : Int32} {y x : Nat} (h : lfB σ y (σ (10 + 5 * x + 0)) (shu σ y) = false) : ∀ g, bgL σ gs y x g = (-1, nI 0)
  | 0 => rfl
  | g + 1 => by
    show bgS σ gs y x g (bgL σ gs y x g) = _
    rw [bg_no h g]
    unfold bgS
    rw [if_neg (fun z => rfs_shut h z.2.1)]
theorem bit_eq1 {v : Int32} {k : Nat} (hk : k < 32) : ((v >>> (nI k &&& 31)) &&& nI 1 = nI 1) ↔ bitB v k = true := by
  rw [bit1 v hk]
  cases bitB v k with
  | true => exact ⟨fun _ => rfl, fun _ => rfl⟩
  | false => exact ⟨fun h => absurd h (by decide), fun h => by cases h⟩
theorem shu_un {σ : Row} {y : Nat} (h : ∀ x, x < nS σ → pnt σ x y = -1) : shu σ y = nI 0 := by
  have h1 : ∀ n, n ≤ nS σ → orT (shF σ y) n = nI 0 := by
    intro n
    induction n with
    | zero => exact fun _ => rfl
    | succ n ih =>
      intro hn
      show orT (shF σ y) n ||| shF σ y n = _
      rw [ih (by omega)]
      unfold shF
      rw [h n (by omega), if_neg (nAl rfl), or_n0]
  exact h1 _ (Nat.le_refl _)
theorem lod_un {σ : Row} {g y : Nat} (hg : g < 5) (h : ∀ x, x < nS σ → pnt σ x y = -1) : lod σ (nI g) y = nI 0 := by
  have h1 : ∀ n, n ≤ nS σ → sumT (fun x => if pnt σ x y = nI g then eff σ x y else nI 0) n = nI 0 := by
    intro n
    induction n with
    | zero => exact fun _ => rfl
    | succ n ih =>
      intro hn
      show sumT _ n + (if pnt σ n y = nI g then eff σ n y else nI 0) = _
      rw [ih (by omega), h n (by omega), if_neg (fun z => nI_m1 (by omega) z.symm)]
      rfl
  exact h1 _ (Nat.le_refl _)
/-- what planning may write in the model -/
def SM (a j : Nat) : Bool := a == 68 || (decide (75 ≤ a ∧ a ≤ 82)) || (a == 67 && j == 30)
def SMT (a j : Nat) : Bool := a == 68 || (decide (75 ≤ a ∧ a ≤ 82)) || (a == 67 && j == 30) || (a == 67 && j == 6)
section LF
variable {σ : Row} {y : Nat} {ln w : Int32}
theorem lf_a (h : ln = -1) : bI (lfB σ y ln w) = nI 1 := by unfold lfB; rw [decide_eq_true h]; rfl
theorem lf_b (h : ¬ ln = -1) (h1 : ((σ (92 + y) >>> (ln &&& 31)) &&& nI 1) = nI 1) : bI (lfB σ y ln w) = nI 0 := by unfold lfB; rw [decide_eq_false h, decide_eq_true h1]; rfl
theorem lf_c (h : ¬ ln = -1) (h1 : ¬ ((σ (92 + y) >>> (ln &&& 31)) &&& nI 1) = nI 1) (h2 : σ 1 < cnt16 (w ||| nI 1 <<< (ln &&& 31))) : bI (lfB σ y ln w) = nI 0 := by unfold lfB; rw [decide_eq_false h, decide_eq_false h1, decide_eq_false (Int32.not_le.mpr h2)]; rfl
theorem lf_d (h : ¬ ln = -1) (h1 : ¬ ((σ (92 + y) >>> (ln &&& 31)) &&& nI 1) = nI 1) (h2 : cnt16 (w ||| nI 1 <<< (ln &&& 31)) ≤ σ 1) : bI (lfB σ y ln w) = nI 1 := by unfold lfB; rw [decide_eq_false h, decide_eq_false h1, decide_eq_true h2]; rfl
end LF
theorem ch_fin {σ : Row} (hd : DR σ) (hi : Inv σ) {gs : Int32} {y x g : Nat} (hx : x < nS σ) (hy : y < 12) (hp : pnt σ x y = -1) (hf : g = 0 ∨ lfB σ y (σ (10 + 5 * x + 0)) (shu σ y) = true) (h1 : g = nG σ) : bgG σ gs y x = (chL σ gs y x g).1 := by
  unfold bgG
  rcases hf with h | h
  · rw [← h1, h]; rfl
  · rw [ch_bg hd hi hx hy h hp g (by omega), h1]
theorem ch_stop {σ : Row} {gs : Int32} {y x g : Nat} (hf : g = 0 ∨ lfB σ y (σ (10 + 5 * x + 0)) (shu σ y) = true) (h : lfB σ y (σ (10 + 5 * x + 0)) (shu σ y) = false) : bgG σ gs y x = (chL σ gs y x g).1 := by
  rcases hf with h1 | h1
  · unfold bgG
    rw [bg_no h, h1]; rfl
  · rw [h] at h1; cases h1
theorem ld_step {σ : Row} {f : Nat → Int32} {x y g : Nat} (hf : ∀ z, z < nG σ → f z = lod σ (nI z) y) (hx : x < nS σ) (hx2 : nS σ ≤ 12) (hg : g < nG σ) (hG5 : nG σ ≤ 5) (hu : pnt σ x y = -1) : ∀ z, z < nG σ → upd f g (lod σ (nI g) y + eff σ x y) z = lod (setP σ x y (nI g)) (nI z) y := by
  intro z hz
  rw [lod_setP hx hx2 (by omega) (by omega) hu]
  by_cases e : z = g
  · rw [e, upd_eq, if_pos rfl]
  · rw [upd_ne e, if_neg e, hf z hz]
def SZ (a j : Nat) : Bool := a == 80 || a == 81 || (a == 67 && j == 30)
def SY (a j : Nat) : Bool := a == 68 || a == 80 || a == 81 || (a == 67 && j == 30)
section FYL
variable {σ : Row} {y x : Nat}
theorem fy_a (h : fp σ x = NOTF) : nI 100 = fyY σ y x := by unfold fyY; rw [if_neg (by unfold cand; rw [decide_eq_false (nAl h)]; decide)]
theorem fy_b (h : fp σ x < nI y) : nI 100 = fyY σ y x := by unfold fyY; rw [if_neg (by unfold cand; rw [decide_eq_false (fun z => Int32.not_lt.mpr z.2.1 h)]; decide)]
theorem fy_c (h : nI (y + 2) < fp σ x) : nI 100 = fyY σ y x := by unfold fyY; rw [if_neg (by unfold cand; rw [decide_eq_false (fun z => Int32.not_lt.mpr z.2.2 h)]; decide)]
theorem fy_d (h1 : ¬ fp σ x = NOTF) (h2 : ¬ fp σ x < nI y) (h3 : ¬ nI (y + 2) < fp σ x) : fp σ x = fyY σ y x := by unfold fyY; rw [if_pos (by unfold cand; rw [decide_eq_true ⟨h1, Int32.not_lt.mp h2, Int32.not_lt.mp h3⟩])]
theorem or_y {r : Nat} (hY : Yn σ ≤ 12) (hr : r < nS σ) (h : ¬ nI 100 ≤ fyY σ y (elK (fun _ => true) (ltY σ y) (nS σ) r)) : r < ordN σ y ∧ elK (fun _ => true) (ltY σ y) (nS σ) r = ordE σ y r := by
  rcases Nat.lt_or_ge r (ordN σ y) with q | q
  · exact ⟨q, (ord_hit hY q).1⟩
  · rw [cand_not (ord_no hY q hr)] at h
    exact absurd (Int32.le_refl _) h
theorem or_n {r : Nat} (hY : Yn σ ≤ 12) (h : nI 100 ≤ fyY σ y (elK (fun _ => true) (ltY σ y) (nS σ) r)) : ordN σ y ≤ r := by
  rcases Nat.lt_or_ge r (ordN σ y) with q | q
  · obtain ⟨h1, _, h3⟩ := ord_hit hY q
    obtain ⟨k, hk, e⟩ := cand_fy hY h3
    rw [h1, e] at h
    exact absurd h (nI_ge (by omega) (by omega))
  · exact q
end FYL
