/-! a bridge that is changed -/
theorem br_br {β γ : Nat} (h : isBr β) (g : isBr γ) (hne : γ ≠ β) : γ + 10 < β ∨ β + 10 < γ := by
  rcases h with rfl | rfl <;> rcases g with rfl | rfl <;> omega
theorem pl_pl {q u : Nat} (h : isPl q) (g : isPl u) (hne : u ≠ q) : u + 3 < q ∨ q + 3 < u := by
  rcases h with rfl | rfl <;> rcases g with rfl | rfl <;> omega
def SRs (β a j : Nat) : Bool := (a == β && j == 1) || a == β + 9 || a == β + 10 || a == β + 5 || a == β + 7
theorem SRs_in {β : Nat} : inC β (β + 10) (SRs β) := fun a j h => by
  simp only [SRs, Bool.or_eq_true, Bool.and_eq_true, beq_iff_eq] at h; omega
theorem SRs_1 {β : Nat} : SRs β β 1 = true := by simp [SRs]
def SMb (β a j : Nat) : Bool := a == β || decide (β < a ∧ a ≤ β + 10)
theorem iniR_at {f : Nat → Int32} {j : Nat} (h3 : 3 ≤ j) (h : j < 80 ∨ (92 ≤ j ∧ j < 248)) : iniR f j = nI 0 := by
  unfold iniR dyR
  rw [if_neg (by omega), upd_ne (by omega), upd_ne (by omega), upd_ne (by omega)]
  exact if_pos (by omega)
theorem iniR_d {f : Nat → Int32} {y : Nat} (h : y < 12) : iniR f (80 + y) = nI 100 := by
  unfold iniR dyR
  exact if_pos (by omega)
theorem iniR_0 {f : Nat → Int32} : iniR f 0 = nI 8 := by
  unfold iniR dyR
  rw [if_neg (by omega), upd_ne (by omega), upd_ne (by omega), upd_eq]
theorem iniR_1 {f : Nat → Int32} : iniR f 1 = nI 2 := by
  unfold iniR dyR
  rw [if_neg (by omega), upd_ne (by omega), upd_eq]
theorem iniR_2 {f : Nat → Int32} : iniR f 2 = nI 3 := by
  unfold iniR dyR
  rw [if_neg (by omega), upd_eq]
theorem ini_n {f : Nat → Int32} : nLn (iniR f) = 0 ∧ nS (iniR f) = 0 ∧ nG (iniR f) = 0 ∧ Yn (iniR f) = 8 := by
  unfold nLn nS nG Yn
  rw [iniR_at (by omega) (by omega), iniR_at (by omega) (by omega), iniR_at (by omega) (by omega), iniR_0]
  exact ⟨rfl, rfl, rfl, rfl⟩
theorem ini_Inv {f : Nat → Int32} : Inv (iniR f) := by
  unfold Inv
  obtain ⟨h1, h2, h3, h4⟩ := ini_n (f := f)
  rw [h1, h2, h3, h4, iniR_0, iniR_at (by omega) (by omega), iniR_at (by omega) (by omega), iniR_at (by omega) (by omega)]
  decide
theorem ini_pnt {f : Nat → Int32} {x y : Nat} (hx : x < 12) (hy : y < 12) : pnt (iniR f) x y = -1 := by
  unfold pnt
  rw [iniR_at (by omega) (by omega)]
  decide
theorem ini_DR {f : Nat → Int32} : DR (iniR f) := by
  obtain ⟨h1, h2, h3, h4⟩ := ini_n (f := f)
  refine ⟨fun g hg => by omega, fun x y hx hy => Or.inl (ini_pnt hx hy), fun x hx => by omega, fun x hx => by omega, ⟨2, by omega, by omega, iniR_1⟩, ⟨3, by omega, iniR_2⟩, fun y hy => ⟨100, by omega, iniR_d hy⟩, fun y hy => ⟨0, by omega, iniR_at (by omega) (by omega)⟩⟩
theorem ini_Br {I : CI} {β : Nat} {f : Nat → Int32} (h0 : I β 0 = nI 8) (h1 : I β 1 = nI 2) (h2 : I β 2 = nI 3) (h3 : I β 3 = nI 0) (h4 : I β 4 = nI 0) (h5 : I β 5 = nI 0) (h9 : ∀ y, y < 12 → I (β + 9) y = nI 100) (h10 : ∀ y, y < 12 → I (β + 10) y = nI 0) : BrAt I β (iniR f) := by
  obtain ⟨n1, n2, n3, n4⟩ := ini_n (f := f)
  refine ⟨⟨by rw [h0, iniR_0], by rw [h1, iniR_1], by rw [h2, iniR_2], by rw [h3, iniR_at (by omega) (by omega)], by rw [h4, iniR_at (by omega) (by omega)], by rw [h5, iniR_at (by omega) (by omega)]⟩, fun k hk => by omega, fun x hx => by omega, fun g hg => by omega, fun y hy => ⟨by rw [h9 y hy, iniR_d hy], by rw [h10 y hy, iniR_at (by omega) (by omega)]⟩⟩
/-- a lane more, a span more, a gang more -/
def adL (σ : Row) (t : Int32) : Row := upd (upd σ (6 + nLn σ) t) 3 (nI (nLn σ + 1))
def adS (σ : Row) (a b c d e : Int32) : Row := upd (upd (upd (upd (upd (upd σ (10 + 5 * nS σ + 0) a) (10 + 5 * nS σ + 1) b) (10 + 5 * nS σ + 2) c) (10 + 5 * nS σ + 3) d) (10 + 5 * nS σ + 4) e) 4 (nI (nS σ + 1))
def adG (σ : Row) (a b : Int32) : Row := upd (upd (upd σ (70 + 2 * nG σ + 0) a) (70 + 2 * nG σ + 1) b) 5 (nI (nG σ + 1))
theorem clamp_nI {n : Nat} (h : n < 2 ^ 31) : (nI n).toNatClampNeg = n := nI_clamp h
theorem adL_n {σ : Row} {t : Int32} (h : nLn σ < 4) : nLn (adL σ t) = nLn σ + 1 ∧ nS (adL σ t) = nS σ ∧ nG (adL σ t) = nG σ ∧ Yn (adL σ t) = Yn σ := by
  unfold adL
  refine ⟨?_, ?_, ?_, ?_⟩
  · show (upd _ 3 _ 3).toNatClampNeg = _
    rw [upd_eq, clamp_nI (by omega)]
  · show (upd (upd σ _ _) 3 _ 4).toNatClampNeg = _
    rw [upd_ne (by omega), upd_ne (by omega)]; rfl
  · show (upd (upd σ _ _) 3 _ 5).toNatClampNeg = _
    rw [upd_ne (by omega), upd_ne (by omega)]; rfl
  · show (upd (upd σ _ _) 3 _ 0).toNatClampNeg = _
    rw [upd_ne (by omega), upd_ne (by omega)]; rfl
theorem adS_n {σ : Row} {a b c d e : Int32} (h : nS σ < 12) : nLn (adS σ a b c d e) = nLn σ ∧ nS (adS σ a b c d e) = nS σ + 1 ∧ nG (adS σ a b c d e) = nG σ ∧ Yn (adS σ a b c d e) = Yn σ := by
  unfold adS
  refine ⟨?_, ?_, ?_, ?_⟩
  · show (upd (upd (upd (upd (upd (upd σ _ _) _ _) _ _) _ _) _ _) 4 _ 3).toNatClampNeg = _
    rw [upd_ne (by omega), upd_ne (by omega), upd_ne (by omega), upd_ne (by omega), upd_ne (by omega), upd_ne (by omega)]; rfl
  · show (upd _ 4 _ 4).toNatClampNeg = _
    rw [upd_eq, clamp_nI (by omega)]
  · show (upd (upd (upd (upd (upd (upd σ _ _) _ _) _ _) _ _) _ _) 4 _ 5).toNatClampNeg = _
    rw [upd_ne (by omega), upd_ne (by omega), upd_ne (by omega), upd_ne (by omega), upd_ne (by omega), upd_ne (by omega)]; rfl
  · show (upd (upd (upd (upd (upd (upd σ _ _) _ _) _ _) _ _) _ _) 4 _ 0).toNatClampNeg = _
    rw [upd_ne (by omega), upd_ne (by omega), upd_ne (by omega), upd_ne (by omega), upd_ne (by omega), upd_ne (by omega)]; rfl
theorem adG_n {σ : Row} {a b : Int32} (h : nG σ < 5) : nLn (adG σ a b) = nLn σ ∧ nS (adG σ a b) = nS σ ∧ nG (adG σ a b) = nG σ + 1 ∧ Yn (adG σ a b) = Yn σ := by
  unfold adG
  refine ⟨?_, ?_, ?_, ?_⟩
  · show (upd (upd (upd σ _ _) _ _) 5 _ 3).toNatClampNeg = _
    rw [upd_ne (by omega), upd_ne (by omega), upd_ne (by omega)]; rfl
  · show (upd (upd (upd σ _ _) _ _) 5 _ 4).toNatClampNeg = _
    rw [upd_ne (by omega), upd_ne (by omega), upd_ne (by omega)]; rfl
  · show (upd _ 5 _ 5).toNatClampNeg = _
    rw [upd_eq, clamp_nI (by omega)]
  · show (upd (upd (upd σ _ _) _ _) 5 _ 0).toNatClampNeg = _
    rw [upd_ne (by omega), upd_ne (by omega), upd_ne (by omega)]; rfl
theorem adL_at {σ : Row} {t : Int32} {j : Nat} (h : j ≠ 3) (h2 : j ≠ 6 + nLn σ) : adL σ t j = σ j := by
  unfold adL
  rw [upd_ne h, upd_ne h2]
theorem adL_k {σ : Row} {t : Int32} : adL σ t (6 + nLn σ) = t := by
  unfold adL
  rw [upd_ne (by omega), upd_eq]
theorem adS_at {σ : Row} {a b c d e : Int32} {j : Nat} (h : j ≠ 4) (h2 : j < 10 + 5 * nS σ ∨ 15 + 5 * nS σ ≤ j) : adS σ a b c d e j = σ j := by
  unfold adS
  rw [upd_ne h, upd_ne (by omega), upd_ne (by omega), upd_ne (by omega), upd_ne (by omega), upd_ne (by omega)]
theorem adS_k {σ : Row} {a b c d e : Int32} : adS σ a b c d e (10 + 5 * nS σ + 0) = a ∧ adS σ a b c d e (10 + 5 * nS σ + 1) = b ∧ adS σ a b c d e (10 + 5 * nS σ + 2) = c ∧ adS σ a b c d e (10 + 5 * nS σ + 3) = d ∧ adS σ a b c d e (10 + 5 * nS σ + 4) = e := by
  unfold adS
  refine ⟨?_, ?_, ?_, ?_, ?_⟩
  · rw [upd_ne (by omega), upd_ne (by omega), upd_ne (by omega), upd_ne (by omega), upd_ne (by omega), upd_eq]
  · rw [upd_ne (by omega), upd_ne (by omega), upd_ne (by omega), upd_ne (by omega), upd_eq]
  · rw [upd_ne (by omega), upd_ne (by omega), upd_ne (by omega), upd_eq]
  · rw [upd_ne (by omega), upd_ne (by omega), upd_eq]
  · rw [upd_ne (by omega), upd_eq]
theorem adG_at {σ : Row} {a b : Int32} {j : Nat} (h : j ≠ 5) (h2 : j < 70 + 2 * nG σ ∨ 72 + 2 * nG σ ≤ j) : adG σ a b j = σ j := by
  unfold adG
  rw [upd_ne h, upd_ne (by omega), upd_ne (by omega)]
theorem adG_k {σ : Row} {a b : Int32} : adG σ a b (70 + 2 * nG σ + 0) = a ∧ adG σ a b (70 + 2 * nG σ + 1) = b := by
  unfold adG
  exact ⟨by rw [upd_ne (by omega), upd_ne (by omega), upd_eq], by rw [upd_ne (by omega), upd_eq]⟩
theorem BrAt_adL {I : CI} {β : Nat} {σ : Row} {t : Int32} (hi : Inv σ) (h : BrAt I β σ) (hn : nLn σ < 4) : BrAt (u2 (u2 I (β + 1) (nLn σ) t) β 3 (nI (nLn σ + 1))) β (adL σ t) := by
  obtain ⟨hY, hY1, hY12, hLn, hL4, hSn, hS12, hGn, hG5⟩ := id hi
  obtain ⟨⟨a0, a1, a2, a3, a4, a5⟩, b1, b2, b3, b4⟩ := h
  obtain ⟨n1, n2, n3, n4⟩ := adL_n (t := t) hn
  refine ⟨⟨?_, ?_, ?_, ?_, ?_, ?_⟩, fun k hk => ?_, fun x hx => ?_, fun g hg => ?_, fun y hy => ?_⟩
  · rw [u2_off (by omega), u2_off (by omega), a0, adL_at (by omega) (by omega)]
  · rw [u2_off (by omega), u2_off (by omega), a1, adL_at (by omega) (by omega)]
  · rw [u2_off (by omega), u2_off (by omega), a2, adL_at (by omega) (by omega)]
  · rw [u2_at]; exact upd_eq.symm
  · rw [u2_off (by omega), u2_off (by omega), a4, adL_at (by omega) (by omega)]
  · rw [u2_off (by omega), u2_off (by omega), a5, adL_at (by omega) (by omega)]
  · rw [n1] at hk
    rw [u2_off (by omega)]
    by_cases e : k = nLn σ
    · rw [e, u2_at, adL_k]
    · rw [u2_off (by omega), b1 k (by omega), adL_at (by omega) (by omega)]
  · rw [n2] at hx
    rw [u2_ne (by omega), u2_ne (by omega), u2_ne (by omega), u2_ne (by omega), u2_ne (by omega), u2_ne (by omega), u2_ne (by omega), u2_ne (by omega), u2_ne (by omega), u2_ne (by omega), adL_at (by omega) (by omega), adL_at (by omega) (by omega), adL_at (by omega) (by omega), adL_at (by omega) (by omega), adL_at (by omega) (by omega)]
    exact b2 x hx
  · rw [n3] at hg
    rw [u2_ne (by omega), u2_ne (by omega), u2_ne (by omega), u2_ne (by omega), adL_at (by omega) (by omega), adL_at (by omega) (by omega)]
    exact b3 g hg
  · rw [u2_ne (by omega), u2_ne (by omega), u2_ne (by omega), u2_ne (by omega), adL_at (by omega) (by omega), adL_at (by omega) (by omega)]
    exact b4 y hy
theorem BrAt_adS {I : CI} {β : Nat} {σ : Row} {a b c d e : Int32} (hi : Inv σ) (h : BrAt I β σ) (hn : nS σ < 12) : BrAt (u2 (u2 (u2 (u2 (u2 (u2 I (β + 2) (nS σ) a) (β + 3) (nS σ) b) (β + 4) (nS σ) c) (β + 5) (nS σ) d) (β + 6) (nS σ) e) β 4 (nI (nS σ + 1))) β (adS σ a b c d e) := by
  obtain ⟨hY, hY1, hY12, hLn, hL4, hSn, hS12, hGn, hG5⟩ := id hi
  obtain ⟨⟨a0, a1, a2, a3, a4, a5⟩, b1, b2, b3, b4⟩ := h
  obtain ⟨n1, n2, n3, n4⟩ := adS_n (a := a) (b := b) (c := c) (d := d) (e := e) hn
  obtain ⟨k0, k1, k2, k3, k4⟩ := adS_k (σ := σ) (a := a) (b := b) (c := c) (d := d) (e := e)
  refine ⟨⟨?_, ?_, ?_, ?_, ?_, ?_⟩, fun k hk => ?_, fun x hx => ?_, fun g hg => ?_, fun y hy => ?_⟩
  · rw [u2_off (by omega), u2_ne (by omega), u2_ne (by omega), u2_ne (by omega), u2_ne (by omega), u2_ne (by omega), a0, adS_at (by omega) (by omega)]
  · rw [u2_off (by omega), u2_ne (by omega), u2_ne (by omega), u2_ne (by omega), u2_ne (by omega), u2_ne (by omega), a1, adS_at (by omega) (by omega)]
  · rw [u2_off (by omega), u2_ne (by omega), u2_ne (by omega), u2_ne (by omega), u2_ne (by omega), u2_ne (by omega), a2, adS_at (by omega) (by omega)]
  · rw [u2_off (by omega), u2_ne (by omega), u2_ne (by omega), u2_ne (by omega), u2_ne (by omega), u2_ne (by omega), a3, adS_at (by omega) (by omega)]
  · rw [u2_at]; exact upd_eq.symm
  · rw [u2_off (by omega), u2_ne (by omega), u2_ne (by omega), u2_ne (by omega), u2_ne (by omega), u2_ne (by omega), a5, adS_at (by omega) (by omega)]
  · rw [n1] at hk
    rw [u2_ne (by omega), u2_ne (by omega), u2_ne (by omega), u2_ne (by omega), u2_ne (by omega), u2_ne (by omega), b1 k hk, adS_at (by omega) (by omega)]
  · rw [n2] at hx
    by_cases ex : x = nS σ
    · rw [ex, k0, k1, k2, k3, k4]
      refine ⟨?_, ?_, ?_, ?_, ?_⟩
      · rw [u2_ne (by omega), u2_ne (by omega), u2_ne (by omega), u2_ne (by omega), u2_ne (by omega), u2_at]
      · rw [u2_ne (by omega), u2_ne (by omega), u2_ne (by omega), u2_ne (by omega), u2_at]
      · rw [u2_ne (by omega), u2_ne (by omega), u2_ne (by omega), u2_at]
      · rw [u2_ne (by omega), u2_ne (by omega), u2_at]
      · rw [u2_ne (by omega), u2_at]
    · obtain ⟨q0, q1, q2, q3, q4⟩ := b2 x (by omega)
      rw [adS_at (by omega) (by omega), adS_at (by omega) (by omega), adS_at (by omega) (by omega), adS_at (by omega) (by omega), adS_at (by omega) (by omega)]
      refine ⟨?_, ?_, ?_, ?_, ?_⟩
      · rw [u2_ne (by omega), u2_ne (by omega), u2_ne (by omega), u2_ne (by omega), u2_ne (by omega), u2_off (by omega), q0]
      · rw [u2_ne (by omega), u2_ne (by omega), u2_ne (by omega), u2_ne (by omega), u2_off (by omega), u2_ne (by omega), q1]
      · rw [u2_ne (by omega), u2_ne (by omega), u2_ne (by omega), u2_off (by omega), u2_ne (by omega), u2_ne (by omega), q2]
      · rw [u2_ne (by omega), u2_ne (by omega), u2_off (by omega), u2_ne (by omega), u2_ne (by omega), u2_ne (by omega), q3]
      · rw [u2_ne (by omega), u2_off (by omega), u2_ne (by omega), u2_ne (by omega), u2_ne (by omega), u2_ne (by omega), q4]
  · rw [n3] at hg
    obtain ⟨q0, q1⟩ := b3 g hg
    refine ⟨?_, ?_⟩
    · rw [u2_ne (by omega), u2_ne (by omega), u2_ne (by omega), u2_ne (by omega), u2_ne (by omega), u2_ne (by omega), q0, adS_at (by omega) (by omega)]
    · rw [u2_ne (by omega), u2_ne (by omega), u2_ne (by omega), u2_ne (by omega), u2_ne (by omega), u2_ne (by omega), q1, adS_at (by omega) (by omega)]
  · obtain ⟨q0, q1⟩ := b4 y hy
    refine ⟨?_, ?_⟩
    · rw [u2_ne (by omega), u2_ne (by omega), u2_ne (by omega), u2_ne (by omega), u2_ne (by omega), u2_ne (by omega), q0, adS_at (by omega) (by omega)]
    · rw [u2_ne (by omega), u2_ne (by omega), u2_ne (by omega), u2_ne (by omega), u2_ne (by omega), u2_ne (by omega), q1, adS_at (by omega) (by omega)]
theorem BrAt_adG {I : CI} {β : Nat} {σ : Row} {a b : Int32} (hi : Inv σ) (h : BrAt I β σ) (hn : nG σ < 5) : BrAt (u2 (u2 (u2 I (β + 7) (nG σ) a) (β + 8) (nG σ) b) β 5 (nI (nG σ + 1))) β (adG σ a b) := by
  obtain ⟨hY, hY1, hY12, hLn, hL4, hSn, hS12, hGn, hG5⟩ := id hi
  obtain ⟨⟨a0, a1, a2, a3, a4, a5⟩, b1, b2, b3, b4⟩ := h
  obtain ⟨n1, n2, n3, n4⟩ := adG_n (a := a) (b := b) hn
  obtain ⟨k0, k1⟩ := adG_k (σ := σ) (a := a) (b := b)
  refine ⟨⟨?_, ?_, ?_, ?_, ?_, ?_⟩, fun k hk => ?_, fun x hx => ?_, fun g hg => ?_, fun y hy => ?_⟩
  · rw [u2_off (by omega), u2_ne (by omega), u2_ne (by omega), a0, adG_at (by omega) (by omega)]
  · rw [u2_off (by omega), u2_ne (by omega), u2_ne (by omega), a1, adG_at (by omega) (by omega)]
  · rw [u2_off (by omega), u2_ne (by omega), u2_ne (by omega), a2, adG_at (by omega) (by omega)]
  · rw [u2_off (by omega), u2_ne (by omega), u2_ne (by omega), a3, adG_at (by omega) (by omega)]
  · rw [u2_off (by omega), u2_ne (by omega), u2_ne (by omega), a4, adG_at (by omega) (by omega)]
  · rw [u2_at]; exact upd_eq.symm
  · rw [n1] at hk
    rw [u2_ne (by omega), u2_ne (by omega), u2_ne (by omega), b1 k hk, adG_at (by omega) (by omega)]
  · rw [n2] at hx
    obtain ⟨q0, q1, q2, q3, q4⟩ := b2 x hx
    rw [adG_at (by omega) (by omega), adG_at (by omega) (by omega), adG_at (by omega) (by omega), adG_at (by omega) (by omega), adG_at (by omega) (by omega)]
    refine ⟨?_, ?_, ?_, ?_, ?_⟩
    · rw [u2_ne (by omega), u2_ne (by omega), u2_ne (by omega), q0]
    · rw [u2_ne (by omega), u2_ne (by omega), u2_ne (by omega), q1]
    · rw [u2_ne (by omega), u2_ne (by omega), u2_ne (by omega), q2]
    · rw [u2_ne (by omega), u2_ne (by omega), u2_ne (by omega), q3]
    · rw [u2_ne (by omega), u2_ne (by omega), u2_ne (by omega), q4]
  · rw [n3] at hg
    by_cases ex : g = nG σ
    · rw [ex, k0, k1]
      refine ⟨?_, ?_⟩
      · rw [u2_ne (by omega), u2_ne (by omega), u2_at]
      · rw [u2_ne (by omega), u2_at]
    · obtain ⟨q0, q1⟩ := b3 g (by omega)
      rw [adG_at (by omega) (by omega), adG_at (by omega) (by omega)]
      refine ⟨?_, ?_⟩
      · rw [u2_ne (by omega), u2_ne (by omega), u2_off (by omega), q0]
      · rw [u2_ne (by omega), u2_off (by omega), u2_ne (by omega), q1]
  · obtain ⟨q0, q1⟩ := b4 y hy
    refine ⟨?_, ?_⟩
    · rw [u2_ne (by omega), u2_ne (by omega), u2_ne (by omega), q0, adG_at (by omega) (by omega)]
    · rw [u2_ne (by omega), u2_ne (by omega), u2_ne (by omega), q1, adG_at (by omega) (by omega)]
