/-! the invariant's steps: what keeps it -/
section ST9
variable {I I1 I2 : CI} {R R1 R2 : CR} {σ τ υ : Row} {k n : Nat} {b : Nat → Int32} {U : Nat → Row} {o : Out} {β q γ u nw : Nat} {S : Nat → Nat → Bool} {ed : Option Row}
theorem MSt.fr (h : MSt I σ k n b U o) (hF : Fr S I I1) (h68 : I1 68 = σ) (h5 : S 67 5 = false) (h8 : S 67 8 = false) (h38 : S 67 38 = false) (h72 : ∀ j, S 72 j = false) (h73 : ∀ j, S 73 j = false) (h85 : ∀ j, S 85 j = false) : MSt I1 σ k n b U o := by
  obtain ⟨a1, a2, a3, a4, a5, a6, a7, a8, a9, a10, a11, a12, a13⟩ := h
  exact ⟨h68, a2, a3, by rw [hF _ _ h5]; exact a4, a5, a6.row (hF.row h72), by rw [hF _ _ h8]; exact a7, a8, by rw [hF.row h73]; exact a9, a10, by rw [hF _ _ h38]; exact a11, by rw [hF.row h85]; exact a12, a13⟩
/-- a set of places that the class's side does not read -/
def OKC (S : Nat → Nat → Bool) (β q : Nat) : Prop := ∀ a j, ((β ≤ a ∧ a ≤ β + 10) ∨ (q ≤ a ∧ a ≤ q + 3) ∨ (9 ≤ a ∧ a ≤ 30) ∨ (a = 0 ∧ (j = 11 ∨ j = 12)) ∨ (a = 67 ∧ (j = 9 ∨ j = 10))) → S a j = false
def RKp (R R1 : CR) (q : Nat) : Prop := R1 0 7 = R 0 7 ∧ R1 0 8 = R 0 8 ∧ R1 0 9 = R 0 9 ∧ R1 0 10 = R 0 10 ∧ R1 q 0 = R q 0
theorem RKp.rf : RKp R R q := ⟨rfl, rfl, rfl, rfl, rfl⟩
theorem RKp.eq (h : R = R1) : RKp R R1 q := by subst h; exact RKp.rf
theorem RKp.FR (hu : isPl u) (hq : isPl q) (hne : u ≠ q) (h : FR u R R1) : RKp R R1 q := by
  have h0 : (0 : Nat) ≠ u := by rcases hu with rfl | rfl <;> decide
  exact ⟨h _ _ (Or.inl h0), h _ _ (Or.inl h0), h _ _ (Or.inl h0), h _ _ (Or.inl h0), h _ _ (Or.inl (fun e => hne e.symm))⟩
theorem CSt.fr (h : CSt I R σ k n b U o β q γ u nw) (hF : Fr S I I1) (hs : OKC S β q) (hR : RKp R R1 q) : CSt I1 R1 σ k n b U o β q γ u nw := by
  obtain ⟨a1, a2, a3, a4, a5, a6, a7, a8, a9, a10, a11, a12, a13, a14, a15, a16, a17, a18⟩ := h
  obtain ⟨r1, r2, r3, r4, r5⟩ := hR
  exact ⟨a1, a2, a3, a4, a5, a6, r1.trans a7, r2.trans a8, r3.trans a9, r4.trans a10, r5.trans a11, a12.fr hF (fun a j h1 h2 => hs a j (Or.inl ⟨h1, h2⟩)), a13.fr hF (fun a j h1 h2 => hs a j (Or.inr (Or.inl ⟨h1, h2⟩))), a14.frI hF (fun a j h1 h2 => hs a j (by omega)), a15.frI hF (fun a j h1 h2 => hs a j (by omega)), a16.frI hF (fun a j h1 h2 => hs a j (by omega)),
    by rw [hF _ _ (hs 0 11 (by omega)), hF _ _ (hs 67 9 (by omega))]; exact a17, by rw [hF _ _ (hs 0 12 (by omega)), hF _ _ (hs 67 10 (by omega))]; exact a18⟩
/-- a set of places of the class's own cells: the model's side does not read them -/
def OKL (S : Nat → Nat → Bool) : Prop := ∀ a j, 67 ≤ a → S a j = false
theorem MSt.cl (h : MSt I σ k n b U o) (hF : Fr S I I1) (hs : OKL S) : MSt I1 σ k n b U o :=
  h.fr hF (by rw [hF.row (fun j => hs _ j (by decide))]; exact h.1) (hs _ _ (by decide)) (hs _ _ (by decide)) (hs _ _ (by decide)) (fun j => hs _ j (by decide)) (fun j => hs _ j (by decide)) (fun j => hs _ j (by decide))
/-- a set of places of the model: neither side reads them, but for the row 68 -/
def OKM (S : Nat → Nat → Bool) : Prop := ∀ a j, (a < 67 ∨ (a = 67 ∧ (j = 5 ∨ j = 8 ∨ j = 9 ∨ j = 10 ∨ j = 38)) ∨ a = 72 ∨ a = 73 ∨ a = 85) → S a j = false
theorem OKM.c (h : OKM S) (hβ : isBr β) (hq : isPl q) : OKC S β q := fun a j z => h a j (by
  rcases hβ with rfl | rfl <;> rcases hq with rfl | rfl <;> omega)
theorem q_end (hM : MSt I1 σ k n b U o) (hC : CSt I1 R1 σ k n b U o β q γ u nw) (hU : USt σ k U) (hF : Fr S I1 I2) (h68 : I2 68 = σ) (hs : OKM S) (hR : R1 = R2) : LSt I2 R2 :=
  ⟨σ, k, n, b, U, o, β, q, γ, u, nw, hM.fr hF h68 (hs _ _ (by omega)) (hs _ _ (by omega)) (hs _ _ (by omega)) (fun j => hs _ j (by omega)) (fun j => hs _ j (by omega)) (fun j => hs _ j (by omega)), hC.fr hF (hs.c hC.1 hC.2.1) (RKp.eq hR), hU⟩
theorem OKM_ST : OKM ST := fun a j h => by unfold ST; simp only [Bool.and_eq_false_iff, beq_eq_false_iff_ne]; omega
theorem OKM_SLT : OKM SLT := fun a j h => by unfold SLT; simp only [Bool.or_eq_false_iff, Bool.and_eq_false_iff, beq_eq_false_iff_ne]; omega
theorem OKM_SQ : OKM SQ := fun a j h => by unfold SQ; simp only [Bool.or_eq_false_iff, Bool.and_eq_false_iff, beq_eq_false_iff_ne]; omega
theorem OKM_SAP : OKM SAP := fun a j h => by unfold SAP; simp only [Bool.or_eq_false_iff, Bool.and_eq_false_iff, beq_eq_false_iff_ne, decide_eq_false_iff_not]; omega
theorem OKM_SST : OKM SST := fun a j h => by unfold SST; simp only [Bool.or_eq_false_iff, Bool.and_eq_false_iff, beq_eq_false_iff_ne, decide_eq_false_iff_not]; omega
theorem ST_68 (hF : Fr ST I I1) (h : I 68 = σ) : I1 68 = σ := (hF.row (fun j => by unfold ST; simp)).trans h
theorem SLT_68 (hF : Fr SLT I I1) (h : I 68 = σ) : I1 68 = σ := (hF.row (fun j => by unfold SLT; simp)).trans h
-- the class's sets
theorem OK_SRk : OKL (SRk 7) ∧ (isBr β → isPl q → OKC (SRk 7) β q) := by
  refine ⟨fun a j h => ?_, fun hβ hq a j h => ?_⟩
  · unfold SRk; simp only [Bool.or_eq_false_iff, beq_eq_false_iff_ne]; omega
  · unfold SRk; simp only [Bool.or_eq_false_iff, beq_eq_false_iff_ne]
    rcases hβ with rfl | rfl <;> rcases hq with rfl | rfl <;> omega
theorem OK_SAp (hu : isPl u) : OKL (SAp u) ∧ (isBr β → isPl q → u ≠ q → OKC (SAp u) β q) := by
  refine ⟨fun a j h => ?_, fun hβ hq hne a j h => ?_⟩
  · unfold SAp; simp only [Bool.or_eq_false_iff, beq_eq_false_iff_ne]; rcases hu with rfl | rfl <;> omega
  · unfold SAp; simp only [Bool.or_eq_false_iff, beq_eq_false_iff_ne]
    rcases hβ with rfl | rfl <;> rcases hq with rfl | rfl <;> rcases hu with rfl | rfl <;> omega
theorem OK_SSp (hu : isPl u) : OKL (SSp u) ∧ (isBr β → isPl q → u ≠ q → OKC (SSp u) β q) := by
  refine ⟨fun a j h => ?_, fun hβ hq hne a j h => ?_⟩
  · unfold SSp; simp only [Bool.or_eq_false_iff, Bool.and_eq_false_iff, beq_eq_false_iff_ne]; rcases hu with rfl | rfl <;> omega
  · unfold SSp; simp only [Bool.or_eq_false_iff, Bool.and_eq_false_iff, beq_eq_false_iff_ne]
    rcases hβ with rfl | rfl <;> rcases hq with rfl | rfl <;> rcases hu with rfl | rfl <;> omega
theorem OK_SAs (hγ : isBr γ) (hu : isPl u) : OKL (SAs γ u) ∧ (isBr β → isPl q → γ ≠ β → u ≠ q → OKC (SAs γ u) β q) := by
  refine ⟨fun a j h => ?_, fun hβ hq hn hne a j h => ?_⟩
  · unfold SAs; simp only [Bool.or_eq_false_iff, beq_eq_false_iff_ne, decide_eq_false_iff_not]; rcases hu with rfl | rfl <;> rcases hγ with rfl | rfl <;> omega
  · unfold SAs; simp only [Bool.or_eq_false_iff, beq_eq_false_iff_ne, decide_eq_false_iff_not]
    rcases hβ with rfl | rfl <;> rcases hq with rfl | rfl <;> rcases hu with rfl | rfl <;> rcases hγ with rfl | rfl <;> omega
-- rows of the history under an edit
theorem Sta.rf : Sta σ σ := ⟨fun _ _ => rfl, fun _ _ => ⟨rfl, rfl, rfl, rfl⟩, fun _ _ => rfl⟩
theorem Sta.sy (h : Sta σ τ) : Sta τ σ := ⟨fun j hj => (h.1 j hj).symm, fun x hx => ⟨(h.2.1 x hx).1.symm, (h.2.1 x hx).2.1.symm, (h.2.1 x hx).2.2.1.symm, (h.2.1 x hx).2.2.2.symm⟩, fun g hg => (h.2.2 g hg).symm⟩
theorem Sta.tr (h : Sta σ τ) (h2 : Sta τ υ) : Sta σ υ := ⟨fun j hj => (h2.1 j hj).trans (h.1 j hj), fun x hx => ⟨(h2.2.1 x hx).1.trans (h.2.1 x hx).1, (h2.2.1 x hx).2.1.trans (h.2.1 x hx).2.1, (h2.2.1 x hx).2.2.1.trans (h.2.1 x hx).2.2.1, (h2.2.1 x hx).2.2.2.trans (h.2.1 x hx).2.2.2⟩, fun g hg => (h2.2.2 g hg).trans (h.2.2 g hg)⟩
theorem Sta_Sm (h : Sm σ τ) : Sta σ τ := ⟨fun j hj => h j (by omega), fun x hx => ⟨h _ (by omega), h _ (by omega), h _ (by omega), h _ (by omega)⟩, fun g hg => h _ (by omega)⟩
theorem Sta_u {z : Nat} {v : Int32} (h0 : ¬ (z = 0 ∨ (2 ≤ z ∧ z < 10))) (h1 : ∀ x, x < 12 → z ≠ 10 + 5 * x + 0 ∧ z ≠ 10 + 5 * x + 1 ∧ z ≠ 10 + 5 * x + 2 ∧ z ≠ 10 + 5 * x + 4) (h2 : ∀ g, g < 5 → z ≠ 70 + 2 * g + 1) : Sta σ (upd σ z v) :=
  ⟨fun j hj => upd_ne (fun e => h0 (e ▸ hj)), fun x hx => ⟨upd_ne (fun e => (h1 x hx).1 e.symm), upd_ne (fun e => (h1 x hx).2.1 e.symm), upd_ne (fun e => (h1 x hx).2.2.1 e.symm), upd_ne (fun e => (h1 x hx).2.2.2 e.symm)⟩, fun g hg => upd_ne (fun e => h2 g hg e.symm)⟩
/-- an edit's row: it is one that may be, and what never changes is the same -/
def EdK (σ : Row) (ed : Option Row) : Prop := ∀ τ, ed = some τ → Inv τ ∧ DR τ ∧ Sta σ τ
theorem USt_ed (hU : USt σ k U) (hi : Inv σ) (hd : DR σ) (he : EdK σ ed) : USt (nxS ed σ) (nxK ed k) (nxU ed σ U) := by
  cases ed with
  | none => exact hU
  | some τ =>
    obtain ⟨-, -, h3⟩ := he τ rfl
    intro t ht
    cases t with
    | zero => exact ⟨h3.sy, hi, hd⟩
    | succ t =>
      have ht : t + 1 < min 16 (k + 1) := ht
      obtain ⟨u1, u2, u3⟩ := hU t (by omega)
      exact ⟨h3.sy.tr u1, u2, u3⟩
theorem nxK_le (h : k ≤ 16) : nxK ed k ≤ 16 := by
  cases ed with
  | none => exact h
  | some τ => exact Nat.min_le_left _ _
theorem nx_ID (hi : Inv σ) (hd : DR σ) (he : EdK σ ed) : Inv (nxS ed σ) ∧ DR (nxS ed σ) := by
  cases ed with
  | none => exact ⟨hi, hd⟩
  | some τ => exact ⟨(he τ rfl).1, (he τ rfl).2.1⟩
theorem CSt.none (h : CSt I R σ k n b U o β q γ u nw) (he : ed = none) : CSt I R (nxS ed σ) (nxK ed k) n b (nxU ed σ U) o β q γ u (nxW ed nw) := by
  subst he
  exact h
/-- the class's edit -/
theorem ec_end (hM : MSt I σ k n b U o) (hC : CSt I R σ k n b U o β q γ u nw) (hF : Fr (SEd β q) I I1) (hE : EdC I1 β q ed σ k U nw) (hR : R = R1) : MSt I1 σ k n b U o ∧ CSt I1 R1 (nxS ed σ) (nxK ed k) n b (nxU ed σ U) o β q γ u (nxW ed nw) := by
  subst hR
  obtain ⟨a1, a2, a3, a4, a5, a6, a7, a8, a9, a10, a11, a12, a13, a14, a15, a16, a17, a18⟩ := hC
  have hl : ∀ a j, (67 ≤ a ∨ a = 0 ∨ (27 ≤ a ∧ a ≤ 30)) → SEd β q a j = false := fun a j h => by
    unfold SEd; simp only [Bool.or_eq_false_iff, beq_eq_false_iff_ne, decide_eq_false_iff_not]
    rcases a1 with rfl | rfl <;> rcases a2 with rfl | rfl <;> omega
  refine ⟨hM.cl hF (fun a j h => hl a j (Or.inl h)), a1, a2, a3, a4, a5, a6, a7, a8, a9, a10, a11, hE.1, hE.2.1, hE.2.2, a15.frI hF (fun a j h1 h2 => hl a j (by omega)), a16.frI hF (fun a j h1 h2 => hl a j (by omega)), ?_, ?_⟩
  · rw [hF _ _ (hl 0 11 (by omega)), hF _ _ (hl 67 9 (by omega))]; exact a17
  · rw [hF _ _ (hl 0 12 (by omega)), hF _ _ (hl 67 10 (by omega))]; exact a18
/-- a set of places that an edit of the model changes -/
def OKE (S : Nat → Nat → Bool) : Prop := ∀ a j, (a < 67 ∨ (a = 67 ∧ (j = 8 ∨ j = 9 ∨ j = 10 ∨ j = 38)) ∨ a = 73 ∨ a = 85) → S a j = false
theorem OKE_SE : OKE SE := fun a j h => by unfold SE; simp only [Bool.or_eq_false_iff, Bool.and_eq_false_iff, beq_eq_false_iff_ne]; omega
theorem OKE_SAU : OKE SAU := fun a j h => by unfold SAU; simp only [Bool.or_eq_false_iff, Bool.and_eq_false_iff, beq_eq_false_iff_ne, decide_eq_false_iff_not]; omega
theorem OKE_SSU : OKE SSU := fun a j h => by unfold SSU; simp only [Bool.or_eq_false_iff, Bool.and_eq_false_iff, beq_eq_false_iff_ne, decide_eq_false_iff_not]; omega
theorem OKE_SU : OKE SU := fun a j h => by unfold SU; simp only [Bool.or_eq_false_iff, Bool.and_eq_false_iff, beq_eq_false_iff_ne]; omega
theorem OKE.c (h : OKE S) (hβ : isBr β) (hq : isPl q) : OKC S β q := fun a j z => h a j (by
  rcases hβ with rfl | rfl <;> rcases hq with rfl | rfl <;> omega)
/-- the model's edit behind the class's -/
theorem em_end (hM : MSt I1 σ k n b U o) (hC : CSt I1 R1 (nxS ed σ) (nxK ed k) n b (nxU ed σ U) o β q γ u nw) (hU : USt σ k U) (he : EdK σ ed) (hF : Fr S I1 I2) (hE : EdP I2 ed σ k U) (hs : OKE S) (hR : R1 = R2) : LSt I2 R2 := by
  obtain ⟨a1, a2, a3, a4, a5, a6, a7, a8, a9, a10, a11, a12, a13⟩ := hM
  obtain ⟨e1, e2, e3⟩ := hE
  obtain ⟨i1, i2⟩ := nx_ID a2 a3 he
  exact ⟨nxS ed σ, nxK ed k, n, b, nxU ed σ U, o, β, q, γ, u, nw, ⟨e1, i1, i2, e3, nxK_le a5, e2, by rw [hF _ _ (hs _ _ (by omega))]; exact a7, a8, by rw [hF.row (fun j => hs _ j (by omega))]; exact a9, a10, by rw [hF _ _ (hs _ _ (by omega))]; exact a11, by rw [hF.row (fun j => hs _ j (by omega))]; exact a12, a13⟩, hC.fr hF (hs.c hC.1 hC.2.1) (RKp.eq hR), USt_ed hU a2 a3 he⟩
/-- the class's whole new plan -/
theorem ad_end (hM : MSt I σ k n b U o) (hC : CSt I R σ k n b U o β q γ u nw) (hF : Fr (SAd u) I I1) (hE : AdC I1 R R1 β q u ed σ k U nw) : ∃ q' u', MSt I1 σ k n b U o ∧ CSt I1 R1 (nxS ed σ) (nxK ed k) n b (nxU ed σ U) o β q' γ u' (nxW ed nw) := by
  obtain ⟨a1, a2, a3, a4, a5, a6, a7, a8, a9, a10, a11, a12, a13, a14, a15, a16, a17, a18⟩ := hC
  have hl : ∀ a j, (67 ≤ a ∨ a = 0 ∨ (27 ≤ a ∧ a ≤ 30)) → SAd u a j = false := fun a j h => by
    unfold SAd; simp only [Bool.or_eq_false_iff, beq_eq_false_iff_ne, decide_eq_false_iff_not]
    rcases a4 with rfl | rfl <;> omega
  have hM1 := hM.cl hF (fun a j h => hl a j (Or.inl h))
  have h15 : TxAt I1 n b := a15.frI hF (fun a j h1 h2 => hl a j (by omega))
  have h16 : OuAt I1 o := a16.frI hF (fun a j h1 h2 => hl a j (by omega))
  have h17 : I1 0 11 = I1 67 9 := by rw [hF _ _ (hl 0 11 (by omega)), hF _ _ (hl 67 9 (by omega))]; exact a17
  have h18 : I1 0 12 = I1 67 10 := by rw [hF _ _ (hl 0 12 (by omega)), hF _ _ (hl 67 10 (by omega))]; exact a18
  have u0 : (0 : Nat) ≠ u := by rcases a4 with rfl | rfl <;> decide
  cases ed with
  | none =>
    obtain ⟨e1, e2, e3, e4⟩ := hE
    subst e4
    exact ⟨q, u, hM1, a1, a2, a3, a4, a5, a6, by rw [u2R_ne u0]; exact a7, by rw [u2R_ne u0]; exact a8, by rw [u2R_ne u0]; exact a9, by rw [u2R_ne u0]; exact a10, by rw [u2R_ne (fun e => a6 e.symm)]; exact a11, e1, e2, e3, h15, h16, h17, h18⟩
  | some τ =>
    obtain ⟨e1, e2, e3, e4⟩ := hE
    subst e4
    refine ⟨u, q, hM1, a1, a4, a3, a2, a5, fun e => a6 e.symm, ?_, ?_, ?_, ?_, ?_, e1, e2, e3, h15, h16, h17, h18⟩
    · simp only [u2R, if_neg u0, if_pos, if_neg (show (7 : Nat) ≠ 10 by decide), if_neg (show (7 : Nat) ≠ 8 by decide)]; exact a7
    · simp only [u2R, if_neg u0, if_pos, if_neg (show (8 : Nat) ≠ 10 by decide)]
    · simp only [u2R, if_neg u0, if_pos, if_neg (show (9 : Nat) ≠ 10 by decide), if_neg (show (9 : Nat) ≠ 8 by decide)]; exact a9
    · simp only [u2R, if_pos]
    · simp only [u2R, if_neg (show ¬ u = 0 from fun e => u0 e.symm), if_pos]
end ST9
/-! what each edit makes -/
section EDK
variable {σ : Row} {u v w : Int32}
theorem EdK.if {c : Prop} [Decidable c] {τ : Row} (h : c → Inv τ ∧ DR τ ∧ Sta σ τ) : EdK σ (if c then some τ else none) := fun τ' e => by
  by_cases hc : c
  · rw [if_pos hc] at e; cases e; exact h hc
  · rw [if_neg hc] at e; cases e
theorem seO_K {i : Nat} (h : Inv (upd σ i v) ∧ DR (upd σ i v) ∧ Sta σ (upd σ i v)) : EdK σ (seO σ i v) := fun τ e => by
  unfold seO at e
  by_cases hc : σ i = v
  · rw [if_pos hc] at e; cases e
  · rw [if_neg hc] at e; cases e; exact h
theorem inR_of {v : Int32} {a b : Nat} (h : inR v (a : Int) (b : Int) = true) (hb : b < 2 ^ 31) : ∃ d : Nat, a ≤ d ∧ d ≤ b ∧ v = nI d := by
  have h := of_decide_eq_true h
  refine ⟨v.toInt.toNat, by omega, by omega, Int32.toInt_inj.mp ?_⟩
  rw [nI_toInt (by omega)]
  omega
theorem setP_K {x y : Nat} {g : Nat} (hi : Inv σ) (hd : DR σ) (hx : x < nS σ) (hy : y < Yn σ) (hg : g < nG σ) : Inv (setP σ x y (nI g)) ∧ DR (setP σ x y (nI g)) ∧ Sta σ (setP σ x y (nI g)) := ⟨Inv_setP hi, DR_setP hi hd hx hy hg, Sta_Sm Sm_setP⟩
theorem setP_Kn {x y : Nat} (hi : Inv σ) (hd : DR σ) (hx : x < nS σ) : Inv (setP σ x y (-1)) ∧ DR (setP σ x y (-1)) ∧ Sta σ (setP σ x y (-1)) := ⟨Inv_setP hi, DR_un hi hd (by have := hi.2.2.2.2.2.2.1; omega), Sta_Sm Sm_setP⟩
theorem pn_g (hi : Inv σ) (hd : DR σ) {x y : Nat} (hx : x < nS σ) (hy : y < Yn σ) (h : pnt σ x y ≠ -1) : ∃ g, g < nG σ ∧ pnt σ x y = nI g := by
  obtain ⟨hY, hY1, hY12, hLn, hL4, hSn, hS12, hGn, hG5⟩ := id hi
  rcases hd.2.1 x y (by omega) (by omega) with e | ⟨g, h1, _, _, e⟩
  · exact absurd e h
  · exact ⟨g, h1, e⟩
theorem tN_lt {v : Int32} {n : Nat} (h : inB v n = true) (hn : n < 2 ^ 31) : tN v < n ∧ v = nI (tN v) := by
  obtain ⟨j, hj, rfl⟩ := inB_of h hn
  rw [tN_nI (by omega)]
  exact ⟨hj, rfl⟩
theorem cn3 (hi : Inv σ) : Yn σ < 2 ^ 31 ∧ nS σ < 2 ^ 31 ∧ nG σ < 2 ^ 31 ∧ nLn σ < 2 ^ 31 := by
  obtain ⟨hY, hY1, hY12, hLn, hL4, hSn, hS12, hGn, hG5⟩ := hi
  exact ⟨by omega, by omega, by omega, by omega⟩
theorem and3 {a b c : Bool} (h : (a && b && c) = true) : a = true ∧ b = true ∧ c = true := by
  rw [Bool.and_eq_true, Bool.and_eq_true] at h; exact ⟨h.1.1, h.1.2, h.2⟩
theorem and2 {a b : Bool} (h : (a && b) = true) : a = true ∧ b = true := by
  rw [Bool.and_eq_true] at h; exact h
theorem paO_K (hi : Inv σ) (hd : DR σ) : EdK σ (paO σ u v w) := EdK.if (fun h => by
  obtain ⟨n1, n2, n3, n4⟩ := cn3 hi
  obtain ⟨h1, h2, h3⟩ := and3 h.1
  obtain ⟨g1, g2⟩ := tN_lt h3 n3
  rw [g2]
  exact setP_K hi hd (tN_lt h2 n2).1 (tN_lt h1 n1).1 g1)
theorem unO_K (hi : Inv σ) (hd : DR σ) : EdK σ (unO σ v w) := EdK.if (fun h => setP_Kn hi hd (tN_lt (and2 h.1).1 (cn3 hi).2.1).1)
theorem mvO_K (hi : Inv σ) (hd : DR σ) : EdK σ (mvO σ u v w) := EdK.if (fun h => by
  obtain ⟨n1, n2, n3, n4⟩ := cn3 hi
  obtain ⟨h1, h2, h3⟩ := and3 h.1
  obtain ⟨g, hg, e⟩ := pn_g hi hd (tN_lt h1 n2).1 (tN_lt h2 n1).1 h.2.1
  obtain ⟨k1, k2, k3⟩ := setP_Kn (y := tN v) hi hd (tN_lt h1 n2).1
  unfold mvT
  rw [e]
  obtain ⟨m1, m2, m3⟩ := setP_K k1 k2 (x := tN u) (y := tN w) (g := g) (by rw [nS_setP]; exact (tN_lt h1 n2).1) (by rw [Yn_setP]; exact (tN_lt h3 n1).1) (by rw [nG_setP]; exact hg)
  exact ⟨m1, m2, k3.tr m3⟩)
theorem exO_K (hi : Inv σ) (hd : DR σ) : EdK σ (exO σ u v w) := EdK.if (fun h => by
  obtain ⟨n1, n2, n3, n4⟩ := cn3 hi
  obtain ⟨h1, h2, h3⟩ := and3 h.1
  obtain ⟨g, hg, e⟩ := pn_g hi hd (tN_lt h2 n2).1 (tN_lt h1 n1).1 h.2.1
  obtain ⟨g', hg', e'⟩ := pn_g hi hd (tN_lt h3 n2).1 (tN_lt h1 n1).1 h.2.2.1
  unfold exT
  rw [e, e']
  obtain ⟨k1, k2, k3⟩ := setP_K hi hd (x := tN v) (y := tN u) (g := g') (tN_lt h2 n2).1 (tN_lt h1 n1).1 hg'
  obtain ⟨m1, m2, m3⟩ := setP_K k1 k2 (x := tN w) (y := tN u) (g := g) (by rw [nS_setP]; exact (tN_lt h3 n2).1) (by rw [Yn_setP]; exact (tN_lt h1 n1).1) (by rw [nG_setP]; exact hg)
  exact ⟨m1, m2, k3.tr m3⟩)
theorem EdK.ifO {c : Prop} [Decidable c] {o : Option Row} (h : c → EdK σ o) : EdK σ (if c then o else none) := by
  by_cases hc : c
  · rw [if_pos hc]; exact h hc
  · rw [if_neg hc]; intro τ e; cases e
theorem swO_K (hi : Inv σ) (hd : DR σ) : EdK σ (swO σ v w) := EdK.ifO (fun h => by
  obtain ⟨n1, n2, n3, n4⟩ := cn3 hi
  obtain ⟨h1, h2⟩ := and2 h
  have hy := (tN_lt h1 n1).1
  have hY12 := hi.2.2.1
  obtain ⟨d, -, hd2, rfl⟩ := inR_of (a := 0) (b := 200) h2 (by decide)
  exact seO_K ⟨Inv_u (by omega) hi, DR_day hi hd (by omega) hd2, Sta_u (by omega) (fun x hx => by omega) (fun g hg => by omega)⟩)
theorem ssO_K (hi : Inv σ) (hd : DR σ) : EdK σ (ssO σ v) := EdK.ifO (fun h => by
  obtain ⟨d, h1, h4, rfl⟩ := inR_of (a := 1) (b := 4) h (by decide)
  exact seO_K ⟨Inv_u (by omega) hi, DR_shut hi hd h1 h4, Sta_u (by omega) (fun x hx => by omega) (fun g hg => by omega)⟩)
theorem srO_K (hi : Inv σ) (hd : DR σ) : EdK σ (srO σ v w) := EdK.ifO (fun h => by
  obtain ⟨n1, n2, n3, n4⟩ := cn3 hi
  obtain ⟨h1, h2⟩ := and2 h
  have hx := (tN_lt h1 n2).1
  have hS12 := hi.2.2.2.2.2.2.1
  have hG5 := hi.2.2.2.2.2.2.2.2
  obtain ⟨d, d1, d2, rfl⟩ := inR_of (a := 1) (b := 50) h2 (by decide)
  exact seO_K ⟨Inv_u (by omega) hi, DR_u hi hd (by omega) (by omega) (fun e => absurd e (by omega)) (fun g hg e => absurd e (by omega)) (fun x hx e => ⟨d, d1, d2, rfl⟩) (fun z hz e => absurd e (by omega)) (fun z hz e => absurd e (by omega)) (fun x hx => ⟨by omega, by omega, by omega, by omega⟩) (by omega), Sta_u (by omega) (fun x hx => by omega) (fun g hg => by omega)⟩)
theorem spO_K (hi : Inv σ) (hd : DR σ) : EdK σ (spO σ v w) := EdK.ifO (fun h => by
  obtain ⟨n1, n2, n3, n4⟩ := cn3 hi
  obtain ⟨h1, h2⟩ := and2 h
  have hx := (tN_lt h1 n3).1
  have hS12 := hi.2.2.2.2.2.2.1
  have hG5 := hi.2.2.2.2.2.2.2.2
  obtain ⟨d, d1, d2, rfl⟩ := inR_of (a := 1) (b := 50) h2 (by decide)
  exact seO_K ⟨Inv_u (by omega) hi, DR_u hi hd (by omega) (by omega) (fun e => absurd e (by omega)) (fun g hg e => ⟨d, d1, d2, rfl⟩) (fun x hx e => absurd e (by omega)) (fun z hz e => absurd e (by omega)) (fun z hz e => absurd e (by omega)) (fun x hx => ⟨by omega, by omega, by omega, by omega⟩) (by omega), Sta_u (by omega) (fun x hx => by omega) (fun g hg => by omega)⟩)
theorem xor_bit : ∀ q : Fin 16, ∀ l : Fin 4, ∃ r : Fin 16, nI q.1 ^^^ (nI 1 <<< (nI l.1 &&& 31)) = nI r.1 := by decide +kernel
theorem scO_K {c : Bool} (hi : Inv σ) (hd : DR σ) : EdK σ (scO σ v w c) := EdK.if (fun h => by
  obtain ⟨n1, n2, n3, n4⟩ := cn3 hi
  obtain ⟨h1, h2⟩ := and2 h.1
  have hx := (tN_lt h1 n4).1
  have hy := (tN_lt h2 n1).1
  have hY12 := hi.2.2.1
  have hL4 := hi.2.2.2.2.1
  have hS12 := hi.2.2.2.2.2.2.1
  have hG5 := hi.2.2.2.2.2.2.2.2
  obtain ⟨q9, hq9, e9⟩ := hd.2.2.2.2.2.2.2 (tN w) (by omega)
  obtain ⟨r, hr⟩ := xor_bit ⟨q9, hq9⟩ ⟨tN v, by omega⟩
  have e : scN σ (tN v) (tN w) = nI r.1 := by unfold scN; rw [e9]; exact hr
  rw [e]
  exact ⟨Inv_u (by omega) hi, DR_u hi hd (by omega) (by omega) (fun e => absurd e (by omega)) (fun g hg e => absurd e (by omega)) (fun x hx e => absurd e (by omega)) (fun z hz e => absurd e (by omega)) (fun z hz e => ⟨r.1, r.2, rfl⟩) (fun x hx => ⟨by omega, by omega, by omega, by omega⟩) (by omega), Sta_u (by omega) (fun x hx => by omega) (fun g hg => by omega)⟩)
theorem auO_K (hi : Inv σ) (hd : DR σ) : EdK σ (auO σ) := fun τ e => by
  unfold auO at e
  by_cases hc : eqPl (auto σ ALLG) σ = true
  · rw [if_pos hc] at e; cases e
  · rw [if_neg hc] at e; cases e; exact ⟨auto_Inv hi, auto_DR hi hd, Sta_Sm auto_Sm⟩
theorem apO_K (hi : Inv σ) (hd : DR σ) : EdK σ (apO σ) := fun τ e => by
  unfold apO at e
  by_cases h1 : (saR σ).1 = 1
  · obtain ⟨k1, k2, -⟩ := sa_QS hi h1
    rw [if_pos h1] at e
    by_cases hc : eqPl (saR σ).2.1 σ = true
    · rw [if_pos hc] at e; cases e
    · rw [if_neg hc] at e; cases e
      exact ⟨Sm_Inv k1 hi, Sm_DR k1 hi hd k2, Sta_Sm k1⟩
  · rw [if_neg h1] at e; cases e
-- an edit that is refused makes nothing
theorem paO_n (h : (inB u (Yn σ) && inB v (nS σ) && inB w (nG σ)) = false) : paO σ u v w = none := if_neg (nAf h)
theorem unO_n (h : (inB w (nS σ) && inB v (Yn σ)) = false) : unO σ v w = none := if_neg (nAf h)
theorem mvO_n (h : (inB u (nS σ) && inB v (Yn σ) && inB w (Yn σ)) = false) : mvO σ u v w = none := if_neg (nAf h)
theorem exO_n (h : (inB u (Yn σ) && inB v (nS σ) && inB w (nS σ)) = false) : exO σ u v w = none := if_neg (nAf h)
theorem swO_n (h : (inB v (Yn σ) && inR w 0 200) = false) : swO σ v w = none := if_neg (fun z => absurd (h.symm.trans z) (by decide))
theorem ssO_n (h : inR v 1 4 = false) : ssO σ v = none := if_neg (fun z => absurd (h.symm.trans z) (by decide))
theorem srO_n (h : (inB v (nS σ) && inR w 1 50) = false) : srO σ v w = none := if_neg (fun z => absurd (h.symm.trans z) (by decide))
theorem spO_n (h : (inB v (nG σ) && inR w 1 50) = false) : spO σ v w = none := if_neg (fun z => absurd (h.symm.trans z) (by decide))
theorem scO_n {c : Bool} (h : (inB v (nLn σ) && inB w (Yn σ)) = false) : scO σ v w c = none := if_neg (nAf h)
end EDK
/-! the text that is fed; what is written -/
theorem byV_ok (v : Int32) (s : Nat) : ∃ z, z ≤ 255 ∧ byV v s = nI z := by
  unfold byV
  generalize (v.toUInt32 >>> ((nI s).toUInt32 &&& Int32.toUInt32 31)).toInt32 = x
  refine ⟨(x.toBitVec &&& 255#32).toNat, ?_, ?_⟩
  · rw [BitVec.toNat_and]
    exact Nat.and_le_right
  · apply Int32.toBitVec_inj.mp
    rw [Int32.toBitVec_and]
    show x.toBitVec &&& 255#32 = BitVec.ofNat 32 _
    rw [BitVec.ofNat_toNat, BitVec.setWidth_eq]
theorem TB_ap4 {b : Nat → Int32} {n : Nat} {v : Int32} (h : TB b n) : TB (ap4 b n v) (n + 4) := fun i hi => by
  by_cases h1 : i < n
  · rw [ap4_lt h1]; exact h i h1
  · rcases (show i = n ∨ i = n + 1 ∨ i = n + 1 + 1 ∨ i = n + 1 + 1 + 1 by omega) with rfl | rfl | rfl | rfl
    · rw [ap4_0]; exact byV_ok _ _
    · rw [ap4_1]; exact byV_ok _ _
    · rw [ap4_2]; exact byV_ok _ _
    · rw [ap4_3]; exact byV_ok _ _
theorem TB_fdT {b : Nat → Int32} {n : Nat} {v1 v2 v3 v4 v5 : Int32} (h : TB b n) : TB (fdT b n v1 v2 v3 v4 v5) (n + 20) := TB_ap4 (n := n + 4 + 4 + 4 + 4) (TB_ap4 (n := n + 4 + 4 + 4) (TB_ap4 (n := n + 4 + 4) (TB_ap4 (n := n + 4) (TB_ap4 h))))
theorem wrO_le {σ : Row} {f : Nat → Int32} (hi : Inv σ) (hd : DR σ) : (wrO σ f).2 ≤ 1152 := by
  have h := oY_le (f, 0) hd hi (Yn σ) (Nat.le_refl _)
  have hY := hi.2.2.1
  unfold wrO
  have h2 : (f, 0).2 = 0 := rfl
  rw [h2] at h
  omega
