/-! the grammar -/
abbrev Nm : Type := Nat → Nat → Nat
abbrev PRes : Type := (Int32 × Nat) ⊕ (Row × Nm × Nat)
def cN (σ : Row) (t : Nat) : Nat := (σ (3 + t)).toNatClampNeg
theorem cN_0 {σ : Row} : cN σ 0 = nLn σ := rfl
theorem cN_1 {σ : Row} : cN σ 1 = nS σ := rfl
theorem cN_2 {σ : Row} : cN σ 2 = nG σ := rfl
theorem cN_I {σ : Row} (hi : Inv σ) {t : Nat} (ht : t < 3) : σ (3 + t) = nI (cN σ t) ∧ cN σ t ≤ 12 := by
  obtain ⟨hY, hY1, hY12, hLn, hL4, hSn, hS12, hGn, hG5⟩ := hi
  rcases (show t = 0 ∨ t = 1 ∨ t = 2 by omega) with rfl | rfl | rfl
  · exact ⟨hLn, by rw [cN_0]; omega⟩
  · exact ⟨hSn, by rw [cN_1]; omega⟩
  · exact ⟨hGn, by rw [cN_2]; omega⟩
section GR
variable (b : Nat → Int32) (n : Nat)
def nuOk (p lo hi : Nat) : Bool := decide (tK b n p = 3 ∧ lo ≤ tV b n p ∧ tV b n p ≤ hi)
def e2 (p : Nat) : Int32 := if tK b n p = 1 then nI 1 else nI 2
def nuE (p : Nat) : Int32 := if tK b n p = 3 then nI 3 else e2 b n p
def isNm (p : Nat) : Bool := decide (tK b n p = 2 ∧ kwI b n p = -1)
def fk (σ : Row) (nm : Nm) (t s : Nat) : Nat := fstN (fun k => decide (w27 b n (nm t k) = w27 b n s)) (cN σ t)
def fkI (σ : Row) (nm : Nm) (t s : Nat) : Int32 := if fk b n σ nm t s < cN σ t then nI (fk b n σ nm t s) else -1
def dcl (σ : Row) (nm : Nm) (s : Nat) : Bool := decide (fk b n σ nm 0 s < cN σ 0 ∨ fk b n σ nm 1 s < cN σ 1 ∨ fk b n σ nm 2 s < cN σ 2)
def nnOk (σ : Row) (nm : Nm) (p : Nat) : Bool := isNm b n p && !(dcl b n σ nm (tS b n p))
def onOk (σ : Row) (nm : Nm) (t p : Nat) : Bool := isNm b n p && decide (fk b n σ nm t (tS b n p) < cN σ t)
def nnE (p : Nat) : Int32 := if isNm b n p = true then nI 4 else e2 b n p
def unm (nm : Nm) (t k s : Nat) : Nm := fun a j => if a = t ∧ j = k then s else nm a j
def nx (p : Nat) : Nat := tE b n p
/-- the i-th token from p on -/
def tt (p : Nat) : Nat → Nat
  | 0 => p
  | i + 1 => tE b n (tt p i)
def stBr (f : Bool) (σ : Row) (nm : Nm) (p : Nat) : PRes :=
  if f = false then .inl (nI 5, tS b n p)
  else if nuOk b n (tt b n p 1) 1 12 = false then .inl (nuE b n (tt b n p 1), tS b n (tt b n p 1))
  else if nuOk b n (tt b n p 2) 1 4 = false then .inl (nuE b n (tt b n p 2), tS b n (tt b n p 2))
  else if nuOk b n (tt b n p 3) 0 10 = false then .inl (nuE b n (tt b n p 3), tS b n (tt b n p 3))
  else .inr (upd (upd (upd σ 0 (nI (tV b n (tt b n p 1)))) 1 (nI (tV b n (tt b n p 2)))) 2 (nI (tV b n (tt b n p 3))), nm, tt b n p 4)
def stLa (σ : Row) (nm : Nm) (p : Nat) : PRes :=
  if nLn σ = 4 then .inl (nI 5, tS b n p)
  else if nnOk b n σ nm (tt b n p 1) = false then .inl (nnE b n (tt b n p 1), tS b n (tt b n p 1))
  else if nuOk b n (tt b n p 2) 0 999 = false then .inl (nuE b n (tt b n p 2), tS b n (tt b n p 2))
  else .inr (adL σ (nI (tV b n (tt b n p 2))), unm nm 0 (nLn σ) (tS b n (tt b n p 1)), tt b n p 3)
/-- a span's lane: whether it can be read, and it -/
def lnOk (σ : Row) (nm : Nm) (p : Nat) : Bool := decide (kwI b n p = nI 7) || onOk b n σ nm 0 p
def lnV (σ : Row) (nm : Nm) (p : Nat) : Int32 := if kwI b n p = nI 7 then -1 else nI (fk b n σ nm 0 (tS b n p))
def stSp (σ : Row) (nm : Nm) (p : Nat) : PRes :=
  if nS σ = 12 then .inl (nI 5, tS b n p)
  else if nnOk b n σ nm (tt b n p 1) = false then .inl (nnE b n (tt b n p 1), tS b n (tt b n p 1))
  else if lnOk b n σ nm (tt b n p 2) = false then .inl (nnE b n (tt b n p 2), tS b n (tt b n p 2))
  else if nuOk b n (tt b n p 3) 1 99 = false then .inl (nuE b n (tt b n p 3), tS b n (tt b n p 3))
  else if nuOk b n (tt b n p 4) 0 100 = false then .inl (nuE b n (tt b n p 4), tS b n (tt b n p 4))
  else if nuOk b n (tt b n p 5) 1 50 = false then .inl (nuE b n (tt b n p 5), tS b n (tt b n p 5))
  else if nuOk b n (tt b n p 6) 1 100 = false then .inl (nuE b n (tt b n p 6), tS b n (tt b n p 6))
  else .inr (adS σ (lnV b n σ nm (tt b n p 2)) (nI (tV b n (tt b n p 3))) (nI (tV b n (tt b n p 4))) (nI (tV b n (tt b n p 5))) (nI (tV b n (tt b n p 6))), unm nm 1 (nS σ) (tS b n (tt b n p 1)), tt b n p 7)
def stGa (σ : Row) (nm : Nm) (p : Nat) : PRes :=
  if nG σ = 5 then .inl (nI 5, tS b n p)
  else if nnOk b n σ nm (tt b n p 1) = false then .inl (nnE b n (tt b n p 1), tS b n (tt b n p 1))
  else if nuOk b n (tt b n p 2) 1 50 = false then .inl (nuE b n (tt b n p 2), tS b n (tt b n p 2))
  else if nuOk b n (tt b n p 3) 0 99 = false then .inl (nuE b n (tt b n p 3), tS b n (tt b n p 3))
  else .inr (adG σ (nI (tV b n (tt b n p 2))) (nI (tV b n (tt b n p 3))), unm nm 2 (nG σ) (tS b n (tt b n p 1)), tt b n p 4)
def stWe (σ : Row) (nm : Nm) (p : Nat) : PRes :=
  if nuOk b n (tt b n p 1) 0 (Yn σ - 1) = false then .inl (nuE b n (tt b n p 1), tS b n (tt b n p 1))
  else if nuOk b n (tt b n p 2) 0 200 = false then .inl (nuE b n (tt b n p 2), tS b n (tt b n p 2))
  else .inr (upd σ (80 + tV b n (tt b n p 1)) (nI (tV b n (tt b n p 2))), nm, tt b n p 3)
def stCl (σ : Row) (nm : Nm) (p : Nat) : PRes :=
  if onOk b n σ nm 0 (tt b n p 1) = false then .inl (nnE b n (tt b n p 1), tS b n (tt b n p 1))
  else if nuOk b n (tt b n p 2) 0 (Yn σ - 1) = false then .inl (nuE b n (tt b n p 2), tS b n (tt b n p 2))
  else .inr (upd σ (92 + tV b n (tt b n p 2)) (σ (92 + tV b n (tt b n p 2)) ||| nI 1 <<< (nI (fk b n σ nm 0 (tS b n (tt b n p 1))) &&& 31)), nm, tt b n p 3)
def paX (σ : Row) (nm : Nm) (p : Nat) : Nat := fk b n σ nm 1 (tS b n (tt b n p 2))
def paY (p : Nat) : Nat := tV b n (tt b n p 1)
def stPa (σ : Row) (nm : Nm) (p : Nat) : PRes :=
  if nuOk b n (tt b n p 1) 0 (Yn σ - 1) = false then .inl (nuE b n (tt b n p 1), tS b n (tt b n p 1))
  else if onOk b n σ nm 1 (tt b n p 2) = false then .inl (nnE b n (tt b n p 2), tS b n (tt b n p 2))
  else if 0 < σ (104 + 12 * paY b n p + paX b n σ nm p) then .inl (nI 6, tS b n (tt b n p 2))
  else if onOk b n σ nm 2 (tt b n p 3) = false then .inl (nnE b n (tt b n p 3), tS b n (tt b n p 3))
  else .inr (setP σ (paX b n σ nm p) (paY b n p) (nI (fk b n σ nm 2 (tS b n (tt b n p 3)))), nm, tt b n p 4)
def stBo (f : Bool) (σ : Row) (nm : Nm) (p : Nat) : PRes :=
  if kwI b n p = nI 0 then stBr b n f σ nm p
  else if kwI b n p = nI 1 then stLa b n σ nm p
  else if kwI b n p = nI 2 then stSp b n σ nm p
  else if kwI b n p = nI 3 then stGa b n σ nm p
  else if kwI b n p = nI 4 then stWe b n σ nm p
  else if kwI b n p = nI 5 then stCl b n σ nm p
  else if kwI b n p = nI 6 then stPa b n σ nm p
  else .inl (e2 b n p, tS b n p)
def seK (r : PRes) : PRes := match r with
  | .inl e => .inl e
  | .inr (σ, nm, q) => if tK b n q = 4 then .inr (σ, nm, tE b n q) else .inl (e2 b n q, tS b n q)
def stm (f : Bool) (σ : Row) (nm : Nm) (p : Nat) : PRes := seK b n (stBo b n f σ nm p)
def okP (r : PRes) : Bool := r.isRight
end GR
section GL
variable {b : Nat → Int32} {n p : Nat}
theorem kwI_2 (h : kwI b n p ≠ -1) : tK b n p = 2 := by
  unfold kwI at h
  by_cases e : tK b n p = 2
  · exact e
  · rw [if_neg e] at h; exact absurd rfl h
theorem kw_cases (b : Nat → Int32) (n p : Nat) : kwI b n p = -1 ∨ ∃ j, j < 8 ∧ kwI b n p = nI j := by
  unfold kwI kwS
  split
  · split
    · rename_i h; exact Or.inr ⟨_, h, rfl⟩
    · exact Or.inl rfl
  · exact Or.inl rfl
theorem btN {a v c : Nat} (ha : a < 2 ^ 31) (hv : v < 2 ^ 31) (hc : c < 2 ^ 31) : decide ((nI a).toInt64 ≤ (nI v).toInt64 ∧ (nI v).toInt64 ≤ (nI c).toInt64) = decide (a ≤ v ∧ v ≤ c) := by
  apply decide_eq_decide.mpr
  rw [Int64.le_iff_toInt_le, Int64.le_iff_toInt_le, Int32.toInt_toInt64, Int32.toInt_toInt64, Int32.toInt_toInt64, nI_toInt ha, nI_toInt hv, nI_toInt hc]
  omega
theorem tt_le (hp : p ≤ n) : ∀ i, tt b n p i ≤ n
  | 0 => hp
  | i + 1 => tE_le (tt_le hp i)
end GL
def SNm (a j : Nat) : Bool := a == 67 && (decide (12 ≤ j ∧ j ≤ 18) || j == 21)
def SNp (a j : Nat) : Bool := (a == 67 && (decide (12 ≤ j ∧ j ≤ 18) || j == 21 || j == 22)) || a == 69
def SLp (a j : Nat) : Bool := (a == 67 && j == 19) || a == 74
theorem TokM.pu {b : Nat → Int32} {n p k j : Nat} {v : Int32} {I : CI} {L : CL} (h : TokM b n I L p) (hk : k ≠ 67 ∨ (j < 12 ∨ 16 < j)) : TokM b n (u2 I k j v) L p := by
  obtain ⟨a, c, d, e, f, g⟩ := h
  exact ⟨by rw [u2_off (by omega)]; exact a, by rw [u2_off (by omega)]; exact c, by rw [u2_off (by omega)]; exact d, by rw [u2_off (by omega)]; exact e, fun w => by rw [u2_off (by omega)]; exact f w, g⟩
/-- no error told yet -/
def KZ (I : CI) : Prop := I 67 17 = nI 0 ∧ I 67 18 = -1000004
theorem KZ.pu {I : CI} {k j : Nat} {v : Int32} (h : KZ I) (hk : k ≠ 67 ∨ (j ≠ 17 ∧ j ≠ 18)) : KZ (u2 I k j v) := ⟨by rw [u2_off (by omega)]; exact h.1, by rw [u2_off (by omega)]; exact h.2⟩
theorem KZ.fr {I J : CI} {S : Nat → Nat → Bool} (h : KZ I) (hF : Fr S I J) (a : S 67 17 = false) (c9 : S 67 18 = false) : KZ J := ⟨(hF _ _ a).trans h.1, (hF _ _ c9).trans h.2⟩
/-- the model's names -/
def NmM (b : Nat → Int32) (n : Nat) (L : CL) (σ : Row) (nm : Nm) : Prop := ∀ t k, t < 3 → k < cN σ t → VP b n (nm t k) ∧ L 74 (12 * t + k) = Int64.ofNat (w27 b n (nm t k))
theorem NmM.fl {b : Nat → Int32} {n : Nat} {L M : CL} {σ : Row} {nm : Nm} {S : Nat → Nat → Bool} (h : NmM b n L σ nm) (hF : FL S L M) (hs : ∀ j, S 74 j = false) : NmM b n M σ nm := fun t k ht hk => ⟨(h t k ht hk).1, by rw [hF _ _ (hs _)]; exact (h t k ht hk).2⟩
theorem fkI_hit {b : Nat → Int32} {n : Nat} {σ : Row} {nm : Nm} {t s k : Nat} (hk : k < cN σ t) (h : w27 b n (nm t k) = w27 b n s) (hb : ∀ z, z < k → (fun k => decide (w27 b n (nm t k) = w27 b n s)) z = false) : fkI b n σ nm t s = nI k := by
  unfold fkI fk
  rw [fstN_hit hk (decide_eq_true h) hb, if_pos hk]
theorem fkI_none {b : Nat → Int32} {n : Nat} {σ : Row} {nm : Nm} {t s : Nat} (hb : ∀ z, z < cN σ t → (fun k => decide (w27 b n (nm t k) = w27 b n s)) z = false) : fkI b n σ nm t s = -1 := by
  unfold fkI fk
  rw [fstN_none hb, if_neg (Nat.lt_irrefl _)]
theorem fkI_m1 {b : Nat → Int32} {n : Nat} {σ : Row} {nm : Nm} {t s : Nat} (hc : cN σ t ≤ 12) : (fkI b n σ nm t s = -1) ↔ ¬ fk b n σ nm t s < cN σ t := by
  unfold fkI
  by_cases h : fk b n σ nm t s < cN σ t
  · rw [if_pos h]
    exact ⟨fun z => absurd z (nI_m1 (by omega)), fun z => absurd h z⟩
  · rw [if_neg h]
    exact ⟨fun _ => h, fun _ => rfl⟩
theorem fkI_N {b : Nat → Int32} {n : Nat} {σ : Row} {nm : Nm} {t s : Nat} (h : fk b n σ nm t s < cN σ t) : fkI b n σ nm t s = nI (fk b n σ nm t s) := if_pos h
theorem tK_le {b : Nat → Int32} {n p : Nat} : tK b n p ≤ 4 := by
  unfold tK
  split
  · split
    · split <;> omega
    · split
      · split <;> omega
      · split <;> omega
  · omega
