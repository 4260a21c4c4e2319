abbrev UNCH : Int32 := -1000003
abbrev REFU : Int32 := -1000007
abbrev GIVU : Int32 := -1000008
abbrev FULLI : Int32 := -1000005
abbrev BADT : Int32 := -1000006
def SE (a j : Nat) : Bool := a == 75 || a == 76 || a == 77 || a == 68 || a == 72 || (a == 67 && j == 5) || (a == 67 && j == 6)
/-- behind an edit: o the new row where it succeeded -/
def nxS (o : Option Row) (σ : Row) : Row := match o with
  | none => σ
  | some τ => τ
def nxK (o : Option Row) (k : Nat) : Nat := match o with
  | none => k
  | some _ => min 16 (k + 1)
def nxU (o : Option Row) (σ : Row) (U : Nat → Row) : Nat → Row := match o with
  | none => U
  | some _ => pushU σ U
def EdP (I : CI) (o : Option Row) (σ : Row) (k : Nat) (U : Nat → Row) : Prop := I 68 = nxS o σ ∧ HisM I (nxK o k) (nxU o σ U) ∧ I 67 5 = nI (nxK o k)
theorem EdP.no {I : CI} {o : Option Row} {σ : Row} {k : Nat} {U : Nat → Row} (h : o = none) (h1 : I 68 = σ) (h2 : HisM I k U) (h3 : I 67 5 = nI k) : EdP I o σ k U := by
  subst h
  exact ⟨h1, h2, h3⟩
theorem EdP.ok {I : CI} {o : Option Row} {σ τ : Row} {k : Nat} {U : Nat → Row} (h : o = some τ) (h1 : I 68 = τ) (h2 : HisM I (min 16 (k + 1)) (pushU σ U)) (h3 : I 67 5 = nI (min 16 (k + 1))) : EdP I o σ k U := by
  subst h
  exact ⟨h1, h2, h3⟩
theorem EdP.cast {I : CI} {o o' : Option Row} {σ : Row} {k : Nat} {U : Nat → Row} (h : EdP I o σ k U) (e : o = o') : EdP I o' σ k U := e ▸ h
def paO (σ : Row) (u v w : Int32) : Option Row := if (inB u (Yn σ) && inB v (nS σ) && inB w (nG σ)) = true ∧ rfs σ (tN u) (tN v) (tN w) = 0 then some (setP σ (tN v) (tN u) w) else none
def paR (σ : Row) (u v w : Int32) : Int32 := if rfs σ (tN u) (tN v) (tN w) = 0 then cntP (setP σ (tN v) (tN u) w) else REFU
def unO (σ : Row) (v w : Int32) : Option Row := if (inB w (nS σ) && inB v (Yn σ)) = true ∧ pnt σ (tN w) (tN v) ≠ -1 then some (setP σ (tN w) (tN v) (-1)) else none
def unR (σ : Row) (v w : Int32) : Int32 := if pnt σ (tN w) (tN v) = -1 then NOTF else pnt σ (tN w) (tN v)
def mvT (σ : Row) (u v w : Int32) : Row := setP (setP σ (tN u) (tN v) (-1)) (tN u) (tN w) (pnt σ (tN u) (tN v))
def mvF (σ : Row) (u v w : Int32) : Int32 := rfs (setP σ (tN u) (tN v) (-1)) (tN w) (tN u) (tN (pnt σ (tN u) (tN v)))
def mvO (σ : Row) (u v w : Int32) : Option Row := if (inB u (nS σ) && inB v (Yn σ) && inB w (Yn σ)) = true ∧ pnt σ (tN u) (tN v) ≠ -1 ∧ v ≠ w ∧ mvF σ u v w = 0 then some (mvT σ u v w) else none
def mvR (σ : Row) (u v w : Int32) : Int32 := if pnt σ (tN u) (tN v) = -1 then NOTF else if v = w then UNCH else if mvF σ u v w = 0 then cntP (mvT σ u v w) else REFU
def exT (σ : Row) (u v w : Int32) : Row := setP (setP σ (tN v) (tN u) (pnt σ (tN w) (tN u))) (tN w) (tN u) (pnt σ (tN v) (tN u))
def exO (σ : Row) (u v w : Int32) : Option Row := if (inB u (Yn σ) && inB v (nS σ) && inB w (nS σ)) = true ∧ pnt σ (tN v) (tN u) ≠ -1 ∧ pnt σ (tN w) (tN u) ≠ -1 ∧ pnt σ (tN v) (tN u) ≠ pnt σ (tN w) (tN u) then some (exT σ u v w) else none
def exR (σ : Row) (u v w : Int32) : Int32 := if pnt σ (tN v) (tN u) = -1 ∨ pnt σ (tN w) (tN u) = -1 then NOTF else if pnt σ (tN v) (tN u) = pnt σ (tN w) (tN u) then UNCH else cov (exT σ u v w)
def seO (σ : Row) (i : Nat) (v : Int32) : Option Row := if σ i = v then none else some (upd σ i v)
def seR (σ : Row) (i : Nat) (v : Int32) : Int32 := if σ i = v then UNCH else σ i
theorem nAf {b : Bool} {P : Prop} (h : b = false) : ¬ (b = true ∧ P) := fun z => by rw [h] at z; exact absurd z.1 Bool.false_ne_true
def inR (v : Int32) (a b : Int) : Bool := decide (a ≤ v.toInt ∧ v.toInt ≤ b)
theorem btr {v : Int32} {a b : Int64} {A B : Int} (ha : a.toInt = A) (hb : b.toInt = B) : decide (a ≤ v.toInt64 ∧ v.toInt64 ≤ b) = inR v A B := by
  unfold inR
  apply decide_eq_decide.mpr
  rw [Int64.le_iff_toInt_le, Int64.le_iff_toInt_le, Int32.toInt_toInt64, ha, hb]
def thr2 (b c : Bool) : Int32 := if b = true then (if c = true then nI 0 else nI 2) else nI 1
def swO (σ : Row) (v w : Int32) : Option Row := if (inB v (Yn σ) && inR w 0 200) = true then seO σ (80 + tN v) w else none
def ssO (σ : Row) (v : Int32) : Option Row := if inR v 1 4 = true then seO σ 1 v else none
def srO (σ : Row) (v w : Int32) : Option Row := if (inB v (nS σ) && inR w 1 50) = true then seO σ (10 + 5 * tN v + 3) w else none
def srR (σ : Row) (v w : Int32) : Int32 := if σ (10 + 5 * tN v + 3) = w then UNCH else cntP (upd σ (10 + 5 * tN v + 3) w)
def spO (σ : Row) (v w : Int32) : Option Row := if (inB v (nG σ) && inR w 1 50) = true then seO σ (70 + 2 * tN v + 0) w else none
def spR (σ : Row) (v w : Int32) : Int32 := if σ (70 + 2 * tN v + 0) = w then UNCH else cov (upd σ (70 + 2 * tN v + 0) w)
def scB (σ : Row) (l y : Nat) : Bool := decide ((σ (92 + y) >>> (nI l &&& 31)) &&& nI 1 = nI 1)
def scN (σ : Row) (l y : Nat) : Int32 := σ (92 + y) ^^^ (nI 1 <<< (nI l &&& 31))
def scO (σ : Row) (v w : Int32) (b : Bool) : Option Row := if (inB v (nLn σ) && inB w (Yn σ)) = true ∧ scB σ (tN v) (tN w) ≠ b then some (upd σ (92 + tN w) (scN σ (tN v) (tN w))) else none
def scR (σ : Row) (v w : Int32) (b : Bool) : Int32 := if scB σ (tN v) (tN w) = b then UNCH else scN σ (tN v) (tN w)
theorem nS_setP {σ : Row} {x y : Nat} {g : Int32} : nS (setP σ x y g) = nS σ := nS_upd (by omega)
theorem Yn_setP {σ : Row} {x y : Nat} {g : Int32} : Yn (setP σ x y g) = Yn σ := Yn_upd (by omega)
theorem nG_setP {σ : Row} {x y : Nat} {g : Int32} : nG (setP σ x y g) = nG σ := nG_upd (by omega)
theorem mvF_n {σ : Row} {ju jv jw g0 : Nat} (hg : pnt σ ju jv = nI g0) (h1 : ju < 2 ^ 31) (h2 : jv < 2 ^ 31) (h3 : jw < 2 ^ 31) (h4 : g0 < 2 ^ 31) : mvF σ (nI ju) (nI jv) (nI jw) = rfs (setP σ ju jv (-1)) jw ju g0 := by
  unfold mvF
  rw [tN_nI h1, tN_nI h2, tN_nI h3, hg, tN_nI h4]
theorem mvT_n {σ : Row} {ju jv jw g0 : Nat} (hg : pnt σ ju jv = nI g0) (h1 : ju < 2 ^ 31) (h2 : jv < 2 ^ 31) (h3 : jw < 2 ^ 31) : mvT σ (nI ju) (nI jv) (nI jw) = setP (setP σ ju jv (-1)) ju jw (nI g0) := by
  unfold mvT
  rw [tN_nI h1, tN_nI h2, tN_nI h3, hg]
def SF (a j : Nat) : Bool := a == 68 || a == 72 || (a == 67 && j == 5)
theorem seO_n {σ : Row} {i : Nat} {v : Int32} (h : ¬ σ i = v) : seO σ i v = some (upd σ i v) := if_neg h
theorem seR_ne {σ : Row} {i : Nat} {v : Int32} (h : ¬ seR σ i v = -1000003) : ¬ σ i = v := fun z => h (by unfold seR; rw [if_pos z])
theorem seR_eq {σ : Row} {i a : Nat} {v : Int32} (h : seR σ i v = -1000003) (ha : σ i = nI a) (h9 : a < 2 ^ 31) : σ i = v := by
  unfold seR at h
  by_cases e : σ i = v
  · exact e
  · rw [if_neg e, ha] at h
    have h1 := nI_toInt h9
    rw [h] at h1
    have h2 : (-1000003 : Int32).toInt = -1000003 := by decide
    omega
theorem bI_inj {a b : Bool} (h : bI a = bI b) : a = b := by cases a <;> cases b <;> first | rfl | exact absurd h (by decide)
