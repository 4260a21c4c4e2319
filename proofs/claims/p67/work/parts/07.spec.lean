/-! the mathematical value of both sides: the model's row of 248 numbers -/
abbrev Row : Type := Nat → Int32
def Yn (σ : Row) : Nat := (σ 0).toNatClampNeg
def nLn (σ : Row) : Nat := (σ 3).toNatClampNeg
def nS (σ : Row) : Nat := (σ 4).toNatClampNeg
def nG (σ : Row) : Nat := (σ 5).toNatClampNeg
/-- the counts are what they may be -/
def Inv (σ : Row) : Prop := σ 0 = nI (Yn σ) ∧ 1 ≤ Yn σ ∧ Yn σ ≤ 12 ∧ σ 3 = nI (nLn σ) ∧ nLn σ ≤ 4 ∧ σ 4 = nI (nS σ) ∧ nS σ ≤ 12 ∧ σ 5 = nI (nG σ) ∧ nG σ ≤ 5
/-- what may have changed between two stores: the places of S alone -/
def Fr (S : Nat → Nat → Bool) (I J : CI) : Prop := ∀ a j, S a j = false → J a j = I a j
theorem Fr.rf {S : Nat → Nat → Bool} {I : CI} : Fr S I I := fun _ _ _ => rfl
theorem Fr.put {S : Nat → Nat → Bool} {I J : CI} (h : Fr S I J) {k j : Nat} {v : Int32} (hs : S k j = true) : Fr S I (u2 J k j v) := by
  intro a b hab
  rw [← h a b hab]
  unfold u2 upd
  by_cases ha : a = k
  · subst ha
    rw [if_pos rfl]
    by_cases hb : b = j
    · subst hb
      rw [hs] at hab
      cases hab
    · rw [if_neg hb]
  · rw [if_neg ha]
theorem Fr.tr {S T : Nat → Nat → Bool} {I J K : CI} (h : Fr S I J) (h2 : Fr T J K) (sub : ∀ a j, T a j = true → S a j = true) : Fr S I K := by
  intro a j hs
  rw [← h a j hs]
  apply h2
  cases ht : T a j with
  | false => rfl
  | true => rw [sub a j ht] at hs; cases hs
theorem Fr.row {S : Nat → Nat → Bool} {I J : CI} (h : Fr S I J) {a : Nat} (ha : ∀ j, S a j = false) : J a = I a := funext (fun j => h a j (ha j))
theorem u2_row {I : CI} {k j : Nat} {v : Int32} : u2 I k j v k = upd (I k) j v := u2_eq
theorem upd_eq {f : Nat → Int32} {k : Nat} {v : Int32} : upd f k v k = v := if_pos rfl
theorem upd_ne {f : Nat → Int32} {k j : Nat} {v : Int32} (h : j ≠ k) : upd f k v j = f j := if_neg h
/-- what laying a span writes; that and what is told of an exception -/
def SL (a j : Nat) : Bool := a == 75 || a == 76 || a == 77
def ST (a j : Nat) : Bool := a == 67 && j == 6
def SLT (a j : Nat) : Bool := a == 75 || a == 76 || a == 77 || (a == 67 && j == 6)
def SP (a j : Nat) : Bool := a == 68
def SLP (a j : Nat) : Bool := a == 75 || a == 76 || a == 77 || a == 68
def sumT (f : Nat → Int32) : Nat → Int32
  | 0 => nI 0
  | n + 1 => sumT f n + f n
def orT (f : Nat → Int32) : Nat → Int32
  | 0 => nI 0
  | n + 1 => orT f n ||| f n
abbrev NOTF : Int32 := -1000004
/-- the first number below n with a property; n without -/
def fstN (p : Nat → Bool) : Nat → Nat
  | 0 => 0
  | n + 1 => if fstN p n < n then fstN p n else if p n = true then n else n + 1
def fstI (p : Nat → Bool) (n : Nat) : Int32 := if fstN p n < n then nI (fstN p n) else NOTF
theorem fstN_le (p : Nat → Bool) : ∀ n, fstN p n ≤ n
  | 0 => Nat.le_refl 0
  | n + 1 => by
    have h := fstN_le p n
    unfold fstN
    split
    · omega
    · split <;> omega
theorem fstN_spec (p : Nat → Bool) : ∀ n, (∀ z, z < fstN p n → p z = false) ∧ (fstN p n < n → p (fstN p n) = true)
  | 0 => ⟨fun z h => absurd h (by simp [fstN]), fun h => absurd h (by simp [fstN])⟩
  | n + 1 => by
    obtain ⟨h1, h2⟩ := fstN_spec p n
    have h0 := fstN_le p n
    unfold fstN
    by_cases h : fstN p n < n
    · rw [if_pos h]
      exact ⟨h1, fun _ => h2 h⟩
    · have e : fstN p n = n := by omega
      rw [if_neg h]
      rw [e] at h1
      cases hp : p n with
      | true => rw [if_pos rfl]; exact ⟨h1, fun _ => hp⟩
      | false =>
        rw [if_neg (by decide)]
        refine ⟨fun z hz => ?_, fun h => absurd h (Nat.lt_irrefl _)⟩
        rcases Nat.lt_succ_iff_lt_or_eq.mp hz with q | q
        · exact h1 z q
        · rw [q]; exact hp
theorem fstN_hit {p : Nat → Bool} {n y : Nat} (hy : y < n) (hp : p y = true) (hb : ∀ z, z < y → p z = false) : fstN p n = y := by
  obtain ⟨h1, h2⟩ := fstN_spec p n
  have h0 := fstN_le p n
  rcases Nat.lt_trichotomy (fstN p n) y with q | q | q
  · rw [hb _ q] at h2
    exact absurd (h2 (by omega)) (by decide)
  · exact q
  · rw [h1 _ q] at hp
    cases hp
theorem fstI_hit {p : Nat → Bool} {n y : Nat} (hy : y < n) (hp : p y = true) (hb : ∀ z, z < y → p z = false) : fstI p n = nI y := by
  unfold fstI
  rw [fstN_hit hy hp hb, if_pos hy]
theorem fstN_none {p : Nat → Bool} {n : Nat} (hb : ∀ z, z < n → p z = false) : fstN p n = n := by
  obtain ⟨h1, h2⟩ := fstN_spec p n
  have h0 := fstN_le p n
  rcases Nat.lt_or_ge (fstN p n) n with q | q
  · rw [hb _ q] at h2
    exact absurd (h2 q) (by decide)
  · omega
theorem fstI_none {p : Nat → Bool} {n : Nat} (hb : ∀ z, z < n → p z = false) : fstI p n = NOTF := by
  unfold fstI
  rw [fstN_none hb, if_neg (Nat.lt_irrefl _)]
theorem all_lt_succ {p : Nat → Bool} {y : Nat} (h : ∀ z, z < y → p z = false) (hp : p y = false) : ∀ z, z < y + 1 → p z = false := by
  intro z hz
  rcases Nat.lt_succ_iff_lt_or_eq.mp hz with q | q
  · exact h z q
  · rw [q]; exact hp
def mn (x y : Int32) : Int32 := if y < x then y else x
def mx (x y : Int32) : Int32 := if x < y then y else x
/-- rust and guard at the beginning of a year -/
def rg (r0 rt gd : Int32) (pb : Nat → Bool) : Nat → Int32 × Int32
  | 0 => (r0, nI 0)
  | y + 1 => if pb y = true then (nI 0, gd) else if (rg r0 rt gd pb y).2 ≤ 0 then (mn (nI 100) ((rg r0 rt gd pb y).1 + rt), (rg r0 rt gd pb y).2) else ((rg r0 rt gd pb y).1, (rg r0 rt gd pb y).2 + Int32.ofInt (-1))
def bitB (v : Int32) (y : Nat) : Bool := decide ((v >>> (nI y &&& 31)) &&& nI 1 = nI 1)
def pnt (σ : Row) (x y : Nat) : Int32 := σ (104 + 12 * y + x) - nI 1
def ptd (σ : Row) (x y : Nat) : Bool := decide (pnt σ x y ≠ -1)
def rgB (σ : Row) (x : Nat) (pb : Nat → Bool) : Nat → Int32 × Int32 := rg (σ (10 + 5 * x + 2)) (σ (10 + 5 * x + 3)) (σ 2) pb
/-! ===== Int32 by its bits: bt x i ===== -/
def bt (x : Int32) (i : Nat) : Bool := x.toBitVec.getLsbD i
theorem b_ext {x y : Int32} (h : ∀ i, i < 32 → bt x i = bt y i) : x = y := Int32.toBitVec_inj.mp (BitVec.eq_of_getLsbD_eq (fun i hi => h i hi))
theorem b_or (x y : Int32) (i : Nat) : bt (x ||| y) i = (bt x i || bt y i) := by unfold bt; rw [Int32.toBitVec_or, BitVec.getLsbD_or]
theorem b_and (x y : Int32) (i : Nat) : bt (x &&& y) i = (bt x i && bt y i) := by unfold bt; rw [Int32.toBitVec_and, BitVec.getLsbD_and]
theorem b_xor (x y : Int32) (i : Nat) : bt (x ^^^ y) i = (bt x i ^^ bt y i) := by unfold bt; rw [Int32.toBitVec_xor, BitVec.getLsbD_xor]
theorem b_big {x : Int32} {i : Nat} (h : 32 ≤ i) : bt x i = false := BitVec.getLsbD_of_ge _ _ h
theorem b_255 (i : Nat) : bt 255 i = decide (i < 8) := by
  rcases Nat.lt_or_ge i 32 with h | h
  · exact (by decide +kernel : ∀ i, i < 32 → bt 255 i = decide (i < 8)) i h
  · rw [b_big h, decide_eq_false (by omega)]
theorem b_65535 (i : Nat) : bt 65535 i = decide (i < 16) := by
  rcases Nat.lt_or_ge i 32 with h | h
  · exact (by decide +kernel : ∀ i, i < 32 → bt 65535 i = decide (i < 16)) i h
  · rw [b_big h, decide_eq_false (by omega)]
theorem b_m1 : ∀ i, i < 32 → bt (-1) i = true := by decide +kernel
theorem b_0 (i : Nat) : bt 0 i = false := BitVec.getLsbD_zero
theorem s_l : ∀ n, n < 32 → ((nI n &&& 31).toBitVec.smod 32).toNat = n := by decide +kernel
theorem s_u : ∀ n, n < 32 → (((nI n).toUInt32 &&& Int32.toUInt32 31).toBitVec % 32).toNat = n := by decide +kernel
theorem b_shl (n : Nat) (hn : n < 32) (x : Int32) {i : Nat} (hi : i < 32) : bt (x <<< (nI n &&& 31)) i = (decide (n ≤ i) && bt x (i - n)) := by
  unfold bt
  rw [Int32.toBitVec_shiftLeft]
  show (x.toBitVec <<< ((nI n &&& 31).toBitVec.smod 32).toNat).getLsbD i = _
  rw [s_l n hn, BitVec.getLsbD_shiftLeft]
  rcases Nat.lt_or_ge i n with h | h
  · simp [h, Nat.not_le.mpr h]
  · simp [hi, h, Nat.not_lt.mpr h]
theorem b_ushr (n : Nat) (hn : n < 32) (x : Int32) (i : Nat) : bt ((x.toUInt32 >>> ((nI n).toUInt32 &&& Int32.toUInt32 31)).toInt32) i = bt x (n + i) := by
  show (x.toUInt32 >>> ((nI n).toUInt32 &&& Int32.toUInt32 31)).toBitVec.getLsbD i = x.toUInt32.toBitVec.getLsbD (n + i)
  rw [UInt32.toBitVec_shiftRight]
  show (x.toUInt32.toBitVec >>> (((nI n).toUInt32 &&& Int32.toUInt32 31).toBitVec % 32).toNat).getLsbD i = _
  rw [s_u n hn, BitVec.getLsbD_ushiftRight]
theorem b_sshr (n : Nat) (hn : n < 32) (x : Int32) {i : Nat} (hi : i < 32) : bt (x >>> (nI n &&& 31)) i = if n + i < 32 then bt x (n + i) else bt x 31 := by
  unfold bt
  rw [Int32.toBitVec_shiftRight]
  show (x.toBitVec.sshiftRight ((nI n &&& 31).toBitVec.smod 32).toNat).getLsbD i = _
  rw [s_l n hn, BitVec.getLsbD_sshiftRight, BitVec.msb_eq_getLsbD_last]
  simp [hi]
theorem b_1 : ∀ i, i < 32 → bt (nI 1) i = decide (i = 0) := by decide +kernel
theorem b_n0 (i : Nat) : bt (nI 0) i = false := b_0 i
theorem bt_and1 (w : Int32) : (w &&& nI 1 = nI 1) ↔ bt w 0 = true := by
  constructor
  · intro h
    have h1 := b_and w (nI 1) 0
    rw [h, b_1 0 (by decide)] at h1
    simpa using h1.symm
  · intro h
    apply b_ext
    intro i hi
    rw [b_and, b_1 i hi]
    by_cases hz : i = 0
    · subst hz
      rw [h]; rfl
    · simp [hz]
theorem bitB_bt (v : Int32) {y : Nat} (hy : y < 32) : bitB v y = bt v y := by
  unfold bitB
  have h := bt_and1 (v >>> (nI y &&& 31))
  rw [b_sshr y hy v (i := 0) (by decide), if_pos (by omega), Nat.add_zero] at h
  cases hb : bt v y with
  | true => exact decide_eq_true (h.mpr hb)
  | false => exact decide_eq_false (fun z => by rw [h.mp z] at hb; cases hb)
/-- bits put together from the numbers with a property -/
def setF (p : Nat → Bool) (y : Nat) : Int32 := if p y = true then nI 1 <<< (nI y &&& 31) else nI 0
theorem bt_setF (p : Nat → Bool) {n : Nat} (hn : n ≤ 32) {i : Nat} (hi : i < 32) : bt (orT (setF p) n) i = (decide (i < n) && p i) := by
  induction n with
  | zero => simp [orT, b_n0]
  | succ n ih =>
    have h := ih (by omega)
    show bt (orT (setF p) n ||| setF p n) i = _
    rw [b_or, h]
    unfold setF
    cases hp : p n with
    | true =>
      rw [if_pos rfl, b_shl n (by omega) _ hi]
      by_cases e : i = n
      · subst e
        simp [hp, b_1 0 (by decide)]
      · by_cases hlt : n ≤ i
        · rw [b_1 (i - n) (by omega)]
          have h1 : ¬ i < n := by omega
          have h2 : ¬ i < n + 1 := by omega
          have h3 : ¬ i - n = 0 := by omega
          simp [h1, h2, h3]
        · have h1 : i < n := by omega
          have h2 : i < n + 1 := by omega
          simp [h1, h2, hlt]
    | false =>
      rw [if_neg (by decide), b_n0]
      by_cases e : i = n
      · subst e
        simp [hp]
      · have h1 : decide (i < n) = decide (i < n + 1) := by
          by_cases z : i < n
          · rw [decide_eq_true z, decide_eq_true (show i < n + 1 by omega)]
          · rw [decide_eq_false z, decide_eq_false (show ¬ i < n + 1 by omega)]
        rw [h1, Bool.or_false]
theorem bitB_setF (p : Nat → Bool) {n y : Nat} (hn : n ≤ 12) (hy : y < n) : bitB (orT (setF p) n) y = p y := by
  rw [bitB_bt _ (by omega), bt_setF p (by omega) (by omega), decide_eq_true hy, Bool.true_and]
theorem rg_p {r0 rt gd : Int32} {pb : Nat → Bool} {y : Nat} (h : pb y = true) : rg r0 rt gd pb (y + 1) = (nI 0, gd) := if_pos h
theorem rg_g {r0 rt gd : Int32} {pb : Nat → Bool} {y : Nat} (h : pb y = false) (h2 : (rg r0 rt gd pb y).2 ≤ 0) : rg r0 rt gd pb (y + 1) = (mn (nI 100) ((rg r0 rt gd pb y).1 + rt), (rg r0 rt gd pb y).2) := by
  show (if pb y = true then _ else _) = _
  rw [if_neg (by rw [h]; decide), if_pos h2]
theorem rg_d {r0 rt gd : Int32} {pb : Nat → Bool} {y : Nat} (h : pb y = false) (h2 : ¬ (rg r0 rt gd pb y).2 ≤ 0) : rg r0 rt gd pb (y + 1) = ((rg r0 rt gd pb y).1, (rg r0 rt gd pb y).2 + Int32.ofInt (-1)) := by
  show (if pb y = true then _ else _) = _
  rw [if_neg (by rw [h]; decide), if_neg h2]
theorem rg_congr {r0 rt gd : Int32} {pb pb' : Nat → Bool} {n : Nat} (h : ∀ z, z < n → pb z = pb' z) : ∀ z, z ≤ n → rg r0 rt gd pb z = rg r0 rt gd pb' z
  | 0, _ => rfl
  | z + 1, hz => by
    have h1 := rg_congr (r0 := r0) (rt := rt) (gd := gd) h z (by omega)
    show (if pb z = true then _ else _) = (if pb' z = true then _ else _)
    rw [h z (by omega), h1]
theorem row_ext {I : CI} {k y : Nat} {v : Int32} {f : Nat → Int32} (h : ∀ z, z < y → I k z = f z) (hv : v = f y) : ∀ z, z < y + 1 → (u2 I k y v) k z = f z := by
  intro z hz
  rw [u2_eq]
  by_cases e : z = y
  · rw [e, upd_eq, hv]
  · rw [upd_ne e]
    exact h z (by omega)
theorem row_keep {I : CI} {k k' j n : Nat} {v : Int32} {f : Nat → Int32} (hk : k ≠ k') (h : ∀ z, z < n → I k z = f z) : ∀ z, z < n → (u2 I k' j v) k z = f z := by
  intro z hz
  rw [u2_ne hk]
  exact h z hz
/-- an int parameter that is a number below n -/
def inB (v : Int32) (n : Nat) : Bool := decide (0 ≤ v.toInt ∧ v.toInt < (n : Int))
theorem inB_of {v : Int32} {n : Nat} (h : inB v n = true) (hn : n < 2 ^ 31) : ∃ j : Nat, j < n ∧ v = nI j := by
  obtain ⟨h1, h2⟩ := of_decide_eq_true h
  refine ⟨v.toInt.toNat, by omega, Int32.toInt_inj.mp ?_⟩
  rw [nI_toInt (by omega)]
  omega
theorem btw {v a : Int32} {n : Nat} (h : a = nI n) (hn : n ≤ 1000) : decide ((0 : Int64) ≤ v.toInt64 ∧ v.toInt64 ≤ (a - nI 1).toInt64) = inB v n := by
  have e : (a - nI 1).toInt = (n : Int) - 1 := by
    rw [h]
    cases n with
    | zero => decide
    | succ k => rw [nI_sub (by omega), nI_toInt (by omega)]; omega
  unfold inB
  apply decide_eq_decide.mpr
  rw [Int64.le_iff_toInt_le, Int64.le_iff_toInt_le, Int32.toInt_toInt64, Int32.toInt_toInt64, e]
  show ((0 : Int64).toInt ≤ _ ∧ _) ↔ _
  rw [show (0 : Int64).toInt = 0 by decide]
  omega
def thr (b : Bool) : Int32 := if b = true then nI 0 else nI 1
def rgS (σ : Row) (x : Nat) : Nat → Int32 × Int32 := rgB σ x (ptd σ x)
/-- the first year in which a span is past; NOTF without -/
def fp (σ : Row) (x : Nat) : Int32 := fstI (fun z => decide (σ (10 + 5 * x + 4) < (rgS σ x (z + 1)).1)) (Yn σ)
def fpB (σ : Row) (x : Nat) (pb : Nat → Bool) : Int32 := fstI (fun z => decide (σ (10 + 5 * x + 4) < (rgB σ x pb (z + 1)).1)) (Yn σ)
def cntP (σ : Row) : Int32 := sumT (fun x => if fp σ x = NOTF then nI 0 else nI 1) (nS σ)
theorem fstI_congr {p q : Nat → Bool} {n : Nat} (h : ∀ z, z < n → p z = q z) : fstI p n = fstI q n := by
  have e : fstN p n = fstN q n := by
    obtain ⟨h1, h2⟩ := fstN_spec q n
    have h0 := fstN_le q n
    rcases Nat.lt_or_ge (fstN q n) n with g | g
    · exact fstN_hit g (by rw [h _ g]; exact h2 g) (fun z hz => by rw [h z (by omega)]; exact h1 z hz)
    · rw [fstN_none (fun z hz => by rw [h z hz]; exact h1 z (by omega))]; omega
  unfold fstI
  rw [e]
/-- a row's first n places hold f -/
def rowP (I : CI) (k n : Nat) (f : Nat → Int32) : Prop := ∀ z, z < n → I k z = f z
theorem rowP.zero {I : CI} {k : Nat} {f : Nat → Int32} : rowP I k 0 f := fun z hz => absurd hz (Nat.not_lt_zero z)
theorem rowP.ext {I : CI} {k y : Nat} {v : Int32} {f : Nat → Int32} (h : rowP I k y f) (hv : v = f y) : rowP (u2 I k y v) k (y + 1) f := row_ext h hv
theorem rowP.keep {I : CI} {k k' j n : Nat} {v : Int32} {f : Nat → Int32} (h : rowP I k n f) (hk : k ≠ k') : rowP (u2 I k' j v) k n f := row_keep hk h
theorem rowP.fr {S : Nat → Nat → Bool} {I J : CI} {k n : Nat} {f : Nat → Int32} (h : rowP I k n f) (hF : Fr S I J) (hs : ∀ j, S k j = false) : rowP J k n f := fun z hz => (hF k z (hs z)).trans (h z hz)
theorem bitB_pt {σ : Row} {x n y : Nat} (hn : n ≤ 12) (hy : y < n) : bitB (orT (setF (ptd σ x)) n) y = ptd σ x y := bitB_setF _ hn hy
theorem rgB_pt {σ : Row} {x n : Nat} (hn : n ≤ 12) {z : Nat} (hz : z ≤ n) : rgB σ x (bitB (orT (setF (ptd σ x)) n)) z = rgS σ x z := rg_congr (fun y hy => bitB_pt hn hy) z hz
theorem setF_t {p : Nat → Bool} {y : Nat} (h : p y = true) : setF p y = nI 1 <<< (nI y &&& 31) := if_pos h
theorem setF_f {p : Nat → Bool} {y : Nat} (h : p y = false) : setF p y = nI 0 := if_neg (by rw [h]; decide)
theorem u2_at {I : CI} {k j : Nat} {v : Int32} : u2 I k j v k j = v := by rw [u2_eq, upd_eq]
theorem u2_off {I : CI} {k j a b : Nat} {v : Int32} (h : a ≠ k ∨ b ≠ j) : u2 I k j v a b = I a b := by
  rcases h with h | h
  · rw [u2_ne h]
  · unfold u2
    by_cases e : a = k
    · subst e; rw [if_pos rfl, upd_ne h]
    · rw [if_neg e]
def tN (v : Int32) : Nat := v.toNatClampNeg
theorem tN_nI {n : Nat} (h : n < 2 ^ 31) : tN (nI n) = n := nI_clamp h
def SQ (a j : Nat) : Bool := a == 75 || a == 76 || a == 77 || (a == 67 && j == 6) || a == 78 || a == 79 || a == 68
/-- the data are what they may be -/
def DR (σ : Row) : Prop :=
  (∀ g, g < nG σ → ∃ k : Nat, 1 ≤ k ∧ k ≤ 50 ∧ σ (70 + 2 * g + 0) = nI k) ∧
  (∀ x y, x < 12 → y < 12 → pnt σ x y = -1 ∨ ∃ g : Nat, g < nG σ ∧ x < nS σ ∧ y < Yn σ ∧ pnt σ x y = nI g) ∧
  (∀ x, x < nS σ → σ (10 + 5 * x + 0) = -1 ∨ ∃ q : Nat, q < nLn σ ∧ σ (10 + 5 * x + 0) = nI q) ∧
  (∀ x, x < nS σ → ∃ a r t m : Nat, 1 ≤ a ∧ a ≤ 99 ∧ r ≤ 100 ∧ 1 ≤ t ∧ t ≤ 50 ∧ 1 ≤ m ∧ m ≤ 100 ∧ σ (10 + 5 * x + 1) = nI a ∧ σ (10 + 5 * x + 2) = nI r ∧ σ (10 + 5 * x + 3) = nI t ∧ σ (10 + 5 * x + 4) = nI m) ∧
  (∃ h : Nat, 1 ≤ h ∧ h ≤ 4 ∧ σ 1 = nI h) ∧ (∃ g : Nat, g ≤ 10 ∧ σ 2 = nI g) ∧
  (∀ y, y < 12 → ∃ d : Nat, d ≤ 200 ∧ σ (80 + y) = nI d) ∧ (∀ y, y < 12 → ∃ q : Nat, q < 16 ∧ σ (92 + y) = nI q)
-- what each query answers
def psp (σ : Row) (y : Nat) : Int32 := orT (setF (fun x => decide (σ (10 + 5 * x + 4) < (rgS σ x (y + 1)).1))) (nS σ)
def amx (f : Nat → Int32) (b m : Int32) : Nat → Int32 × Int32
  | 0 => (b, m)
  | n + 1 => if (amx f b m n).2 < f n then (nI n, f n) else amx f b m n
def rst (σ : Row) (y : Nat) : Int32 := (amx (fun x => (rgS σ x (y + 1)).1) NOTF (-1) (nS σ)).1
def ahd (fy lr : Nat → Int32) (a b : Nat) : Bool := if fy a ≠ fy b then decide (fy a < fy b) else if lr a ≠ lr b then decide (lr b < lr a) else decide (a < b)
def rkd (fy lr : Nat → Int32) (n : Nat) (rank : Int32) : Int32 := fstI (fun x => decide (sumT (fun k => if ahd fy lr k x = true then nI 1 else nI 0) n = rank)) n
def eff (σ : Row) (x y : Nat) : Int32 := σ (10 + 5 * x + 1) * (nI 100 + (rgS σ x y).1) / nI 100
def cap (σ : Row) (g y : Nat) : Int32 := σ (70 + 2 * g + 0) * σ (80 + y)
def lod (σ : Row) (g : Int32) (y : Nat) : Int32 := sumT (fun x => if pnt σ x y = g then eff σ x y else nI 0) (nS σ)
def spd (σ : Row) (x y : Nat) : Int32 := σ (70 + 2 * tN (pnt σ x y) + 0)
def dys (σ : Row) (x y : Nat) : Int32 := (eff σ x y + spd σ x y - nI 1) / spd σ x y
def dyI (σ : Row) (g : Int32) (y : Nat) : Int32 := sumT (fun x => if pnt σ x y = g then dys σ x y else nI 0) (nS σ)
def lnI (σ : Row) (q : Int32) (y : Nat) : Int32 := sumT (fun x => if pnt σ x y ≠ -1 ∧ σ (10 + 5 * x + 0) = q then dys σ x y else nI 0) (nS σ)
def los (σ : Row) (y : Nat) : Int32 := sumT (fun q => σ (6 + q) * lnI σ (nI q) y) (nLn σ)
def wgs (σ : Row) (y : Nat) : Int32 := sumT (fun g => σ (70 + 2 * g + 1) * dyI σ (nI g) y) (nG σ)
def shF (σ : Row) (y x : Nat) : Int32 := if pnt σ x y ≠ -1 ∧ σ (10 + 5 * x + 0) ≠ -1 then nI 1 <<< (σ (10 + 5 * x + 0) &&& 31) else nI 0
def shu (σ : Row) (y : Nat) : Int32 := orT (shF σ y) (nS σ)
def cnt16 (v : Int32) : Int32 := sumT (fun k => (v >>> (nI k &&& 31)) &&& nI 1) 16
def rfs (σ : Row) (y x : Nat) (g : Nat) : Int32 :=
  if pnt σ x y ≠ -1 then nI 1
  else if σ (10 + 5 * x + 0) ≠ -1 ∧ (σ (92 + y) >>> (σ (10 + 5 * x + 0) &&& 31)) &&& nI 1 = nI 1 then nI 2
  else if σ (10 + 5 * x + 0) ≠ -1 ∧ σ 1 < cnt16 (shu σ y ||| nI 1 <<< (σ (10 + 5 * x + 0) &&& 31)) then nI 3
  else if cap σ g y < lod σ (nI g) y + eff σ x y then nI 4 else nI 0
def ovr (σ : Row) (g y : Nat) : Bool := decide (cap σ g y < lod σ (nI g) y)
def cov (σ : Row) : Int32 := sumT (fun y => sumT (fun g => if ovr σ g y = true then nI 1 else nI 0) (nG σ)) (Yn σ)
theorem sumT_add (f : Nat → Int32) (a : Int32) (n : Nat) : a + sumT f (n + 1) = a + sumT f n + f n := by
  show a + (sumT f n + f n) = _
  rw [Int32.add_assoc]
theorem amx_y {f : Nat → Int32} {b m : Int32} {n : Nat} (h : ¬ f n ≤ (amx f b m n).2) : amx f b m (n + 1) = (nI n, f n) := if_pos (Int32.not_le.mp h)
theorem amx_n {f : Nat → Int32} {b m : Int32} {n : Nat} (h : f n ≤ (amx f b m n).2) : amx f b m (n + 1) = amx f b m n := if_neg (Int32.not_lt.mpr h)
theorem fpB_congr {σ : Row} {x : Nat} {p q : Nat → Bool} (h : ∀ z, z < Yn σ → p z = q z) : fpB σ x p = fpB σ x q := by
  unfold fpB
  apply fstI_congr
  intro z hz
  have e : rgB σ x p (z + 1) = rgB σ x q (z + 1) := rg_congr h (z + 1) hz
  rw [e]
theorem bitB_0 {y : Nat} (h : y < 32) : bitB (nI 0) y = false := by rw [bitB_bt _ h, b_n0]
theorem fpB_le {σ : Row} {x : Nat} {p q : Nat → Bool} (hY : Yn σ ≤ 12) (h : ∀ z, z < 12 → p z = q z) : fpB σ x p = fpB σ x q := fpB_congr (fun z hz => h z (by omega))
theorem fpB_0 {σ : Row} (hY : Yn σ ≤ 12) (x : Nat) : fpB σ x (bitB (nI 0)) = fpB σ x (fun _ => false) := fpB_le hY (fun z hz => bitB_0 (by omega))
theorem nI_m1 {n : Nat} (h : n < 2 ^ 31) : nI n ≠ -1 := by
  intro z
  have h1 := nI_toInt h
  rw [z] at h1
  have h2 : (-1 : Int32).toInt = -1 := by decide
  omega
theorem nAl {a b : Prop} (h : a) : ¬ (¬ a ∧ b) := fun z => z.1 h
theorem nAr {a b : Prop} (h : ¬ b) : ¬ (a ∧ b) := fun z => h z.2
theorem nArr {a b : Prop} (h : b) : ¬ (a ∧ ¬ b) := fun z => z.2 h
theorem upd_same {f : Nat → Int32} {k : Nat} (v : Int32) (h : v = f k) : upd f k v = f := by
  funext j
  by_cases e : j = k
  · rw [e, upd_eq, h]
  · rw [upd_ne e]
theorem upd_upd {f : Nat → Int32} {k : Nat} {v w : Int32} : upd (upd f k v) k w = upd f k w := by
  funext j
  by_cases e : j = k
  · rw [e, upd_eq, upd_eq]
  · rw [upd_ne e, upd_ne e, upd_ne e]
theorem upd_back {f : Nat → Int32} {k : Nat} {v w : Int32} (h : w = f k) : upd (upd f k v) k w = f := by rw [upd_upd]; exact upd_same _ h
/-- the row with another painter of a span in a year -/
def setP (σ : Row) (x y : Nat) (g : Int32) : Row := upd σ (104 + 12 * y + x) (g + nI 1)
theorem pnt_add (σ : Row) (x y : Nat) : pnt σ x y + nI 1 = σ (104 + 12 * y + x) := by
  unfold pnt
  rw [Int32.sub_add_cancel]
theorem setP_back {σ : Row} {x y : Nat} {g h : Int32} (e : h = pnt σ x y) : upd (setP σ x y g) (104 + 12 * y + x) (h + nI 1) = σ := by
  unfold setP
  exact upd_back (by rw [e]; exact pnt_add σ x y)
theorem Inv_upd {σ : Row} {k : Nat} {v : Int32} (hk : 6 ≤ k) (h : Inv σ) : Inv (upd σ k v) := by
  unfold Inv Yn nLn nS nG
  rw [upd_ne (show (0 : Nat) ≠ k by omega), upd_ne (show (3 : Nat) ≠ k by omega), upd_ne (show (4 : Nat) ≠ k by omega), upd_ne (show (5 : Nat) ≠ k by omega)]
  exact h
theorem Yn_upd {σ : Row} {k : Nat} {v : Int32} (hk : 6 ≤ k) : Yn (upd σ k v) = Yn σ := by unfold Yn; rw [upd_ne (by omega)]
theorem nS_upd {σ : Row} {k : Nat} {v : Int32} (hk : 6 ≤ k) : nS (upd σ k v) = nS σ := by unfold nS; rw [upd_ne (by omega)]
theorem nG_upd {σ : Row} {k : Nat} {v : Int32} (hk : 6 ≤ k) : nG (upd σ k v) = nG σ := by unfold nG; rw [upd_ne (by omega)]
theorem nLn_upd {σ : Row} {k : Nat} {v : Int32} (hk : 6 ≤ k) : nLn (upd σ k v) = nLn σ := by unfold nLn; rw [upd_ne (by omega)]
theorem Inv_setP {σ : Row} {x y : Nat} {g : Int32} (h : Inv σ) : Inv (setP σ x y g) := Inv_upd (by omega) h
def bsS (σ : Row) (x y g : Nat) (q : Int32 × Int32) : Int32 × Int32 := if rfs σ y x g ≠ 0 then q else if q.1 = NOTF ∨ cntP (setP σ x y (nI g)) < q.2 then (nI (10 * y + g), cntP (setP σ x y (nI g))) else q
def bsG (σ : Row) (x y : Nat) (q : Int32 × Int32) : Nat → Int32 × Int32
  | 0 => q
  | g + 1 => bsS σ x y g (bsG σ x y q g)
def bsY (σ : Row) (x : Nat) : Nat → Int32 × Int32
  | 0 => (NOTF, nI 0)
  | y + 1 => bsG σ x y (bsY σ x y) (nG σ)
def shy (σ : Row) (q : Nat) (y : Nat) : Int32 := ((shu σ y >>> (nI q &&& 31)) &&& nI 1) <<< (nI y &&& 31)
def ndl (σ : Row) (y x : Nat) : Bool := decide (pnt σ x y ≠ -1 ∧ cntP (setP σ x y (-1)) ≤ cntP σ)
def allB (p : Nat → Bool) : Nat → Bool
  | 0 => true
  | n + 1 => allB p n && p n
def spOK (σ : Row) (g : Int32) (v : Nat) : Bool := decide (1 ≤ v) && allB (fun y => decide (lod σ g y ≤ nI v * σ (80 + y))) (Yn σ)
def fpR (σ : Row) (x : Nat) (rt : Int32) : Int32 := fstI (fun z => decide (σ (10 + 5 * x + 4) < (rg (σ (10 + 5 * x + 2)) rt (σ 2) (fun _ => false) (z + 1)).1)) (Yn σ)
def hrm (σ : Row) (x : Nat) : Nat → Int32
  | 0 => NOTF
  | n + 1 => if fpR σ x (nI (n + 1)) = NOTF then nI (n + 1) else hrm σ x n
theorem fpB_rate {σ : Row} {x : Nat} {v : Int32} (hY : Yn σ ≤ 12) : fpB (upd σ (10 + 5 * x + 3) v) x (bitB (nI 0)) = fpR σ x v := by
  rw [fpB_0 (by rw [Yn_upd (by omega)]; exact hY)]
  unfold fpB fpR rgB
  rw [Yn_upd (by omega), upd_ne (show 10 + 5 * x + 4 ≠ 10 + 5 * x + 3 by omega), upd_ne (show 10 + 5 * x + 2 ≠ 10 + 5 * x + 3 by omega), upd_ne (show (2 : Nat) ≠ 10 + 5 * x + 3 by omega), upd_eq]
def urF (σ : Row) (x : Nat) : Int32 := if fp σ x = NOTF then nI (Yn σ) else fp σ x
def urL (σ : Row) (x : Nat) : Int32 := (rgS σ x (Yn σ)).1
/-- a row with n places of another copied into it -/
def cpR (f g : Nat → Int32) (fr at9 n : Nat) : Nat → Int32 := fun j => if at9 ≤ j ∧ j < at9 + n then f (fr + (j - at9)) else g j
theorem cpR_0 {f g : Nat → Int32} {fr at9 : Nat} : cpR f g fr at9 0 = g := by
  funext j
  unfold cpR
  rw [if_neg (by omega)]
theorem cpR_s {f g : Nat → Int32} {fr at9 n : Nat} : upd (cpR f g fr at9 n) (at9 + n) (f (fr + n)) = cpR f g fr at9 (n + 1) := by
  funext j
  by_cases e : j = at9 + n
  · rw [e, upd_eq]
    unfold cpR
    rw [if_pos (by omega), show at9 + n - at9 = n by omega]
  · rw [upd_ne e]
    unfold cpR
    by_cases h : at9 ≤ j ∧ j < at9 + n
    · rw [if_pos h, if_pos (by omega)]
    · rw [if_neg h, if_neg (by omega)]
def SC (b : Nat) (a j : Nat) : Bool := a == b
theorem SC_ne {a b j : Nat} (h : a ≠ b) : SC b a j = false := beq_false_of_ne h
theorem SC_eq {b j : Nat} : SC b b j = true := beq_self_eq_true b
/-- undo rows: k of them, the newest U 0 -/
def HisR (h : Nat → Int32) (k : Nat) (U : Nat → Row) : Prop := k ≤ 16 ∧ ∀ t j, t < k → j < 248 → h (248 * (k - 1 - t) + j) = U t j
def HisM (I : CI) (k : Nat) (U : Nat → Row) : Prop := HisR (I 72) k U
theorem HisM.row {I J : CI} {k : Nat} {U : Nat → Row} (h : HisM I k U) (e : J 72 = I 72) : HisM J k U := by unfold HisM at h ⊢; rw [e]; exact h
def pushU (σ : Row) (U : Nat → Row) : Nat → Row := fun t => match t with
  | 0 => σ
  | t + 1 => U t
def popU (U : Nat → Row) : Nat → Row := fun t => U (t + 1)
def shR (h : Nat → Int32) (i : Nat) : Nat → Int32 := fun j => if j + 248 < i then h (j + 248) else h j
theorem shR_0 {h : Nat → Int32} : shR h 248 = h := by
  funext j
  unfold shR
  rw [if_neg (by omega)]
theorem shR_i {h : Nat → Int32} {i : Nat} : shR h i i = h i := by
  unfold shR
  rw [if_neg (by omega)]
theorem shR_s {h : Nat → Int32} {i : Nat} (hi : 248 ≤ i) : upd (shR h i) (i - 248) (h i) = shR h (i + 1) := by
  funext j
  by_cases e : j = i - 248
  · rw [e, upd_eq]
    unfold shR
    rw [if_pos (by omega), show i - 248 + 248 = i by omega]
  · rw [upd_ne e]
    unfold shR
    by_cases q : j + 248 < i
    · rw [if_pos q, if_pos (by omega)]
    · rw [if_neg q, if_neg (by omega)]
theorem HisR.push {h : Nat → Int32} {k : Nat} {U : Nat → Row} {σ : Row} (H : HisR h k U) (hk : k < 16) : HisR (cpR σ h 0 (248 * k) 248) (k + 1) (pushU σ U) := by
  refine ⟨by omega, fun t j ht hj => ?_⟩
  cases t with
  | zero =>
    show _ = σ j
    unfold cpR
    rw [if_pos (by omega)]
    exact congrArg σ (by omega)
  | succ t =>
    show _ = U t j
    unfold cpR
    have e1 : k + 1 - 1 - (t + 1) = k - 1 - t := by omega
    rw [e1]
    have h1 : 248 * (k - 1 - t) + 248 ≤ 248 * k := by
      have : 248 * (k - 1 - t + 1) ≤ 248 * k := Nat.mul_le_mul_left _ (by omega)
      omega
    rw [if_neg (by omega)]
    exact H.2 t j (by omega) hj
theorem HisR.full {h : Nat → Int32} {U : Nat → Row} {σ : Row} (H : HisR h 16 U) : HisR (cpR σ (shR h 3968) 0 (248 * 15) 248) 16 (pushU σ U) := by
  refine ⟨Nat.le_refl _, fun t j ht hj => ?_⟩
  cases t with
  | zero =>
    show _ = σ j
    unfold cpR
    rw [if_pos (by omega)]
    exact congrArg σ (by omega)
  | succ t =>
    show _ = U t j
    have h2 := H.2 t j (by omega) hj
    unfold cpR shR
    rw [if_neg (by omega), if_pos (by omega), ← h2]
    exact congrArg h (by omega)
theorem HisR.pop {h : Nat → Int32} {k : Nat} {U : Nat → Row} (H : HisR h (k + 1) U) : HisR h k (popU U) := by
  refine ⟨by have := H.1; omega, fun t j ht hj => ?_⟩
  have h2 := H.2 (t + 1) j (by omega) hj
  show _ = U (t + 1) j
  rw [← h2]
  exact congrArg h (by omega)
/-- the first 248 places of another row -/
def mixR (f σ : Row) : Row := fun j => if j < 248 then f j else σ j
theorem cpR_mix {f g : Nat → Int32} : cpR f g 0 0 248 = mixR f g := by
  funext j
  unfold cpR mixR
  by_cases h : j < 248
  · rw [if_pos (by omega), if_pos h]
    exact congrArg f (by omega)
  · rw [if_neg (by omega), if_neg h]
theorem HisR.top {h : Nat → Int32} {k : Nat} {U : Nat → Row} {σ : Row} (H : HisR h (k + 1) U) : cpR h σ (248 * k) 0 248 = mixR (U 0) σ := by
  funext j
  unfold cpR mixR
  by_cases q : j < 248
  · rw [if_pos (by omega), if_pos q, ← H.2 0 j (by omega) q]
    exact congrArg h (by omega)
  · rw [if_neg (by omega), if_neg q]
def zeR (f : Nat → Int32) (n : Nat) : Nat → Int32 := fun j => if j < n then nI 0 else f j
theorem zeR_0 {f : Nat → Int32} : zeR f 0 = f := by
  funext j
  unfold zeR
  rw [if_neg (by omega)]
theorem zeR_s {f : Nat → Int32} {n : Nat} : upd (zeR f n) n (nI 0) = zeR f (n + 1) := by
  funext j
  by_cases e : j = n
  · rw [e, upd_eq]
    unfold zeR
    rw [if_pos (by omega)]
  · rw [upd_ne e]
    unfold zeR
    by_cases q : j < n
    · rw [if_pos q, if_pos (by omega)]
    · rw [if_neg q, if_neg (by omega)]
def dyR (f : Nat → Int32) (n : Nat) : Nat → Int32 := fun j => if 80 ≤ j ∧ j < 80 + n then nI 100 else f j
theorem dyR_0 {f : Nat → Int32} : dyR f 0 = f := by
  funext j
  unfold dyR
  rw [if_neg (by omega)]
theorem dyR_s {f : Nat → Int32} {n : Nat} : upd (dyR f n) (80 + n) (nI 100) = dyR f (n + 1) := by
  funext j
  by_cases e : j = 80 + n
  · rw [e, upd_eq]
    unfold dyR
    rw [if_pos (by omega)]
  · rw [upd_ne e]
    unfold dyR
    by_cases q : 80 ≤ j ∧ j < 80 + n
    · rw [if_pos q, if_pos (by omega)]
    · rw [if_neg q, if_neg (by omega)]
/-- the row of an empty text -/
def iniR (f : Nat → Int32) : Row := dyR (upd (upd (upd (zeR f 248) 0 (nI 8)) 1 (nI 2)) 2 (nI 3)) 12
def SH (a j : Nat) : Bool := a == 72 || (a == 67 && j == 5)
theorem orN {a b : Prop} (h : ¬ a) (g : ¬ b) : ¬ (a ∨ b) := fun z => z.elim h g
theorem or_n0 (x : Int32) : x ||| nI 0 = x := by
  apply b_ext
  intro i _
  rw [b_or, b_n0, Bool.or_false]
theorem rfs_pn {σ : Row} {y x g : Nat} (h : rfs σ y x g = 0) : pnt σ x y = -1 := by
  unfold rfs at h
  by_cases e : pnt σ x y = -1
  · exact e
  · rw [if_pos e] at h
    exact absurd h (by decide)
def fpG (σ : Row) (x y : Nat) : Nat := fstN (fun g => decide (rfs σ y x g = 0)) (nG σ)
def fpY (σ : Row) (x : Nat) : Nat := fstN (fun y => decide (fpG σ x y < nG σ)) (Yn σ)
/-- the first possible painting of a span: 10 * year + gang -/
def fpos (σ : Row) (x : Nat) : Int32 := if fpY σ x < Yn σ then nI (10 * fpY σ x + fpG σ x (fpY σ x)) else NOTF
theorem fpG_none {σ : Row} {x z : Nat} (h : ∀ g, g < nG σ → rfs σ z x g ≠ 0) : fpG σ x z = nG σ := fstN_none (fun g hg => decide_eq_false (h g hg))
theorem fpos_hit {σ : Row} {x y g : Nat} (hy : y < Yn σ) (hg : g < nG σ) (h : rfs σ y x g = 0) (hn : ∀ z, z < y → ∀ g, g < nG σ → rfs σ z x g ≠ 0) (hm : ∀ q, q < g → rfs σ y x q ≠ 0) : fpos σ x = nI (10 * y + g) := by
  have e1 : fpG σ x y = g := fstN_hit hg (decide_eq_true h) (fun z hz => decide_eq_false (hm z hz))
  have e2 : fpY σ x = y := fstN_hit hy (decide_eq_true (by rw [e1]; exact hg)) (fun z hz => decide_eq_false (by rw [fpG_none (hn z hz)]; exact Nat.lt_irrefl _))
  unfold fpos
  rw [e2, e1, if_pos hy]
theorem fpos_none {σ : Row} {x : Nat} (hn : ∀ z, z < Yn σ → ∀ g, g < nG σ → rfs σ z x g ≠ 0) : fpos σ x = NOTF := by
  have e2 : fpY σ x = Yn σ := fstN_none (fun z hz => decide_eq_false (by rw [fpG_none (hn z hz)]; exact Nat.lt_irrefl _))
  unfold fpos
  rw [e2, if_neg (Nat.lt_irrefl _)]
theorem ndl_1 {σ : Row} {y x : Nat} (h : pnt σ x y = -1) : ndl σ y x = false := decide_eq_false (fun z => z.1 h)
theorem ndl_2 {σ : Row} {y x : Nat} (h : cntP σ < cntP (setP σ x y (-1))) : ndl σ y x = false := decide_eq_false (fun z => Int32.not_lt.mpr z.2 h)
theorem ndl_3 {σ : Row} {y x : Nat} (h : ¬ pnt σ x y = -1) (g : ¬ cntP σ < cntP (setP σ x y (-1))) : ndl σ y x = true := decide_eq_true ⟨h, Int32.not_lt.mp g⟩
theorem bI_f {b : Bool} (h : b = false) : nI 0 = bI b := by rw [h]; rfl
theorem bI_t {b : Bool} (h : b = true) : nI 1 = bI b := by rw [h]; rfl
theorem allB_1 {p : Nat → Bool} {n : Nat} (h : allB p n = false) : allB p (n + 1) = false := by show (allB p n && p n) = false; rw [h, Bool.false_and]
theorem allB_2 {p : Nat → Bool} {n : Nat} (h : p n = false) : allB p (n + 1) = false := by show (allB p n && p n) = false; rw [h, Bool.and_false]
theorem allB_3 {p : Nat → Bool} {n : Nat} (h : allB p n = true) (g : p n = true) : allB p (n + 1) = true := by show (allB p n && p n) = true; rw [h, g]; rfl
def SU (a j : Nat) : Bool := a == 72 || a == 68 || (a == 67 && j == 5) || (a == 67 && j == 6)
