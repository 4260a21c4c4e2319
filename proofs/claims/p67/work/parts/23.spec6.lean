theorem up_ind2 {P : Nat → Prop} (n : Nat) (h : ∀ x, x ≤ n → (∀ y, x < y → y ≤ n → P y) → P x) : ∀ x, x ≤ n → P x := by
  intro x hx
  obtain ⟨k, hk⟩ := Nat.exists_eq_add_of_le hx
  induction k using Nat.strongRecOn generalizing x with
  | ind k ih => exact h x hx (fun y h1 h2 => ih (n - y) (by omega) y h2 (by omega))
theorem fstI_cases (p : Nat → Bool) (n : Nat) : (fstI p n = NOTF ∧ ∀ z, z < n → p z = false) ∨ ∃ q, q < n ∧ fstI p n = nI q ∧ p q = true ∧ ∀ z, z < q → p z = false := by
  obtain ⟨h1, h2⟩ := fstN_spec p n
  have h0 := fstN_le p n
  rcases Nat.lt_or_ge (fstN p n) n with q | q
  · exact Or.inr ⟨fstN p n, q, if_pos q, h2 q, h1⟩
  · exact Or.inl ⟨if_neg (by omega), fun z hz => h1 z (by omega)⟩
theorem nI_NOTF {n : Nat} (h : n < 2 ^ 31) : nI n ≠ NOTF := by
  intro z
  have h1 := nI_toInt h
  rw [z] at h1
  have h2 : NOTF.toInt = -1000004 := by decide
  omega
/-! rust in naturals -/
def gwN (rt : Nat) (q : Nat × Nat) : Nat := if q.2 = 0 then min 100 (q.1 + rt) else q.1
def stN (rt gd : Nat) (b : Bool) (q : Nat × Nat) : Nat × Nat := if b = true then (0, gd) else (gwN rt q, q.2 - 1)
def rgN (r0 rt gd : Nat) (pb : Nat → Bool) : Nat → Nat × Nat
  | 0 => (r0, 0)
  | y + 1 => stN rt gd (pb y) (rgN r0 rt gd pb y)
theorem stN_le {rt gd : Nat} {b : Bool} {q : Nat × Nat} (h : q.1 ≤ 100 ∧ q.2 ≤ gd) : (stN rt gd b q).1 ≤ 100 ∧ (stN rt gd b q).2 ≤ gd := by
  unfold stN
  cases b with
  | true => rw [if_pos rfl]; exact ⟨Nat.zero_le _, Nat.le_refl _⟩
  | false =>
    rw [if_neg (by decide)]
    refine ⟨?_, by show q.2 - 1 ≤ gd; omega⟩
    show gwN rt q ≤ 100
    unfold gwN
    split <;> omega
theorem rgN_le {r0 rt gd : Nat} {pb : Nat → Bool} (h0 : r0 ≤ 100) : ∀ y, (rgN r0 rt gd pb y).1 ≤ 100 ∧ (rgN r0 rt gd pb y).2 ≤ gd
  | 0 => ⟨h0, Nat.zero_le _⟩
  | y + 1 => stN_le (rgN_le h0 y)
theorem mn_N {a b : Nat} (ha : a < 2 ^ 31) (hb : b < 2 ^ 31) : mn (nI a) (nI b) = nI (min a b) := by
  unfold mn
  by_cases h : b < a
  · rw [if_pos ((nI_ltI hb ha).mpr h), Nat.min_eq_right (by omega)]
  · rw [if_neg (fun z => h ((nI_ltI hb ha).mp z)), Nat.min_eq_left (by omega)]
theorem rg_N {r0 rt gd : Nat} {pb : Nat → Bool} (h0 : r0 ≤ 100) (ht : rt ≤ 50) (hg : gd ≤ 10) : ∀ y, rg (nI r0) (nI rt) (nI gd) pb y = (nI (rgN r0 rt gd pb y).1, nI (rgN r0 rt gd pb y).2)
  | 0 => rfl
  | y + 1 => by
    have h1 := rg_N (pb := pb) h0 ht hg y
    have h2 := rgN_le (rt := rt) (gd := gd) (pb := pb) h0 y
    show _ = (nI (stN rt gd (pb y) (rgN r0 rt gd pb y)).1, nI (stN rt gd (pb y) (rgN r0 rt gd pb y)).2)
    unfold stN gwN
    cases hb : pb y with
    | true => rw [rg_p hb, if_pos rfl]
    | false =>
      rw [if_neg (by decide)]
      by_cases hz : (rgN r0 rt gd pb y).2 = 0
      · rw [rg_g hb (by rw [h1, hz]; show nI 0 ≤ 0; decide), h1, if_pos hz]
        show (mn (nI 100) (nI _ + nI rt), nI _) = (nI _, nI _)
        rw [nI_add, mn_N (by omega) (by omega), hz]
      · rw [rg_d hb (by rw [h1]; exact nI_nle (by omega) (by omega)), h1, if_neg hz]
        show (nI _, nI _ + Int32.ofInt (-1)) = (nI _, nI _)
        obtain ⟨k, hk⟩ : ∃ k, (rgN r0 rt gd pb y).2 = k + 1 := ⟨(rgN r0 rt gd pb y).2 - 1, by omega⟩
        rw [hk, nI_dec]; rfl
theorem rgN_congr {r0 rt gd : Nat} {pb pb' : Nat → Bool} {n : Nat} (h : ∀ z, z < n → pb z = pb' z) : ∀ z, z ≤ n → rgN r0 rt gd pb z = rgN r0 rt gd pb' z
  | 0, _ => rfl
  | z + 1, hz => by
    show stN rt gd (pb z) _ = stN rt gd (pb' z) _
    rw [h z (by omega), rgN_congr h z (by omega)]
/-! painting as late as possible -/
def grN (r0 rt gd lim : Nat) : Nat → Nat × Nat
  | 0 => (r0, 0)
  | y + 1 => stN rt gd (decide (lim < gwN rt (grN r0 rt gd lim y))) (grN r0 rt gd lim y)
def grB (r0 rt gd lim y : Nat) : Bool := decide (lim < gwN rt (grN r0 rt gd lim y))
theorem grN_eq {r0 rt gd lim : Nat} : ∀ y, rgN r0 rt gd (grB r0 rt gd lim) y = grN r0 rt gd lim y
  | 0 => rfl
  | y + 1 => by
    show stN rt gd _ _ = stN rt gd _ _
    rw [grN_eq y]; rfl
theorem grN_safe {r0 rt gd lim y : Nat} : ¬ lim < (grN r0 rt gd lim (y + 1)).1 := by
  show ¬ lim < (stN rt gd (decide (lim < gwN rt (grN r0 rt gd lim y))) (grN r0 rt gd lim y)).1
  unfold stN
  by_cases h : lim < gwN rt (grN r0 rt gd lim y)
  · rw [decide_eq_true h, if_pos rfl]; exact Nat.not_lt_zero _
  · rw [decide_eq_false h, if_neg (by decide)]; exact h
/-- paintings below p as the latest schedule has them, none from p on -/
def grP (r0 rt gd lim p : Nat) (z : Nat) : Bool := decide (z < p) && grB r0 rt gd lim z
theorem gr_next {r0 rt gd lim p Y : Nat} : fstN (fun z => decide (lim < (rgN r0 rt gd (grP r0 rt gd lim p) (z + 1)).1)) Y = fstN (fun z => decide (p ≤ z) && grB r0 rt gd lim z) Y := by
  obtain ⟨h1, h2⟩ := fstN_spec (fun z => decide (p ≤ z) && grB r0 rt gd lim z) Y
  have h0 := fstN_le (fun z => decide (p ≤ z) && grB r0 rt gd lim z) Y
  obtain ⟨q, hq⟩ : ∃ q, q = fstN (fun z => decide (p ≤ z) && grB r0 rt gd lim z) Y := ⟨_, rfl⟩
  rw [← hq] at h1 h2 h0 ⊢
  have ag : ∀ z, z < q → grP r0 rt gd lim p z = grB r0 rt gd lim z := by
    intro z hz
    have h3 : (decide (p ≤ z) && grB r0 rt gd lim z) = false := h1 z hz
    unfold grP
    by_cases e : z < p
    · rw [decide_eq_true e, Bool.true_and]
    · rw [decide_eq_true (show p ≤ z by omega), Bool.true_and] at h3
      rw [h3, Bool.and_false]
  have st : ∀ z, z ≤ q → rgN r0 rt gd (grP r0 rt gd lim p) z = grN r0 rt gd lim z := fun z hz => (rgN_congr ag z hz).trans (grN_eq z)
  have nb : ∀ z, z < q → decide (lim < (rgN r0 rt gd (grP r0 rt gd lim p) (z + 1)).1) = false := fun z hz => decide_eq_false (by rw [st (z + 1) hz]; exact grN_safe)
  rcases Nat.lt_or_ge q Y with g | g
  · have h3 := h2 g
    obtain ⟨h4, h5⟩ := Bool.and_eq_true_iff.mp h3
    have h6 := of_decide_eq_true h4
    refine fstN_hit g (decide_eq_true ?_) nb
    show lim < (stN rt gd (grP r0 rt gd lim p q) (rgN r0 rt gd (grP r0 rt gd lim p) q)).1
    rw [st q (Nat.le_refl _), show grP r0 rt gd lim p q = false by unfold grP; rw [decide_eq_false (by omega), Bool.false_and]]
    exact of_decide_eq_true h5
  · have e : q = Y := by omega
    rw [e] at nb ⊢
    exact fstN_none nb
theorem orT_more {p : Nat → Bool} {a b : Nat} (hab : a ≤ b) (h : ∀ z, a ≤ z → z < b → p z = false) : orT (setF p) b = orT (setF p) a := by
  induction b with
  | zero => rw [show a = 0 by omega]
  | succ b ih =>
    by_cases e : a = b + 1
    · rw [e]
    · show orT (setF p) b ||| setF p b = _
      rw [setF_f (h b (by omega) (by omega)), or_n0, ih (by omega) (fun z h1 h2 => h z h1 (by omega))]
/-- how many below y have a property -/
def cntB (p : Nat → Bool) : Nat → Nat
  | 0 => 0
  | y + 1 => cntB p y + (if p y = true then 1 else 0)
theorem cntB_le (p : Nat → Bool) : ∀ y, cntB p y ≤ y
  | 0 => Nat.le_refl _
  | y + 1 => by
    have h := cntB_le p y
    show cntB p y + _ ≤ _
    split <;> omega
theorem cntB_mono (p : Nat → Bool) {a b : Nat} (h : a ≤ b) : cntB p a ≤ cntB p b := by
  induction b with
  | zero => rw [show a = 0 by omega]; exact Nat.le_refl _
  | succ b ih =>
    by_cases e : a = b + 1
    · rw [e]; exact Nat.le_refl _
    · have h1 := ih (by omega)
      show _ ≤ cntB p b + _
      omega
theorem cntB_congr {p q : Nat → Bool} : ∀ {n : Nat}, (∀ z, z < n → p z = q z) → cntB p n = cntB q n
  | 0, _ => rfl
  | n + 1, h => by
    show cntB p n + _ = cntB q n + _
    rw [cntB_congr (n := n) (fun z hz => h z (by omega)), h n (by omega)]
/-- one state of rust is no worse than another -/
def beN (a b : Nat × Nat) : Prop := a.1 ≤ b.1 ∧ b.2 ≤ a.2
theorem gwN_mono {rt : Nat} {a b : Nat × Nat} (h : beN a b) (hb : b.1 ≤ 100) : gwN rt a ≤ gwN rt b := by
  obtain ⟨h1, h2⟩ := h
  unfold gwN
  split <;> split <;> omega
theorem gr_opt {r0 rt gd lim : Nat} {pb : Nat → Bool} (h0 : r0 ≤ 100) : ∀ y, (∀ z, z < y → ¬ lim < (rgN r0 rt gd pb (z + 1)).1) →
    cntB (grB r0 rt gd lim) y < cntB pb y ∨ (cntB (grB r0 rt gd lim) y = cntB pb y ∧ beN (grN r0 rt gd lim y) (rgN r0 rt gd pb y))
  | 0, _ => Or.inr ⟨rfl, Nat.le_refl _, Nat.le_refl _⟩
  | y + 1, hs => by
    have ih := gr_opt h0 y (fun z hz => hs z (by omega))
    have hl := rgN_le (rt := rt) (gd := gd) (pb := pb) h0 y
    have hsy := hs y (by omega)
    have hb9 : ∀ b : Bool, beN (0, gd) (stN rt gd b (rgN r0 rt gd pb y)) := fun b => ⟨Nat.zero_le _, (stN_le hl).2⟩
    show cntB (grB r0 rt gd lim) y + (if grB r0 rt gd lim y = true then 1 else 0) < cntB pb y + (if pb y = true then 1 else 0) ∨ (cntB (grB r0 rt gd lim) y + (if grB r0 rt gd lim y = true then 1 else 0) = cntB pb y + (if pb y = true then 1 else 0) ∧ beN (stN rt gd (grB r0 rt gd lim y) (grN r0 rt gd lim y)) (stN rt gd (pb y) (rgN r0 rt gd pb y)))
    have hsy2 : ¬ lim < (stN rt gd (pb y) (rgN r0 rt gd pb y)).1 := hsy
    cases hg : grB r0 rt gd lim y with
    | true =>
      have e1 : stN rt gd true (grN r0 rt gd lim y) = (0, gd) := rfl
      rw [if_pos rfl, e1]
      cases hp : pb y with
      | true =>
        rw [if_pos rfl]
        rcases ih with h | ⟨h, _⟩
        · exact Or.inl (by omega)
        · exact Or.inr ⟨by omega, hb9 true⟩
      | false =>
        rw [if_neg (by decide)]
        rcases ih with h | ⟨h, hbe⟩
        · by_cases q : cntB (grB r0 rt gd lim) y + 1 < cntB pb y
          · exact Or.inl (by omega)
          · exact Or.inr ⟨by omega, hb9 false⟩
        · exfalso
          rw [hp] at hsy2
          have h3 : gwN rt (grN r0 rt gd lim y) ≤ gwN rt (rgN r0 rt gd pb y) := gwN_mono hbe hl.1
          have h4 : lim < gwN rt (grN r0 rt gd lim y) := of_decide_eq_true hg
          exact hsy2 (Nat.lt_of_lt_of_le h4 h3)
    | false =>
      rw [if_neg (by decide)]
      cases hp : pb y with
      | true =>
        rw [if_pos rfl]
        rcases ih with h | ⟨h, _⟩ <;> exact Or.inl (by omega)
      | false =>
        rw [if_neg (by decide)]
        rcases ih with h | ⟨h, hbe⟩
        · exact Or.inl (by omega)
        · refine Or.inr ⟨by omega, gwN_mono hbe hl.1, ?_⟩
          have h5 := hbe.2
          show (rgN r0 rt gd pb y).2 - 1 ≤ (grN r0 rt gd lim y).2 - 1
          omega
/-! a set of bits as a number -/
def setN (p : Nat → Bool) : Nat → Nat
  | 0 => 0
  | n + 1 => setN p n + (if p n = true then 2 ^ n else 0)
theorem setN_lt (p : Nat → Bool) : ∀ n, setN p n < 2 ^ n
  | 0 => Nat.one_pos
  | n + 1 => by
    have h := setN_lt p n
    show setN p n + _ < 2 ^ (n + 1)
    rw [Nat.pow_succ]
    split <;> omega
theorem bt_nI (k : Nat) {i : Nat} (hi : i < 32) : bt (nI k) i = k.testBit i := by
  show (BitVec.ofNat 32 k).getLsbD i = _
  rw [BitVec.getLsbD_ofNat, decide_eq_true hi, Bool.true_and]
theorem setN_bit (p : Nat → Bool) : ∀ n i, (setN p n).testBit i = (decide (i < n) && p i)
  | 0, i => by simp [setN]
  | n + 1, i => by
    have h := setN_bit p n i
    have hl := setN_lt p n
    show (setN p n + (if p n = true then 2 ^ n else 0)).testBit i = _
    cases hp : p n with
    | true =>
      rw [if_pos rfl]
      rcases Nat.lt_trichotomy i n with q | q | q
      · rw [Nat.add_comm, Nat.testBit_two_pow_add_gt q, h, decide_eq_true q, decide_eq_true (show i < n + 1 by omega)]
      · subst q
        rw [Nat.add_comm, Nat.testBit_two_pow_add_eq, h, decide_eq_false (Nat.lt_irrefl _), decide_eq_true (show i < i + 1 by omega), hp]; rfl
      · have h3 : setN p n + 2 ^ n < 2 ^ i := by
          have : 2 ^ (n + 1) ≤ 2 ^ i := Nat.pow_le_pow_right (by decide) q
          rw [Nat.pow_succ] at this
          omega
        rw [Nat.testBit_lt_two_pow h3, decide_eq_false (by omega), Bool.false_and]
    | false =>
      rw [if_neg (by decide), Nat.add_zero, h]
      by_cases q : i = n
      · subst q
        rw [hp, Bool.and_false, Bool.and_false]
      · have : decide (i < n) = decide (i < n + 1) := decide_eq_decide.mpr (by omega)
        rw [this]
theorem setN_I (p : Nat → Bool) {n : Nat} (hn : n ≤ 32) : nI (setN p n) = orT (setF p) n := by
  apply b_ext
  intro i hi
  rw [bt_nI _ hi, setN_bit, bt_setF p hn hi]
theorem bit1 (v : Int32) {k : Nat} (hk : k < 32) : (v >>> (nI k &&& 31)) &&& nI 1 = if bitB v k = true then nI 1 else nI 0 := by
  apply b_ext
  intro i hi
  rw [b_and, b_1 i hi]
  by_cases hz : i = 0
  · subst hz
    rw [b_sshr k hk v (i := 0) (by decide), if_pos (by omega), Nat.add_zero, bitB_bt _ hk]
    cases bt v k <;> simp [b_1, b_n0]
  · rw [decide_eq_false hz, Bool.and_false]
    split
    · rw [b_1 i hi, decide_eq_false hz]
    · rw [b_n0]
theorem sum_bits (v : Int32) : ∀ n, n ≤ 32 → sumT (fun k => (v >>> (nI k &&& 31)) &&& nI 1) n = nI (cntB (bitB v) n)
  | 0, _ => rfl
  | n + 1, hn => by
    show sumT _ n + ((v >>> (nI n &&& 31)) &&& nI 1) = nI (cntB (bitB v) n + _)
    rw [sum_bits v n (by omega), bit1 v (by omega)]
    split <;> rw [nI_add]
theorem cnt16_N (v : Int32) : cnt16 v = nI (cntB (bitB v) 16) := sum_bits v 16 (by decide)
theorem cntB_zero {p : Nat → Bool} {a b : Nat} (hab : a ≤ b) (h : ∀ z, a ≤ z → z < b → p z = false) : cntB p b = cntB p a := by
  induction b with
  | zero => rw [show a = 0 by omega]
  | succ b ih =>
    by_cases e : a = b + 1
    · rw [e]
    · show cntB p b + _ = _
      rw [if_neg (by rw [h b (by omega) (by omega)]; decide), ih (by omega) (fun z h1 h2 => h z h1 (by omega))]; rfl
/-! the numbers of a span -/
def zR (σ : Row) (x : Nat) : Nat := tN (σ (10 + 5 * x + 2))
def zT (σ : Row) (x : Nat) : Nat := tN (σ (10 + 5 * x + 3))
def zM (σ : Row) (x : Nat) : Nat := tN (σ (10 + 5 * x + 4))
def zA (σ : Row) (x : Nat) : Nat := tN (σ (10 + 5 * x + 1))
def zG (σ : Row) : Nat := tN (σ 2)
theorem z_all {σ : Row} (hd : DR σ) {x : Nat} (hx : x < nS σ) : 1 ≤ zA σ x ∧ zA σ x ≤ 99 ∧ zR σ x ≤ 100 ∧ 1 ≤ zT σ x ∧ zT σ x ≤ 50 ∧ 1 ≤ zM σ x ∧ zM σ x ≤ 100 ∧ σ (10 + 5 * x + 1) = nI (zA σ x) ∧ σ (10 + 5 * x + 2) = nI (zR σ x) ∧ σ (10 + 5 * x + 3) = nI (zT σ x) ∧ σ (10 + 5 * x + 4) = nI (zM σ x) ∧ zG σ ≤ 10 ∧ σ 2 = nI (zG σ) := by
  obtain ⟨a, r, t, m, ha1, ha, hr, ht1, ht, hm1, hm, e1, e2, e3, e4⟩ := hd.2.2.2.1 x hx
  obtain ⟨g, hg, e5⟩ := hd.2.2.2.2.2.1
  unfold zA zR zT zM zG
  rw [e1, e2, e3, e4, e5, tN_nI (by omega), tN_nI (by omega), tN_nI (by omega), tN_nI (by omega), tN_nI (by omega)]
  exact ⟨ha1, ha, hr, ht1, ht, hm1, hm, rfl, rfl, rfl, rfl, hg, rfl⟩
def rgZ (σ : Row) (x : Nat) (pb : Nat → Bool) : Nat → Nat × Nat := rgN (zR σ x) (zT σ x) (zG σ) pb
theorem rgB_Z {σ : Row} (hd : DR σ) {x : Nat} (hx : x < nS σ) (pb : Nat → Bool) (y : Nat) : rgB σ x pb y = (nI (rgZ σ x pb y).1, nI (rgZ σ x pb y).2) := by
  obtain ⟨_, _, h3, _, h5, _, _, _, e2, e3, _, h6, e5⟩ := z_all hd hx
  unfold rgB
  rw [e2, e3, e5]
  exact rg_N h3 h5 h6 y
theorem rgZ_le {σ : Row} (hd : DR σ) {x : Nat} (hx : x < nS σ) (pb : Nat → Bool) (y : Nat) : (rgZ σ x pb y).1 ≤ 100 ∧ (rgZ σ x pb y).2 ≤ zG σ := rgN_le (z_all hd hx).2.2.1 y
theorem past_Z {σ : Row} (hd : DR σ) {x : Nat} (hx : x < nS σ) (pb : Nat → Bool) (z : Nat) : decide (σ (10 + 5 * x + 4) < (rgB σ x pb z).1) = decide (zM σ x < (rgZ σ x pb z).1) := by
  obtain ⟨_, _, _, _, _, _, h7, _, _, _, e4, _, _⟩ := z_all hd hx
  have h8 := rgZ_le hd hx pb z
  rw [rgB_Z hd hx, e4]
  exact decide_eq_decide.mpr (nI_ltI (by omega) (by omega))
theorem fpB_Z {σ : Row} (hd : DR σ) {x : Nat} (hx : x < nS σ) (pb : Nat → Bool) : fpB σ x pb = fstI (fun z => decide (zM σ x < (rgZ σ x pb (z + 1)).1)) (Yn σ) := by
  unfold fpB
  exact fstI_congr (fun z _ => past_Z hd hx pb (z + 1))
def gzB (σ : Row) (x : Nat) : Nat → Bool := grB (zR σ x) (zT σ x) (zG σ) (zM σ x)
theorem gz_bit {σ : Row} {x p z : Nat} (hp : p ≤ 12) (hz : z < 12) : bitB (orT (setF (gzB σ x)) p) z = grP (zR σ x) (zT σ x) (zG σ) (zM σ x) p z := by
  rw [bitB_bt _ (by omega), bt_setF _ (by omega) (by omega)]
  rfl
theorem gz_next {σ : Row} (hd : DR σ) (hi : Inv σ) {x p : Nat} (hx : x < nS σ) (hp : p ≤ Yn σ) : fpB σ x (bitB (orT (setF (gzB σ x)) p)) = fstI (fun z => decide (p ≤ z) && gzB σ x z) (Yn σ) := by
  obtain ⟨_, _, hY12, _⟩ := id hi
  rw [fpB_le hY12 (fun z hz => gz_bit (σ := σ) (x := x) (by omega) hz), fpB_Z hd hx]
  have h := gr_next (r0 := zR σ x) (rt := zT σ x) (gd := zG σ) (lim := zM σ x) (p := p) (Y := Yn σ)
  unfold fstI rgZ
  rw [h]
  rfl
theorem gz_last {σ : Row} (hd : DR σ) (hi : Inv σ) {x p : Nat} (hx : x < nS σ) (hp : p ≤ Yn σ) (h : fpB σ x (bitB (orT (setF (gzB σ x)) p)) = NOTF) : orT (setF (gzB σ x)) p = orT (setF (gzB σ x)) (Yn σ) := by
  rw [gz_next hd hi hx hp] at h
  rcases fstI_cases (fun z => decide (p ≤ z) && gzB σ x z) (Yn σ) with ⟨_, h2⟩ | ⟨q, hq, h2, _⟩
  · refine (orT_more hp (fun z h3 h4 => ?_)).symm
    have h5 : (decide (p ≤ z) && gzB σ x z) = false := h2 z h4
    rw [decide_eq_true h3, Bool.true_and] at h5
    exact h5
  · obtain ⟨_, _, hY12, _⟩ := id hi
    rw [h2] at h
    exact absurd h (nI_NOTF (by omega))
theorem gz_hop {σ : Row} (hd : DR σ) (hi : Inv σ) {x p : Nat} (hx : x < nS σ) (hp : p ≤ Yn σ) (h : ¬ fpB σ x (bitB (orT (setF (gzB σ x)) p)) = NOTF) : ∃ q, p ≤ q ∧ q < Yn σ ∧ fpB σ x (bitB (orT (setF (gzB σ x)) p)) = nI q ∧ orT (setF (gzB σ x)) p ||| nI 1 <<< (nI q &&& 31) = orT (setF (gzB σ x)) (q + 1) := by
  rw [gz_next hd hi hx hp] at h ⊢
  rcases fstI_cases (fun z => decide (p ≤ z) && gzB σ x z) (Yn σ) with ⟨h2, _⟩ | ⟨q, hq, h2, h3, h4⟩
  · exact absurd h2 h
  · obtain ⟨h5, h6⟩ := Bool.and_eq_true_iff.mp h3
    have h7 := of_decide_eq_true h5
    refine ⟨q, h7, hq, h2, ?_⟩
    show _ = orT (setF (gzB σ x)) q ||| setF (gzB σ x) q
    rw [setF_t h6, orT_more h7 (fun z h8 h9 => ?_)]
    have h10 : (decide (p ≤ z) && gzB σ x z) = false := h4 z h9
    rw [decide_eq_true h8, Bool.true_and] at h10
    exact h10
/-- the year of the k-th painting of the latest schedule -/
def lpY (σ : Row) (x : Nat) (v : Int32) : Int32 := fstI (fun y => gzB σ x y && decide (nI (cntB (gzB σ x) y) = v)) (Yn σ)
def coN (σ : Row) (x : Nat) : Nat := cntB (gzB σ x) (Yn σ)
def cnOK (σ : Row) (x n k : Nat) : Prop := cnt16 (nI k) = nI n ∧ fpB σ x (bitB (nI k)) = NOTF
theorem coz_low {σ : Row} (hd : DR σ) (hi : Inv σ) {x n k : Nat} (hx : x < nS σ) (hk : k < 2 ^ Yn σ) (hn : n < 2 ^ 31) (h : cnOK σ x n k) : coN σ x ≤ n := by
  obtain ⟨h1, h2⟩ := h
  obtain ⟨_, _, hY12, _⟩ := id hi
  have h3 := (z_all hd hx).2.2.1
  rw [fpB_Z hd hx] at h2
  rcases fstI_cases (fun z => decide (zM σ x < (rgZ σ x (bitB (nI k)) (z + 1)).1)) (Yn σ) with ⟨_, h4⟩ | ⟨q, hq, h4, _⟩
  · have h5 := gr_opt (rt := zT σ x) (gd := zG σ) (lim := zM σ x) (pb := bitB (nI k)) h3 (Yn σ) (fun z hz => of_decide_eq_false (h4 z hz))
    rw [cnt16_N] at h1
    have h6 := cntB_le (bitB (nI k)) 16
    have h7 : cntB (bitB (nI k)) 16 = n := nI_inj (by omega) hn h1
    have h8 : cntB (bitB (nI k)) (Yn σ) ≤ n := by rw [← h7]; exact cntB_mono _ (by omega)
    have h9 : cntB (grB (zR σ x) (zT σ x) (zG σ) (zM σ x)) (Yn σ) ≤ cntB (bitB (nI k)) (Yn σ) := by rcases h5 with h | h <;> omega
    exact Nat.le_trans h9 h8
  · rw [h4] at h2
    exact absurd h2 (nI_NOTF (by omega))
theorem coz_has {σ : Row} (hd : DR σ) (hi : Inv σ) {x : Nat} (hx : x < nS σ) : ∃ k, k < 2 ^ Yn σ ∧ cnOK σ x (coN σ x) k := by
  obtain ⟨_, _, hY12, _⟩ := id hi
  have hg : fpB σ x (bitB (orT (setF (gzB σ x)) (Yn σ))) = NOTF := by
    rw [gz_next hd hi hx (Nat.le_refl _)]
    exact fstI_none (fun z hz => by rw [decide_eq_false (by omega), Bool.false_and])
  refine ⟨setN (gzB σ x) (Yn σ), setN_lt _ _, ?_, ?_⟩
  · rw [cnt16_N, setN_I _ (by omega)]
    have e1 : cntB (bitB (orT (setF (gzB σ x)) (Yn σ))) 16 = cntB (bitB (orT (setF (gzB σ x)) (Yn σ))) (Yn σ) := cntB_zero (by omega) (fun z h1 h2 => by
      rw [bitB_bt _ (by omega), bt_setF _ (by omega) (by omega), decide_eq_false (by omega), Bool.false_and])
    rw [e1, cntB_congr (fun z hz => bitB_setF (gzB σ x) hY12 hz)]
    rfl
  · rw [setN_I _ (by omega)]
    exact hg
theorem coz_hit {σ : Row} (hd : DR σ) (hi : Inv σ) {x n k : Nat} (hx : x < nS σ) (hk : k < 2 ^ Yn σ) (hn : n ≤ Yn σ) (h : cnOK σ x n k) (hb : ∀ z, z < n → ∀ k, k < 2 ^ Yn σ → ¬ cnOK σ x z k) : nI n = nI (coN σ x) := by
  obtain ⟨_, _, hY12, _⟩ := id hi
  have h1 := coz_low hd hi hx hk (by omega) h
  obtain ⟨k2, h2, h3⟩ := coz_has hd hi hx
  rcases Nat.lt_or_ge (coN σ x) n with q | q
  · exact absurd h3 (hb _ q k2 h2)
  · rw [show n = coN σ x by omega]
theorem coz_none {σ : Row} (hd : DR σ) (hi : Inv σ) {x : Nat} (hx : x < nS σ) (hb : ∀ z, z < Yn σ → ∀ k, k < 2 ^ Yn σ → ¬ cnOK σ x z k) : nI (Yn σ) = nI (coN σ x) := by
  obtain ⟨k2, h2, h3⟩ := coz_has hd hi hx
  have h1 : coN σ x ≤ Yn σ := cntB_le _ _
  rcases Nat.lt_or_ge (coN σ x) (Yn σ) with q | q
  · exact absurd h3 (hb _ q k2 h2)
  · rw [show Yn σ = coN σ x by omega]
theorem two_Y {σ : Row} (hi : Inv σ) : nI 1 <<< (nI (Yn σ) &&& 31) = nI (2 ^ Yn σ) := by
  obtain ⟨_, _, hY12, _⟩ := id hi
  have : ∀ y, y ≤ 12 → nI 1 <<< (nI y &&& 31) = nI (2 ^ y) := by decide +kernel
  exact this _ hY12
theorem two_le {σ : Row} (hi : Inv σ) : 2 ^ Yn σ ≤ 4096 := by
  obtain ⟨_, _, hY12, _⟩ := id hi
  exact Nat.pow_le_pow_right (by decide) hY12 (n := 2)
theorem bit_eq0 {v : Int32} {k : Nat} (hk : k < 32) : ((v >>> (nI k &&& 31)) &&& nI 1 = 0) ↔ bitB v k = false := by
  rw [bit1 v hk]
  cases bitB v k with
  | true => exact ⟨fun h => absurd h (by decide), fun h => by cases h⟩
  | false => exact ⟨fun _ => rfl, fun _ => rfl⟩
