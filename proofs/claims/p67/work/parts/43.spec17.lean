/-! the two bridges, the two plans: cells by a base -/
def isBr (β : Nat) : Prop := β = 31 ∨ β = 42
def isPl (q : Nat) : Prop := q = 53 ∨ q = 57
section SHB
variable {β q : Nat}
theorem shB (h : isBr β) : shp β = .inl (1, [0, 0, 0, 0, 0, 0, β + 1 + 3, β + 2 + 3, β + 3 + 3, β + 4 + 3, β + 5 + 3, β + 6 + 3, β + 7 + 3, β + 8 + 3, β + 9 + 3, β + 10 + 3]) := by rcases h with rfl | rfl <;> rfl
theorem shB1 (h : isBr β) : shp (β + 1) = .inr (0, 4) := by rcases h with rfl | rfl <;> rfl
theorem shB2 (h : isBr β) : shp (β + 2) = .inr (0, 12) := by rcases h with rfl | rfl <;> rfl
theorem shB3 (h : isBr β) : shp (β + 3) = .inr (0, 12) := by rcases h with rfl | rfl <;> rfl
theorem shB4 (h : isBr β) : shp (β + 4) = .inr (0, 12) := by rcases h with rfl | rfl <;> rfl
theorem shB5 (h : isBr β) : shp (β + 5) = .inr (0, 12) := by rcases h with rfl | rfl <;> rfl
theorem shB6 (h : isBr β) : shp (β + 6) = .inr (0, 12) := by rcases h with rfl | rfl <;> rfl
theorem shB7 (h : isBr β) : shp (β + 7) = .inr (0, 5) := by rcases h with rfl | rfl <;> rfl
theorem shB8 (h : isBr β) : shp (β + 8) = .inr (0, 5) := by rcases h with rfl | rfl <;> rfl
theorem shB9 (h : isBr β) : shp (β + 9) = .inr (0, 12) := by rcases h with rfl | rfl <;> rfl
theorem shB10 (h : isBr β) : shp (β + 10) = .inr (0, 12) := by rcases h with rfl | rfl <;> rfl
theorem ncB (h : isBr β) {k : Nat} (hk : k ≤ 10) : β + k < NC := by rcases h with rfl | rfl <;> (show _ < 67; omega)
theorem ncB0 (h : isBr β) : β < NC := ncB h (Nat.zero_le _)
theorem shP (h : isPl q) : shp q = .inl (6, [2, q + 1 + 3, q + 2 + 3, q + 3 + 3]) := by rcases h with rfl | rfl <;> rfl
theorem shP1 (h : isPl q) : shp (q + 1) = .inr (0, 144) := by rcases h with rfl | rfl <;> rfl
theorem shP2 (h : isPl q) : shp (q + 2) = .inr (0, 156) := by rcases h with rfl | rfl <;> rfl
theorem shP3 (h : isPl q) : shp (q + 3) = .inr (0, 156) := by rcases h with rfl | rfl <;> rfl
theorem ncP (h : isPl q) {k : Nat} (hk : k ≤ 3) : q + k < NC := by rcases h with rfl | rfl <;> (show _ < 67; omega)
theorem ncP0 (h : isPl q) : q < NC := ncP h (Nat.zero_le _)
theorem br_pl (h : isBr β) (g : isPl q) : β + 10 < q ∧ 31 ≤ β := by rcases h with rfl | rfl <;> rcases g with rfl | rfl <;> omega
end SHB
/-- a bridge's cells agree with the row -/
def BrAt (I : CI) (β : Nat) (σ : Row) : Prop :=
  (I β 0 = σ 0 ∧ I β 1 = σ 1 ∧ I β 2 = σ 2 ∧ I β 3 = σ 3 ∧ I β 4 = σ 4 ∧ I β 5 = σ 5) ∧ (∀ q, q < nLn σ → I (β + 1) q = σ (6 + q)) ∧
  (∀ x, x < nS σ → I (β + 2) x = σ (10 + 5 * x + 0) ∧ I (β + 3) x = σ (10 + 5 * x + 1) ∧ I (β + 4) x = σ (10 + 5 * x + 2) ∧ I (β + 5) x = σ (10 + 5 * x + 3) ∧ I (β + 6) x = σ (10 + 5 * x + 4)) ∧
  (∀ g, g < nG σ → I (β + 7) g = σ (70 + 2 * g + 0) ∧ I (β + 8) g = σ (70 + 2 * g + 1)) ∧ (∀ y, y < 12 → I (β + 9) y = σ (80 + y) ∧ I (β + 10) y = σ (92 + y))
/-- a plan's cells agree with the row -/
def PlAt (I : CI) (q : Nat) (σ : Row) : Prop :=
  (∀ x y, x < 12 → y < 12 → I (q + 1) (y * 12 + x) = pnt σ x y) ∧ (∀ x z, x < nS σ → z ≤ Yn σ → I (q + 2) (x * 13 + z) = (rgS σ x z).1) ∧ (∀ x z, x < nS σ → z < Yn σ → I (q + 3) (x * 13 + z) = (rgS σ x z).2)
section BRA
variable {I J : CI} {β q : Nat} {σ : Row}
theorem BrAt.c0 (h : BrAt I β σ) (hi : Inv σ) : I β 0 = nI (Yn σ) := h.1.1.trans hi.1
theorem BrAt.c3 (h : BrAt I β σ) (hi : Inv σ) : I β 3 = nI (nLn σ) := h.1.2.2.2.1.trans hi.2.2.2.1
theorem BrAt.c4 (h : BrAt I β σ) (hi : Inv σ) : I β 4 = nI (nS σ) := h.1.2.2.2.2.1.trans hi.2.2.2.2.2.1
theorem BrAt.c5 (h : BrAt I β σ) (hi : Inv σ) : I β 5 = nI (nG σ) := h.1.2.2.2.2.2.trans hi.2.2.2.2.2.2.2.1
theorem BrAt.c1 (h : BrAt I β σ) : I β 1 = σ 1 := h.1.2.1
theorem BrAt.c2 (h : BrAt I β σ) : I β 2 = σ 2 := h.1.2.2.1
theorem BrAt.tr (h : BrAt I β σ) {k : Nat} (hk : k < nLn σ) : I (β + 1) k = σ (6 + k) := h.2.1 k hk
theorem BrAt.ln (h : BrAt I β σ) {x : Nat} (hx : x < nS σ) : I (β + 2) x = σ (10 + 5 * x + 0) := (h.2.2.1 x hx).1
theorem BrAt.ar (h : BrAt I β σ) {x : Nat} (hx : x < nS σ) : I (β + 3) x = σ (10 + 5 * x + 1) := (h.2.2.1 x hx).2.1
theorem BrAt.ru (h : BrAt I β σ) {x : Nat} (hx : x < nS σ) : I (β + 4) x = σ (10 + 5 * x + 2) := (h.2.2.1 x hx).2.2.1
theorem BrAt.ra (h : BrAt I β σ) {x : Nat} (hx : x < nS σ) : I (β + 5) x = σ (10 + 5 * x + 3) := (h.2.2.1 x hx).2.2.2.1
theorem BrAt.li (h : BrAt I β σ) {x : Nat} (hx : x < nS σ) : I (β + 6) x = σ (10 + 5 * x + 4) := (h.2.2.1 x hx).2.2.2.2
theorem BrAt.sp (h : BrAt I β σ) {g : Nat} (hg : g < nG σ) : I (β + 7) g = σ (70 + 2 * g + 0) := (h.2.2.2.1 g hg).1
theorem BrAt.wa (h : BrAt I β σ) {g : Nat} (hg : g < nG σ) : I (β + 8) g = σ (70 + 2 * g + 1) := (h.2.2.2.1 g hg).2
theorem BrAt.da (h : BrAt I β σ) {y : Nat} (hy : y < 12) : I (β + 9) y = σ (80 + y) := (h.2.2.2.2 y hy).1
theorem BrAt.cl (h : BrAt I β σ) {y : Nat} (hy : y < 12) : I (β + 10) y = σ (92 + y) := (h.2.2.2.2 y hy).2
theorem BrAt.fr {S : Nat → Nat → Bool} (h : BrAt I β σ) (hF : Fr S I J) (hs : ∀ a j, β ≤ a → a ≤ β + 10 → S a j = false) : BrAt J β σ := by
  have e : ∀ a j, β ≤ a → a ≤ β + 10 → J a j = I a j := fun a j h1 h2 => hF a j (hs a j h1 h2)
  refine ⟨?_, fun k hk => ?_, fun x hx => ?_, fun g hg => ?_, fun y hy => ?_⟩
  · rw [e _ _ (by omega) (by omega), e _ _ (by omega) (by omega), e _ _ (by omega) (by omega), e _ _ (by omega) (by omega), e _ _ (by omega) (by omega), e _ _ (by omega) (by omega)]; exact h.1
  · rw [e _ _ (by omega) (by omega)]; exact h.tr hk
  · rw [e _ _ (by omega) (by omega), e _ _ (by omega) (by omega), e _ _ (by omega) (by omega), e _ _ (by omega) (by omega), e _ _ (by omega) (by omega)]; exact h.2.2.1 x hx
  · rw [e _ _ (by omega) (by omega), e _ _ (by omega) (by omega)]; exact h.2.2.2.1 g hg
  · rw [e _ _ (by omega) (by omega), e _ _ (by omega) (by omega)]; exact h.2.2.2.2 y hy
end BRA
theorem rgF_2 {r0 rt gd : Int32} : ∀ y, (rg r0 rt gd (fun _ => false) y).2 = nI 0
  | 0 => rfl
  | y + 1 => by
    rw [rg_g rfl (by rw [rgF_2 y]; decide)]
    exact rgF_2 y
theorem rgF_s {r0 rt gd : Int32} {y : Nat} : (rg r0 rt gd (fun _ => false) (y + 1)).1 = mn (nI 100) ((rg r0 rt gd (fun _ => false) y).1 + rt) := by
  rw [rg_g rfl (by rw [rgF_2 y]; decide)]
def gqN (σ : Row) (x y : Nat) : Nat × Nat := grN (zR σ x) (zT σ x) (zG σ) (zM σ x) y
theorem gqN_le {σ : Row} (hd : DR σ) {x y : Nat} (hx : x < nS σ) : (gqN σ x y).1 ≤ 100 ∧ (gqN σ x y).2 ≤ zG σ := by
  unfold gqN
  rw [← grN_eq]
  exact rgN_le (z_all hd hx).2.2.1 y
theorem gqN_p {σ : Row} {x y : Nat} (h : gzB σ x y = true) : gqN σ x (y + 1) = (0, zG σ) := by
  show stN _ _ (gzB σ x y) _ = _
  rw [h]; rfl
theorem gqN_n {σ : Row} {x y : Nat} (h : gzB σ x y = false) : gqN σ x (y + 1) = (gwN (zT σ x) (gqN σ x y), (gqN σ x y).2 - 1) := by
  show stN _ _ (gzB σ x y) _ = _
  rw [h]; rfl
theorem mx_dec : ∀ k, k ≤ 10 → (if nI 0 < nI k - nI 1 then nI k - nI 1 else nI 0) = nI (k - 1) := by decide +kernel
theorem PlAt.fr {S : Nat → Nat → Bool} {I J : CI} {q : Nat} {σ : Row} (h : PlAt I q σ) (hF : Fr S I J) (hs : ∀ a j, q ≤ a → a ≤ q + 3 → S a j = false) : PlAt J q σ :=
  ⟨fun x y hx hy => by rw [hF _ _ (hs _ _ (by omega) (by omega))]; exact h.1 x y hx hy, fun x z hx hz => by rw [hF _ _ (hs _ _ (by omega) (by omega))]; exact h.2.1 x z hx hz, fun x z hx hz => by rw [hF _ _ (hs _ _ (by omega) (by omega))]; exact h.2.2 x z hx hz⟩
/-- a plan's paintings agree with the row; so does what follows for a span -/
def GaAt (I : CI) (q : Nat) (σ : Row) : Prop := ∀ x y, x < 12 → y < 12 → I (q + 1) (y * 12 + x) = pnt σ x y
def RuAt (I : CI) (q : Nat) (σ : Row) (x : Nat) : Prop := (∀ z, z ≤ Yn σ → I (q + 2) (x * 13 + z) = (rgS σ x z).1) ∧ (∀ z, z < Yn σ → I (q + 3) (x * 13 + z) = (rgS σ x z).2)
theorem PlAt.of {I : CI} {q : Nat} {σ : Row} (h : GaAt I q σ) (g : ∀ x, x < nS σ → RuAt I q σ x) : PlAt I q σ := ⟨h, fun x z hx hz => (g x hx).1 z hz, fun x z hx hz => (g x hx).2 z hz⟩
theorem PlAt.ru {I : CI} {q : Nat} {σ : Row} (h : PlAt I q σ) {x : Nat} (hx : x < nS σ) : RuAt I q σ x := ⟨fun z hz => h.2.1 x z hx hz, fun z hz => h.2.2 x z hx hz⟩
theorem GaAt.cell {I : CI} {q : Nat} {σ : Row} (h : GaAt I q σ) {c : Nat} (hc : c < 144) : I (q + 1) c = σ (104 + c) - nI 1 := by
  have h1 := h (c % 12) (c / 12) (by omega) (by omega)
  rw [show c / 12 * 12 + c % 12 = c by omega] at h1
  rw [h1]
  unfold pnt
  rw [show 104 + 12 * (c / 12) + c % 12 = 104 + c by omega]
/-- a set of places within the cells lo to hi -/
def inC (lo hi : Nat) (S : Nat → Nat → Bool) : Prop := ∀ a j, S a j = true → lo ≤ a ∧ a ≤ hi
theorem inC.no {lo hi : Nat} {S : Nat → Nat → Bool} (h : inC lo hi S) {a : Nat} (ha : a < lo ∨ hi < a) (j : Nat) : S a j = false := by
  cases hs : S a j with
  | false => rfl
  | true => have := h a j hs; omega
theorem BrAt.frI {S : Nat → Nat → Bool} {I J : CI} {β lo hi : Nat} {σ : Row} (h : BrAt I β σ) (hF : Fr S I J) (hs : inC lo hi S) (hb : β + 10 < lo ∨ hi < β) : BrAt J β σ := h.fr hF (fun a j h1 h2 => hs.no (by omega) j)
theorem PlAt.frI {S : Nat → Nat → Bool} {I J : CI} {q lo hi : Nat} {σ : Row} (h : PlAt I q σ) (hF : Fr S I J) (hs : inC lo hi S) (hb : q + 3 < lo ∨ hi < q) : PlAt J q σ := h.fr hF (fun a j h1 h2 => hs.no (by omega) j)
theorem GaAt.frI {S : Nat → Nat → Bool} {I J : CI} {q lo hi : Nat} {σ : Row} (h : GaAt I q σ) (hF : Fr S I J) (hs : inC lo hi S) (hb : q + 1 < lo ∨ hi < q + 1) : GaAt J q σ := fun x y hx hy => by rw [hF _ _ (hs.no hb _)]; exact h x y hx hy
theorem fr_u2 {I : CI} {k j : Nat} {v : Int32} : Fr (fun a b => a == k && b == j) I (u2 I k j v) := Fr.put Fr.rf (by rw [beq_self_eq_true, beq_self_eq_true]; rfl)
theorem in_u2 {k j : Nat} : inC k k (fun a b => a == k && b == j) := fun a b h => by
  have := beq_iff_eq.mp (Bool.and_eq_true_iff.mp h).1
  omega
theorem BrAt.pu {I : CI} {β k j : Nat} {v : Int32} {σ : Row} (h : BrAt I β σ) (hb : β + 10 < k ∨ k < β) : BrAt (u2 I k j v) β σ := h.frI fr_u2 in_u2 hb
theorem PlAt.pu {I : CI} {q k j : Nat} {v : Int32} {σ : Row} (h : PlAt I q σ) (hb : q + 3 < k ∨ k < q) : PlAt (u2 I k j v) q σ := h.frI fr_u2 in_u2 hb
theorem GaAt.pu {I : CI} {q k j : Nat} {v : Int32} {σ : Row} (h : GaAt I q σ) (hb : q + 1 < k ∨ k < q + 1) : GaAt (u2 I k j v) q σ := h.frI fr_u2 in_u2 hb
theorem RuAt.frI {S : Nat → Nat → Bool} {I J : CI} {q lo hi x : Nat} {σ : Row} (h : RuAt I q σ x) (hF : Fr S I J) (hs : inC lo hi S) (hb : q + 3 < lo ∨ hi < q + 2) : RuAt J q σ x := ⟨fun z hz => by rw [hF _ _ (hs.no (by omega) _)]; exact h.1 z hz, fun z hz => by rw [hF _ _ (hs.no (by omega) _)]; exact h.2 z hz⟩
