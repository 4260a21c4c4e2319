/-! arraycopy of ints; what following the rust of a span writes -/
def uR (I : CI) (b : Nat) (f : Nat → Int32) : CI := fun a => if a = b then f else I a
theorem uR_eq {I : CI} {b : Nat} {f : Nat → Int32} : uR I b f b = f := if_pos rfl
theorem uR_ne {I : CI} {a b : Nat} {f : Nat → Int32} (h : a ≠ b) : uR I b f a = I a := if_neg h
theorem fr_uR {I : CI} {b : Nat} {f : Nat → Int32} : Fr (SC b) I (uR I b f) := fun a j h => by
  rw [uR_ne (fun z => by rw [z, SC_eq] at h; cases h)]
theorem in_SC {b : Nat} : inC b b (SC b) := fun a j h => by
  have : a = b := beq_iff_eq.mp h
  omega
theorem nfw : nativeFrameWords "java/lang/System" "arraycopy" 5 = 7 := by decide +kernel
section RC
variable {p : Program} {l : Launch} {e : Env} {Rm : Room} {s : State} {m : MethodId} {args : Array Value} {below : List Frame} {meth : Method} {c : Code} {H : Heap} {locs : List Loc} {cells slots : Nat} {Q : State → Prop}
variable {cc : ByteArray} {pc nL : Nat} {ls : Array Slot} {rest : List Value} {own : String} {G : va_G} {bs : Nat} {cy : Nat → ClassId} {I : CI} {L : CL} {R : CR} {H0 : Heap}
theorem nI_nn {n : Nat} (h : n < 2 ^ 31) : ¬ nI n < 0 := Int32.not_lt.mpr (by
  rw [Int32.le_iff_toInt_le, nI_toInt h]
  show (0 : Int32).toInt ≤ _
  rw [show (0 : Int32).toInt = 0 by decide]
  omega)
theorem r_copy (X : Cx p s m args c cc nL own G bs cy) (hW : Wd G bs cy I L R H) (hS : va_S (Aq bs) H0 H locs) {n : Nat} (hR : RmOK Rm n) (hn : 1 ≤ n) {idx : Nat} (hl : Cond.methodLink own idx arraycopyName ∈ wsL_law) {a b na nb : Nat} (hka : shp a = .inr (0, na)) (hNa : a < NC) (hkb : shp b = .inr (0, nb)) (hNb : b < NC) {fr at9 cn : Nat} (h1 : fr + cn ≤ na) (h2 : at9 + cn ≤ nb) (hnn : na < 100000 ∧ nb < 100000) (hrest : (rest.map fun v => v.category).sum ≤ 8) {lv : List (Nat × Value)} (hl2 : lv_has ls nL lv) (hdg : decode cc pc = .ok (.invokestatic idx, 3))
    (kk : ∀ (H1 : Heap) (locs1 : List Loc), Wd G bs cy (uR I b (cpR (I a) (I b) fr at9 cn)) L R H1 → va_S (Aq bs) H0 H1 locs1 → W p l e Rm s m args below meth c H1 locs1 cells slots Q (F0 m (pc + 3) ls rest)) :
    W p l e Rm s m args below meth c H locs cells slots Q (F0 m pc ls (.int (nI cn) :: .int (nI at9) :: .ref (bs + b) :: .int (nI fr) :: .ref (bs + a) :: rest)) := by
  obtain ⟨hx, hb, hml, hown, hts, hK, hE⟩ := X
  have e1 : (nI fr).toNatClampNeg = fr := nI_clamp (by omega)
  have e2 : (nI at9).toNatClampNeg = at9 := nI_clamp (by omega)
  have e3 : (nI cn).toNatClampNeg = cn := nI_clamp (by omega)
  refine va_copyi hx hb (hml.trans hl2.1.symm) hown (hts _ hl) (hts _ WK_258) (hts _ WK_259) (hts _ WK_260) hK hW (wl_D hE.2.2.2.1) hS a b 0 0 (wl_arr hka hNa (by omega)) (wl_arr hkb hNb (by omega)) rfl rfl rfl (nI_nn (by omega)) (nI_nn (by omega)) (nI_nn (by omega)) (by rw [e1, e3]; exact h1) (by rw [e2, e3]; exact h2) (fun _ _ => rfl) (by rw [hR.1]; exact hn) (by rw [hR.2, nfw]; omega) hdg (fun H1 locs1 hP _ hS1 => kk H1 locs1 ?_ hS1)
  rw [e1, e2, e3, wl_set hNb (I' := uR I b (cpR (I a) (I b) fr at9 cn)) (L' := L) (R' := R) (fun a h => uR_ne h) (fun _ _ => rfl) (fun _ _ => rfl) (fun _ => by rw [hkb, uR_eq]; rfl)] at hP
  exact hP
end RC
def rowM (I : CI) (k o n : Nat) (f : Nat → Int32) : Prop := ∀ z, z < n → I k (o + z) = f z
theorem rowM.zero {I : CI} {k o : Nat} {f : Nat → Int32} : rowM I k o 0 f := fun z hz => absurd hz (Nat.not_lt_zero z)
theorem rowM.ext {I : CI} {k o y : Nat} {v : Int32} {f : Nat → Int32} (h : rowM I k o y f) (hv : v = f y) : rowM (u2 I k (o + y) v) k o (y + 1) f := by
  intro z hz
  rw [u2_eq]
  by_cases e : z = y
  · rw [e, upd_eq, hv]
  · rw [upd_ne (by omega)]
    exact h z (by omega)
theorem rowM.keep {I : CI} {k k' o j n : Nat} {v : Int32} {f : Nat → Int32} (h : rowM I k o n f) (hk : k ≠ k') : rowM (u2 I k' j v) k o n f := fun z hz => by
  rw [u2_ne hk]
  exact h z hz
def SRu (q x a j : Nat) : Bool := (a == q + 2 || a == q + 3) && decide (x * 13 ≤ j ∧ j < x * 13 + 13)
def SRw (q a j : Nat) : Bool := a == q + 2 || a == q + 3
def SPu (q a j : Nat) : Bool := a == q + 1 || a == q + 2 || a == q + 3
theorem SRu_2 {q x j : Nat} (h1 : x * 13 ≤ j) (h2 : j < x * 13 + 13) : SRu q x (q + 2) j = true := by
  unfold SRu
  rw [beq_self_eq_true, decide_eq_true ⟨h1, h2⟩]; rfl
theorem SRu_3 {q x j : Nat} (h1 : x * 13 ≤ j) (h2 : j < x * 13 + 13) : SRu q x (q + 3) j = true := by
  unfold SRu
  rw [beq_self_eq_true, decide_eq_true ⟨h1, h2⟩, Bool.or_true]; rfl
theorem SPu_1 {q j : Nat} : SPu q (q + 1) j = true := by
  unfold SPu
  rw [beq_self_eq_true]; rfl
theorem SRu_in {q x : Nat} : inC (q + 2) (q + 3) (SRu q x) := fun a j h => by
  simp only [SRu, Bool.or_eq_true, Bool.and_eq_true, beq_iff_eq, decide_eq_true_eq] at h; omega
theorem SRw_in {q : Nat} : inC (q + 2) (q + 3) (SRw q) := fun a j h => by
  simp only [SRw, Bool.or_eq_true, Bool.and_eq_true, beq_iff_eq, decide_eq_true_eq] at h; omega
theorem SPu_in {q : Nat} : inC (q + 1) (q + 3) (SPu q) := fun a j h => by
  simp only [SPu, Bool.or_eq_true, Bool.and_eq_true, beq_iff_eq, decide_eq_true_eq] at h; omega
theorem SRu_RuAt {I J : CI} {q x z : Nat} {σ : Row} (h : RuAt I q σ z) (hF : Fr (SRu q x) I J) (hz : z ≠ x) (hY : Yn σ ≤ 12) : RuAt J q σ z := by
  have e : ∀ a j, z * 13 ≤ j → j < z * 13 + 13 → SRu q x a j = false := fun a j h1 h2 => by
    unfold SRu
    rw [decide_eq_false (fun w => by omega), Bool.and_false]
  exact ⟨fun y hy => by rw [hF _ _ (e _ _ (by omega) (by omega))]; exact h.1 y hy, fun y hy => by rw [hF _ _ (e _ _ (by omega) (by omega))]; exact h.2 y hy⟩
theorem GaAt.put {I : CI} {q x y : Nat} {g : Int32} {σ : Row} (h : GaAt I q σ) (hx : x < 12) (hy : y < 12) : GaAt (u2 I (q + 1) (y * 12 + x) g) q (setP σ x y g) := by
  intro a b ha hb
  rw [pnt_setP hx ha]
  by_cases e : a = x ∧ b = y
  · rw [if_pos e, e.1, e.2, u2_at]
  · rw [if_neg e, u2_off (Or.inr (by omega))]
    exact h a b ha hb
theorem BrAt_Sm {I : CI} {β : Nat} {σ τ : Row} (h : BrAt I β σ) (hm : Sm σ τ) (hi : Inv σ) : BrAt I β τ := by
  obtain ⟨hY, hY1, hY12, hLn, hL4, hSn, hS12, hGn, hG5⟩ := id hi
  obtain ⟨⟨a0, a1, a2, a3, a4, a5⟩, b1, b2, b3, b4⟩ := h
  refine ⟨⟨?_, ?_, ?_, ?_, ?_, ?_⟩, fun k hk => ?_, fun x hx => ?_, fun g hg => ?_, fun y hy => ?_⟩
  · rw [hm _ (by omega)]; exact a0
  · rw [hm _ (by omega)]; exact a1
  · rw [hm _ (by omega)]; exact a2
  · rw [hm _ (by omega)]; exact a3
  · rw [hm _ (by omega)]; exact a4
  · rw [hm _ (by omega)]; exact a5
  · rw [hm.L] at hk; rw [hm _ (by omega)]; exact b1 k hk
  · rw [hm.S] at hx; rw [hm _ (by omega), hm _ (by omega), hm _ (by omega), hm _ (by omega), hm _ (by omega)]; exact b2 x hx
  · rw [hm.G] at hg; rw [hm _ (by omega), hm _ (by omega)]; exact b3 g hg
  · rw [hm _ (by omega), hm _ (by omega)]; exact b4 y hy
theorem RuAt_setP {I : CI} {q x y z : Nat} {g : Int32} {σ : Row} (h : RuAt I q σ z) (hz : z ≠ x) (hx : x < 12) (hz2 : z < 12) : RuAt I q (setP σ x y g) z := by
  have e : ∀ w, rgS (setP σ x y g) z w = rgS σ z w := fun w => rgS_Sm Sm_setP hz2 (fun u _ => by rw [pnt_setP hx hz2, if_neg (fun v => hz v.1)])
  exact ⟨fun w hw => by rw [e]; rw [Yn_setP] at hw; exact h.1 w hw, fun w hw => by rw [e]; rw [Yn_setP] at hw; exact h.2 w hw⟩
theorem r_aald {p : Program} {l : Launch} {e : Env} {Rm : Room} {s : State} {m : MethodId} {args : Array Value} {below : List Frame} {meth : Method} {c : Code} {H : Heap} {locs : List Loc} {cells slots : Nat} {Q : State → Prop} {cc : ByteArray} {pc nL : Nat} {ls : Array Slot} {rest : List Value} {own : String} {G : va_G} {bs : Nat} {cy : Nat → ClassId} {I : CI} {L : CL} {R : CR} {k : Nat}
    (X : Cx p s m args c cc nL own G bs cy) (hW : Wd G bs cy I L R H) {n : Nat} (hk : shp k = .inr (4, n)) (hN : k < NC) {x : Int32} {j : Nat} (hx : x = nI j) (hj : j < n) (hn : n < 2 ^ 31) (hdg : decode cc pc = .ok (.aaload, 1))
    (kk : W p l e Rm s m args below meth c H locs cells slots Q (F0 m (pc + 1) ls (.ref (bs + (11 + j)) :: rest))) : W p l e Rm s m args below meth c H locs cells slots Q (F0 m pc ls (.int x :: .ref (bs + k) :: rest)) := by
  subst hx
  have e1 : (va_rf (some (bs + 11 + j)) : Value) = .ref (bs + (11 + j)) := by rw [Nat.add_assoc]; rfl
  rw [← e1] at kk
  have hin := vp_in_nI hj hn
  have e2 : (nI j).toNatClampNeg = j := nI_clamp (by omega)
  exact W.aald (v := va_rf (some (bs + 11 + j))) (ty := .array .int) X.1 X.2.1 (hW k _ (wl_arr hk hN (by omega))) ((X.2.2.2.2.2.1.2 4 _ rfl).1 n (fun j => va_rf (some (bs + 11 + j)))) rfl (fun q => by cases q) (by show ¬ (nI j < 0 ∨ (arrV _ _ _).slots.size ≤ _); rw [arrV_size]; exact hin) (by rw [e2]; show (arrV _ _ _).slots[_]? = _; rw [arrV_read _ _ hj]) rfl rfl hdg kk
theorem shH : ∀ {j : Nat}, j < 16 → shp (11 + j) = .inr (0, 186) := by
  have h : ∀ j, j < 16 → shp (11 + j) = .inr (0, 186) := by decide +kernel
  exact fun {j} hj => h j hj
theorem ncH {j : Nat} (h : j < 16) : 11 + j < NC := by show _ < 67; omega
theorem GaAt_fill {I : CI} {q : Nat} {σ : Row} {f : Nat → Int32} (h : I (q + 1) = flR f (-1) 144) : GaAt I q (clP σ) := fun x y hx hy => by
  rw [pnt_cl hx hy, h]
  exact if_pos (by omega)
theorem u2R_at {R : CR} {k j v : Nat} : u2R R k j v k j = v := by simp [u2R]
theorem u2R_off {R : CR} {k j v a b : Nat} (h : a ≠ k ∨ b ≠ j) : u2R R k j v a b = R a b := by
  unfold u2R
  by_cases e : a = k
  · rw [if_pos e]
    rcases h with h | h
    · exact absurd e h
    · show (if b = j then v else R a b) = _
      rw [if_neg h]
  · rw [if_neg e]
/-- a saved row: all that an edit can change -/
def SvB (f : Nat → Int32) (σ : Row) : Prop := (∀ y, y < 12 → f y = σ (80 + y) ∧ f (12 + y) = σ (92 + y)) ∧ (∀ x, x < nS σ → f (24 + x) = σ (10 + 5 * x + 3)) ∧ (∀ g, g < nG σ → f (36 + g) = σ (70 + 2 * g + 0)) ∧ f 41 = σ 1
def SvP (f : Nat → Int32) (σ : Row) : Prop := ∀ c, c < 144 → f (42 + c) = σ (104 + c) - nI 1
def Svd (f : Nat → Int32) (σ : Row) : Prop := SvB f σ ∧ SvP f σ
/-- two rows that differ at most in what an edit can change -/
def Sta (σ τ : Row) : Prop := (∀ j, j = 0 ∨ (2 ≤ j ∧ j < 10) → τ j = σ j) ∧ (∀ x, x < 12 → τ (10 + 5 * x + 0) = σ (10 + 5 * x + 0) ∧ τ (10 + 5 * x + 1) = σ (10 + 5 * x + 1) ∧ τ (10 + 5 * x + 2) = σ (10 + 5 * x + 2) ∧ τ (10 + 5 * x + 4) = σ (10 + 5 * x + 4)) ∧ (∀ g, g < 5 → τ (70 + 2 * g + 1) = σ (70 + 2 * g + 1))
theorem Sta.S {σ τ : Row} (h : Sta σ τ) : nS τ = nS σ := by unfold nS; rw [h.1 4 (by omega)]
theorem Sta.G {σ τ : Row} (h : Sta σ τ) : nG τ = nG σ := by unfold nG; rw [h.1 5 (by omega)]
theorem Sta.L {σ τ : Row} (h : Sta σ τ) : nLn τ = nLn σ := by unfold nLn; rw [h.1 3 (by omega)]
theorem Sta.Y {σ τ : Row} (h : Sta σ τ) : Yn τ = Yn σ := by unfold Yn; rw [h.1 0 (by omega)]
theorem SvP.ga {I : CI} {h q : Nat} {σ : Row} {f : Nat → Int32} (hs : SvP (I h) σ) (e : I (q + 1) = cpR (I h) f 42 0 144) : GaAt I q σ := by
  intro x y hx hy
  have h1 := hs (y * 12 + x) (by omega)
  rw [e]
  unfold cpR
  rw [if_pos (by omega), show 42 + (y * 12 + x - 0) = 42 + (y * 12 + x) by omega, h1]
  unfold pnt
  rw [show 104 + (y * 12 + x) = 104 + 12 * y + x by omega]
theorem SvP.of {I J : CI} {h q : Nat} {σ : Row} {f : Nat → Int32} (hg : GaAt I q σ) (e : J h = cpR (I (q + 1)) f 0 42 144) : SvP (J h) σ := by
  intro c hc
  rw [e]
  unfold cpR
  rw [if_pos (by omega), show 0 + (42 + c - 42) = c by omega]
  exact hg.cell hc
def SB9 (β a j : Nat) : Bool := decide (β ≤ a ∧ a ≤ β + 10)
theorem SB9_in {β : Nat} : inC β (β + 10) (SB9 β) := fun a j h => of_decide_eq_true h
theorem SB9_0 {β j : Nat} : SB9 β β j = true := decide_eq_true (by omega)
theorem SB9_k {β k j : Nat} (h : k ≤ 10) : SB9 β (β + k) j = true := decide_eq_true (by omega)
