/-! the law calls the constructor; rows that agree below 248 -/
section PR
variable {p : Program} {l : Launch} {e : Env} {Rm : Room} {s : State} {m : MethodId} {args : Array Value} {below : List Frame} {meth : Method} {c : Code} {H : Heap} {locs : List Loc} {cells slots : Nat} {Q : State → Prop}
variable {cc : ByteArray} {pc nL : Nat} {ls : Array Slot} {rest : List Value} {own : String} {G : va_G} {bs : Nat} {cy : Nat → ClassId} {pre lc lc' : List va_E} {k0 i : Nat}
theorem p_callL (X : Cx p s m args c cc nL own G bs cy) (hov : va_AOA .int s) (hk : pre.length = k0) {lo lr : List va_E} {b : va_E} (hQ : Wc G bs pre (lo ++ [b]) H) (hS : va_S (Aq bs) s.heap H locs) (hsz : s.heap.size + cells = bs + (k0 + (lo ++ [b]).length)) {n : Nat} (hfr : Rm.frames = n ∧ Rm.locals = 60 * n) {μ : MI} {n' mc ms k1 : Nat} {As : List Value} (hM : MTr l G bs cy μ n' mc ms (.ref (bs + k1) :: As) ((pre ++ lo) ++ [b]) ((pre ++ lo) ++ lr)) (hn : n' + 1 ≤ n) {C : String} {na idx : Nat} (hu : UI μ C na) (hret : μ.2.2.2 = none) (hini : μ.1.name = "<init>") (hl : Cond.methodLink own idx μ.1 ∈ wsL_law)
    (hA : As.length = na) {st0 : List Value} (hst : st0 = As.reverse ++ .ref (bs + k1) :: rest) (hrest : (rest.map fun v => v.category).sum ≤ 8) {lv : List (Nat × Value)} (hl2 : lv_has ls nL lv) (hcs : cells + mc ≤ Rm.cells ∧ slots + ms ≤ Rm.slots) (hlr : lr.length = 1 + mc) (hl' : lo ++ lr = lc') (hdg : decode cc pc = .ok (.invokespecial idx, 3))
    (kk : ∀ (H1 : Heap) (locs1 : List Loc), Wc G bs pre lc' H1 → va_S (Aq bs) s.heap H1 locs1 → s.heap.size + (cells + mc) = bs + (k0 + lc'.length) → W p l e Rm s m args below meth c H1 locs1 (cells + mc) (slots + ms) Q (F0 m (pc + 3) ls rest)) : W p l e Rm s m args below meth c H locs cells slots Q (F0 m pc ls st0) := by
  subst hl'
  unfold Wc at hQ
  rw [← List.append_assoc] at hQ
  refine W.size9 (fun hz => ?_)
  have hsize := q_size hQ hS (by rw [List.length_append, List.length_append, hk]; rw [List.length_append] at hsz; omega) (by simp) hz
  obtain ⟨hx, hb, hml, hown, hts, hK, hE⟩ := id X
  subst hst
  obtain ⟨u1, u2, u3, u4, u5⟩ := hu
  obtain ⟨y, cb, mL, rt⟩ := μ
  dsimp only at hret hini u1 u2 u3 u4 u5
  subst hret
  have hcw : CallB Rm s args own idx y cb mL none (mws (y, cb, mL, none)) (rmL n' mc ms) mc ms na ∧ y.name = "<init>" ∧ (Cond.instanceMethod y).before args s = true := by
    refine cwI na hts (gIn (fun w hw => ?_)) rfl rfl rfl (hts _ (by rw [u1.1]; exact u4)) (hts _ hl) (hts _ u3) hini ⟨u1.2.1, u1.2.2.1, u1.2.2.2⟩ ⟨by rw [hfr.1]; exact hn, by rw [hfr.2]; show 8 + (mL + 11) + 60 * n' ≤ 60 * n; omega⟩
    rcases List.mem_cons.mp hw with rfl | hw
    · exact u5
    · exact hw
  exact va_callv (va_runI (As := As) (rest := rest) ⟨hx, hb, hml, hown, hts⟩ hM hcw ⟨PcR_blind, fun U hU hW2 => ⟨rfl, by rw [hU]; exact hQ, by rw [hU]; exact hsize, va_K.moved hW2.alike hK, by rw [hU]; exact hE.to hW2 hS.2.1, AOA_warm hW2 hov⟩⟩ rfl hA hl2.1 rfl (lv_room hrest) hdg hcs) hS (fun q _ h => h) (fun q h => h)
    (fun u t H1 locs1 ht hvm hp hB hz hk1 hS1 => kk H1 locs1 (by unfold Wc; rw [← List.append_assoc, ← ht]; exact hB) hS1 (by rw [List.length_append] at hsz ⊢; simp only [List.length_singleton] at hsz; omega))
end PR

theorem BrAt_eq {I : CI} {β : Nat} {σ τ : Row} (hi : Inv σ) (h : BrAt I β σ) (he : ∀ j, j < 248 → τ j = σ j) : BrAt I β τ := BrAt_Sm h (fun j hj => he j (by omega)) hi
theorem GaAt_eq {I : CI} {q : Nat} {σ τ : Row} (h : GaAt I q σ) (he : ∀ j, j < 248 → τ j = σ j) : GaAt I q τ := fun x y hx hy => by
  rw [h x y hx hy]; unfold pnt; rw [he _ (by omega)]
theorem Inv_eq {σ τ : Row} (hi : Inv σ) (he : ∀ j, j < 248 → τ j = σ j) : Inv τ := Sm_Inv (fun j hj => he j (by omega)) hi
theorem pnt_eq {σ τ : Row} {x y : Nat} (he : ∀ j, j < 248 → τ j = σ j) (hx : x < 12) (hy : y < 12) : pnt τ x y = pnt σ x y := by unfold pnt; rw [he _ (by omega)]
theorem rg_pb {r0 rt gd : Int32} {pb pb' : Nat → Bool} : ∀ z, (∀ y, y < z → pb' y = pb y) → rg r0 rt gd pb' z = rg r0 rt gd pb z
  | 0, _ => rfl
  | z + 1, h => by
    have e := rg_pb (r0 := r0) (rt := rt) (gd := gd) z (fun y hy => h y (by omega))
    show (if pb' z = true then _ else _) = (if pb z = true then _ else _)
    rw [h z (by omega), e]
theorem rgS_eq {σ τ : Row} {x z : Nat} (he : ∀ j, j < 248 → τ j = σ j) (hx : x < 12) (hz : z ≤ 12) : rgS τ x z = rgS σ x z := by
  unfold rgS rgB
  rw [he _ (by omega), he _ (by omega), he _ (by omega)]
  exact rg_pb z (fun y hy => by unfold ptd; rw [pnt_eq he hx (by omega)])
theorem PlAt_eq {I : CI} {q : Nat} {σ τ : Row} (hi : Inv σ) (h : PlAt I q σ) (he : ∀ j, j < 248 → τ j = σ j) : PlAt I q τ := by
  obtain ⟨hY, hY1, hY12, hLn, hL4, hSn, hS12, hGn, hG5⟩ := id hi
  have eS : nS τ = nS σ := by unfold nS; rw [he _ (by omega)]
  have eY : Yn τ = Yn σ := by unfold Yn; rw [he _ (by omega)]
  refine ⟨GaAt_eq h.1 he, fun x z hx hz => ?_, fun x z hx hz => ?_⟩
  · rw [eS] at hx; rw [eY] at hz
    rw [rgS_eq he (by omega) (by omega)]; exact h.2.1 x z hx hz
  · rw [eS] at hx; rw [eY] at hz
    rw [rgS_eq he (by omega) (by omega)]; exact h.2.2 x z hx hz
theorem DR_eq {σ τ : Row} (hi : Inv σ) (hd : DR σ) (he : ∀ j, j < 248 → τ j = σ j) : DR τ := by
  refine Sm_DR (fun j hj => he j (by omega)) hi hd (fun x y hx hy => ?_)
  have eS : nS τ = nS σ := by unfold nS; rw [he _ (by omega)]
  have eY : Yn τ = Yn σ := by unfold Yn; rw [he _ (by omega)]
  have eG : nG τ = nG σ := by unfold nG; rw [he _ (by omega)]
  rw [pnt_eq he hx hy, eS, eY, eG]
  exact hd.2.1 x y hx hy
theorem ovl_eq {π σ : Row} : ∀ j, j < 248 → ovl π σ j = π j := fun j hj => ovl_lt hj
theorem ld_bad {v : Int32} {m : Nat} (hm : m < 2 ^ 30) : decide ((0 : Int64) ≤ v.toInt64 ∧ v.toInt64 ≤ (nI m).toInt64) = inB v (m + 1) := by
  unfold inB
  apply decide_eq_decide.mpr
  rw [Int64.le_iff_toInt_le, Int64.le_iff_toInt_le, Int32.toInt_toInt64, Int32.toInt_toInt64, nI_toInt (by omega), show (0 : Int64).toInt = 0 by decide]
  constructor <;> intro h <;> omega
theorem HisN.nil {I : CI} {nw : Nat} (U : Nat → Row) (h1 : I 9 1 = nI nw) (h2 : I 9 2 = nI 0) (hn : nw < 16) : HisN I 0 U nw := ⟨by decide, hn, h1, h2, fun t h => absurd h (Nat.not_lt_zero _)⟩
