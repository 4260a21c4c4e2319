/-! a row of four booleans beside the world -/
abbrev arZ (cy : Nat → ClassId) (u : Nat → Int32) : va_E := .inl (cy 3, 4, .inl u)
section GZ
variable {p : Program} {l : Launch} {e : Env} {Rm : Room} {s : State} {m : MethodId} {args : Array Value} {below : List Frame} {meth : Method} {c : Code} {H : Heap} {locs : List Loc} {cells slots : Nat} {Q : State → Prop}
variable {cc : ByteArray} {pc nL : Nat} {ls : Array Slot} {rest : List Value} {own : String} {G : va_G} {bs : Nat} {cy : Nat → ClassId} {I : CI} {L : CL} {R : CR} {A : Nat → Prop} {Ts : List SD} {n q : Nat}
theorem z_new (X : Cx p s m args c cc nL own G bs cy) (hA : AOK bs s.heap.size A) (hW : Wd G bs cy I L R H) (hT : TW G cy bs s H [] Ts) (hS : va_S A s.heap H locs) (hcells : cells + 1 ≤ Rm.cells) (hslots : slots + 4 ≤ Rm.slots) (hdg : decode cc pc = .ok (.newarray .boolean, 2))
    (kk : ∀ (q : Nat) (H1 : Heap), bs + 67 ≤ q → s.heap.size ≤ q → va_P G vwCl [(q, arZ cy (fun _ => 0))] H1 → Wd G bs cy I L R H1 → TW G cy bs s H1 [] Ts → va_S A s.heap H1 locs → W p l e Rm s m args below meth c H1 locs (cells + 1) (slots + 4) Q (F0 m (pc + 2) ls (.ref q :: rest))) : W p l e Rm s m args below meth c H locs cells slots Q (F0 m pc ls (.int (nI 4) :: rest)) := by
  refine va_newaK (atype := .boolean) X.1 X.2.1 (X.2.2.2.2.1 _ AC_boolean) rfl hdg rfl (nI_nn (by omega)) (nI_clamp (by omega)) (by decide) hcells hslots rfl (fun H1 cA e1 z1 o1 hAr hNm => ?_)
  have ec : cy 3 = cA := Option.some.inj (((X.2.2.2.2.2.1.2 3 _ rfl).2 : s.vm.findClass _ = some (cy 3)).symm.trans hNm)
  subst ec
  refine kk H.size H1 hW.sz hS.1 (fun k9 x hx => ?_) (hW.kn o1) (hT.all (by omega) o1) ⟨Nat.le_trans hS.1 (by omega), fun x h1 h2 => (o1 x (Nat.lt_of_lt_of_le h1 hS.1)).trans (hS.2.1 x h1 h2), hS.2.2⟩
  have hz : k9 < 1 := (List.getElem?_eq_some_iff.mp hx).1
  rw [show k9 = 0 by omega] at hx
  cases hx
  exact e1
theorem z_ald (X : Cx p s m args c cc nL own G bs cy) {u : Nat → Int32} (hZ : va_P G vwCl [(q, arZ cy u)] H) {j : Nat} (hj : j < 4) {v : Int32} (hv : u j = v) (hdg : decode cc pc = .ok (.baload, 1))
    (kk : W p l e Rm s m args below meth c H locs cells slots Q (F0 m (pc + 1) ls (.int v :: rest))) : W p l e Rm s m args below meth c H locs cells slots Q (F0 m pc ls (.int (nI j) :: .ref q :: rest)) := by
  subst hv
  refine va_zald X.1 X.2.1 X.2.2.2.2.2.1 hZ 0 3 rfl rfl (vp_in_nI hj (by decide)) hdg ?_
  rw [nI_clamp (by omega)]
  exact kk
theorem z_ast (X : Cx p s m args c cc nL own G bs cy) (hA : AOK bs s.heap.size A) (hW : Wd G bs cy I L R H) (hT : TW G cy bs s H [] []) (hS : va_S A s.heap H locs) {u : Nat → Int32} (hZ : va_P G vwCl [(q, arZ cy u)] H) (hq : bs + 67 ≤ q) (hq2 : s.heap.size ≤ q) {j : Nat} (hj : j < 4) (hdg : decode cc pc = .ok (.bastore, 1))
    (kk : ∀ (H1 : Heap) (locs1 : List Loc), va_P G vwCl [(q, arZ cy (upd u j (nI 1)))] H1 → Wd G bs cy I L R H1 → TW G cy bs s H1 [] [] → va_S A s.heap H1 locs1 → W p l e Rm s m args below meth c H1 locs1 cells slots Q (F0 m (pc + 1) ls rest)) : W p l e Rm s m args below meth c H locs cells slots Q (F0 m pc ls (.int (nI 1) :: .int (nI j) :: .ref q :: rest)) := by
  have hK := X.2.2.2.2.2.1
  have e2 : (nI j).toNatClampNeg = j := nI_clamp (by omega)
  have hAq : A q := hA.2.1 q hq2
  refine W.zast X.1 X.2.1 (hZ 0 _ rfl) ((hK.2 3 _ rfl).1 4 (fun j => .int (u j))) (fun q => by cases q) (by show ¬ (nI j < 0 ∨ (arrV _ _ _).slots.size ≤ _); rw [arrV_size]; exact vp_in_nI hj (show (4 : Nat) < 2 ^ 31 by decide)) rfl rfl hdg (fun H1 e9 z9 oq => ?_)
  have h1 := hZ.set (vD1 (A := A) hAq) (p := 0) rfl (e := arZ cy (upd u j (nI 1))) (by
    show H1[q]? = some (vp_cell _ _)
    rw [e9, vp_cell_i, vp_cell_i, arrV_store, e2]
    congr 2
    funext z
    by_cases hz : z = j
    · subst hz; simp [updV, upd]; rfl
    · simp [updV, upd, hz]) oq
  refine kk H1 _ h1 (hW.kq (q := q) (v := q) hq hq (fun z h1 h2 => oq z (fun h => h2 (Or.inl h)))) (TW.nil (by rw [z9]; exact hT.2.2.2.2.1)) (hS.put z9 oq hAq)
end GZ
/-! the lanes shut in a year, as the law counts them -/
def shX (σ : Row) (y x k : Nat) : Int32 := if (pnt σ k y ≠ -1 ∨ k = x) ∧ σ (10 + 5 * k + 0) ≠ -1 then nI 1 <<< (σ (10 + 5 * k + 0) &&& 31) else nI 0
def usd (σ : Row) (y x k j : Nat) : Bool := decide (j < 16) && bitB (orT (shX σ y x) k) j
def cnU (σ : Row) (y x k : Nat) : Nat := cntB (bitB (orT (shX σ y x) k)) 16
theorem bitB_or1 {w : Int32} {q j : Nat} (hq : q < 16) (hj : j < 16) : bitB (w ||| nI 1 <<< (nI q &&& 31)) j = (bitB w j || decide (j = q)) := by
  rw [bitB_bt _ (by omega), bitB_bt _ (by omega), b_or, b_shl q (by omega) _ (by omega)]
  congr 1
  by_cases e : j = q
  · subst e; simp [b_1 0 (by decide)]
  · by_cases h : q ≤ j
    · rw [b_1 (j - q) (by omega)]
      have h3 : ¬ j - q = 0 := by omega
      simp [e, h3]
    · simp [e, h]
section USD
variable {σ : Row} {y x k q g : Nat}
theorem us_skip (h : ¬ ((pnt σ k y ≠ -1 ∨ k = x) ∧ σ (10 + 5 * k + 0) ≠ -1)) : orT (shX σ y x) (k + 1) = orT (shX σ y x) k := by
  show orT (shX σ y x) k ||| shX σ y x k = _
  unfold shX
  rw [if_neg h, or_n0]
theorem us_hit (h : pnt σ k y ≠ -1 ∨ k = x) (hq : σ (10 + 5 * k + 0) = nI q) (hq9 : q < 16) : orT (shX σ y x) (k + 1) = orT (shX σ y x) k ||| nI 1 <<< (nI q &&& 31) := by
  show orT (shX σ y x) k ||| shX σ y x k = _
  congr 1
  unfold shX
  rw [if_pos ⟨h, by rw [hq]; exact nI_m1 (by omega)⟩, hq]
theorem us_eq (h : orT (shX σ y x) (k + 1) = orT (shX σ y x) k) : cnU σ y x (k + 1) = cnU σ y x k ∧ (fun j => bI (usd σ y x (k + 1) j)) = fun j => bI (usd σ y x k j) := by
  unfold cnU usd
  rw [h]
  exact ⟨rfl, rfl⟩
theorem us_old (h : pnt σ k y ≠ -1 ∨ k = x) (hq : σ (10 + 5 * k + 0) = nI q) (hq9 : q < 16) (hu : usd σ y x k q = true) : cnU σ y x (k + 1) = cnU σ y x k ∧ (fun j => bI (usd σ y x (k + 1) j)) = fun j => bI (usd σ y x k j) := by
  have hb : bitB (orT (shX σ y x) k) q = true := (Bool.and_eq_true_iff.mp hu).2
  have hj : ∀ j, j < 16 → bitB (orT (shX σ y x) (k + 1)) j = bitB (orT (shX σ y x) k) j := fun j hj => by
    rw [us_hit h hq hq9, bitB_or1 hq9 hj]
    by_cases e : j = q
    · subst e; rw [hb]; rfl
    · rw [decide_eq_false e, Bool.or_false]
  refine ⟨by unfold cnU; exact cntB_congr hj, funext fun j => ?_⟩
  show bI (decide (j < 16) && bitB (orT (shX σ y x) (k + 1)) j) = bI (decide (j < 16) && bitB (orT (shX σ y x) k) j)
  by_cases h2 : j < 16
  · rw [hj j h2]
  · rw [decide_eq_false h2, Bool.false_and, Bool.false_and]
theorem us_new (h : pnt σ k y ≠ -1 ∨ k = x) (hq : σ (10 + 5 * k + 0) = nI q) (hq9 : q < 16) (hu : usd σ y x k q = false) : cnU σ y x (k + 1) = cnU σ y x k + 1 ∧ (fun j => bI (usd σ y x (k + 1) j)) = upd (fun j => bI (usd σ y x k j)) q (nI 1) := by
  have hb : bitB (orT (shX σ y x) k) q = false := by
    unfold usd at hu
    rw [decide_eq_true hq9, Bool.true_and] at hu
    exact hu
  refine ⟨cntB_one hq9 (fun z hz hzq => ?_) hb ?_, funext fun j => ?_⟩
  · rw [us_hit h hq hq9, bitB_or1 hq9 hz, decide_eq_false hzq, Bool.or_false]
  · rw [us_hit h hq hq9, bitB_or1 hq9 hq9, decide_eq_true rfl, Bool.or_true]
  · unfold usd upd
    by_cases e : j = q
    · subst e
      rw [if_pos rfl, us_hit h hq hq9, bitB_or1 hq9 hq9, decide_eq_true rfl, Bool.or_true, decide_eq_true hq9]
      rfl
    · rw [if_neg e]
      by_cases h2 : j < 16
      · rw [us_hit h hq hq9, bitB_or1 hq9 h2, decide_eq_false e, Bool.or_false]
      · show bI (decide (j < 16) && bitB (orT (shX σ y x) (k + 1)) j) = bI (decide (j < 16) && bitB (orT (shX σ y x) k) j)
        rw [decide_eq_false h2, Bool.false_and, Bool.false_and]
theorem us_end (hx : x < nS σ) (hp : pnt σ x y = -1) (hl : σ (10 + 5 * x + 0) ≠ -1) : cnt16 (shu σ y ||| nI 1 <<< (σ (10 + 5 * x + 0) &&& 31)) = nI (cnU σ y x (nS σ)) := by
  have e : orT (shX σ y x) (nS σ) = shu σ y ||| nI 1 <<< (σ (10 + 5 * x + 0) &&& 31) := by
    unfold shu
    refine orT_one hx (fun z hz hzx => ?_) ?_
    · unfold shX shF
      by_cases h1 : pnt σ z y = -1
      · rw [if_neg (fun h => h.1.elim (fun h => h h1) hzx), if_neg (nAl h1)]
      · by_cases h2 : σ (10 + 5 * z + 0) = -1
        · rw [if_neg (nArr h2), if_neg (nArr h2)]
        · rw [if_pos ⟨Or.inl h1, h2⟩, if_pos ⟨h1, h2⟩]
    · unfold shX shF
      rw [if_pos ⟨Or.inr rfl, hl⟩, if_neg (nAl hp)]
      exact (Int32.zero_or).symm
  rw [cnt16_N, ← e]
  rfl
theorem rf_1 (h : ¬ pnt σ x y < 0) : rfs σ y x g = nI 1 := by
  unfold rfs; rw [if_pos (pn_ge h)]
theorem op_0 {a : Int32} (h : σ (92 + y) = nI 0) : ¬ ((σ (92 + y) >>> (a &&& 31)) &&& nI 1 = nI 1) := by
  rw [h]
  have : (nI 0 >>> (a &&& 31) : Int32) = nI 0 := Int32.zero_shiftRight
  rw [this]
  decide
theorem rf_3 (hp : pnt σ x y = -1) (h0 : σ (92 + y) = nI 0) (hx : x < nS σ) (hl : σ (10 + 5 * x + 0) ≠ -1) (h : σ 1 < nI (cnU σ y x (nS σ))) : rfs σ y x g = nI 3 := by
  unfold rfs
  rw [if_neg (fun z => z hp), if_neg (nAr (op_0 h0)), if_pos ⟨hl, by rw [us_end hx hp hl]; exact h⟩]
theorem rf_4 (hp : pnt σ x y = -1) (h0 : σ (92 + y) = nI 0) (hx : x < nS σ) (h : σ (10 + 5 * x + 0) = -1 ∨ ¬ σ 1 < nI (cnU σ y x (nS σ))) : rfs σ y x g = if cap σ g y < lod σ (nI g) y + eff σ x y then nI 4 else nI 0 := by
  unfold rfs
  rw [if_neg (fun z => z hp), if_neg (nAr (op_0 h0))]
  by_cases e : σ (10 + 5 * x + 0) = -1
  · rw [if_neg (nAl e)]
  · rw [if_neg (nAr (by rw [us_end hx hp e]; exact h.resolve_left e))]
theorem ln_nI (hi : Inv σ) (hd : DR σ) (hk : k < nS σ) (h : ¬ σ (10 + 5 * k + 0) < 0) : ∃ q, q < 4 ∧ σ (10 + 5 * k + 0) = nI q := by
  obtain ⟨hY, hY1, hY12, hLn, hL4, hSn, hS12, hGn, hG5⟩ := hi
  rcases hd.2.2.1 k hk with e | ⟨q, h1, e⟩
  · exact absurd (by rw [e]; decide) h
  · exact ⟨q, by omega, e⟩
theorem ln_m1 (hd : DR σ) (hi : Inv σ) (hk : k < nS σ) (h : σ (10 + 5 * k + 0) < 0) : σ (10 + 5 * k + 0) = -1 := by
  obtain ⟨hY, hY1, hY12, hLn, hL4, hSn, hS12, hGn, hG5⟩ := hi
  rcases hd.2.2.1 k hk with e | ⟨q, h1, e⟩
  · exact e
  · exfalso; rw [e] at h; exact nI_pos (show q < 2 ^ 31 by omega) h
theorem nlt_m1 {v : Int32} (h : ¬ v < 0) : v ≠ -1 := fun e => h (by rw [e]; decide)
end USD
theorem us_0 {σ : Row} {y x j : Nat} : bI (usd σ y x 0 j) = 0 := by
  unfold usd
  by_cases h : j < 16
  · rw [show bitB (orT (shX σ y x) 0) j = false from bitB_0 (by omega), Bool.and_false]; rfl
  · rw [decide_eq_false h, Bool.false_and]; rfl
theorem cn_0 {σ : Row} {y x : Nat} : cnU σ y x 0 = 0 := by
  unfold cnU
  exact (cntB_congr (q := fun _ => false) (fun z hz => bitB_0 (by omega))).trans (by decide)
