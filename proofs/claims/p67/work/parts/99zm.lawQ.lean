/-! calls from the law's own body: its room bears callees of level 8 at most -/
def RmL (Rm : Room) : Prop := 9 ≤ Rm.frames ∧ 532 ≤ Rm.locals
section QC
variable {p : Program} {l : Launch} {e : Env} {Rm : Room} {s : State} {m : MethodId} {args : Array Value} {below : List Frame} {meth : Method} {c : Code} {H : Heap} {locs : List Loc} {cells slots : Nat} {Q : State → Prop}
variable {cc : ByteArray} {pc nL : Nat} {ls : Array Slot} {rest : List Value} {own : String} {G : va_G} {bs : Nat} {cy : Nat → ClassId} {I : CI} {L : CL} {R : CR} {A : Nat → Prop} {Bs : List BD} {Ts : List SD} {n : Nat} {lv : List (Nat × Value)} {st0 : List Value} {k : Nat}
theorem cwL_UV (hts : ∀ w ∈ wsL_law, w.before args s = true) {μ : MI} {C : String} {na n' idx mc ms : Nat} (hu : UV μ C na) (hl : Cond.methodLink own idx μ.1 ∈ wsL_law) (hR : RmL Rm) (hn : n' ≤ 8) (hm : μ.2.2.1 ≤ 33) : CallW Rm s args own C idx μ.1 μ.2.1 μ.2.2.1 μ.2.2.2 (mws μ) (rmL n' mc ms) mc ms na := by
  obtain ⟨h1, h2, h3, h4, h5, h6⟩ := hu
  obtain ⟨r1, r2⟩ := hR
  refine cwV na hts (gIn ?_) rfl rfl rfl h1 ⟨by show n' + 1 ≤ Rm.frames; omega, by show 8 + (μ.2.2.1 + 11) + 60 * n' ≤ Rm.locals; omega⟩
  intro w hw
  unfold wsV mws at hw
  simp only [List.mem_append, List.mem_cons, List.not_mem_nil, or_false] at hw
  rcases hw with (rfl | rfl | rfl | rfl) | rfl | hw
  all_goals assumption
theorem cwL_US (hts : ∀ w ∈ wsL_law, w.before args s = true) {μ : MI} {C : String} {na n' idx mc ms : Nat} (hu : US μ C na) (hl : Cond.methodLink own idx μ.1 ∈ wsL_law) (hR : RmL Rm) (hn : n' ≤ 8) (hm : μ.2.2.1 ≤ 33) : CallB Rm s args own idx μ.1 μ.2.1 μ.2.2.1 μ.2.2.2 (mws μ) (rmL n' mc ms) mc ms na ∧ (Cond.static μ.1).before args s = true := by
  obtain ⟨h1, h2, h3, h5, h6⟩ := hu
  obtain ⟨r1, r2⟩ := hR
  have h5' : Cond.initialized μ.1.cls ∈ wsL_law := by rw [h1.1]; exact h5
  refine va_cwS na hts (gIn ?_) rfl rfl rfl h1.2 ⟨by show n' + 1 ≤ Rm.frames; omega, by show 8 + (μ.2.2.1 + 11) + 60 * n' ≤ Rm.locals; omega⟩
  intro w hw
  unfold va_wsS mws at hw
  simp only [List.mem_append, List.mem_cons, List.not_mem_nil, or_false] at hw
  rcases hw with (rfl | rfl | rfl) | rfl | hw
  all_goals assumption
/-- the class's method -/
theorem kC_i {own : String} (X : Cx p s m args c cc nL own G bs cy) (hA : AOK bs s.heap.size A) (hW : Wd G bs cy I L R H) (hT : TW G cy bs s H Bs Ts) (hS : va_S A s.heap H locs) (hR : RmL Rm) {k : Nat} {μ : MI} {n' : Nat} {As : List Value} {Q' : Int32 → CI → CL → CR → Prop} (hM : MTi l G bs cy μ n' (.ref (bs + k) :: As) I L R Q') (hn : n' ≤ 8) (hm : μ.2.2.1 ≤ 33) {C : String} {na ci idx : Nat} {ks : List Nat} (hu : UV μ C na) (hl : Cond.methodLink own idx μ.1 ∈ wsL_law)
    (hk : shp k = .inl (ci, ks)) (hN : k < NC) (hC : (vwCl[ci]?).map (fun q => q.1) = some C) (hA9 : As.length = na) (hst : st0 = As.reverse ++ .ref (bs + k) :: rest) (hrest : (rest.map fun v => v.category).sum ≤ 8) (hl2 : lv_has ls nL lv) (hcs : cells ≤ Rm.cells ∧ slots ≤ Rm.slots) (hdg : decode cc pc = .ok (.invokevirtual idx, 3))
    (kk : ∀ (r : Int32) (I' : CI) (L' : CL) (R' : CR) (H1 : Heap) (locs1 : List Loc), Q' r I' L' R' → Wd G bs cy I' L' R' H1 → TW G cy bs s H1 Bs Ts → va_S A s.heap H1 locs1 → W p l e Rm s m args below meth c H1 locs1 cells slots Q (F0 m (pc + 3) ls (.int r :: rest))) : W p l e Rm s m args below meth c H locs cells slots Q (F0 m pc ls st0) := by
  have hX := X
  obtain ⟨hx, hb, hml, hown, hts, hK, hE⟩ := id X
  subst hst
  exact va_calli (va_runV (As := As) (rest := rest) ⟨hx, hb, hml, hown, hts⟩ hM (cwL_UV hts hu hl hR hn hm) ⟨PcM_blind, recvW X hW hk hN hC, fun U hU hW2 => ⟨rfl, by rw [hU]; exact hW, va_K.moved hW2.alike hK, by rw [hU]; exact gK hX hA hS hW2⟩⟩ rfl hA9 hl2.1 rfl (lv_room hrest) hdg hcs) hS (fun q _ h => hA.1 q h) (fun q h => hA.1 q h)
    (fun r u t H1 locs1 ht hvm hp hB hz hk1 hS1 => kk r u.1 u.2.1 u.2.2 H1 locs1 hp (by rw [← ht]; exact hB) (hT.frame hz hk1) hS1)
/-- the law's own method, that makes no cell -/
theorem kO_i (X : Cx p s m args c cc nL own G bs cy) (hA : AOK bs s.heap.size A) (hW : Wd G bs cy I L R H) (hT : TW G cy bs s H Bs Ts) (hS : va_S A s.heap H locs) (hR : RmL Rm) {μ : MI} {n' : Nat} {As : List Value} {Q' : Int32 → CI → CL → CR → Prop} (hM : MTi l G bs cy μ n' (.ref (ad bs 67) :: As) I L R Q') (hn : n' ≤ 8) (hm : μ.2.2.1 ≤ 33) {na idx : Nat} (hu : UV μ RL na) (hl : Cond.methodLink own idx μ.1 ∈ wsL_law)
    (hA9 : As.length = na) (hst : st0 = As.reverse ++ .ref (ad bs 67) :: rest) (hrest : (rest.map fun v => v.category).sum ≤ 8) (hl2 : lv_has ls nL lv) (hcs : cells ≤ Rm.cells ∧ slots ≤ Rm.slots) (hdg : decode cc pc = .ok (.invokevirtual idx, 3))
    (kk : ∀ (r : Int32) (I' : CI) (L' : CL) (R' : CR) (H1 : Heap) (locs1 : List Loc), Q' r I' L' R' → Wd G bs cy I' L' R' H1 → TW G cy bs s H1 Bs Ts → va_S A s.heap H1 locs1 → W p l e Rm s m args below meth c H1 locs1 cells slots Q (F0 m (pc + 3) ls (.int r :: rest))) : W p l e Rm s m args below meth c H locs cells slots Q (F0 m pc ls st0) := by
  have hX := X
  obtain ⟨hx, hb, hml, hown, hts, hK, hE⟩ := id X
  subst hst
  exact va_calli (va_runV (As := As) (rest := rest) ⟨hx, hb, hml, hown, hts⟩ hM (cwL_UV hts hu hl hR hn hm) ⟨PcM_blind, recvL X hW, fun U hU hW2 => ⟨rfl, by rw [hU]; exact hW, va_K.moved hW2.alike hK, by rw [hU]; exact gK hX hA hS hW2⟩⟩ rfl hA9 hl2.1 rfl (lv_room hrest) hdg hcs) hS (fun q _ h => hA.1 q h) (fun q h => hA.1 q h)
    (fun r u t H1 locs1 ht hvm hp hB hz hk1 hS1 => kk r u.1 u.2.1 u.2.2 H1 locs1 hp (by rw [← ht]; exact hB) (hT.frame hz hk1) hS1)
/-- the law's own method, that makes cells -/
theorem kA_i (X : Cx p s m args c cc nL own G bs cy) (hA : AOK bs s.heap.size A) (hW : Wd G bs cy I L R H) (hT : TW G cy bs s H Bs Ts) (hS : va_S A s.heap H locs) (hR : RmL Rm) {μ : MI} {n' mc ms : Nat} {As : List Value} {Q' : Int32 → CI → CL → CR → Prop} (hM : MAi l G bs cy μ n' (.ref (ad bs 67) :: As) H.size I L R Q' mc ms) (hn : n' ≤ 8) (hm : μ.2.2.1 ≤ 33) {na idx : Nat} (hu : UV μ RL na) (hl : Cond.methodLink own idx μ.1 ∈ wsL_law)
    (hA9 : As.length = na) (hst : st0 = As.reverse ++ .ref (ad bs 67) :: rest) (hrest : (rest.map fun v => v.category).sum ≤ 8) (hl2 : lv_has ls nL lv) (hcs : cells + mc ≤ Rm.cells ∧ slots + ms ≤ Rm.slots) (hdg : decode cc pc = .ok (.invokevirtual idx, 3))
    (kk : ∀ (r : Int32) (I' : CI) (L' : CL) (R' : CR) (H1 : Heap) (locs1 : List Loc), Q' r I' L' R' → Wd G bs cy I' L' R' H1 → TW G cy bs s H1 Bs Ts → va_S A s.heap H1 locs1 → W p l e Rm s m args below meth c H1 locs1 (cells + mc) (slots + ms) Q (F0 m (pc + 3) ls (.int r :: rest))) : W p l e Rm s m args below meth c H locs cells slots Q (F0 m pc ls st0) := by
  have hX := X
  obtain ⟨hx, hb, hml, hown, hts, hK, hE⟩ := id X
  have h5 := hT.2.2.2.2.1
  have hAA : ∀ z, Ar bs H.size z → A z := fun z h => h.elim (hA.1 z) (fun h => hA.2.1 z (Nat.le_trans h5 h))
  subst hst
  exact va_calli (va_runV (As := As) (rest := rest) ⟨hx, hb, hml, hown, hts⟩ hM (cwL_UV hts hu hl hR hn hm) ⟨PcA_blind, recvL X hW, fun U hU hW2 => ⟨rfl, by rw [hU], by rw [hU]; exact hW, va_K.moved hW2.alike hK, by rw [hU]; exact gK hX hA hS hW2⟩⟩ rfl hA9 hl2.1 rfl (lv_room hrest) hdg hcs) hS (fun q _ h => hAA q h) hAA
    (fun r u t H1 locs1 ht hvm hp hB hz hk1 hS1 => kk r u.1 u.2.1 u.2.2 H1 locs1 hp (by rw [← ht]; exact hB) (hT.frame hz (fun z h1 h2 => hk1 z h1 (fun h => h.elim h2 (fun h => by omega)))) hS1)
/-- the law's own method, that answers a text -/
theorem kA_r (X : Cx p s m args c cc nL own G bs cy) (hA : AOK bs s.heap.size A) (hW : Wd G bs cy I L R H) (hT : TW G cy bs s H Bs Ts) (hS : va_S A s.heap H locs) (hR : RmL Rm) {μ : MI} {n' mc ms : Nat} {As : List Value} {Q' : List Nat → CI → CL → CR → Prop} (hM : MAr l G bs cy μ n' (.ref (ad bs 67) :: As) H.size I L R Q' mc ms) (hn : n' ≤ 8) (hm : μ.2.2.1 ≤ 33) {na idx : Nat} (hu : UV μ RL na) (hl : Cond.methodLink own idx μ.1 ∈ wsL_law)
    (hA9 : As.length = na) (hst : st0 = As.reverse ++ .ref (ad bs 67) :: rest) (hrest : (rest.map fun v => v.category).sum ≤ 8) (hl2 : lv_has ls nL lv) (hcs : cells + mc ≤ Rm.cells ∧ slots + ms ≤ Rm.slots) (hdg : decode cc pc = .ok (.invokevirtual idx, 3))
    (kk : ∀ (x : SD) (I' : CI) (L' : CL) (R' : CR) (H1 : Heap) (locs1 : List Loc), Q' x.2.2 I' L' R' → TxC G cy s.heap.size H1 x → Wd G bs cy I' L' R' H1 → TW G cy bs s H1 Bs (x :: Ts) → va_S A s.heap H1 locs1 → W p l e Rm s m args below meth c H1 locs1 (cells + mc) (slots + ms) Q (F0 m (pc + 3) ls (.ref x.1 :: rest))) : W p l e Rm s m args below meth c H locs cells slots Q (F0 m pc ls st0) := by
  have hX := X
  obtain ⟨hx, hb, hml, hown, hts, hK, hE⟩ := id X
  have h5 := hT.2.2.2.2.1
  have hAA : ∀ z, Ar bs H.size z → A z := fun z h => h.elim (hA.1 z) (fun h => hA.2.1 z (Nat.le_trans h5 h))
  subst hst
  exact va_callr (va_runV (As := As) (rest := rest) ⟨hx, hb, hml, hown, hts⟩ hM (cwL_UV hts hu hl hR hn hm) ⟨PcA_blind, recvL X hW, fun U hU hW2 => ⟨rfl, by rw [hU], by rw [hU]; exact hW, va_K.moved hW2.alike hK, by rw [hU]; exact gK hX hA hS hW2⟩⟩ rfl hA9 hl2.1 rfl (lv_room hrest) hdg hcs) hS (fun q _ h => hAA q h) hAA
    (fun u ra t H1 locs1 ht hvm hp hB hz hk1 hS1 => by
      obtain ⟨rfl, hW1, hx1⟩ := hB
      have hW1 : Wd G bs cy u.2.1 u.2.2.1 u.2.2.2 H1 := by rw [← ht]; exact hW1
      rw [ht] at hx1
      obtain ⟨t1, t2, t3, t4, a, t5, t6⟩ := hx1
      exact kk u.1 u.2.1 u.2.2.1 u.2.2.2 H1 locs1 hp ⟨Nat.le_trans h5 t1, Nat.le_trans h5 t2, t3, t4, a, t5, t6⟩ hW1
        (hT.pushF hz (fun z h1 h2 => hk1 z h1 (fun h => h.elim h2 (fun h => by omega))) (SLt.mk' hts hK t5 rfl t6 t3 (by omega)) hW.sz t1 t2) hS1)
/-- the law's own method without a receiver, over a text -/
theorem kX_i (X : Cx p s m args c cc nL own G bs cy) (hA : AOK bs s.heap.size A) (hW : Wd G bs cy I L R H) (hT : TW G cy bs s H Bs Ts) (hS : va_S A s.heap H locs) (hR : RmL Rm) {x : SD} (hx9 : x ∈ Ts) {μ : MI} {n' mc ms : Nat} {As : List Value} {Q' : Int32 → CI → CL → CR → Prop} (hM : MAx l G bs cy μ n' As H.size x I L R Q' mc ms) (hn : n' ≤ 8) (hm : μ.2.2.1 ≤ 33) {C : String} {na idx : Nat} (hu : US μ C na) (hl : Cond.methodLink own idx μ.1 ∈ wsL_law)
    (hA9 : As.length = na) (hst : st0 = As.reverse ++ rest) (hrest : (rest.map fun v => v.category).sum ≤ 8) (hl2 : lv_has ls nL lv) (hcs : cells + mc ≤ Rm.cells ∧ slots + ms ≤ Rm.slots) (hdg : decode cc pc = .ok (.invokestatic idx, 3))
    (kk : ∀ (r : Int32) (I' : CI) (L' : CL) (R' : CR) (H1 : Heap) (locs1 : List Loc), Q' r I' L' R' → Wd G bs cy I' L' R' H1 → TW G cy bs s H1 Bs Ts → va_S A s.heap H1 locs1 → W p l e Rm s m args below meth c H1 locs1 (cells + mc) (slots + ms) Q (F0 m (pc + 3) ls (.int r :: rest))) : W p l e Rm s m args below meth c H locs cells slots Q (F0 m pc ls st0) := by
  have hX := X
  obtain ⟨hx, hb, hml, hown, hts, hK, hE⟩ := id X
  have h5 := hT.2.2.2.2.1
  have hAA : ∀ z, Ar bs H.size z → A z := fun z h => h.elim (hA.1 z) (fun h => hA.2.1 z (Nat.le_trans h5 h))
  have hx1 := hT.2.1 x hx9
  subst hst
  exact va_calli (va_runS (As := As) (rest := rest) ⟨hx, hb, hml, hown, hts⟩ hM (cwL_US hts hu hl hR hn hm) ⟨PcX_blind, fun U hU hW2 => ⟨rfl, by rw [hU], by rw [hU]; exact hW, va_K.moved hW2.alike hK, by rw [hU]; exact gK hX hA hS hW2, by rw [hU]; exact SLt.moved hW2.alike hx1.1, hx1.2.1, hx1.2.2⟩⟩ rfl hA9 hl2.1 rfl (lv_room hrest) hdg hcs) hS (fun q _ h => hAA q h) hAA
    (fun r u t H1 locs1 ht hvm hp hB hz hk1 hS1 => kk r u.1 u.2.1 u.2.2 H1 locs1 hp (by rw [← ht]; exact hB) (hT.frame hz (fun z h1 h2 => hk1 z h1 (fun h => h.elim h2 (fun h => by omega)))) hS1)
/-- a method without a receiver, that answers nothing -/
theorem kS_v (X : Cx p s m args c cc nL own G bs cy) (hA : AOK bs s.heap.size A) (hW : Wd G bs cy I L R H) (hT : TW G cy bs s H Bs Ts) (hS : va_S A s.heap H locs) (hR : RmL Rm) {μ : MI} {n' : Nat} {As : List Value} {Q' : CI → CL → CR → Prop} (hM : MTv l G bs cy μ n' As I L R Q') (hn : n' ≤ 8) (hm : μ.2.2.1 ≤ 33) {C : String} {na idx : Nat} (hu : US μ C na) (hl : Cond.methodLink own idx μ.1 ∈ wsL_law)
    (hA9 : As.length = na) (hst : st0 = As.reverse ++ rest) (hrest : (rest.map fun v => v.category).sum ≤ 8) (hl2 : lv_has ls nL lv) (hcs : cells ≤ Rm.cells ∧ slots ≤ Rm.slots) (hdg : decode cc pc = .ok (.invokestatic idx, 3))
    (kk : ∀ (I' : CI) (L' : CL) (R' : CR) (H1 : Heap) (locs1 : List Loc), Q' I' L' R' → Wd G bs cy I' L' R' H1 → TW G cy bs s H1 Bs Ts → va_S A s.heap H1 locs1 → W p l e Rm s m args below meth c H1 locs1 cells slots Q (F0 m (pc + 3) ls rest)) : W p l e Rm s m args below meth c H locs cells slots Q (F0 m pc ls st0) := by
  have hX := X
  obtain ⟨hx, hb, hml, hown, hts, hK, hE⟩ := id X
  subst hst
  exact va_callv (va_runS (As := As) (rest := rest) ⟨hx, hb, hml, hown, hts⟩ hM (cwL_US hts hu hl hR hn hm) ⟨PcM_blind, fun U hU hW2 => ⟨rfl, by rw [hU]; exact hW, va_K.moved hW2.alike hK, by rw [hU]; exact gK hX hA hS hW2⟩⟩ rfl hA9 hl2.1 rfl (lv_room hrest) hdg hcs) hS (fun q _ h => hA.1 q h) (fun q h => hA.1 q h)
    (fun u t H1 locs1 ht hvm hp hB hz hk1 hS1 => kk u.1 u.2.1 u.2.2 H1 locs1 hp (by rw [← ht]; exact hB) (hT.frame hz hk1) hS1)
/-- how long the law's rows are -/
theorem rL_alen (X : Cx p s m args c cc nL own G bs cy) (hW : Wd G bs cy I L R H) {ty n : Nat} (hk : shp k = .inr (ty, n)) (hty : ty < 6) (hN : 67 ≤ k ∧ k < NT) (hdg : decode cc pc = .ok (.arraylength, 1))
    (kk : W p l e Rm s m args below meth c H locs cells slots Q (F0 m (pc + 1) ls (.int (nI n) :: rest))) : W p l e Rm s m args below meth c H locs cells slots Q (F0 m pc ls (.ref (ad bs k) :: rest)) := by
  have h5 : ∃ t, (tyLs cy)[ty]? = some (cy ty, t) := by
    rcases (show ty = 0 ∨ ty = 1 ∨ ty = 2 ∨ ty = 3 ∨ ty = 4 ∨ ty = 5 by omega) with rfl | rfl | rfl | rfl | rfl | rfl <;> exact ⟨_, rfl⟩
  obtain ⟨t, ht⟩ := h5
  exact va_alen X.1 X.2.1 X.2.2.2.2.2.1 hW k ty (wl_arrL hk hN (by omega)) ht rfl hdg kk
end QC
