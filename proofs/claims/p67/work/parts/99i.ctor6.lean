/-! constructors: with the word of the rows -/
theorem AOA_same {s U : State} (hv : s.vm = U.vm) (h : va_AOA .int s) : va_AOA .int U := by
  unfold va_AOA at h ⊢
  simp only [Cond.before, Cond.holds, Cond.value] at h ⊢
  rw [← hv]
  exact h
theorem AOA_warm {s U : State} (hW : s.WarmedH U.vm) (h : va_AOA .int s) : va_AOA .int U := AOA_same (s := s.setVm U.vm) rfl (by unfold va_AOA; rw [Cond.arrayOver_setVmC hW.alike]; exact h)
def PcR (G : va_G) (bs : Nat) (cy : Nat → ClassId) (av : List Value) (es : List va_E) : Array Value → State → Prop := va_Pc av (fun U => va_P G vwCl (wq bs es) U.heap ∧ U.heap.size = bs + es.length ∧ va_K G vwCl (tyLs cy) U ∧ EK (bs + 16) cy U U.heap ∧ va_AOA .int U)
def MTr (l : Launch) (G : va_G) (bs : Nat) (cy : Nat → ClassId) (μ : MI) (n mc ms : Nat) (av : List Value) (es es' : List va_E) : Prop :=
  Met l μ.1 (mws μ) (rmL n mc ms) (PcR G bs cy av es) (va_Qv (fun (_ : Unit) => True) (fun _ t => va_P G vwCl (wq bs es') t.heap) (Aw bs)) mc ms (Aw bs)
theorem PcR_blind {G : va_G} {bs : Nat} {cy : Nat → ClassId} {av : List Value} {es : List va_E} : FrameBlind (PcR G bs cy av es) := fun a U g mk q => ⟨q.1, q.2.1, q.2.2.1, va_K.moved (u := U) (U := U.calling g mk a) (Vm.Alike.refl U.vm) q.2.2.2.1, EK.same (s := U) (U := U.calling g mk a) rfl q.2.2.2.2.1, AOA_same (s := U) (U := U.calling g mk a) rfl q.2.2.2.2.2⟩
theorem MTr.of {l : Launch} {G : va_G} {bs : Nat} {cy : Nat → ClassId} {own : String} {y : MethodName} {cc : ByteArray} {nL n mc ms : Nat} {av : List Value} {es es' : List va_E} (hy : plainName own = true) (ho : y.cls = own) (hlen : (lg_sl av).length ≤ nL)
    (body : ∀ (p : Program) (e : Env) (s : State) (m : MethodId) (args : Array Value) (below : List Frame) (meth : Method) (c : Code) (Qf : State → Prop), Cx p s m args c cc nL own G (bs + 16) cy → va_P G vwCl (wq bs es) s.heap → va_S (Aw bs) s.heap s.heap [] → s.heap.size = bs + es.length → meth.name = y.name → va_AOA .int s →
      (∀ {pc : Nat} {ls : Array Slot} {H : Heap} {locs : List Loc} {cells slots : Nat}, decode cc pc = .ok (.return_, 1) → cells ≤ mc → slots ≤ ms → va_P G vwCl (wq bs es') H → va_S (Aw bs) s.heap H locs → W p l e (rmL n mc ms) s m args below meth c H locs cells slots Qf (F0 m pc ls [])) →
      ∀ ls : Array Slot, lv_has ls nL (lv_args 0 av) → W p l e (rmL n mc ms) s m args below meth c s.heap [] 0 0 Qf (F0 m 0 ls [])) : MTr l G bs cy (y, cc, nL, none) n mc ms av es es' := by
  refine Met.ofW (cc := cc) (maxL := nL) (ret := none) (by rw [ho]; exact hy) rfl ?_
  intro p e s m args below meth c s₁ B hml hv
  obtain ⟨rfl, hP, hsz, hK, hE, hov⟩ := hv
  have hts := atoms_spec (ws := mws (y, cc, nL, none)) B.pre
  have hown : s.vm.findClass own = some m.cls := ho ▸ findClass_of_methodNamed B.named
  have hlocks := B.notSynchronized
  have hnm : meth.name = y.name := (name_of_methodNamed B.named B.method).1
  rw [lg_entry_eq]
  exact body p e s m _ below meth c _ ⟨B.exec, B.bytes, hml, hown, fun w hw => hts w (List.mem_cons_of_mem _ hw), hK, hE⟩ hP va_S.rf hsz hnm hov
    (fun {pc ls H locs cells slots} hdg hc hs hP' hS' => W.widen hc hs (W.vret B.exec B.bytes B.returns (fun t ht _ => ⟨⟨(), rfl, trivial, by show va_P _ _ _ t.heap; rw [ht]; exact hP'⟩, hS'.F ht⟩) hS'.2.2 hdg hlocks)) _ (lv_entry av hlen)
section PR
variable {p : Program} {l : Launch} {e : Env} {Rm : Room} {s : State} {m : MethodId} {args : Array Value} {below : List Frame} {meth : Method} {c : Code} {H : Heap} {locs : List Loc} {cells slots : Nat} {Q : State → Prop}
variable {cc : ByteArray} {pc nL : Nat} {ls : Array Slot} {rest : List Value} {own : String} {G : va_G} {bs : Nat} {cy : Nat → ClassId} {pre lc lc' : List va_E} {k0 i : Nat}
theorem p_callR (X : Cx p s m args c cc nL own G (bs + 16) cy) (hov : va_AOA .int s) (hk : pre.length = k0) {lo lr : List va_E} {b : va_E} (hQ : Wc G bs pre (lo ++ [b]) H) (hS : va_S (Aw bs) s.heap H locs) (hsz : s.heap.size + cells = bs + (k0 + (lo ++ [b]).length)) {n : Nat} (hfr : Rm.frames = n ∧ Rm.locals = 60 * n) {μ : MI} {n' mc ms k1 : Nat} {As : List Value} (hM : MTr l G bs cy μ n' mc ms (.ref (bs + k1) :: As) ((pre ++ lo) ++ [b]) ((pre ++ lo) ++ lr)) (hn : n' + 1 ≤ n) {C : String} {na idx : Nat} (hu : UI μ C na) (hret : μ.2.2.2 = none) (hini : μ.1.name = "<init>") (hl : Cond.methodLinkNest own idx μ.1 "SpanPainter" ∈ nestL)
    (hA : As.length = na) {st0 : List Value} (hst : st0 = As.reverse ++ .ref (bs + k1) :: rest) (hrest : (rest.map fun v => v.category).sum ≤ 8) {lv : List (Nat × Value)} (hl2 : lv_has ls nL lv) (hcs : cells + mc ≤ Rm.cells ∧ slots + ms ≤ Rm.slots) (hlr : lr.length = 1 + mc) (hl' : lo ++ lr = lc') (hdg : decode cc pc = .ok (.invokespecial idx, 3))
    (kk : ∀ (H1 : Heap) (locs1 : List Loc), Wc G bs pre lc' H1 → va_S (Aw bs) s.heap H1 locs1 → s.heap.size + (cells + mc) = bs + (k0 + lc'.length) → W p l e Rm s m args below meth c H1 locs1 (cells + mc) (slots + ms) Q (F0 m (pc + 3) ls rest)) : W p l e Rm s m args below meth c H locs cells slots Q (F0 m pc ls st0) := by
  subst hl'
  unfold Wc at hQ
  rw [← List.append_assoc] at hQ
  refine W.size9 (fun hz => ?_)
  have hsize := q_size hQ hS (by rw [List.length_append, List.length_append, hk]; rw [List.length_append] at hsz; omega) (by simp) hz
  obtain ⟨hx, hb, hml, hown, hts, hK, hE⟩ := id X
  subst hst
  obtain ⟨u1, u2, u3, u4, u5⟩ := hu
  obtain ⟨y, cb, mL, rt⟩ := μ
  dsimp only at hret hini u1 u2 u3 u4 u5
  subst hret
  have hcw : va_CN Rm s args own idx y "SpanPainter" cb mL none (mws (y, cb, mL, none)) (rmL n' mc ms) mc ms na ∧ y.name = "<init>" ∧ (Cond.instanceMethod y).before args s = true := by
    refine ⟨va_cnB na hts (gIn (fun w hw => ?_)) rfl rfl rfl (hE.1.1 _ hl) (hts _ (by rw [u1.1]; exact u4)) ⟨u1.2.1, u1.2.2.1, u1.2.2.2⟩ ⟨by rw [hfr.1]; exact hn, by rw [hfr.2]; show 8 + (mL + 11) + 60 * n' ≤ 60 * n; omega⟩, hini, hts _ u3⟩
    rcases List.mem_cons.mp hw with rfl | hw
    · exact u5
    · exact hw
  exact va_callv (va_runIN (As := As) (rest := rest) ⟨hx, hb, hml, hown, hts⟩ hM hcw ⟨PcR_blind, fun U hU hW2 => ⟨rfl, by rw [hU]; exact hQ, by rw [hU]; exact hsize, va_K.moved hW2.alike hK, by rw [hU]; exact hE.tow hW2 hS.2.1, AOA_warm hW2 hov⟩⟩ rfl hA hl2.1 rfl (lv_room hrest) hdg hcs) hS (fun q _ h => h) (fun q h => h)
    (fun u t H1 locs1 ht hvm hp hB hz hk1 hS1 => kk H1 locs1 (by unfold Wc; rw [← List.append_assoc, ← ht]; exact hB) hS1 (by rw [List.length_append] at hsz ⊢; simp only [List.length_singleton] at hsz; omega))
end PR
