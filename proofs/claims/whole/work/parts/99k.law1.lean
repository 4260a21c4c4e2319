/-! the law's wrappers -/
def mwsW (μ : MI) (tab : List (Nat × Nat × Nat × Nat)) : List Cond := .codeWith μ.1 μ.2.1 μ.2.2.1 μ.2.2.2 tab :: wsL_law
/-- a wrapper's contract: it throws nothing -/
def WTi (l : Launch) (G : va_G) (bs : Nat) (cy : Nat → ClassId) (μ : MI) (tab : List (Nat × Nat × Nat × Nat)) (n : Nat) (av : List Value) (I : CI) (L : CL) (R : CR) (Q : Int32 → CI → CL → CR → Prop) (mc ms : Nat) : Prop :=
  vx_Met l μ.1 (mwsW μ tab) (rmL n mc ms) (PcM G bs cy av I L R) (va_Qi (fun (r : Int32) (u : Sto) => Q r u.1 u.2.1 u.2.2) (BM G bs cy) (Aq bs)) (XCM G bs cy I L R (fun _ => False)) mc ms (Aq bs)
theorem WTi.of {l : Launch} {G : va_G} {bs : Nat} {cy : Nat → ClassId} {own : String} {y : MethodName} {cc : ByteArray} {nL n mc ms : Nat} {tab : List (Nat × Nat × Nat × Nat)} {av : List Value} {I : CI} {L : CL} {R : CR} {Q : Int32 → CI → CL → CR → Prop} (hy : plainName own = true) (ho : y.cls = own) (hlen : (lg_sl av).length ≤ nL)
    (body : ∀ (p : Program) (e : Env) (s : State) (m : MethodId) (args : Array Value) (below : List Frame) (meth : Method) (c : Code) (Qf : State → Prop), Cx p s m args c cc nL own G bs cy → Wd G bs cy I L R s.heap → va_S (Aq bs) s.heap s.heap [] → c.exceptionTable.toList = tableOf tab →
      (∀ {pc : Nat} {ls : Array Slot} {H : Heap} {locs : List Loc} {v : Int32} {I' : CI} {L' : CL} {R' : CR} {cells slots : Nat}, decode cc pc = .ok (.ireturn, 1) → cells ≤ mc → slots ≤ ms → Wd G bs cy I' L' R' H → va_S (Aq bs) s.heap H locs → Q v I' L' R' → W p l e (rmL n mc ms) s m args below meth c H locs cells slots Qf (F0 m pc ls [.int v])) →
      ∀ ls : Array Slot, lv_has ls nL (lv_args 0 av) → W p l e (rmL n mc ms) s m args below meth c s.heap [] 0 0 Qf (F0 m 0 ls [])) : WTi l G bs cy (y, cc, nL, (some .int)) tab n av I L R Q mc ms := by
  refine vx_ofWH (cc := cc) (maxL := nL) (ret := (some .int)) (hh := tab) (by rw [ho]; exact hy) rfl ?_
  intro p e s m args below meth c s₁ B hml hv
  obtain ⟨rfl, hW, hK, hE⟩ := hv
  have hts := atoms_spec (ws := mwsW (y, cc, nL, (some .int)) tab) B.pre
  have hown : s.vm.findClass own = some m.cls := ho ▸ findClass_of_methodNamed B.named
  have hlocks := B.notSynchronized
  have htab := vx_table (x := y) B (hts _ List.mem_cons_self)
  rw [lg_entry_eq]
  exact body p e s m _ below meth c _ ⟨B.exec, B.bytes, hml, hown, fun w hw => hts w (List.mem_cons_of_mem _ hw), hK, hE⟩ hW va_S.rf htab
    (fun {pc ls H locs v I' L' R' cells slots} hdg hc hs hW' hS' hQ => W.widen hc hs (vx_ret (W.iret (v := v) B.exec B.bytes B.returns (fun t ht _ => ⟨⟨v, (I', L', R'), rfl, hQ, by show Wd _ _ _ _ _ _ t.heap; rw [ht]; exact hW'⟩, hS'.F ht⟩) hS'.2.2 hdg hlocks))) _ (lv_entry av hlen)
section WW
variable {p : Program} {l : Launch} {e : Env} {Rm : Room} {s : State} {m : MethodId} {args : Array Value} {below : List Frame} {meth : Method} {c : Code} {H : Heap} {locs : List Loc} {cells slots : Nat} {Qf : State → Prop}
variable {cc : ByteArray} {pc nL : Nat} {ls : Array Slot} {rest : List Value} {own : String} {G : va_G} {bs : Nat} {cy : Nat → ClassId} {I : CI} {L : CL} {R : CR} {k : Nat}
theorem callWi (X : Cx p s m args c cc nL own G bs cy) (hW : Wd G bs cy I L R H) (hS : va_S (Aq bs) s.heap H locs) {n : Nat} (hR : RmOK Rm n) {μ : MI} {n' mc' ms' : Nat} {As : List Value} {Q' : Int32 → CI → CL → CR → Prop} {PX' : String → Prop} (hM : XTi l G bs cy μ n' (.ref (bs + k) :: As) I L R Q' PX' mc' ms') (hn : n' + 1 ≤ n) {C : String} {na ci idx : Nat} {ks : List Nat} (hu : UV μ C na) (hl : Cond.methodLink own idx μ.1 ∈ wsL_law)
    (hk : shp k = .inl (ci, ks)) (hN : k < NC) (hC : (vwCl[ci]?).map (fun q => q.1) = some C) (hA : As.length = na) {st0 : List Value} (hst : st0 = As.reverse ++ .ref (bs + k) :: rest) (hrest : (rest.map fun v => v.category).sum ≤ 8) {lv : List (Nat × Value)} (hl2 : lv_has ls nL lv) (hc1 : cells + mc' ≤ Rm.cells) (hs1 : slots + ms' ≤ Rm.slots) (hdg : decode cc pc = .ok (.invokevirtual idx, 3))
    (kx : ∀ (E : String) (ce : Cell) (q9 : Addr) (H1 : Heap) (locs1 : List Loc), PX' E → Wd G bs cy I L R H1 → va_S (Aq bs) s.heap H1 locs1 → H1[q9]? = some ce → ce.vm = .none → s.vm.findClass E = some ce.cls → vx_W p l e Rm s m args below meth c H1 locs1 (cells + mc') (slots + ms') Qf (F0 m pc ls rest) q9)
    (kk : ∀ (r : Int32) (I' : CI) (L' : CL) (R' : CR) (H1 : Heap) (locs1 : List Loc), Q' r I' L' R' → Wd G bs cy I' L' R' H1 → va_S (Aq bs) s.heap H1 locs1 → W p l e Rm s m args below meth c H1 locs1 (cells + mc') (slots + ms') Qf (F0 m (pc + 3) ls (.int r :: rest))) : W p l e Rm s m args below meth c H locs cells slots Qf (F0 m pc ls st0) := by
  obtain ⟨hx, hb, hml, hown, hts, hK, hE⟩ := id X
  subst hst
  exact vx_calli (vx_runV (As := As) (rest := rest) ⟨hx, hb, hml, hown, hts⟩ hM (cwX_UV hts hu hl hR hn) ⟨PcM_blind, recvW X hW hk hN hC, fun U hU hW2 => ⟨rfl, by rw [hU]; exact hW, va_K.moved hW2.alike hK, by rw [hU]; exact hE.to hW2 hS.2.1⟩⟩ rfl hA hl2.1 rfl (lv_room hrest) hdg ⟨hc1, hs1⟩) hS (fun q _ h => h) (fun q h => h) (fun q _ h => h)
    (fun E ce q9 u t H1 locs1 ht hvm _ hB hz hk1 hS1 hce hcv hcl => kx E ce q9 H1 locs1 hB.1 (by rw [← ht]; exact hB.2) hS1 hce hcv hcl)
    (fun r u t H1 locs1 ht hvm hp hB hz hk1 hS1 => kk r u.1 u.2.1 u.2.2 H1 locs1 hp (by rw [← ht]; exact hB) hS1)
end WW
/-- what a wrapper leaves: an answer in the cell 86, or the mark of a throw -/
def WQ (I : CI) (L : CL) (R : CR) (Q' : Int32 → CI → CL → CR → Prop) (PX' : String → Prop) (xs : List (String × Nat)) (r : Int32) (I1 : CI) (L1 : CL) (R1 : CR) : Prop :=
  (r = nI 0 ∧ ∃ v L', Q' v I1 L' R1 ∧ L1 = u2L L' 86 0 v.toInt64) ∨ (∃ q, q ∈ xs ∧ r = nI q.2 ∧ PX' q.1 ∧ I1 = I ∧ L1 = L ∧ R1 = R)
theorem CAST_IOE {p : Program} {s : State} {m : MethodId} {args : Array Value} {c : Code} {cc : ByteArray} {nL : Nat} {own : String} {G : va_G} {bs : Nat} {cy : Nat → ClassId} (X : Cx p s m args c cc nL own G bs cy) : (Cond.castable IOE IOE).before args s = true := va_Nw.use rfl (X.2.2.2.2.2.2.1.1 _ (exN_0 _ List.mem_cons_self))
theorem CAST_IAE {p : Program} {s : State} {m : MethodId} {args : Array Value} {c : Code} {cc : ByteArray} {nL : Nat} {own : String} {G : va_G} {bs : Nat} {cy : Nat → ClassId} (X : Cx p s m args c cc nL own G bs cy) : (Cond.castable IAE IAE).before args s = true := va_Nw.use rfl (X.2.2.2.2.2.2.1.1 _ (exN_1 _ List.mem_cons_self))
