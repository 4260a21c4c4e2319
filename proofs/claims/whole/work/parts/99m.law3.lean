/-! the law's wrappers with two handlers; the one of doubles -/
def PcN (G : va_G) (bs : Nat) (cy : Nat → ClassId) (av : List Value) (I : CI) (L : CL) (R : CR) : Array Value → State → Prop := fun a U => PcM G bs cy av I L R a U ∧ va_Nc IAE IOE U
def WTn (l : Launch) (G : va_G) (bs : Nat) (cy : Nat → ClassId) (μ : MI) (tab : List (Nat × Nat × Nat × Nat)) (n : Nat) (av : List Value) (I : CI) (L : CL) (R : CR) (Q : Int32 → CI → CL → CR → Prop) (mc ms : Nat) : Prop :=
  vx_Met l μ.1 (mwsW μ tab) (rmL n mc ms) (PcN G bs cy av I L R) (va_Qi (fun (r : Int32) (u : Sto) => Q r u.1 u.2.1 u.2.2) (BM G bs cy) (Aq bs)) (XCM G bs cy I L R (fun _ => False)) mc ms (Aq bs)
theorem PcN_blind {G : va_G} {bs : Nat} {cy : Nat → ClassId} {av : List Value} {I : CI} {L : CL} {R : CR} : FrameBlind (PcN G bs cy av I L R) := fun a U g mk q => ⟨PcM_blind a U g mk q.1, va_Nc.moved (u := U) (U := U.calling g mk a) (Vm.Alike.refl U.vm) q.2⟩
theorem WTn.of {l : Launch} {G : va_G} {bs : Nat} {cy : Nat → ClassId} {own : String} {y : MethodName} {cc : ByteArray} {nL n mc ms : Nat} {tab : List (Nat × Nat × Nat × Nat)} {av : List Value} {I : CI} {L : CL} {R : CR} {Q : Int32 → CI → CL → CR → Prop} (hy : plainName own = true) (ho : y.cls = own) (hlen : (lg_sl av).length ≤ nL)
    (body : ∀ (p : Program) (e : Env) (s : State) (m : MethodId) (args : Array Value) (below : List Frame) (meth : Method) (c : Code) (Qf : State → Prop), Cx p s m args c cc nL own G bs cy → Wd G bs cy I L R s.heap → va_S (Aq bs) s.heap s.heap [] → va_Nc IAE IOE s → c.exceptionTable.toList = tableOf tab →
      (∀ {pc : Nat} {ls : Array Slot} {H : Heap} {locs : List Loc} {v : Int32} {I' : CI} {L' : CL} {R' : CR} {cells slots : Nat}, decode cc pc = .ok (.ireturn, 1) → cells ≤ mc → slots ≤ ms → Wd G bs cy I' L' R' H → va_S (Aq bs) s.heap H locs → Q v I' L' R' → W p l e (rmL n mc ms) s m args below meth c H locs cells slots Qf (F0 m pc ls [.int v])) →
      ∀ ls : Array Slot, lv_has ls nL (lv_args 0 av) → W p l e (rmL n mc ms) s m args below meth c s.heap [] 0 0 Qf (F0 m 0 ls [])) : WTn l G bs cy (y, cc, nL, (some .int)) tab n av I L R Q mc ms := by
  refine vx_ofWH (cc := cc) (maxL := nL) (ret := (some .int)) (hh := tab) (by rw [ho]; exact hy) rfl ?_
  intro p e s m args below meth c s₁ B hml hv
  obtain ⟨⟨rfl, hW, hK, hE⟩, hnc⟩ := hv
  have hts := atoms_spec (ws := mwsW (y, cc, nL, (some .int)) tab) B.pre
  have hown : s.vm.findClass own = some m.cls := ho ▸ findClass_of_methodNamed B.named
  have hlocks := B.notSynchronized
  have htab := vx_table (x := y) B (hts _ List.mem_cons_self)
  rw [lg_entry_eq]
  exact body p e s m _ below meth c _ ⟨B.exec, B.bytes, hml, hown, fun w hw => hts w (List.mem_cons_of_mem _ hw), hK, hE⟩ hW va_S.rf hnc htab
    (fun {pc ls H locs v I' L' R' cells slots} hdg hc hs hW' hS' hQ => W.widen hc hs (vx_ret (W.iret (v := v) B.exec B.bytes B.returns (fun t ht _ => ⟨⟨v, (I', L', R'), rfl, hQ, by show Wd _ _ _ _ _ _ t.heap; rw [ht]; exact hW'⟩, hS'.F ht⟩) hS'.2.2 hdg hlocks))) _ (lv_entry av hlen)
