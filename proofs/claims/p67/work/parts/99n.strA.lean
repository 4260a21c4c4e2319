/-! texts: what the JDK's own methods stand on -/
abbrev SD : Type := Nat × Nat × List Nat
/-- a text: the String at a, its bytes at w, its letters l -/
def SLt (A : Nat → Prop) (U : State) (H : Heap) (x : SD) : Prop := va_O RJ0 x.1 A U H ∧ va_OF RJ0 "coder" "B" (.int 0) x.1 A U H ∧ va_OF RJ0 "value" "[B" (.ref x.2.1) x.1 A U H ∧ va_T .byte x.2.1 x.2.2.length (fun j => .int (nI (x.2.2.getD j 0))) A U H ∧ (∀ z ∈ x.2.2, z < 128) ∧ x.2.2.length ≤ 65536
theorem SLt.kept {A : Nat → Prop} {U : State} {H H1 : Heap} {x : SD} (h : SLt A U H x) (hk : ∀ a : Nat, a < H.size → ¬ A a → H1[a]? = H[a]?) : SLt A U H1 x := ⟨h.1.kept hk, h.2.1.kept hk, h.2.2.1.kept hk, h.2.2.2.1.kept hk, h.2.2.2.2⟩
theorem SLt.moved {A : Nat → Prop} {u U : State} {H : Heap} {x : SD} (hvm : u.vm.Alike U.vm) (h : SLt A u H x) : SLt A U H x := ⟨h.1.moved hvm, h.2.1.moved hvm, h.2.2.1.moved hvm, h.2.2.2.1.moved hvm, h.2.2.2.2⟩
theorem SLt.narrow {A B : Nat → Prop} {U : State} {H : Heap} {x : SD} (h : SLt A U H x) (hAB : ∀ q, B q → A q) : SLt B U H x := ⟨h.1.narrow hAB, h.2.1.narrow hAB, h.2.2.1.narrow hAB, h.2.2.2.1.narrow hAB, h.2.2.2.2⟩
def PcJ (G : va_G) (bs : Nat) (cy : Nat → ClassId) (av : List Value) (sz : Nat) (A : Nat → Prop) (ws : va_W) (Ss : List SD) : Array Value → State → Prop := va_Pc av (fun U => U.heap.size = sz ∧ va_P G vwCl ws U.heap ∧ va_K G vwCl (tyLs cy) U ∧ EK bs cy U U.heap ∧ ∀ x ∈ Ss, SLt A U U.heap x)
theorem PcJ_blind {G : va_G} {bs : Nat} {cy : Nat → ClassId} {av : List Value} {sz : Nat} {A : Nat → Prop} {ws : va_W} {Ss : List SD} : FrameBlind (PcJ G bs cy av sz A ws Ss) := fun a U g mk q => ⟨q.1, q.2.1, q.2.2.1, va_K.moved (u := U) (U := U.calling g mk a) (Vm.Alike.refl U.vm) q.2.2.2.1, EK.same (s := U) (U := U.calling g mk a) rfl q.2.2.2.2.1, fun x hx => SLt.moved (u := U) (U := U.calling g mk a) (Vm.Alike.refl U.vm) (q.2.2.2.2.2 x hx)⟩
/-- a method that changes nothing and answers an int -/
def JSi (l : Launch) (G : va_G) (bs : Nat) (cy : Nat → ClassId) (μ : MI) (n : Nat) (av : List Value) (sz : Nat) (A : Nat → Prop) (ws : va_W) (Ss : List SD) (post : Int32 → Prop) : Prop := Met l μ.1 (mws μ) (rmL n 0 0) (PcJ G bs cy av sz A ws Ss) (vp_Si post) 0 0 (fun _ => False)
def JSv (l : Launch) (G : va_G) (bs : Nat) (cy : Nat → ClassId) (μ : MI) (n : Nat) (av : List Value) (sz : Nat) (A : Nat → Prop) (ws : va_W) (Ss : List SD) : Prop := Met l μ.1 (mws μ) (rmL n 0 0) (PcJ G bs cy av sz A ws Ss) (va_Sv (fun _ => True)) 0 0 (fun _ => False)
def JSr (l : Launch) (G : va_G) (bs : Nat) (cy : Nat → ClassId) (μ : MI) (n : Nat) (av : List Value) (sz : Nat) (A : Nat → Prop) (ws : va_W) (Ss : List SD) (r : Nat) : Prop := Met l μ.1 (mws μ) (rmL n 0 0) (PcJ G bs cy av sz A ws Ss) (va_Sr (fun k => k = r) (fun k => .ref k)) 0 0 (fun _ => False)
def JBi (l : Launch) (G : va_G) (bs : Nat) (cy : Nat → ClassId) (μ : MI) (n : Nat) (av : List Value) (sz : Nat) (A : Nat → Prop) (ws : va_W) (Ss : List SD) (post : Int32 → va_W → Prop) (mc ms : Nat) : Prop := Met l μ.1 (mws μ) (rmL n mc ms) (PcJ G bs cy av sz A ws Ss) (va_Qi (fun r (u : va_W) => post r u) (fun u t => va_P G vwCl u t.heap) A) mc ms A
def JBv (l : Launch) (G : va_G) (bs : Nat) (cy : Nat → ClassId) (μ : MI) (n : Nat) (av : List Value) (sz : Nat) (A : Nat → Prop) (ws : va_W) (Ss : List SD) (post : va_W → Prop) (mc ms : Nat) : Prop := Met l μ.1 (mws μ) (rmL n mc ms) (PcJ G bs cy av sz A ws Ss) (va_Qv (fun (u : va_W) => post u) (fun u t => va_P G vwCl u t.heap) A) mc ms A
def JBr (l : Launch) (G : va_G) (bs : Nat) (cy : Nat → ClassId) (μ : MI) (n : Nat) (av : List Value) (sz : Nat) (A : Nat → Prop) (ws : va_W) (Ss : List SD) (post : Nat → va_W → Prop) (mc ms : Nat) : Prop := Met l μ.1 (mws μ) (rmL n mc ms) (PcJ G bs cy av sz A ws Ss) (va_Qr (fun (u : Nat × va_W) => post u.1 u.2) (fun u a t => a = u.1 ∧ va_P G vwCl u.2 t.heap) A) mc ms A
section JE
variable {l : Launch} {G : va_G} {bs : Nat} {cy : Nat → ClassId} {own : String} {y : MethodName} {cc : ByteArray} {nL n sz mc ms : Nat} {av : List Value} {A : Nat → Prop} {ws : va_W} {Ss : List SD}
theorem JSi.of {ty : FieldType} {post : Int32 → Prop} (hy : plainName own = true) (ho : y.cls = own) (hlen : (lg_sl av).length ≤ nL)
    (body : ∀ (p : Program) (e : Env) (s : State) (m : MethodId) (args : Array Value) (below : List Frame) (meth : Method) (c : Code) (Qf : State → Prop), Cx p s m args c cc nL own G bs cy → s.heap.size = sz → va_P G vwCl ws s.heap → (∀ x ∈ Ss, SLt A s s.heap x) →
      (∀ {pc : Nat} {ls : Array Slot} {v : Int32}, decode cc pc = .ok (.ireturn, 1) → narrow ty (.int v) = .int v → post v → W p l e (rmL n 0 0) s m args below meth c s.heap [] 0 0 Qf (F0 m pc ls [.int v])) →
      ∀ ls : Array Slot, lv_has ls nL (lv_args 0 av) → W p l e (rmL n 0 0) s m args below meth c s.heap [] 0 0 Qf (F0 m 0 ls [])) : JSi l G bs cy (y, cc, nL, some ty) n av sz A ws Ss post := by
  refine Met.ofW (cc := cc) (maxL := nL) (ret := some ty) (by rw [ho]; exact hy) rfl ?_
  intro p e s m args below meth c s₁ B hml hv
  obtain ⟨rfl, hsz, hP, hK, hE, hSs⟩ := hv
  have hts := atoms_spec (ws := mws (y, cc, nL, some ty)) B.pre
  have hown : s.vm.findClass own = some m.cls := ho ▸ findClass_of_methodNamed B.named
  have hlocks := B.notSynchronized
  rw [lg_entry_eq]
  exact body p e s m _ below meth c _ ⟨B.exec, B.bytes, hml, hown, fun w hw => hts w (List.mem_cons_of_mem _ hw), hK, hE⟩ hsz hP hSs
    (fun {pc ls v} hdg hn hp => W.zret (v := v) B.exec B.bytes B.returns hn (fun t ht _ => ⟨v, rfl, hp, ht⟩) (fun q hq => by cases hq) hdg hlocks) _ (lv_entry av hlen)
theorem JSv.of (hy : plainName own = true) (ho : y.cls = own) (hlen : (lg_sl av).length ≤ nL)
    (body : ∀ (p : Program) (e : Env) (s : State) (m : MethodId) (args : Array Value) (below : List Frame) (meth : Method) (c : Code) (Qf : State → Prop), Cx p s m args c cc nL own G bs cy → s.heap.size = sz → va_P G vwCl ws s.heap → (∀ x ∈ Ss, SLt A s s.heap x) →
      (∀ {pc : Nat} {ls : Array Slot}, decode cc pc = .ok (.return_, 1) → W p l e (rmL n 0 0) s m args below meth c s.heap [] 0 0 Qf (F0 m pc ls [])) →
      ∀ ls : Array Slot, lv_has ls nL (lv_args 0 av) → W p l e (rmL n 0 0) s m args below meth c s.heap [] 0 0 Qf (F0 m 0 ls [])) : JSv l G bs cy (y, cc, nL, none) n av sz A ws Ss := by
  refine Met.ofW (cc := cc) (maxL := nL) (ret := none) (by rw [ho]; exact hy) rfl ?_
  intro p e s m args below meth c s₁ B hml hv
  obtain ⟨rfl, hsz, hP, hK, hE, hSs⟩ := hv
  have hts := atoms_spec (ws := mws (y, cc, nL, none)) B.pre
  have hown : s.vm.findClass own = some m.cls := ho ▸ findClass_of_methodNamed B.named
  have hlocks := B.notSynchronized
  rw [lg_entry_eq]
  exact body p e s m _ below meth c _ ⟨B.exec, B.bytes, hml, hown, fun w hw => hts w (List.mem_cons_of_mem _ hw), hK, hE⟩ hsz hP hSs
    (fun {pc ls} hdg => W.vret B.exec B.bytes B.returns (fun t ht _ => ⟨rfl, trivial, ht⟩) (fun q hq => by cases hq) hdg hlocks) _ (lv_entry av hlen)
theorem JSr.of {rt : FieldType} {r : Nat} (hrt : (∃ n, rt = .object n) ∨ ∃ t, rt = .array t) (hy : plainName own = true) (ho : y.cls = own) (hlen : (lg_sl av).length ≤ nL)
    (body : ∀ (p : Program) (e : Env) (s : State) (m : MethodId) (args : Array Value) (below : List Frame) (meth : Method) (c : Code) (Qf : State → Prop), Cx p s m args c cc nL own G bs cy → s.heap.size = sz → va_P G vwCl ws s.heap → (∀ x ∈ Ss, SLt A s s.heap x) →
      (∀ {pc : Nat} {ls : Array Slot}, decode cc pc = .ok (.areturn, 1) → W p l e (rmL n 0 0) s m args below meth c s.heap [] 0 0 Qf (F0 m pc ls [.ref r])) →
      ∀ ls : Array Slot, lv_has ls nL (lv_args 0 av) → W p l e (rmL n 0 0) s m args below meth c s.heap [] 0 0 Qf (F0 m 0 ls [])) : JSr l G bs cy (y, cc, nL, some rt) n av sz A ws Ss r := by
  refine Met.ofW (cc := cc) (maxL := nL) (ret := some rt) (by rw [ho]; exact hy) rfl ?_
  intro p e s m args below meth c s₁ B hml hv
  obtain ⟨rfl, hsz, hP, hK, hE, hSs⟩ := hv
  have hts := atoms_spec (ws := mws (y, cc, nL, some rt)) B.pre
  have hown : s.vm.findClass own = some m.cls := ho ▸ findClass_of_methodNamed B.named
  have hlocks := B.notSynchronized
  rw [lg_entry_eq]
  exact body p e s m _ below meth c _ ⟨B.exec, B.bytes, hml, hown, fun w hw => hts w (List.mem_cons_of_mem _ hw), hK, hE⟩ hsz hP hSs
    (fun {pc ls} hdg => W.aret (v := .ref r) B.exec B.bytes B.returns hrt (Or.inr ⟨_, rfl⟩) (fun t ht _ => ⟨r, rfl, rfl, ht⟩) (fun q hq => by cases hq) hdg hlocks) _ (lv_entry av hlen)
theorem JBv.of {post : va_W → Prop} (hy : plainName own = true) (ho : y.cls = own) (hlen : (lg_sl av).length ≤ nL)
    (body : ∀ (p : Program) (e : Env) (s : State) (m : MethodId) (args : Array Value) (below : List Frame) (meth : Method) (c : Code) (Qf : State → Prop), Cx p s m args c cc nL own G bs cy → s.heap.size = sz → va_P G vwCl ws s.heap → (∀ x ∈ Ss, SLt A s s.heap x) → va_S A s.heap s.heap [] → meth.name = y.name →
      (∀ {pc : Nat} {ls : Array Slot} {H : Heap} {locs : List Loc} {u : va_W} {cells slots : Nat}, decode cc pc = .ok (.return_, 1) → cells ≤ mc → slots ≤ ms → va_P G vwCl u H → va_S A s.heap H locs → post u → W p l e (rmL n mc ms) s m args below meth c H locs cells slots Qf (F0 m pc ls [])) →
      ∀ ls : Array Slot, lv_has ls nL (lv_args 0 av) → W p l e (rmL n mc ms) s m args below meth c s.heap [] 0 0 Qf (F0 m 0 ls [])) : JBv l G bs cy (y, cc, nL, none) n av sz A ws Ss post mc ms := by
  refine Met.ofW (cc := cc) (maxL := nL) (ret := none) (by rw [ho]; exact hy) rfl ?_
  intro p e s m args below meth c s₁ B hml hv
  obtain ⟨rfl, hsz, hP, hK, hE, hSs⟩ := hv
  have hts := atoms_spec (ws := mws (y, cc, nL, none)) B.pre
  have hown : s.vm.findClass own = some m.cls := ho ▸ findClass_of_methodNamed B.named
  have hlocks := B.notSynchronized
  rw [lg_entry_eq]
  exact body p e s m _ below meth c _ ⟨B.exec, B.bytes, hml, hown, fun w hw => hts w (List.mem_cons_of_mem _ hw), hK, hE⟩ hsz hP hSs va_S.rf (name_of_methodNamed B.named B.method).1
    (fun {pc ls H locs u cells slots} hdg hc hs hP' hS' hQ => W.widen hc hs (W.vret B.exec B.bytes B.returns (fun t ht _ => ⟨⟨u, rfl, hQ, by show va_P _ _ _ t.heap; rw [ht]; exact hP'⟩, hS'.F ht⟩) hS'.2.2 hdg hlocks)) _ (lv_entry av hlen)
theorem JBi.of {ty : FieldType} {post : Int32 → va_W → Prop} (hy : plainName own = true) (ho : y.cls = own) (hlen : (lg_sl av).length ≤ nL)
    (body : ∀ (p : Program) (e : Env) (s : State) (m : MethodId) (args : Array Value) (below : List Frame) (meth : Method) (c : Code) (Qf : State → Prop), Cx p s m args c cc nL own G bs cy → s.heap.size = sz → va_P G vwCl ws s.heap → (∀ x ∈ Ss, SLt A s s.heap x) → va_S A s.heap s.heap [] →
      (∀ {pc : Nat} {ls : Array Slot} {H : Heap} {locs : List Loc} {v : Int32} {u : va_W} {cells slots : Nat}, decode cc pc = .ok (.ireturn, 1) → narrow ty (.int v) = .int v → cells ≤ mc → slots ≤ ms → va_P G vwCl u H → va_S A s.heap H locs → post v u → W p l e (rmL n mc ms) s m args below meth c H locs cells slots Qf (F0 m pc ls [.int v])) →
      ∀ ls : Array Slot, lv_has ls nL (lv_args 0 av) → W p l e (rmL n mc ms) s m args below meth c s.heap [] 0 0 Qf (F0 m 0 ls [])) : JBi l G bs cy (y, cc, nL, some ty) n av sz A ws Ss post mc ms := by
  refine Met.ofW (cc := cc) (maxL := nL) (ret := some ty) (by rw [ho]; exact hy) rfl ?_
  intro p e s m args below meth c s₁ B hml hv
  obtain ⟨rfl, hsz, hP, hK, hE, hSs⟩ := hv
  have hts := atoms_spec (ws := mws (y, cc, nL, some ty)) B.pre
  have hown : s.vm.findClass own = some m.cls := ho ▸ findClass_of_methodNamed B.named
  have hlocks := B.notSynchronized
  rw [lg_entry_eq]
  exact body p e s m _ below meth c _ ⟨B.exec, B.bytes, hml, hown, fun w hw => hts w (List.mem_cons_of_mem _ hw), hK, hE⟩ hsz hP hSs va_S.rf
    (fun {pc ls H locs v u cells slots} hdg hn hc hs hP' hS' hQ => W.widen hc hs (W.zret (v := v) B.exec B.bytes B.returns hn (fun t ht _ => ⟨⟨v, u, rfl, hQ, by show va_P _ _ _ t.heap; rw [ht]; exact hP'⟩, hS'.F ht⟩) hS'.2.2 hdg hlocks)) _ (lv_entry av hlen)
theorem JBr.of {rt : FieldType} {post : Nat → va_W → Prop} (hrt : (∃ n, rt = .object n) ∨ ∃ t, rt = .array t) (hy : plainName own = true) (ho : y.cls = own) (hlen : (lg_sl av).length ≤ nL)
    (body : ∀ (p : Program) (e : Env) (s : State) (m : MethodId) (args : Array Value) (below : List Frame) (meth : Method) (c : Code) (Qf : State → Prop), Cx p s m args c cc nL own G bs cy → s.heap.size = sz → va_P G vwCl ws s.heap → (∀ x ∈ Ss, SLt A s s.heap x) → va_S A s.heap s.heap [] →
      (∀ {pc : Nat} {ls : Array Slot} {H : Heap} {locs : List Loc} {r : Nat} {u : va_W} {cells slots : Nat}, decode cc pc = .ok (.areturn, 1) → cells ≤ mc → slots ≤ ms → va_P G vwCl u H → va_S A s.heap H locs → post r u → W p l e (rmL n mc ms) s m args below meth c H locs cells slots Qf (F0 m pc ls [.ref r])) →
      ∀ ls : Array Slot, lv_has ls nL (lv_args 0 av) → W p l e (rmL n mc ms) s m args below meth c s.heap [] 0 0 Qf (F0 m 0 ls [])) : JBr l G bs cy (y, cc, nL, some rt) n av sz A ws Ss post mc ms := by
  refine Met.ofW (cc := cc) (maxL := nL) (ret := some rt) (by rw [ho]; exact hy) rfl ?_
  intro p e s m args below meth c s₁ B hml hv
  obtain ⟨rfl, hsz, hP, hK, hE, hSs⟩ := hv
  have hts := atoms_spec (ws := mws (y, cc, nL, some rt)) B.pre
  have hown : s.vm.findClass own = some m.cls := ho ▸ findClass_of_methodNamed B.named
  have hlocks := B.notSynchronized
  rw [lg_entry_eq]
  exact body p e s m _ below meth c _ ⟨B.exec, B.bytes, hml, hown, fun w hw => hts w (List.mem_cons_of_mem _ hw), hK, hE⟩ hsz hP hSs va_S.rf
    (fun {pc ls H locs r u cells slots} hdg hc hs hP' hS' hQ => W.widen hc hs (W.aret (v := .ref r) B.exec B.bytes B.returns hrt (Or.inr ⟨_, rfl⟩) (fun t ht _ => ⟨⟨(r, u), r, rfl, hQ, rfl, by show va_P _ _ _ t.heap; rw [ht]; exact hP'⟩, hS'.F ht⟩) hS'.2.2 hdg hlocks)) _ (lv_entry av hlen)
end JE
