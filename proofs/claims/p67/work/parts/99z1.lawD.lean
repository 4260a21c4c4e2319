/-! the law's methods that make cells -/
def Ar (bs sz : Nat) : Nat → Prop := fun z => Aq bs z ∨ sz ≤ z
def AOK (bs sz : Nat) (A : Nat → Prop) : Prop := (∀ z, Aq bs z → A z) ∧ (∀ z, sz ≤ z → A z) ∧ ∀ z, A z → Ag bs z
theorem Wd.sz {G : va_G} {bs : Nat} {cy : Nat → ClassId} {I : CI} {L : CL} {R : CR} {H : Heap} (h : Wd G bs cy I L R H) : bs + 67 ≤ H.size := by
  have := (h 66 _ (wl_at (k := 66) (by decide))).lt
  have h2 : bs + 66 < H.size := this
  omega
theorem ArOK {bs sz : Nat} (h : bs + 67 ≤ sz) : AOK bs sz (Ar bs sz) := ⟨fun _ h => Or.inl h, fun _ h => Or.inr h, fun z h2 => h2.elim agq (fun h3 => by show bs ≤ z + 16; omega)⟩
def PcA (G : va_G) (bs : Nat) (cy : Nat → ClassId) (av : List Value) (sz : Nat) (I : CI) (L : CL) (R : CR) : Array Value → State → Prop := va_Pc av (fun U => U.heap.size = sz ∧ Wd G bs cy I L R U.heap ∧ va_K G vwCl (tyLs cy) U ∧ EK bs cy U U.heap)
theorem PcA_blind {G : va_G} {bs : Nat} {cy : Nat → ClassId} {av : List Value} {sz : Nat} {I : CI} {L : CL} {R : CR} : FrameBlind (PcA G bs cy av sz I L R) := fun a U g mk q => ⟨q.1, q.2.1, q.2.2.1, va_K.moved (u := U) (U := U.calling g mk a) (Vm.Alike.refl U.vm) q.2.2.2.1, EK.same (s := U) (U := U.calling g mk a) rfl q.2.2.2.2⟩
/-- a text that a method answers: its cells -/
def TxC (G : va_G) (cy : Nat → ClassId) (sz : Nat) (H : Heap) (x : SD) : Prop := sz ≤ x.1 ∧ sz ≤ x.2.1 ∧ (∀ z ∈ x.2.2, z < 128) ∧ x.2.2.length ≤ 300 ∧ ∃ a : Nat → Int32, va_P G vwCl [(x.1, (.inr (13, [.ref x.2.1, .int (nI 0), .int (nI 0), .int (nI 0)]) : va_E)), (x.2.1, arB cy x.2.2.length a)] H ∧ ∀ j, j < x.2.2.length → a j = nI (x.2.2.getD j 0)
def MAi (l : Launch) (G : va_G) (bs : Nat) (cy : Nat → ClassId) (μ : MI) (n : Nat) (av : List Value) (sz : Nat) (I : CI) (L : CL) (R : CR) (Q : Int32 → CI → CL → CR → Prop) (mc ms : Nat) : Prop :=
  Met l μ.1 (mws μ) (rmL n mc ms) (PcA G bs cy av sz I L R) (va_Qi (fun (r : Int32) (u : Sto) => Q r u.1 u.2.1 u.2.2) (BM G bs cy) (Ar bs sz)) mc ms (Ar bs sz)
def MAr (l : Launch) (G : va_G) (bs : Nat) (cy : Nat → ClassId) (μ : MI) (n : Nat) (av : List Value) (sz : Nat) (I : CI) (L : CL) (R : CR) (Q : List Nat → CI → CL → CR → Prop) (mc ms : Nat) : Prop :=
  Met l μ.1 (mws μ) (rmL n mc ms) (PcA G bs cy av sz I L R) (va_Qr (fun (u : SD × Sto) => Q u.1.2.2 u.2.1 u.2.2.1 u.2.2.2) (fun u a t => a = u.1.1 ∧ BM G bs cy u.2 t ∧ TxC G cy sz t.heap u.1) (Ar bs sz)) mc ms (Ar bs sz)
section MAS
variable {l : Launch} {G : va_G} {bs : Nat} {cy : Nat → ClassId} {own : String} {y : MethodName} {cc : ByteArray} {nL n sz mc ms : Nat} {av : List Value} {I : CI} {L : CL} {R : CR}
theorem MAi.of {Q : Int32 → CI → CL → CR → Prop} (hy : plainName own = true) (ho : y.cls = own) (hlen : (lg_sl av).length ≤ nL)
    (body : ∀ (p : Program) (e : Env) (s : State) (m : MethodId) (args : Array Value) (below : List Frame) (meth : Method) (c : Code) (Qf : State → Prop), Cx p s m args c cc nL own G bs cy → Wd G bs cy I L R s.heap → va_S (Ar bs s.heap.size) s.heap s.heap [] →
      (∀ {pc : Nat} {ls : Array Slot} {H : Heap} {locs : List Loc} {v : Int32} {I' : CI} {L' : CL} {R' : CR} {cells slots : Nat}, decode cc pc = .ok (.ireturn, 1) → cells ≤ mc → slots ≤ ms → Wd G bs cy I' L' R' H → va_S (Ar bs s.heap.size) s.heap H locs → Q v I' L' R' → W p l e (rmL n mc ms) s m args below meth c H locs cells slots Qf (F0 m pc ls [.int v])) →
      ∀ ls : Array Slot, lv_has ls nL (lv_args 0 av) → W p l e (rmL n mc ms) s m args below meth c s.heap [] 0 0 Qf (F0 m 0 ls [])) : MAi l G bs cy (y, cc, nL, some .int) n av sz I L R Q mc ms := by
  refine Met.ofW (cc := cc) (maxL := nL) (ret := some .int) (by rw [ho]; exact hy) rfl ?_
  intro p e s m args below meth c s₁ B hml hv
  obtain ⟨rfl, hsz, hW, hK, hE⟩ := hv
  subst hsz
  have hts := atoms_spec (ws := mws (y, cc, nL, some .int)) B.pre
  have hown : s.vm.findClass own = some m.cls := ho ▸ findClass_of_methodNamed B.named
  have hlocks := B.notSynchronized
  rw [lg_entry_eq]
  exact body p e s m _ below meth c _ ⟨B.exec, B.bytes, hml, hown, fun w hw => hts w (List.mem_cons_of_mem _ hw), hK, hE⟩ hW va_S.rf
    (fun {pc ls H locs v I' L' R' cells slots} hdg hc hs hW' hS' hQ => W.widen hc hs (W.iret (v := v) B.exec B.bytes B.returns (fun t ht _ => ⟨⟨v, (I', L', R'), rfl, hQ, by show Wd _ _ _ _ _ _ t.heap; rw [ht]; exact hW'⟩, hS'.F ht⟩) hS'.2.2 hdg hlocks)) _ (lv_entry av hlen)
theorem MAr.of {rt : FieldType} (hrt : (∃ n, rt = .object n) ∨ ∃ t, rt = .array t) {Q : List Nat → CI → CL → CR → Prop} (hy : plainName own = true) (ho : y.cls = own) (hlen : (lg_sl av).length ≤ nL)
    (body : ∀ (p : Program) (e : Env) (s : State) (m : MethodId) (args : Array Value) (below : List Frame) (meth : Method) (c : Code) (Qf : State → Prop), Cx p s m args c cc nL own G bs cy → Wd G bs cy I L R s.heap → va_S (Ar bs s.heap.size) s.heap s.heap [] →
      (∀ {pc : Nat} {ls : Array Slot} {H : Heap} {locs : List Loc} {x : SD} {I' : CI} {L' : CL} {R' : CR} {cells slots : Nat}, decode cc pc = .ok (.areturn, 1) → cells ≤ mc → slots ≤ ms → Wd G bs cy I' L' R' H → va_S (Ar bs s.heap.size) s.heap H locs → TxC G cy s.heap.size H x → Q x.2.2 I' L' R' → W p l e (rmL n mc ms) s m args below meth c H locs cells slots Qf (F0 m pc ls [.ref x.1])) →
      ∀ ls : Array Slot, lv_has ls nL (lv_args 0 av) → W p l e (rmL n mc ms) s m args below meth c s.heap [] 0 0 Qf (F0 m 0 ls [])) : MAr l G bs cy (y, cc, nL, some rt) n av sz I L R Q mc ms := by
  refine Met.ofW (cc := cc) (maxL := nL) (ret := some rt) (by rw [ho]; exact hy) rfl ?_
  intro p e s m args below meth c s₁ B hml hv
  obtain ⟨rfl, hsz, hW, hK, hE⟩ := hv
  subst hsz
  have hts := atoms_spec (ws := mws (y, cc, nL, some rt)) B.pre
  have hown : s.vm.findClass own = some m.cls := ho ▸ findClass_of_methodNamed B.named
  have hlocks := B.notSynchronized
  rw [lg_entry_eq]
  exact body p e s m _ below meth c _ ⟨B.exec, B.bytes, hml, hown, fun w hw => hts w (List.mem_cons_of_mem _ hw), hK, hE⟩ hW va_S.rf
    (fun {pc ls H locs x I' L' R' cells slots} hdg hc hs hW' hS' hx hQ => W.widen hc hs (W.aret (v := .ref x.1) B.exec B.bytes B.returns hrt (Or.inr ⟨_, rfl⟩) (fun t ht _ => ⟨⟨(x, (I', L', R')), x.1, rfl, hQ, rfl, by show Wd _ _ _ _ _ _ t.heap; rw [ht]; exact hW', by rw [ht]; exact hx⟩, hS'.F ht⟩) hS'.2.2 hdg hlocks)) _ (lv_entry av hlen)
end MAS
section GR
variable {p : Program} {l : Launch} {e : Env} {Rm : Room} {s : State} {m : MethodId} {args : Array Value} {below : List Frame} {meth : Method} {c : Code} {H : Heap} {locs : List Loc} {cells slots : Nat} {Q : State → Prop}
variable {cc : ByteArray} {pc nL : Nat} {ls : Array Slot} {rest : List Value} {own : String} {G : va_G} {bs : Nat} {cy : Nat → ClassId} {I : CI} {L : CL} {R : CR} {A : Nat → Prop} {Bs : List BD} {Ts : List SD} {q v : Nat} {lx : List Nat} {n : Nat} {lv : List (Nat × Value)} {st0 : List Value}
theorem gK (hX : Cx p s m args c cc nL own G bs cy) (hA : AOK bs s.heap.size A) (hS : va_S A s.heap H locs) {U : State} (hW2 : s.WarmedH U.vm) : EK bs cy U H := hX.2.2.2.2.2.2.tog hW2 (fun a h1 h2 => hS.2.1 a h1 (fun z => h2 (hA.2.2 a z)))
/-- a field of the law's object is written -/
theorem gL_puti (X : Cx p s m args c cc nL own G bs cy) (hA : AOK bs s.heap.size A) (hW : Wd G bs cy I L R H) (hS : va_S A s.heap H locs) {index j : Nat} (hF : FI own index 12 j) {v : Int32}
    (hfin : ((vwCl.getD 12 ("", TX0, 0)).2.1 j).2.2.2 = false) (hd : parseFieldDescriptor ((vwCl.getD 12 ("", TX0, 0)).2.1 j).2.2.1 = some .int) (hset : (wfs bs (I 67) (R 67)).set j (.int v) = wfs bs (upd (I 67) j v) (R 67)) (hj18 : j < 18) (hdg : decode cc pc = .ok (.putfield index, 3))
    (kk : ∀ (H1 : Heap) (locs1 : List Loc), Wd G bs cy (u2 I 67 j v) L R H1 → va_S A s.heap H1 locs1 → W p l e Rm s m args below meth c H1 locs1 cells slots Q (F0 m (pc + 3) ls rest)) : W p l e Rm s m args below meth c H locs cells slots Q (F0 m pc ls (.int v :: .ref (ad bs 67) :: rest)) := by
  obtain ⟨hx, hb, hml, hown, hts, hK, hE⟩ := X
  obtain ⟨C, T, N, hc, hC, hj, hin, hl⟩ := hF
  have hg : vwCl.getD 12 ("", TX0, 0) = (C, T, N) := by rw [List.getD_eq_getElem?_getD, hc]; rfl
  have hnm := cls_nm 12 (by decide)
  have hty := cls_ty 12 (by decide)
  rw [hg] at hfin hd hnm hty
  dsimp only at hfin hd hnm hty
  refine va_put hx hb hts hin (fun a => (parseFieldDescriptor (T a).2.2.1).getD .int) (fun a ha => ?_) hnm hown hK hW ((wl_D hE.2.2.2.1).weaken (fun _ q _ h => hA.1 q.1 h)) hS 67 wl_w hc j hj (hts _ hl) (fun x hx2 => by rw [hC] at hx2; exact hx2) hfin hd rfl rfl (Nat.lt_of_lt_of_le hj18 (Nat.le_of_eq rfl)) hdg (fun H1 locs1 hP _ hS1 => kk H1 locs1 ?_ hS1)
  · have h2 := hty a ha
    cases h3 : parseFieldDescriptor (T a).2.2.1 with
    | none => rw [h3] at h2; cases h2
    | some z => rfl
  · rw [hset] at hP
    rw [wl_setL (e := (.inr (12, wfs bs (upd (I 67) j v) (R 67)) : va_E)) (I' := u2 I 67 j v) (L' := L) (R' := R) ⟨by decide, by decide⟩ (fun a h => u2_ne h) (fun _ _ => rfl) (fun _ _ => rfl) (by rw [u2_eq]; rfl)] at hP
    exact hP
/-- a number in one of the law's rows is written -/
theorem gL_ast (X : Cx p s m args c cc nL own G bs cy) (hA : AOK bs s.heap.size A) (hW : Wd G bs cy I L R H) (hT : TW G cy bs s H Bs Ts) (hS : va_S A s.heap H locs) {k n : Nat} (hk : shp k = .inr (0, n)) (hN : 67 ≤ k ∧ k < NT) {x : Int32} {j : Nat} (hx : x = nI j) (hj : j < n) (hn : n < 2 ^ 31) {v : Int32} (hdg : decode cc pc = .ok (.iastore, 1))
    (kk : ∀ (H1 : Heap) (locs1 : List Loc), Wd G bs cy (u2 I k j v) L R H1 → TW G cy bs s H1 Bs Ts → va_S A s.heap H1 locs1 → W p l e Rm s m args below meth c H1 locs1 cells slots Q (F0 m (pc + 1) ls rest)) : W p l e Rm s m args below meth c H locs cells slots Q (F0 m pc ls (.int v :: .int x :: .ref (ad bs k) :: rest)) := by
  subst hx
  have hK := X.2.2.2.2.2.1
  have hb16 := X.2.2.2.2.2.2.2.2.2.1
  have ha := wl_arrL (bs := bs) (cy := cy) (I := I) (L := L) (R := R) hk hN (by decide)
  have hAk : Aq bs (ad bs k) := by rw [← adr_ge hN.1]; exact adr_A hb16 hN.2
  have e2 : (nI j).toNatClampNeg = j := nI_clamp (by omega)
  have hD := (wl_D (cy := cy) (I := I) (L := L) (R := R) hb16).weaken (B := A) (fun _ q _ h => hA.1 q.1 h)
  refine W.iast X.1 X.2.1 (hW k _ ha) ((hK.2 0 _ rfl).1 n (fun j => .int (I k j))) (fun q => by cases q) (by show ¬ (nI j < 0 ∨ (arrV _ _ _).slots.size ≤ _); rw [arrV_size]; exact vp_in_nI hj hn) rfl rfl hdg (fun H1 e9 z9 oq => ?_)
  refine kk H1 _ ?_ (hT.frame (Nat.le_of_eq z9.symm) (fun z h1 h2 => oq z (fun h => h2 (by rw [h]; exact hAk)))) (hS.put z9 oq (hA.1 _ hAk))
  have hP := hW.set hD ha (e := (.inl (cy 0, n, .inl (upd (I k) j v)) : va_E)) (by
    show H1[ad bs k]? = some (vp_cell _ _)
    rw [e9]
    show some ((vp_cell (cy 0) (n, .inl (I k))).setSlot (nI j).toNatClampNeg (.int v)) = some (vp_cell (cy 0) (n, .inl (upd (I k) j v)))
    rw [vp_cell_i, vp_cell_i, arrV_store, e2]
    congr 2
    funext z
    by_cases hz : z = j
    · subst hz; simp [updV, upd]
    · simp [updV, upd, hz]) oq
  rw [wl_setL hN (I' := u2 I k j v) (L' := L) (R' := R) (fun a h => u2_ne h) (fun _ _ => rfl) (fun _ _ => rfl) (by rw [hk, u2_eq]; rfl)] at hP
  exact hP
/-- a call of a method of the law's own that makes no cell -/
theorem gO_i (X : Cx p s m args c cc nL own G bs cy) (hA : AOK bs s.heap.size A) (hW : Wd G bs cy I L R H) (hT : TW G cy bs s H Bs Ts) (hS : va_S A s.heap H locs) (hR : RmOK Rm n) {μ : MI} {n' : Nat} {As : List Value} {Q' : Int32 → CI → CL → CR → Prop} (hM : MTi l G bs cy μ n' (.ref (ad bs 67) :: As) I L R Q') (hn : n' + 1 ≤ n) {na idx : Nat} (hu : UV μ RL na) (hl : Cond.methodLink own idx μ.1 ∈ wsL_law)
    (hA9 : As.length = na) (hst : st0 = As.reverse ++ .ref (ad bs 67) :: rest) (hrest : (rest.map fun v => v.category).sum ≤ 8) (hl2 : lv_has ls nL lv) (hcs : cells ≤ Rm.cells ∧ slots ≤ Rm.slots) (hdg : decode cc pc = .ok (.invokevirtual idx, 3))
    (kk : ∀ (r : Int32) (I' : CI) (L' : CL) (R' : CR) (H1 : Heap) (locs1 : List Loc), Q' r I' L' R' → Wd G bs cy I' L' R' H1 → TW G cy bs s H1 Bs Ts → va_S A s.heap H1 locs1 → W p l e Rm s m args below meth c H1 locs1 cells slots Q (F0 m (pc + 3) ls (.int r :: rest))) : W p l e Rm s m args below meth c H locs cells slots Q (F0 m pc ls st0) := by
  have hX := X
  obtain ⟨hx, hb, hml, hown, hts, hK, hE⟩ := id X
  subst hst
  exact va_calli (va_runV (As := As) (rest := rest) ⟨hx, hb, hml, hown, hts⟩ hM (cw_UV hts hu hl hR hn) ⟨PcM_blind, recvL X hW, fun U hU hW2 => ⟨rfl, by rw [hU]; exact hW, va_K.moved hW2.alike hK, by rw [hU]; exact gK hX hA hS hW2⟩⟩ rfl hA9 hl2.1 rfl (lv_room hrest) hdg hcs) hS (fun q _ h => hA.1 q h) (fun q h => hA.1 q h)
    (fun r u t H1 locs1 ht hvm hp hB hz hk1 hS1 => kk r u.1 u.2.1 u.2.2 H1 locs1 hp (by rw [← ht]; exact hB) (hT.frame hz hk1) hS1)
end GR
