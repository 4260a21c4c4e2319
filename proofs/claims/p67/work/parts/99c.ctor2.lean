/-! constructors: what the tables say -/
theorem OI_1 : Cond.instanceMethod objectInit ∈ wsL_law := inR_1 _ (List.mem_of_getElem? (i := 16) rfl)
theorem OI_2 : Cond.code objectInit ⟨#[0xb1]⟩ 1 none ∈ wsL_law := inR_1 _ (List.mem_of_getElem? (i := 17) rfl)
theorem AC_int : Cond.arrayClass .int ∈ wsL_law := inR_1 _ (List.mem_of_getElem? (i := 18) rfl)
theorem AC_byte : Cond.arrayClass .byte ∈ wsL_law := inR_5 _ (List.mem_of_getElem? (i := 0) rfl)
theorem AC_long : Cond.arrayClass .long ∈ wsL_law := inR_7 _ (List.mem_of_getElem? (i := 14) rfl)
theorem AC_boolean : Cond.arrayClass .boolean ∈ wsL_law := inR_29 _ (List.mem_of_getElem? (i := 12) rfl)
theorem NW_L_8 : NW RL 8 12 := ⟨RL, TL, 18, rfl, inlL, inR_1 _ (List.mem_of_getElem? (i := 0) rfl), inR_1 _ (List.mem_of_getElem? (i := 1) rfl), inR_1 _ (List.mem_of_getElem? (i := 2) rfl)⟩
theorem NW_L_57 : NW RL 57 11 := ⟨RX11, TX11, 13, rfl, inlX11, inR_1 _ (List.mem_of_getElem? (i := 4) rfl), inR_1 _ (List.mem_of_getElem? (i := 5) rfl), inR_1 _ (List.mem_of_getElem? (i := 6) rfl)⟩
theorem NW_X11_9 : NW RX11 9 0 := ⟨RX0, TX0, 1, rfl, inlX0, inR_2 _ (List.mem_of_getElem? (i := 8) rfl), inR_2 _ (List.mem_of_getElem? (i := 9) rfl), inR_2 _ (List.mem_of_getElem? (i := 10) rfl)⟩
theorem NW_X11_16 : NW RX11 16 8 := ⟨RX8, TX8, 2, rfl, inlX8, inR_2 _ (List.mem_of_getElem? (i := 12) rfl), inR_2 _ (List.mem_of_getElem? (i := 13) rfl), inR_2 _ (List.mem_of_getElem? (i := 14) rfl)⟩
theorem NW_X11_23 : NW RX11 23 7 := ⟨RX7, TX7, 2, rfl, inlX7, inR_2 _ (List.mem_of_getElem? (i := 16) rfl), inR_2 _ (List.mem_of_getElem? (i := 17) rfl), inR_2 _ (List.mem_of_getElem? (i := 18) rfl)⟩
theorem NW_X11_30 : NW RX11 30 2 := ⟨RX2, TX2, 3, rfl, inlX2, inR_2 _ (List.mem_of_getElem? (i := 20) rfl), inR_2 _ (List.mem_of_getElem? (i := 21) rfl), inR_2 _ (List.mem_of_getElem? (i := 22) rfl)⟩
theorem NW_X11_37 : NW RX11 37 4 := ⟨RX4, TX4, 2, rfl, inlX4, inR_3 _ (List.mem_of_getElem? (i := 0) rfl), inR_3 _ (List.mem_of_getElem? (i := 1) rfl), inR_3 _ (List.mem_of_getElem? (i := 2) rfl)⟩
theorem NW_X11_52 : NW RX11 52 9 := ⟨RX9, TX9, 2, rfl, inlX9, inR_3 _ (List.mem_of_getElem? (i := 7) rfl), inR_3 _ (List.mem_of_getElem? (i := 8) rfl), inR_3 _ (List.mem_of_getElem? (i := 9) rfl)⟩
theorem NW_X11_55 : NW RX11 55 1 := ⟨RX1, TX1, 16, rfl, inlX1, inR_3 _ (List.mem_of_getElem? (i := 10) rfl), inR_3 _ (List.mem_of_getElem? (i := 11) rfl), inR_3 _ (List.mem_of_getElem? (i := 12) rfl)⟩
theorem NW_X11_58 : NW RX11 58 6 := ⟨RX6, TX6, 4, rfl, inlX6, inR_3 _ (List.mem_of_getElem? (i := 13) rfl), inR_3 _ (List.mem_of_getElem? (i := 14) rfl), inR_3 _ (List.mem_of_getElem? (i := 15) rfl)⟩
theorem NW_X11_81 : NW RX11 81 5 := ⟨RX5, TX5, 6, rfl, inlX5, inR_3 _ (List.mem_of_getElem? (i := 21) rfl), inR_3 _ (List.mem_of_getElem? (i := 22) rfl), inR_3 _ (List.mem_of_getElem? (i := 23) rfl)⟩
theorem NW_X0_9 : NW RX0 9 7 := ⟨RX7, TX7, 2, rfl, inlX7, inR_4 _ (List.mem_of_getElem? (i := 4) rfl), inR_2 _ (List.mem_of_getElem? (i := 17) rfl), inR_2 _ (List.mem_of_getElem? (i := 18) rfl)⟩
theorem NW_X8_9 : NW RX8 9 7 := ⟨RX7, TX7, 2, rfl, inlX7, inR_4 _ (List.mem_of_getElem? (i := 13) rfl), inR_2 _ (List.mem_of_getElem? (i := 17) rfl), inR_2 _ (List.mem_of_getElem? (i := 18) rfl)⟩
theorem NW_X5_9 : NW RX5 9 3 := ⟨RX3, TX3, 4, rfl, inlX3, inR_6 _ (List.mem_of_getElem? (i := 23) rfl), inR_7 _ (List.mem_of_getElem? (i := 0) rfl), inR_7 _ (List.mem_of_getElem? (i := 1) rfl)⟩
theorem NW_X5_23 : NW RX5 23 10 := ⟨RX10, TX10, 7, rfl, inlX10, inR_7 _ (List.mem_of_getElem? (i := 5) rfl), inR_7 _ (List.mem_of_getElem? (i := 6) rfl), inR_7 _ (List.mem_of_getElem? (i := 7) rfl)⟩
theorem NW_L_99 : NW RL 99 14 := ⟨RJ4, TJ4, 4, rfl, inlJ4, inR_8 _ (List.mem_of_getElem? (i := 6) rfl), inR_8 _ (List.mem_of_getElem? (i := 7) rfl), inR_8 _ (List.mem_of_getElem? (i := 8) rfl)⟩
theorem NW_J4_18 : NW RJ4 18 13 := ⟨RJ0, TJ0, 4, rfl, inlJ0, inR_16 _ (List.mem_of_getElem? (i := 8) rfl), inR_16 _ (List.mem_of_getElem? (i := 9) rfl), inR_12 _ (List.mem_of_getElem? (i := 14) rfl)⟩
/-! constructors: contracts, calls -/
def PcQ (G : va_G) (bs : Nat) (cy : Nat → ClassId) (av : List Value) (es : List va_E) : Array Value → State → Prop := va_Pc av (fun U => va_P G vwCl (wq bs es) U.heap ∧ U.heap.size = bs + es.length ∧ va_K G vwCl (tyLs cy) U ∧ EK (bs + 16) cy U U.heap)
def MTq (l : Launch) (G : va_G) (bs : Nat) (cy : Nat → ClassId) (μ : MI) (n mc ms : Nat) (av : List Value) (es es' : List va_E) : Prop :=
  Met l μ.1 (mws μ) (rmL n mc ms) (PcQ G bs cy av es) (va_Qv (fun (_ : Unit) => True) (fun _ t => va_P G vwCl (wq bs es') t.heap) (Aw bs)) mc ms (Aw bs)
theorem PcQ_blind {G : va_G} {bs : Nat} {cy : Nat → ClassId} {av : List Value} {es : List va_E} : FrameBlind (PcQ G bs cy av es) := fun a U g mk q => ⟨q.1, q.2.1, q.2.2.1, va_K.moved (u := U) (U := U.calling g mk a) (Vm.Alike.refl U.vm) q.2.2.2.1, EK.same (s := U) (U := U.calling g mk a) rfl q.2.2.2.2⟩
theorem MTq.of {l : Launch} {G : va_G} {bs : Nat} {cy : Nat → ClassId} {own : String} {y : MethodName} {cc : ByteArray} {nL n mc ms : Nat} {av : List Value} {es es' : List va_E} (hy : plainName own = true) (ho : y.cls = own) (hlen : (lg_sl av).length ≤ nL)
    (body : ∀ (p : Program) (e : Env) (s : State) (m : MethodId) (args : Array Value) (below : List Frame) (meth : Method) (c : Code) (Qf : State → Prop), Cx p s m args c cc nL own G (bs + 16) cy → va_P G vwCl (wq bs es) s.heap → va_S (Aw bs) s.heap s.heap [] → s.heap.size = bs + es.length → meth.name = y.name →
      (∀ {pc : Nat} {ls : Array Slot} {H : Heap} {locs : List Loc} {cells slots : Nat}, decode cc pc = .ok (.return_, 1) → cells ≤ mc → slots ≤ ms → va_P G vwCl (wq bs es') H → va_S (Aw bs) s.heap H locs → W p l e (rmL n mc ms) s m args below meth c H locs cells slots Qf (F0 m pc ls [])) →
      ∀ ls : Array Slot, lv_has ls nL (lv_args 0 av) → W p l e (rmL n mc ms) s m args below meth c s.heap [] 0 0 Qf (F0 m 0 ls [])) : MTq l G bs cy (y, cc, nL, none) n mc ms av es es' := by
  refine Met.ofW (cc := cc) (maxL := nL) (ret := none) (by rw [ho]; exact hy) rfl ?_
  intro p e s m args below meth c s₁ B hml hv
  obtain ⟨rfl, hP, hsz, hK, hE⟩ := hv
  have hts := atoms_spec (ws := mws (y, cc, nL, none)) B.pre
  have hown : s.vm.findClass own = some m.cls := ho ▸ findClass_of_methodNamed B.named
  have hlocks := B.notSynchronized
  have hnm : meth.name = y.name := (name_of_methodNamed B.named B.method).1
  rw [lg_entry_eq]
  exact body p e s m _ below meth c _ ⟨B.exec, B.bytes, hml, hown, fun w hw => hts w (List.mem_cons_of_mem _ hw), hK, hE⟩ hP va_S.rf hsz hnm
    (fun {pc ls H locs cells slots} hdg hc hs hP' hS' => W.widen hc hs (W.vret B.exec B.bytes B.returns (fun t ht _ => ⟨⟨(), rfl, trivial, by show va_P _ _ _ t.heap; rw [ht]; exact hP'⟩, hS'.F ht⟩) hS'.2.2 hdg hlocks)) _ (lv_entry av hlen)
section QC
variable {p : Program} {l : Launch} {e : Env} {Rm : Room} {s : State} {m : MethodId} {args : Array Value} {below : List Frame} {meth : Method} {c : Code} {H : Heap} {locs : List Loc} {cells slots : Nat} {Q : State → Prop}
variable {cc : ByteArray} {pc nL : Nat} {ls : Array Slot} {rest : List Value} {own : String} {G : va_G} {bs : Nat} {cy : Nat → ClassId} {es : List va_E} {k : Nat}
theorem q_obj (X : Cx p s m args c cc nL own G (bs + 16) cy) {idx : Nat} (hl : Cond.methodLink own idx objectInit ∈ wsL_law) {a : Addr} {lv : List (Nat × Value)} (hl2 : lv_has ls nL lv) (hfr : 1 ≤ Rm.frames) (hlo : (rest.map fun v => v.category).sum + 12 ≤ Rm.locals) (hdg : decode cc pc = .ok (.invokespecial idx, 3))
    (kk : W p l e Rm s m args below meth c H locs cells slots Q (F0 m (pc + 3) ls rest)) : W p l e Rm s m args below meth c H locs cells slots Q (F0 m pc ls (.ref a :: rest)) := by
  obtain ⟨hx, hb, hml, hown, hts, hK, -⟩ := X
  refine W.objInit hx hb hown (hts _ hl) (hts _ OI_1) (hts _ OI_2) rfl (by rw [hml]; exact hl2.1) rfl hdg hfr (by simpa using hlo) ?_
  exact W.eq (g2 := F0 m (pc + 3) ls rest) rfl kk
/-- the heap's size at a call -/
theorem q_size {A : Nat → Prop} (hQ : va_P G vwCl (wq bs es) H) (hS : va_S A s.heap H locs) (hsz : s.heap.size + cells = bs + es.length) (hne : es ≠ []) (hz : H.size ≤ s.heap.size + cells) : H.size = bs + es.length := by
  have hl : es.length - 1 < es.length := by have := List.length_pos_iff.mpr hne; omega
  have h1 := (hQ _ _ (wq_at (bs := bs) (List.getElem?_eq_getElem hl))).lt
  have h2 : bs + (es.length - 1) < H.size := h1
  omega
theorem callQ (X : Cx p s m args c cc nL own G (bs + 16) cy) (hQ : va_P G vwCl (wq bs es) H) (hS : va_S (Aw bs) s.heap H locs) (hsz : s.heap.size + cells = bs + es.length) (hne : es ≠ []) {n : Nat} (hfr : Rm.frames = n ∧ Rm.locals = 60 * n) {μ : MI} {n' mc ms : Nat} {As : List Value} {es' : List va_E} (hM : MTq l G bs cy μ n' mc ms (.ref (bs + k) :: As) es es') (hn : n' + 1 ≤ n) {C : String} {na idx : Nat} (hu : UI μ C na) (hret : μ.2.2.2 = none) (hini : μ.1.name = "<init>") (hl : Cond.methodLink own idx μ.1 ∈ wsL_law)
    (hA : As.length = na) {st0 : List Value} (hst : st0 = As.reverse ++ .ref (bs + k) :: rest) (hrest : (rest.map fun v => v.category).sum ≤ 8) {lv : List (Nat × Value)} (hl2 : lv_has ls nL lv) (hcs : cells + mc ≤ Rm.cells ∧ slots + ms ≤ Rm.slots) (hlen' : es'.length = es.length + mc) (hdg : decode cc pc = .ok (.invokespecial idx, 3))
    (kk : ∀ (H1 : Heap) (locs1 : List Loc), va_P G vwCl (wq bs es') H1 → va_S (Aw bs) s.heap H1 locs1 → s.heap.size + (cells + mc) = bs + es'.length → W p l e Rm s m args below meth c H1 locs1 (cells + mc) (slots + ms) Q (F0 m (pc + 3) ls rest)) : W p l e Rm s m args below meth c H locs cells slots Q (F0 m pc ls st0) := by
  refine W.size9 (fun hz => ?_)
  have hsize := q_size hQ hS hsz hne hz
  obtain ⟨hx, hb, hml, hown, hts, hK, hE⟩ := id X
  subst hst
  obtain ⟨u1, u2, u3, u4, u5⟩ := hu
  obtain ⟨y, cb, mL, rt⟩ := μ
  dsimp only at hret hini u1 u2 u3 u4 u5
  subst hret
  have hcw : CallB Rm s args own idx y cb mL none (mws (y, cb, mL, none)) (rmL n' mc ms) mc ms na ∧ y.name = "<init>" ∧ (Cond.instanceMethod y).before args s = true := by
    refine cwI na hts (gIn (fun w hw => ?_)) rfl rfl rfl (hts _ (by rw [u1.1]; exact u4)) (hts _ hl) (hts _ u3) hini ⟨u1.2.1, u1.2.2.1, u1.2.2.2⟩ ⟨by rw [hfr.1]; exact hn, by rw [hfr.2]; show 8 + (mL + 11) + 60 * n' ≤ 60 * n; omega⟩
    rcases List.mem_cons.mp hw with rfl | hw
    · exact u5
    · exact hw
  exact va_callv (va_runI (As := As) (rest := rest) ⟨hx, hb, hml, hown, hts⟩ hM hcw ⟨PcQ_blind, fun U hU hW2 => ⟨rfl, by rw [hU]; exact hQ, by rw [hU]; exact hsize, va_K.moved hW2.alike hK, by rw [hU]; exact hE.tow hW2 hS.2.1⟩⟩ rfl hA hl2.1 rfl (lv_room hrest) hdg hcs) hS (fun q _ h => h) (fun q h => h)
    (fun u t H1 locs1 ht hvm hp hB hz hk1 hS1 => kk H1 locs1 (by rw [← ht]; exact hB) hS1 (by rw [hlen']; omega))
theorem callQN (X : Cx p s m args c cc nL own G (bs + 16) cy) (hQ : va_P G vwCl (wq bs es) H) (hS : va_S (Aw bs) s.heap H locs) (hsz : s.heap.size + cells = bs + es.length) (hne : es ≠ []) {n : Nat} (hfr : Rm.frames = n ∧ Rm.locals = 60 * n) {μ : MI} {n' mc ms : Nat} {As : List Value} {es' : List va_E} (hM : MTq l G bs cy μ n' mc ms (.ref (bs + k) :: As) es es') (hn : n' + 1 ≤ n) {C : String} {na idx : Nat} (hu : UI μ C na) (hret : μ.2.2.2 = none) (hini : μ.1.name = "<init>") (hl : Cond.methodLinkNest own idx μ.1 "SpanPainter" ∈ nestL)
    (hA : As.length = na) {st0 : List Value} (hst : st0 = As.reverse ++ .ref (bs + k) :: rest) (hrest : (rest.map fun v => v.category).sum ≤ 8) {lv : List (Nat × Value)} (hl2 : lv_has ls nL lv) (hcs : cells + mc ≤ Rm.cells ∧ slots + ms ≤ Rm.slots) (hlen' : es'.length = es.length + mc) (hdg : decode cc pc = .ok (.invokespecial idx, 3))
    (kk : ∀ (H1 : Heap) (locs1 : List Loc), va_P G vwCl (wq bs es') H1 → va_S (Aw bs) s.heap H1 locs1 → s.heap.size + (cells + mc) = bs + es'.length → W p l e Rm s m args below meth c H1 locs1 (cells + mc) (slots + ms) Q (F0 m (pc + 3) ls rest)) : W p l e Rm s m args below meth c H locs cells slots Q (F0 m pc ls st0) := by
  refine W.size9 (fun hz => ?_)
  have hsize := q_size hQ hS hsz hne hz
  obtain ⟨hx, hb, hml, hown, hts, hK, hE⟩ := id X
  subst hst
  obtain ⟨u1, u2, u3, u4, u5⟩ := hu
  obtain ⟨y, cb, mL, rt⟩ := μ
  dsimp only at hret hini u1 u2 u3 u4 u5
  subst hret
  have hcw : va_CN Rm s args own idx y "SpanPainter" cb mL none (mws (y, cb, mL, none)) (rmL n' mc ms) mc ms na ∧ y.name = "<init>" ∧ (Cond.instanceMethod y).before args s = true := by
    refine ⟨va_cnB na hts (gIn (fun w hw => ?_)) rfl rfl rfl (hE.1.1 _ hl) (hts _ (by rw [u1.1]; exact u4)) ⟨u1.2.1, u1.2.2.1, u1.2.2.2⟩ ⟨by rw [hfr.1]; exact hn, by rw [hfr.2]; show 8 + (mL + 11) + 60 * n' ≤ 60 * n; omega⟩, hini, hts _ u3⟩
    rcases List.mem_cons.mp hw with rfl | hw
    · exact u5
    · exact hw
  exact va_callv (va_runIN (As := As) (rest := rest) ⟨hx, hb, hml, hown, hts⟩ hM hcw ⟨PcQ_blind, fun U hU hW2 => ⟨rfl, by rw [hU]; exact hQ, by rw [hU]; exact hsize, va_K.moved hW2.alike hK, by rw [hU]; exact hE.tow hW2 hS.2.1⟩⟩ rfl hA hl2.1 rfl (lv_room hrest) hdg hcs) hS (fun q _ h => h) (fun q h => h)
    (fun u t H1 locs1 ht hvm hp hB hz hk1 hS1 => kk H1 locs1 (by rw [← ht]; exact hB) hS1 (by rw [hlen']; omega))
end QC
