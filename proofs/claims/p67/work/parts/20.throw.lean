abbrev IOE : String := "java/lang/IndexOutOfBoundsException"
abbrev IAE : String := "java/lang/IllegalArgumentException"
abbrev exN : List String := ["java/lang/RuntimeException", "java/lang/Exception"]
def exB (E : String) : List Cond := [.castable E E, .declares (Bundle.initS "java/lang/RuntimeException"), .declares (Bundle.initS "java/lang/Exception"), .declares (Bundle.initS Bundle.tN)]
theorem exB_0 : ∀ w ∈ (vx_atS RX11 166 IOE exN).filter (fun w => !goodWord w), w ∈ exB IOE := by decide +kernel
theorem exB_1 : ∀ w ∈ (vx_atS RX11 107 IAE exN).filter (fun w => !goodWord w), w ∈ exB IAE := by decide +kernel
theorem exG_0 : ∀ w ∈ Cond.classLink RX11 162 IOE :: Cond.initialized IOE :: vx_atS RX11 166 IOE exN, vx_ot w = true := by decide +kernel
theorem exG_1 : ∀ w ∈ Cond.classLink RX11 103 IAE :: Cond.initialized IAE :: vx_atS RX11 107 IAE exN, vx_ot w = true := by decide +kernel
theorem exF : ∀ n ∈ exN, Bundle.fit n = true := by decide +kernel
theorem exF0 : Bundle.fit IOE = true := by decide +kernel
theorem exF1 : Bundle.fit IAE = true := by decide +kernel
theorem exN_0 : ∀ w ∈ exB IOE, w ∈ nestL := by decide +kernel
theorem exN_1 : ∀ w ∈ exB IAE, w ∈ nestL := by decide +kernel
/-- what holds where a method has thrown: the store is the one that it was called with -/
def XCM (G : va_G) (bs : Nat) (cy : Nat → ClassId) (I : CI) (L : CL) (R : CR) (PX : String → Prop) : String → State → State → Prop := vx_X (fun _ : Unit => True) (fun E _ t => PX E ∧ Wd G bs cy I L R t.heap) (Aq bs)
def XTi (l : Launch) (G : va_G) (bs : Nat) (cy : Nat → ClassId) (μ : MI) (n : Nat) (av : List Value) (I : CI) (L : CL) (R : CR) (Q : Int32 → CI → CL → CR → Prop) (PX : String → Prop) (mc ms : Nat) : Prop :=
  vx_Met l μ.1 (mws μ) (rmL n mc ms) (PcM G bs cy av I L R) (va_Qi (fun (r : Int32) (u : Sto) => Q r u.1 u.2.1 u.2.2) (BM G bs cy) (Aq bs)) (XCM G bs cy I L R PX) mc ms (Aq bs)
def XTv (l : Launch) (G : va_G) (bs : Nat) (cy : Nat → ClassId) (μ : MI) (n : Nat) (av : List Value) (I : CI) (L : CL) (R : CR) (Q : CI → CL → CR → Prop) (PX : String → Prop) (mc ms : Nat) : Prop :=
  vx_Met l μ.1 (mws μ) (rmL n mc ms) (PcM G bs cy av I L R) (va_Qv (fun (u : Sto) => Q u.1 u.2.1 u.2.2) (BM G bs cy) (Aq bs)) (XCM G bs cy I L R PX) mc ms (Aq bs)
theorem inEx_0a : Cond.classLink RX11 162 IOE ∈ wsL_law := inR_30 _ (List.mem_of_getElem? (i := 15) rfl)
theorem inEx_0b : Cond.initialized IOE ∈ wsL_law := inR_30 _ (List.mem_of_getElem? (i := 16) rfl)
theorem inEx_1a : Cond.classLink RX11 103 IAE ∈ wsL_law := inR_21 _ (List.mem_of_getElem? (i := 6) rfl)
theorem inEx_1b : Cond.initialized IAE ∈ wsL_law := inR_21 _ (List.mem_of_getElem? (i := 7) rfl)
section XX0
variable {R : Room}
end XX0
section XX
variable {p : Program} {l : Launch} {e : Env} {Rm : Room} {s : State} {m : MethodId} {args : Array Value} {below : List Frame} {meth : Method} {c : Code} {H : Heap} {locs : List Loc} {cells slots : Nat} {Qf : State → Prop}
variable {cc : ByteArray} {pc nL : Nat} {ls : Array Slot} {rest : List Value} {own : String} {G : va_G} {bs : Nat} {cy : Nat → ClassId} {I : CI} {L : CL} {R : CR} {k : Nat} {mc ms : Nat} {Qc : Array Value → State → Outcome → State → Prop} {PX : String → Prop}
theorem cwX_UV (hts : ∀ w ∈ wsL_law, w.before args s = true) {μ : MI} {C : String} {na n n' idx mc ms : Nat} (hu : UV μ C na) (hl : Cond.methodLink own idx μ.1 ∈ wsL_law) (hR : RmOK Rm n) (hn : n' + 1 ≤ n) : CallW Rm s args own C idx μ.1 μ.2.1 μ.2.2.1 μ.2.2.2 (mws μ) (rmL n' mc ms) mc ms na := by
  obtain ⟨h1, h2, h3, h4, h5, h6⟩ := hu
  refine cwV na hts (gIn ?_) rfl rfl rfl h1 ⟨by rw [hR.1]; exact hn, by rw [hR.2]; show 8 + (μ.2.2.1 + 11) + 60 * n' ≤ 60 * n; omega⟩
  intro w hw
  unfold wsV mws at hw
  simp only [List.mem_append, List.mem_cons, List.not_mem_nil, or_false] at hw
  rcases hw with (rfl | rfl | rfl | rfl) | rfl | hw
  all_goals assumption
theorem cwX_US (hts : ∀ w ∈ wsL_law, w.before args s = true) {μ : MI} {C : String} {na n n' idx mc ms : Nat} (hu : US μ C na) (hl : Cond.methodLink own idx μ.1 ∈ wsL_law) (hR : RmOK Rm n) (hn : n' + 1 ≤ n) : CallB Rm s args own idx μ.1 μ.2.1 μ.2.2.1 μ.2.2.2 (mws μ) (rmL n' mc ms) mc ms na ∧ (Cond.static μ.1).before args s = true := by
  obtain ⟨h1, h2, h3, h5, h6⟩ := hu
  have h5' : Cond.initialized μ.1.cls ∈ wsL_law := by rw [h1.1]; exact h5
  refine va_cwS na hts (gIn ?_) rfl rfl rfl h1.2 ⟨by rw [hR.1]; exact hn, by rw [hR.2]; show 8 + (μ.2.2.1 + 11) + 60 * n' ≤ 60 * n; omega⟩
  intro w hw
  unfold va_wsS mws at hw
  simp only [List.mem_append, List.mem_cons, List.not_mem_nil, or_false] at hw
  rcases hw with (rfl | rfl | rfl) | rfl | hw
  all_goals assumption
theorem Wd.grow {t : State} (hW : Wd G bs cy I L R H) (hk : ∀ q : Nat, q < H.size → t.heap[q]? = H[q]?) : Wd G bs cy I L R t.heap := va_P.kept hW (fun k q h => hk q.1 (hW k q h).lt)
theorem XCM.in {t : State} {E : String} (hS : va_S (Aq bs) s.heap H locs) (hW : Wd G bs cy I L R H) (hz : H.size ≤ t.heap.size) (hk : ∀ q : Nat, q < H.size → t.heap[q]? = H[q]?) (hE : PX E) : XCM G bs cy I L R PX E s t :=
  ⟨(), trivial, ⟨hE, hW.grow hk⟩, Nat.le_trans hS.1 hz, fun q h1 h2 => (hk q (Nat.lt_of_lt_of_le h1 hS.1)).trans (hS.2.1 q h1 h2)⟩
theorem hat_0 (X : Cx p s m args c cc nL own G bs cy) : ∀ w ∈ vx_atS RX11 166 IOE exN, w.before args s = true := by
  obtain ⟨hx, hb, hml, hown, hts, hK, hE⟩ := X
  exact vx_hat (fun w hw => hts w (List.mem_append_right _ hw)) exB_0 (fun w hw => va_Nw.use (nest_ok _ (exN_0 w hw)).1 (hE.1.1 _ (exN_0 w hw)))
theorem hat_1 (X : Cx p s m args c cc nL own G bs cy) : ∀ w ∈ vx_atS RX11 107 IAE exN, w.before args s = true := by
  obtain ⟨hx, hb, hml, hown, hts, hK, hE⟩ := X
  exact vx_hat (fun w hw => hts w (List.mem_append_left _ (List.mem_append_right _ hw))) exB_1 (fun w hw => va_Nw.use (nest_ok _ (exN_1 w hw)).1 (hE.1.1 _ (exN_1 w hw)))
/-- throw new IOE("text"), the text by an index -/
theorem r_th0 (X : Cx p s m args c cc nL RX11 G bs cy) (hl0 : l.stackTraces = false) (htab : ∀ x ∈ c.exceptionTable.toList, False) (hlk : meth.locks = false) (hQf : Qf = vx_MQ below Qc (XCM G bs cy I L R PX) args s mc ms (Aq bs)) (hE : PX IOE) (hW : Wd G bs cy I L R H) (hS : va_S (Aq bs) s.heap H locs) {n : Nat} (hR : RmOK Rm n) (hn : 6 ≤ n) {text : String} {is : Nat} (hst : (is, text) ∈ strL) {lv : List (Nat × Value)} (hl2 : lv_has ls nL lv) (hrest : (rest.map fun v => v.category).sum ≤ 8) (hc1 : cells + 1 ≤ Rm.cells) (hs1 : slots + 6 ≤ Rm.slots) (hc2 : cells + 1 ≤ mc) (hs2 : slots + 6 ≤ ms)
    (d0 : decode cc pc = .ok (.new 162, 3)) (d3 : decode cc (pc + 3) = .ok (.dup, 1)) (d4 : decode cc (pc + 4) = .ok (.ldc is, 2)) (d6 : decode cc (pc + 6) = .ok (.invokespecial 166, 3)) (d9 : decode cc (pc + 9) = .ok (.athrow, 1)) :
    W p l e Rm s m args below meth c H locs cells slots Qf (F0 m pc ls rest) := by
  have hat := hat_0 X
  obtain ⟨hx, hb, hml, hown, hts, hK, hE0⟩ := X
  obtain ⟨sa, hsa⟩ := hE0.1.2 _ hst
  subst hQf
  exact vx_throwS hx hb hl0 (names := exN) hown exF0 exF (hts _ (inEx_0a)) (hts _ (inEx_0b)) hsa hat exG_0 (hE0.2.1.narrow (fun _ => agq)) (hE0.2.2.1.narrow (fun _ => agq)) hS (hl2.1.trans hml.symm) d0 d3 d4 d6 d9 (fun x hx9 => (htab x hx9).elim) (by rw [hR.1]; show 2 + 3 < n; omega) (by rw [hR.2]; show _ + (13 * (2 + 1) + 43) ≤ 60 * n; omega) hc1 hs1 hlk (fun t _ hz hk => XCM.in hS hW hz hk hE) hS.2.2 hc2 hs2
/-- throw new IOE("text"), the text by a wide index -/
theorem r_th0W (X : Cx p s m args c cc nL RX11 G bs cy) (hl0 : l.stackTraces = false) (htab : ∀ x ∈ c.exceptionTable.toList, False) (hlk : meth.locks = false) (hQf : Qf = vx_MQ below Qc (XCM G bs cy I L R PX) args s mc ms (Aq bs)) (hE : PX IOE) (hW : Wd G bs cy I L R H) (hS : va_S (Aq bs) s.heap H locs) {n : Nat} (hR : RmOK Rm n) (hn : 6 ≤ n) {text : String} {is : Nat} (hst : (is, text) ∈ strL) {lv : List (Nat × Value)} (hl2 : lv_has ls nL lv) (hrest : (rest.map fun v => v.category).sum ≤ 8) (hc1 : cells + 1 ≤ Rm.cells) (hs1 : slots + 6 ≤ Rm.slots) (hc2 : cells + 1 ≤ mc) (hs2 : slots + 6 ≤ ms)
    (d0 : decode cc pc = .ok (.new 162, 3)) (d3 : decode cc (pc + 3) = .ok (.dup, 1)) (d4 : decode cc (pc + 4) = .ok (.ldc_w is, 3)) (d6 : decode cc (pc + 7) = .ok (.invokespecial 166, 3)) (d9 : decode cc (pc + 10) = .ok (.athrow, 1)) :
    W p l e Rm s m args below meth c H locs cells slots Qf (F0 m pc ls rest) := by
  have hat := hat_0 X
  obtain ⟨hx, hb, hml, hown, hts, hK, hE0⟩ := X
  obtain ⟨sa, hsa⟩ := hE0.1.2 _ hst
  subst hQf
  exact vx_throwSW hx hb hl0 (names := exN) hown exF0 exF (hts _ (inEx_0a)) (hts _ (inEx_0b)) hsa hat exG_0 (hE0.2.1.narrow (fun _ => agq)) (hE0.2.2.1.narrow (fun _ => agq)) hS (hl2.1.trans hml.symm) d0 d3 d4 d6 d9 (fun x hx9 => (htab x hx9).elim) (by rw [hR.1]; show 2 + 3 < n; omega) (by rw [hR.2]; show _ + (13 * (2 + 1) + 43) ≤ 60 * n; omega) hc1 hs1 hlk (fun t _ hz hk => XCM.in hS hW hz hk hE) hS.2.2 hc2 hs2
/-- throw new IAE("text"), the text by an index -/
theorem r_th1 (X : Cx p s m args c cc nL RX11 G bs cy) (hl0 : l.stackTraces = false) (htab : ∀ x ∈ c.exceptionTable.toList, False) (hlk : meth.locks = false) (hQf : Qf = vx_MQ below Qc (XCM G bs cy I L R PX) args s mc ms (Aq bs)) (hE : PX IAE) (hW : Wd G bs cy I L R H) (hS : va_S (Aq bs) s.heap H locs) {n : Nat} (hR : RmOK Rm n) (hn : 6 ≤ n) {text : String} {is : Nat} (hst : (is, text) ∈ strL) {lv : List (Nat × Value)} (hl2 : lv_has ls nL lv) (hrest : (rest.map fun v => v.category).sum ≤ 8) (hc1 : cells + 1 ≤ Rm.cells) (hs1 : slots + 6 ≤ Rm.slots) (hc2 : cells + 1 ≤ mc) (hs2 : slots + 6 ≤ ms)
    (d0 : decode cc pc = .ok (.new 103, 3)) (d3 : decode cc (pc + 3) = .ok (.dup, 1)) (d4 : decode cc (pc + 4) = .ok (.ldc is, 2)) (d6 : decode cc (pc + 6) = .ok (.invokespecial 107, 3)) (d9 : decode cc (pc + 9) = .ok (.athrow, 1)) :
    W p l e Rm s m args below meth c H locs cells slots Qf (F0 m pc ls rest) := by
  have hat := hat_1 X
  obtain ⟨hx, hb, hml, hown, hts, hK, hE0⟩ := X
  obtain ⟨sa, hsa⟩ := hE0.1.2 _ hst
  subst hQf
  exact vx_throwS hx hb hl0 (names := exN) hown exF1 exF (hts _ (inEx_1a)) (hts _ (inEx_1b)) hsa hat exG_1 (hE0.2.1.narrow (fun _ => agq)) (hE0.2.2.1.narrow (fun _ => agq)) hS (hl2.1.trans hml.symm) d0 d3 d4 d6 d9 (fun x hx9 => (htab x hx9).elim) (by rw [hR.1]; show 2 + 3 < n; omega) (by rw [hR.2]; show _ + (13 * (2 + 1) + 43) ≤ 60 * n; omega) hc1 hs1 hlk (fun t _ hz hk => XCM.in hS hW hz hk hE) hS.2.2 hc2 hs2
/-- throw new IAE("text"), the text by a wide index -/
theorem r_th1W (X : Cx p s m args c cc nL RX11 G bs cy) (hl0 : l.stackTraces = false) (htab : ∀ x ∈ c.exceptionTable.toList, False) (hlk : meth.locks = false) (hQf : Qf = vx_MQ below Qc (XCM G bs cy I L R PX) args s mc ms (Aq bs)) (hE : PX IAE) (hW : Wd G bs cy I L R H) (hS : va_S (Aq bs) s.heap H locs) {n : Nat} (hR : RmOK Rm n) (hn : 6 ≤ n) {text : String} {is : Nat} (hst : (is, text) ∈ strL) {lv : List (Nat × Value)} (hl2 : lv_has ls nL lv) (hrest : (rest.map fun v => v.category).sum ≤ 8) (hc1 : cells + 1 ≤ Rm.cells) (hs1 : slots + 6 ≤ Rm.slots) (hc2 : cells + 1 ≤ mc) (hs2 : slots + 6 ≤ ms)
    (d0 : decode cc pc = .ok (.new 103, 3)) (d3 : decode cc (pc + 3) = .ok (.dup, 1)) (d4 : decode cc (pc + 4) = .ok (.ldc_w is, 3)) (d6 : decode cc (pc + 7) = .ok (.invokespecial 107, 3)) (d9 : decode cc (pc + 10) = .ok (.athrow, 1)) :
    W p l e Rm s m args below meth c H locs cells slots Qf (F0 m pc ls rest) := by
  have hat := hat_1 X
  obtain ⟨hx, hb, hml, hown, hts, hK, hE0⟩ := X
  obtain ⟨sa, hsa⟩ := hE0.1.2 _ hst
  subst hQf
  exact vx_throwSW hx hb hl0 (names := exN) hown exF1 exF (hts _ (inEx_1a)) (hts _ (inEx_1b)) hsa hat exG_1 (hE0.2.1.narrow (fun _ => agq)) (hE0.2.2.1.narrow (fun _ => agq)) hS (hl2.1.trans hml.symm) d0 d3 d4 d6 d9 (fun x hx9 => (htab x hx9).elim) (by rw [hR.1]; show 2 + 3 < n; omega) (by rw [hR.2]; show _ + (13 * (2 + 1) + 43) ≤ 60 * n; omega) hc1 hs1 hlk (fun t _ hz hk => XCM.in hS hW hz hk hE) hS.2.2 hc2 hs2
/-- a call of a method that may throw: what is thrown goes on to the caller -/
theorem callXv (X : Cx p s m args c cc nL own G bs cy) (hW : Wd G bs cy I L R H) (hS : va_S (Aq bs) s.heap H locs) {n : Nat} (hR : RmOK Rm n) (htab : ∀ x ∈ c.exceptionTable.toList, False) (hlk : meth.locks = false) (hQf : Qf = vx_MQ below Qc (XCM G bs cy I L R PX) args s mc ms (Aq bs)) {μ : MI} {n' mc' ms' : Nat} {As : List Value} {Q' : CI → CL → CR → Prop} {PX' : String → Prop} (hM : XTv l G bs cy μ n' (.ref (bs + k) :: As) I L R Q' PX' mc' ms') (hpx : ∀ E, PX' E → PX E) (hn : n' + 1 ≤ n) {C : String} {na ci idx : Nat} {ks : List Nat} (hu : UV μ C na) (hl : Cond.methodLink own idx μ.1 ∈ wsL_law)
    (hk : shp k = .inl (ci, ks)) (hN : k < NC) (hC : (vwCl[ci]?).map (fun q => q.1) = some C) (hA : As.length = na) {st0 : List Value} (hst : st0 = As.reverse ++ .ref (bs + k) :: rest) (hrest : (rest.map fun v => v.category).sum ≤ 8) {lv : List (Nat × Value)} (hl2 : lv_has ls nL lv) (hc1 : cells + mc' ≤ Rm.cells) (hs1 : slots + ms' ≤ Rm.slots) (hc2 : cells + mc' ≤ mc) (hs2 : slots + ms' ≤ ms) (hdg : decode cc pc = .ok (.invokevirtual idx, 3))
    (kk : ∀ (I' : CI) (L' : CL) (R' : CR) (H1 : Heap) (locs1 : List Loc), Q' I' L' R' → Wd G bs cy I' L' R' H1 → va_S (Aq bs) s.heap H1 locs1 → W p l e Rm s m args below meth c H1 locs1 (cells + mc') (slots + ms') Qf (F0 m (pc + 3) ls (rest))) : W p l e Rm s m args below meth c H locs cells slots Qf (F0 m pc ls st0) := by
  obtain ⟨hx, hb, hml, hown, hts, hK, hE⟩ := id X
  subst hst
  subst hQf
  exact vx_callv (vx_runV (As := As) (rest := rest) ⟨hx, hb, hml, hown, hts⟩ hM (cwX_UV hts hu hl hR hn) ⟨PcM_blind, recvW X hW hk hN hC, fun U hU hW2 => ⟨rfl, by rw [hU]; exact hW, va_K.moved hW2.alike hK, by rw [hU]; exact hE.to hW2 hS.2.1⟩⟩ rfl hA hl2.1 rfl (lv_room hrest) hdg ⟨hc1, hs1⟩) hS (fun q _ h => h) (fun q h => h) (fun q _ h => h)
    (fun E ce q9 u t H1 locs1 ht hvm _ hB hz hk1 hS1 hce hcv hcl => vx_out (fun x hx9 => (htab x hx9).elim) hlk hce hcv hcl (fun t2 ht2 _ => ⟨(), trivial, ⟨hpx E hB.1, by rw [ht2, ← ht]; exact hB.2⟩, hS1.F ht2⟩) hS1.2.2 hc2 hs2)
    (fun u t H1 locs1 ht hvm hp hB hz hk1 hS1 => kk u.1 u.2.1 u.2.2 H1 locs1 hp (by rw [← ht]; exact hB) hS1)
theorem callXSv (X : Cx p s m args c cc nL own G bs cy) (hW : Wd G bs cy I L R H) (hS : va_S (Aq bs) s.heap H locs) {n : Nat} (hR : RmOK Rm n) (htab : ∀ x ∈ c.exceptionTable.toList, False) (hlk : meth.locks = false) (hQf : Qf = vx_MQ below Qc (XCM G bs cy I L R PX) args s mc ms (Aq bs)) {μ : MI} {n' mc' ms' : Nat} {As : List Value} {Q' : CI → CL → CR → Prop} {PX' : String → Prop} (hM : XTv l G bs cy μ n' As I L R Q' PX' mc' ms') (hpx : ∀ E, PX' E → PX E) (hn : n' + 1 ≤ n) {C : String} {na idx : Nat} (hu : US μ C na) (hl : Cond.methodLink own idx μ.1 ∈ wsL_law)
    (hA : As.length = na) {st0 : List Value} (hst : st0 = As.reverse ++ rest) (hrest : (rest.map fun v => v.category).sum ≤ 8) {lv : List (Nat × Value)} (hl2 : lv_has ls nL lv) (hc1 : cells + mc' ≤ Rm.cells) (hs1 : slots + ms' ≤ Rm.slots) (hc2 : cells + mc' ≤ mc) (hs2 : slots + ms' ≤ ms) (hdg : decode cc pc = .ok (.invokestatic idx, 3))
    (kk : ∀ (I' : CI) (L' : CL) (R' : CR) (H1 : Heap) (locs1 : List Loc), Q' I' L' R' → Wd G bs cy I' L' R' H1 → va_S (Aq bs) s.heap H1 locs1 → W p l e Rm s m args below meth c H1 locs1 (cells + mc') (slots + ms') Qf (F0 m (pc + 3) ls (rest))) : W p l e Rm s m args below meth c H locs cells slots Qf (F0 m pc ls st0) := by
  obtain ⟨hx, hb, hml, hown, hts, hK, hE⟩ := id X
  subst hst
  subst hQf
  exact vx_callv (vx_runS (As := As) (rest := rest) ⟨hx, hb, hml, hown, hts⟩ hM (cwX_US hts hu hl hR hn) ⟨PcM_blind, fun U hU hW2 => ⟨rfl, by rw [hU]; exact hW, va_K.moved hW2.alike hK, by rw [hU]; exact hE.to hW2 hS.2.1⟩⟩ rfl hA hl2.1 rfl (lv_room hrest) hdg ⟨hc1, hs1⟩) hS (fun q _ h => h) (fun q h => h) (fun q _ h => h)
    (fun E ce q9 u t H1 locs1 ht hvm _ hB hz hk1 hS1 hce hcv hcl => vx_out (fun x hx9 => (htab x hx9).elim) hlk hce hcv hcl (fun t2 ht2 _ => ⟨(), trivial, ⟨hpx E hB.1, by rw [ht2, ← ht]; exact hB.2⟩, hS1.F ht2⟩) hS1.2.2 hc2 hs2)
    (fun u t H1 locs1 ht hvm hp hB hz hk1 hS1 => kk u.1 u.2.1 u.2.2 H1 locs1 hp (by rw [← ht]; exact hB) hS1)
/-- a call of a method that may throw: what is thrown goes on to the caller -/
theorem callXi (X : Cx p s m args c cc nL own G bs cy) (hW : Wd G bs cy I L R H) (hS : va_S (Aq bs) s.heap H locs) {n : Nat} (hR : RmOK Rm n) (htab : ∀ x ∈ c.exceptionTable.toList, False) (hlk : meth.locks = false) (hQf : Qf = vx_MQ below Qc (XCM G bs cy I L R PX) args s mc ms (Aq bs)) {μ : MI} {n' mc' ms' : Nat} {As : List Value} {Q' : Int32 → CI → CL → CR → Prop} {PX' : String → Prop} (hM : XTi l G bs cy μ n' (.ref (bs + k) :: As) I L R Q' PX' mc' ms') (hpx : ∀ E, PX' E → PX E) (hn : n' + 1 ≤ n) {C : String} {na ci idx : Nat} {ks : List Nat} (hu : UV μ C na) (hl : Cond.methodLink own idx μ.1 ∈ wsL_law)
    (hk : shp k = .inl (ci, ks)) (hN : k < NC) (hC : (vwCl[ci]?).map (fun q => q.1) = some C) (hA : As.length = na) {st0 : List Value} (hst : st0 = As.reverse ++ .ref (bs + k) :: rest) (hrest : (rest.map fun v => v.category).sum ≤ 8) {lv : List (Nat × Value)} (hl2 : lv_has ls nL lv) (hc1 : cells + mc' ≤ Rm.cells) (hs1 : slots + ms' ≤ Rm.slots) (hc2 : cells + mc' ≤ mc) (hs2 : slots + ms' ≤ ms) (hdg : decode cc pc = .ok (.invokevirtual idx, 3))
    (kk : ∀ (r : Int32) (I' : CI) (L' : CL) (R' : CR) (H1 : Heap) (locs1 : List Loc), Q' r I' L' R' → Wd G bs cy I' L' R' H1 → va_S (Aq bs) s.heap H1 locs1 → W p l e Rm s m args below meth c H1 locs1 (cells + mc') (slots + ms') Qf (F0 m (pc + 3) ls (.int r :: rest))) : W p l e Rm s m args below meth c H locs cells slots Qf (F0 m pc ls st0) := by
  obtain ⟨hx, hb, hml, hown, hts, hK, hE⟩ := id X
  subst hst
  subst hQf
  exact vx_calli (vx_runV (As := As) (rest := rest) ⟨hx, hb, hml, hown, hts⟩ hM (cwX_UV hts hu hl hR hn) ⟨PcM_blind, recvW X hW hk hN hC, fun U hU hW2 => ⟨rfl, by rw [hU]; exact hW, va_K.moved hW2.alike hK, by rw [hU]; exact hE.to hW2 hS.2.1⟩⟩ rfl hA hl2.1 rfl (lv_room hrest) hdg ⟨hc1, hs1⟩) hS (fun q _ h => h) (fun q h => h) (fun q _ h => h)
    (fun E ce q9 u t H1 locs1 ht hvm _ hB hz hk1 hS1 hce hcv hcl => vx_out (fun x hx9 => (htab x hx9).elim) hlk hce hcv hcl (fun t2 ht2 _ => ⟨(), trivial, ⟨hpx E hB.1, by rw [ht2, ← ht]; exact hB.2⟩, hS1.F ht2⟩) hS1.2.2 hc2 hs2)
    (fun r u t H1 locs1 ht hvm hp hB hz hk1 hS1 => kk r u.1 u.2.1 u.2.2 H1 locs1 hp (by rw [← ht]; exact hB) hS1)
end XX
theorem XTi.of {l : Launch} {G : va_G} {bs : Nat} {cy : Nat → ClassId} {own : String} {y : MethodName} {cc : ByteArray} {nL n mc ms : Nat} {av : List Value} {I : CI} {L : CL} {R : CR} {Q : Int32 → CI → CL → CR → Prop} {PX : String → Prop} (hy : plainName own = true) (ho : y.cls = own) (hlen : (lg_sl av).length ≤ nL)
    (body : ∀ (p : Program) (e : Env) (s : State) (m : MethodId) (args : Array Value) (below : List Frame) (meth : Method) (c : Code) (Qc : Array Value → State → Outcome → State → Prop) (Qf : State → Prop), Cx p s m args c cc nL own G bs cy → Wd G bs cy I L R s.heap → va_S (Aq bs) s.heap s.heap [] → (∀ x ∈ c.exceptionTable.toList, False) → meth.locks = false → Qf = vx_MQ below Qc (XCM G bs cy I L R PX) args s mc ms (Aq bs) →
      (∀ {pc : Nat} {ls : Array Slot} {H : Heap} {locs : List Loc} {v : Int32} {I' : CI} {L' : CL} {R' : CR} {cells slots : Nat}, decode cc pc = .ok (.ireturn, 1) → cells ≤ mc → slots ≤ ms → Wd G bs cy I' L' R' H → va_S (Aq bs) s.heap H locs → Q v I' L' R' → W p l e (rmL n mc ms) s m args below meth c H locs cells slots Qf (F0 m pc ls [.int v])) →
      ∀ ls : Array Slot, lv_has ls nL (lv_args 0 av) → W p l e (rmL n mc ms) s m args below meth c s.heap [] 0 0 Qf (F0 m 0 ls [])) : XTi l G bs cy (y, cc, nL, (some .int)) n av I L R Q PX mc ms := by
  refine vx_ofW (cc := cc) (maxL := nL) (ret := (some .int)) (by rw [ho]; exact hy) rfl ?_
  intro p e s m args below meth c s₁ B hml htab hv
  obtain ⟨rfl, hW, hK, hE⟩ := hv
  have hts := atoms_spec (ws := mws (y, cc, nL, (some .int))) B.pre
  have hown : s.vm.findClass own = some m.cls := ho ▸ findClass_of_methodNamed B.named
  have hlocks := B.notSynchronized
  rw [lg_entry_eq]
  exact body p e s m _ below meth c _ _ ⟨B.exec, B.bytes, hml, hown, fun w hw => hts w (List.mem_cons_of_mem _ hw), hK, hE⟩ hW va_S.rf htab hlocks rfl
    (fun {pc ls H locs v I' L' R' cells slots} hdg hc hs hW' hS' hQ => W.widen hc hs (vx_ret (W.iret (v := v) B.exec B.bytes B.returns (fun t ht _ => ⟨⟨v, (I', L', R'), rfl, hQ, by show Wd _ _ _ _ _ _ t.heap; rw [ht]; exact hW'⟩, hS'.F ht⟩) hS'.2.2 hdg hlocks))) _ (lv_entry av hlen)
theorem XTv.of {l : Launch} {G : va_G} {bs : Nat} {cy : Nat → ClassId} {own : String} {y : MethodName} {cc : ByteArray} {nL n mc ms : Nat} {av : List Value} {I : CI} {L : CL} {R : CR} {Q : CI → CL → CR → Prop} {PX : String → Prop} (hy : plainName own = true) (ho : y.cls = own) (hlen : (lg_sl av).length ≤ nL)
    (body : ∀ (p : Program) (e : Env) (s : State) (m : MethodId) (args : Array Value) (below : List Frame) (meth : Method) (c : Code) (Qc : Array Value → State → Outcome → State → Prop) (Qf : State → Prop), Cx p s m args c cc nL own G bs cy → Wd G bs cy I L R s.heap → va_S (Aq bs) s.heap s.heap [] → (∀ x ∈ c.exceptionTable.toList, False) → meth.locks = false → Qf = vx_MQ below Qc (XCM G bs cy I L R PX) args s mc ms (Aq bs) →
      (∀ {pc : Nat} {ls : Array Slot} {H : Heap} {locs : List Loc} {I' : CI} {L' : CL} {R' : CR} {cells slots : Nat}, decode cc pc = .ok (.return_, 1) → cells ≤ mc → slots ≤ ms → Wd G bs cy I' L' R' H → va_S (Aq bs) s.heap H locs → Q I' L' R' → W p l e (rmL n mc ms) s m args below meth c H locs cells slots Qf (F0 m pc ls [])) →
      ∀ ls : Array Slot, lv_has ls nL (lv_args 0 av) → W p l e (rmL n mc ms) s m args below meth c s.heap [] 0 0 Qf (F0 m 0 ls [])) : XTv l G bs cy (y, cc, nL, none) n av I L R Q PX mc ms := by
  refine vx_ofW (cc := cc) (maxL := nL) (ret := none) (by rw [ho]; exact hy) rfl ?_
  intro p e s m args below meth c s₁ B hml htab hv
  obtain ⟨rfl, hW, hK, hE⟩ := hv
  have hts := atoms_spec (ws := mws (y, cc, nL, none)) B.pre
  have hown : s.vm.findClass own = some m.cls := ho ▸ findClass_of_methodNamed B.named
  have hlocks := B.notSynchronized
  rw [lg_entry_eq]
  exact body p e s m _ below meth c _ _ ⟨B.exec, B.bytes, hml, hown, fun w hw => hts w (List.mem_cons_of_mem _ hw), hK, hE⟩ hW va_S.rf htab hlocks rfl
    (fun {pc ls H locs I' L' R' cells slots} hdg hc hs hW' hS' hQ => W.widen hc hs (vx_ret (W.vret B.exec B.bytes B.returns (fun t ht _ => ⟨⟨(I', L', R'), rfl, hQ, by show Wd _ _ _ _ _ _ t.heap; rw [ht]; exact hW'⟩, hS'.F ht⟩) hS'.2.2 hdg hlocks))) _ (lv_entry av hlen)
