/-! the law's method that catches -/
def mwsW (μ : MI) (tab : List (Nat × Nat × Nat × Nat)) : List Cond := .codeWith μ.1 μ.2.1 μ.2.2.1 μ.2.2.2 tab :: wsL_law
/-- a contract of a method with a handler: it throws nothing -/
def WTi (l : Launch) (G : va_G) (bs : Nat) (cy : Nat → ClassId) (μ : MI) (tab : List (Nat × Nat × Nat × Nat)) (n : Nat) (av : List Value) (I : CI) (L : CL) (R : CR) (Q : Int32 → CI → CL → CR → Prop) (mc ms : Nat) : Prop :=
  vx_Met l μ.1 (mwsW μ tab) (rmL n mc ms) (PcM G bs cy av I L R) (va_Qi (fun (r : Int32) (u : Sto) => Q r u.1 u.2.1 u.2.2) (BM G bs cy) (Aq bs)) (XCM G bs cy I L R (fun _ => False)) mc ms (Aq bs)
theorem WTz.of {l : Launch} {G : va_G} {bs : Nat} {cy : Nat → ClassId} {own : String} {y : MethodName} {cc : ByteArray} {nL n mc ms : Nat} {tab : List (Nat × Nat × Nat × Nat)} {av : List Value} {I : CI} {L : CL} {R : CR} {Q : Int32 → CI → CL → CR → Prop} (hy : plainName own = true) (ho : y.cls = own) (hlen : (lg_sl av).length ≤ nL)
    (body : ∀ (p : Program) (e : Env) (s : State) (m : MethodId) (args : Array Value) (below : List Frame) (meth : Method) (c : Code) (Qf : State → Prop), Cx p s m args c cc nL own G bs cy → Wd G bs cy I L R s.heap → va_S (Aq bs) s.heap s.heap [] → c.exceptionTable.toList = tableOf tab →
      (∀ {pc : Nat} {ls : Array Slot} {H : Heap} {locs : List Loc} {v : Bool} {v9 : Int32} {I' : CI} {L' : CL} {R' : CR} {cells slots : Nat}, decode cc pc = .ok (.ireturn, 1) → cells ≤ mc → slots ≤ ms → Wd G bs cy I' L' R' H → va_S (Aq bs) s.heap H locs → v9 = bI v → Q (bI v) I' L' R' → W p l e (rmL n mc ms) s m args below meth c H locs cells slots Qf (F0 m pc ls [.int v9])) →
      ∀ ls : Array Slot, lv_has ls nL (lv_args 0 av) → W p l e (rmL n mc ms) s m args below meth c s.heap [] 0 0 Qf (F0 m 0 ls [])) : WTi l G bs cy (y, cc, nL, (some .boolean)) tab n av I L R Q mc ms := by
  refine vx_ofWH (cc := cc) (maxL := nL) (ret := (some .boolean)) (hh := tab) (by rw [ho]; exact hy) rfl ?_
  intro p e s m args below meth c s₁ B hml hv
  obtain ⟨rfl, hW, hK, hE⟩ := hv
  have hts := atoms_spec (ws := mwsW (y, cc, nL, (some .boolean)) tab) B.pre
  have hown : s.vm.findClass own = some m.cls := ho ▸ findClass_of_methodNamed B.named
  have hlocks := B.notSynchronized
  have htab := vx_table (x := y) B (hts _ List.mem_cons_self)
  rw [lg_entry_eq]
  exact body p e s m _ below meth c _ ⟨B.exec, B.bytes, hml, hown, fun w hw => hts w (List.mem_cons_of_mem _ hw), hK, hE⟩ hW va_S.rf htab
    (fun {pc ls H locs v v9 I' L' R' cells slots} hdg hc hs hW' hS' hv9 hQ => by
      subst hv9
      exact W.widen hc hs (vx_ret (W.zret (v := bI v) B.exec B.bytes B.returns (by cases v <;> rfl) (fun t ht _ => ⟨⟨bI v, (I', L', R'), rfl, hQ, by show Wd _ _ _ _ _ _ t.heap; rw [ht]; exact hW'⟩, hS'.F ht⟩) hS'.2.2 hdg hlocks))) _ (lv_entry av hlen)
section WW
variable {p : Program} {l : Launch} {e : Env} {Rm : Room} {s : State} {m : MethodId} {args : Array Value} {below : List Frame} {meth : Method} {c : Code} {H : Heap} {locs : List Loc} {cells slots : Nat} {Qf : State → Prop}
variable {cc : ByteArray} {pc nL : Nat} {ls : Array Slot} {rest : List Value} {own : String} {G : va_G} {bs : Nat} {cy : Nat → ClassId} {I : CI} {L : CL} {R : CR} {k : Nat}
theorem callWi (X : Cx p s m args c cc nL own G bs cy) (hW : Wd G bs cy I L R H) (hS : va_S (Aq bs) s.heap H locs) {n : Nat} (hR : RmOK Rm n) {μ : MI} {n' mc' ms' : Nat} {As : List Value} {Q' : Int32 → CI → CL → CR → Prop} {PX' : String → Prop} (hM : XTi l G bs cy μ n' (.ref (bs + k) :: As) I L R Q' PX' mc' ms') (hn : n' + 1 ≤ n) {C : String} {na ci idx : Nat} {ks : List Nat} (hu : UV μ C na) (hl : Cond.methodLink own idx μ.1 ∈ wsL_law)
    (hk : shp k = .inl (ci, ks)) (hN : k < NC) (hC : (vwCl[ci]?).map (fun q => q.1) = some C) (hA : As.length = na) {st0 : List Value} (hst : st0 = As.reverse ++ .ref (bs + k) :: rest) (hrest : (rest.map fun v => v.category).sum ≤ 8) {lv : List (Nat × Value)} (hl2 : lv_has ls nL lv) (hc1 : cells + mc' ≤ Rm.cells) (hs1 : slots + ms' ≤ Rm.slots) (hdg : decode cc pc = .ok (.invokevirtual idx, 3))
    (kx : ∀ (E : String) (ce : Cell) (q9 : Addr) (H1 : Heap) (locs1 : List Loc), PX' E → Wd G bs cy I L R H1 → va_S (Aq bs) s.heap H1 locs1 → H1[q9]? = some ce → ce.vm = .none → s.vm.findClass E = some ce.cls → vx_W p l e Rm s m args below meth c H1 locs1 (cells + mc') (slots + ms') Qf (F0 m pc ls rest) q9)
    (kk : ∀ (r : Int32) (I' : CI) (L' : CL) (R' : CR) (H1 : Heap) (locs1 : List Loc), Q' r I' L' R' → Wd G bs cy I' L' R' H1 → va_S (Aq bs) s.heap H1 locs1 → W p l e Rm s m args below meth c H1 locs1 (cells + mc') (slots + ms') Qf (F0 m (pc + 3) ls (.int r :: rest))) : W p l e Rm s m args below meth c H locs cells slots Qf (F0 m pc ls st0) := by
  obtain ⟨hx, hb, hml, hown, hts, hK, hE⟩ := id X
  subst hst
  exact vx_calli (vx_runV (As := As) (rest := rest) ⟨hx, hb, hml, hown, hts⟩ hM (cwX_UV hts hu hl hR hn) ⟨PcM_blind, recvW X hW hk hN hC, fun U hU hW2 => ⟨rfl, by rw [hU]; exact hW, va_K.moved hW2.alike hK, by rw [hU]; exact hE.to hW2 hS.2.1⟩⟩ rfl hA hl2.1 rfl (lv_room hrest) hdg ⟨hc1, hs1⟩) hS (fun q _ h => h) (fun q h => h) (fun q _ h => h)
    (fun E ce q9 u t H1 locs1 ht hvm _ hB hz hk1 hS1 hce hcv hcl => kx E ce q9 H1 locs1 hB.1 (by rw [← ht]; exact hB.2) hS1 hce hcv hcl)
    (fun r u t H1 locs1 ht hvm hp hB hz hk1 hS1 => kk r u.1 u.2.1 u.2.2 H1 locs1 hp (by rw [← ht]; exact hB) hS1)
theorem CLx_183 : Cond.classLink RL 183 IOE ∈ wsL_law := inR_37 _ (List.mem_of_getElem? (i := 4) rfl)
theorem CAST_IOE (X : Cx p s m args c cc nL own G bs cy) : (Cond.castable IOE IOE).before args s = true := va_Nw.use rfl (X.2.2.2.2.2.2.1.1 _ (exN_0 _ List.mem_cons_self))
end WW
theorem inB_n {n : Nat} (hn : n < 2 ^ 31) : inB (nI n) n = false := by
  cases h : inB (nI n) n with
  | false => rfl
  | true =>
    obtain ⟨j, h1, h2⟩ := inB_of h hn
    have := nI_inj hn (by omega) h2
    omega
theorem c_L_isRefused {l : Launch} {G : va_G} {bs : Nat} {cy : Nat → ClassId} {I : CI} {L : CL} {R : CR} (σ : Row) (β : Nat) (q : Nat) (hl0 : l.stackTraces = false) (hi : Inv σ) (hd : DR σ) (hβ : isBr β) (hB : BrAt I β σ) (hq : isPl q) (hP : PlAt I q σ) (hRb : R q 0 = β) (hR7 : R 0 7 = β) (hR8 : R 0 8 = q) : WTi l G bs cy ML_isRefused [(0, 14, 15, 183)] 8 [.ref (bs + 0), .int (nI (nS σ))] I L R (fun r I1 L1 R1 => r = nI 1 ∧ I1 = I ∧ L1 = L ∧ R1 = R) 1 6 := by
  obtain ⟨hY, hY1, hY12, hLn, hL4, hSn, hS12, hGn, hG5⟩ := id hi
  refine WTz.of (own := RL) pn_RL rfl (Nat.le_of_ble_eq_true rfl) ?_
  intro p e s m args below meth c Qf X hW hS htab fin ls hl
  have hx := X.1
  have hb := X.2.1
  have hl : lv_has ls 3 [(0, .ref (bs + 0)), (1, .int (nI (nS σ)))] := hl
  refine lv_aload_n hx hb (dg D_L_isRefused (i := 0) rfl) rfl (lv_at hl 0 rfl) ?_
  refine lv_iload_n hx hb (dg D_L_isRefused (i := 1) rfl) rfl (lv_at hl 1 rfl) ?_
  refine callWi X hW hS (n := 8) ⟨rfl, rfl⟩ (c_X11_pastYear σ β q (nI (nS σ)) hl0 hi hd hβ hB hq hP hRb hR7 hR8) (Nat.le_refl _) UVX11_pastYear LK_L_180 rfl (by decide) rfl rfl rfl (Nat.le_of_ble_eq_true rfl) hl (by show 0 + 1 ≤ 1; omega) (by show 0 + 6 ≤ 6; omega) (dg D_L_isRefused (i := 2) rfl) (fun E ce q9 H1 locs1 hpe hW1 hS1 hce hcv hcl => ?_) (fun r I1 L1 R1 H locs hq hW hS => ?_)
  · obtain ⟨hE, -⟩ := hpe
    subst hE
    refine vx_catch X.2.2.2.1 [] _ [] htab (fun z hz => absurd hz (by simp)) rfl (by decide) (X.2.2.2.2.1 _ CLx_183) (CAST_IOE X) hce hcv hcl ?_
    refine lv_astore_n (lv' := [(2, .ref q9), (0, .ref (bs + 0)), (1, .int (nI (nS σ)))]) hx hb (dg D_L_isRefused (i := 9) rfl) rfl hl (by decide) rfl (fun ls hl => ?_)
    refine n_iconst (a := 1) hx hb (dg D_L_isRefused (i := 10) rfl) rfl ?_
    exact fin (v := true) (dg D_L_isRefused (i := 11) rfl) (by omega) (by omega) hW1 hS1 rfl ⟨rfl, rfl, rfl, rfl⟩
  · exact absurd ((inB_n (by omega)).symm.trans hq.1.1) (by decide)
section QW
variable {p : Program} {l : Launch} {e : Env} {Rm : Room} {s : State} {m : MethodId} {args : Array Value} {below : List Frame} {meth : Method} {c : Code} {H : Heap} {locs : List Loc} {cells slots : Nat} {Q : State → Prop}
variable {cc : ByteArray} {pc nL : Nat} {ls : Array Slot} {rest : List Value} {G : va_G} {bs : Nat} {cy : Nat → ClassId} {I : CI} {L : CL} {R : CR} {A : Nat → Prop} {Bs : List BD} {Ts : List SD} {lv : List (Nat × Value)} {st0 : List Value}
def UW (μ : MI) (tab : List (Nat × Nat × Nat × Nat)) (n : Nat) : Prop := (μ.1.cls = RL ∧ μ.1.cls ≠ "java/lang/invoke/MethodHandle" ∧ μ.1.cls ≠ "java/lang/invoke/VarHandle" ∧ (parseMethodDescriptor μ.1.desc).map (fun d => d.parameters.length) = some n) ∧ μ.2.2.1 ≤ 33 ∧ Cond.static μ.1 ∈ wsL_law ∧ Cond.initialized RL ∈ wsL_law ∧ Cond.codeWith μ.1 μ.2.1 μ.2.2.1 μ.2.2.2 tab ∈ wsL_law
theorem UWL_isRefused : UW ML_isRefused [(0, 14, 15, 183)] 2 := ⟨by decide +kernel, by decide, inR_37 _ (List.mem_of_getElem? (i := 2) rfl), inR_1 _ (List.mem_of_getElem? (i := 2) rfl), inR_37 _ (List.mem_of_getElem? (i := 3) rfl)⟩
theorem cwW (hts : ∀ w ∈ wsL_law, w.before args s = true) {μ : MI} {tab : List (Nat × Nat × Nat × Nat)} {na n' idx mc ms : Nat} (hu : UW μ tab na) (hl : Cond.methodLink RL idx μ.1 ∈ wsL_law) (hR : RmL Rm) (hn : n' ≤ 8) : vx_CSW Rm s args RL idx μ.1 μ.2.1 μ.2.2.1 μ.2.2.2 tab (mwsW μ tab) (rmL n' mc ms) mc ms na := by
  obtain ⟨h1, h2, h3, h5, h6⟩ := hu
  obtain ⟨r1, r2⟩ := hR
  have h5' : Cond.initialized μ.1.cls ∈ wsL_law := by rw [h1.1]; exact h5
  refine vx_cwSW na hts (gIn ?_) rfl rfl rfl h1.2 ⟨by show n' + 1 ≤ Rm.frames; omega, by show 8 + (μ.2.2.1 + 11) + 60 * n' ≤ Rm.locals; omega⟩
  intro w hw
  unfold va_wsS mwsW at hw
  simp only [List.mem_append, List.mem_cons, List.not_mem_nil, or_false] at hw
  rcases hw with (rfl | rfl | rfl) | rfl | hw
  all_goals assumption
/-- the law's method with a handler -/
theorem kW_i (X : Cx p s m args c cc nL RL G bs cy) (hA : AOK bs s.heap.size A) (hW : Wd G bs cy I L R H) (hT : TW G cy bs s H Bs Ts) (hS : va_S A s.heap H locs) (hR : RmL Rm) {μ : MI} {tab : List (Nat × Nat × Nat × Nat)} {n' mc' ms' : Nat} {As : List Value} {Q' : Int32 → CI → CL → CR → Prop} (hM : WTi l G bs cy μ tab n' As I L R Q' mc' ms') (hn : n' ≤ 8) {na idx : Nat} (hu : UW μ tab na) (hl : Cond.methodLink RL idx μ.1 ∈ wsL_law)
    (hA9 : As.length = na) (hst : st0 = As.reverse ++ rest) (hrest : (rest.map fun v => v.category).sum ≤ 8) (hl2 : lv_has ls nL lv) (hcs : cells + mc' ≤ Rm.cells ∧ slots + ms' ≤ Rm.slots) (hdg : decode cc pc = .ok (.invokestatic idx, 3))
    (kk : ∀ (r : Int32) (I' : CI) (L' : CL) (R' : CR) (H1 : Heap) (locs1 : List Loc), Q' r I' L' R' → Wd G bs cy I' L' R' H1 → TW G cy bs s H1 Bs Ts → va_S A s.heap H1 locs1 → W p l e Rm s m args below meth c H1 locs1 (cells + mc') (slots + ms') Q (F0 m (pc + 3) ls (.int r :: rest))) : W p l e Rm s m args below meth c H locs cells slots Q (F0 m pc ls st0) := by
  have hX := X
  obtain ⟨hx, hb, hml, hown, hts, hK, hE⟩ := id X
  subst hst
  exact vx_calli (vx_runSX (hh := tab) (As := As) (rest := rest) ⟨hx, hb, hml, hown, hts⟩ hM (cwW hts hu hl hR hn) ⟨PcM_blind, fun U hU hW2 => ⟨rfl, by rw [hU]; exact hW, va_K.moved hW2.alike hK, by rw [hU]; exact gK hX hA hS hW2⟩⟩ rfl hA9 hl2.1 rfl (lv_room hrest) hdg hcs) hS (fun q _ h => hA.1 q h) (fun q h => hA.1 q h) (fun q _ h => hA.1 q h)
    (fun E ce q9 u t H1 locs1 ht hvm _ hB hz hk1 hS1 hce hcv hcl => hB.1.elim)
    (fun r u t H1 locs1 ht hvm hp hB hz hk1 hS1 => kk r u.1 u.2.1 u.2.2 H1 locs1 hp (by rw [← ht]; exact hB) (hT.frame hz hk1) hS1)
end QW
