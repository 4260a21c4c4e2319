/-! the law's body: its calls, its reads of the script, its comparisons -/
abbrev DQ (l : List (Nat × Instr × Nat)) : Prop := ∀ q ∈ l, decode cL_law q.1 = .ok (q.2.1, q.2.2)
/-- what the law's walk stands on -/
def LX (p : Program) (s : State) (m : MethodId) (args : Array Value) (c : Code) (G : va_G) (bs : Nat) (cy : Nat → ClassId) (b N : Nat) (xs : Nat → Int32) : Prop :=
  Cx p s m args c cL_law 9 RL G bs cy ∧ va_X b N xs s s.heap ∧ b < s.heap.size ∧ b < bs ∧ va_Nc IAE IOE s ∧ N ≤ 3072
abbrev bL (b bs i : Nat) : List (Nat × Value) := [(0, .ref b), (1, .ref (bs + 0)), (2, .ref (bs + 67)), (3, .ref (bs + 86)), (4, .ref (bs + 87)), (5, .int (nI i))]
def UW (μ : MI) (tab : List (Nat × Nat × Nat × Nat)) (n : Nat) : Prop := (μ.1.cls = RL ∧ μ.1.cls ≠ "java/lang/invoke/MethodHandle" ∧ μ.1.cls ≠ "java/lang/invoke/VarHandle" ∧ (parseMethodDescriptor μ.1.desc).map (fun d => d.parameters.length) = some n) ∧ μ.2.2.1 ≤ 41 ∧ Cond.static μ.1 ∈ wsL_law ∧ Cond.initialized RL ∈ wsL_law ∧ Cond.codeWith μ.1 μ.2.1 μ.2.2.1 μ.2.2.2 tab ∈ wsL_law
theorem WTn.up {l : Launch} {G : va_G} {bs : Nat} {cy : Nat → ClassId} {μ : MI} {tab : List (Nat × Nat × Nat × Nat)} {n : Nat} {av : List Value} {I : CI} {L : CL} {R : CR} {Q : Int32 → CI → CL → CR → Prop} {mc ms : Nat} (h : WTi l G bs cy μ tab n av I L R Q mc ms) : WTn l G bs cy μ tab n av I L R Q mc ms :=
  fun p e ha hcs hk s m args below hfr happ hP hK => h p e ha hcs hk s m args below hfr happ hP.1 hK
theorem hasRoom_sub {s : State} {pl : Platform} {r r' : Room} (hf : r.frames ≤ r'.frames) (hl : r.locals ≤ r'.locals) (hc : r.cells ≤ r'.cells) (hs : r.slots ≤ r'.slots) (h : s.hasRoom pl r' = true) : s.hasRoom pl r = true := by
  simp only [State.hasRoom, Bool.and_eq_true, decide_eq_true_eq] at h ⊢
  obtain ⟨⟨⟨⟨y, a, b, c, d, e⟩, f⟩, g⟩, i⟩ := h
  exact ⟨⟨⟨⟨by omega, by omega, by omega, by omega, by omega, e⟩, by omega⟩, by omega⟩, i⟩
section LW
variable {p : Program} {l : Launch} {e : Env} {Rm : Room} {s : State} {m : MethodId} {args : Array Value} {below : List Frame} {meth : Method} {c : Code} {H : Heap} {locs : List Loc} {cells slots : Nat} {Q : State → Prop}
variable {pc a : Nat} {ls : Array Slot} {rest : List Value} {G : va_G} {bs : Nat} {cy : Nat → ClassId} {I : CI} {L : CL} {R : CR} {b N i : Nat} {xs : Nat → Int32}
theorem W.room {Rm' : Room} {g : JFrame} (hf : Rm'.frames ≤ Rm.frames) (hl : Rm'.locals ≤ Rm.locals) (hc : Rm'.cells ≤ Rm.cells) (hs : Rm'.slots ≤ Rm.slots) (k : W p l e Rm' s m args below meth c H locs cells slots Q g) : W p l e Rm s m args below meth c H locs cells slots Q g :=
  fun T hT X => k T hT ⟨X.admits, X.cas, X.clock, X.frames, hasRoom_sub hf hl hc hs X.room, X.hears, X.method, X.code, X.here, X.tail, X.warmed, X.limits, X.bytes, X.same⟩
theorem cwW {Rm : Room} (hts : ∀ w ∈ wsL_law, w.before args s = true) {μ : MI} {tab : List (Nat × Nat × Nat × Nat)} {na n n' idx mc ms : Nat} (hu : UW μ tab na) (hl : Cond.methodLink RL idx μ.1 ∈ wsL_law) (hR : RmOK Rm n) (hn : n' + 1 ≤ n) : vx_CSW Rm s args RL idx μ.1 μ.2.1 μ.2.2.1 μ.2.2.2 tab (mwsW μ tab) (rmL n' mc ms) mc ms na := by
  obtain ⟨h1, h2, h3, h5, h6⟩ := hu
  have h5' : Cond.initialized μ.1.cls ∈ wsL_law := by rw [h1.1]; exact h5
  refine vx_cwSW na hts (gIn ?_) rfl rfl rfl h1.2 ⟨by rw [hR.1]; exact hn, by rw [hR.2]; show 8 + (μ.2.2.1 + 11) + 60 * n' ≤ 60 * n; omega⟩
  intro w hw
  unfold va_wsS mwsW at hw
  simp only [List.mem_append, List.mem_cons, List.not_mem_nil, or_false] at hw
  rcases hw with (rfl | rfl | rfl) | rfl | hw
  all_goals assumption
theorem callLn {nL : Nat} {cc : ByteArray} (X : Cx p s m args c cc nL RL G bs cy) (hnc : va_Nc IAE IOE s) (hW : Wd G bs cy I L R H) (hS : va_S (Aq bs) s.heap H locs) {n : Nat} (hR : RmOK Rm n) {μ : MI} {tab : List (Nat × Nat × Nat × Nat)} {n' mc' ms' : Nat} {As : List Value} {Q' : Int32 → CI → CL → CR → Prop} (hM : WTn l G bs cy μ tab n' As I L R Q' mc' ms') (hn : n' + 1 ≤ n) {na idx : Nat} (hu : UW μ tab na) (hl : Cond.methodLink RL idx μ.1 ∈ wsL_law)
    (hA : As.length = na) {st0 : List Value} (hst : st0 = As.reverse ++ rest) (hrest : (rest.map fun v => v.category).sum ≤ 8) {lv : List (Nat × Value)} (hl2 : lv_has ls nL lv) (hc1 : cells + mc' ≤ Rm.cells) (hs1 : slots + ms' ≤ Rm.slots) (hdg : decode cc pc = .ok (.invokestatic idx, 3))
    (kk : ∀ (r : Int32) (I' : CI) (L' : CL) (R' : CR) (H1 : Heap) (locs1 : List Loc), Q' r I' L' R' → Wd G bs cy I' L' R' H1 → va_S (Aq bs) s.heap H1 locs1 → W p l e Rm s m args below meth c H1 locs1 (cells + mc') (slots + ms') Q (F0 m (pc + 3) ls (.int r :: rest))) : W p l e Rm s m args below meth c H locs cells slots Q (F0 m pc ls st0) := by
  obtain ⟨hx, hb, hml, hown, hts, hK, hE⟩ := id X
  subst hst
  exact vx_calli (vx_runSX (hh := tab) (As := As) (rest := rest) ⟨hx, hb, hml, hown, hts⟩ hM (cwW hts hu hl hR hn) ⟨PcN_blind, fun U hU hW2 => ⟨⟨rfl, by rw [hU]; exact hW, va_K.moved hW2.alike hK, by rw [hU]; exact hE.to hW2 hS.2.1⟩, va_Nc.moved hW2.alike hnc⟩⟩ rfl hA hl2.1 rfl (lv_room hrest) hdg ⟨hc1, hs1⟩) hS (fun q _ h => h) (fun q h => h) (fun q _ h => h)
    (fun E ce q9 u t H1 locs1 ht hvm _ hB hz hk1 hS1 hce hcv hcl => hB.1.elim)
    (fun r u t H1 locs1 ht hvm hp hB hz hk1 hS1 => kk r u.1 u.2.1 u.2.2 H1 locs1 hp (by rw [← ht]; exact hB) hS1)
/-- script[i + j] -/
abbrev lscR (a : Nat) (z : Int) : List (Nat × Instr × Nat) := [(a, .aload_n 0, 1), (a + 1, .iload 5, 2), (a + 3, .iconst z, 1), (a + 4, .iadd, 1), (a + 5, .iaload, 1)]
theorem l_sc (X : LX p s m args c G bs cy b N xs) (hS : va_S (Aq bs) s.heap H locs) {i : Nat} (hl : lv_has ls 9 (bL b bs i)) {j : Nat} {z : Int} (hD : DQ (lscR a z)) (hz : z = (j : Int)) (hj : i + j < N)
    (kk : W p l e Rm s m args below meth c H locs cells slots Q (F0 m (a + 6) ls (.int (xs (i + j)) :: rest))) : W p l e Rm s m args below meth c H locs cells slots Q (F0 m a ls rest) := by
  obtain ⟨X, hX, hbl, hbb, hnc, hN⟩ := X
  have hx := X.1
  have hb := X.2.1
  refine lv_aload_n hx hb (dg hD (i := 0) rfl) rfl (lv_at hl 0 rfl) ?_
  refine lv_iload hx hb (dg hD (i := 1) rfl) (lv_at hl 5 rfl) ?_
  refine n_iconst (a := j) hx hb (dg hD (i := 2) rfl) hz ?_
  refine n_iadd hx hb (dg hD (i := 3) rfl) ?_
  refine va_sld hx hb hX hbl (Nat.not_le.mpr hbb) hS (vp_in_nI hj (by omega)) (dg hD (i := 4) rfl) ?_
  rw [nI_clamp (by omega)]
  exact kk
/-- x != 0 -/
abbrev lbzR (a : Nat) : List (Nat × Instr × Nat) := [(a, .ifCond .eq 7, 3), (a + 3, .iconst 1, 1), (a + 4, .goto 4, 3), (a + 7, .iconst 0, 1)]
theorem l_bz (hx : p.tables.exec = Jvm.exec) (hb : c.code = cL_law) (hD : DQ (lbzR a)) {x : Int32}
    (kk : W p l e Rm s m args below meth c H locs cells slots Q (F0 m (a + 8) ls (.int (bI (decide (x ≠ 0))) :: rest))) : W p l e Rm s m args below meth c H locs cells slots Q (F0 m a ls (.int x :: rest)) := by
  refine lv_if_eq (tgt := a + 7) hx hb (dg hD (i := 0) rfl) (by omega) (fun h => ?_) (fun h => ?_)
  · refine n_iconst (a := 0) hx hb (dg hD (i := 3) rfl) rfl ?_
    rw [decide_eq_false (fun w => w h)] at kk
    exact kk
  · refine n_iconst (a := 1) hx hb (dg hD (i := 1) rfl) rfl ?_
    refine lv_goto (tgt := a + 8) hx hb (dg hD (i := 2) rfl) (by omega) ?_
    rw [decide_eq_true h] at kk
    exact kk
/-- the end of a case with a mark and a number -/
abbrev ltlB (a : Nat) (off : Int) : List (Nat × Instr × Nat) := [(a, .aload_n 2, 1), (a + 1, .invokevirtual 159, 3), (a + 4, .iload 6, 2), (a + 6, .if_icmp .eq 5, 3), (a + 9, .iconst 0, 1), (a + 10, .ireturn, 1), (a + 11, .iload 6, 2), (a + 13, .ifCond .ne 15, 3), (a + 16, .aload_n 3, 1), (a + 17, .iconst 0, 1), (a + 18, .laload, 1), (a + 19, .iload 7, 2), (a + 21, .i2l, 1), (a + 22, .lcmp, 1), (a + 23, .ifCond .eq 5, 3), (a + 26, .iconst 0, 1), (a + 27, .ireturn, 1), (a + 28, .goto off, 3)]
set_option maxHeartbeats 400000 in
set_option maxRecDepth 100000 in
theorem l_tlB (X : LX p s m args c G bs cy b N xs) (hW : Wd G bs cy I L R H) (hS : va_S (Aq bs) s.heap H locs) {n : Nat} (hR : RmOK Rm n) (hn : 2 ≤ n) {r1 r2 : Int32} {off : Int} (hl : lv_has ls 9 ((7, .int r2) :: (6, .int r1) :: bL b bs i)) (hD : DQ (ltlB a off)) (ht : ((a + 28 : Nat) : Int) + off = (3351 : Nat)) (h6 : I 67 6 = r1) (h86 : r1 = nI 0 → L 86 0 = r2.toInt64) (hcs : cells ≤ Rm.cells ∧ slots ≤ Rm.slots)
    (kk : ∀ H1 locs1, Wd G bs cy I L R H1 → va_S (Aq bs) s.heap H1 locs1 → W p l e Rm s m args below meth c H1 locs1 cells slots Q (F0 m 3351 ls [])) : W p l e Rm s m args below meth c H locs cells slots Q (F0 m a ls []) := by
  obtain ⟨X, hX, hbl, hbb, hnc, hN⟩ := X
  have hx := X.1
  have hb := X.2.1
  refine lv_aload_n hx hb (dg hD (i := 0) rfl) rfl (lv_at hl 4 rfl) ?_
  refine callVi (rest := []) (As := []) X hW hS hR (c_X12_thrown r1 h6) hn UVX12_thrown LK_L_159 rfl (by decide) rfl rfl rfl (Nat.zero_le _) hl hcs (dg hD (i := 1) rfl) (fun r I1 L1 R1 H1 locs1 hq hW hS => ?_)
  obtain ⟨rfl, rfl, rfl, rfl⟩ := hq
  refine lv_iload hx hb (dg hD (i := 2) rfl) (lv_at hl 1 rfl) ?_
  refine lv_icmp_eq (tgt := a + 11) hx hb (dg hD (i := 3) rfl) (by omega) (fun _ => ?_) (fun h => absurd rfl h)
  refine lv_iload hx hb (dg hD (i := 6) rfl) (lv_at hl 1 rfl) ?_
  refine lv_if_ne (tgt := a + 28) hx hb (dg hD (i := 7) rfl) (by omega) (fun _ => ?_) (fun h => ?_)
  · exact lv_goto (tgt := 3351) hx hb (dg hD (i := 17) rfl) ht (kk _ _ hW hS)
  · refine lv_aload_n hx hb (dg hD (i := 8) rfl) rfl (lv_at hl 5 rfl) ?_
    refine n_iconst (a := 0) hx hb (dg hD (i := 9) rfl) rfl ?_
    refine r_lald (k := 86) (j := 0) X hW (n := 1) rfl (by decide) rfl (by decide) (by decide) (h86 (h.trans nI_0.symm)) (dg hD (i := 10) rfl) ?_
    refine lv_iload hx hb (dg hD (i := 11) rfl) (lv_at hl 0 rfl) ?_
    refine lv_i2l (v := r2.toInt64) hx hb (dg hD (i := 12) rfl) rfl ?_
    refine W.lcmp hx hb (dg hD (i := 13) rfl) ?_
    refine c_if_eq (tgt := a + 28) hx hb (dg hD (i := 14) rfl) (by omega) (fun _ => ?_) (fun h => absurd rfl h)
    exact lv_goto (tgt := 3351) hx hb (dg hD (i := 17) rfl) ht (kk _ _ hW hS)
end LW
