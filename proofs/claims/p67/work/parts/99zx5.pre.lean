/-! the law's body from its entry -/
section PR9
variable {p : Program} {l : Launch} {e : Env} {Rm : Room} {s : State} {m : MethodId} {args : Array Value} {below : List Frame} {meth : Method} {c : Code} {H : Heap} {locs : List Loc} {cells slots : Nat} {Q : State → Prop}
variable {cc : ByteArray} {pc nL : Nat} {ls : Array Slot} {rest : List Value} {own : String} {G : va_G} {bs : Nat} {cy : Nat → ClassId} {pre lc lc' : List va_E} {k0 i : Nat}
theorem p_callL (X : Cx p s m args c cc nL own G (bs + 16) cy) (hov : va_AOA .int s) (hk : pre.length = k0) {lo lr : List va_E} {b : va_E} (hQ : Wc G bs pre (lo ++ [b]) H) (hS : va_S (Aw bs) s.heap H locs) (hsz : s.heap.size + cells = bs + (k0 + (lo ++ [b]).length)) (hfr : RmL Rm) {μ : MI} {n' mc ms k1 : Nat} {As : List Value} (hM : MTr l G bs cy μ n' mc ms (.ref (bs + k1) :: As) ((pre ++ lo) ++ [b]) ((pre ++ lo) ++ lr)) (hn : n' ≤ 8) (hm : μ.2.2.1 ≤ 33) {C : String} {na idx : Nat} (hu : UI μ C na) (hret : μ.2.2.2 = none) (hini : μ.1.name = "<init>") (hl : Cond.methodLink own idx μ.1 ∈ wsL_law)
    (hA : As.length = na) {st0 : List Value} (hst : st0 = As.reverse ++ .ref (bs + k1) :: rest) (hrest : (rest.map fun v => v.category).sum ≤ 8) {lv : List (Nat × Value)} (hl2 : lv_has ls nL lv) (hcs : cells + mc ≤ Rm.cells ∧ slots + ms ≤ Rm.slots) (hlr : lr.length = 1 + mc) (hl' : lo ++ lr = lc') (hdg : decode cc pc = .ok (.invokespecial idx, 3))
    (kk : ∀ (H1 : Heap) (locs1 : List Loc), Wc G bs pre lc' H1 → va_S (Aw bs) s.heap H1 locs1 → s.heap.size + (cells + mc) = bs + (k0 + lc'.length) → W p l e Rm s m args below meth c H1 locs1 (cells + mc) (slots + ms) Q (F0 m (pc + 3) ls rest)) : W p l e Rm s m args below meth c H locs cells slots Q (F0 m pc ls st0) := by
  subst hl'
  unfold Wc at hQ
  rw [← List.append_assoc] at hQ
  refine W.size9 (fun hz => ?_)
  have hsize := q_size hQ hS (by rw [List.length_append, List.length_append, hk]; rw [List.length_append] at hsz; omega) (by simp) hz
  obtain ⟨hx, hb, hml, hown, hts, hK, hE⟩ := id X
  subst hst
  obtain ⟨u1, u2, u3, u4, u5⟩ := hu
  obtain ⟨y, cb, mL, rt⟩ := μ
  dsimp only at hret hini hm u1 u2 u3 u4 u5
  subst hret
  have hcw : CallB Rm s args own idx y cb mL none (mws (y, cb, mL, none)) (rmL n' mc ms) mc ms na ∧ y.name = "<init>" ∧ (Cond.instanceMethod y).before args s = true := by
    obtain ⟨r1, r2⟩ := hfr
    refine cwI na hts (gIn (fun w hw => ?_)) rfl rfl rfl (hts _ (by rw [u1.1]; exact u4)) (hts _ hl) (hts _ u3) hini ⟨u1.2.1, u1.2.2.1, u1.2.2.2⟩ ⟨by show n' + 1 ≤ Rm.frames; omega, by show 8 + (mL + 11) + 60 * n' ≤ Rm.locals; omega⟩
    rcases List.mem_cons.mp hw with rfl | hw
    · exact u5
    · exact hw
  exact va_callv (va_runI (As := As) (rest := rest) ⟨hx, hb, hml, hown, hts⟩ hM hcw ⟨PcR_blind, fun U hU hW2 => ⟨rfl, by rw [hU]; exact hQ, by rw [hU]; exact hsize, va_K.moved hW2.alike hK, by rw [hU]; exact hE.tow hW2 hS.2.1, AOA_warm hW2 hov⟩⟩ rfl hA hl2.1 rfl (lv_room hrest) hdg hcs) hS (fun q _ h => h) (fun q h => h)
    (fun u t H1 locs1 ht hvm hp hB hz hk1 hS1 => kk H1 locs1 (by unfold Wc; rw [← List.append_assoc, ← ht]; exact hB) hS1 (by rw [List.length_append] at hsz ⊢; simp only [List.length_singleton] at hsz; omega))
end PR9
theorem iL {l : Launch} {G : va_G} {bs : Nat} {cy : Nat → ClassId} : MTr l G bs cy ML_init 1 15 70 [.ref (bs + 0)] (([] ++ []) ++ [bnL]) (([] ++ []) ++ wG bs cy) := i_L [] 0 rfl
theorem iA {l : Launch} {G : va_G} {bs : Nat} {cy : Nat → ClassId} (pre : List va_E) (hk : pre.length = 16) : MTr l G bs cy MX11_init 4 66 6324 [.ref (bs + (0 + 16))] (([] ++ pre) ++ [bnA]) (([] ++ pre) ++ wA bs cy) := by
  rw [show (0 : Nat) + 16 = 16 from rfl]
  exact i_X11 pre 16 hk
set_option maxHeartbeats 8000000 in
set_option maxRecDepth 100000 in
theorem law_pre {p : Program} {l : Launch} {e : Env} {Rm : Room} {s : State} {m : MethodId} {args : Array Value} {below : List Frame} {meth : Method} {c : Code} {Q : State → Prop} {G : va_G} {cy : Nat → ClassId} {b : Nat} (X : Cx p s m args c cL_law 9 RL G (s.heap.size + 16) cy) (hov : va_AOA .int s) (h5 : cy 5 = cy 4) (hR : RmL Rm) (hc : 83 ≤ Rm.cells) (hs : 6425 ≤ Rm.slots) {ls : Array Slot} (hl : lv_has ls 9 [(0, .ref b)])
    (kk : ∀ (H : Heap) (locs : List Loc) (ls1 : Array Slot), Wd G (s.heap.size + 16) cy I0 L0 (R0 b) H → va_S (Aw s.heap.size) s.heap H locs → lv_has ls1 9 [(2, .ref (s.heap.size + 16 + 0)), (1, .ref (ad (s.heap.size + 16) 67)), (0, .ref b)] → W p l e Rm s m args below meth c H locs 83 6425 Q (F0 m 21 ls1 [])) : W p l e Rm s m args below meth c s.heap [] 0 0 Q (F0 m 0 ls []) := by
  have hx := X.1
  have hb := X.2.1
  generalize hbs : s.heap.size = bs at X kk
  have hk : ([] : List va_E).length = 0 := rfl
  have hb0 : bs ≤ s.heap.size := by omega
  have hW : Wc G bs [] [] s.heap := fun k q h => by simp [wq] at h
  have hsz : s.heap.size + 0 = bs + (0 + ([] : List va_E).length) := by rw [hbs]; rfl
  have hS : va_S (Aw bs) s.heap s.heap [] := va_S.rf
  refine p_new (ci := 12) (N := 18) (fs := [.null, .int 0, .int 0, .int 0, .int 0, .int 0, .int 0, .int 0, .null, .null, .null, .null, .null, .null, .null, .null, .null, .int 0]) (i := 0) (lc' := [bnL]) X hk hW hS hsz hb0 NW_L_8 rfl (fun j hj => by rcases (show j = 0 ∨ j = 1 ∨ j = 2 ∨ j = 3 ∨ j = 4 ∨ j = 5 ∨ j = 6 ∨ j = 7 ∨ j = 8 ∨ j = 9 ∨ j = 10 ∨ j = 11 ∨ j = 12 ∨ j = 13 ∨ j = 14 ∨ j = 15 ∨ j = 16 ∨ j = 17 by omega) with rfl | rfl | rfl | rfl | rfl | rfl | rfl | rfl | rfl | rfl | rfl | rfl | rfl | rfl | rfl | rfl | rfl | rfl <;> rfl) (by omega) (by omega) rfl rfl (dg D_L_law (i := 0) rfl) (fun H hW hS hsz => ?_)
  refine lv_dup hx hb (dg D_L_law (i := 1) rfl) rfl ?_
  refine p_callL (lo := []) (lr := wG bs cy) (b := bnL) (lc' := wG bs cy) (k1 := 0) (As := []) X hov hk hW hS hsz hR iL (by decide) (by decide) UIL_init rfl rfl LK_L_138 rfl rfl (Nat.le_of_ble_eq_true rfl) hl ⟨by omega, by omega⟩ wG_len rfl (dg D_L_law (i := 2) rfl) (fun H locs hW hS hsz => ?_)
  refine lv_astore_n (lv' := [(1, .ref (bs + (0 + 0))), (0, .ref b)]) hx hb (dg D_L_law (i := 3) rfl) rfl hl (by decide) rfl (fun ls hl => ?_)
  refine lv_aload_n hx hb (dg D_L_law (i := 4) rfl) rfl (lv_at hl 0 rfl) ?_
  refine lv_aload_n hx hb (dg D_L_law (i := 5) rfl) rfl (lv_at hl 1 rfl) ?_
  refine p_put (i := 0) (fs := [.ref (bs + (0 + 1)), .int 0, .int 0, .int 0, .int 0, .int 0, .int 0, .int 0, .ref (bs + (0 + 2)), .ref (bs + (0 + 3)), .ref (bs + (0 + 4)), .ref (bs + (0 + 5)), .ref (bs + (0 + 6)), .ref (bs + (0 + 7)), .ref (bs + (0 + 8)), .ref (bs + (0 + 9)), .ref (bs + (0 + 10)), .int 0]) (v := .ref b) (ty := .array .int) (lc' := wG2 bs cy b) X hk hW hS FI_L_7 rfl (by decide +kernel) (by decide +kernel) rfl rfl (Nat.zero_lt_succ _) rfl (dg D_L_law (i := 6) rfl) (fun H locs hW hS => ?_)
  have hsz : s.heap.size + (0 + 1 + 15) = bs + (0 + (wG2 bs cy b).length) := hsz
  refine p_new (ci := 11) (N := 13) (fs := [.null, .null, .null, .null, .null, .null, .null, .null, .null, .null, .null, .int 0, .int 0]) (i := 16) (lc' := wG2 bs cy b ++ [bnA]) X hk hW hS hsz hb0 NW_L_57 rfl (fun j hj => by rcases (show j = 0 ∨ j = 1 ∨ j = 2 ∨ j = 3 ∨ j = 4 ∨ j = 5 ∨ j = 6 ∨ j = 7 ∨ j = 8 ∨ j = 9 ∨ j = 10 ∨ j = 11 ∨ j = 12 by omega) with rfl | rfl | rfl | rfl | rfl | rfl | rfl | rfl | rfl | rfl | rfl | rfl | rfl <;> rfl) (by omega) (by omega) wG2_len rfl (dg D_L_law (i := 7) rfl) (fun H hW hS hsz => ?_)
  refine lv_dup hx hb (dg D_L_law (i := 8) rfl) rfl ?_
  refine p_callL (lo := wG2 bs cy b) (lr := wA bs cy) (b := bnA) (lc' := wG2 bs cy b ++ wA bs cy) (k1 := 0 + 16) (As := []) X hov hk hW hS hsz hR (iA (wG2 bs cy b) wG2_len) (by decide) (by decide) UIX11_init rfl rfl LK_L_139 rfl rfl (Nat.le_of_ble_eq_true rfl) hl ⟨by omega, by omega⟩ wA_len rfl (dg D_L_law (i := 9) rfl) (fun H locs hW hS hsz => ?_)
  refine lv_astore_n (lv' := [(2, .ref (bs + (0 + 16))), (1, .ref (bs + (0 + 0))), (0, .ref b)]) hx hb (dg D_L_law (i := 10) rfl) rfl hl (by decide) rfl (fun ls hl => ?_)
  have hW : va_P G vwCl (wq bs (wG2 bs cy b ++ wA bs cy)) H := hW
  have hl : lv_has ls 9 [(2, .ref (bs + 16 + 0)), (1, .ref (ad (bs + 16) 67)), (0, .ref b)] := by rw [show ad (bs + 16) 67 = bs + (0 + 0) from ad16 (by decide)]; exact hl
  exact W.widen (by omega) (by omega) (kk H _ ls (es_Wd h5 hW) hS hl)
