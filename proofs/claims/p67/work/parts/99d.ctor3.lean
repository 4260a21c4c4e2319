/-! constructors: the rules over pre ++ lc -/
section PP
variable {p : Program} {l : Launch} {e : Env} {Rm : Room} {s : State} {m : MethodId} {args : Array Value} {below : List Frame} {meth : Method} {c : Code} {H : Heap} {locs : List Loc} {cells slots : Nat} {Q : State → Prop}
variable {cc : ByteArray} {pc nL : Nat} {ls : Array Slot} {rest : List Value} {own : String} {G : va_G} {bs : Nat} {cy : Nat → ClassId} {pre lc lc' : List va_E} {k0 i : Nat}
theorem pre_at (hk : pre.length = k0) : (pre ++ lc)[k0 + i]? = lc[i]? := by
  rw [List.getElem?_append_right (by omega), show k0 + i - pre.length = i by omega]
theorem pre_set {v : va_E} (hk : pre.length = k0) : (pre ++ lc).set (k0 + i) v = pre ++ lc.set i v := by
  rw [List.set_append_right _ _ (by omega), show k0 + i - pre.length = i by omega]
/-- the world of a constructor's walk -/
def Wc (G : va_G) (bs : Nat) (pre lc : List va_E) (H : Heap) : Prop := va_P G vwCl (wq bs (pre ++ lc)) H
theorem p_new (X : Cx p s m args c cc nL own G (bs + 16) cy) (hk : pre.length = k0) (hQ : Wc G bs pre lc H) (hS : va_S (Aw bs) s.heap H locs) (hsz : s.heap.size + cells = bs + (k0 + lc.length)) (hb0 : bs ≤ s.heap.size) {index ci N : Nat} (hN : NW own index ci) {fs : List Value} (hNN : (vwCl.getD ci ("", TX0, 0)).2.2 = N) (hfs : ∀ j, j < N → defaultValue (tyF ci j) = vp_V fs j) (hcells : cells + 1 ≤ Rm.cells) (hslots : slots + N ≤ Rm.slots) (hi : lc.length = i) (hl' : lc ++ [(.inr (ci, fs) : va_E)] = lc') (hdg : decode cc pc = .ok (.new index, 3))
    (kk : ∀ (H1 : Heap), Wc G bs pre lc' H1 → va_S (Aw bs) s.heap H1 locs → s.heap.size + (cells + 1) = bs + (k0 + lc'.length) → W p l e Rm s m args below meth c H1 locs (cells + 1) (slots + N) Q (F0 m (pc + 3) ls (.ref (bs + (k0 + i)) :: rest))) : W p l e Rm s m args below meth c H locs cells slots Q (F0 m pc ls rest) := by
  subst hi hl'
  refine q_new X hQ hS (by rw [List.length_append, hk]; exact hsz) hb0 hN hNN hfs hcells hslots hdg (fun H1 hP1 hS1 hz => ?_)
  rw [List.length_append, hk]
  exact kk H1 (by unfold Wc; rw [← List.append_assoc]; exact hP1) hS1 (by rw [List.length_append, List.length_append, hk] at hz; rw [List.length_append]; omega)
theorem p_newa (X : Cx p s m args c cc nL own G (bs + 16) cy) (hk : pre.length = k0) (hQ : Wc G bs pre lc H) (hS : va_S (Aw bs) s.heap H locs) (hsz : s.heap.size + cells = bs + (k0 + lc.length)) (hb0 : bs ≤ s.heap.size) {atype : ArrayType} {t N : Nat} {ty : FieldType} (hty : newarray.typeOf atype = ty) (harr : Cond.arrayClass ty ∈ wsL_law) (ht : (tyLs cy)[t]? = some (cy t, ty)) (hno : ∀ C, ty ≠ .object C) {a0 : vp_A} (hae : arE cy t N = .inl (cy t, a0)) (ha : ∀ cA : ClassId, vp_cell cA a0 = arrV cA N (fun _ => defaultValue ty)) (hN : N < 100000) (hbytes : N * componentBytes ty ≤ 536870912) (hcells : cells + 1 ≤ Rm.cells) (hslots : slots + N ≤ Rm.slots) (hi : lc.length = i) (hl' : lc ++ [arE cy t N] = lc') (hdg : decode cc pc = .ok (.newarray atype, 2))
    (kk : ∀ (H1 : Heap), Wc G bs pre lc' H1 → va_S (Aw bs) s.heap H1 locs → s.heap.size + (cells + 1) = bs + (k0 + lc'.length) → W p l e Rm s m args below meth c H1 locs (cells + 1) (slots + N) Q (F0 m (pc + 2) ls (.ref (bs + (k0 + i)) :: rest))) : W p l e Rm s m args below meth c H locs cells slots Q (F0 m pc ls (.int (nI N) :: rest)) := by
  subst hi hl'
  refine q_newa X hQ hS (by rw [List.length_append, hk]; exact hsz) hb0 hty harr ht hno hae ha hN hbytes hcells hslots hdg (fun H1 hP1 hS1 hz => ?_)
  rw [List.length_append, hk]
  exact kk H1 (by unfold Wc; rw [← List.append_assoc]; exact hP1) hS1 (by rw [List.length_append, List.length_append, hk] at hz; rw [List.length_append]; omega)
theorem p_putF (X : Cx p s m args c cc nL own G (bs + 16) cy) (hk : pre.length = k0) (hQ : Wc G bs pre lc H) (hS : va_S (Aw bs) s.heap H locs) {index ci j : Nat} (hF : FI own index ci j) {fs : List Value} (he : lc[i]? = some (.inr (ci, fs))) (hC : (vwCl.getD ci ("", TX0, 0)).1 = own) (hmn : meth.name = "<init>") {v : Value} {ty : FieldType}
    (hfin : ((vwCl.getD ci ("", TX0, 0)).2.1 j).2.2.2 = true) (hd : parseFieldDescriptor ((vwCl.getD ci ("", TX0, 0)).2.1 j).2.2.1 = some ty) (hn : narrow ty v = v) (hfit : fits ty v = true) (hl : j < fs.length) (hl' : lc.set i (.inr (ci, fs.set j v)) = lc') (hdg : decode cc pc = .ok (.putfield index, 3))
    (kk : ∀ (H1 : Heap) (locs1 : List Loc), Wc G bs pre lc' H1 → va_S (Aw bs) s.heap H1 locs1 → W p l e Rm s m args below meth c H1 locs1 cells slots Q (F0 m (pc + 3) ls rest)) : W p l e Rm s m args below meth c H locs cells slots Q (F0 m pc ls (v :: .ref (bs + (k0 + i)) :: rest)) := by
  subst hl'
  exact q_putF X hQ hS hF ((pre_at hk).trans he) hC hmn hfin hd hn hfit hl hdg (fun H1 locs1 hP hS1 => kk H1 locs1 (by unfold Wc; rw [← pre_set hk]; exact hP) hS1)
theorem p_put (X : Cx p s m args c cc nL own G (bs + 16) cy) (hk : pre.length = k0) (hQ : Wc G bs pre lc H) (hS : va_S (Aw bs) s.heap H locs) {index ci j : Nat} (hF : FI own index ci j) {fs : List Value} (he : lc[i]? = some (.inr (ci, fs))) {v : Value} {ty : FieldType}
    (hfin : ((vwCl.getD ci ("", TX0, 0)).2.1 j).2.2.2 = false) (hd : parseFieldDescriptor ((vwCl.getD ci ("", TX0, 0)).2.1 j).2.2.1 = some ty) (hn : narrow ty v = v) (hfit : fits ty v = true) (hl : j < fs.length) (hl' : lc.set i (.inr (ci, fs.set j v)) = lc') (hdg : decode cc pc = .ok (.putfield index, 3))
    (kk : ∀ (H1 : Heap) (locs1 : List Loc), Wc G bs pre lc' H1 → va_S (Aw bs) s.heap H1 locs1 → W p l e Rm s m args below meth c H1 locs1 cells slots Q (F0 m (pc + 3) ls rest)) : W p l e Rm s m args below meth c H locs cells slots Q (F0 m pc ls (v :: .ref (bs + (k0 + i)) :: rest)) := by
  subst hl'
  exact q_put X hQ hS hF ((pre_at hk).trans he) hfin hd hn hfit hl hdg (fun H1 locs1 hP hS1 => kk H1 locs1 (by unfold Wc; rw [← pre_set hk]; exact hP) hS1)
theorem p_callN (X : Cx p s m args c cc nL own G (bs + 16) cy) (hk : pre.length = k0) {lo lr : List va_E} {b : va_E} (hQ : Wc G bs pre (lo ++ [b]) H) (hS : va_S (Aw bs) s.heap H locs) (hsz : s.heap.size + cells = bs + (k0 + (lo ++ [b]).length)) {n : Nat} (hfr : Rm.frames = n ∧ Rm.locals = 60 * n) {μ : MI} {n' mc ms k1 : Nat} {As : List Value} (hM : MTq l G bs cy μ n' mc ms (.ref (bs + k1) :: As) ((pre ++ lo) ++ [b]) ((pre ++ lo) ++ lr)) (hn : n' + 1 ≤ n) {C : String} {na idx : Nat} (hu : UI μ C na) (hret : μ.2.2.2 = none) (hini : μ.1.name = "<init>") (hl : Cond.methodLinkNest own idx μ.1 "SpanPainter" ∈ nestL)
    (hA : As.length = na) {st0 : List Value} (hst : st0 = As.reverse ++ .ref (bs + k1) :: rest) (hrest : (rest.map fun v => v.category).sum ≤ 8) {lv : List (Nat × Value)} (hl2 : lv_has ls nL lv) (hcs : cells + mc ≤ Rm.cells ∧ slots + ms ≤ Rm.slots) (hlr : lr.length = 1 + mc) (hl' : lo ++ lr = lc') (hdg : decode cc pc = .ok (.invokespecial idx, 3))
    (kk : ∀ (H1 : Heap) (locs1 : List Loc), Wc G bs pre lc' H1 → va_S (Aw bs) s.heap H1 locs1 → s.heap.size + (cells + mc) = bs + (k0 + lc'.length) → W p l e Rm s m args below meth c H1 locs1 (cells + mc) (slots + ms) Q (F0 m (pc + 3) ls rest)) : W p l e Rm s m args below meth c H locs cells slots Q (F0 m pc ls st0) := by
  subst hl'
  unfold Wc at hQ
  rw [← List.append_assoc] at hQ
  refine callQN X hQ hS (by rw [List.length_append, List.length_append, hk]; rw [List.length_append] at hsz; omega) (by simp) hfr hM hn hu hret hini hl hA hst hrest hl2 hcs (by simp only [List.length_append, List.length_singleton]; omega) hdg (fun H1 locs1 hP hS1 hz => kk H1 locs1 (by unfold Wc; rw [← List.append_assoc]; exact hP) hS1 ?_)
  simp only [List.length_append] at hz ⊢
  omega
theorem p_call (X : Cx p s m args c cc nL own G (bs + 16) cy) (hk : pre.length = k0) {lo lr : List va_E} {b : va_E} (hQ : Wc G bs pre (lo ++ [b]) H) (hS : va_S (Aw bs) s.heap H locs) (hsz : s.heap.size + cells = bs + (k0 + (lo ++ [b]).length)) {n : Nat} (hfr : Rm.frames = n ∧ Rm.locals = 60 * n) {μ : MI} {n' mc ms k1 : Nat} {As : List Value} (hM : MTq l G bs cy μ n' mc ms (.ref (bs + k1) :: As) ((pre ++ lo) ++ [b]) ((pre ++ lo) ++ lr)) (hn : n' + 1 ≤ n) {C : String} {na idx : Nat} (hu : UI μ C na) (hret : μ.2.2.2 = none) (hini : μ.1.name = "<init>") (hl : Cond.methodLink own idx μ.1 ∈ wsL_law)
    (hA : As.length = na) {st0 : List Value} (hst : st0 = As.reverse ++ .ref (bs + k1) :: rest) (hrest : (rest.map fun v => v.category).sum ≤ 8) {lv : List (Nat × Value)} (hl2 : lv_has ls nL lv) (hcs : cells + mc ≤ Rm.cells ∧ slots + ms ≤ Rm.slots) (hlr : lr.length = 1 + mc) (hl' : lo ++ lr = lc') (hdg : decode cc pc = .ok (.invokespecial idx, 3))
    (kk : ∀ (H1 : Heap) (locs1 : List Loc), Wc G bs pre lc' H1 → va_S (Aw bs) s.heap H1 locs1 → s.heap.size + (cells + mc) = bs + (k0 + lc'.length) → W p l e Rm s m args below meth c H1 locs1 (cells + mc) (slots + ms) Q (F0 m (pc + 3) ls rest)) : W p l e Rm s m args below meth c H locs cells slots Q (F0 m pc ls st0) := by
  subst hl'
  unfold Wc at hQ
  rw [← List.append_assoc] at hQ
  refine callQ X hQ hS (by rw [List.length_append, List.length_append, hk]; rw [List.length_append] at hsz; omega) (by simp) hfr hM hn hu hret hini hl hA hst hrest hl2 hcs (by simp only [List.length_append, List.length_singleton]; omega) hdg (fun H1 locs1 hP hS1 hz => kk H1 locs1 (by unfold Wc; rw [← List.append_assoc]; exact hP) hS1 ?_)
  simp only [List.length_append] at hz ⊢
  omega
end PP
