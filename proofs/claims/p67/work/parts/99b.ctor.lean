/-! constructors: worlds by their entries -/
def Aw (bs : Nat) : Nat → Prop := fun q => bs ≤ q
theorem EK.tow {bs : Nat} {cy : Nat → ClassId} {s U : State} {H : Heap} (hW : s.WarmedH U.vm) (hk : ∀ a : Nat, a < s.heap.size → ¬ Aw bs a → H[a]? = s.heap[a]?) (h : EK (bs + 16) cy s s.heap) : EK (bs + 16) cy U H := h.tog hW (fun a h1 h2 => hk a h1 (fun z => h2 (by show bs + 16 ≤ a + 16; have : bs ≤ a := z; omega)))
def wq (bs : Nat) (es : List va_E) : va_W := es.zipIdx.map (fun q => (bs + q.2, q.1))
theorem wq_at {bs k : Nat} {es : List va_E} {e : va_E} (h : es[k]? = some e) : (wq bs es)[k]? = some (bs + k, e) := by
  unfold wq
  rw [List.getElem?_map, List.getElem?_zipIdx, h]
  simp
theorem wq_inv {bs k : Nat} {es : List va_E} {q : Nat × va_E} (h : (wq bs es)[k]? = some q) : q.1 = bs + k ∧ es[k]? = some q.2 := by
  unfold wq at h
  rw [List.getElem?_map, List.getElem?_zipIdx] at h
  cases e : es[k]? with
  | none => rw [e] at h; cases h
  | some z => rw [e] at h; simp at h; subst h; exact ⟨rfl, rfl⟩
theorem wq_len {bs : Nat} {es : List va_E} : (wq bs es).length = es.length := by unfold wq; rw [List.length_map, List.length_zipIdx]
theorem wq_set {bs k : Nat} {es : List va_E} {e : va_E} : (wq bs es).set k (bs + k, e) = wq bs (es.set k e) := by
  apply List.ext_getElem?
  intro j
  rw [List.getElem?_set]
  by_cases hj : k = j
  · subst hj
    rw [if_pos rfl, wq_len]
    by_cases hk : k < es.length
    · rw [if_pos hk, wq_at (e := e) (by rw [List.getElem?_set, if_pos rfl, if_pos hk])]
    · rw [if_neg hk]
      refine (List.getElem?_eq_none ?_).symm
      rw [wq_len, List.length_set]; omega
  · rw [if_neg hj]
    unfold wq
    rw [List.getElem?_map, List.getElem?_map, List.getElem?_zipIdx, List.getElem?_zipIdx, List.getElem?_set, if_neg hj]
theorem wq_app {bs : Nat} {es : List va_E} {e : va_E} : wq bs (es ++ [e]) = wq bs es ++ [(bs + es.length, e)] := by
  unfold wq
  rw [List.zipIdx_append, List.map_append]
  simp
theorem wq_D {bs : Nat} {es : List va_E} : va_D (Aw bs) (wq bs es) := by
  refine ⟨fun i j p q hp hq he => ?_, fun k q h => ?_⟩
  · rw [(wq_inv hp).1, (wq_inv hq).1] at he; omega
  · show bs ≤ q.1
    rw [(wq_inv h).1]; omega
section QQ
variable {p : Program} {l : Launch} {e : Env} {Rm : Room} {s : State} {m : MethodId} {args : Array Value} {below : List Frame} {meth : Method} {c : Code} {H : Heap} {locs : List Loc} {cells slots : Nat} {Q : State → Prop}
variable {cc : ByteArray} {pc nL : Nat} {ls : Array Slot} {rest : List Value} {own : String} {G : va_G} {bs : Nat} {cy : Nat → ClassId} {es : List va_E} {k : Nat}
theorem W.size9 {g : JFrame} (h : H.size ≤ s.heap.size + cells → W p l e Rm s m args below meth c H locs cells slots Q g) : W p l e Rm s m args below meth c H locs cells slots Q g := fun T hT X => h (by rw [← hT]; exact X.same.2.2.1) T hT X
/-- a cell is made: it lies behind the others -/
theorem q_born {A : Nat → Prop} {q : Nat} {en : va_E} {H1 : Heap} (hA : ∀ x, A x → bs ≤ x) (hP : va_P G vwCl (wq bs es ++ [(q, en)]) H1) (hD : va_D A (wq bs es ++ [(q, en)])) (hs : H1.size ≤ bs + es.length + 1) : q = bs + es.length := by
  have hl : (wq bs es ++ [(q, en)])[es.length]? = some (q, en) := by rw [← wq_len (bs := bs) (es := es)]; simp
  have h1 : q < H1.size := (hP _ _ hl).lt
  have h2 : bs ≤ q := hA _ (hD.2 _ _ hl)
  rcases Nat.lt_or_ge q (bs + es.length) with h | h
  · obtain ⟨z, hz⟩ : ∃ z, es[q - bs]? = some z := ⟨_, List.getElem?_eq_getElem (by omega)⟩
    have e1 := wq_at (bs := bs) hz
    have e2 : (wq bs es ++ [(q, en)])[q - bs]? = some (bs + (q - bs), z) := by
      rw [List.getElem?_append_left (by rw [wq_len]; omega)]; exact e1
    have := hD.1 _ _ _ _ e2 hl (by show bs + (q - bs) = q; omega)
    omega
  · omega
/-- what the tables say of a class that is made -/
def NW (own : String) (index ci : Nat) : Prop := ∃ (C : String) (T : u_T) (N : Nat), vwCl[ci]? = some (C, T, N) ∧ (∀ w ∈ u_ws C T N, w ∈ wsL_law) ∧ Cond.classLink own index C ∈ wsL_law ∧ Cond.instantiable C N ∈ wsL_law ∧ Cond.initialized C ∈ wsL_law
def tyF (ci j : Nat) : FieldType := (parseFieldDescriptor ((vwCl.getD ci ("", TX0, 0)).2.1 j).2.2.1).getD .int
theorem q_new (X : Cx p s m args c cc nL own G (bs + 16) cy) (hQ : va_P G vwCl (wq bs es) H) (hS : va_S (Aw bs) s.heap H locs) (hsz : s.heap.size + cells = bs + es.length) (hb0 : bs ≤ s.heap.size) {index ci N : Nat} (hN : NW own index ci) {fs : List Value} (hNN : (vwCl.getD ci ("", TX0, 0)).2.2 = N) (hfs : ∀ j, j < N → defaultValue (tyF ci j) = vp_V fs j) (hcells : cells + 1 ≤ Rm.cells) (hslots : slots + N ≤ Rm.slots) (hdg : decode cc pc = .ok (.new index, 3))
    (kk : ∀ (H1 : Heap), va_P G vwCl (wq bs (es ++ [(.inr (ci, fs) : va_E)])) H1 → va_S (Aw bs) s.heap H1 locs → s.heap.size + (cells + 1) = bs + (es ++ [(.inr (ci, fs) : va_E)]).length → W p l e Rm s m args below meth c H1 locs (cells + 1) (slots + N) Q (F0 m (pc + 3) ls (.ref (bs + es.length) :: rest))) : W p l e Rm s m args below meth c H locs cells slots Q (F0 m pc ls rest) := by
  obtain ⟨hx, hb, hml, hown, hts, hK, -⟩ := X
  obtain ⟨C, T, N', hc, hin, hcl, hinst, hini⟩ := hN
  have hg : vwCl.getD ci ("", TX0, 0) = (C, T, N') := by rw [List.getD_eq_getElem?_getD, hc]; rfl
  have hci : ci < 15 := (List.getElem?_eq_some_iff.mp hc).1
  have hty := cls_ty ci hci
  rw [hg] at hty hNN
  dsimp only at hty hNN
  subst hNN
  refine va_new hx hb hts hin (fun a => tyF ci a) (fun a ha => ?_) hown (hts _ hcl) (hts _ hinst) (hts _ hini) hK hQ wq_D hS (fun q hq => Nat.le_trans hb0 hq) hc hfs hcells hslots hdg (fun q H1 hP1 hD1 hS1 => ?_)
  · have h2 := hty a ha
    unfold tyF
    rw [hg]
    cases h3 : parseFieldDescriptor (T a).2.2.1 with
    | none => rw [h3] at h2; cases h2
    | some z => rfl
  · refine W.size9 (fun hz => ?_)
    have hq := q_born (fun x h => h) hP1 hD1 (by omega)
    subst hq
    rw [← wq_app] at hP1
    exact kk H1 hP1 hS1 (by rw [List.length_append]; show _ = bs + (es.length + 1); omega)
/-- an array is made -/
def arE (cy : Nat → ClassId) (t N : Nat) : va_E := .inl (cy t, N, match t with
  | 2 => .inr (.inl (fun _ => 0))
  | 3 => .inr (.inr (.inr (.inl (fun _ => 0))))
  | _ => .inl (fun _ => 0))
theorem q_newa (X : Cx p s m args c cc nL own G (bs + 16) cy) (hQ : va_P G vwCl (wq bs es) H) (hS : va_S (Aw bs) s.heap H locs) (hsz : s.heap.size + cells = bs + es.length) (hb0 : bs ≤ s.heap.size) {atype : ArrayType} {t N : Nat} {ty : FieldType} (hty : newarray.typeOf atype = ty) (harr : Cond.arrayClass ty ∈ wsL_law) (ht : (tyLs cy)[t]? = some (cy t, ty)) (hno : ∀ C, ty ≠ .object C) {a0 : vp_A} (hae : arE cy t N = .inl (cy t, a0)) (ha : ∀ cA : ClassId, vp_cell cA a0 = arrV cA N (fun _ => defaultValue ty)) (hN : N < 100000) (hbytes : N * componentBytes ty ≤ 536870912) (hcells : cells + 1 ≤ Rm.cells) (hslots : slots + N ≤ Rm.slots) (hdg : decode cc pc = .ok (.newarray atype, 2))
    (kk : ∀ (H1 : Heap), va_P G vwCl (wq bs (es ++ [arE cy t N])) H1 → va_S (Aw bs) s.heap H1 locs → s.heap.size + (cells + 1) = bs + (es ++ [arE cy t N]).length → W p l e Rm s m args below meth c H1 locs (cells + 1) (slots + N) Q (F0 m (pc + 2) ls (.ref (bs + es.length) :: rest))) : W p l e Rm s m args below meth c H locs cells slots Q (F0 m pc ls (.int (nI N) :: rest)) := by
  obtain ⟨hx, hb, hml, hown, hts, hK, -⟩ := X
  refine va_newa hx hb (by rw [hty]; exact hts _ harr) hty hK hQ wq_D hS (fun q hq => Nat.le_trans hb0 hq) ha (fun h => by rw [Int32.lt_iff_toInt_lt, nI_toInt (by omega)] at h; simp at h; omega) (nI_clamp (by omega)) hbytes hcells hslots hdg (fun q cA H1 hK1 hP1 hD1 hS1 => ?_)
  have e1 : cA = cy t := by
    have h1 := (hK1.2 6 (cA, ty) rfl).2
    have h2 := (hK.2 t _ ht).2
    cases ty with
    | object C => exact absurd rfl (hno C)
    | _ => exact Option.some.inj (h1.symm.trans h2)
  subst e1
  refine W.size9 (fun hz => ?_)
  have hq := q_born (fun x h => h) hP1 hD1 (by omega)
  subst hq
  rw [← wq_app, ← hae] at hP1
  exact kk H1 hP1 hS1 (by rw [List.length_append]; show _ = bs + (es.length + 1); omega)
/-- a final field is set -/
theorem q_putF (X : Cx p s m args c cc nL own G (bs + 16) cy) (hQ : va_P G vwCl (wq bs es) H) (hS : va_S (Aw bs) s.heap H locs) {index ci j : Nat} (hF : FI own index ci j) {fs : List Value} (he : es[k]? = some (.inr (ci, fs))) (hC : (vwCl.getD ci ("", TX0, 0)).1 = own) (hmn : meth.name = "<init>") {v : Value} {ty : FieldType}
    (hfin : ((vwCl.getD ci ("", TX0, 0)).2.1 j).2.2.2 = true) (hd : parseFieldDescriptor ((vwCl.getD ci ("", TX0, 0)).2.1 j).2.2.1 = some ty) (hn : narrow ty v = v) (hfit : fits ty v = true) (hl : j < fs.length) (hdg : decode cc pc = .ok (.putfield index, 3))
    (kk : ∀ (H1 : Heap) (locs1 : List Loc), va_P G vwCl (wq bs (es.set k (.inr (ci, fs.set j v)))) H1 → va_S (Aw bs) s.heap H1 locs1 → W p l e Rm s m args below meth c H1 locs1 cells slots Q (F0 m (pc + 3) ls rest)) : W p l e Rm s m args below meth c H locs cells slots Q (F0 m pc ls (v :: .ref (bs + k) :: rest)) := by
  obtain ⟨hx, hb, hml, hown, hts, hK, -⟩ := X
  obtain ⟨C, T, N, hc, hC2, hj, hin, hlk⟩ := hF
  have hg : vwCl.getD ci ("", TX0, 0) = (C, T, N) := by rw [List.getD_eq_getElem?_getD, hc]; rfl
  have hci : ci < 15 := (List.getElem?_eq_some_iff.mp hc).1
  have hnm := cls_nm ci hci
  have hty := cls_ty ci hci
  rw [hg] at hfin hd hnm hty hC
  dsimp only at hfin hd hnm hty hC
  refine va_putF hx hb hts hin (fun a => (parseFieldDescriptor (T a).2.2.1).getD .int) (fun a ha => ?_) hnm hown hK hQ wq_D hS k (wq_at he) hc j hj (hts _ hlk) (fun x hx2 => by rw [hC2] at hx2; exact hx2) hfin hmn (hC2.trans hC) hd hn hfit hl hdg (fun H1 locs1 hP _ hS1 => kk H1 locs1 (by rw [wq_set] at hP; exact hP) hS1)
  have h2 := hty a ha
  cases h3 : parseFieldDescriptor (T a).2.2.1 with
  | none => rw [h3] at h2; cases h2
  | some z => rfl
theorem q_put (X : Cx p s m args c cc nL own G (bs + 16) cy) (hQ : va_P G vwCl (wq bs es) H) (hS : va_S (Aw bs) s.heap H locs) {index ci j : Nat} (hF : FI own index ci j) {fs : List Value} (he : es[k]? = some (.inr (ci, fs))) {v : Value} {ty : FieldType}
    (hfin : ((vwCl.getD ci ("", TX0, 0)).2.1 j).2.2.2 = false) (hd : parseFieldDescriptor ((vwCl.getD ci ("", TX0, 0)).2.1 j).2.2.1 = some ty) (hn : narrow ty v = v) (hfit : fits ty v = true) (hl : j < fs.length) (hdg : decode cc pc = .ok (.putfield index, 3))
    (kk : ∀ (H1 : Heap) (locs1 : List Loc), va_P G vwCl (wq bs (es.set k (.inr (ci, fs.set j v)))) H1 → va_S (Aw bs) s.heap H1 locs1 → W p l e Rm s m args below meth c H1 locs1 cells slots Q (F0 m (pc + 3) ls rest)) : W p l e Rm s m args below meth c H locs cells slots Q (F0 m pc ls (v :: .ref (bs + k) :: rest)) := by
  obtain ⟨hx, hb, hml, hown, hts, hK, -⟩ := X
  obtain ⟨C, T, N, hc, hC2, hj, hin, hlk⟩ := hF
  have hg : vwCl.getD ci ("", TX0, 0) = (C, T, N) := by rw [List.getD_eq_getElem?_getD, hc]; rfl
  have hci : ci < 15 := (List.getElem?_eq_some_iff.mp hc).1
  have hnm := cls_nm ci hci
  have hty := cls_ty ci hci
  rw [hg] at hfin hd hnm hty
  dsimp only at hfin hd hnm hty
  refine va_put hx hb hts hin (fun a => (parseFieldDescriptor (T a).2.2.1).getD .int) (fun a ha => ?_) hnm hown hK hQ wq_D hS k (wq_at he) hc j hj (hts _ hlk) (fun x hx2 => by rw [hC2] at hx2; exact hx2) hfin hd hn hfit hl hdg (fun H1 locs1 hP _ hS1 => kk H1 locs1 (by rw [wq_set] at hP; exact hP) hS1)
  have h2 := hty a ha
  cases h3 : parseFieldDescriptor (T a).2.2.1 with
  | none => rw [h3] at h2; cases h2
  | some z => rfl
end QQ
