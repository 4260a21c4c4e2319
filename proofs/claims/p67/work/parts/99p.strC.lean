/-! fields and arrays of texts -/
abbrev obB (v n : Nat) : va_E := .inr (14, [.ref v, .int (nI 0), .int (nI 0), .int (nI n)])
abbrev arB (cy : Nat → ClassId) (m : Nat) (a : Nat → Int32) : va_E := .inl (cy 1, m, .inl a)
abbrev wB (cy : Nat → ClassId) (q v m n : Nat) (a : Nat → Int32) : va_W := [(q, obB v n), (v, arB cy m a)]
/-- what an array of m bytes holds: the letters l first, each a byte -/
def BT (a : Nat → Int32) (m : Nat) (l : List Nat) : Prop := l.length ≤ m ∧ (∀ j, j < l.length → a j = nI (l.getD j 0)) ∧ (∀ j, fits .byte (.int (a j)) = true) ∧ ∀ z ∈ l, z < 128
section JF
variable {p : Program} {l : Launch} {e : Env} {Rm : Room} {s : State} {m : MethodId} {args : Array Value} {below : List Frame} {meth : Method} {c : Code} {H : Heap} {locs : List Loc} {cells slots : Nat} {Q : State → Prop}
variable {cc : ByteArray} {pc nL : Nat} {ls : Array Slot} {rest : List Value} {own : String} {G : va_G} {bs : Nat} {cy : Nat → ClassId} {A A' : Nat → Prop} {ws ws' : va_W} {H0 : Heap}
theorem j_getB (X : Cx p s m args c cc nL own G bs cy) (hP : va_P G vwCl ws H) {i q j idx : Nat} {fs : List Value} {v : Value} (he : ws[i]? = some (q, .inr (14, fs))) (hF : FB own idx j) (hv : fs[j]? = some v) (hdg : decode cc pc = .ok (.getfield idx, 3))
    (kk : W p l e Rm s m args below meth c H locs cells slots Q (F0 m (pc + 3) ls (v :: rest))) : W p l e Rm s m args below meth c H locs cells slots Q (F0 m pc ls (.ref q :: rest)) := by
  obtain ⟨hx, hb, hml, hown, hts, hK, hE⟩ := X
  exact va_get (ref := (TJ4 j).1) hx hb hts inlJ4 hown hK hP i he rfl j hF.2 (hts _ hF.1) (fun _ h => h) hv hdg kk
theorem nmJ4' : ∀ a, a < 4 → ∀ b, b < 4 → a ≠ b → (TJ4 a).2.1 ≠ (TJ4 b).2.1 := by decide +kernel
theorem nmJ0' : ∀ a, a < 4 → ∀ b, b < 4 → a ≠ b → (TJ0 a).2.1 ≠ (TJ0 b).2.1 := by decide +kernel
theorem j_putB (X : Cx p s m args c cc nL own G bs cy) (hP : va_P G vwCl ws H) (hD : va_D A ws) (hS : va_S A H0 H locs) {i q j idx : Nat} {fs : List Value} {v : Value} {ty : FieldType} (he : ws[i]? = some (q, .inr (14, fs))) (hF : FB own idx j) (hl4 : fs.length = 4) (hfin : (TJ4 j).2.2.2 = false) (hd : parseFieldDescriptor (TJ4 j).2.2.1 = some ty) (hn : narrow ty v = v) (hfit : fits ty v = true) (hdg : decode cc pc = .ok (.putfield idx, 3))
    (kk : ∀ (H1 : Heap) (locs1 : List Loc), va_P G vwCl (ws.set i (q, .inr (14, fs.set j v))) H1 → va_D A (ws.set i (q, .inr (14, fs.set j v))) → va_S A H0 H1 locs1 → W p l e Rm s m args below meth c H1 locs1 cells slots Q (F0 m (pc + 3) ls rest)) : W p l e Rm s m args below meth c H locs cells slots Q (F0 m pc ls (v :: .ref q :: rest)) := by
  obtain ⟨hx, hb, hml, hown, hts, hK, hE⟩ := X
  exact va_put (ref := (TJ4 j).1) hx hb hts inlJ4 tyJ4 tyJ4_ok nmJ4' hown hK hP hD hS i he rfl j hF.2 (hts _ hF.1) (fun _ h => h) hfin hd hn hfit (by rw [hl4]; exact hF.2) hdg kk
theorem j_putS (X : Cx p s m args c cc nL RJ0 G bs cy) (hmn : meth.name = "<init>") (hP : va_P G vwCl ws H) (hD : va_D A ws) (hS : va_S A H0 H locs) {i q j idx : Nat} {fs : List Value} {v : Value} {ty : FieldType} (he : ws[i]? = some (q, .inr (13, fs))) (hF : FI RJ0 idx 13 j) (hl4 : fs.length = 4) (hj : j < 4) (hfin : (TJ0 j).2.2.2 = true) (hd : parseFieldDescriptor (TJ0 j).2.2.1 = some ty) (hn : narrow ty v = v) (hfit : fits ty v = true) (hdg : decode cc pc = .ok (.putfield idx, 3))
    (kk : ∀ (H1 : Heap) (locs1 : List Loc), va_P G vwCl (ws.set i (q, .inr (13, fs.set j v))) H1 → va_D A (ws.set i (q, .inr (13, fs.set j v))) → va_S A H0 H1 locs1 → W p l e Rm s m args below meth c H1 locs1 cells slots Q (F0 m (pc + 3) ls rest)) : W p l e Rm s m args below meth c H locs cells slots Q (F0 m pc ls (v :: .ref q :: rest)) := by
  obtain ⟨hx, hb, hml, hown, hts, hK, hE⟩ := X
  obtain ⟨C, T, N, hc, hC, hj', hin, hl⟩ := hF
  cases hc
  exact va_putF (ref := RJ0) hx hb hts hin tyJ0 tyJ0_ok nmJ0' hown hK hP hD hS i he rfl j hj (hts _ hl) (fun x h => by rw [hC] at h; exact h) hfin hmn hC hd hn hfit (by rw [hl4]; exact hj) hdg kk
theorem j_getTv (X : Cx p s m args c cc nL RJ0 G bs cy) (hS : va_S A s.heap H locs) {x : SD} (hx9 : SLt A s s.heap x) (hdg : decode cc pc = .ok (.getfield 9, 3))
    (kk : W p l e Rm s m args below meth c H locs cells slots Q (F0 m (pc + 3) ls (.ref x.2.1 :: rest))) : W p l e Rm s m args below meth c H locs cells slots Q (F0 m pc ls (.ref x.1 :: rest)) := by
  obtain ⟨hx, hb, hml, hown, hts, hK, hE⟩ := X
  obtain ⟨C, T, N, hc, hC, hj', hin, hl⟩ := FI_J0_9
  cases hc
  exact vk_getf hx hb hx9.2.2.1 hS hown (hts _ hl) (fun _ h => h) hdg kk
theorem j_getTc (X : Cx p s m args c cc nL RJ0 G bs cy) (hS : va_S A s.heap H locs) {x : SD} (hx9 : SLt A s s.heap x) (hdg : decode cc pc = .ok (.getfield 15, 3))
    (kk : W p l e Rm s m args below meth c H locs cells slots Q (F0 m (pc + 3) ls (.int (nI 0) :: rest))) : W p l e Rm s m args below meth c H locs cells slots Q (F0 m pc ls (.ref x.1 :: rest)) := by
  obtain ⟨hx, hb, hml, hown, hts, hK, hE⟩ := X
  obtain ⟨C, T, N, hc, hC, hj', hin, hl⟩ := FI_J0_15
  cases hc
  exact vk_getf hx hb hx9.2.1 hS hown (hts _ hl) (fun _ h => h) hdg kk
theorem j_tlen (X : Cx p s m args c cc nL own G bs cy) (hS : va_S A s.heap H locs) {x : SD} (hx9 : SLt A s s.heap x) (hdg : decode cc pc = .ok (.arraylength, 1))
    (kk : W p l e Rm s m args below meth c H locs cells slots Q (F0 m (pc + 1) ls (.int (nI x.2.2.length) :: rest))) : W p l e Rm s m args below meth c H locs cells slots Q (F0 m pc ls (.ref x.2.1 :: rest)) := va_tlen X.1 X.2.1 hx9.2.2.2.1 hS rfl hdg kk
theorem j_tald (X : Cx p s m args c cc nL own G bs cy) (hS : va_S A s.heap H locs) {x : SD} (hx9 : SLt A s s.heap x) {j : Nat} (hj : j < x.2.2.length) (hdg : decode cc pc = .ok (.baload, 1))
    (kk : W p l e Rm s m args below meth c H locs cells slots Q (F0 m (pc + 1) ls (.int (nI (x.2.2.getD j 0)) :: rest))) : W p l e Rm s m args below meth c H locs cells slots Q (F0 m pc ls (.int (nI j) :: .ref x.2.1 :: rest)) := by
  have h9 := hx9.2.2.2.2.2
  exact va_tb X.1 X.2.1 hx9.2.2.2.1 hS (vp_in_nI hj (by omega)) (by rw [nI_clamp (by omega)]) hdg kk
theorem j_alen (X : Cx p s m args c cc nL own G bs cy) (hP : va_P G vwCl ws H) {i v m9 : Nat} {a : Nat → Int32} (he : ws[i]? = some (v, arB cy m9 a)) (hdg : decode cc pc = .ok (.arraylength, 1))
    (kk : W p l e Rm s m args below meth c H locs cells slots Q (F0 m (pc + 1) ls (.int (nI m9) :: rest))) : W p l e Rm s m args below meth c H locs cells slots Q (F0 m pc ls (.ref v :: rest)) := va_alen X.1 X.2.1 X.2.2.2.2.2.1 hP i 1 he (show (tyLs cy)[1]? = some (cy 1, .byte) from rfl) rfl hdg kk
theorem j_bast (X : Cx p s m args c cc nL own G bs cy) (hP : va_P G vwCl ws H) (hD : va_D A ws) (hS : va_S A H0 H locs) {i v m9 j : Nat} {a : Nat → Int32} {x b : Int32} (he : ws[i]? = some (v, arB cy m9 a)) (hj : j < m9) (hm : m9 ≤ 65536) (hb9 : vp_nar .byte x = b) (hdg : decode cc pc = .ok (.bastore, 1))
    (kk : ∀ (H1 : Heap) (locs1 : List Loc), va_P G vwCl (ws.set i (v, arB cy m9 (upd a j b))) H1 → va_D A (ws.set i (v, arB cy m9 (upd a j b))) → va_S A H0 H1 locs1 → W p l e Rm s m args below meth c H1 locs1 cells slots Q (F0 m (pc + 1) ls rest)) : W p l e Rm s m args below meth c H locs cells slots Q (F0 m pc ls (.int x :: .int (nI j) :: .ref v :: rest)) := by
  subst hb9
  refine va_bast X.1 X.2.1 X.2.2.2.2.2.1 hP hD hS i 1 he (show (tyLs cy)[1]? = some (cy 1, .byte) from rfl) (vp_in_nI hj (by omega)) hdg (fun H1 locs1 h1 h2 h3 => kk H1 locs1 ?_ ?_ h3)
  · rw [nI_clamp (by omega)] at h1; exact h1
  · rw [nI_clamp (by omega)] at h2; exact h2
theorem j_cs (X : Cx p s m args c cc nL own G bs cy) (hAg : ∀ z, A z → Ag bs z) (hS : va_S A s.heap H locs) {idx : Nat} (hl : Cond.fieldLink own idx "java/lang/String" "COMPACT_STRINGS" "Z" ∈ wsL_law) (hdg : decode cc pc = .ok (.getstatic idx, 3))
    (kk : W p l e Rm s m args below meth c H locs cells slots Q (F0 m (pc + 3) ls (.int (nI 1) :: rest))) : W p l e Rm s m args below meth c H locs cells slots Q (F0 m pc ls rest) := by
  obtain ⟨hx, hb, hml, hown, hts, hK, hE⟩ := X
  exact va_gets hx hb (hE.2.2.2.2.2.2.1.narrow hAg) hS hown (hts _ hl) (fun _ h => h) hdg kk
theorem j_fm (X : Cx p s m args c cc nL RJ0 G bs cy) (hAg : ∀ z, A z → Ag bs z) (hS : va_S A s.heap H locs) (hdg : decode cc pc = .ok (.getstatic 1053, 3))
    (kk : ∀ v : Value, (v = .null ∨ ∃ t, v = .ref t) → W p l e Rm s m args below meth c H locs cells slots Q (F0 m (pc + 3) ls (v :: rest))) : W p l e Rm s m args below meth c H locs cells slots Q (F0 m pc ls rest) := by
  obtain ⟨hx, hb, hml, hown, hts, hK, hE⟩ := X
  rcases hE.2.2.2.2.2.2.2.1 with hz | ⟨t9, hz⟩
  · exact va_gets hx hb (hz.narrow hAg) hS hown (hts _ CS_J0_1053) (fun _ h => h) hdg (kk _ (Or.inl rfl))
  · exact va_gets hx hb (hz.narrow hAg) hS hown (hts _ CS_J0_1053) (fun _ h => h) hdg (kk _ (Or.inr ⟨t9, rfl⟩))
theorem j_dig1 (X : Cx p s m args c cc nL RJ6 G bs cy) (hAg : ∀ z, A z → Ag bs z) (hS : va_S A s.heap H locs) (hdg : decode cc pc = .ok (.getstatic 83, 3))
    (kk : W p l e Rm s m args below meth c H locs cells slots Q (F0 m (pc + 3) ls (.ref (cy 60) :: rest))) : W p l e Rm s m args below meth c H locs cells slots Q (F0 m pc ls rest) := by
  obtain ⟨hx, hb, hml, hown, hts, hK, hE⟩ := X
  exact va_gets hx hb (hE.2.2.2.2.2.2.2.2.1.narrow hAg) hS hown (hts _ CS_J6_83) (fun _ h => h) hdg kk
theorem j_dig2 (X : Cx p s m args c cc nL RJ6 G bs cy) (hAg : ∀ z, A z → Ag bs z) (hS : va_S A s.heap H locs) (hdg : decode cc pc = .ok (.getstatic 87, 3))
    (kk : W p l e Rm s m args below meth c H locs cells slots Q (F0 m (pc + 3) ls (.ref (cy 61) :: rest))) : W p l e Rm s m args below meth c H locs cells slots Q (F0 m pc ls rest) := by
  obtain ⟨hx, hb, hml, hown, hts, hK, hE⟩ := X
  exact va_gets hx hb (hE.2.2.2.2.2.2.2.2.2.1.narrow hAg) hS hown (hts _ CS_J6_87) (fun _ h => h) hdg kk
theorem j_dv1 (X : Cx p s m args c cc nL own G bs cy) (hAg : ∀ z, A z → Ag bs z) (hS : va_S A s.heap H locs) {j : Nat} (hj : j < 100) (hdg : decode cc pc = .ok (.baload, 1))
    (kk : W p l e Rm s m args below meth c H locs cells slots Q (F0 m (pc + 1) ls (.int (nI (48 + j % 10)) :: rest))) : W p l e Rm s m args below meth c H locs cells slots Q (F0 m pc ls (.int (nI j) :: .ref (cy 60) :: rest)) := by
  obtain ⟨hx, hb, hml, hown, hts, hK, hE⟩ := X
  exact va_tb hx hb (hE.2.2.2.2.2.2.2.2.2.2.1.narrow hAg) hS (vp_in_nI hj (by decide)) (by rw [nI_clamp (by omega)]) hdg kk
theorem j_dv2 (X : Cx p s m args c cc nL own G bs cy) (hAg : ∀ z, A z → Ag bs z) (hS : va_S A s.heap H locs) {j : Nat} (hj : j < 100) (hdg : decode cc pc = .ok (.baload, 1))
    (kk : W p l e Rm s m args below meth c H locs cells slots Q (F0 m (pc + 1) ls (.int (nI (48 + j / 10)) :: rest))) : W p l e Rm s m args below meth c H locs cells slots Q (F0 m pc ls (.int (nI j) :: .ref (cy 61) :: rest)) := by
  obtain ⟨hx, hb, hml, hown, hts, hK, hE⟩ := X
  exact va_tb hx hb (hE.2.2.2.2.2.2.2.2.2.2.2.1.narrow hAg) hS (vp_in_nI hj (by decide)) (by rw [nI_clamp (by omega)]) hdg kk
/-- a new row of bytes -/
theorem j_newb (X : Cx p s m args c cc nL own G bs cy) (hP : va_P G vwCl ws H) (hD : va_D A ws) (hS : va_S A s.heap H locs) (hAn : ∀ z, s.heap.size ≤ z → A z) {k : Nat} (hk : k ≤ 65536) (hcells : cells + 1 ≤ Rm.cells) (hslots : slots + k ≤ Rm.slots) (hdg : decode cc pc = .ok (.newarray .byte, 2))
    (kk : ∀ (q : Nat) (H1 : Heap), H.size ≤ q → va_P G vwCl (ws ++ [(q, arB cy k (fun _ => 0))]) H1 → va_D A (ws ++ [(q, arB cy k (fun _ => 0))]) → va_S A s.heap H1 locs → (∀ z, z < H.size → H1[z]? = H[z]?) → W p l e Rm s m args below meth c H1 locs (cells + 1) (slots + k) Q (F0 m (pc + 2) ls (.ref q :: rest))) : W p l e Rm s m args below meth c H locs cells slots Q (F0 m pc ls (.int (nI k) :: rest)) := by
  refine va_newaK (atype := .byte) X.1 X.2.1 (X.2.2.2.2.1 _ AC_byte) rfl hdg rfl (nI_nn (by omega)) (nI_clamp (by omega)) (by show k * 1 ≤ _; omega) hcells hslots rfl (fun H1 cA e1 z1 o1 hAr hNm => ?_)
  have ec : cy 1 = cA := Option.some.inj (((X.2.2.2.2.2.1.2 1 _ rfl).2 : s.vm.findClass _ = some (cy 1)).symm.trans hNm)
  subst ec
  have hkp : ∀ (k : Nat) (x : Nat × va_E), ws[k]? = some x → H1[x.1]? = H[x.1]? := fun k x hx => o1 x.1 ((hP k x hx).lt)
  refine kk H.size H1 (Nat.le_refl _) ((hP.kept hkp).app (fun k9 x hx => ?_)) (hD.push hP rfl (hAn _ hS.1)) ⟨Nat.le_trans hS.1 (by omega), fun x h1 h2 => (o1 x (Nat.lt_of_lt_of_le h1 hS.1)).trans (hS.2.1 x h1 h2), hS.2.2⟩ o1
  have hz : k9 < 1 := (List.getElem?_eq_some_iff.mp hx).1
  rw [show k9 = 0 by omega] at hx
  cases hx
  exact e1
/-- a row of bytes, as one that nothing changes -/
theorem arT (hK : va_K G vwCl (tyLs cy) s) {v m9 : Nat} {a : Nat → Int32} (hP : va_P G vwCl ws H) {i : Nat} (he : ws[i]? = some (v, arB cy m9 a)) (hA : ¬ A v) : va_T .byte v m9 (fun j => .int (a j)) A s H := by
  refine ⟨_, hP i _ he, (hK.2 1 _ rfl).1 m9 (fun j => .int (a j)), (by intro h; cases h), ?_, ?_, fun j hj => arrV_read _ _ hj, hA⟩
  · show m9 ≤ (arrV _ _ _).slots.size; rw [arrV_size]; exact Nat.le_refl _
  · show (arrV _ _ _).slots.size.toInt32 = _; rw [arrV_size]
end JF
