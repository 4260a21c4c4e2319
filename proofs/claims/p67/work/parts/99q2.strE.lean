/-! copies of bytes -/
theorem fitB : ∀ c, c < 128 → fits .byte (.int (nI c)) = true := by decide +kernel
theorem chr1 : ∀ c, c < 128 → (nI c &&& nI 255) = nI c := by decide +kernel
theorem chr2 : ∀ c, c < 128 → ((nI c).toUInt32 % 65536).toInt32 = nI c := by decide +kernel
theorem chr3 : ∀ c, c < 128 → narrow .char (.int (nI c)) = .int (nI c) := by decide +kernel
theorem chr4 : ∀ c, c < 128 → (nI c).toInt8.toInt32 = nI c := by decide +kernel
theorem chr5 : ∀ c, c < 128 → vp_nar .byte (nI c) = nI c := by decide +kernel
theorem getD_lt {l : List Nat} {j n : Nat} (h : ∀ z ∈ l, z < n) (h0 : 0 < n) : l.getD j 0 < n := by
  rw [List.getD_eq_getElem?_getD]
  cases e : l[j]? with
  | none => exact h0
  | some z => exact h z (List.mem_of_getElem? e)
theorem vD0 {A : Nat → Prop} : va_D A [] := ⟨fun i j p q h => by simp at h, fun k q h => by simp at h⟩
theorem vD1 {A : Nat → Prop} {v : Nat} {e : va_E} (h : A v) : va_D A [(v, e)] := by
  refine ⟨fun i j p q h1 h2 _ => ?_, fun k q h1 => ?_⟩
  · have e1 : i < 1 := (List.getElem?_eq_some_iff.mp h1).1
    have e2 : j < 1 := (List.getElem?_eq_some_iff.mp h2).1
    omega
  · have e1 : k < 1 := (List.getElem?_eq_some_iff.mp h1).1
    rw [show k = 0 by omega] at h1
    cases h1
    exact h
theorem vD2 {A : Nat → Prop} {q v : Nat} {e f : va_E} (hq : A q) (hv : A v) (hn : q ≠ v) : va_D A [(q, e), (v, f)] := by
  refine va_D.app (w1 := [(q, e)]) (vD1 hq) (vD1 hv) (fun i j p r h1 h2 => ?_)
  have e1 : i < 1 := (List.getElem?_eq_some_iff.mp h1).1
  have e2 : j < 1 := (List.getElem?_eq_some_iff.mp h2).1
  rw [show i = 0 by omega] at h1
  rw [show j = 0 by omega] at h2
  cases h1; cases h2
  exact hn
theorem vD2_ne {A : Nat → Prop} {q v : Nat} {e f : va_E} (h : va_D A [(q, e), (v, f)]) : q ≠ v ∧ A q ∧ A v := ⟨fun z => absurd (h.1 0 1 _ _ rfl rfl z) (by decide), h.2 0 _ rfl, h.2 1 _ rfl⟩
section JG
variable {p : Program} {l : Launch} {e : Env} {Rm : Room} {s : State} {m : MethodId} {args : Array Value} {below : List Frame} {meth : Method} {c : Code} {H : Heap} {locs : List Loc} {cells slots : Nat} {Q : State → Prop}
variable {cc : ByteArray} {pc nL : Nat} {ls : Array Slot} {rest : List Value} {own : String} {G : va_G} {bs : Nat} {cy : Nat → ClassId} {A A' : Nat → Prop} {ws ws' : va_W}
theorem j_copyT (X : Cx p s m args c cc nL own G bs cy) (hP : va_P G vwCl ws H) (hD : va_D A ws) (hS : va_S A s.heap H locs) {n : Nat} (hR : RmOK Rm n) (hn1 : 1 ≤ n) {idx : Nat} (hl : Cond.methodLink own idx arraycopyName ∈ wsL_law) {w n0 : Nat} {f : Nat → Int32} (hT : va_T .byte w n0 (fun j => .int (f j)) A s s.heap) (hf : ∀ j, j < n0 → fits .byte (.int (f j)) = true) {i v m9 : Nat} {a : Nat → Int32} (he : ws[i]? = some (v, arB cy m9 a)) {dp k : Nat} (hk0 : k ≤ n0) (hdp : dp + k ≤ m9) (hm : m9 ≤ 65536) (hn0 : n0 ≤ 65536)
    (hrest : (rest.map fun v => v.category).sum ≤ 8) {lv : List (Nat × Value)} (hl2 : lv_has ls nL lv) (hdg : decode cc pc = .ok (.invokestatic idx, 3))
    (kk : ∀ (H1 : Heap) (locs1 : List Loc), va_P G vwCl (ws.set i (v, arB cy m9 (va_cpy f a 0 dp k))) H1 → va_D A (ws.set i (v, arB cy m9 (va_cpy f a 0 dp k))) → va_S A s.heap H1 locs1 → W p l e Rm s m args below meth c H1 locs1 cells slots Q (F0 m (pc + 3) ls rest)) : W p l e Rm s m args below meth c H locs cells slots Q (F0 m pc ls (.int (nI k) :: .int (nI dp) :: .ref v :: .int (nI 0) :: .ref w :: rest)) := by
  obtain ⟨hx, hb, hml, hown, hts, hK, hE⟩ := X
  have e0 : (nI 0).toNatClampNeg = 0 := nI_clamp (by decide)
  have e1 : (nI dp).toNatClampNeg = dp := nI_clamp (by omega)
  have e2 : (nI k).toNatClampNeg = k := nI_clamp (by omega)
  refine vk_copyt hx hb (hml.trans hl2.1.symm) hown (hts _ hl) (hts _ WK_258) (hts _ WK_259) (hts _ WK_260) hK hP hD hS hT i 1 he (show (tyLs cy)[1]? = some (cy 1, .byte) from rfl) (nI_nn (by decide)) (nI_nn (by omega)) (nI_nn (by omega)) (by rw [e0, e2]; omega) (by rw [e1, e2]; exact hdp) (fun j hj => by rw [e2] at hj; rw [e0]; exact hf _ (by omega)) (by rw [hR.1]; exact hn1) (by rw [hR.2, nfw]; omega) hdg (fun H1 locs1 h1 h2 h3 => kk H1 locs1 ?_ ?_ h3)
  · rw [e0, e1, e2] at h1; exact h1
  · rw [e0, e1, e2] at h2; exact h2
theorem j_obj (X : Cx p s m args c cc nL own G bs cy) {idx : Nat} (hl : Cond.methodLink own idx objectInit ∈ wsL_law) {a : Addr} {lv : List (Nat × Value)} (hl2 : lv_has ls nL lv) (hfr : 1 ≤ Rm.frames) (hlo : (rest.map fun v => v.category).sum + 12 ≤ Rm.locals) (hdg : decode cc pc = .ok (.invokespecial idx, 3))
    (kk : W p l e Rm s m args below meth c H locs cells slots Q (F0 m (pc + 3) ls rest)) : W p l e Rm s m args below meth c H locs cells slots Q (F0 m pc ls (.ref a :: rest)) := by
  obtain ⟨hx, hb, hml, hown, hts, hK, -⟩ := X
  refine W.objInit hx hb hown (hts _ hl) (hts _ OI_1) (hts _ OI_2) rfl (by rw [hml]; exact hl2.1) rfl hdg hfr (by simpa using hlo) ?_
  exact W.eq (g2 := F0 m (pc + 3) ls rest) rfl kk
end JG
