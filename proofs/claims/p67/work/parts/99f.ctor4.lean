/-! constructors: arrays, fields read, resets -/
theorem set_self {es : List va_E} {k : Nat} {e : va_E} (h : es[k]? = some e) : es.set k e = es := by
  apply List.ext_getElem?
  intro j
  rw [List.getElem?_set]
  by_cases hj : k = j
  · subst hj
    have hk := (List.getElem?_eq_some_iff.mp h).1
    rw [if_pos rfl, if_pos hk, h]
  · rw [if_neg hj]
section Q4
variable {p : Program} {l : Launch} {e : Env} {Rm : Room} {s : State} {m : MethodId} {args : Array Value} {below : List Frame} {meth : Method} {c : Code} {H : Heap} {locs : List Loc} {cells slots : Nat} {Q : State → Prop}
variable {cc : ByteArray} {pc nL : Nat} {ls : Array Slot} {rest : List Value} {own : String} {G : va_G} {bs : Nat} {cy : Nat → ClassId} {es es' : List va_E} {k : Nat}
theorem q_get (X : Cx p s m args c cc nL own G (bs + 16) cy) (hQ : va_P G vwCl (wq bs es) H) {index ci j : Nat} (hF : FI own index ci j) {fs : List Value} (he : es[k]? = some (.inr (ci, fs))) {v : Value} (hv : fs[j]? = some v) (hdg : decode cc pc = .ok (.getfield index, 3))
    (kk : W p l e Rm s m args below meth c H locs cells slots Q (F0 m (pc + 3) ls (v :: rest))) : W p l e Rm s m args below meth c H locs cells slots Q (F0 m pc ls (.ref (bs + k) :: rest)) := by
  obtain ⟨hx, hb, hml, hown, hts, hK, -⟩ := X
  obtain ⟨C, T, N, hc, hC, hj, hin, hl⟩ := hF
  exact va_get hx hb hts hin hown hK hQ k (wq_at he) hc j hj (hts _ hl) (fun x hx2 => by rw [hC] at hx2; exact hx2) hv hdg kk
theorem q_alen (X : Cx p s m args c cc nL own G (bs + 16) cy) (hQ : va_P G vwCl (wq bs es) H) {n : Nat} {f : Nat → Int32} (he : es[k]? = some (.inl (cy 0, n, .inl f))) (hdg : decode cc pc = .ok (.arraylength, 1))
    (kk : W p l e Rm s m args below meth c H locs cells slots Q (F0 m (pc + 1) ls (.int (nI n) :: rest))) : W p l e Rm s m args below meth c H locs cells slots Q (F0 m pc ls (.ref (bs + k) :: rest)) :=
  va_alen X.1 X.2.1 X.2.2.2.2.2.1 hQ k 0 (wq_at he) rfl rfl hdg kk
theorem q_ast (X : Cx p s m args c cc nL own G (bs + 16) cy) (hQ : va_P G vwCl (wq bs es) H) (hS : va_S (Aw bs) s.heap H locs) {n : Nat} {f : Nat → Int32} (he : es[k]? = some (.inl (cy 0, n, .inl f))) {j : Nat} (hj : j < n) (hn : n < 2 ^ 31) {v : Int32} (hdg : decode cc pc = .ok (.iastore, 1))
    (kk : ∀ (H1 : Heap) (locs1 : List Loc), va_P G vwCl (wq bs (es.set k (.inl (cy 0, n, .inl (upd f j v))))) H1 → va_S (Aw bs) s.heap H1 locs1 → W p l e Rm s m args below meth c H1 locs1 cells slots Q (F0 m (pc + 1) ls rest)) : W p l e Rm s m args below meth c H locs cells slots Q (F0 m pc ls (.int v :: .int (nI j) :: .ref (bs + k) :: rest)) := by
  refine va_iast X.1 X.2.1 X.2.2.2.2.2.1 hQ wq_D hS k 0 (wq_at he) rfl (vp_in_nI hj hn) hdg (fun H1 locs1 hP _ hS1 => kk H1 locs1 ?_ hS1)
  rw [nI_clamp (by omega), wq_set] at hP
  exact hP
theorem callQS (X : Cx p s m args c cc nL own G (bs + 16) cy) (hQ : va_P G vwCl (wq bs es) H) (hS : va_S (Aw bs) s.heap H locs) (hsz : s.heap.size + cells = bs + es.length) (hne : es ≠ []) {n : Nat} (hR : RmOK Rm n) {μ : MI} {n' : Nat} {As : List Value} (hM : MTq l G bs cy μ n' 0 0 As es es') (hn : n' + 1 ≤ n) {C : String} {na idx : Nat} (hu : US μ C na) (hl : Cond.methodLink own idx μ.1 ∈ wsL_law)
    (hA : As.length = na) {st0 : List Value} (hst : st0 = As.reverse ++ rest) (hrest : (rest.map fun v => v.category).sum ≤ 8) {lv : List (Nat × Value)} (hl2 : lv_has ls nL lv) (hcs : cells ≤ Rm.cells ∧ slots ≤ Rm.slots) (hdg : decode cc pc = .ok (.invokestatic idx, 3))
    (kk : ∀ (H1 : Heap) (locs1 : List Loc), va_P G vwCl (wq bs es') H1 → va_S (Aw bs) s.heap H1 locs1 → W p l e Rm s m args below meth c H1 locs1 cells slots Q (F0 m (pc + 3) ls rest)) : W p l e Rm s m args below meth c H locs cells slots Q (F0 m pc ls st0) := by
  refine W.size9 (fun hz => ?_)
  have hsize := q_size hQ hS hsz hne hz
  obtain ⟨hx, hb, hml, hown, hts, hK, hE⟩ := id X
  subst hst
  exact va_callv (va_runS (As := As) (rest := rest) ⟨hx, hb, hml, hown, hts⟩ hM (cw_US hts hu hl hR hn) ⟨PcQ_blind, fun U hU hW2 => ⟨rfl, by rw [hU]; exact hQ, by rw [hU]; exact hsize, va_K.moved hW2.alike hK, by rw [hU]; exact hE.tow hW2 hS.2.1⟩⟩ rfl hA hl2.1 rfl (lv_room hrest) hdg hcs) hS (fun q _ h => h) (fun q h => h)
    (fun u t H1 locs1 ht hvm hp hB hz hk1 hS1 => kk H1 locs1 (by rw [← ht]; exact hB) hS1)
theorem callQV (X : Cx p s m args c cc nL own G (bs + 16) cy) (hQ : va_P G vwCl (wq bs es) H) (hS : va_S (Aw bs) s.heap H locs) (hsz : s.heap.size + cells = bs + es.length) (hne : es ≠ []) {n : Nat} (hR : RmOK Rm n) {μ : MI} {n' : Nat} {As : List Value} (hM : MTq l G bs cy μ n' 0 0 (.ref (bs + k) :: As) es es') (hn : n' + 1 ≤ n) {C : String} {na ci idx : Nat} {fs : List Value} {T : u_T} {N : Nat} (hu : UV μ C na) (hl : Cond.methodLink own idx μ.1 ∈ wsL_law)
    (he : es[k]? = some (.inr (ci, fs))) (hC : vwCl[ci]? = some (C, T, N)) (hA : As.length = na) {st0 : List Value} (hst : st0 = As.reverse ++ .ref (bs + k) :: rest) (hrest : (rest.map fun v => v.category).sum ≤ 8) {lv : List (Nat × Value)} (hl2 : lv_has ls nL lv) (hcs : cells ≤ Rm.cells ∧ slots ≤ Rm.slots) (hdg : decode cc pc = .ok (.invokevirtual idx, 3))
    (kk : ∀ (H1 : Heap) (locs1 : List Loc), va_P G vwCl (wq bs es') H1 → va_S (Aw bs) s.heap H1 locs1 → W p l e Rm s m args below meth c H1 locs1 cells slots Q (F0 m (pc + 3) ls rest)) : W p l e Rm s m args below meth c H locs cells slots Q (F0 m pc ls st0) := by
  refine W.size9 (fun hz => ?_)
  have hsize := q_size hQ hS hsz hne hz
  obtain ⟨hx, hb, hml, hown, hts, hK, hE⟩ := id X
  subst hst
  exact va_callv (va_runV (As := As) (rest := rest) ⟨hx, hb, hml, hown, hts⟩ hM (cw_UV hts hu hl hR hn) ⟨PcQ_blind, va_recv hK hQ hC (wq_at he), fun U hU hW2 => ⟨rfl, by rw [hU]; exact hQ, by rw [hU]; exact hsize, va_K.moved hW2.alike hK, by rw [hU]; exact hE.tow hW2 hS.2.1⟩⟩ rfl hA hl2.1 rfl (lv_room hrest) hdg hcs) hS (fun q _ h => h) (fun q h => h)
    (fun u t H1 locs1 ht hvm hp hB hz hk1 hS1 => kk H1 locs1 (by rw [← ht]; exact hB) hS1)
end Q4
set_option maxHeartbeats 1000000 in
set_option maxRecDepth 100000 in
theorem i_fill {l : Launch} {G : va_G} {bs : Nat} {cy : Nat → ClassId} (es : List va_E) (k n : Nat) (f : Nat → Int32) (v : Int32) (he : es[k]? = some (.inl (cy 0, n, .inl f))) (hn : n < 100000) : MTq l G bs cy MJ7_fill_53178 1 0 0 [.ref (bs + k), .int v] es (es.set k (.inl (cy 0, n, .inl (flR f v n)))) := by
  have hkl := (List.getElem?_eq_some_iff.mp he).1
  refine MTq.of (own := RJ7) pn_RJ7 rfl (Nat.le_of_ble_eq_true rfl) ?_
  intro p e s m args below meth c Qf X hW hS hsz hmn fin ls hl
  have hx := X.1
  have hb := X.2.1
  have hl : lv_has ls 4 [(0, .ref (bs + k)), (1, .int v)] := hl
  refine n_iconst (a := 0) hx hb (dg D_J7_fill_53178 (i := 0) rfl) rfl ?_
  refine lv_istore_n (lv' := [(2, .int (nI 0)), (0, .ref (bs + k)), (1, .int v)]) hx hb (dg D_J7_fill_53178 (i := 1) rfl) rfl hl (by decide) rfl (fun ls hl => ?_)
  refine lv_aload_n hx hb (dg D_J7_fill_53178 (i := 2) rfl) rfl (lv_at hl 1 rfl) ?_
  refine q_alen X hW he (dg D_J7_fill_53178 (i := 3) rfl) ?_
  refine lv_istore_n (lv' := [(3, .int (nI n)), (2, .int (nI 0)), (0, .ref (bs + k)), (1, .int v)]) hx hb (dg D_J7_fill_53178 (i := 4) rfl) rfl hl (by decide) rfl (fun ls hl => ?_)
  have loop5 := up_ind (P := fun i => ∀ (H : Heap) (locs : List Loc) (ls : Array Slot) (v2 : Int32), v2 = nI i → va_P G vwCl (wq bs (es.set k (.inl (cy 0, n, .inl (flR f v i))))) H → va_S (Aw bs) s.heap H locs → lv_has ls 4 [(0, .ref (bs + k)), (1, .int v), (2, .int v2), (3, .int (nI n))] → W p l e (rmL 1 0 0) s m args below meth c H locs 0 0 Qf (F0 m 5 ls [])) n (fun i hx5 ih5 => by
      intro H locs ls v2 q2 hW hS hl
      subst q2
      have he2 : (es.set k (.inl (cy 0, n, .inl (flR f v i))))[k]? = some (.inl (cy 0, n, .inl (flR f v i))) := by rw [List.getElem?_set, if_pos rfl, if_pos hkl]
      refine lv_iload_n hx hb (dg D_J7_fill_53178 (i := 5) rfl) rfl (lv_at hl 2 rfl) ?_
      refine lv_iload_n hx hb (dg D_J7_fill_53178 (i := 6) rfl) rfl (lv_at hl 3 rfl) ?_
      refine n_icmp_ge (tgt := 20) hx hb (by omega) (by omega) (dg D_J7_fill_53178 (i := 7) rfl) (by decide) (fun c7 => ?_) (fun c7 => ?_)
      · refine fin (dg D_J7_fill_53178 (i := 14) rfl) (Nat.le_refl _) (Nat.le_refl _) ?_ hS
        rw [show n = i by omega] at hW ⊢
        exact hW
      · refine lv_aload_n hx hb (dg D_J7_fill_53178 (i := 8) rfl) rfl (lv_at hl 0 rfl) ?_
        refine lv_iload_n hx hb (dg D_J7_fill_53178 (i := 9) rfl) rfl (lv_at hl 2 rfl) ?_
        refine lv_iload_n hx hb (dg D_J7_fill_53178 (i := 10) rfl) rfl (lv_at hl 1 rfl) ?_
        refine q_ast (j := i) (v := v) X hW hS he2 (by omega) (by omega) (dg D_J7_fill_53178 (i := 11) rfl) (fun H locs hW hS => ?_)
        rw [List.set_set, flR_s] at hW
        refine lv_iinc (v := nI (i + 1)) (lv' := [(2, .int (nI (i + 1))), (0, .ref (bs + k)), (1, .int v), (3, .int (nI n))]) hx hb (dg D_J7_fill_53178 (i := 12) rfl) hl (k := 2) rfl (nI_add _ _) (by decide) rfl (fun ls hl => ?_)
        refine lv_goto (tgt := 5) hx hb (dg D_J7_fill_53178 (i := 13) rfl) (by decide) ?_
        exact ih5 (by omega) _ _ _ _ (congrArg nI (by omega)) hW hS (lv_sub hl [1, 2, 0, 3] rfl))
  exact loop5 0 (Nat.zero_le _) _ _ _ _ (congrArg nI (by omega)) (by rw [flR_0, set_self he]; exact hW) hS (lv_sub hl [2, 3, 1, 0] rfl)
