/-! constructors: the rows of the history -/
theorem CL_rows : Cond.classLink RX2 13 ("[" ++ (FieldType.array .int).toString) ∈ wsL_law := inR_4 _ (List.mem_of_getElem? (i := 18) rfl)
theorem CL_rowsL : Cond.classLink RL 37 ("[" ++ (FieldType.array .int).toString) ∈ wsL_law := inR_2 _ (List.mem_of_getElem? (i := 3) rfl)
def rowsE (bs a : Nat) (cy : Nat → ClassId) : va_E := .inl (cy 4, 16, .inr (.inr (.inr (.inr (fun j => some (bs + a + j))))))
def rowsEL (bs a : Nat) (cy : Nat → ClassId) : va_E := .inl (cy 4, 5, .inr (.inr (.inr (.inr (fun j => some (bs + a + j))))))
theorem inner_arr {c : ClassId} {M : Nat} {v : Value} : Jvm.Free.Multi.innerC c M v = arrV c M (fun _ => v) := by
  unfold Jvm.Free.Multi.innerC arrV
  congr 1
  apply Array.ext
  · simp
  · intro j h1 h2
    simp
section PM
variable {p : Program} {l : Launch} {e : Env} {Rm : Room} {s : State} {m : MethodId} {args : Array Value} {below : List Frame} {meth : Method} {c : Code} {H : Heap} {locs : List Loc} {cells slots : Nat} {Q : State → Prop}
variable {cc : ByteArray} {pc nL : Nat} {ls : Array Slot} {rest : List Value} {own : String} {G : va_G} {bs : Nat} {cy : Nat → ClassId} {pre lc : List va_E} {k0 i : Nat}
set_option maxHeartbeats 1000000 in
theorem p_mna (X : Cx p s m args c cc nL own G (bs + 16) cy) (hk : pre.length = k0) (hQ : Wc G bs pre lc H) (hS : va_S (Aw bs) s.heap H locs) (hsz : s.heap.size + cells = bs + (k0 + lc.length)) (hb0 : bs ≤ s.heap.size) (hne : pre ++ lc ≠ []) (hov : va_AOA .int s) {index : Nat} (hcl : Cond.classLink own index ("[" ++ (FieldType.array .int).toString) ∈ wsL_law) (hcells : cells + (1 + 16) ≤ Rm.cells) (hslots : slots + (16 + 16 * 186) ≤ Rm.slots) (hi : lc.length = i) (hdg : decode cc pc = .ok (.multianewarray index 2, 4))
    (kk : ∀ (H1 : Heap), Wc G bs pre (lc ++ rowsE bs (k0 + i + 1) cy :: List.replicate 16 (arE cy 0 186)) H1 → va_S (Aw bs) s.heap H1 locs → s.heap.size + (cells + 1 + 16) = bs + (k0 + (lc ++ rowsE bs (k0 + i + 1) cy :: List.replicate 16 (arE cy 0 186)).length) → W p l e Rm s m args below meth c H1 locs (cells + 1 + 16) (slots + 16 + 16 * 186) Q (F0 m (pc + 4) ls (.ref (bs + (k0 + i)) :: rest))) : W p l e Rm s m args below meth c H locs cells slots Q (F0 m pc ls (.int (nI 186) :: .int (nI 16) :: rest)) := by
  refine W.size9 (fun hz => ?_)
  subst hi
  have hsize : H.size = bs + (k0 + lc.length) := by
    have h := q_size hQ hS (by rw [List.length_append, hk]; exact hsz) hne hz
    rw [List.length_append, hk] at h
    exact h
  obtain ⟨hx, hb, hml, hown, hts, hK, -⟩ := X
  intro T hT Xs
  have n16 : (nI 16).toNatClampNeg = 16 := by decide
  have n186 : (nI 186).toNatClampNeg = 186 := by decide
  obtain ⟨vm₁, cA, comp, -, fA, fC, hO, -, X', step⟩ := Xs.multianewarray2F (ty := .int) hx hown (hts _ hcl) (va_AOA.use hov) (hts _ AC_int) (g := F0 m pc ls (.int (nI 186) :: .int (nI 16) :: rest)) rfl (by rw [hb]; exact hdg) rfl (by decide) (by decide) (by decide) (by decide) (by decide) rfl rfl (by rw [n16]; exact hcells) (by rw [n16, n186]; exact hslots)
  rw [n16, n186] at X' step
  have ec : cy 0 = comp := Option.some.inj (((hK.2 0 _ rfl).2 : s.vm.findClass _ = some (cy 0)).symm.trans fC)
  have ea : cy 4 = cA := Option.some.inj (((hK.2 4 _ rfl).2 : s.vm.findClass _ = some (cy 4)).symm.trans fA)
  subst ec
  subst ea
  generalize hF : Jvm.Free.Multi.fill (T.setVm vm₁) (cy 4) (cy 0) 16 186 (defaultValue .int) 16 = F at X' step
  have hTh : (T.setVm vm₁).heap = H := hT
  obtain ⟨f1, f2, -, -⟩ := Jvm.Free.Multi.fill_facts (T.setVm vm₁) (cy 4) (cy 0) 16 186 (defaultValue .int) 16
  rw [hF, hTh] at f1 f2
  have hold : ∀ x : Nat, x < H.size → F.heap[x]? = H[x]? := fun x hx => by
    have := Jvm.Free.Multi.fill_old (T.setVm vm₁) (cy 4) (cy 0) 16 186 (defaultValue .int) (a := x) (by rw [hTh]; exact hx) 16
    rw [hF, hTh] at this
    exact this
  have hrow : ∀ j : Nat, j < 16 → F.heap[H.size + 1 + j]? = some (arrV (cy 0) 186 (fun _ => .int 0)) := fun j hj => by
    have := Jvm.Free.Multi.fill_inner (T.setVm vm₁) (cy 4) (cy 0) 16 186 (defaultValue .int) 16 j hj
    rw [hF, hTh] at this
    rw [this, inner_arr]
    rfl
  have hout : Jvm.Free.Multi.outerC (cy 4) 16 H.size 16 = arrV (cy 4) 16 (fun j => va_rf (some (H.size + 1 + j))) := by
    rw [vr_outer (cy 4) 16 H.size 16]
    unfold arrV
    congr 1
  rw [hout] at f2
  have hP0 : Wc G bs pre (lc ++ rowsE bs (k0 + lc.length + 1) cy :: List.replicate 16 (arE cy 0 186)) F.heap := by
    unfold Wc
    intro k q hq
    obtain ⟨e1, e2⟩ := wq_inv hq
    obtain ⟨qa, qe⟩ := q
    dsimp only at e1 e2
    subst e1
    rcases Nat.lt_or_ge k (k0 + lc.length) with h | h
    · have e3 : (pre ++ lc)[k]? = some qe := by
        rw [← List.append_assoc, List.getElem?_append_left (by rw [List.length_append, hk]; exact h)] at e2
        exact e2
      have h4 := hQ k _ (wq_at (bs := bs) e3)
      exact va_P.kept (ws := [(bs + k, qe)]) (fun k9 x hx => by
        have h0 : k9 < 1 := (List.getElem?_eq_some_iff.mp hx).1
        rw [show k9 = 0 by omega] at hx
        cases hx
        exact h4) (fun k9 x hx => by
        have h0 : k9 < 1 := (List.getElem?_eq_some_iff.mp hx).1
        rw [show k9 = 0 by omega] at hx
        cases hx
        exact hold _ (by omega)) 0 _ rfl
    · rw [← List.append_assoc, List.getElem?_append_right (by rw [List.length_append, hk]; exact h), List.length_append, hk] at e2
      obtain ⟨j, rfl⟩ : ∃ j, k = k0 + lc.length + j := ⟨k - (k0 + lc.length), by omega⟩
      rw [show k0 + lc.length + j - (k0 + lc.length) = j by omega] at e2
      cases j with
      | zero =>
        cases e2
        show F.heap[bs + (k0 + lc.length + 0)]? = some (vp_cell (cy 4) (16, _))
        rw [vp_cell_q, Nat.add_zero, ← hsize, f2]
        congr 3
        funext j
        show va_rf (some (H.size + 1 + j)) = va_rf (some (bs + (k0 + lc.length + 1) + j))
        rw [hsize, show bs + (k0 + lc.length) + 1 + j = bs + (k0 + lc.length + 1) + j by omega]
      | succ j =>
        rw [List.getElem?_cons_succ, List.getElem?_replicate] at e2
        by_cases hj : j < 16
        · rw [if_pos hj] at e2
          cases e2
          show F.heap[bs + (k0 + lc.length + (j + 1))]? = some (vp_cell (cy 0) (186, _))
          have := hrow j hj
          rw [hsize, show bs + (k0 + lc.length) + 1 + j = bs + (k0 + lc.length + (j + 1)) by omega] at this
          exact this
        · rw [if_neg hj] at e2; cases e2
  obtain ⟨t, a1, b1⟩ := kk F.heap hP0 ⟨by rw [f1]; have := hS.1; omega, fun x h1 h2 => (hold x (Nat.lt_of_lt_of_le h1 hS.1)).trans (hS.2.1 x h1 h2), hS.2.2⟩ (by simp only [List.length_append, List.length_cons, List.length_replicate]; omega) F rfl X'
  refine ⟨t, step t ?_, b1⟩
  have e : T.heap.size = H.size := by rw [hT]
  rw [e, hsize]
  exact a1
set_option maxHeartbeats 1000000 in
theorem p_mnaL (X : Cx p s m args c cc nL own G (bs + 16) cy) (hk : pre.length = k0) (hQ : Wc G bs pre lc H) (hS : va_S (Aw bs) s.heap H locs) (hsz : s.heap.size + cells = bs + (k0 + lc.length)) (hb0 : bs ≤ s.heap.size) (hne : pre ++ lc ≠ []) (hov : va_AOA .int s) {index : Nat} (hcl : Cond.classLink own index ("[" ++ (FieldType.array .int).toString) ∈ wsL_law) (hcells : cells + (1 + 5) ≤ Rm.cells) (hslots : slots + (5 + 5 * 6) ≤ Rm.slots) (hi : lc.length = i) (hdg : decode cc pc = .ok (.multianewarray index 2, 4))
    (kk : ∀ (H1 : Heap), Wc G bs pre (lc ++ rowsEL bs (k0 + i + 1) cy :: List.replicate 5 (arE cy 0 6)) H1 → va_S (Aw bs) s.heap H1 locs → s.heap.size + (cells + 1 + 5) = bs + (k0 + (lc ++ rowsEL bs (k0 + i + 1) cy :: List.replicate 5 (arE cy 0 6)).length) → W p l e Rm s m args below meth c H1 locs (cells + 1 + 5) (slots + 5 + 5 * 6) Q (F0 m (pc + 4) ls (.ref (bs + (k0 + i)) :: rest))) : W p l e Rm s m args below meth c H locs cells slots Q (F0 m pc ls (.int (nI 6) :: .int (nI 5) :: rest)) := by
  refine W.size9 (fun hz => ?_)
  subst hi
  have hsize : H.size = bs + (k0 + lc.length) := by
    have h := q_size hQ hS (by rw [List.length_append, hk]; exact hsz) hne hz
    rw [List.length_append, hk] at h
    exact h
  obtain ⟨hx, hb, hml, hown, hts, hK, -⟩ := X
  intro T hT Xs
  have n5 : (nI 5).toNatClampNeg = 5 := by decide
  have n6 : (nI 6).toNatClampNeg = 6 := by decide
  obtain ⟨vm₁, cA, comp, -, fA, fC, hO, -, X', step⟩ := Xs.multianewarray2F (ty := .int) hx hown (hts _ hcl) (va_AOA.use hov) (hts _ AC_int) (g := F0 m pc ls (.int (nI 6) :: .int (nI 5) :: rest)) rfl (by rw [hb]; exact hdg) rfl (by decide) (by decide) (by decide) (by decide) (by decide) rfl rfl (by rw [n5]; exact hcells) (by rw [n5, n6]; exact hslots)
  rw [n5, n6] at X' step
  have ec : cy 0 = comp := Option.some.inj (((hK.2 0 _ rfl).2 : s.vm.findClass _ = some (cy 0)).symm.trans fC)
  have ea : cy 4 = cA := Option.some.inj (((hK.2 4 _ rfl).2 : s.vm.findClass _ = some (cy 4)).symm.trans fA)
  subst ec
  subst ea
  generalize hF : Jvm.Free.Multi.fill (T.setVm vm₁) (cy 4) (cy 0) 5 6 (defaultValue .int) 5 = F at X' step
  have hTh : (T.setVm vm₁).heap = H := hT
  obtain ⟨f1, f2, -, -⟩ := Jvm.Free.Multi.fill_facts (T.setVm vm₁) (cy 4) (cy 0) 5 6 (defaultValue .int) 5
  rw [hF, hTh] at f1 f2
  have hold : ∀ x : Nat, x < H.size → F.heap[x]? = H[x]? := fun x hx => by
    have := Jvm.Free.Multi.fill_old (T.setVm vm₁) (cy 4) (cy 0) 5 6 (defaultValue .int) (a := x) (by rw [hTh]; exact hx) 5
    rw [hF, hTh] at this
    exact this
  have hrow : ∀ j : Nat, j < 5 → F.heap[H.size + 1 + j]? = some (arrV (cy 0) 6 (fun _ => .int 0)) := fun j hj => by
    have := Jvm.Free.Multi.fill_inner (T.setVm vm₁) (cy 4) (cy 0) 5 6 (defaultValue .int) 5 j hj
    rw [hF, hTh] at this
    rw [this, inner_arr]
    rfl
  have hout : Jvm.Free.Multi.outerC (cy 4) 5 H.size 5 = arrV (cy 4) 5 (fun j => va_rf (some (H.size + 1 + j))) := by
    rw [vr_outer (cy 4) 5 H.size 5]
    unfold arrV
    congr 1
  rw [hout] at f2
  have hP0 : Wc G bs pre (lc ++ rowsEL bs (k0 + lc.length + 1) cy :: List.replicate 5 (arE cy 0 6)) F.heap := by
    unfold Wc
    intro k q hq
    obtain ⟨e1, e2⟩ := wq_inv hq
    obtain ⟨qa, qe⟩ := q
    dsimp only at e1 e2
    subst e1
    rcases Nat.lt_or_ge k (k0 + lc.length) with h | h
    · have e3 : (pre ++ lc)[k]? = some qe := by
        rw [← List.append_assoc, List.getElem?_append_left (by rw [List.length_append, hk]; exact h)] at e2
        exact e2
      have h4 := hQ k _ (wq_at (bs := bs) e3)
      exact va_P.kept (ws := [(bs + k, qe)]) (fun k9 x hx => by
        have h0 : k9 < 1 := (List.getElem?_eq_some_iff.mp hx).1
        rw [show k9 = 0 by omega] at hx
        cases hx
        exact h4) (fun k9 x hx => by
        have h0 : k9 < 1 := (List.getElem?_eq_some_iff.mp hx).1
        rw [show k9 = 0 by omega] at hx
        cases hx
        exact hold _ (by omega)) 0 _ rfl
    · rw [← List.append_assoc, List.getElem?_append_right (by rw [List.length_append, hk]; exact h), List.length_append, hk] at e2
      obtain ⟨j, rfl⟩ : ∃ j, k = k0 + lc.length + j := ⟨k - (k0 + lc.length), by omega⟩
      rw [show k0 + lc.length + j - (k0 + lc.length) = j by omega] at e2
      cases j with
      | zero =>
        cases e2
        show F.heap[bs + (k0 + lc.length + 0)]? = some (vp_cell (cy 4) (5, _))
        rw [vp_cell_q, Nat.add_zero, ← hsize, f2]
        congr 3
        funext j
        show va_rf (some (H.size + 1 + j)) = va_rf (some (bs + (k0 + lc.length + 1) + j))
        rw [hsize, show bs + (k0 + lc.length) + 1 + j = bs + (k0 + lc.length + 1) + j by omega]
      | succ j =>
        rw [List.getElem?_cons_succ, List.getElem?_replicate] at e2
        by_cases hj : j < 5
        · rw [if_pos hj] at e2
          cases e2
          show F.heap[bs + (k0 + lc.length + (j + 1))]? = some (vp_cell (cy 0) (6, _))
          have := hrow j hj
          rw [hsize, show bs + (k0 + lc.length) + 1 + j = bs + (k0 + lc.length + (j + 1)) by omega] at this
          exact this
        · rw [if_neg hj] at e2; cases e2
  obtain ⟨t, a1, b1⟩ := kk F.heap hP0 ⟨by rw [f1]; have := hS.1; omega, fun x h1 h2 => (hold x (Nat.lt_of_lt_of_le h1 hS.1)).trans (hS.2.1 x h1 h2), hS.2.2⟩ (by simp only [List.length_append, List.length_cons, List.length_replicate]; omega) F rfl X'
  refine ⟨t, step t ?_, b1⟩
  have e : T.heap.size = H.size := by rw [hT]
  rw [e, hsize]
  exact a1
end PM
