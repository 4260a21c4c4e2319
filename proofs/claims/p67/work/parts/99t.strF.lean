/-! new objects of the JDK, clones -/
theorem subLe {k m : Nat} (hk : k < 2 ^ 30) (hm : m < 2 ^ 30) : nI k - nI m ≤ 0 ↔ k ≤ m := by
  rw [Int32.le_iff_toInt_le, Int32.toInt_sub, nI_toInt (by omega), nI_toInt (by omega), Int.bmod_eq_of_le_mul_two (by omega) (by omega), Int32.toInt_zero]
  omega
section JN
variable {p : Program} {l : Launch} {e : Env} {Rm : Room} {s : State} {m : MethodId} {args : Array Value} {below : List Frame} {meth : Method} {c : Code} {H : Heap} {locs : List Loc} {cells slots : Nat} {Q : State → Prop}
variable {cc : ByteArray} {pc nL : Nat} {ls : Array Slot} {rest : List Value} {own : String} {G : va_G} {bs : Nat} {cy : Nat → ClassId} {A A' : Nat → Prop} {ws ws' : va_W}
abbrev blB : va_E := .inr (14, [.null, .int (nI 0), .int (nI 0), .int (nI 0)])
abbrev blS : va_E := .inr (13, [.null, .int (nI 0), .int (nI 0), .int (nI 0)])
theorem j_newO (X : Cx p s m args c cc nL own G bs cy) (hS : va_S A s.heap H locs) {index ci : Nat} (hN : NW own index ci) (hci : ci = 13 ∨ ci = 14) (hcells : cells + 1 ≤ Rm.cells) (hslots : slots + 4 ≤ Rm.slots) (hdg : decode cc pc = .ok (.new index, 3))
    (kk : ∀ (q : Nat) (H1 : Heap), q = H.size → va_P G vwCl [(q, (.inr (ci, [.null, .int (nI 0), .int (nI 0), .int (nI 0)]) : va_E))] H1 → H1.size = H.size + 1 → (∀ z, z < H.size → H1[z]? = H[z]?) → va_S A s.heap H1 locs → W p l e Rm s m args below meth c H1 locs (cells + 1) (slots + 4) Q (F0 m (pc + 3) ls (.ref q :: rest))) : W p l e Rm s m args below meth c H locs cells slots Q (F0 m pc ls rest) := by
  obtain ⟨hx, hb, hml, hown, hts, hK, hE⟩ := X
  obtain ⟨C, T, N, hc, hin, hl1, hl2, hl3⟩ := hN
  have hKn := hK.1 ci _ hc
  have hN4 : N = 4 := by rcases hci with rfl | rfl <;> (cases hc; rfl)
  subst hN4
  refine W.newcK hx hb hown (hts _ hl1) (hts _ hl2) (hts _ hl3) rfl hdg hcells hslots hKn.2.1 rfl (fun H1 kC hkC e1 z1 o1 => ?_)
  refine kk H.size H1 rfl (fun k x hx => ?_) z1 o1 ⟨Nat.le_trans hS.1 (by omega), fun x h1 h2 => (o1 x (Nat.lt_of_lt_of_le h1 hS.1)).trans (hS.2.1 x h1 h2), hS.2.2⟩
  have hz : k < 1 := (List.getElem?_eq_some_iff.mp hx).1
  rw [show k = 0 by omega] at hx
  cases hx
  rcases hci with rfl | rfl
  · cases hc
    exact ⟨_, rfl, (u_born tyJ0 hts hin hKn hkC e1 tyJ0_ok).to (fun j hj => by rcases (show j = 0 ∨ j = 1 ∨ j = 2 ∨ j = 3 by omega) with rfl | rfl | rfl | rfl <;> rfl)⟩
  · cases hc
    exact ⟨_, rfl, (u_born tyJ4 hts hin hKn hkC e1 tyJ4_ok).to (fun j hj => by rcases (show j = 0 ∨ j = 1 ∨ j = 2 ∨ j = 3 by omega) with rfl | rfl | rfl | rfl <;> rfl)⟩
theorem j_clone (X : Cx p s m args c cc nL RJ7 G bs cy) (hP : va_P G vwCl ws s.heap) {n : Nat} (hR : RmOK Rm n) (hn1 : 1 ≤ n) {i v m9 : Nat} {a : Nat → Int32} (he : ws[i]? = some (v, arB cy m9 a)) (hf : ∀ j, fits .byte (.int (a j)) = true) (hrest : (rest.map fun v => v.category).sum ≤ 8) {lv : List (Nat × Value)} (hl2 : lv_has ls nL lv) (hcells : cells + 1 ≤ Rm.cells) (hslots : slots + m9 ≤ Rm.slots) (hdg : decode cc pc = .ok (.invokevirtual 310, 3))
    (h2 : decode cc (pc + 3) = .ok (.checkcast 311, 3))
    (kk : ∀ (r : Nat) (H1 : Heap), s.heap.size ≤ r → va_P G vwCl [(r, arB cy m9 a)] H1 → va_S (fun z => s.heap.size ≤ z) s.heap H1 [] → W p l e Rm s m args below meth c H1 [] (cells + 1) (slots + m9) Q (F0 m (pc + 3 + 3) ls (.ref r :: rest))) : W p l e Rm s m args below meth c s.heap [] cells slots Q (F0 m pc ls (.ref v :: rest)) := by
  have hX := X
  obtain ⟨hx, hb, hml, hown, hts, hK, hE⟩ := X
  have hv : va_P G vwCl [(v, arB cy m9 a)] s.heap := fun k x hx => by
    have hz : k < 1 := (List.getElem?_eq_some_iff.mp hx).1
    rw [show k = 0 by omega] at hx
    cases hx
    exact hP i _ he
  have hnm : s.vm.findClass "[B" = some (cy 1) := (hK.2 1 _ rfl).2
  have e0 : s.heap[v]? = some (vp_cell (cy 1) (m9, .inl a)) := hv 0 _ rfl
  refine va_clone (ad := "[B") (A := fun z => s.heap.size ≤ z ∨ z = v) hx hb (hml.trans hl2.1.symm) hown (hts _ (inR_11 _ (List.mem_of_getElem? (i := 8) rfl))) (hts _ (inR_11 _ (List.mem_of_getElem? (i := 9) rfl))) (hts _ (inR_11 _ (List.mem_of_getElem? (i := 10) rfl))) (hts _ (inR_11 _ (List.mem_of_getElem? (i := 11) rfl))) (hts _ (inR_11 _ (List.mem_of_getElem? (i := 12) rfl))) (hE.1.1 _ (by unfold nestL; simp)) hK hv (vD1 (Or.inr rfl)) va_S.rf (fun q h => Or.inl h) 0 1 rfl (show (tyLs cy)[1]? = some (cy 1, .byte) from rfl) hnm ?_ (by rw [hR.1]; exact hn1) (by rw [hR.2]; omega) hcells hslots hdg (fun r H1 hK1 hP1 hD1 hS1 => ?_)
  · intro j w hw
    have := va_fit (cA := cy 1) (n := m9) (F := fun j => .int (a j)) (ty := .byte) (fun j hj => hf j) j w hw
    exact this
  · have hr : s.heap.size ≤ r := by
      rcases hD1.2 1 _ rfl with h | h
      · exact h
      · exact absurd (hD1.1 0 1 _ _ rfl rfl h.symm) (by decide)
    have e1 : H1[v]? = some (vp_cell (cy 1) (m9, .inl a)) := hP1 0 _ rfl
    have hP2 : va_P G vwCl [(r, arB cy m9 a)] H1 := hP1.sub [1] rfl
    exact va_castA hx hb hown (hts _ (inR_11 _ (List.mem_of_getElem? (i := 13) rfl))) hP2 0 rfl hnm h2 (kk r H1 hr hP2 ⟨hS1.1, fun z z1 z2 => (by
      by_cases hz : z = v
      · rw [hz, e1, e0]
      · exact hS1.2.1 z z1 (fun h => h.elim z2 hz)), fun _ h => by cases h⟩)
end JN
