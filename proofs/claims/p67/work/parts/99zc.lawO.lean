/-! the letters, fed four by four -/
def chB (tx : List Nat) : Nat → Int32 := fun j => nI (chT tx j)
theorem st8 {v : Int32} {c : Nat} (hc : c < 256) {i : Nat} (hi : i < 32) : bt ((v <<< (nI 8 &&& 31)) ||| nI c) i = if i < 8 then c.testBit i else bt v (i - 8) := by
  rw [b_or, b_shl 8 (by decide) _ hi, bt_nI c hi]
  by_cases h : i < 8
  · rw [if_pos h, decide_eq_false (by omega), Bool.false_and, Bool.false_or]
  · rw [if_neg h, decide_eq_true (by omega), Bool.true_and, Nat.testBit_lt_two_pow (Nat.lt_of_lt_of_le hc (show 2 ^ 8 ≤ 2 ^ i from Nat.pow_le_pow_right (by decide) (by omega))), Bool.or_false]
theorem b255 : ∀ i, i < 32 → (255 : Nat).testBit i = decide (i < 8) := by decide +kernel
theorem by8 {v : Int32} {s c : Nat} (hs : s ≤ 24) (hc : c < 256) (h : ∀ i, i < 8 → bt v (s + i) = c.testBit i) : byV v s = nI c := by
  apply b_ext
  intro i hi
  unfold byV
  rw [b_and, b_ushr s (by omega), bt_nI _ hi, bt_nI _ hi, b255 i hi]
  by_cases h8 : i < 8
  · rw [decide_eq_true h8, Bool.and_true]; exact h i h8
  · rw [decide_eq_false h8, Bool.and_false, Nat.testBit_lt_two_pow (Nat.lt_of_lt_of_le hc (show 2 ^ 8 ≤ 2 ^ i from Nat.pow_le_pow_right (by decide) (by omega)))]
section FO
variable {tx : List Nat}
theorem fo_bt (hc : ∀ j, chT tx j < 128) (k : Nat) (n : Nat) {i : Nat} (hi : i < 32) : bt (foT tx k (n + 1)) i = if i < 8 then (chT tx (k + n)).testBit i else bt (foT tx k n) (i - 8) := st8 (by have := hc (k + n); omega) hi
theorem fo_0 (hc : ∀ j, chT tx j < 128) (k : Nat) : byV (foT tx k 4) 24 = chB tx k := by8 (by decide) (by have := hc k; omega) (fun i hi => by
  rw [fo_bt hc k 3 (by omega), if_neg (by omega), fo_bt hc k 2 (by omega), if_neg (by omega), fo_bt hc k 1 (by omega), if_neg (by omega), fo_bt hc k 0 (by omega), if_pos (by omega), show 24 + i - 8 - 8 - 8 = i by omega]; rfl)
theorem fo_1 (hc : ∀ j, chT tx j < 128) (k : Nat) : byV (foT tx k 4) 16 = chB tx (k + 1) := by8 (by decide) (by have := hc (k + 1); omega) (fun i hi => by
  rw [fo_bt hc k 3 (by omega), if_neg (by omega), fo_bt hc k 2 (by omega), if_neg (by omega), fo_bt hc k 1 (by omega), if_pos (by omega), show 16 + i - 8 - 8 = i by omega])
theorem fo_2 (hc : ∀ j, chT tx j < 128) (k : Nat) : byV (foT tx k 4) 8 = chB tx (k + 1 + 1) := by8 (by decide) (by have := hc (k + 1 + 1); omega) (fun i hi => by
  rw [fo_bt hc k 3 (by omega), if_neg (by omega), fo_bt hc k 2 (by omega), if_pos (by omega), show 8 + i - 8 = i by omega])
theorem fo_3 (hc : ∀ j, chT tx j < 128) (k : Nat) : byV (foT tx k 4) 0 = chB tx (k + 1 + 1 + 1) := by8 (by decide) (by have := hc (k + 1 + 1 + 1); omega) (fun i hi => by
  rw [fo_bt hc k 3 (by omega), if_pos (by omega), show 0 + i = i by omega])
theorem upd_id9 {f : Nat → Int32} {j : Nat} : upd f j (f j) = f := funext fun z => by
  unfold upd
  by_cases h : z = j
  · rw [if_pos h, h]
  · rw [if_neg h]
theorem ap4_id (hc : ∀ j, chT tx j < 128) (k : Nat) : ap4 (chB tx) k (foT tx k 4) = chB tx := by
  unfold ap4
  rw [fo_0 hc, upd_id9, fo_1 hc, upd_id9, fo_2 hc, upd_id9, fo_3 hc, upd_id9]
theorem fdT_id (hc : ∀ j, chT tx j < 128) (k : Nat) : fdT (chB tx) k (foT tx k 4) (foT tx (k + 4) 4) (foT tx (k + 8) 4) (foT tx (k + 12) 4) (foT tx (k + 16) 4) = chB tx := by
  unfold fdT
  rw [ap4_id hc k, ap4_id hc (k + 4), show k + 4 + 4 = k + 8 from rfl, ap4_id hc (k + 8), show k + 8 + 4 = k + 12 from rfl, ap4_id hc (k + 12), show k + 12 + 4 = k + 16 from rfl, ap4_id hc (k + 16)]
end FO
theorem chT_lt {tx : List Nat} (h : ∀ z ∈ tx, z < 128) (j : Nat) : chT tx j < 128 := by
  unfold chT
  by_cases e : j < tx.length
  · rw [if_pos e, List.getD_eq_getElem?_getD, List.getElem?_eq_getElem e]; exact h _ (List.getElem_mem e)
  · rw [if_neg e]; decide
theorem TB_ch {tx : List Nat} (h : ∀ z ∈ tx, z < 128) (n : Nat) : TB (chB tx) n := fun i _ => ⟨chT tx i, by have := chT_lt h i; omega, rfl⟩
def QLd (tx : List Nat) (ρ : Row) (β γ q u : Nat) (I : CI) (L : CL) (R : CR) : Int32 → CI → CL → CR → Prop := (fun r I1 L1 R1 => (r = if okP (prs (chB tx) tx.length ρ) = true then nI (nS (rOf (prs (chB tx) tx.length ρ))) else -1000006) ∧ Fr (SLo γ u) I I1 ∧ I1 0 11 = eKd (prs (chB tx) tx.length ρ) ∧ I1 0 12 = ePo (prs (chB tx) tx.length ρ) ∧ TxAt I1 0 (chB tx) ∧ (okP (prs (chB tx) tx.length ρ) = true → BrAt I1 γ (rOf (prs (chB tx) tx.length ρ)) ∧ PlAt I1 u (rOf (prs (chB tx) tx.length ρ)) ∧ I1 9 2 = nI 0 ∧ I1 9 1 = I 9 1 ∧ R1 = u2R (u2R (u2R (u2R (u2R (u2R (u2R R 61 2 γ) 61 3 u) u 0 γ) 0 8 u) 0 10 q) 0 7 γ) 0 9 β) ∧ (okP (prs (chB tx) tx.length ρ) = false → (∀ a j, SLe γ u a j = false → I1 a j = I a j) ∧ R1 = u2R (u2R (u2R R 61 2 γ) 61 3 u) u 0 γ) ∧ FL SLq L L1)
/-- a method of the law's own over a text -/
def PcX (G : va_G) (bs : Nat) (cy : Nat → ClassId) (av : List Value) (sz : Nat) (x : SD) (I : CI) (L : CL) (R : CR) : Array Value → State → Prop := va_Pc av (fun U => U.heap.size = sz ∧ Wd G bs cy I L R U.heap ∧ va_K G vwCl (tyLs cy) U ∧ EK bs cy U U.heap ∧ SLt AF U U.heap x ∧ ¬ Aq bs x.1 ∧ ¬ Aq bs x.2.1)
theorem PcX_blind {G : va_G} {bs : Nat} {cy : Nat → ClassId} {av : List Value} {sz : Nat} {x : SD} {I : CI} {L : CL} {R : CR} : FrameBlind (PcX G bs cy av sz x I L R) := fun a U g mk q => ⟨q.1, q.2.1, q.2.2.1, va_K.moved (u := U) (U := U.calling g mk a) (Vm.Alike.refl U.vm) q.2.2.2.1, EK.same (s := U) (U := U.calling g mk a) rfl q.2.2.2.2.1, SLt.moved (u := U) (U := U.calling g mk a) (Vm.Alike.refl U.vm) q.2.2.2.2.2.1, q.2.2.2.2.2.2⟩
def MAx (l : Launch) (G : va_G) (bs : Nat) (cy : Nat → ClassId) (μ : MI) (n : Nat) (av : List Value) (sz : Nat) (x : SD) (I : CI) (L : CL) (R : CR) (Q : Int32 → CI → CL → CR → Prop) (mc ms : Nat) : Prop :=
  Met l μ.1 (mws μ) (rmL n mc ms) (PcX G bs cy av sz x I L R) (va_Qi (fun (r : Int32) (u : Sto) => Q r u.1 u.2.1 u.2.2) (BM G bs cy) (Ar bs sz)) mc ms (Ar bs sz)
theorem MAx.of {l : Launch} {G : va_G} {bs : Nat} {cy : Nat → ClassId} {own : String} {y : MethodName} {cc : ByteArray} {nL n sz mc ms : Nat} {av : List Value} {I : CI} {L : CL} {R : CR} {x : SD} {Q : Int32 → CI → CL → CR → Prop} (hy : plainName own = true) (ho : y.cls = own) (hlen : (lg_sl av).length ≤ nL)
    (body : ∀ (p : Program) (e : Env) (s : State) (m : MethodId) (args : Array Value) (below : List Frame) (meth : Method) (c : Code) (Qf : State → Prop), Cx p s m args c cc nL own G bs cy → Wd G bs cy I L R s.heap → va_S (Ar bs s.heap.size) s.heap s.heap [] → TW G cy bs s s.heap [] [x] →
      (∀ {pc : Nat} {ls : Array Slot} {H : Heap} {locs : List Loc} {v : Int32} {I' : CI} {L' : CL} {R' : CR} {cells slots : Nat}, decode cc pc = .ok (.ireturn, 1) → cells ≤ mc → slots ≤ ms → Wd G bs cy I' L' R' H → va_S (Ar bs s.heap.size) s.heap H locs → Q v I' L' R' → W p l e (rmL n mc ms) s m args below meth c H locs cells slots Qf (F0 m pc ls [.int v])) →
      ∀ ls : Array Slot, lv_has ls nL (lv_args 0 av) → W p l e (rmL n mc ms) s m args below meth c s.heap [] 0 0 Qf (F0 m 0 ls [])) : MAx l G bs cy (y, cc, nL, some .int) n av sz x I L R Q mc ms := by
  refine Met.ofW (cc := cc) (maxL := nL) (ret := some .int) (by rw [ho]; exact hy) rfl ?_
  intro p e s m args below meth c s₁ B hml hv
  obtain ⟨rfl, hsz, hW, hK, hE, hx1, hx2, hx3⟩ := hv
  subst hsz
  have hts := atoms_spec (ws := mws (y, cc, nL, some .int)) B.pre
  have hown : s.vm.findClass own = some m.cls := ho ▸ findClass_of_methodNamed B.named
  have hlocks := B.notSynchronized
  rw [lg_entry_eq]
  exact body p e s m _ below meth c _ ⟨B.exec, B.bytes, hml, hown, fun w hw => hts w (List.mem_cons_of_mem _ hw), hK, hE⟩ hW va_S.rf
    ⟨fun b hb => absurd hb List.not_mem_nil, fun y hy => by rw [List.mem_singleton.mp hy]; exact ⟨hx1, hx2, hx3⟩, List.Pairwise.nil, fun b hb => absurd hb List.not_mem_nil, Nat.le_refl _, fun b hb => absurd hb List.not_mem_nil⟩
    (fun {pc ls H locs v I' L' R' cells slots} hdg hc hs hW' hS' hQ => W.widen hc hs (W.iret (v := v) B.exec B.bytes B.returns (fun t ht _ => ⟨⟨v, (I', L', R'), rfl, hQ, by show Wd _ _ _ _ _ _ t.heap; rw [ht]; exact hW'⟩, hS'.F ht⟩) hS'.2.2 hdg hlocks)) _ (lv_entry av hlen)
section GX
variable {p : Program} {l : Launch} {e : Env} {Rm : Room} {s : State} {m : MethodId} {args : Array Value} {below : List Frame} {meth : Method} {c : Code} {H : Heap} {locs : List Loc} {cells slots : Nat} {Q : State → Prop}
variable {cc : ByteArray} {pc nL : Nat} {ls : Array Slot} {rest : List Value} {G : va_G} {bs : Nat} {cy : Nat → ClassId} {I : CI} {L : CL} {R : CR} {A : Nat → Prop} {Bs : List BD} {Ts : List SD} {n : Nat} {lv : List (Nat × Value)} {st0 : List Value}
/-- a text's length -/
theorem g_len (X : Cx p s m args c cc nL RL G bs cy) (hA : AOK bs s.heap.size A) (hW : Wd G bs cy I L R H) (hT : TW G cy bs s H Bs Ts) (hS : va_S A s.heap H locs) (hR : RmOK Rm n) (hn : 3 ≤ n) {x : SD} (hx : x ∈ Ts) {n9 : Nat} (hn9 : x.2.2.length = n9) (hrest : (rest.map fun v => v.category).sum ≤ 8) (hl2 : lv_has ls nL lv) (hcs : cells ≤ Rm.cells ∧ slots ≤ Rm.slots) (hdg : decode cc pc = .ok (.invokevirtual 42, 3))
    (kk : W p l e Rm s m args below meth c H locs cells slots Q (F0 m (pc + 3) ls (.int (nI n9) :: rest))) : W p l e Rm s m args below meth c H locs cells slots Q (F0 m pc ls (.ref x.1 :: rest)) := by
  subst hn9
  obtain ⟨a, w, tx⟩ := x
  have hx1 := (hT.2.1 _ hx).1
  have hlt := hx1.lt
  have hsz := hW.sz
  have hxA : SLt (fun z => H.size ≤ z) s H (a, w, tx) := hx1.wid (fun h => by omega) (fun h => by omega)
  exact jVi X hA.2.2 hS hR (c_J0_length_8abf5 (l := l) (G := G) (bs := bs) (cy := cy) (A := fun z => H.size ≤ z) (fun z h => by show bs ≤ z + 16; omega) (fun z h => h) a w tx) (by omega) UVJ0_length_8abf5 LK_L_42 (r_recvT hxA) (fun k q h => by cases h) (fun x9 h9 => by rw [List.mem_singleton.mp h9]; exact hxA) rfl rfl hrest hl2 hcs hdg (fun r9 hr9 => by subst hr9; exact kk)
theorem g_fo (X : Cx p s m args c cc nL RL G bs cy) (hA : AOK bs s.heap.size A) (hW : Wd G bs cy I L R H) (hT : TW G cy bs s H Bs Ts) (hS : va_S A s.heap H locs) (hR : RmOK Rm n) (hn : 6 ≤ n) {x : SD} (hx : x ∈ Ts) {k : Nat} (hk : k < 1000) {v9 : Int32} (hv9 : foT x.2.2 k 4 = v9) (hrest : (rest.map fun v => v.category).sum ≤ 8) (hl2 : lv_has ls nL lv) (hcs : cells ≤ Rm.cells ∧ slots ≤ Rm.slots) (hdg : decode cc pc = .ok (.invokestatic 52, 3))
    (kk : W p l e Rm s m args below meth c H locs cells slots Q (F0 m (pc + 3) ls (.int v9 :: rest))) : W p l e Rm s m args below meth c H locs cells slots Q (F0 m pc ls (.int (nI k) :: .ref x.1 :: rest)) := by
  subst hv9
  obtain ⟨a, w, tx⟩ := x
  have hx1 := (hT.2.1 _ hx).1
  have hlt := hx1.lt
  have hsz := hW.sz
  have hxA : SLt (fun z => H.size ≤ z) s H (a, w, tx) := hx1.wid (fun h => by omega) (fun h => by omega)
  exact jSi X hA.2.2 hS hR (c_L_four (l := l) (G := G) (bs := bs) (cy := cy) (A := fun z => H.size ≤ z) (fun z h => by show bs ≤ z + 16; omega) (fun z h => h) a w tx k hk hx1.2.2.2.2.2) (by omega) USL_four LK_L_52 (fun k q h => by cases h) (fun x9 h9 => by rw [List.mem_singleton.mp h9]; exact hxA) rfl (As := [.ref a, .int (nI k)]) rfl hrest hl2 hcs hdg (fun r9 hr9 => by subst hr9; exact kk)
/-- a call of a class's method, from the law -/
theorem gC_i {own : String} (X : Cx p s m args c cc nL own G bs cy) (hA : AOK bs s.heap.size A) (hW : Wd G bs cy I L R H) (hT : TW G cy bs s H Bs Ts) (hS : va_S A s.heap H locs) (hR : RmOK Rm n) {k : Nat} {μ : MI} {n' : Nat} {As : List Value} {Q' : Int32 → CI → CL → CR → Prop} (hM : MTi l G bs cy μ n' (.ref (bs + k) :: As) I L R Q') (hn : n' + 1 ≤ n) {C : String} {na ci idx : Nat} {ks : List Nat} (hu : UV μ C na) (hl : Cond.methodLink own idx μ.1 ∈ wsL_law)
    (hk : shp k = .inl (ci, ks)) (hN : k < NC) (hC : (vwCl[ci]?).map (fun q => q.1) = some C) (hA9 : As.length = na) (hst : st0 = As.reverse ++ .ref (bs + k) :: rest) (hrest : (rest.map fun v => v.category).sum ≤ 8) (hl2 : lv_has ls nL lv) (hcs : cells ≤ Rm.cells ∧ slots ≤ Rm.slots) (hdg : decode cc pc = .ok (.invokevirtual idx, 3))
    (kk : ∀ (r : Int32) (I' : CI) (L' : CL) (R' : CR) (H1 : Heap) (locs1 : List Loc), Q' r I' L' R' → Wd G bs cy I' L' R' H1 → TW G cy bs s H1 Bs Ts → va_S A s.heap H1 locs1 → W p l e Rm s m args below meth c H1 locs1 cells slots Q (F0 m (pc + 3) ls (.int r :: rest))) : W p l e Rm s m args below meth c H locs cells slots Q (F0 m pc ls st0) := by
  have hX := X
  obtain ⟨hx, hb, hml, hown, hts, hK, hE⟩ := id X
  subst hst
  exact va_calli (va_runV (As := As) (rest := rest) ⟨hx, hb, hml, hown, hts⟩ hM (cw_UV hts hu hl hR hn) ⟨PcM_blind, recvW X hW hk hN hC, fun U hU hW2 => ⟨rfl, by rw [hU]; exact hW, va_K.moved hW2.alike hK, by rw [hU]; exact gK hX hA hS hW2⟩⟩ rfl hA9 hl2.1 rfl (lv_room hrest) hdg hcs) hS (fun q _ h => hA.1 q h) (fun q h => hA.1 q h)
    (fun r u t H1 locs1 ht hvm hp hB hz hk1 hS1 => kk r u.1 u.2.1 u.2.2 H1 locs1 hp (by rw [← ht]; exact hB) (hT.frame hz hk1) hS1)
end GX
