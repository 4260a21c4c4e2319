/-! a builder's steps, at the law's level -/
def AB (q v sz : Nat) : Nat → Prop := fun z => z = q ∨ z = v ∨ sz ≤ z
section GS
variable {p : Program} {l : Launch} {e : Env} {Rm : Room} {s : State} {m : MethodId} {args : Array Value} {below : List Frame} {meth : Method} {c : Code} {H : Heap} {locs : List Loc} {cells slots : Nat} {Q : State → Prop}
variable {cc : ByteArray} {pc nL : Nat} {ls : Array Slot} {rest : List Value} {G : va_G} {bs : Nat} {cy : Nat → ClassId} {I : CI} {L : CL} {R : CR} {A : Nat → Prop} {Bs : List BD} {Ts : List SD} {q v : Nat} {lx : List Nat} {n : Nat} {lv : List (Nat × Value)} {st0 : List Value} {b : BD}
theorem AB_g (h : bs + 67 ≤ q) (h2 : bs + 67 ≤ v) (h3 : bs + 67 ≤ H.size) : ∀ z, AB q v H.size z → Ag bs z := by
  rintro z (rfl | rfl | h)
  · show bs ≤ z + 16; omega
  · show bs ≤ z + 16; omega
  · show bs ≤ z + 16; omega
theorem Wd.kq (hW : Wd G bs cy I L R H) {H1 : Heap} (h : bs + 67 ≤ q) (h2 : bs + 67 ≤ v) (hk : ∀ z, z < H.size → ¬ AB q v H.size z → H1[z]? = H[z]?) : Wd G bs cy I L R H1 := va_P.kept hW (fun k x hx => by
  have hlt := (hW k x hx).lt
  obtain ⟨h3, h4⟩ := wl_in hx
  have hx2 : x.1 < bs + 67 := by
    rw [h4]
    unfold adr ad
    have : NT = 83 := rfl
    split <;> omega
  exact hk _ hlt (fun z => by rcases z with z | z | z <;> omega))
theorem g_step (X : Cx p s m args c cc nL RL G bs cy) (hA : AOK bs s.heap.size A) (hW : Wd G bs cy I L R H) (hT : TW G cy bs s H ((q, v, lx) :: Bs) Ts) {H1 : Heap} {l2 : List Nat} {u : va_W} (hz : H.size ≤ H1.size) (hk : ∀ z, z < H.size → ¬ AB q v H.size z → H1[z]? = H[z]?) (hP1 : va_P G vwCl u H1) (hB : BuU cy q v H.size l2 u) :
    ∃ v1, Wd G bs cy I L R H1 ∧ TW G cy bs s H1 ((q, v1, l2) :: Bs) Ts := by
  obtain ⟨m9, a9, hP, hBT, hm9, hq, hv, hqv⟩ := hT.1 _ List.mem_cons_self
  obtain ⟨v1, m1, a1, rfl, hB1, hm1, hv1⟩ := hB
  have hsz := hW.sz
  have hlt := (hT.1 _ List.mem_cons_self).lt
  refine ⟨v1, hW.kq hq hv hk, hT.step hz (fun z h1 h2 h3 => hk z h1 (fun h => h.elim h2 (fun h => h.elim h3 (fun h => by omega)))) ⟨m1, a1, hP1, hB1, hm1, hq, ?_, ?_⟩ hv1⟩
  · rcases hv1 with rfl | h
    · exact hv
    · show bs + 67 ≤ v1; omega
  · rcases hv1 with rfl | h
    · exact hqv
    · have h9 : q < H.size := hlt.1
      show q ≠ v1; omega
theorem g_AA (hA : AOK bs s.heap.size A) (hT : TW G cy bs s H ((q, v, lx) :: Bs) Ts) : ∀ z, AB q v H.size z → A z := by
  have h6 := hT.2.2.2.2.2 _ List.mem_cons_self
  have h5 := hT.2.2.2.2.1
  rintro z (rfl | rfl | h)
  · exact hA.2.1 _ h6.1
  · exact hA.2.1 _ h6.2
  · exact hA.2.1 _ (Nat.le_trans h5 h)
theorem g_appX (X : Cx p s m args c cc nL RL G bs cy) (hA : AOK bs s.heap.size A) (hW : Wd G bs cy I L R H) (hT : TW G cy bs s H ((q, v, lx) :: Bs) Ts) (hS : va_S A s.heap H locs) (hR : RmOK Rm n) (hn : 6 ≤ n) {x : SD} (hx : SLt AF s H x) (hap : apx x q v) (hl : lx.length + x.2.2.length ≤ 300) (hrest : (rest.map fun v => v.category).sum ≤ 8) (hl2 : lv_has ls nL lv) (hcs : cells + 1 ≤ Rm.cells ∧ slots + 600 ≤ Rm.slots) (hdg : decode cc pc = .ok (.invokevirtual 104, 3))
    (kk : ∀ (v1 : Nat) (H1 : Heap) (locs1 : List Loc), Wd G bs cy I L R H1 → TW G cy bs s H1 ((q, v1, lx ++ x.2.2) :: Bs) Ts → va_S A s.heap H1 locs1 → W p l e Rm s m args below meth c H1 locs1 (cells + 1) (slots + 600) Q (F0 m (pc + 3) ls (.ref q :: rest))) : W p l e Rm s m args below meth c H locs cells slots Q (F0 m pc ls (.ref x.1 :: .ref q :: rest)) := by
  obtain ⟨m9, a9, hP, hBT, hm9, hq, hv, hqv⟩ := hT.1 _ List.mem_cons_self
  have hxl := hx.lt
  have hxA : SLt (AB q v H.size) s H x := hx.wid (fun h => by rcases h with h | h | h; exact hap.1 h; exact hap.2.1 h; omega) (fun h => by rcases h with h | h | h; exact hap.2.2.1 h; exact hap.2.2.2 h; omega)
  refine jVBr X hA.2.2 hS hR (c_J4_append_15ec4 (sz := H.size) (AB_g hq hv hW.sz) (fun z h => Or.inr (Or.inr h)) q v lx.length m9 a9 x.1 x.2.1 x.2.2 lx (vD2 (Or.inl rfl) (Or.inr (Or.inl rfl)) hqv) hBT rfl hm9 hl) (by omega) UVJ4_append_15ec4 LK_L_104 (r_recvB X hP (i := 0) rfl) hP (fun y hy => by rw [List.mem_singleton.mp hy]; exact hxA) rfl rfl hrest hl2 hcs (g_AA hA hT) hdg (fun r u H1 locs1 hq9 hP1 hz9 hk9 hS1 => ?_)
  obtain ⟨rfl, hB⟩ := hq9
  obtain ⟨v1, hW1, hT1⟩ := g_step X hA hW hT hz9 hk9 hP1 hB
  exact kk v1 H1 locs1 hW1 hT1 hS1
theorem g_appS (X : Cx p s m args c cc nL RL G bs cy) (hA : AOK bs s.heap.size A) (hW : Wd G bs cy I L R H) (hT : TW G cy bs s H ((q, v, lx) :: Bs) Ts) (hS : va_S A s.heap H locs) (hR : RmOK Rm n) (hn : 6 ≤ n) {x : SD} (hx : x ∈ Ts) (hl : lx.length + x.2.2.length ≤ 300) (hrest : (rest.map fun v => v.category).sum ≤ 8) (hl2 : lv_has ls nL lv) (hcs : cells + 1 ≤ Rm.cells ∧ slots + 600 ≤ Rm.slots) (hdg : decode cc pc = .ok (.invokevirtual 104, 3))
    (kk : ∀ (v1 : Nat) (H1 : Heap) (locs1 : List Loc), Wd G bs cy I L R H1 → TW G cy bs s H1 ((q, v1, lx ++ x.2.2) :: Bs) Ts → va_S A s.heap H1 locs1 → W p l e Rm s m args below meth c H1 locs1 (cells + 1) (slots + 600) Q (F0 m (pc + 3) ls (.ref q :: rest))) : W p l e Rm s m args below meth c H locs cells slots Q (F0 m pc ls (.ref x.1 :: .ref q :: rest)) :=
  g_appX X hA hW hT hS hR hn (hT.2.1 x hx).1 (hT.2.2.2.1 _ List.mem_cons_self x hx) hl hrest hl2 hcs hdg kk
def litX (cy : Nat → ClassId) (i : Nat) (t : List Nat) : SD := (cy (20 + i), cy (40 + i), t)
def litT : List (List Nat) := [[98, 114, 105, 100, 103, 101, 32], [32], [59], [108, 97, 110, 101, 32, 108], [103, 97, 110, 103, 32, 103], [119, 101, 97, 116, 104, 101, 114, 32], [115, 112, 97, 110, 32, 115], [110, 111, 110, 101], [108]]
theorem lit_ok : ∀ i, i < 9 → litN.getD i 0 = (litT.getD i []).length ∧ (∀ z ∈ litT.getD i [], z < 128) ∧ (litT.getD i []).length ≤ 65536 ∧ ∀ j, j < (litT.getD i []).length → (litB.getD i []).getD j 0 = nI ((litT.getD i []).getD j 0) := by decide +kernel
/-- a text of the law's own pool -/
theorem g_lit (X : Cx p s m args c cc nL RL G bs cy) (hA : AOK bs s.heap.size A) (hS : va_S A s.heap H locs) {i : Nat} (hi : i < 9) : SLt AF s H (litX cy i (litT.getD i [])) ∧ ¬ Ag bs (cy (20 + i)) ∧ ¬ Ag bs (cy (40 + i)) := by
  obtain ⟨hx, hb, hml, hown, hts, hK, hE⟩ := X
  have hV := hE.2.2.2.2.2.1.1 i hi
  obtain ⟨h1, h2, h3, h4⟩ := hV
  obtain ⟨g1, g2, g3, g4⟩ := lit_ok i hi
  have hk : ∀ a : Nat, a < s.heap.size → ¬ Ag bs a → H[a]? = s.heap[a]? := fun a b1 b2 => hS.2.1 a b1 (fun z => b2 (hA.2.2 a z))
  obtain ⟨c2, t1, t2, t3, t4, t5, t6, t7⟩ := h4.kept hk
  obtain ⟨c1, o1, o2, o3, o4⟩ := h1
  refine ⟨⟨(show va_O _ _ _ _ _ from ⟨c1, o1, o2, o3, o4⟩ : va_O RJ0 (cy (20 + i)) (Ag bs) s s.heap).kept hk |>.narrow (fun _ z => z.elim), (h2.kept hk).narrow (fun _ z => z.elim), (h3.kept hk).narrow (fun _ z => z.elim), ?_, g2, g3⟩, o4, t7⟩
  exact ⟨c2, t1, t2, t3, by show (litT.getD i []).length ≤ _; rw [← g1]; exact t4, by show _ = Int32.ofNat (litT.getD i []).length; rw [← g1]; exact t5, fun j hj => (t6 j (by rw [g1]; exact hj)).trans (congrArg (fun z => some (Value.int z)) (g4 j hj)), fun z => z⟩
theorem g_appL (X : Cx p s m args c cc nL RL G bs cy) (hA : AOK bs s.heap.size A) (hW : Wd G bs cy I L R H) (hT : TW G cy bs s H ((q, v, lx) :: Bs) Ts) (hS : va_S A s.heap H locs) (hR : RmOK Rm n) (hn : 6 ≤ n) {i : Nat} (hi : i < 9) {t : List Nat} (ht : litT.getD i [] = t) (hl : lx.length + t.length ≤ 300) (hrest : (rest.map fun v => v.category).sum ≤ 8) (hl2 : lv_has ls nL lv) (hcs : cells + 1 ≤ Rm.cells ∧ slots + 600 ≤ Rm.slots) (hdg : decode cc pc = .ok (.invokevirtual 104, 3))
    (kk : ∀ (v1 : Nat) (H1 : Heap) (locs1 : List Loc), Wd G bs cy I L R H1 → TW G cy bs s H1 ((q, v1, lx ++ t) :: Bs) Ts → va_S A s.heap H1 locs1 → W p l e Rm s m args below meth c H1 locs1 (cells + 1) (slots + 600) Q (F0 m (pc + 3) ls (.ref q :: rest))) : W p l e Rm s m args below meth c H locs cells slots Q (F0 m pc ls (.ref (cy (20 + i)) :: .ref q :: rest)) := by
  subst ht
  obtain ⟨h1, h2, h3⟩ := g_lit X hA hS hi
  obtain ⟨m9, a9, hP, hBT, hm9, hq, hv, hqv⟩ := hT.1 _ List.mem_cons_self
  have hq' : bs + 67 ≤ q := hq
  have hv' : bs + 67 ≤ v := hv
  exact g_appX (x := litX cy i (litT.getD i [])) X hA hW hT hS hR hn h1 ⟨fun h => h2 (by show bs ≤ cy (20 + i) + 16; rw [show (cy (20 + i) : Nat) = q from h]; omega), fun h => h2 (by show bs ≤ cy (20 + i) + 16; rw [show (cy (20 + i) : Nat) = v from h]; omega), fun h => h3 (by show bs ≤ cy (40 + i) + 16; rw [show (cy (40 + i) : Nat) = q from h]; omega), fun h => h3 (by show bs ≤ cy (40 + i) + 16; rw [show (cy (40 + i) : Nat) = v from h]; omega)⟩ hl hrest hl2 hcs hdg kk
theorem g_ldc (X : Cx p s m args c cc nL RL G bs cy) {i ix : Nat} (hi : i < 9) (hix : (litL.getD i (0, "")).1 = ix) (hdg : decode cc pc = .ok (.ldc ix, 2))
    (kk : W p l e Rm s m args below meth c H locs cells slots Q (F0 m (pc + 2) ls (.ref (cy (20 + i)) :: rest))) : W p l e Rm s m args below meth c H locs cells slots Q (F0 m pc ls rest) := by
  obtain ⟨hx, hb, hml, hown, hts, hK, hE⟩ := X
  subst hix
  exact va_ldcS hx hb hown (hE.2.2.2.2.1 i hi) hdg kk
theorem g_appI (X : Cx p s m args c cc nL RL G bs cy) (hA : AOK bs s.heap.size A) (hW : Wd G bs cy I L R H) (hT : TW G cy bs s H ((q, v, lx) :: Bs) Ts) (hS : va_S A s.heap H locs) (hR : RmOK Rm n) (hn : 6 ≤ n) {x9 : Nat} (hx : x9 < 100) (hl : lx.length + 2 ≤ 300) (hrest : (rest.map fun v => v.category).sum ≤ 8) (hl2 : lv_has ls nL lv) (hcs : cells + 1 ≤ Rm.cells ∧ slots + 600 ≤ Rm.slots) (hdg : decode cc pc = .ok (.invokevirtual 108, 3))
    (kk : ∀ (v1 : Nat) (H1 : Heap) (locs1 : List Loc), Wd G bs cy I L R H1 → TW G cy bs s H1 ((q, v1, lx ++ dec2 x9) :: Bs) Ts → va_S A s.heap H1 locs1 → W p l e Rm s m args below meth c H1 locs1 (cells + 1) (slots + 600) Q (F0 m (pc + 3) ls (.ref q :: rest))) : W p l e Rm s m args below meth c H locs cells slots Q (F0 m pc ls (.int (nI x9) :: .ref q :: rest)) := by
  obtain ⟨m9, a9, hP, hBT, hm9, hq, hv, hqv⟩ := hT.1 _ List.mem_cons_self
  refine jVBr X hA.2.2 hS hR (c_J4_append_bf812 (sz := H.size) (AB_g hq hv hW.sz) (fun z h => Or.inr (Or.inr h)) q v lx.length m9 a9 lx x9 (vD2 (Or.inl rfl) (Or.inr (Or.inl rfl)) hqv) hBT rfl hm9 hx hl) (by omega) UVJ4_append_bf812 LK_L_108 (r_recvB X hP (i := 0) rfl) hP (fun y hy => by cases hy) rfl rfl hrest hl2 hcs (g_AA hA hT) hdg (fun r u H1 locs1 hq9 hP1 hz9 hk9 hS1 => ?_)
  obtain ⟨rfl, hB⟩ := hq9
  obtain ⟨v1, hW1, hT1⟩ := g_step X hA hW hT hz9 hk9 hP1 hB
  exact kk v1 H1 locs1 hW1 hT1 hS1
theorem g_appC (X : Cx p s m args c cc nL RL G bs cy) (hA : AOK bs s.heap.size A) (hW : Wd G bs cy I L R H) (hT : TW G cy bs s H ((q, v, lx) :: Bs) Ts) (hS : va_S A s.heap H locs) (hR : RmOK Rm n) (hn : 6 ≤ n) {ch : Nat} (hc : ch < 128) (hl : lx.length + 2 ≤ 300) (hrest : (rest.map fun v => v.category).sum ≤ 8) (hl2 : lv_has ls nL lv) (hcs : cells + 1 ≤ Rm.cells ∧ slots + 600 ≤ Rm.slots) (hdg : decode cc pc = .ok (.invokevirtual 121, 3))
    (kk : ∀ (v1 : Nat) (H1 : Heap) (locs1 : List Loc), Wd G bs cy I L R H1 → TW G cy bs s H1 ((q, v1, lx ++ [ch]) :: Bs) Ts → va_S A s.heap H1 locs1 → W p l e Rm s m args below meth c H1 locs1 (cells + 1) (slots + 600) Q (F0 m (pc + 3) ls (.ref q :: rest))) : W p l e Rm s m args below meth c H locs cells slots Q (F0 m pc ls (.int (nI ch) :: .ref q :: rest)) := by
  obtain ⟨m9, a9, hP, hBT, hm9, hq, hv, hqv⟩ := hT.1 _ List.mem_cons_self
  refine jVBr X hA.2.2 hS hR (c_J4_append_cf468 (sz := H.size) (AB_g hq hv hW.sz) (fun z h => Or.inr (Or.inr h)) q v lx.length m9 a9 lx ch (vD2 (Or.inl rfl) (Or.inr (Or.inl rfl)) hqv) hBT rfl hm9 hc hl) (by omega) UVJ4_append_cf468 LK_L_121 (r_recvB X hP (i := 0) rfl) hP (fun y hy => by cases hy) rfl rfl hrest hl2 hcs (g_AA hA hT) hdg (fun r u H1 locs1 hq9 hP1 hz9 hk9 hS1 => ?_)
  obtain ⟨rfl, hB⟩ := hq9
  obtain ⟨v1, hW1, hT1⟩ := g_step X hA hW hT hz9 hk9 hP1 hB
  exact kk v1 H1 locs1 hW1 hT1 hS1
theorem Wd.kn (hW : Wd G bs cy I L R H) {H1 : Heap} (hk : ∀ z, z < H.size → H1[z]? = H[z]?) : Wd G bs cy I L R H1 := va_P.kept hW (fun k x hx => hk _ (hW k x hx).lt)
/-- the builder's text -/
theorem g_toS (X : Cx p s m args c cc nL RL G bs cy) (hA : AOK bs s.heap.size A) (hW : Wd G bs cy I L R H) (hT : TW G cy bs s H ((q, v, lx) :: Bs) Ts) (hS : va_S A s.heap H locs) (hR : RmOK Rm n) (hn : 7 ≤ n) (hl : lx.length ≤ 300) (hrest : (rest.map fun v => v.category).sum ≤ 8) (hl2 : lv_has ls nL lv) (hcs : cells + 2 ≤ Rm.cells ∧ slots + (lx.length + 4) ≤ Rm.slots) (hdg : decode cc pc = .ok (.invokevirtual 115, 3))
    (kk : ∀ (x : SD) (H1 : Heap) (locs1 : List Loc), x.2.2 = lx → TxC G cy s.heap.size H1 x → Wd G bs cy I L R H1 → TW G cy bs s H1 Bs (x :: Ts) → va_S A s.heap H1 locs1 → W p l e Rm s m args below meth c H1 locs1 (cells + 2) (slots + (lx.length + 4)) Q (F0 m (pc + 3) ls (.ref x.1 :: rest))) : W p l e Rm s m args below meth c H locs cells slots Q (F0 m pc ls (.ref q :: rest)) := by
  obtain ⟨m9, a9, hP, hBT, hm9, hq, hv, hqv⟩ := hT.1 _ List.mem_cons_self
  have hsz := hW.sz
  have hlt := (hT.1 _ List.mem_cons_self).lt
  have h5 := hT.2.2.2.2.1
  have hSn : ∀ z, (fun z => H.size ≤ z) z → A z := fun z h => hA.2.1 _ (Nat.le_trans h5 h)
  refine jVBr (A' := fun z => H.size ≤ z) X hA.2.2 hS hR (c_J4_toString_0e30d (sz := H.size) (fun z h => hA.2.2 z (hSn z h)) (fun z h => h) q v lx.length m9 a9 lx ⟨Nat.not_le.mpr hlt.1, Nat.not_le.mpr hlt.2⟩ hBT rfl hm9) (by omega) UVJ4_toString_0e30d LK_L_115 (r_recvB X hP (i := 0) rfl) hP (fun y hy => by cases hy) rfl rfl hrest hl2 hcs hSn hdg (fun r u H1 locs1 hq9 hP1 hz9 hk9 hS1 => ?_)
  obtain ⟨w1, a1, hr, hw, rfl, ha⟩ := hq9
  have hkk : ∀ z, z < H.size → H1[z]? = H[z]? := fun z h => hk9 z h (Nat.not_le.mpr h)
  have hf : ∀ j, j < lx.length → a1 j = nI (lx.getD j 0) := fun j hj => (ha j hj).trans (hBT.2.1 j hj)
  have hx : SLt AF s H1 (r, w1, lx) := SLt.mk' X.2.2.2.2.1 X.2.2.2.2.2.1 hP1 rfl hf hBT.2.2.2 (by omega)
  exact kk (r, w1, lx) H1 locs1 rfl ⟨Nat.le_trans h5 hr, Nat.le_trans h5 (Nat.le_of_lt hw), hBT.2.2.2, hl, a1, hP1, hf⟩ (hW.kn hkk) (hT.popB.pushT hz9 hkk hx hsz hr (Nat.le_of_lt hw)) hS1
/-- a new builder -/
theorem g_sb (X : Cx p s m args c cc nL RL G bs cy) (hA : AOK bs s.heap.size A) (hW : Wd G bs cy I L R H) (hT : TW G cy bs s H Bs Ts) (hS : va_S A s.heap H locs) (hR : RmOK Rm n) (hn : 3 ≤ n) (hrest : (rest.map fun v => v.category).sum ≤ 6) (hl2 : lv_has ls nL lv) (hcs : cells + 2 ≤ Rm.cells ∧ slots + 20 ≤ Rm.slots) (d0 : decode cc pc = .ok (.new 99, 3)) (d1 : decode cc (pc + 3) = .ok (.dup, 1)) (d2 : decode cc (pc + 3 + 1) = .ok (.invokespecial 101, 3))
    (kk : ∀ (q v : Nat) (H1 : Heap) (locs1 : List Loc), Wd G bs cy I L R H1 → TW G cy bs s H1 ((q, v, []) :: Bs) Ts → va_S A s.heap H1 locs1 → W p l e Rm s m args below meth c H1 locs1 (cells + 1 + 1) (slots + 4 + 16) Q (F0 m (pc + 3 + 1 + 3) ls (.ref q :: rest))) : W p l e Rm s m args below meth c H locs cells slots Q (F0 m pc ls rest) := by
  have hsz := hW.sz
  have h5 := hT.2.2.2.2.1
  refine j_newO X hS NW_L_99 (Or.inr rfl) (by omega) (by omega) d0 (fun q H1 hq hP1 hz1 ho1 hS1 => ?_)
  refine lv_dup X.1 X.2.1 d1 rfl ?_
  subst hq
  have hAn : ∀ z, (z = H.size ∨ H1.size ≤ z) → A z := fun z h => hA.2.1 _ (by omega)
  refine jIBv (A' := fun z => z = H.size ∨ H1.size ≤ z) X hA.2.2 hS1 hR (c_J4_init_da8c8 (sz := H1.size) (fun z h => hA.2.2 z (hAn z h)) (fun z h => Or.inr h) H.size (vD1 (Or.inl rfl))) (by omega) UIJ4_init_da8c8 rfl rfl LK_L_101 hP1 (fun y hy => by cases hy) rfl (rest := .ref H.size :: rest) rfl (by simp only [List.map_cons, List.sum_cons]; show 1 + _ ≤ 8; omega) hl2 ⟨by omega, by omega⟩ hAn d2 (fun u H2 locs2 hu hP2 hk2 hS2 => ?_)
  obtain ⟨v1, hv1, rfl⟩ := hu
  have hkk : ∀ z, z < H.size → H2[z]? = H[z]? := fun z h => (hk2 z (by omega) (fun h2 => by omega)).trans (ho1 z h)
  have hz2 : H.size ≤ H2.size := by have := hS2.1; have h9 := (hP2 0 _ rfl).lt; have h10 : H.size < H2.size := h9; omega
  exact kk H.size v1 H2 locs2 (hW.kn hkk) (hT.pushB hz2 hkk ⟨16, _, hP2, ⟨Nat.zero_le _, fun j hj => absurd hj (Nat.not_lt_zero j), fun j => rfl, fun z hz => absurd hz List.not_mem_nil⟩, by decide, by show bs + 67 ≤ H.size; omega, by show bs + 67 ≤ v1; omega, by show H.size ≠ v1; omega⟩ (Nat.le_refl _) (by omega)) hS2
end GS
