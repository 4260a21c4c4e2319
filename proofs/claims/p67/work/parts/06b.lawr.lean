/-! the law's own cells: places 67 to 82 -/
theorem wl_w {bs : Nat} {cy : Nat → ClassId} {I : CI} {L : CL} {R : CR} : (wl bs cy I L R)[67]? = some (ad bs 67, .inr (12, wfs bs (I 67) (R 67))) := by
  rw [wl_atL ⟨by decide, by decide⟩]
  rfl
theorem wl_arrL {bs : Nat} {cy : Nat → ClassId} {I : CI} {L : CL} {R : CR} {k ty n : Nat} (hk : shp k = .inr (ty, n)) (hN : 67 ≤ k ∧ k < NT) (hty : ty ≠ 9) : (wl bs cy I L R)[k]? = some (ad bs k, .inl (cy ty, n, entA bs ty (I k) (L k))) := by
  rw [wl_atL hN, hk]
  show some (ad bs k, if ty = 9 then _ else _) = _
  rw [if_neg hty]
section LR9
variable {p : Program} {l : Launch} {e : Env} {Rm : Room} {s : State} {m : MethodId} {args : Array Value} {below : List Frame} {meth : Method} {c : Code} {H : Heap} {locs : List Loc} {cells slots : Nat} {Q : State → Prop}
variable {cc : ByteArray} {pc nL : Nat} {ls : Array Slot} {rest : List Value} {own : String} {G : va_G} {bs : Nat} {cy : Nat → ClassId} {I : CI} {L : CL} {R : CR} {H0 : Heap} {k : Nat}
theorem rL_get (X : Cx p s m args c cc nL own G bs cy) (hW : Wd G bs cy I L R H) {index j : Nat} (hF : FI own index 12 j) {v : Value} (hv : (wfs bs (I 67) (R 67))[j]? = some v) (hdg : decode cc pc = .ok (.getfield index, 3))
    (kk : W p l e Rm s m args below meth c H locs cells slots Q (F0 m (pc + 3) ls (v :: rest))) : W p l e Rm s m args below meth c H locs cells slots Q (F0 m pc ls (.ref (ad bs 67) :: rest)) := by
  obtain ⟨hx, hb, hml, hown, hts, hK, -⟩ := X
  obtain ⟨C, T, N, hc, hC, hj, hin, hl⟩ := hF
  exact va_get hx hb hts hin hown hK hW 67 wl_w hc j hj (hts _ hl) (fun x hx2 => by rw [hC] at hx2; exact hx2) hv hdg kk
theorem rL_put (X : Cx p s m args c cc nL own G bs cy) (hW : Wd G bs cy I L R H) (hS : va_S (Aq bs) H0 H locs) {index j : Nat} (hF : FI own index 12 j) {v : Value} {ty : FieldType}
    (hfin : ((vwCl.getD 12 ("", TX0, 0)).2.1 j).2.2.2 = false) (hd : parseFieldDescriptor ((vwCl.getD 12 ("", TX0, 0)).2.1 j).2.2.1 = some ty) (hn : narrow ty v = v) (hfit : fits ty v = true) {I' : CI} {R' : CR}
    (hI : ∀ a, a ≠ 67 → I' a = I a) (hR : ∀ a, a ≠ 67 → R' a = R a) (hset : (wfs bs (I 67) (R 67)).set j v = wfs bs (I' 67) (R' 67)) (hj18 : j < 18) (hdg : decode cc pc = .ok (.putfield index, 3))
    (kk : ∀ (H1 : Heap) (locs1 : List Loc), Wd G bs cy I' L R' H1 → va_S (Aq bs) H0 H1 locs1 → W p l e Rm s m args below meth c H1 locs1 cells slots Q (F0 m (pc + 3) ls rest)) : W p l e Rm s m args below meth c H locs cells slots Q (F0 m pc ls (v :: .ref (ad bs 67) :: rest)) := by
  obtain ⟨hx, hb, hml, hown, hts, hK, hE⟩ := X
  obtain ⟨C, T, N, hc, hC, hj, hin, hl⟩ := hF
  have hg : vwCl.getD 12 ("", TX0, 0) = (C, T, N) := by rw [List.getD_eq_getElem?_getD, hc]; rfl
  have hnm := cls_nm 12 (by decide)
  have hty := cls_ty 12 (by decide)
  rw [hg] at hfin hd hnm hty
  dsimp only at hfin hd hnm hty
  refine va_put hx hb hts hin (fun a => (parseFieldDescriptor (T a).2.2.1).getD .int) (fun a ha => ?_) hnm hown hK hW (wl_D hE.2.2.2.1) hS 67 wl_w hc j hj (hts _ hl) (fun x hx2 => by rw [hC] at hx2; exact hx2) hfin hd hn hfit (Nat.lt_of_lt_of_le hj18 (Nat.le_of_eq rfl)) hdg (fun H1 locs1 hP _ hS1 => kk H1 locs1 ?_ hS1)
  · have h2 := hty a ha
    cases h3 : parseFieldDescriptor (T a).2.2.1 with
    | none => rw [h3] at h2; cases h2
    | some z => rfl
  · rw [hset] at hP
    rw [wl_setL (e := (.inr (12, wfs bs (I' 67) (R' 67)) : va_E)) (L' := L) ⟨by decide, by decide⟩ hI (fun _ _ => rfl) hR rfl] at hP
    exact hP
theorem rL_puti (X : Cx p s m args c cc nL own G bs cy) (hW : Wd G bs cy I L R H) (hS : va_S (Aq bs) H0 H locs) {index j : Nat} (hF : FI own index 12 j) {v : Int32}
    (hfin : ((vwCl.getD 12 ("", TX0, 0)).2.1 j).2.2.2 = false) (hd : parseFieldDescriptor ((vwCl.getD 12 ("", TX0, 0)).2.1 j).2.2.1 = some .int) (hset : (wfs bs (I 67) (R 67)).set j (.int v) = wfs bs (upd (I 67) j v) (R 67)) (hj18 : j < 18) (hdg : decode cc pc = .ok (.putfield index, 3))
    (kk : ∀ (H1 : Heap) (locs1 : List Loc), Wd G bs cy (u2 I 67 j v) L R H1 → va_S (Aq bs) H0 H1 locs1 → W p l e Rm s m args below meth c H1 locs1 cells slots Q (F0 m (pc + 3) ls rest)) : W p l e Rm s m args below meth c H locs cells slots Q (F0 m pc ls (.int v :: .ref (ad bs 67) :: rest)) :=
  rL_put X hW hS hF hfin hd rfl rfl (I' := u2 I 67 j v) (R' := R) (fun a h => u2_ne h) (fun _ _ => rfl) (by rw [u2_eq]; exact hset) hj18 hdg kk
theorem rL_puta (X : Cx p s m args c cc nL own G bs cy) (hW : Wd G bs cy I L R H) (hS : va_S (Aq bs) H0 H locs) {index : Nat} (hF : FI own index 12 0) {a : Nat} (hdg : decode cc pc = .ok (.putfield index, 3))
    (kk : ∀ (H1 : Heap) (locs1 : List Loc), Wd G bs cy I L (u2R R 67 0 a) H1 → va_S (Aq bs) H0 H1 locs1 → W p l e Rm s m args below meth c H1 locs1 cells slots Q (F0 m (pc + 3) ls rest)) : W p l e Rm s m args below meth c H locs cells slots Q (F0 m pc ls (.ref a :: .ref (ad bs 67) :: rest)) :=
  rL_put X hW hS hF (ty := .array .int) (by decide +kernel) (by decide +kernel) rfl rfl (I' := I) (R' := u2R R 67 0 a) (fun _ _ => rfl) (fun a h => u2R_ne h) rfl (by decide) hdg kk
theorem rL_ald (X : Cx p s m args c cc nL own G bs cy) (hW : Wd G bs cy I L R H) {n : Nat} (hk : shp k = .inr (0, n)) (hN : 67 ≤ k ∧ k < NT) {x : Int32} {j : Nat} (hx : x = nI j) (hj : j < n) (hn : n < 2 ^ 31) {v : Int32} (hv : I k j = v) (hdg : decode cc pc = .ok (.iaload, 1))
    (kk : W p l e Rm s m args below meth c H locs cells slots Q (F0 m (pc + 1) ls (.int v :: rest))) : W p l e Rm s m args below meth c H locs cells slots Q (F0 m pc ls (.int x :: .ref (ad bs k) :: rest)) := by
  subst hx; subst hv
  refine va_iald X.1 X.2.1 X.2.2.2.2.2.1 hW k 0 (wl_arrL hk hN (by decide)) rfl (vp_in_nI hj hn) hdg ?_
  rw [nI_clamp (by omega)]
  exact kk
theorem rL_ast (X : Cx p s m args c cc nL own G bs cy) (hW : Wd G bs cy I L R H) (hS : va_S (Aq bs) H0 H locs) {n : Nat} (hk : shp k = .inr (0, n)) (hN : 67 ≤ k ∧ k < NT) {x : Int32} {j : Nat} (hx : x = nI j) (hj : j < n) (hn : n < 2 ^ 31) {v : Int32} (hdg : decode cc pc = .ok (.iastore, 1))
    (kk : ∀ (H1 : Heap) (locs1 : List Loc), Wd G bs cy (u2 I k j v) L R H1 → va_S (Aq bs) H0 H1 locs1 → W p l e Rm s m args below meth c H1 locs1 cells slots Q (F0 m (pc + 1) ls rest)) : W p l e Rm s m args below meth c H locs cells slots Q (F0 m pc ls (.int v :: .int x :: .ref (ad bs k) :: rest)) := by
  subst hx
  refine va_iast X.1 X.2.1 X.2.2.2.2.2.1 hW (wl_D X.2.2.2.2.2.2.2.2.2.1) hS k 0 (wl_arrL hk hN (by decide)) rfl (vp_in_nI hj hn) hdg (fun H1 locs1 hP _ hS1 => kk H1 locs1 ?_ hS1)
  rw [nI_clamp (by omega), wl_setL hN (I' := u2 I k j v) (L' := L) (R' := R) (fun a h => u2_ne h) (fun _ _ => rfl) (fun _ _ => rfl) (by rw [hk, u2_eq]; rfl)] at hP
  exact hP
theorem rL_aald (X : Cx p s m args c cc nL own G bs cy) (hW : Wd G bs cy I L R H) {x : Int32} {j : Nat} (hx : x = nI j) (hj : j < 5) (hdg : decode cc pc = .ok (.aaload, 1))
    (kk : W p l e Rm s m args below meth c H locs cells slots Q (F0 m (pc + 1) ls (.ref (ad bs (78 + j)) :: rest))) : W p l e Rm s m args below meth c H locs cells slots Q (F0 m pc ls (.int x :: .ref (ad bs 77) :: rest)) := by
  subst hx
  have hin := vp_in_nI hj (show 5 < 2 ^ 31 by decide)
  have e2 : (nI j).toNatClampNeg = j := nI_clamp (by omega)
  exact W.aald (v := va_rf (some (ad bs (78 + j)))) (ty := .array .int) X.1 X.2.1 (hW 77 _ (wl_arrL (k := 77) (ty := 5) (n := 5) rfl ⟨by decide, by decide⟩ (by decide))) ((X.2.2.2.2.2.1.2 5 _ rfl).1 5 (fun j => va_rf (some (ad bs (78 + j))))) rfl (fun q => by cases q) (by show ¬ (nI j < 0 ∨ (arrV _ _ _).slots.size ≤ _); rw [arrV_size]; exact hin) (by rw [e2]; show (arrV _ _ _).slots[_]? = _; rw [arrV_read _ _ hj]) rfl rfl hdg kk
theorem rL_sld (X : Cx p s m args c cc nL own G bs cy) (hS : va_S (Aq bs) s.heap H locs) {j : Nat} (hj : j < cy 71) (hdg : decode cc pc = .ok (.iaload, 1))
    (kk : W p l e Rm s m args below meth c H locs cells slots Q (F0 m (pc + 1) ls (.int (nI (cy (100 + j))) :: rest))) : W p l e Rm s m args below meth c H locs cells slots Q (F0 m pc ls (.int (nI j) :: .ref (cy 70) :: rest)) := by
  obtain ⟨hx, hb, hml, hown, hts, hK, hE⟩ := X
  have hE8 := hE.2.2.2.2.2.2.2.2.2.2.2.2
  have h9 : (cy 71 : Nat) < 2147483648 := hE8.2
  have hj' : j < 2147483648 := Nat.lt_trans hj h9
  exact va_ti hx hb (hE8.1.narrow (fun _ => agq)) hS (vp_in_nI hj h9) (by rw [nI_clamp hj']) hdg kk
theorem rL_slen (X : Cx p s m args c cc nL own G bs cy) (hS : va_S (Aq bs) s.heap H locs) (hdg : decode cc pc = .ok (.arraylength, 1))
    (kk : W p l e Rm s m args below meth c H locs cells slots Q (F0 m (pc + 1) ls (.int (nI (cy 71)) :: rest))) : W p l e Rm s m args below meth c H locs cells slots Q (F0 m pc ls (.ref (cy 70) :: rest)) := by
  obtain ⟨hx, hb, hml, hown, hts, hK, hE⟩ := X
  have hE8 := hE.2.2.2.2.2.2.2.2.2.2.2.2
  exact va_tlen hx hb (hE8.1.narrow (fun _ => agq)) hS rfl hdg kk
theorem recvL (X : Cx p s m args c cc nL own G bs cy) (hW : Wd G bs cy I L R H) : ∃ cellB : Cell, H[ad bs 67]? = some cellB ∧ cellB.vm.isStatics = false ∧ s.vm.findClass RL = some cellB.cls :=
  va_recv X.2.2.2.2.2.1 hW (show vwCl[12]? = some (RL, TL, 18) from rfl) (q0 := 67) wl_w
theorem callOi (X : Cx p s m args c cc nL own G bs cy) (hW : Wd G bs cy I L R H) (hS : va_S (Aq bs) s.heap H locs) {n : Nat} (hR : RmOK Rm n) {μ : MI} {n' : Nat} {As : List Value} {Q' : Int32 → CI → CL → CR → Prop} (hM : MTi l G bs cy μ n' (.ref (ad bs 67) :: As) I L R Q') (hn : n' + 1 ≤ n) {na idx : Nat} (hu : UV μ RL na) (hl : Cond.methodLink own idx μ.1 ∈ wsL_law)
    (hA : As.length = na) {st0 : List Value} (hst : st0 = As.reverse ++ .ref (ad bs 67) :: rest) (hrest : (rest.map fun v => v.category).sum ≤ 8) {lv : List (Nat × Value)} (hl2 : lv_has ls nL lv) (hcs : cells ≤ Rm.cells ∧ slots ≤ Rm.slots) (hdg : decode cc pc = .ok (.invokevirtual idx, 3))
    (kk : ∀ (r : Int32) (I' : CI) (L' : CL) (R' : CR) (H1 : Heap) (locs1 : List Loc), Q' r I' L' R' → Wd G bs cy I' L' R' H1 → va_S (Aq bs) s.heap H1 locs1 → W p l e Rm s m args below meth c H1 locs1 cells slots Q (F0 m (pc + 3) ls (.int r :: rest))) : W p l e Rm s m args below meth c H locs cells slots Q (F0 m pc ls st0) := by
  obtain ⟨hx, hb, hml, hown, hts, hK, hE⟩ := id X
  subst hst
  exact va_calli (va_runV (As := As) (rest := rest) ⟨hx, hb, hml, hown, hts⟩ hM (cw_UV hts hu hl hR hn) ⟨PcM_blind, recvL X hW, fun U hU hW2 => ⟨rfl, by rw [hU]; exact hW, va_K.moved hW2.alike hK, by rw [hU]; exact hE.to hW2 hS.2.1⟩⟩ rfl hA hl2.1 rfl (lv_room hrest) hdg hcs) hS (fun q _ h => h) (fun q h => h)
    (fun r u t H1 locs1 ht hvm hp hB hz hk1 hS1 => kk r u.1 u.2.1 u.2.2 H1 locs1 hp (by rw [← ht]; exact hB) hS1)
end LR9
