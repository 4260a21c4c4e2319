/-! the wrapper of the double -/
section WW
variable {p : Program} {l : Launch} {e : Env} {Rm : Room} {s : State} {m : MethodId} {args : Array Value} {below : List Frame} {meth : Method} {c : Code} {H : Heap} {locs : List Loc} {cells slots : Nat} {Qf : State → Prop}
variable {cc : ByteArray} {pc nL : Nat} {ls : Array Slot} {rest : List Value} {own : String} {G : va_G} {bs : Nat} {cy : Nat → ClassId} {I : CI} {L : CL} {R : CR} {k : Nat}
theorem callWd (X : Cx p s m args c cc nL own G bs cy) (hW : Wd G bs cy I L R H) (hS : va_S (Aq bs) s.heap H locs) {n : Nat} (hR : RmOK Rm n) {μ : MI} {n' mc' ms' : Nat} {As : List Value} {Q' : UInt64 → CI → CL → CR → Prop} {PX' : String → Prop} (hM : XTd l G bs cy μ n' (.ref (bs + k) :: As) I L R Q' PX' mc' ms') (hn : n' + 1 ≤ n) {C : String} {na ci idx : Nat} {ks : List Nat} (hu : UV μ C na) (hl : Cond.methodLink own idx μ.1 ∈ wsL_law)
    (hk : shp k = .inl (ci, ks)) (hN : k < NC) (hC : (vwCl[ci]?).map (fun q => q.1) = some C) (hA : As.length = na) {st0 : List Value} (hst : st0 = As.reverse ++ .ref (bs + k) :: rest) (hrest : (rest.map fun v => v.category).sum ≤ 8) {lv : List (Nat × Value)} (hl2 : lv_has ls nL lv) (hc1 : cells + mc' ≤ Rm.cells) (hs1 : slots + ms' ≤ Rm.slots) (hdg : decode cc pc = .ok (.invokevirtual idx, 3))
    (kx : ∀ (E : String) (ce : Cell) (q9 : Addr) (H1 : Heap) (locs1 : List Loc), PX' E → Wd G bs cy I L R H1 → va_S (Aq bs) s.heap H1 locs1 → H1[q9]? = some ce → ce.vm = .none → s.vm.findClass E = some ce.cls → vx_W p l e Rm s m args below meth c H1 locs1 (cells + mc') (slots + ms') Qf (F0 m pc ls rest) q9)
    (kk : ∀ (r : UInt64) (I' : CI) (L' : CL) (R' : CR) (H1 : Heap) (locs1 : List Loc), Q' r I' L' R' → Wd G bs cy I' L' R' H1 → va_S (Aq bs) s.heap H1 locs1 → W p l e Rm s m args below meth c H1 locs1 (cells + mc') (slots + ms') Qf (F0 m (pc + 3) ls (.double r :: rest))) : W p l e Rm s m args below meth c H locs cells slots Qf (F0 m pc ls st0) := by
  obtain ⟨hx, hb, hml, hown, hts, hK, hE⟩ := id X
  subst hst
  exact vx_calld (vx_runV (As := As) (rest := rest) ⟨hx, hb, hml, hown, hts⟩ hM (cwX_UV hts hu hl hR hn) ⟨PcM_blind, recvW X hW hk hN hC, fun U hU hW2 => ⟨rfl, by rw [hU]; exact hW, va_K.moved hW2.alike hK, by rw [hU]; exact hE.to hW2 hS.2.1⟩⟩ rfl hA hl2.1 rfl (lv_room hrest) hdg ⟨hc1, hs1⟩) hS (fun q _ h => h) (fun q h => h) (fun q _ h => h)
    (fun E ce q9 u t H1 locs1 ht hvm _ hB hz hk1 hS1 hce hcv hcl => kx E ce q9 H1 locs1 hB.1 (by rw [← ht]; exact hB.2) hS1 hce hcv hcl)
    (fun r u t H1 locs1 ht hvm hp hB hz hk1 hS1 => kk r u.1 u.2.1 u.2.2 H1 locs1 hp (by rw [← ht]; exact hB) hS1)
theorem r_dast (X : Cx p s m args c cc nL own G bs cy) {H0 : Heap} (hW : Wd G bs cy I L R H) (hS : va_S (Aq bs) H0 H locs) {n : Nat} (hk : shp k = .inr (3, n)) (hN : k < NC) {x : Int32} {j : Nat} (hx : x = nI j) (hj : j < n) (hn : n < 2 ^ 31) {v : UInt64} (hdg : decode cc pc = .ok (.dastore, 1))
    (kk : ∀ (H1 : Heap) (locs1 : List Loc), Wd G bs cy I (u2L L k j v.toInt64) R H1 → va_S (Aq bs) H0 H1 locs1 → W p l e Rm s m args below meth c H1 locs1 cells slots Qf (F0 m (pc + 1) ls rest)) : W p l e Rm s m args below meth c H locs cells slots Qf (F0 m pc ls (.double v :: .int x :: .ref (bs + k) :: rest)) := by
  subst hx
  refine va_dast X.1 X.2.1 X.2.2.2.2.2.1 hW wl_D hS k 3 (wl_arr hk hN) rfl (vp_in_nI hj hn) hdg (fun H1 locs1 hP _ hS1 => kk H1 locs1 ?_ hS1)
  rw [nI_clamp (by omega), wl_set (I' := I) (L' := u2L L k j v.toInt64) (R' := R) (fun _ _ => rfl) (fun a h => u2L_ne h) (fun _ _ => rfl) (fun _ => by
    rw [hk, u2L_eq]
    show (Sum.inl (cy 3, n, _) : va_E) = .inl (cy 3, n, .inr (.inr (.inr (.inl _))))
    congr 7
    funext z
    unfold vf_upd vp_updL
    by_cases hz : z = j
    · rw [if_pos hz, if_pos hz]; rfl
    · rw [if_neg hz, if_neg hz])] at hP
  exact hP
end WW
def WD (I : CI) (L : CL) (R : CR) (Q' : UInt64 → CI → CL → CR → Prop) (PX' : String → Prop) (r : Int32) (I1 : CI) (L1 : CL) (R1 : CR) : Prop :=
  (r = nI 0 ∧ ∃ v L', Q' v I1 L' R1 ∧ L1 = u2L L' 87 0 v.toInt64) ∨ (r = nI 1 ∧ PX' IOE ∧ I1 = I ∧ L1 = L ∧ R1 = R)
set_option maxHeartbeats 400000 in
set_option maxRecDepth 100000 in
theorem w_averageRust {l : Launch} {G : va_G} {bs : Nat} {cy : Nat → ClassId} {I : CI} {L : CL} {R : CR} (v1 : Int32) {Q' : UInt64 → CI → CL → CR → Prop} {PX' : String → Prop} {n' mc ms : Nat} (hM : XTd l G bs cy MX11_averageRust n' [.ref (bs + 0), .int v1] I L R Q' PX' mc ms) (hpx : ∀ E, PX' E → E = IOE) : WTi l G bs cy ML_averageRust [(0, 8, 11, 19)] (n' + 1) [.ref (bs + 0), .int v1, .ref (bs + 87)] I L R (WD I L R Q' PX') mc ms := by
  refine WTi.of (own := RL) pn_RL rfl (Nat.le_of_ble_eq_true rfl) ?_
  intro p e s m args below meth c Qf X hW hS htab fin ls hl
  have hx := X.1
  have hb := X.2.1
  have hl : lv_has ls 4 [(0, .ref (bs + 0)), (1, .int v1), (2, .ref (bs + 87))] := hl
  refine lv_aload_n hx hb (dg D_L_averageRust (i := 0) rfl) rfl (lv_at hl 2 rfl) ?_
  refine n_iconst (a := 0) hx hb (dg D_L_averageRust (i := 1) rfl) rfl ?_
  refine lv_aload_n hx hb (dg D_L_averageRust (i := 2) rfl) rfl (lv_at hl 0 rfl) ?_
  refine lv_iload_n hx hb (dg D_L_averageRust (i := 3) rfl) rfl (lv_at hl 1 rfl) ?_
  refine callWd X hW hS (n := n' + 1) ⟨rfl, rfl⟩ hM (Nat.le_refl _) UVX11_averageRust LK_L_36 rfl (by decide) rfl rfl rfl (Nat.le_of_ble_eq_true rfl) hl (by show 0 + mc ≤ mc; omega) (by show 0 + ms ≤ ms; omega) (dg D_L_averageRust (i := 4) rfl) (fun E ce q9 H1 locs1 hpe hW1 hS1 hce hcv hcl => ?_) (fun r I1 L1 R1 H locs hq hW hS => ?_)
  · have hE := hpx E hpe
    subst hE
    refine vx_catch X.2.2.2.1 [] _ [] htab (fun z hz => absurd hz (by simp)) rfl (by decide) (X.2.2.2.2.1 _ CLx_19) (CAST_IOE X) hce hcv hcl ?_
    refine lv_astore_n (lv' := [(3, .ref q9), (0, .ref (bs + 0)), (1, .int v1), (2, .ref (bs + 87))]) hx hb (dg D_L_averageRust (i := 7) rfl) rfl hl (by decide) rfl (fun ls hl => ?_)
    refine n_iconst (a := 1) hx hb (dg D_L_averageRust (i := 8) rfl) rfl ?_
    exact fin (dg D_L_averageRust (i := 9) rfl) (by omega) (by omega) hW1 hS1 (Or.inr ⟨rfl, hpe, rfl, rfl, rfl⟩)
  · refine r_dast (k := 87) (j := 0) (v := r) X hW hS rfl (by decide) rfl (by decide) (by decide) (dg D_L_averageRust (i := 5) rfl) (fun H locs hW hS => ?_)
    refine lv_goto (tgt := 14) hx hb (dg D_L_averageRust (i := 6) rfl) (by decide) ?_
    refine n_iconst (a := 0) hx hb (dg D_L_averageRust (i := 10) rfl) rfl ?_
    exact fin (dg D_L_averageRust (i := 11) rfl) (by omega) (by omega) hW hS (Or.inl ⟨rfl, r, L1, hq, rfl⟩)
