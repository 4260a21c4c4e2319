/-! the case of the double; the table of the switch; the loop -/
section LD
variable {p : Program} {l : Launch} {e : Env} {Rm : Room} {s : State} {m : MethodId} {args : Array Value} {below : List Frame} {meth : Method} {c : Code} {H : Heap} {locs : List Loc} {cells slots : Nat} {Q : State → Prop}
variable {pc : Nat} {ls : Array Slot} {rest : List Value} {G : va_G} {bs : Nat} {cy : Nat → ClassId} {I : CI} {L : CL} {R : CR} {b N i n k : Nat} {xs : Nat → Int32}
theorem r_dald {own : String} {cc : ByteArray} {nL : Nat} (X : Cx p s m args c cc nL own G bs cy) (hW : Wd G bs cy I L R H) {n : Nat} (hk : shp k = .inr (3, n)) (hN : k < NC) {x : Int32} {j : Nat} (hx : x = nI j) (hj : j < n) (hn : n < 2 ^ 31) {v : UInt64} (hv : (L k j).toUInt64 = v) (hdg : decode cc pc = .ok (.daload, 1))
    (kk : W p l e Rm s m args below meth c H locs cells slots Q (F0 m (pc + 1) ls (.double v :: rest))) : W p l e Rm s m args below meth c H locs cells slots Q (F0 m pc ls (.int x :: .ref (bs + k) :: rest)) := by
  subst hx; subst hv
  refine va_dald X.1 X.2.1 X.2.2.2.2.2.1 hW k 3 (wl_arr hk hN) rfl (vp_in_nI hj hn) hdg ?_
  rw [nI_clamp (by omega)]
  exact kk
theorem DD_11 : DQ [(856, .aload_n 1, 1)] ∧ DQ (lscR 857 1) ∧ DQ [(863, .aload 4, 2), (865, .invokestatic 194, 3), (868, .istore 6, 2), (870, .aload_n 2, 1)] ∧ DQ (lscR 871 1) ∧ DQ [(877, .invokevirtual 197, 3), (880, .dstore 7, 2), (882, .aload_n 2, 1), (883, .invokevirtual 159, 3), (886, .iload 6, 2), (888, .if_icmp .eq 5, 3), (891, .iconst 0, 1), (892, .ireturn, 1), (893, .iload 6, 2), (895, .ifCond .ne 35, 3), (898, .aload 4, 2), (900, .iconst 0, 1), (901, .daload, 1), (902, .dload 7, 2), (904, .dcmp .l, 1), (905, .ifCond .eq 25, 3), (908, .aload 4, 2), (910, .iconst 0, 1), (911, .daload, 1), (912, .aload 4, 2), (914, .iconst 0, 1), (915, .daload, 1), (916, .dcmp .l, 1), (917, .ifCond .eq 11, 3), (920, .dload 7, 2), (922, .dload 7, 2), (924, .dcmp .l, 1), (925, .ifCond .ne 5, 3), (928, .iconst 0, 1), (929, .ireturn, 1), (930, .goto 2421, 3)] := ⟨by decide +kernel, by decide +kernel, by decide +kernel, by decide +kernel, by decide +kernel⟩
theorem callVd {own : String} {cc : ByteArray} {nL : Nat} (X : Cx p s m args c cc nL own G bs cy) (hW : Wd G bs cy I L R H) (hS : va_S (Aq bs) s.heap H locs) {n : Nat} (hR : RmOK Rm n) {μ : MI} {n' : Nat} {As : List Value} {Q' : UInt64 → CI → CL → CR → Prop} (hM : MTd l G bs cy μ n' (.ref (bs + k) :: As) I L R Q') (hn : n' + 1 ≤ n) {C : String} {na ci idx : Nat} {ks : List Nat} (hu : UV μ C na) (hl : Cond.methodLink own idx μ.1 ∈ wsL_law)
    (hk : shp k = .inl (ci, ks)) (hN : k < NC) (hC : (vwCl[ci]?).map (fun q => q.1) = some C) (hA : As.length = na) {st0 : List Value} (hst : st0 = As.reverse ++ .ref (bs + k) :: rest) (hrest : (rest.map fun v => v.category).sum ≤ 8) {lv : List (Nat × Value)} (hl2 : lv_has ls nL lv) (hcs : cells ≤ Rm.cells ∧ slots ≤ Rm.slots) (hdg : decode cc pc = .ok (.invokevirtual idx, 3))
    (kk : ∀ (r : UInt64) (I' : CI) (L' : CL) (R' : CR) (H1 : Heap) (locs1 : List Loc), Q' r I' L' R' → Wd G bs cy I' L' R' H1 → va_S (Aq bs) s.heap H1 locs1 → W p l e Rm s m args below meth c H1 locs1 cells slots Q (F0 m (pc + 3) ls (.double r :: rest))) : W p l e Rm s m args below meth c H locs cells slots Q (F0 m pc ls st0) := by
  obtain ⟨hx, hb, hml, hown, hts, hK, hE⟩ := id X
  subst hst
  exact va_calld (va_runV (As := As) (rest := rest) ⟨hx, hb, hml, hown, hts⟩ hM (cw_UV hts hu hl hR hn) ⟨PcM_blind, recvW X hW hk hN hC, fun U hU hW2 => ⟨rfl, by rw [hU]; exact hW, va_K.moved hW2.alike hK, by rw [hU]; exact hE.to hW2 hS.2.1⟩⟩ rfl hA hl2.1 rfl (lv_room hrest) hdg hcs) hS (fun q _ h => h) (fun q h => h)
    (fun r u t H1 locs1 ht hvm hp hB hz hk1 hS1 => kk r u.1 u.2.1 u.2.2 H1 locs1 hp (by rw [← ht]; exact hB) hS1)
set_option maxHeartbeats 400000 in
set_option maxRecDepth 100000 in
theorem pD1 (X : LX p s m args c G bs cy b N xs) (hR : RmOK Rm n) (hW : Wd G bs cy I L R H) (hS : va_S (Aq bs) s.heap H locs) (hl : lv_has ls 9 (bL b bs i)) (hi : i + 6 ≤ N) {tab : List (Nat × Nat × Nat × Nat)} {n1 n2 mc ms : Nat} (hSt : StD l G bs cy I L R ML_averageRust tab n1 mc ms [.int (xs (i + 1))] MX12_averageRust n2) (hu1 : UW ML_averageRust tab 3) (hn1 : n1 + 1 ≤ n) (hn2 : n2 + 1 ≤ n) (hn : 2 ≤ n) (hc1 : cells + mc ≤ Rm.cells) (hs1 : slots + ms ≤ Rm.slots)
    (kk : LGo p l e Rm s m args below meth c (cells + mc) (slots + ms) Q G bs cy b i) : LGoal p l e Rm s m args below meth c H locs cells slots Q 856 ls := by
  obtain ⟨X9, hX, hbl, hbb, hnc, hN⟩ := id X
  have hx := X9.1
  have hb := X9.2.1
  obtain ⟨d0, d1, d2, d3, d4⟩ := DD_11
  obtain ⟨Q1, hM1, hq1⟩ := hSt
  refine lv_aload_n hx hb (dg d0 (i := 0) rfl) rfl (lv_at hl 1 rfl) ?_
  refine l_sc X hS hl d1 (j := 1) rfl (by omega) ?_
  refine lv_aload hx hb (dg d2 (i := 0) rfl) (lv_at hl 4 rfl) ?_
  refine callLn (rest := []) (As := .ref (bs + 0) :: ([.int (xs (i + 1))] ++ [.ref (bs + 87)])) X9 hnc hW hS hR hM1 hn1 hu1 LK_L_194 rfl rfl (Nat.zero_le _) hl hc1 hs1 (dg d2 (i := 1) rfl) (fun r1 I1 L1 R1 H1 locs1 hq hW hS => ?_)
  obtain ⟨Q2, hM2, hq2⟩ := hq1 r1 I1 L1 R1 hq
  refine lv_istore (lv' := (6, .int r1) :: bL b bs i) hx hb (dg d2 (i := 2) rfl) hl (by decide) rfl (fun ls hl6 => ?_)
  have hl : lv_has ls 9 (bL b bs i) := lv_sub hl6 [1, 2, 3, 4, 5, 6] rfl
  refine lv_aload_n hx hb (dg d2 (i := 3) rfl) rfl (lv_at hl 2 rfl) ?_
  refine l_sc X hS hl d3 (j := 1) rfl (by omega) ?_
  refine callVd (k := 67) (rest := []) (As := [.int (xs (i + 1))]) X9 hW hS hR hM2 hn2 UVX12_averageRust LK_L_197 rfl (by decide) rfl rfl rfl (Nat.zero_le _) hl ⟨hc1, hs1⟩ (dg d4 (i := 0) rfl) (fun r2 I2 L2 R2 H2 locs2 hq hW hS => ?_)
  obtain ⟨e1, e2, hLS⟩ := hq2 r2 I2 L2 R2 hq
  refine lv_dstore (lv' := (7, .double r2) :: (6, .int r1) :: bL b bs i) hx hb (dg d4 (i := 1) rfl) hl6 (by decide) rfl (fun ls hl => ?_)
  have kk2 : ∀ H3 locs3, Wd G bs cy I2 L2 R2 H3 → va_S (Aq bs) s.heap H3 locs3 → W p l e Rm s m args below meth c H3 locs3 (cells + mc) (slots + ms) Q (F0 m 930 ls []) := fun H3 locs3 hW hS => lv_goto (tgt := 3351) hx hb (dg d4 (i := 30) rfl) (by decide) (kk I2 L2 R2 H3 locs3 ls hLS hW hS (lv_sub hl [2, 3, 4, 5, 6, 7] rfl))
  refine lv_aload_n hx hb (dg d4 (i := 2) rfl) rfl (lv_at hl 4 rfl) ?_
  refine callVi (rest := []) (As := []) X9 hW hS hR (c_X12_thrown r1 e1) hn UVX12_thrown LK_L_159 rfl (by decide) rfl rfl rfl (Nat.zero_le _) hl ⟨hc1, hs1⟩ (dg d4 (i := 3) rfl) (fun r I1 L1 R1 H1 locs1 hq hW hS => ?_)
  obtain ⟨rfl, rfl, rfl, rfl⟩ := hq
  refine lv_iload hx hb (dg d4 (i := 4) rfl) (lv_at hl 1 rfl) ?_
  refine lv_icmp_eq (tgt := 893) hx hb (dg d4 (i := 5) rfl) (by decide) (fun _ => ?_) (fun h => absurd rfl h)
  refine lv_iload hx hb (dg d4 (i := 8) rfl) (lv_at hl 1 rfl) ?_
  refine lv_if_ne (tgt := 930) hx hb (dg d4 (i := 9) rfl) (by decide) (fun _ => kk2 _ _ hW hS) (fun h => ?_)
  have e9 := e2 (h.trans nI_0.symm)
  refine lv_aload hx hb (dg d4 (i := 10) rfl) (lv_at hl 6 rfl) ?_
  refine n_iconst (a := 0) hx hb (dg d4 (i := 11) rfl) rfl ?_
  refine r_dald (k := 87) (j := 0) X9 hW (n := 1) rfl (by decide) rfl (by decide) (by decide) e9 (dg d4 (i := 12) rfl) ?_
  refine lv_dload hx hb (dg d4 (i := 13) rfl) (lv_at hl 0 rfl) ?_
  refine lv_dcmp hx hb (dg d4 (i := 14) rfl) ?_
  refine lv_if_eq (tgt := 930) hx hb (dg d4 (i := 15) rfl) (by decide) (fun _ => kk2 _ _ hW hS) (fun h9 => ?_)
  refine lv_aload hx hb (dg d4 (i := 16) rfl) (lv_at hl 6 rfl) ?_
  refine n_iconst (a := 0) hx hb (dg d4 (i := 17) rfl) rfl ?_
  refine r_dald (k := 87) (j := 0) X9 hW (n := 1) rfl (by decide) rfl (by decide) (by decide) e9 (dg d4 (i := 18) rfl) ?_
  refine lv_aload hx hb (dg d4 (i := 19) rfl) (lv_at hl 6 rfl) ?_
  refine n_iconst (a := 0) hx hb (dg d4 (i := 20) rfl) rfl ?_
  refine r_dald (k := 87) (j := 0) X9 hW (n := 1) rfl (by decide) rfl (by decide) (by decide) e9 (dg d4 (i := 21) rfl) ?_
  refine lv_dcmp hx hb (dg d4 (i := 22) rfl) ?_
  refine lv_if_eq (tgt := 928) hx hb (dg d4 (i := 23) rfl) (by decide) (fun h => absurd h h9) (fun _ => ?_)
  refine lv_dload hx hb (dg d4 (i := 24) rfl) (lv_at hl 0 rfl) ?_
  refine lv_dload hx hb (dg d4 (i := 25) rfl) (lv_at hl 0 rfl) ?_
  refine lv_dcmp hx hb (dg d4 (i := 26) rfl) ?_
  exact lv_if_ne (tgt := 930) hx hb (dg d4 (i := 27) rfl) (by decide) (fun _ => kk2 _ _ hW hS) (fun h => absurd h h9)
end LD
