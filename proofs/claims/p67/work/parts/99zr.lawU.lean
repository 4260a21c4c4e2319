/-! the law draws its bridge, and loads it -/
/-- the law's own cells ahead of its painters' rows -/
def LwA (I : CI) (σ : Row) : Prop :=
  (I 67 2 = σ 0 ∧ I 67 3 = σ 1 ∧ I 67 4 = σ 2 ∧ I 67 5 = σ 3 ∧ I 67 6 = σ 4 ∧ I 67 7 = σ 5) ∧
  (∀ x, x < nS σ → I 69 x = σ (10 + 5 * x + 0) ∧ I 70 x = σ (10 + 5 * x + 1) ∧ I 71 x = σ (10 + 5 * x + 2) ∧ I 72 x = σ (10 + 5 * x + 3) ∧ I 73 x = σ (10 + 5 * x + 4)) ∧
  (∀ g, g < nG σ → I 74 g = σ (70 + 2 * g + 0)) ∧ ∀ y, y < Yn σ → I 76 y = σ (80 + y)
section LA1
variable {d : Nat → Nat → Nat} {σ : Row} {I I1 I2 : CI}
theorem STx_hi {a j : Nat} (h : 67 ≤ a) : STx a j = false := by
  unfold STx
  rw [show (a == 29) = false from beq_false_of_ne (by omega), show (a == 30) = false from beq_false_of_ne (by omega)]
  rfl
theorem SLo_hi {γ u a j : Nat} (hγ : isBr γ) (hu : isPl u) (h : 67 ≤ a) : SLo γ u a j = false := by
  unfold SLo SLe SRD SHk
  rw [STx_hi h, show (a == 0) = false from beq_false_of_ne (by omega), decide_eq_false (show ¬ (61 ≤ a ∧ a ≤ 66) by omega), decide_eq_false (show ¬ (9 ≤ a ∧ a ≤ 26) by omega), decide_eq_false (show ¬ (γ ≤ a ∧ a ≤ γ + 10) by rcases hγ with rfl | rfl <;> omega), decide_eq_false (show ¬ (u + 1 ≤ a ∧ a ≤ u + 3) by rcases hu with rfl | rfl <;> omega)]
  rfl
theorem Pst.cn (hd : ∀ j m, 0 < m → d j m < m) (h : Pst d (1 + d 3 3) (1 + d 4 5) (1 + d 5 2) (2 + d 0 5) σ) : Yn σ = 2 + d 0 5 ∧ nS σ = 1 + d 4 5 ∧ nG σ = 1 + d 5 2 := by
  have y0 := hd 0 5 (by decide); have y3 := hd 3 3 (by decide); have y4 := hd 4 5 (by decide); have y5 := hd 5 2 (by decide)
  obtain ⟨a1, a2, a3, -, -, -⟩ := h.n (by omega) (by omega) (by omega)
  exact ⟨by show (σ 0).toNatClampNeg = _; rw [h.1.1]; exact nI_clamp (by omega), a2, a3⟩
theorem Pst.pos (hd : ∀ j m, 0 < m → d j m < m) (h : Pst d (1 + d 3 3) (1 + d 4 5) (1 + d 5 2) (2 + d 0 5) σ) : 1 ≤ nS σ ∧ 1 ≤ nG σ ∧ 6 + 5 * (1 + d 4 5) + 2 * (1 + d 5 2) + (2 + d 0 5) ≤ 100 := by
  have y0 := hd 0 5 (by decide); have y4 := hd 4 5 (by decide); have y5 := hd 5 2 (by decide)
  obtain ⟨a1, a2, a3⟩ := h.cn hd
  exact ⟨by omega, by omega, by omega⟩
theorem Pst.pc0 {k1 k2 k3 k4 : Nat} (h : Pst d k1 k2 k3 k4 σ) : pcN σ = 0 := by
  unfold pcN
  refine cntB_zero (a := 0) (b := 144) (by decide) (fun z _ hz => ?_)
  have e := h.2.2.2.2.2 (z % 12) (z / 12) (by omega) (by omega)
  unfold cpB
  rw [show 104 + z = 104 + 12 * (z / 12) + z % 12 by omega, e]
  decide
theorem LwA.of (hd : ∀ j m, 0 < m → d j m < m) (h : Pst d (1 + d 3 3) (1 + d 4 5) (1 + d 5 2) (2 + d 0 5) σ) (g0 : ∀ a j, 67 ≤ a → I2 a j = I1 a j) (hf : I1 67 2 = nI (2 + d 0 5) ∧ I1 67 3 = nI (1 + d 1 3) ∧ I1 67 4 = nI (d 2 3) ∧ I1 67 5 = nI (1 + d 3 3) ∧ I1 67 6 = nI (1 + d 4 5) ∧ I1 67 7 = nI (1 + d 5 2))
    (r69 : rowP I1 69 (1 + d 4 5) (fun x => nI (d (6 + 5 * x) (1 + d 3 3 + 1)) - nI 1)) (r70 : rowP I1 70 (1 + d 4 5) (fun x => nI (1 + d (6 + 5 * x + 1) 30))) (r71 : rowP I1 71 (1 + d 4 5) (fun x => nI (d (6 + 5 * x + 2) 60))) (r72 : rowP I1 72 (1 + d 4 5) (fun x => nI (1 + d (6 + 5 * x + 3) 20))) (r73 : rowP I1 73 (1 + d 4 5) (fun x => nI (30 + d (6 + 5 * x + 4) 60)))
    (r74 : rowP I1 74 (1 + d 5 2) (fun x => nI (1 + d (6 + 5 * (1 + d 4 5) + 2 * x) 8))) (r76 : rowP I1 76 (2 + d 0 5) (fun x => nI (d (6 + 5 * (1 + d 4 5) + 2 * (1 + d 5 2) + x) 30))) : LwA I2 σ := by
  obtain ⟨eY, eS, eG⟩ := h.cn hd
  obtain ⟨⟨a1, a2, a3, a4, a5, a6⟩, s1, g1, y1, -, -⟩ := h
  obtain ⟨f2, f3, f4, f5, f6, f7⟩ := hf
  refine ⟨⟨?_, ?_, ?_, ?_, ?_, ?_⟩, fun x hx => ⟨?_, ?_, ?_, ?_, ?_⟩, fun g hg => ?_, fun y hy => ?_⟩
  · rw [g0 _ _ (by decide), f2, a1]
  · rw [g0 _ _ (by decide), f3, a2]
  · rw [g0 _ _ (by decide), f4, a3]
  · rw [g0 _ _ (by decide), f5, a4]
  · rw [g0 _ _ (by decide), f6, a5]
  · rw [g0 _ _ (by decide), f7, a6]
  · rw [g0 _ _ (by decide), (s1 x (by omega)).1]; exact r69 x (by omega)
  · rw [g0 _ _ (by decide), (s1 x (by omega)).2.1]; exact r70 x (by omega)
  · rw [g0 _ _ (by decide), (s1 x (by omega)).2.2.1]; exact r71 x (by omega)
  · rw [g0 _ _ (by decide), (s1 x (by omega)).2.2.2.1]; exact r72 x (by omega)
  · rw [g0 _ _ (by decide), (s1 x (by omega)).2.2.2.2]; exact r73 x (by omega)
  · rw [g0 _ _ (by decide), g1 g (by omega)]; exact r74 g (by omega)
  · rw [g0 _ _ (by decide), y1 y (by omega)]; exact r76 y (by omega)
end LA1
section LB1
variable {p : Program} {l : Launch} {e : Env} {Rm : Room} {s : State} {m : MethodId} {args : Array Value} {below : List Frame} {meth : Method} {c : Code} {H : Heap} {locs : List Loc} {Q : State → Prop}
variable {ls : Array Slot} {G : va_G} {bs : Nat} {cy : Nat → ClassId} {I : CI} {L : CL} {R : CR} {b c0 s0 : Nat}
set_option maxHeartbeats 4000000 in
set_option maxRecDepth 100000 in
/-- the law draws its bridge and loads it -/
theorem law_P1 (X : Cx p s m args c cL_law 9 RL G bs cy) (hA : AOK bs s.heap.size (Ar bs s.heap.size)) (hR : RmL Rm) (hl0 : l.stackTraces = false) (hc : c0 + 466 ≤ Rm.cells) (hs : s0 + 212000 ≤ Rm.slots) (ρ : Row) (b0 : Nat → Int32) {β γ q u : Nat} (hγ : isBr γ) (hu : isPl u) (hR7 : R 0 7 = β) (hR8 : R 0 8 = q) (hR9 : R 0 9 = γ) (hR10 : R 0 10 = u) (hR67 : R 67 0 = cy 70) (hat : I 67 1 = nI 0) (hb0 : TxAt I 0 b0) (hW : Wd G bs cy I L R H) (hT : TW G cy bs s H [] []) (hS : va_S (Ar bs s.heap.size) s.heap H locs) (hl : lv_has ls 9 [(2, .ref (bs + 0)), (1, .ref (ad bs 67)), (0, .ref b)])
    (kk : ∀ (σ : Row) (I2 : CI) (L2 : CL) (R2 : CR) (H : Heap) (locs : List Loc) (ls : Array Slot), Inv σ → DR σ → LwB σ → LwA I2 σ → pcN σ = 0 → (∀ x y, x < 12 → y < 12 → pnt σ x y = -1) → BrAt I2 γ σ → PlAt I2 u σ → I2 9 1 = I 9 1 → I2 9 2 = nI 0 → R2 0 7 = γ → R2 0 8 = u → R2 u 0 = γ → R2 67 0 = cy 70 → I2 67 1 = nI (6 + 5 * (1 + drw cy 4 5) + 2 * (1 + drw cy 5 2) + (2 + drw cy 0 5)) → (1 ≤ nS σ ∧ 1 ≤ nG σ ∧ 6 + 5 * (1 + drw cy 4 5) + 2 * (1 + drw cy 5 2) + (2 + drw cy 0 5) ≤ 100) → Wd G bs cy I2 L2 R2 H → TW G cy bs s H [] [] → va_S (Ar bs s.heap.size) s.heap H locs → lv_has ls 9 [(2, .ref (bs + 0)), (1, .ref (ad bs 67)), (0, .ref b)] → W p l e Rm s m args below meth c H locs (c0 + 466 + 0) (s0 + 212000 + 0) Q (F0 m 52 ls [])) : W p l e Rm s m args below meth c H locs (c0) (s0) Q (F0 m 21 ls []) := by
  have hx := X.1
  have hb := X.2.1
  have hd : ∀ j m, 0 < m → drw cy j m < m := fun j m h => amN_lt h
  refine lv_aload_n hx hb (dg D_L_law (i := 11) rfl) rfl (lv_at hl 0 rfl) ?_
  refine lv_aload_n hx hb (dg D_L_law (i := 12) rfl) rfl (lv_at hl 1 rfl) ?_
  refine kA_r X hA hW hT hS hR (c_L_bridge hR67 hat) (by decide) (by decide) UVL_bridge LK_L_140 rfl rfl (Nat.le_of_ble_eq_true rfl) hl ⟨by omega, by omega⟩ (dg D_L_law (i := 13) rfl) (fun ⟨a, w, tx⟩ I1 L1 R1 H locs hq hxc hW hT hS => ?_)
  obtain ⟨htx, hF1, hat1, f2, f3, f4, f5, f6, f7, r69, r70, r71, r72, r73, r74, r75, r76, eL, eR⟩ := hq
  have htx : tx = brT (drw cy) := htx
  have hlx : tx.length ≤ 300 := hxc.2.2.2.1
  rw [eL, eR] at hW
  obtain ⟨σ, nm, pz, hp, hP⟩ := brT_prs hd ρ
  rw [← htx] at hp
  have hb1 : TxAt I1 0 b0 := ⟨(hF1 29 1 rfl).trans hb0.1, rowP.zero⟩
  refine kX_i X hA hW hT hS hR (x := (a, w, tx)) List.mem_cons_self (c_L_load a w tx b0 ρ β γ q u hb1 hlx hγ hu hR7 hR8 hR9 hR10) (by decide) (by decide) USL_load LK_L_143 rfl rfl (Nat.le_of_ble_eq_true rfl) hl ⟨by omega, by omega⟩ (dg D_L_law (i := 14) rfl) (fun r I2 L2 R2 H locs hq hW hT hS => ?_)
  obtain ⟨I0, hF2, hq1, hF3, hek, hep, hTx2, hok, -, -⟩ := hq
  have hp9 : okP (prs (chB tx) tx.length ρ) = true := by rw [hp]; rfl
  have hr9 : rOf (prs (chB tx) tx.length ρ) = σ := by rw [hp]; rfl
  have hk9 : eKd (prs (chB tx) tx.length ρ) = nI 0 := by rw [hp]; rfl
  obtain ⟨hB, hPl, h92, h91, eR2⟩ := hok hp9
  obtain ⟨hi, hdr⟩ := prs_ok hp9
  rw [hr9] at hB hPl hi hdr
  rw [if_pos hp9, hr9] at hq1
  subst hq1
  rw [hk9] at hek
  have hu0 : ¬ u = 0 := by rcases hu with rfl | rfl <;> decide
  have hu1 : ¬ 67 = u := by rcases hu with rfl | rfl <;> decide
  have g0 : ∀ a j, 67 ≤ a → I2 a j = I1 a j := fun a j h => (hF3 a j (SLo_hi hγ hu h)).trans (hF2 a j (STx_hi h))
  have hLB : LwB σ := hP.LwB hd
  have hLA : LwA I2 σ := LwA.of hd hP g0 ⟨f2, f3, f4, f5, f6, f7⟩ r69 r70 r71 r72 r73 r74 r76
  have hpc : pcN σ = 0 := hP.pc0
  have hRb : R2 u 0 = γ := by rw [eR2, u2R_ne (by omega), u2R_ne (by omega), u2R_ne (by omega), u2R_ne (by omega), u2R_at]
  have hR7 : R2 0 7 = γ := by rw [eR2, u2R_off (Or.inr (by decide)), u2R_at]
  have hR8 : R2 0 8 = u := by rw [eR2, u2R_off (Or.inr (by decide)), u2R_off (Or.inr (by decide)), u2R_off (Or.inr (by decide)), u2R_at]
  have hR6 : R2 67 0 = cy 70 := by rw [eR2, u2R_ne (by decide), u2R_ne (by decide), u2R_ne (by decide), u2R_ne (by decide), u2R_ne (by omega), u2R_ne (by decide), u2R_ne (by decide)]; exact hR67
  have hsp : I2 67 6 = nI (nS σ) := hLA.1.2.2.2.2.1.trans hi.2.2.2.2.2.1
  refine lv_aload_n hx hb (dg D_L_law (i := 15) rfl) rfl (lv_at hl 1 rfl) ?_
  refine rL_get (v := .int (nI (nS σ))) X hW FI_L_93 (congrArg (fun z => some (Value.int z)) hsp) (dg D_L_law (i := 16) rfl) ?_
  refine lv_icmp_ne (tgt := 50) hx hb (dg D_L_law (i := 17) rfl) (by decide) (fun h => absurd rfl h) (fun _ => ?_)
  refine lv_aload_n hx hb (dg D_L_law (i := 18) rfl) rfl (lv_at hl 0 rfl) ?_
  refine kC_i X hA hW hT hS hR (k := 0) (c_X11_errorKind (nI 0) hek) (by decide) (by decide) UVX11_errorKind LK_L_146 rfl (by decide) rfl rfl rfl (Nat.le_of_ble_eq_true rfl) hl ⟨by omega, by omega⟩ (dg D_L_law (i := 19) rfl) (fun r I9 L9 R9 H locs hq hW hT hS => ?_)
  obtain ⟨rfl, rfl, rfl, rfl⟩ := hq
  refine n_if_ne (tgt := 50) hx hb (by omega) (dg D_L_law (i := 20) rfl) (by decide) (fun h => absurd rfl h) (fun _ => ?_)
  refine lv_aload_n hx hb (dg D_L_law (i := 21) rfl) rfl (lv_at hl 0 rfl) ?_
  refine kC_i X hA hW hT hS hR (k := 0) (c_X11_paintings σ γ u hl0 hi hdr hγ hB hu hPl hRb hR7 hR8) (by decide) (by decide) UVX11_paintings LK_L_149 rfl (by decide) rfl rfl rfl (Nat.le_of_ble_eq_true rfl) hl ⟨by omega, by omega⟩ (dg D_L_law (i := 22) rfl) (fun r I9 L9 R9 H locs hq hW hT hS => ?_)
  obtain ⟨hr, rfl, rfl, rfl⟩ := hq
  rw [pc_sum hdr hi, hpc] at hr
  subst hr
  refine n_if_eq (tgt := 52) hx hb (by omega) (dg D_L_law (i := 23) rfl) (by decide) (fun _ => ?_) (fun h => absurd rfl h)
  exact kk σ I2 L2 R2 H locs ls hi hdr hLB hLA hpc (fun x y hx hy => by unfold pnt; rw [hP.2.2.2.2.2 x y hx hy]; decide) hB hPl (h91.trans ((hF2 9 1 rfl).trans (hF1 9 1 rfl))) h92 hR7 hR8 hRb hR6 (by rw [← hat1]; exact g0 67 1 (by decide)) (hP.pos hd) hW (TW.nil hS.1) hS hl
end LB1
